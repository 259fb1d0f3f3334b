def mL_law : mx_M := (yL_law, cL_law, 4, some .boolean)
theorem s_callL {l : Launch} {M M' : mx_M} {Z : mx_G → List Frame → Array Value → State → State → Prop} {idx k ci pc : Nat} {L st : List Value} {h : mx_H} {refs : List (Option Nat)} {q : vw_C} {As S : List Value} (hd : decode M.2.1 pc = .ok (.invokevirtual idx, 3)) (hw : Cond.methodLink M.1.cls idx M'.1 ∈ mx_g) (hM : mx_okV M' As.length) (hk : h.1[k]? = some (.inr (ci, refs))) (hcl : vwCl[ci]? = some q) (hq : M'.1.cls = q.1)
    (hst : (st.map fun v => v.category).sum ≤ 8) (hm : M'.2.2.1 ≤ 45) (hS : As.reverse ++ .ref k :: st = S) (K : mx_K1 l M' 100 (.ref k :: As) h (fun r h' => mx_Go l room_1 M Z 132 13954 (pc + 3) L (r.toList ++ st) h')) : mx_Go l room_1 M Z 132 13954 pc L S h := by
  subst hS
  obtain ⟨Q', S, K⟩ := K
  exact g_callV (R := room_1) S hd hw hM hk hcl hq hst (by decide) (by show _ ≤ 84000; omega) (by decide) (by decide) K
set_option maxRecDepth 10000 in
set_option maxHeartbeats 4000000 in
theorem sg_law_18 {l : Launch} {Z : mx_G → List Frame → Array Value → State → State → Prop} {L0 : Nat} {xs : Nat → Int32} {c : Nat} {I : mx_I} (x1 : Int32)
    (e1 : (((Int32.ofNat L0) - 7) < x1) → mx_Go l room_1 mL_law (mx_S L0 xs Z) 132 13954 1284 [.ref 1000, .ref 0, .ref 120, .int x1] [.int 1] (sk0 c, I))
    (b2 : (¬ ((Int32.ofNat L0) - 7) < x1) → vp_in x1 L0)
    (b3 : (¬ ((Int32.ofNat L0) - 7) < x1) → (((xs x1.toNatClampNeg) &&& 31) = 0) → vp_in (x1 + 1) L0)
    (k4 : (¬ ((Int32.ofNat L0) - 7) < x1) → (((xs x1.toNatClampNeg) &&& 31) = 0) → mx_K1 l mX11_bridges 100 [.ref 0, .int (xs (x1 + 1).toNatClampNeg)] (sk0 c, I) (fun r h' => mx_Go l room_1 mL_law (mx_S L0 xs Z) 132 13954 169 [.ref 1000, .ref 0, .ref 120, .int x1] (r.toList ++ []) h'))
    (b5 : (¬ ((Int32.ofNat L0) - 7) < x1) → (((xs x1.toNatClampNeg) &&& 31) = 1) → vp_in (x1 + 1) L0)
    (b6 : (¬ ((Int32.ofNat L0) - 7) < x1) → (((xs x1.toNatClampNeg) &&& 31) = 1) → vp_in (x1 + 2) L0)
    (b7 : (¬ ((Int32.ofNat L0) - 7) < x1) → (((xs x1.toNatClampNeg) &&& 31) = 1) → vp_in (x1 + 3) L0)
    (k8 : (¬ ((Int32.ofNat L0) - 7) < x1) → (((xs x1.toNatClampNeg) &&& 31) = 1) → mx_K1 l mX11_load 100 [.ref 0, .int (xs (x1 + 1).toNatClampNeg), .int (xs (x1 + 2).toNatClampNeg), .int (xs (x1 + 3).toNatClampNeg)] (sk0 c, I) (fun r h' => mx_Go l room_1 mL_law (mx_S L0 xs Z) 132 13954 202 [.ref 1000, .ref 0, .ref 120, .int x1] (r.toList ++ []) h'))
    (b9 : (¬ ((Int32.ofNat L0) - 7) < x1) → (((xs x1.toNatClampNeg) &&& 31) = 2) → vp_in (x1 + 1) L0)
    (b10 : (¬ ((Int32.ofNat L0) - 7) < x1) → (((xs x1.toNatClampNeg) &&& 31) = 2) → vp_in (x1 + 2) L0)
    (b11 : (¬ ((Int32.ofNat L0) - 7) < x1) → (((xs x1.toNatClampNeg) &&& 31) = 2) → vp_in (x1 + 3) L0)
    (k12 : (¬ ((Int32.ofNat L0) - 7) < x1) → (((xs x1.toNatClampNeg) &&& 31) = 2) → mx_K1 l mX11_fetch 100 [.ref 0, .int (xs (x1 + 1).toNatClampNeg), .int (xs (x1 + 2).toNatClampNeg), .int (xs (x1 + 3).toNatClampNeg)] (sk0 c, I) (fun r h' => mx_Go l room_1 mL_law (mx_S L0 xs Z) 132 13954 245 [.ref 1000, .ref 0, .ref 120, .int x1] (r.toList ++ []) h'))
    (b13 : (¬ ((Int32.ofNat L0) - 7) < x1) → (((xs x1.toNatClampNeg) &&& 31) = 3) → vp_in (x1 + 1) L0)
    (b14 : (¬ ((Int32.ofNat L0) - 7) < x1) → (((xs x1.toNatClampNeg) &&& 31) = 3) → vp_in (x1 + 2) L0)
    (b15 : (¬ ((Int32.ofNat L0) - 7) < x1) → (((xs x1.toNatClampNeg) &&& 31) = 3) → vp_in (x1 + 3) L0)
    (b16 : (¬ ((Int32.ofNat L0) - 7) < x1) → (((xs x1.toNatClampNeg) &&& 31) = 3) → vp_in (x1 + 4) L0)
    (b17 : (¬ ((Int32.ofNat L0) - 7) < x1) → (((xs x1.toNatClampNeg) &&& 31) = 3) → vp_in (x1 + 5) L0)
    (b18 : (¬ ((Int32.ofNat L0) - 7) < x1) → (((xs x1.toNatClampNeg) &&& 31) = 3) → vp_in (x1 + 6) L0)
    (k19 : (¬ ((Int32.ofNat L0) - 7) < x1) → (((xs x1.toNatClampNeg) &&& 31) = 3) → mx_K1 l mX11_crosser 100 [.ref 0, .int (xs (x1 + 1).toNatClampNeg), .int (xs (x1 + 2).toNatClampNeg), .int (xs (x1 + 3).toNatClampNeg), .int (xs (x1 + 4).toNatClampNeg), .int (xs (x1 + 5).toNatClampNeg), .int (xs (x1 + 6).toNatClampNeg)] (sk0 c, I) (fun r h' => mx_Go l room_1 mL_law (mx_S L0 xs Z) 132 13954 304 [.ref 1000, .ref 0, .ref 120, .int x1] (r.toList ++ []) h'))
    (b20 : (¬ ((Int32.ofNat L0) - 7) < x1) → (((xs x1.toNatClampNeg) &&& 31) = 4) → vp_in (x1 + 1) L0)
    (b21 : (¬ ((Int32.ofNat L0) - 7) < x1) → (((xs x1.toNatClampNeg) &&& 31) = 4) → vp_in (x1 + 2) L0)
    (b22 : (¬ ((Int32.ofNat L0) - 7) < x1) → (((xs x1.toNatClampNeg) &&& 31) = 4) → vp_in (x1 + 3) L0)
    (k23 : (¬ ((Int32.ofNat L0) - 7) < x1) → (((xs x1.toNatClampNeg) &&& 31) = 4) → mx_K1 l mX11_kind 100 [.ref 0, .int (xs (x1 + 1).toNatClampNeg), .int (xs (x1 + 2).toNatClampNeg), .int (xs (x1 + 3).toNatClampNeg)] (sk0 c, I) (fun r h' => mx_Go l room_1 mL_law (mx_S L0 xs Z) 132 13954 363 [.ref 1000, .ref 0, .ref 120, .int x1] (r.toList ++ []) h'))
    (b24 : (¬ ((Int32.ofNat L0) - 7) < x1) → (((xs x1.toNatClampNeg) &&& 31) = 5) → vp_in (x1 + 1) L0)
    (b25 : (¬ ((Int32.ofNat L0) - 7) < x1) → (((xs x1.toNatClampNeg) &&& 31) = 5) → vp_in (x1 + 2) L0)
    (b26 : (¬ ((Int32.ofNat L0) - 7) < x1) → (((xs x1.toNatClampNeg) &&& 31) = 5) → vp_in (x1 + 3) L0)
    (k27 : (¬ ((Int32.ofNat L0) - 7) < x1) → (((xs x1.toNatClampNeg) &&& 31) = 5) → mx_K1 l mX11_set 100 [.ref 0, .int (xs (x1 + 1).toNatClampNeg), .int (xs (x1 + 2).toNatClampNeg), .int (xs (x1 + 3).toNatClampNeg)] (sk0 c, I) (fun r h' => mx_Go l room_1 mL_law (mx_S L0 xs Z) 132 13954 406 [.ref 1000, .ref 0, .ref 120, .int x1] (r.toList ++ []) h'))
    (b28 : (¬ ((Int32.ofNat L0) - 7) < x1) → (((xs x1.toNatClampNeg) &&& 31) = 6) → vp_in (x1 + 1) L0)
    (b29 : (¬ ((Int32.ofNat L0) - 7) < x1) → (((xs x1.toNatClampNeg) &&& 31) = 6) → vp_in (x1 + 2) L0)
    (b30 : (¬ ((Int32.ofNat L0) - 7) < x1) → (((xs x1.toNatClampNeg) &&& 31) = 6) → vp_in (x1 + 3) L0)
    (b31 : (¬ ((Int32.ofNat L0) - 7) < x1) → (((xs x1.toNatClampNeg) &&& 31) = 6) → vp_in (x1 + 4) L0)
    (b32 : (¬ ((Int32.ofNat L0) - 7) < x1) → (((xs x1.toNatClampNeg) &&& 31) = 6) → vp_in (x1 + 5) L0)
    (k33 : (¬ ((Int32.ofNat L0) - 7) < x1) → (((xs x1.toNatClampNeg) &&& 31) = 6) → mx_K1 l mX11_feed 100 [.ref 0, .int (xs (x1 + 1).toNatClampNeg), .int (xs (x1 + 2).toNatClampNeg), .int (xs (x1 + 3).toNatClampNeg), .int (xs (x1 + 4).toNatClampNeg), .int (xs (x1 + 5).toNatClampNeg)] (sk0 c, I) (fun r h' => mx_Go l room_1 mL_law (mx_S L0 xs Z) 132 13954 459 [.ref 1000, .ref 0, .ref 120, .int x1] (r.toList ++ []) h'))
    (b34 : (¬ ((Int32.ofNat L0) - 7) < x1) → (((xs x1.toNatClampNeg) &&& 31) = 7) → vp_in (x1 + 1) L0)
    (k35 : (¬ ((Int32.ofNat L0) - 7) < x1) → (((xs x1.toNatClampNeg) &&& 31) = 7) → mx_K1 l mX11_end 100 [.ref 0, .int (xs (x1 + 1).toNatClampNeg)] (sk0 c, I) (fun r h' => mx_Go l room_1 mL_law (mx_S L0 xs Z) 132 13954 502 [.ref 1000, .ref 0, .ref 120, .int x1] (r.toList ++ []) h'))
    (k36 : (¬ ((Int32.ofNat L0) - 7) < x1) → (((xs x1.toNatClampNeg) &&& 31) = 8) → mx_K1 l mX11_text 100 [.ref 0] (sk0 c, I) (fun r h' => mx_Go l room_1 mL_law (mx_S L0 xs Z) 132 13954 520 [.ref 1000, .ref 0, .ref 120, .int x1] (r.toList ++ []) h'))
    (b37 : (¬ ((Int32.ofNat L0) - 7) < x1) → (((xs x1.toNatClampNeg) &&& 31) = 9) → vp_in (x1 + 1) L0)
    (k38 : (¬ ((Int32.ofNat L0) - 7) < x1) → (((xs x1.toNatClampNeg) &&& 31) = 9) → mx_K1 l mX11_fault 100 [.ref 0, .int (xs (x1 + 1).toNatClampNeg)] (sk0 c, I) (fun r h' => mx_Go l room_1 mL_law (mx_S L0 xs Z) 132 13954 538 [.ref 1000, .ref 0, .ref 120, .int x1] (r.toList ++ []) h'))
    (b39 : (¬ ((Int32.ofNat L0) - 7) < x1) → (((xs x1.toNatClampNeg) &&& 31) = 10) → vp_in (x1 + 1) L0)
    (k40 : (¬ ((Int32.ofNat L0) - 7) < x1) → (((xs x1.toNatClampNeg) &&& 31) = 10) → mx_K1 l mX11_hours 100 [.ref 0, .int (xs (x1 + 1).toNatClampNeg)] (sk0 c, I) (fun r h' => mx_Go l room_1 mL_law (mx_S L0 xs Z) 132 13954 561 [.ref 1000, .ref 0, .ref 120, .int x1] (r.toList ++ []) h'))
    (b41 : (¬ ((Int32.ofNat L0) - 7) < x1) → (((xs x1.toNatClampNeg) &&& 31) = 11) → vp_in (x1 + 1) L0)
    (b42 : (¬ ((Int32.ofNat L0) - 7) < x1) → (((xs x1.toNatClampNeg) &&& 31) = 11) → vp_in (x1 + 2) L0)
    (k43 : (¬ ((Int32.ofNat L0) - 7) < x1) → (((xs x1.toNatClampNeg) &&& 31) = 11) → mx_K1 l mX11_of 100 [.ref 0, .int (xs (x1 + 1).toNatClampNeg), .int (xs (x1 + 2).toNatClampNeg)] (sk0 c, I) (fun r h' => mx_Go l room_1 mL_law (mx_S L0 xs Z) 132 13954 589 [.ref 1000, .ref 0, .ref 120, .int x1] (r.toList ++ []) h'))
    (b44 : (¬ ((Int32.ofNat L0) - 7) < x1) → (((xs x1.toNatClampNeg) &&& 31) = 12) → vp_in (x1 + 1) L0)
    (b45 : (¬ ((Int32.ofNat L0) - 7) < x1) → (((xs x1.toNatClampNeg) &&& 31) = 12) → vp_in (x1 + 2) L0)
    (k46 : (¬ ((Int32.ofNat L0) - 7) < x1) → (((xs x1.toNatClampNeg) &&& 31) = 12) → mx_K1 l mX11_who 100 [.ref 0, .int (xs (x1 + 1).toNatClampNeg), .int (xs (x1 + 2).toNatClampNeg)] (sk0 c, I) (fun r h' => mx_Go l room_1 mL_law (mx_S L0 xs Z) 132 13954 622 [.ref 1000, .ref 0, .ref 120, .int x1] (r.toList ++ []) h'))
    (b47 : (¬ ((Int32.ofNat L0) - 7) < x1) → (((xs x1.toNatClampNeg) &&& 31) = 13) → vp_in (x1 + 1) L0)
    (b48 : (¬ ((Int32.ofNat L0) - 7) < x1) → (((xs x1.toNatClampNeg) &&& 31) = 13) → vp_in (x1 + 2) L0)
    (k49 : (¬ ((Int32.ofNat L0) - 7) < x1) → (((xs x1.toNatClampNeg) &&& 31) = 13) → mx_K1 l mX11_waits 100 [.ref 0, .int (xs (x1 + 1).toNatClampNeg), .int (xs (x1 + 2).toNatClampNeg)] (sk0 c, I) (fun r h' => mx_Go l room_1 mL_law (mx_S L0 xs Z) 132 13954 655 [.ref 1000, .ref 0, .ref 120, .int x1] (r.toList ++ []) h'))
    (b50 : (¬ ((Int32.ofNat L0) - 7) < x1) → (((xs x1.toNatClampNeg) &&& 31) = 14) → vp_in (x1 + 1) L0)
    (b51 : (¬ ((Int32.ofNat L0) - 7) < x1) → (((xs x1.toNatClampNeg) &&& 31) = 14) → vp_in (x1 + 2) L0)
    (k52 : (¬ ((Int32.ofNat L0) - 7) < x1) → (((xs x1.toNatClampNeg) &&& 31) = 14) → mx_K1 l mX11_book 100 [.ref 0, .int (xs (x1 + 1).toNatClampNeg), .int (xs (x1 + 2).toNatClampNeg)] (sk0 c, I) (fun r h' => mx_Go l room_1 mL_law (mx_S L0 xs Z) 132 13954 688 [.ref 1000, .ref 0, .ref 120, .int x1] (r.toList ++ []) h'))
    (b53 : (¬ ((Int32.ofNat L0) - 7) < x1) → (((xs x1.toNatClampNeg) &&& 31) = 15) → vp_in (x1 + 1) L0)
    (b54 : (¬ ((Int32.ofNat L0) - 7) < x1) → (((xs x1.toNatClampNeg) &&& 31) = 15) → vp_in (x1 + 2) L0)
    (k55 : (¬ ((Int32.ofNat L0) - 7) < x1) → (((xs x1.toNatClampNeg) &&& 31) = 15) → mx_K1 l mX11_over 100 [.ref 0, .int (xs (x1 + 1).toNatClampNeg), .int (xs (x1 + 2).toNatClampNeg)] (sk0 c, I) (fun r h' => mx_Go l room_1 mL_law (mx_S L0 xs Z) 132 13954 721 [.ref 1000, .ref 0, .ref 120, .int x1] (r.toList ++ []) h'))
    (b56 : (¬ ((Int32.ofNat L0) - 7) < x1) → (((xs x1.toNatClampNeg) &&& 31) = 16) → vp_in (x1 + 1) L0)
    (k57 : (¬ ((Int32.ofNat L0) - 7) < x1) → (((xs x1.toNatClampNeg) &&& 31) = 16) → mx_K1 l mX11_back 100 [.ref 0, .int (xs (x1 + 1).toNatClampNeg)] (sk0 c, I) (fun r h' => mx_Go l room_1 mL_law (mx_S L0 xs Z) 132 13954 749 [.ref 1000, .ref 0, .ref 120, .int x1] (r.toList ++ []) h'))
    (b58 : (¬ ((Int32.ofNat L0) - 7) < x1) → (((xs x1.toNatClampNeg) &&& 31) = 17) → vp_in (x1 + 1) L0)
    (b59 : (¬ ((Int32.ofNat L0) - 7) < x1) → (((xs x1.toNatClampNeg) &&& 31) = 17) → vp_in (x1 + 2) L0)
    (b60 : (¬ ((Int32.ofNat L0) - 7) < x1) → (((xs x1.toNatClampNeg) &&& 31) = 17) → vp_in (x1 + 3) L0)
    (k61 : (¬ ((Int32.ofNat L0) - 7) < x1) → (((xs x1.toNatClampNeg) &&& 31) = 17) → mx_K1 l mX11_gathers 100 [.ref 0, .int (xs (x1 + 1).toNatClampNeg), .int (xs (x1 + 2).toNatClampNeg), .int (xs (x1 + 3).toNatClampNeg)] (sk0 c, I) (fun r h' => mx_Go l room_1 mL_law (mx_S L0 xs Z) 132 13954 782 [.ref 1000, .ref 0, .ref 120, .int x1] (r.toList ++ []) h'))
    (b62 : (¬ ((Int32.ofNat L0) - 7) < x1) → (((xs x1.toNatClampNeg) &&& 31) = 18) → vp_in (x1 + 1) L0)
    (b63 : (¬ ((Int32.ofNat L0) - 7) < x1) → (((xs x1.toNatClampNeg) &&& 31) = 18) → vp_in (x1 + 2) L0)
    (b64 : (¬ ((Int32.ofNat L0) - 7) < x1) → (((xs x1.toNatClampNeg) &&& 31) = 18) → vp_in (x1 + 3) L0)
    (b65 : (¬ ((Int32.ofNat L0) - 7) < x1) → (((xs x1.toNatClampNeg) &&& 31) = 18) → vp_in (x1 + 4) L0)
    (b66 : (¬ ((Int32.ofNat L0) - 7) < x1) → (((xs x1.toNatClampNeg) &&& 31) = 18) → vp_in (x1 + 5) L0)
    (b67 : (¬ ((Int32.ofNat L0) - 7) < x1) → (((xs x1.toNatClampNeg) &&& 31) = 18) → vp_in (x1 + 6) L0)
    (k68 : (¬ ((Int32.ofNat L0) - 7) < x1) → (((xs x1.toNatClampNeg) &&& 31) = 18) → mx_K1 l mX11_best 100 [.ref 0, .int (xs (x1 + 1).toNatClampNeg), .int (xs (x1 + 2).toNatClampNeg), .int (xs (x1 + 3).toNatClampNeg), .int (xs (x1 + 4).toNatClampNeg), .int (xs (x1 + 5).toNatClampNeg), .int (xs (x1 + 6).toNatClampNeg)] (sk0 c, I) (fun r h' => mx_Go l room_1 mL_law (mx_S L0 xs Z) 132 13954 841 [.ref 1000, .ref 0, .ref 120, .int x1] (r.toList ++ []) h'))
    (b69 : (¬ ((Int32.ofNat L0) - 7) < x1) → (((xs x1.toNatClampNeg) &&& 31) = 19) → vp_in (x1 + 1) L0)
    (b70 : (¬ ((Int32.ofNat L0) - 7) < x1) → (((xs x1.toNatClampNeg) &&& 31) = 19) → vp_in (x1 + 2) L0)
    (b71 : (¬ ((Int32.ofNat L0) - 7) < x1) → (((xs x1.toNatClampNeg) &&& 31) = 19) → vp_in (x1 + 3) L0)
    (b72 : (¬ ((Int32.ofNat L0) - 7) < x1) → (((xs x1.toNatClampNeg) &&& 31) = 19) → vp_in (x1 + 4) L0)
    (b73 : (¬ ((Int32.ofNat L0) - 7) < x1) → (((xs x1.toNatClampNeg) &&& 31) = 19) → vp_in (x1 + 5) L0)
    (b74 : (¬ ((Int32.ofNat L0) - 7) < x1) → (((xs x1.toNatClampNeg) &&& 31) = 19) → vp_in (x1 + 6) L0)
    (k75 : (¬ ((Int32.ofNat L0) - 7) < x1) → (((xs x1.toNatClampNeg) &&& 31) = 19) → mx_K1 l mX11_send 100 [.ref 0, .int (xs (x1 + 1).toNatClampNeg), .int (xs (x1 + 2).toNatClampNeg), .int (xs (x1 + 3).toNatClampNeg), .int (xs (x1 + 4).toNatClampNeg), .int (xs (x1 + 5).toNatClampNeg), .int (xs (x1 + 6).toNatClampNeg)] (sk0 c, I) (fun r h' => mx_Go l room_1 mL_law (mx_S L0 xs Z) 132 13954 916 [.ref 1000, .ref 0, .ref 120, .int x1] (r.toList ++ []) h'))
    (b76 : (¬ ((Int32.ofNat L0) - 7) < x1) → (((xs x1.toNatClampNeg) &&& 31) = 20) → vp_in (x1 + 1) L0)
    (b77 : (¬ ((Int32.ofNat L0) - 7) < x1) → (((xs x1.toNatClampNeg) &&& 31) = 20) → vp_in (x1 + 2) L0)
    (b78 : (¬ ((Int32.ofNat L0) - 7) < x1) → (((xs x1.toNatClampNeg) &&& 31) = 20) → vp_in (x1 + 3) L0)
    (b79 : (¬ ((Int32.ofNat L0) - 7) < x1) → (((xs x1.toNatClampNeg) &&& 31) = 20) → vp_in (x1 + 4) L0)
    (b80 : (¬ ((Int32.ofNat L0) - 7) < x1) → (((xs x1.toNatClampNeg) &&& 31) = 20) → vp_in (x1 + 5) L0)
    (k81 : (¬ ((Int32.ofNat L0) - 7) < x1) → (((xs x1.toNatClampNeg) &&& 31) = 20) → mx_K1 l mX11_offer 100 [.ref 0, .int (xs (x1 + 1).toNatClampNeg), .int (xs (x1 + 2).toNatClampNeg), .int (xs (x1 + 3).toNatClampNeg), .int (xs (x1 + 4).toNatClampNeg), .int (xs (x1 + 5).toNatClampNeg)] (sk0 c, I) (fun r h' => mx_Go l room_1 mL_law (mx_S L0 xs Z) 132 13954 985 [.ref 1000, .ref 0, .ref 120, .int x1] (r.toList ++ []) h'))
    (b82 : (¬ ((Int32.ofNat L0) - 7) < x1) → (((xs x1.toNatClampNeg) &&& 31) = 21) → vp_in (x1 + 1) L0)
    (b83 : (¬ ((Int32.ofNat L0) - 7) < x1) → (((xs x1.toNatClampNeg) &&& 31) = 21) → vp_in (x1 + 2) L0)
    (b84 : (¬ ((Int32.ofNat L0) - 7) < x1) → (((xs x1.toNatClampNeg) &&& 31) = 21) → vp_in (x1 + 3) L0)
    (b85 : (¬ ((Int32.ofNat L0) - 7) < x1) → (((xs x1.toNatClampNeg) &&& 31) = 21) → vp_in (x1 + 4) L0)
    (k86 : (¬ ((Int32.ofNat L0) - 7) < x1) → (((xs x1.toNatClampNeg) &&& 31) = 21) → mx_K1 l mX11_fewest 100 [.ref 0, .int (xs (x1 + 1).toNatClampNeg), .int (xs (x1 + 2).toNatClampNeg), .int (xs (x1 + 3).toNatClampNeg), .int (xs (x1 + 4).toNatClampNeg)] (sk0 c, I) (fun r h' => mx_Go l room_1 mL_law (mx_S L0 xs Z) 132 13954 1043 [.ref 1000, .ref 0, .ref 120, .int x1] (r.toList ++ []) h'))
    (b87 : (¬ ((Int32.ofNat L0) - 7) < x1) → (((xs x1.toNatClampNeg) &&& 31) = 22) → vp_in (x1 + 1) L0)
    (k88 : (¬ ((Int32.ofNat L0) - 7) < x1) → (((xs x1.toNatClampNeg) &&& 31) = 22) → mx_K1 l mX11_right 100 [.ref 0, .int (xs (x1 + 1).toNatClampNeg)] (sk0 c, I) (fun r h' => mx_Go l room_1 mL_law (mx_S L0 xs Z) 132 13954 1081 [.ref 1000, .ref 0, .ref 120, .int x1] (r.toList ++ []) h'))
    (b89 : (¬ ((Int32.ofNat L0) - 7) < x1) → (((xs x1.toNatClampNeg) &&& 31) = 23) → vp_in (x1 + 1) L0)
    (b90 : (¬ ((Int32.ofNat L0) - 7) < x1) → (((xs x1.toNatClampNeg) &&& 31) = 23) → vp_in (x1 + 2) L0)
    (b91 : (¬ ((Int32.ofNat L0) - 7) < x1) → (((xs x1.toNatClampNeg) &&& 31) = 23) → vp_in (x1 + 3) L0)
    (k92 : (¬ ((Int32.ofNat L0) - 7) < x1) → (((xs x1.toNatClampNeg) &&& 31) = 23) → mx_K1 l mX11_list 100 [.ref 0, .int (xs (x1 + 1).toNatClampNeg), .int (xs (x1 + 2).toNatClampNeg), .int (xs (x1 + 3).toNatClampNeg)] (sk0 c, I) (fun r h' => mx_Go l room_1 mL_law (mx_S L0 xs Z) 132 13954 1114 [.ref 1000, .ref 0, .ref 120, .int x1] (r.toList ++ []) h'))
    (b93 : (¬ ((Int32.ofNat L0) - 7) < x1) → (((xs x1.toNatClampNeg) &&& 31) = 24) → vp_in (x1 + 1) L0)
    (k94 : (¬ ((Int32.ofNat L0) - 7) < x1) → (((xs x1.toNatClampNeg) &&& 31) = 24) → mx_K1 l mX11_night 100 [.ref 0, .int (xs (x1 + 1).toNatClampNeg)] (sk0 c, I) (fun r h' => mx_Go l room_1 mL_law (mx_S L0 xs Z) 132 13954 1147 [.ref 1000, .ref 0, .ref 120, .int x1] (r.toList ++ []) h'))
    (b95 : (¬ ((Int32.ofNat L0) - 7) < x1) → (((xs x1.toNatClampNeg) &&& 31) = 25) → vp_in (x1 + 1) L0)
    (b96 : (¬ ((Int32.ofNat L0) - 7) < x1) → (((xs x1.toNatClampNeg) &&& 31) = 25) → vp_in (x1 + 2) L0)
    (b97 : (¬ ((Int32.ofNat L0) - 7) < x1) → (((xs x1.toNatClampNeg) &&& 31) = 25) → vp_in (x1 + 3) L0)
    (b98 : (¬ ((Int32.ofNat L0) - 7) < x1) → (((xs x1.toNatClampNeg) &&& 31) = 25) → vp_in (x1 + 4) L0)
    (k99 : (¬ ((Int32.ofNat L0) - 7) < x1) → (((xs x1.toNatClampNeg) &&& 31) = 25) → mx_K1 l mX11_chance 100 [.ref 0, .int (xs (x1 + 1).toNatClampNeg), .int (xs (x1 + 2).toNatClampNeg), .int (xs (x1 + 3).toNatClampNeg), .int (xs (x1 + 4).toNatClampNeg)] (sk0 c, I) (fun r h' => mx_Go l room_1 mL_law (mx_S L0 xs Z) 132 13954 1185 [.ref 1000, .ref 0, .ref 120, .int x1] (r.toList ++ []) h'))
    (b100 : (¬ ((Int32.ofNat L0) - 7) < x1) → (((xs x1.toNatClampNeg) &&& 31) = 26) → vp_in (x1 + 1) L0)
    (k101 : (¬ ((Int32.ofNat L0) - 7) < x1) → (((xs x1.toNatClampNeg) &&& 31) = 26) → ((xs (x1 + 1).toNatClampNeg) = 0) → mx_K1 l mX11_image 100 [.ref 0, .int 0] (sk0 c, I) (fun r h' => mx_Go l room_1 mL_law (mx_S L0 xs Z) 132 13954 1232 [.ref 1000, .ref 0, .ref 120, .int x1] (r.toList ++ []) h'))
    (k102 : (¬ ((Int32.ofNat L0) - 7) < x1) → (((xs x1.toNatClampNeg) &&& 31) = 26) → (¬ (xs (x1 + 1).toNatClampNeg) = 0) → mx_K1 l mX11_image 100 [.ref 0, .int 1] (sk0 c, I) (fun r h' => mx_Go l room_1 mL_law (mx_S L0 xs Z) 132 13954 1232 [.ref 1000, .ref 0, .ref 120, .int x1] (r.toList ++ []) h'))
    (b103 : (¬ ((Int32.ofNat L0) - 7) < x1) → (((xs x1.toNatClampNeg) &&& 31) = 27) → vp_in (x1 + 1) L0)
    (k104 : (¬ ((Int32.ofNat L0) - 7) < x1) → (((xs x1.toNatClampNeg) &&& 31) = 27) → mx_K1 l mX11_look 100 [.ref 0, .int (xs (x1 + 1).toNatClampNeg)] (sk0 c, I) (fun r h' => mx_Go l room_1 mL_law (mx_S L0 xs Z) 132 13954 1263 [.ref 1000, .ref 0, .ref 120, .int x1] (r.toList ++ []) h'))
    (e105 : (¬ ((Int32.ofNat L0) - 7) < x1) → (¬ ((xs x1.toNatClampNeg) &&& 31) = 0) → (¬ ((xs x1.toNatClampNeg) &&& 31) = 1) → (¬ ((xs x1.toNatClampNeg) &&& 31) = 2) → (¬ ((xs x1.toNatClampNeg) &&& 31) = 3) → (¬ ((xs x1.toNatClampNeg) &&& 31) = 4) → (¬ ((xs x1.toNatClampNeg) &&& 31) = 5) → (¬ ((xs x1.toNatClampNeg) &&& 31) = 6) → (¬ ((xs x1.toNatClampNeg) &&& 31) = 7) → (¬ ((xs x1.toNatClampNeg) &&& 31) = 8) → (¬ ((xs x1.toNatClampNeg) &&& 31) = 9) → (¬ ((xs x1.toNatClampNeg) &&& 31) = 10) → (¬ ((xs x1.toNatClampNeg) &&& 31) = 11) → (¬ ((xs x1.toNatClampNeg) &&& 31) = 12) → (¬ ((xs x1.toNatClampNeg) &&& 31) = 13) → (¬ ((xs x1.toNatClampNeg) &&& 31) = 14) → (¬ ((xs x1.toNatClampNeg) &&& 31) = 15) → (¬ ((xs x1.toNatClampNeg) &&& 31) = 16) → (¬ ((xs x1.toNatClampNeg) &&& 31) = 17) → (¬ ((xs x1.toNatClampNeg) &&& 31) = 18) → (¬ ((xs x1.toNatClampNeg) &&& 31) = 19) → (¬ ((xs x1.toNatClampNeg) &&& 31) = 20) → (¬ ((xs x1.toNatClampNeg) &&& 31) = 21) → (¬ ((xs x1.toNatClampNeg) &&& 31) = 22) → (¬ ((xs x1.toNatClampNeg) &&& 31) = 23) → (¬ ((xs x1.toNatClampNeg) &&& 31) = 24) → (¬ ((xs x1.toNatClampNeg) &&& 31) = 25) → (¬ ((xs x1.toNatClampNeg) &&& 31) = 26) → (¬ ((xs x1.toNatClampNeg) &&& 31) = 27) → mx_Go l room_1 mL_law (mx_S L0 xs Z) 132 13954 18 [.ref 1000, .ref 0, .ref 120, .int (x1 + 7)] [] (sk0 c, I)) :
    mx_Go l room_1 mL_law (mx_S L0 xs Z) 132 13954 18 [.ref 1000, .ref 0, .ref 120, .int x1] [] (sk0 c, I) := by
  refine g_iload_n dL_law_18 rfl rfl ?_
  refine g_aload_n dL_law_19 rfl rfl ?_
  refine g_slen dL_law_20 ?_
  refine g_bipush (v := 7) dL_law_21 (by decide) ?_
  refine g_isub dL_law_23 ?_
  refine g_icmp_gt (tgt := 1283) dL_law_24 (by decide) (fun c1 => ?_) (fun c2 => ?_)
  · skip
    refine g_iconst (v := 1) dL_law_1283 (by decide) ?_
    exact e1 c1
  · skip
    refine g_aload_n dL_law_27 rfl rfl ?_
    refine g_iload_n dL_law_28 rfl rfl ?_
    refine g_sld dL_law_29 (b2 c2) ?_
    refine g_bipush (v := 31) dL_law_30 (by decide) ?_
    refine g_iand dL_law_32 ?_
    rcases Decidable.em (((xs x1.toNatClampNeg) &&& 31) = 0) with c3 | c4
    · skip
      refine g_tableIn (off := 127) (tgt := 160) dL_law_33 (by rw [c3]; decide) (by rw [c3]; decide) (by rw [c3]; rfl) (by decide) ?_
      refine g_aload_n dL_law_160 rfl rfl ?_
      refine g_aload_n dL_law_161 rfl rfl ?_
      refine g_iload_n dL_law_162 rfl rfl ?_
      refine g_iconst (v := 1) dL_law_163 (by decide) ?_
      refine g_iadd dL_law_164 ?_
      refine g_sld dL_law_165 (b3 c2 c3) ?_
      exact s_callL (M' := mX11_bridges) (As := [.int (xs (x1 + 1).toNatClampNeg)]) (st := []) dL_law_166 lm_L_13 ovX11_bridges (h := (sk0 c, I)) (sk_0 _) (show vwCl[11]? = some _ from rfl) rfl (by simp [Value.category]) (by decide) rfl (k4 c2 c3)
    · skip
      rcases Decidable.em (((xs x1.toNatClampNeg) &&& 31) = 1) with c5 | c6
      · skip
        refine g_tableIn (off := 150) (tgt := 183) dL_law_33 (by rw [c5]; decide) (by rw [c5]; decide) (by rw [c5]; rfl) (by decide) ?_
        refine g_aload_n dL_law_183 rfl rfl ?_
        refine g_aload_n dL_law_184 rfl rfl ?_
        refine g_iload_n dL_law_185 rfl rfl ?_
        refine g_iconst (v := 1) dL_law_186 (by decide) ?_
        refine g_iadd dL_law_187 ?_
        refine g_sld dL_law_188 (b5 c2 c5) ?_
        refine g_aload_n dL_law_189 rfl rfl ?_
        refine g_iload_n dL_law_190 rfl rfl ?_
        refine g_iconst (v := 2) dL_law_191 (by decide) ?_
        refine g_iadd dL_law_192 ?_
        refine g_sld dL_law_193 (b6 c2 c5) ?_
        refine g_aload_n dL_law_194 rfl rfl ?_
        refine g_iload_n dL_law_195 rfl rfl ?_
        refine g_iconst (v := 3) dL_law_196 (by decide) ?_
        refine g_iadd dL_law_197 ?_
        refine g_sld dL_law_198 (b7 c2 c5) ?_
        exact s_callL (M' := mX11_load) (As := [.int (xs (x1 + 1).toNatClampNeg), .int (xs (x1 + 2).toNatClampNeg), .int (xs (x1 + 3).toNatClampNeg)]) (st := []) dL_law_199 lm_L_18 ovX11_load (h := (sk0 c, I)) (sk_0 _) (show vwCl[11]? = some _ from rfl) rfl (by simp [Value.category]) (by decide) rfl (k8 c2 c5)
      · skip
        rcases Decidable.em (((xs x1.toNatClampNeg) &&& 31) = 2) with c7 | c8
        · skip
          refine g_tableIn (off := 193) (tgt := 226) dL_law_33 (by rw [c7]; decide) (by rw [c7]; decide) (by rw [c7]; rfl) (by decide) ?_
          refine g_aload_n dL_law_226 rfl rfl ?_
          refine g_aload_n dL_law_227 rfl rfl ?_
          refine g_iload_n dL_law_228 rfl rfl ?_
          refine g_iconst (v := 1) dL_law_229 (by decide) ?_
          refine g_iadd dL_law_230 ?_
          refine g_sld dL_law_231 (b9 c2 c7) ?_
          refine g_aload_n dL_law_232 rfl rfl ?_
          refine g_iload_n dL_law_233 rfl rfl ?_
          refine g_iconst (v := 2) dL_law_234 (by decide) ?_
          refine g_iadd dL_law_235 ?_
          refine g_sld dL_law_236 (b10 c2 c7) ?_
          refine g_aload_n dL_law_237 rfl rfl ?_
          refine g_iload_n dL_law_238 rfl rfl ?_
          refine g_iconst (v := 3) dL_law_239 (by decide) ?_
          refine g_iadd dL_law_240 ?_
          refine g_sld dL_law_241 (b11 c2 c7) ?_
          exact s_callL (M' := mX11_fetch) (As := [.int (xs (x1 + 1).toNatClampNeg), .int (xs (x1 + 2).toNatClampNeg), .int (xs (x1 + 3).toNatClampNeg)]) (st := []) dL_law_242 lm_L_23 ovX11_fetch (h := (sk0 c, I)) (sk_0 _) (show vwCl[11]? = some _ from rfl) rfl (by simp [Value.category]) (by decide) rfl (k12 c2 c7)
        · skip
          rcases Decidable.em (((xs x1.toNatClampNeg) &&& 31) = 3) with c9 | c10
          · skip
            refine g_tableIn (off := 236) (tgt := 269) dL_law_33 (by rw [c9]; decide) (by rw [c9]; decide) (by rw [c9]; rfl) (by decide) ?_
            refine g_aload_n dL_law_269 rfl rfl ?_
            refine g_aload_n dL_law_270 rfl rfl ?_
            refine g_iload_n dL_law_271 rfl rfl ?_
            refine g_iconst (v := 1) dL_law_272 (by decide) ?_
            refine g_iadd dL_law_273 ?_
            refine g_sld dL_law_274 (b13 c2 c9) ?_
            refine g_aload_n dL_law_275 rfl rfl ?_
            refine g_iload_n dL_law_276 rfl rfl ?_
            refine g_iconst (v := 2) dL_law_277 (by decide) ?_
            refine g_iadd dL_law_278 ?_
            refine g_sld dL_law_279 (b14 c2 c9) ?_
            refine g_aload_n dL_law_280 rfl rfl ?_
            refine g_iload_n dL_law_281 rfl rfl ?_
            refine g_iconst (v := 3) dL_law_282 (by decide) ?_
            refine g_iadd dL_law_283 ?_
            refine g_sld dL_law_284 (b15 c2 c9) ?_
            refine g_aload_n dL_law_285 rfl rfl ?_
            refine g_iload_n dL_law_286 rfl rfl ?_
            refine g_iconst (v := 4) dL_law_287 (by decide) ?_
            refine g_iadd dL_law_288 ?_
            refine g_sld dL_law_289 (b16 c2 c9) ?_
            refine g_aload_n dL_law_290 rfl rfl ?_
            refine g_iload_n dL_law_291 rfl rfl ?_
            refine g_iconst (v := 5) dL_law_292 (by decide) ?_
            refine g_iadd dL_law_293 ?_
            refine g_sld dL_law_294 (b17 c2 c9) ?_
            refine g_aload_n dL_law_295 rfl rfl ?_
            refine g_iload_n dL_law_296 rfl rfl ?_
            refine g_bipush (v := 6) dL_law_297 (by decide) ?_
            refine g_iadd dL_law_299 ?_
            refine g_sld dL_law_300 (b18 c2 c9) ?_
            exact s_callL (M' := mX11_crosser) (As := [.int (xs (x1 + 1).toNatClampNeg), .int (xs (x1 + 2).toNatClampNeg), .int (xs (x1 + 3).toNatClampNeg), .int (xs (x1 + 4).toNatClampNeg), .int (xs (x1 + 5).toNatClampNeg), .int (xs (x1 + 6).toNatClampNeg)]) (st := []) dL_law_301 lm_L_28 ovX11_crosser (h := (sk0 c, I)) (sk_0 _) (show vwCl[11]? = some _ from rfl) rfl (by simp [Value.category]) (by decide) rfl (k19 c2 c9)
          · skip
            rcases Decidable.em (((xs x1.toNatClampNeg) &&& 31) = 4) with c11 | c12
            · skip
              refine g_tableIn (off := 311) (tgt := 344) dL_law_33 (by rw [c11]; decide) (by rw [c11]; decide) (by rw [c11]; rfl) (by decide) ?_
              refine g_aload_n dL_law_344 rfl rfl ?_
              refine g_aload_n dL_law_345 rfl rfl ?_
              refine g_iload_n dL_law_346 rfl rfl ?_
              refine g_iconst (v := 1) dL_law_347 (by decide) ?_
              refine g_iadd dL_law_348 ?_
              refine g_sld dL_law_349 (b20 c2 c11) ?_
              refine g_aload_n dL_law_350 rfl rfl ?_
              refine g_iload_n dL_law_351 rfl rfl ?_
              refine g_iconst (v := 2) dL_law_352 (by decide) ?_
              refine g_iadd dL_law_353 ?_
              refine g_sld dL_law_354 (b21 c2 c11) ?_
              refine g_aload_n dL_law_355 rfl rfl ?_
              refine g_iload_n dL_law_356 rfl rfl ?_
              refine g_iconst (v := 3) dL_law_357 (by decide) ?_
              refine g_iadd dL_law_358 ?_
              refine g_sld dL_law_359 (b22 c2 c11) ?_
              exact s_callL (M' := mX11_kind) (As := [.int (xs (x1 + 1).toNatClampNeg), .int (xs (x1 + 2).toNatClampNeg), .int (xs (x1 + 3).toNatClampNeg)]) (st := []) dL_law_360 lm_L_33 ovX11_kind (h := (sk0 c, I)) (sk_0 _) (show vwCl[11]? = some _ from rfl) rfl (by simp [Value.category]) (by decide) rfl (k23 c2 c11)
            · skip
              rcases Decidable.em (((xs x1.toNatClampNeg) &&& 31) = 5) with c13 | c14
              · skip
                refine g_tableIn (off := 354) (tgt := 387) dL_law_33 (by rw [c13]; decide) (by rw [c13]; decide) (by rw [c13]; rfl) (by decide) ?_
                refine g_aload_n dL_law_387 rfl rfl ?_
                refine g_aload_n dL_law_388 rfl rfl ?_
                refine g_iload_n dL_law_389 rfl rfl ?_
                refine g_iconst (v := 1) dL_law_390 (by decide) ?_
                refine g_iadd dL_law_391 ?_
                refine g_sld dL_law_392 (b24 c2 c13) ?_
                refine g_aload_n dL_law_393 rfl rfl ?_
                refine g_iload_n dL_law_394 rfl rfl ?_
                refine g_iconst (v := 2) dL_law_395 (by decide) ?_
                refine g_iadd dL_law_396 ?_
                refine g_sld dL_law_397 (b25 c2 c13) ?_
                refine g_aload_n dL_law_398 rfl rfl ?_
                refine g_iload_n dL_law_399 rfl rfl ?_
                refine g_iconst (v := 3) dL_law_400 (by decide) ?_
                refine g_iadd dL_law_401 ?_
                refine g_sld dL_law_402 (b26 c2 c13) ?_
                exact s_callL (M' := mX11_set) (As := [.int (xs (x1 + 1).toNatClampNeg), .int (xs (x1 + 2).toNatClampNeg), .int (xs (x1 + 3).toNatClampNeg)]) (st := []) dL_law_403 lm_L_37 ovX11_set (h := (sk0 c, I)) (sk_0 _) (show vwCl[11]? = some _ from rfl) rfl (by simp [Value.category]) (by decide) rfl (k27 c2 c13)
              · skip
                rcases Decidable.em (((xs x1.toNatClampNeg) &&& 31) = 6) with c15 | c16
                · skip
                  refine g_tableIn (off := 397) (tgt := 430) dL_law_33 (by rw [c15]; decide) (by rw [c15]; decide) (by rw [c15]; rfl) (by decide) ?_
                  refine g_aload_n dL_law_430 rfl rfl ?_
                  refine g_aload_n dL_law_431 rfl rfl ?_
                  refine g_iload_n dL_law_432 rfl rfl ?_
                  refine g_iconst (v := 1) dL_law_433 (by decide) ?_
                  refine g_iadd dL_law_434 ?_
                  refine g_sld dL_law_435 (b28 c2 c15) ?_
                  refine g_aload_n dL_law_436 rfl rfl ?_
                  refine g_iload_n dL_law_437 rfl rfl ?_
                  refine g_iconst (v := 2) dL_law_438 (by decide) ?_
                  refine g_iadd dL_law_439 ?_
                  refine g_sld dL_law_440 (b29 c2 c15) ?_
                  refine g_aload_n dL_law_441 rfl rfl ?_
                  refine g_iload_n dL_law_442 rfl rfl ?_
                  refine g_iconst (v := 3) dL_law_443 (by decide) ?_
                  refine g_iadd dL_law_444 ?_
                  refine g_sld dL_law_445 (b30 c2 c15) ?_
                  refine g_aload_n dL_law_446 rfl rfl ?_
                  refine g_iload_n dL_law_447 rfl rfl ?_
                  refine g_iconst (v := 4) dL_law_448 (by decide) ?_
                  refine g_iadd dL_law_449 ?_
                  refine g_sld dL_law_450 (b31 c2 c15) ?_
                  refine g_aload_n dL_law_451 rfl rfl ?_
                  refine g_iload_n dL_law_452 rfl rfl ?_
                  refine g_iconst (v := 5) dL_law_453 (by decide) ?_
                  refine g_iadd dL_law_454 ?_
                  refine g_sld dL_law_455 (b32 c2 c15) ?_
                  exact s_callL (M' := mX11_feed) (As := [.int (xs (x1 + 1).toNatClampNeg), .int (xs (x1 + 2).toNatClampNeg), .int (xs (x1 + 3).toNatClampNeg), .int (xs (x1 + 4).toNatClampNeg), .int (xs (x1 + 5).toNatClampNeg)]) (st := []) dL_law_456 lm_L_41 ovX11_feed (h := (sk0 c, I)) (sk_0 _) (show vwCl[11]? = some _ from rfl) rfl (by simp [Value.category]) (by decide) rfl (k33 c2 c15)
                · skip
                  rcases Decidable.em (((xs x1.toNatClampNeg) &&& 31) = 7) with c17 | c18
                  · skip
                    refine g_tableIn (off := 460) (tgt := 493) dL_law_33 (by rw [c17]; decide) (by rw [c17]; decide) (by rw [c17]; rfl) (by decide) ?_
                    refine g_aload_n dL_law_493 rfl rfl ?_
                    refine g_aload_n dL_law_494 rfl rfl ?_
                    refine g_iload_n dL_law_495 rfl rfl ?_
                    refine g_iconst (v := 1) dL_law_496 (by decide) ?_
                    refine g_iadd dL_law_497 ?_
                    refine g_sld dL_law_498 (b34 c2 c17) ?_
                    exact s_callL (M' := mX11_end) (As := [.int (xs (x1 + 1).toNatClampNeg)]) (st := []) dL_law_499 lm_L_46 ovX11_end (h := (sk0 c, I)) (sk_0 _) (show vwCl[11]? = some _ from rfl) rfl (by simp [Value.category]) (by decide) rfl (k35 c2 c17)
                  · skip
                    rcases Decidable.em (((xs x1.toNatClampNeg) &&& 31) = 8) with c19 | c20
                    · skip
                      refine g_tableIn (off := 483) (tgt := 516) dL_law_33 (by rw [c19]; decide) (by rw [c19]; decide) (by rw [c19]; rfl) (by decide) ?_
                      refine g_aload_n dL_law_516 rfl rfl ?_
                      exact s_callL (M' := mX11_text) (As := []) (st := []) dL_law_517 lm_L_50 ovX11_text (h := (sk0 c, I)) (sk_0 _) (show vwCl[11]? = some _ from rfl) rfl (by simp [Value.category]) (by decide) rfl (k36 c2 c19)
                    · skip
                      rcases Decidable.em (((xs x1.toNatClampNeg) &&& 31) = 9) with c21 | c22
                      · skip
                        refine g_tableIn (off := 496) (tgt := 529) dL_law_33 (by rw [c21]; decide) (by rw [c21]; decide) (by rw [c21]; rfl) (by decide) ?_
                        refine g_aload_n dL_law_529 rfl rfl ?_
                        refine g_aload_n dL_law_530 rfl rfl ?_
                        refine g_iload_n dL_law_531 rfl rfl ?_
                        refine g_iconst (v := 1) dL_law_532 (by decide) ?_
                        refine g_iadd dL_law_533 ?_
                        refine g_sld dL_law_534 (b37 c2 c21) ?_
                        exact s_callL (M' := mX11_fault) (As := [.int (xs (x1 + 1).toNatClampNeg)]) (st := []) dL_law_535 lm_L_55 ovX11_fault (h := (sk0 c, I)) (sk_0 _) (show vwCl[11]? = some _ from rfl) rfl (by simp [Value.category]) (by decide) rfl (k38 c2 c21)
                      · skip
                        rcases Decidable.em (((xs x1.toNatClampNeg) &&& 31) = 10) with c23 | c24
                        · skip
                          refine g_tableIn (off := 519) (tgt := 552) dL_law_33 (by rw [c23]; decide) (by rw [c23]; decide) (by rw [c23]; rfl) (by decide) ?_
                          refine g_aload_n dL_law_552 rfl rfl ?_
                          refine g_aload_n dL_law_553 rfl rfl ?_
                          refine g_iload_n dL_law_554 rfl rfl ?_
                          refine g_iconst (v := 1) dL_law_555 (by decide) ?_
                          refine g_iadd dL_law_556 ?_
                          refine g_sld dL_law_557 (b39 c2 c23) ?_
                          exact s_callL (M' := mX11_hours) (As := [.int (xs (x1 + 1).toNatClampNeg)]) (st := []) dL_law_558 lm_L_60 ovX11_hours (h := (sk0 c, I)) (sk_0 _) (show vwCl[11]? = some _ from rfl) rfl (by simp [Value.category]) (by decide) rfl (k40 c2 c23)
                        · skip
                          rcases Decidable.em (((xs x1.toNatClampNeg) &&& 31) = 11) with c25 | c26
                          · skip
                            refine g_tableIn (off := 542) (tgt := 575) dL_law_33 (by rw [c25]; decide) (by rw [c25]; decide) (by rw [c25]; rfl) (by decide) ?_
                            refine g_aload_n dL_law_575 rfl rfl ?_
                            refine g_aload_n dL_law_576 rfl rfl ?_
                            refine g_iload_n dL_law_577 rfl rfl ?_
                            refine g_iconst (v := 1) dL_law_578 (by decide) ?_
                            refine g_iadd dL_law_579 ?_
                            refine g_sld dL_law_580 (b41 c2 c25) ?_
                            refine g_aload_n dL_law_581 rfl rfl ?_
                            refine g_iload_n dL_law_582 rfl rfl ?_
                            refine g_iconst (v := 2) dL_law_583 (by decide) ?_
                            refine g_iadd dL_law_584 ?_
                            refine g_sld dL_law_585 (b42 c2 c25) ?_
                            exact s_callL (M' := mX11_of) (As := [.int (xs (x1 + 1).toNatClampNeg), .int (xs (x1 + 2).toNatClampNeg)]) (st := []) dL_law_586 lm_L_64 ovX11_of (h := (sk0 c, I)) (sk_0 _) (show vwCl[11]? = some _ from rfl) rfl (by simp [Value.category]) (by decide) rfl (k43 c2 c25)
                          · skip
                            rcases Decidable.em (((xs x1.toNatClampNeg) &&& 31) = 12) with c27 | c28
                            · skip
                              refine g_tableIn (off := 575) (tgt := 608) dL_law_33 (by rw [c27]; decide) (by rw [c27]; decide) (by rw [c27]; rfl) (by decide) ?_
                              refine g_aload_n dL_law_608 rfl rfl ?_
                              refine g_aload_n dL_law_609 rfl rfl ?_
                              refine g_iload_n dL_law_610 rfl rfl ?_
                              refine g_iconst (v := 1) dL_law_611 (by decide) ?_
                              refine g_iadd dL_law_612 ?_
                              refine g_sld dL_law_613 (b44 c2 c27) ?_
                              refine g_aload_n dL_law_614 rfl rfl ?_
                              refine g_iload_n dL_law_615 rfl rfl ?_
                              refine g_iconst (v := 2) dL_law_616 (by decide) ?_
                              refine g_iadd dL_law_617 ?_
                              refine g_sld dL_law_618 (b45 c2 c27) ?_
                              exact s_callL (M' := mX11_who) (As := [.int (xs (x1 + 1).toNatClampNeg), .int (xs (x1 + 2).toNatClampNeg)]) (st := []) dL_law_619 lm_L_69 ovX11_who (h := (sk0 c, I)) (sk_0 _) (show vwCl[11]? = some _ from rfl) rfl (by simp [Value.category]) (by decide) rfl (k46 c2 c27)
                            · skip
                              rcases Decidable.em (((xs x1.toNatClampNeg) &&& 31) = 13) with c29 | c30
                              · skip
                                refine g_tableIn (off := 608) (tgt := 641) dL_law_33 (by rw [c29]; decide) (by rw [c29]; decide) (by rw [c29]; rfl) (by decide) ?_
                                refine g_aload_n dL_law_641 rfl rfl ?_
                                refine g_aload_n dL_law_642 rfl rfl ?_
                                refine g_iload_n dL_law_643 rfl rfl ?_
                                refine g_iconst (v := 1) dL_law_644 (by decide) ?_
                                refine g_iadd dL_law_645 ?_
                                refine g_sld dL_law_646 (b47 c2 c29) ?_
                                refine g_aload_n dL_law_647 rfl rfl ?_
                                refine g_iload_n dL_law_648 rfl rfl ?_
                                refine g_iconst (v := 2) dL_law_649 (by decide) ?_
                                refine g_iadd dL_law_650 ?_
                                refine g_sld dL_law_651 (b48 c2 c29) ?_
                                exact s_callL (M' := mX11_waits) (As := [.int (xs (x1 + 1).toNatClampNeg), .int (xs (x1 + 2).toNatClampNeg)]) (st := []) dL_law_652 lm_L_73 ovX11_waits (h := (sk0 c, I)) (sk_0 _) (show vwCl[11]? = some _ from rfl) rfl (by simp [Value.category]) (by decide) rfl (k49 c2 c29)
                              · skip
                                rcases Decidable.em (((xs x1.toNatClampNeg) &&& 31) = 14) with c31 | c32
                                · skip
                                  refine g_tableIn (off := 641) (tgt := 674) dL_law_33 (by rw [c31]; decide) (by rw [c31]; decide) (by rw [c31]; rfl) (by decide) ?_
                                  refine g_aload_n dL_law_674 rfl rfl ?_
                                  refine g_aload_n dL_law_675 rfl rfl ?_
                                  refine g_iload_n dL_law_676 rfl rfl ?_
                                  refine g_iconst (v := 1) dL_law_677 (by decide) ?_
                                  refine g_iadd dL_law_678 ?_
                                  refine g_sld dL_law_679 (b50 c2 c31) ?_
                                  refine g_aload_n dL_law_680 rfl rfl ?_
                                  refine g_iload_n dL_law_681 rfl rfl ?_
                                  refine g_iconst (v := 2) dL_law_682 (by decide) ?_
                                  refine g_iadd dL_law_683 ?_
                                  refine g_sld dL_law_684 (b51 c2 c31) ?_
                                  exact s_callL (M' := mX11_book) (As := [.int (xs (x1 + 1).toNatClampNeg), .int (xs (x1 + 2).toNatClampNeg)]) (st := []) dL_law_685 lm_L_77 ovX11_book (h := (sk0 c, I)) (sk_0 _) (show vwCl[11]? = some _ from rfl) rfl (by simp [Value.category]) (by decide) rfl (k52 c2 c31)
                                · skip
                                  rcases Decidable.em (((xs x1.toNatClampNeg) &&& 31) = 15) with c33 | c34
                                  · skip
                                    refine g_tableIn (off := 674) (tgt := 707) dL_law_33 (by rw [c33]; decide) (by rw [c33]; decide) (by rw [c33]; rfl) (by decide) ?_
                                    refine g_aload_n dL_law_707 rfl rfl ?_
                                    refine g_aload_n dL_law_708 rfl rfl ?_
                                    refine g_iload_n dL_law_709 rfl rfl ?_
                                    refine g_iconst (v := 1) dL_law_710 (by decide) ?_
                                    refine g_iadd dL_law_711 ?_
                                    refine g_sld dL_law_712 (b53 c2 c33) ?_
                                    refine g_aload_n dL_law_713 rfl rfl ?_
                                    refine g_iload_n dL_law_714 rfl rfl ?_
                                    refine g_iconst (v := 2) dL_law_715 (by decide) ?_
                                    refine g_iadd dL_law_716 ?_
                                    refine g_sld dL_law_717 (b54 c2 c33) ?_
                                    exact s_callL (M' := mX11_over) (As := [.int (xs (x1 + 1).toNatClampNeg), .int (xs (x1 + 2).toNatClampNeg)]) (st := []) dL_law_718 lm_L_81 ovX11_over (h := (sk0 c, I)) (sk_0 _) (show vwCl[11]? = some _ from rfl) rfl (by simp [Value.category]) (by decide) rfl (k55 c2 c33)
                                  · skip
                                    rcases Decidable.em (((xs x1.toNatClampNeg) &&& 31) = 16) with c35 | c36
                                    · skip
                                      refine g_tableIn (off := 707) (tgt := 740) dL_law_33 (by rw [c35]; decide) (by rw [c35]; decide) (by rw [c35]; rfl) (by decide) ?_
                                      refine g_aload_n dL_law_740 rfl rfl ?_
                                      refine g_aload_n dL_law_741 rfl rfl ?_
                                      refine g_iload_n dL_law_742 rfl rfl ?_
                                      refine g_iconst (v := 1) dL_law_743 (by decide) ?_
                                      refine g_iadd dL_law_744 ?_
                                      refine g_sld dL_law_745 (b56 c2 c35) ?_
                                      exact s_callL (M' := mX11_back) (As := [.int (xs (x1 + 1).toNatClampNeg)]) (st := []) dL_law_746 lm_L_85 ovX11_back (h := (sk0 c, I)) (sk_0 _) (show vwCl[11]? = some _ from rfl) rfl (by simp [Value.category]) (by decide) rfl (k57 c2 c35)
                                    · skip
                                      rcases Decidable.em (((xs x1.toNatClampNeg) &&& 31) = 17) with c37 | c38
                                      · skip
                                        refine g_tableIn (off := 730) (tgt := 763) dL_law_33 (by rw [c37]; decide) (by rw [c37]; decide) (by rw [c37]; rfl) (by decide) ?_
                                        refine g_aload_n dL_law_763 rfl rfl ?_
                                        refine g_aload_n dL_law_764 rfl rfl ?_
                                        refine g_iload_n dL_law_765 rfl rfl ?_
                                        refine g_iconst (v := 1) dL_law_766 (by decide) ?_
                                        refine g_iadd dL_law_767 ?_
                                        refine g_sld dL_law_768 (b58 c2 c37) ?_
                                        refine g_aload_n dL_law_769 rfl rfl ?_
                                        refine g_iload_n dL_law_770 rfl rfl ?_
                                        refine g_iconst (v := 2) dL_law_771 (by decide) ?_
                                        refine g_iadd dL_law_772 ?_
                                        refine g_sld dL_law_773 (b59 c2 c37) ?_
                                        refine g_aload_n dL_law_774 rfl rfl ?_
                                        refine g_iload_n dL_law_775 rfl rfl ?_
                                        refine g_iconst (v := 3) dL_law_776 (by decide) ?_
                                        refine g_iadd dL_law_777 ?_
                                        refine g_sld dL_law_778 (b60 c2 c37) ?_
                                        exact s_callL (M' := mX11_gathers) (As := [.int (xs (x1 + 1).toNatClampNeg), .int (xs (x1 + 2).toNatClampNeg), .int (xs (x1 + 3).toNatClampNeg)]) (st := []) dL_law_779 lm_L_89 ovX11_gathers (h := (sk0 c, I)) (sk_0 _) (show vwCl[11]? = some _ from rfl) rfl (by simp [Value.category]) (by decide) rfl (k61 c2 c37)
                                      · skip
                                        rcases Decidable.em (((xs x1.toNatClampNeg) &&& 31) = 18) with c39 | c40
                                        · skip
                                          refine g_tableIn (off := 773) (tgt := 806) dL_law_33 (by rw [c39]; decide) (by rw [c39]; decide) (by rw [c39]; rfl) (by decide) ?_
                                          refine g_aload_n dL_law_806 rfl rfl ?_
                                          refine g_aload_n dL_law_807 rfl rfl ?_
                                          refine g_iload_n dL_law_808 rfl rfl ?_
                                          refine g_iconst (v := 1) dL_law_809 (by decide) ?_
                                          refine g_iadd dL_law_810 ?_
                                          refine g_sld dL_law_811 (b62 c2 c39) ?_
                                          refine g_aload_n dL_law_812 rfl rfl ?_
                                          refine g_iload_n dL_law_813 rfl rfl ?_
                                          refine g_iconst (v := 2) dL_law_814 (by decide) ?_
                                          refine g_iadd dL_law_815 ?_
                                          refine g_sld dL_law_816 (b63 c2 c39) ?_
                                          refine g_aload_n dL_law_817 rfl rfl ?_
                                          refine g_iload_n dL_law_818 rfl rfl ?_
                                          refine g_iconst (v := 3) dL_law_819 (by decide) ?_
                                          refine g_iadd dL_law_820 ?_
                                          refine g_sld dL_law_821 (b64 c2 c39) ?_
                                          refine g_aload_n dL_law_822 rfl rfl ?_
                                          refine g_iload_n dL_law_823 rfl rfl ?_
                                          refine g_iconst (v := 4) dL_law_824 (by decide) ?_
                                          refine g_iadd dL_law_825 ?_
                                          refine g_sld dL_law_826 (b65 c2 c39) ?_
                                          refine g_aload_n dL_law_827 rfl rfl ?_
                                          refine g_iload_n dL_law_828 rfl rfl ?_
                                          refine g_iconst (v := 5) dL_law_829 (by decide) ?_
                                          refine g_iadd dL_law_830 ?_
                                          refine g_sld dL_law_831 (b66 c2 c39) ?_
                                          refine g_aload_n dL_law_832 rfl rfl ?_
                                          refine g_iload_n dL_law_833 rfl rfl ?_
                                          refine g_bipush (v := 6) dL_law_834 (by decide) ?_
                                          refine g_iadd dL_law_836 ?_
                                          refine g_sld dL_law_837 (b67 c2 c39) ?_
                                          exact s_callL (M' := mX11_best) (As := [.int (xs (x1 + 1).toNatClampNeg), .int (xs (x1 + 2).toNatClampNeg), .int (xs (x1 + 3).toNatClampNeg), .int (xs (x1 + 4).toNatClampNeg), .int (xs (x1 + 5).toNatClampNeg), .int (xs (x1 + 6).toNatClampNeg)]) (st := []) dL_law_838 lm_L_93 ovX11_best (h := (sk0 c, I)) (sk_0 _) (show vwCl[11]? = some _ from rfl) rfl (by simp [Value.category]) (by decide) rfl (k68 c2 c39)
                                        · skip
                                          rcases Decidable.em (((xs x1.toNatClampNeg) &&& 31) = 19) with c41 | c42
                                          · skip
                                            refine g_tableIn (off := 848) (tgt := 881) dL_law_33 (by rw [c41]; decide) (by rw [c41]; decide) (by rw [c41]; rfl) (by decide) ?_
                                            refine g_aload_n dL_law_881 rfl rfl ?_
                                            refine g_aload_n dL_law_882 rfl rfl ?_
                                            refine g_iload_n dL_law_883 rfl rfl ?_
                                            refine g_iconst (v := 1) dL_law_884 (by decide) ?_
                                            refine g_iadd dL_law_885 ?_
                                            refine g_sld dL_law_886 (b69 c2 c41) ?_
                                            refine g_aload_n dL_law_887 rfl rfl ?_
                                            refine g_iload_n dL_law_888 rfl rfl ?_
                                            refine g_iconst (v := 2) dL_law_889 (by decide) ?_
                                            refine g_iadd dL_law_890 ?_
                                            refine g_sld dL_law_891 (b70 c2 c41) ?_
                                            refine g_aload_n dL_law_892 rfl rfl ?_
                                            refine g_iload_n dL_law_893 rfl rfl ?_
                                            refine g_iconst (v := 3) dL_law_894 (by decide) ?_
                                            refine g_iadd dL_law_895 ?_
                                            refine g_sld dL_law_896 (b71 c2 c41) ?_
                                            refine g_aload_n dL_law_897 rfl rfl ?_
                                            refine g_iload_n dL_law_898 rfl rfl ?_
                                            refine g_iconst (v := 4) dL_law_899 (by decide) ?_
                                            refine g_iadd dL_law_900 ?_
                                            refine g_sld dL_law_901 (b72 c2 c41) ?_
                                            refine g_aload_n dL_law_902 rfl rfl ?_
                                            refine g_iload_n dL_law_903 rfl rfl ?_
                                            refine g_iconst (v := 5) dL_law_904 (by decide) ?_
                                            refine g_iadd dL_law_905 ?_
                                            refine g_sld dL_law_906 (b73 c2 c41) ?_
                                            refine g_aload_n dL_law_907 rfl rfl ?_
                                            refine g_iload_n dL_law_908 rfl rfl ?_
                                            refine g_bipush (v := 6) dL_law_909 (by decide) ?_
                                            refine g_iadd dL_law_911 ?_
                                            refine g_sld dL_law_912 (b74 c2 c41) ?_
                                            exact s_callL (M' := mX11_send) (As := [.int (xs (x1 + 1).toNatClampNeg), .int (xs (x1 + 2).toNatClampNeg), .int (xs (x1 + 3).toNatClampNeg), .int (xs (x1 + 4).toNatClampNeg), .int (xs (x1 + 5).toNatClampNeg), .int (xs (x1 + 6).toNatClampNeg)]) (st := []) dL_law_913 lm_L_97 ovX11_send (h := (sk0 c, I)) (sk_0 _) (show vwCl[11]? = some _ from rfl) rfl (by simp [Value.category]) (by decide) rfl (k75 c2 c41)
                                          · skip
                                            rcases Decidable.em (((xs x1.toNatClampNeg) &&& 31) = 20) with c43 | c44
                                            · skip
                                              refine g_tableIn (off := 923) (tgt := 956) dL_law_33 (by rw [c43]; decide) (by rw [c43]; decide) (by rw [c43]; rfl) (by decide) ?_
                                              refine g_aload_n dL_law_956 rfl rfl ?_
                                              refine g_aload_n dL_law_957 rfl rfl ?_
                                              refine g_iload_n dL_law_958 rfl rfl ?_
                                              refine g_iconst (v := 1) dL_law_959 (by decide) ?_
                                              refine g_iadd dL_law_960 ?_
                                              refine g_sld dL_law_961 (b76 c2 c43) ?_
                                              refine g_aload_n dL_law_962 rfl rfl ?_
                                              refine g_iload_n dL_law_963 rfl rfl ?_
                                              refine g_iconst (v := 2) dL_law_964 (by decide) ?_
                                              refine g_iadd dL_law_965 ?_
                                              refine g_sld dL_law_966 (b77 c2 c43) ?_
                                              refine g_aload_n dL_law_967 rfl rfl ?_
                                              refine g_iload_n dL_law_968 rfl rfl ?_
                                              refine g_iconst (v := 3) dL_law_969 (by decide) ?_
                                              refine g_iadd dL_law_970 ?_
                                              refine g_sld dL_law_971 (b78 c2 c43) ?_
                                              refine g_aload_n dL_law_972 rfl rfl ?_
                                              refine g_iload_n dL_law_973 rfl rfl ?_
                                              refine g_iconst (v := 4) dL_law_974 (by decide) ?_
                                              refine g_iadd dL_law_975 ?_
                                              refine g_sld dL_law_976 (b79 c2 c43) ?_
                                              refine g_aload_n dL_law_977 rfl rfl ?_
                                              refine g_iload_n dL_law_978 rfl rfl ?_
                                              refine g_iconst (v := 5) dL_law_979 (by decide) ?_
                                              refine g_iadd dL_law_980 ?_
                                              refine g_sld dL_law_981 (b80 c2 c43) ?_
                                              exact s_callL (M' := mX11_offer) (As := [.int (xs (x1 + 1).toNatClampNeg), .int (xs (x1 + 2).toNatClampNeg), .int (xs (x1 + 3).toNatClampNeg), .int (xs (x1 + 4).toNatClampNeg), .int (xs (x1 + 5).toNatClampNeg)]) (st := []) dL_law_982 lm_L_101 ovX11_offer (h := (sk0 c, I)) (sk_0 _) (show vwCl[11]? = some _ from rfl) rfl (by simp [Value.category]) (by decide) rfl (k81 c2 c43)
                                            · skip
                                              rcases Decidable.em (((xs x1.toNatClampNeg) &&& 31) = 21) with c45 | c46
                                              · skip
                                                refine g_tableIn (off := 986) (tgt := 1019) dL_law_33 (by rw [c45]; decide) (by rw [c45]; decide) (by rw [c45]; rfl) (by decide) ?_
                                                refine g_aload_n dL_law_1019 rfl rfl ?_
                                                refine g_aload_n dL_law_1020 rfl rfl ?_
                                                refine g_iload_n dL_law_1021 rfl rfl ?_
                                                refine g_iconst (v := 1) dL_law_1022 (by decide) ?_
                                                refine g_iadd dL_law_1023 ?_
                                                refine g_sld dL_law_1024 (b82 c2 c45) ?_
                                                refine g_aload_n dL_law_1025 rfl rfl ?_
                                                refine g_iload_n dL_law_1026 rfl rfl ?_
                                                refine g_iconst (v := 2) dL_law_1027 (by decide) ?_
                                                refine g_iadd dL_law_1028 ?_
                                                refine g_sld dL_law_1029 (b83 c2 c45) ?_
                                                refine g_aload_n dL_law_1030 rfl rfl ?_
                                                refine g_iload_n dL_law_1031 rfl rfl ?_
                                                refine g_iconst (v := 3) dL_law_1032 (by decide) ?_
                                                refine g_iadd dL_law_1033 ?_
                                                refine g_sld dL_law_1034 (b84 c2 c45) ?_
                                                refine g_aload_n dL_law_1035 rfl rfl ?_
                                                refine g_iload_n dL_law_1036 rfl rfl ?_
                                                refine g_iconst (v := 4) dL_law_1037 (by decide) ?_
                                                refine g_iadd dL_law_1038 ?_
                                                refine g_sld dL_law_1039 (b85 c2 c45) ?_
                                                exact s_callL (M' := mX11_fewest) (As := [.int (xs (x1 + 1).toNatClampNeg), .int (xs (x1 + 2).toNatClampNeg), .int (xs (x1 + 3).toNatClampNeg), .int (xs (x1 + 4).toNatClampNeg)]) (st := []) dL_law_1040 lm_L_105 ovX11_fewest (h := (sk0 c, I)) (sk_0 _) (show vwCl[11]? = some _ from rfl) rfl (by simp [Value.category]) (by decide) rfl (k86 c2 c45)
                                              · skip
                                                rcases Decidable.em (((xs x1.toNatClampNeg) &&& 31) = 22) with c47 | c48
                                                · skip
                                                  refine g_tableIn (off := 1039) (tgt := 1072) dL_law_33 (by rw [c47]; decide) (by rw [c47]; decide) (by rw [c47]; rfl) (by decide) ?_
                                                  refine g_aload_n dL_law_1072 rfl rfl ?_
                                                  refine g_aload_n dL_law_1073 rfl rfl ?_
                                                  refine g_iload_n dL_law_1074 rfl rfl ?_
                                                  refine g_iconst (v := 1) dL_law_1075 (by decide) ?_
                                                  refine g_iadd dL_law_1076 ?_
                                                  refine g_sld dL_law_1077 (b87 c2 c47) ?_
                                                  exact s_callL (M' := mX11_right) (As := [.int (xs (x1 + 1).toNatClampNeg)]) (st := []) dL_law_1078 lm_L_110 ovX11_right (h := (sk0 c, I)) (sk_0 _) (show vwCl[11]? = some _ from rfl) rfl (by simp [Value.category]) (by decide) rfl (k88 c2 c47)
                                                · skip
                                                  rcases Decidable.em (((xs x1.toNatClampNeg) &&& 31) = 23) with c49 | c50
                                                  · skip
                                                    refine g_tableIn (off := 1062) (tgt := 1095) dL_law_33 (by rw [c49]; decide) (by rw [c49]; decide) (by rw [c49]; rfl) (by decide) ?_
                                                    refine g_aload_n dL_law_1095 rfl rfl ?_
                                                    refine g_aload_n dL_law_1096 rfl rfl ?_
                                                    refine g_iload_n dL_law_1097 rfl rfl ?_
                                                    refine g_iconst (v := 1) dL_law_1098 (by decide) ?_
                                                    refine g_iadd dL_law_1099 ?_
                                                    refine g_sld dL_law_1100 (b89 c2 c49) ?_
                                                    refine g_aload_n dL_law_1101 rfl rfl ?_
                                                    refine g_iload_n dL_law_1102 rfl rfl ?_
                                                    refine g_iconst (v := 2) dL_law_1103 (by decide) ?_
                                                    refine g_iadd dL_law_1104 ?_
                                                    refine g_sld dL_law_1105 (b90 c2 c49) ?_
                                                    refine g_aload_n dL_law_1106 rfl rfl ?_
                                                    refine g_iload_n dL_law_1107 rfl rfl ?_
                                                    refine g_iconst (v := 3) dL_law_1108 (by decide) ?_
                                                    refine g_iadd dL_law_1109 ?_
                                                    refine g_sld dL_law_1110 (b91 c2 c49) ?_
                                                    exact s_callL (M' := mX11_list) (As := [.int (xs (x1 + 1).toNatClampNeg), .int (xs (x1 + 2).toNatClampNeg), .int (xs (x1 + 3).toNatClampNeg)]) (st := []) dL_law_1111 lm_L_114 ovX11_list (h := (sk0 c, I)) (sk_0 _) (show vwCl[11]? = some _ from rfl) rfl (by simp [Value.category]) (by decide) rfl (k92 c2 c49)
                                                  · skip
                                                    rcases Decidable.em (((xs x1.toNatClampNeg) &&& 31) = 24) with c51 | c52
                                                    · skip
                                                      refine g_tableIn (off := 1105) (tgt := 1138) dL_law_33 (by rw [c51]; decide) (by rw [c51]; decide) (by rw [c51]; rfl) (by decide) ?_
                                                      refine g_aload_n dL_law_1138 rfl rfl ?_
                                                      refine g_aload_n dL_law_1139 rfl rfl ?_
                                                      refine g_iload_n dL_law_1140 rfl rfl ?_
                                                      refine g_iconst (v := 1) dL_law_1141 (by decide) ?_
                                                      refine g_iadd dL_law_1142 ?_
                                                      refine g_sld dL_law_1143 (b93 c2 c51) ?_
                                                      exact s_callL (M' := mX11_night) (As := [.int (xs (x1 + 1).toNatClampNeg)]) (st := []) dL_law_1144 lm_L_118 ovX11_night (h := (sk0 c, I)) (sk_0 _) (show vwCl[11]? = some _ from rfl) rfl (by simp [Value.category]) (by decide) rfl (k94 c2 c51)
                                                    · skip
                                                      rcases Decidable.em (((xs x1.toNatClampNeg) &&& 31) = 25) with c53 | c54
                                                      · skip
                                                        refine g_tableIn (off := 1128) (tgt := 1161) dL_law_33 (by rw [c53]; decide) (by rw [c53]; decide) (by rw [c53]; rfl) (by decide) ?_
                                                        refine g_aload_n dL_law_1161 rfl rfl ?_
                                                        refine g_aload_n dL_law_1162 rfl rfl ?_
                                                        refine g_iload_n dL_law_1163 rfl rfl ?_
                                                        refine g_iconst (v := 1) dL_law_1164 (by decide) ?_
                                                        refine g_iadd dL_law_1165 ?_
                                                        refine g_sld dL_law_1166 (b95 c2 c53) ?_
                                                        refine g_aload_n dL_law_1167 rfl rfl ?_
                                                        refine g_iload_n dL_law_1168 rfl rfl ?_
                                                        refine g_iconst (v := 2) dL_law_1169 (by decide) ?_
                                                        refine g_iadd dL_law_1170 ?_
                                                        refine g_sld dL_law_1171 (b96 c2 c53) ?_
                                                        refine g_aload_n dL_law_1172 rfl rfl ?_
                                                        refine g_iload_n dL_law_1173 rfl rfl ?_
                                                        refine g_iconst (v := 3) dL_law_1174 (by decide) ?_
                                                        refine g_iadd dL_law_1175 ?_
                                                        refine g_sld dL_law_1176 (b97 c2 c53) ?_
                                                        refine g_aload_n dL_law_1177 rfl rfl ?_
                                                        refine g_iload_n dL_law_1178 rfl rfl ?_
                                                        refine g_iconst (v := 4) dL_law_1179 (by decide) ?_
                                                        refine g_iadd dL_law_1180 ?_
                                                        refine g_sld dL_law_1181 (b98 c2 c53) ?_
                                                        exact s_callL (M' := mX11_chance) (As := [.int (xs (x1 + 1).toNatClampNeg), .int (xs (x1 + 2).toNatClampNeg), .int (xs (x1 + 3).toNatClampNeg), .int (xs (x1 + 4).toNatClampNeg)]) (st := []) dL_law_1182 lm_L_122 ovX11_chance (h := (sk0 c, I)) (sk_0 _) (show vwCl[11]? = some _ from rfl) rfl (by simp [Value.category]) (by decide) rfl (k99 c2 c53)
                                                      · skip
                                                        rcases Decidable.em (((xs x1.toNatClampNeg) &&& 31) = 26) with c55 | c56
                                                        · skip
                                                          refine g_tableIn (off := 1182) (tgt := 1215) dL_law_33 (by rw [c55]; decide) (by rw [c55]; decide) (by rw [c55]; rfl) (by decide) ?_
                                                          refine g_aload_n dL_law_1215 rfl rfl ?_
                                                          refine g_aload_n dL_law_1216 rfl rfl ?_
                                                          refine g_iload_n dL_law_1217 rfl rfl ?_
                                                          refine g_iconst (v := 1) dL_law_1218 (by decide) ?_
                                                          refine g_iadd dL_law_1219 ?_
                                                          refine g_sld dL_law_1220 (b100 c2 c55) ?_
                                                          refine g_if_eq (tgt := 1228) dL_law_1221 (by decide) (fun c57 => ?_) (fun c58 => ?_)
                                                          · skip
                                                            refine g_iconst (v := 0) dL_law_1228 (by decide) ?_
                                                            exact s_callL (M' := mX11_image) (As := [.int 0]) (st := []) dL_law_1229 lm_L_127 ovX11_image (h := (sk0 c, I)) (sk_0 _) (show vwCl[11]? = some _ from rfl) rfl (by simp [Value.category]) (by decide) rfl (k101 c2 c55 c57)
                                                          · skip
                                                            refine g_iconst (v := 1) dL_law_1224 (by decide) ?_
                                                            refine g_goto (tgt := 1229) dL_law_1225 (by decide) ?_
                                                            exact s_callL (M' := mX11_image) (As := [.int 1]) (st := []) dL_law_1229 lm_L_127 ovX11_image (h := (sk0 c, I)) (sk_0 _) (show vwCl[11]? = some _ from rfl) rfl (by simp [Value.category]) (by decide) rfl (k102 c2 c55 c58)
                                                        · skip
                                                          rcases Decidable.em (((xs x1.toNatClampNeg) &&& 31) = 27) with c59 | c60
                                                          · skip
                                                            refine g_tableIn (off := 1221) (tgt := 1254) dL_law_33 (by rw [c59]; decide) (by rw [c59]; decide) (by rw [c59]; rfl) (by decide) ?_
                                                            refine g_aload_n dL_law_1254 rfl rfl ?_
                                                            refine g_aload_n dL_law_1255 rfl rfl ?_
                                                            refine g_iload_n dL_law_1256 rfl rfl ?_
                                                            refine g_iconst (v := 1) dL_law_1257 (by decide) ?_
                                                            refine g_iadd dL_law_1258 ?_
                                                            refine g_sld dL_law_1259 (b103 c2 c59) ?_
                                                            exact s_callL (M' := mX11_look) (As := [.int (xs (x1 + 1).toNatClampNeg)]) (st := []) dL_law_1260 lm_L_132 ovX11_look (h := (sk0 c, I)) (sk_0 _) (show vwCl[11]? = some _ from rfl) rfl (by simp [Value.category]) (by decide) rfl (k104 c2 c59)
                                                          · skip
                                                            refine g_tableOut (tgt := 1277) dL_law_33 (by have q4 := mx_i32 (n := 0) (by decide) c4; have q6 := mx_i32 (n := 1) (by decide) c6; have q8 := mx_i32 (n := 2) (by decide) c8; have q10 := mx_i32 (n := 3) (by decide) c10; have q12 := mx_i32 (n := 4) (by decide) c12; have q14 := mx_i32 (n := 5) (by decide) c14; have q16 := mx_i32 (n := 6) (by decide) c16; have q18 := mx_i32 (n := 7) (by decide) c18; have q20 := mx_i32 (n := 8) (by decide) c20; have q22 := mx_i32 (n := 9) (by decide) c22; have q24 := mx_i32 (n := 10) (by decide) c24; have q26 := mx_i32 (n := 11) (by decide) c26; have q28 := mx_i32 (n := 12) (by decide) c28; have q30 := mx_i32 (n := 13) (by decide) c30; have q32 := mx_i32 (n := 14) (by decide) c32; have q34 := mx_i32 (n := 15) (by decide) c34; have q36 := mx_i32 (n := 16) (by decide) c36; have q38 := mx_i32 (n := 17) (by decide) c38; have q40 := mx_i32 (n := 18) (by decide) c40; have q42 := mx_i32 (n := 19) (by decide) c42; have q44 := mx_i32 (n := 20) (by decide) c44; have q46 := mx_i32 (n := 21) (by decide) c46; have q48 := mx_i32 (n := 22) (by decide) c48; have q50 := mx_i32 (n := 23) (by decide) c50; have q52 := mx_i32 (n := 24) (by decide) c52; have q54 := mx_i32 (n := 25) (by decide) c54; have q56 := mx_i32 (n := 26) (by decide) c56; have q60 := mx_i32 (n := 27) (by decide) c60; omega) (by decide) ?_
                                                            refine s_iinc (v := (x1 + 7)) (L' := [.ref 1000, .ref 0, .ref 120, .int (x1 + 7)]) dL_law_1277 rfl (by decide) rfl rfl rfl ?_
                                                            refine g_goto (tgt := 18) dL_law_1280 (by decide) ?_
                                                            exact e105 c2 c4 c6 c8 c10 c12 c14 c16 c18 c20 c22 c24 c26 c28 c30 c32 c34 c36 c38 c40 c42 c44 c46 c48 c50 c52 c54 c56 c60
set_option maxRecDepth 10000 in
set_option maxHeartbeats 4000000 in
theorem sg_law_169 {l : Launch} {Z : mx_G → List Frame → Array Value → State → State → Prop} {L0 : Nat} {xs : Nat → Int32} {c : Nat} {I : mx_I} (x1 : Int32) (x2 : Int32)
    (b1 : vp_in (x1 + 1) L0)
    (k2 : mx_K1 l mX12_bridges 100 [.ref 120, .int (xs (x1 + 1).toNatClampNeg)] (sk0 c, I) (fun r h' => mx_Go l room_1 mL_law (mx_S L0 xs Z) 132 13954 178 [.ref 1000, .ref 0, .ref 120, .int x1] (r.toList ++ [.int x2]) h')) :
    mx_Go l room_1 mL_law (mx_S L0 xs Z) 132 13954 169 [.ref 1000, .ref 0, .ref 120, .int x1] [.int x2] (sk0 c, I) := by
  refine g_aload_n dL_law_169 rfl rfl ?_
  refine g_aload_n dL_law_170 rfl rfl ?_
  refine g_iload_n dL_law_171 rfl rfl ?_
  refine g_iconst (v := 1) dL_law_172 (by decide) ?_
  refine g_iadd dL_law_173 ?_
  refine g_sld dL_law_174 (b1) ?_
  exact s_callL (M' := mX12_bridges) (As := [.int (xs (x1 + 1).toNatClampNeg)]) (st := [.int x2]) dL_law_175 lm_L_17 ovX12_bridges (h := (sk0 c, I)) (sk_120 _) (show vwCl[12]? = some _ from rfl) rfl (by simp [Value.category]) (by decide) rfl (k2)
set_option maxRecDepth 10000 in
set_option maxHeartbeats 4000000 in
theorem sg_law_202 {l : Launch} {Z : mx_G → List Frame → Array Value → State → State → Prop} {L0 : Nat} {xs : Nat → Int32} {c : Nat} {I : mx_I} (x1 : Int32) (x2 : Int32)
    (b1 : vp_in (x1 + 1) L0)
    (b2 : vp_in (x1 + 2) L0)
    (b3 : vp_in (x1 + 3) L0)
    (k4 : mx_K1 l mX12_load 100 [.ref 120, .int (xs (x1 + 1).toNatClampNeg), .int (xs (x1 + 2).toNatClampNeg), .int (xs (x1 + 3).toNatClampNeg)] (sk0 c, I) (fun r h' => mx_Go l room_1 mL_law (mx_S L0 xs Z) 132 13954 221 [.ref 1000, .ref 0, .ref 120, .int x1] (r.toList ++ [.int x2]) h')) :
    mx_Go l room_1 mL_law (mx_S L0 xs Z) 132 13954 202 [.ref 1000, .ref 0, .ref 120, .int x1] [.int x2] (sk0 c, I) := by
  refine g_aload_n dL_law_202 rfl rfl ?_
  refine g_aload_n dL_law_203 rfl rfl ?_
  refine g_iload_n dL_law_204 rfl rfl ?_
  refine g_iconst (v := 1) dL_law_205 (by decide) ?_
  refine g_iadd dL_law_206 ?_
  refine g_sld dL_law_207 (b1) ?_
  refine g_aload_n dL_law_208 rfl rfl ?_
  refine g_iload_n dL_law_209 rfl rfl ?_
  refine g_iconst (v := 2) dL_law_210 (by decide) ?_
  refine g_iadd dL_law_211 ?_
  refine g_sld dL_law_212 (b2) ?_
  refine g_aload_n dL_law_213 rfl rfl ?_
  refine g_iload_n dL_law_214 rfl rfl ?_
  refine g_iconst (v := 3) dL_law_215 (by decide) ?_
  refine g_iadd dL_law_216 ?_
  refine g_sld dL_law_217 (b3) ?_
  exact s_callL (M' := mX12_load) (As := [.int (xs (x1 + 1).toNatClampNeg), .int (xs (x1 + 2).toNatClampNeg), .int (xs (x1 + 3).toNatClampNeg)]) (st := [.int x2]) dL_law_218 lm_L_22 ovX12_load (h := (sk0 c, I)) (sk_120 _) (show vwCl[12]? = some _ from rfl) rfl (by simp [Value.category]) (by decide) rfl (k4)
set_option maxRecDepth 10000 in
set_option maxHeartbeats 4000000 in
theorem sg_law_245 {l : Launch} {Z : mx_G → List Frame → Array Value → State → State → Prop} {L0 : Nat} {xs : Nat → Int32} {c : Nat} {I : mx_I} (x1 : Int32) (x2 : Int32)
    (b1 : vp_in (x1 + 1) L0)
    (b2 : vp_in (x1 + 2) L0)
    (b3 : vp_in (x1 + 3) L0)
    (k4 : mx_K1 l mX12_fetch 100 [.ref 120, .int (xs (x1 + 1).toNatClampNeg), .int (xs (x1 + 2).toNatClampNeg), .int (xs (x1 + 3).toNatClampNeg)] (sk0 c, I) (fun r h' => mx_Go l room_1 mL_law (mx_S L0 xs Z) 132 13954 264 [.ref 1000, .ref 0, .ref 120, .int x1] (r.toList ++ [.int x2]) h')) :
    mx_Go l room_1 mL_law (mx_S L0 xs Z) 132 13954 245 [.ref 1000, .ref 0, .ref 120, .int x1] [.int x2] (sk0 c, I) := by
  refine g_aload_n dL_law_245 rfl rfl ?_
  refine g_aload_n dL_law_246 rfl rfl ?_
  refine g_iload_n dL_law_247 rfl rfl ?_
  refine g_iconst (v := 1) dL_law_248 (by decide) ?_
  refine g_iadd dL_law_249 ?_
  refine g_sld dL_law_250 (b1) ?_
  refine g_aload_n dL_law_251 rfl rfl ?_
  refine g_iload_n dL_law_252 rfl rfl ?_
  refine g_iconst (v := 2) dL_law_253 (by decide) ?_
  refine g_iadd dL_law_254 ?_
  refine g_sld dL_law_255 (b2) ?_
  refine g_aload_n dL_law_256 rfl rfl ?_
  refine g_iload_n dL_law_257 rfl rfl ?_
  refine g_iconst (v := 3) dL_law_258 (by decide) ?_
  refine g_iadd dL_law_259 ?_
  refine g_sld dL_law_260 (b3) ?_
  exact s_callL (M' := mX12_fetch) (As := [.int (xs (x1 + 1).toNatClampNeg), .int (xs (x1 + 2).toNatClampNeg), .int (xs (x1 + 3).toNatClampNeg)]) (st := [.int x2]) dL_law_261 lm_L_27 ovX12_fetch (h := (sk0 c, I)) (sk_120 _) (show vwCl[12]? = some _ from rfl) rfl (by simp [Value.category]) (by decide) rfl (k4)
set_option maxRecDepth 10000 in
set_option maxHeartbeats 4000000 in
theorem sg_law_304 {l : Launch} {Z : mx_G → List Frame → Array Value → State → State → Prop} {L0 : Nat} {xs : Nat → Int32} {c : Nat} {I : mx_I} (x1 : Int32) (x2 : Int32)
    (b1 : vp_in (x1 + 1) L0)
    (b2 : vp_in (x1 + 2) L0)
    (b3 : vp_in (x1 + 3) L0)
    (b4 : vp_in (x1 + 4) L0)
    (b5 : vp_in (x1 + 5) L0)
    (b6 : vp_in (x1 + 6) L0)
    (k7 : mx_K1 l mX12_crosser 100 [.ref 120, .int (xs (x1 + 1).toNatClampNeg), .int (xs (x1 + 2).toNatClampNeg), .int (xs (x1 + 3).toNatClampNeg), .int (xs (x1 + 4).toNatClampNeg), .int (xs (x1 + 5).toNatClampNeg), .int (xs (x1 + 6).toNatClampNeg)] (sk0 c, I) (fun r h' => mx_Go l room_1 mL_law (mx_S L0 xs Z) 132 13954 339 [.ref 1000, .ref 0, .ref 120, .int x1] (r.toList ++ [.int x2]) h')) :
    mx_Go l room_1 mL_law (mx_S L0 xs Z) 132 13954 304 [.ref 1000, .ref 0, .ref 120, .int x1] [.int x2] (sk0 c, I) := by
  refine g_aload_n dL_law_304 rfl rfl ?_
  refine g_aload_n dL_law_305 rfl rfl ?_
  refine g_iload_n dL_law_306 rfl rfl ?_
  refine g_iconst (v := 1) dL_law_307 (by decide) ?_
  refine g_iadd dL_law_308 ?_
  refine g_sld dL_law_309 (b1) ?_
  refine g_aload_n dL_law_310 rfl rfl ?_
  refine g_iload_n dL_law_311 rfl rfl ?_
  refine g_iconst (v := 2) dL_law_312 (by decide) ?_
  refine g_iadd dL_law_313 ?_
  refine g_sld dL_law_314 (b2) ?_
  refine g_aload_n dL_law_315 rfl rfl ?_
  refine g_iload_n dL_law_316 rfl rfl ?_
  refine g_iconst (v := 3) dL_law_317 (by decide) ?_
  refine g_iadd dL_law_318 ?_
  refine g_sld dL_law_319 (b3) ?_
  refine g_aload_n dL_law_320 rfl rfl ?_
  refine g_iload_n dL_law_321 rfl rfl ?_
  refine g_iconst (v := 4) dL_law_322 (by decide) ?_
  refine g_iadd dL_law_323 ?_
  refine g_sld dL_law_324 (b4) ?_
  refine g_aload_n dL_law_325 rfl rfl ?_
  refine g_iload_n dL_law_326 rfl rfl ?_
  refine g_iconst (v := 5) dL_law_327 (by decide) ?_
  refine g_iadd dL_law_328 ?_
  refine g_sld dL_law_329 (b5) ?_
  refine g_aload_n dL_law_330 rfl rfl ?_
  refine g_iload_n dL_law_331 rfl rfl ?_
  refine g_bipush (v := 6) dL_law_332 (by decide) ?_
  refine g_iadd dL_law_334 ?_
  refine g_sld dL_law_335 (b6) ?_
  exact s_callL (M' := mX12_crosser) (As := [.int (xs (x1 + 1).toNatClampNeg), .int (xs (x1 + 2).toNatClampNeg), .int (xs (x1 + 3).toNatClampNeg), .int (xs (x1 + 4).toNatClampNeg), .int (xs (x1 + 5).toNatClampNeg), .int (xs (x1 + 6).toNatClampNeg)]) (st := [.int x2]) dL_law_336 lm_L_32 ovX12_crosser (h := (sk0 c, I)) (sk_120 _) (show vwCl[12]? = some _ from rfl) rfl (by simp [Value.category]) (by decide) rfl (k7)
set_option maxRecDepth 10000 in
set_option maxHeartbeats 4000000 in
theorem sg_law_363 {l : Launch} {Z : mx_G → List Frame → Array Value → State → State → Prop} {L0 : Nat} {xs : Nat → Int32} {c : Nat} {I : mx_I} (x1 : Int32) (x2 : Int32)
    (b1 : vp_in (x1 + 1) L0)
    (b2 : vp_in (x1 + 2) L0)
    (b3 : vp_in (x1 + 3) L0)
    (k4 : mx_K1 l mX12_kind 100 [.ref 120, .int (xs (x1 + 1).toNatClampNeg), .int (xs (x1 + 2).toNatClampNeg), .int (xs (x1 + 3).toNatClampNeg)] (sk0 c, I) (fun r h' => mx_Go l room_1 mL_law (mx_S L0 xs Z) 132 13954 382 [.ref 1000, .ref 0, .ref 120, .int x1] (r.toList ++ [.int x2]) h')) :
    mx_Go l room_1 mL_law (mx_S L0 xs Z) 132 13954 363 [.ref 1000, .ref 0, .ref 120, .int x1] [.int x2] (sk0 c, I) := by
  refine g_aload_n dL_law_363 rfl rfl ?_
  refine g_aload_n dL_law_364 rfl rfl ?_
  refine g_iload_n dL_law_365 rfl rfl ?_
  refine g_iconst (v := 1) dL_law_366 (by decide) ?_
  refine g_iadd dL_law_367 ?_
  refine g_sld dL_law_368 (b1) ?_
  refine g_aload_n dL_law_369 rfl rfl ?_
  refine g_iload_n dL_law_370 rfl rfl ?_
  refine g_iconst (v := 2) dL_law_371 (by decide) ?_
  refine g_iadd dL_law_372 ?_
  refine g_sld dL_law_373 (b2) ?_
  refine g_aload_n dL_law_374 rfl rfl ?_
  refine g_iload_n dL_law_375 rfl rfl ?_
  refine g_iconst (v := 3) dL_law_376 (by decide) ?_
  refine g_iadd dL_law_377 ?_
  refine g_sld dL_law_378 (b3) ?_
  exact s_callL (M' := mX12_kind) (As := [.int (xs (x1 + 1).toNatClampNeg), .int (xs (x1 + 2).toNatClampNeg), .int (xs (x1 + 3).toNatClampNeg)]) (st := [.int x2]) dL_law_379 lm_L_36 ovX12_kind (h := (sk0 c, I)) (sk_120 _) (show vwCl[12]? = some _ from rfl) rfl (by simp [Value.category]) (by decide) rfl (k4)
set_option maxRecDepth 10000 in
set_option maxHeartbeats 4000000 in
theorem sg_law_406 {l : Launch} {Z : mx_G → List Frame → Array Value → State → State → Prop} {L0 : Nat} {xs : Nat → Int32} {c : Nat} {I : mx_I} (x1 : Int32) (x2 : Int32)
    (b1 : vp_in (x1 + 1) L0)
    (b2 : vp_in (x1 + 2) L0)
    (b3 : vp_in (x1 + 3) L0)
    (k4 : mx_K1 l mX12_set 100 [.ref 120, .int (xs (x1 + 1).toNatClampNeg), .int (xs (x1 + 2).toNatClampNeg), .int (xs (x1 + 3).toNatClampNeg)] (sk0 c, I) (fun r h' => mx_Go l room_1 mL_law (mx_S L0 xs Z) 132 13954 425 [.ref 1000, .ref 0, .ref 120, .int x1] (r.toList ++ [.int x2]) h')) :
    mx_Go l room_1 mL_law (mx_S L0 xs Z) 132 13954 406 [.ref 1000, .ref 0, .ref 120, .int x1] [.int x2] (sk0 c, I) := by
  refine g_aload_n dL_law_406 rfl rfl ?_
  refine g_aload_n dL_law_407 rfl rfl ?_
  refine g_iload_n dL_law_408 rfl rfl ?_
  refine g_iconst (v := 1) dL_law_409 (by decide) ?_
  refine g_iadd dL_law_410 ?_
  refine g_sld dL_law_411 (b1) ?_
  refine g_aload_n dL_law_412 rfl rfl ?_
  refine g_iload_n dL_law_413 rfl rfl ?_
  refine g_iconst (v := 2) dL_law_414 (by decide) ?_
  refine g_iadd dL_law_415 ?_
  refine g_sld dL_law_416 (b2) ?_
  refine g_aload_n dL_law_417 rfl rfl ?_
  refine g_iload_n dL_law_418 rfl rfl ?_
  refine g_iconst (v := 3) dL_law_419 (by decide) ?_
  refine g_iadd dL_law_420 ?_
  refine g_sld dL_law_421 (b3) ?_
  exact s_callL (M' := mX12_set) (As := [.int (xs (x1 + 1).toNatClampNeg), .int (xs (x1 + 2).toNatClampNeg), .int (xs (x1 + 3).toNatClampNeg)]) (st := [.int x2]) dL_law_422 lm_L_40 ovX12_set (h := (sk0 c, I)) (sk_120 _) (show vwCl[12]? = some _ from rfl) rfl (by simp [Value.category]) (by decide) rfl (k4)
set_option maxRecDepth 10000 in
set_option maxHeartbeats 4000000 in
theorem sg_law_459 {l : Launch} {Z : mx_G → List Frame → Array Value → State → State → Prop} {L0 : Nat} {xs : Nat → Int32} {c : Nat} {I : mx_I} (x1 : Int32) (x2 : Int32)
    (b1 : vp_in (x1 + 1) L0)
    (b2 : vp_in (x1 + 2) L0)
    (b3 : vp_in (x1 + 3) L0)
    (b4 : vp_in (x1 + 4) L0)
    (b5 : vp_in (x1 + 5) L0)
    (k6 : mx_K1 l mX12_feed 100 [.ref 120, .int (xs (x1 + 1).toNatClampNeg), .int (xs (x1 + 2).toNatClampNeg), .int (xs (x1 + 3).toNatClampNeg), .int (xs (x1 + 4).toNatClampNeg), .int (xs (x1 + 5).toNatClampNeg)] (sk0 c, I) (fun r h' => mx_Go l room_1 mL_law (mx_S L0 xs Z) 132 13954 488 [.ref 1000, .ref 0, .ref 120, .int x1] (r.toList ++ [.int x2]) h')) :
    mx_Go l room_1 mL_law (mx_S L0 xs Z) 132 13954 459 [.ref 1000, .ref 0, .ref 120, .int x1] [.int x2] (sk0 c, I) := by
  refine g_aload_n dL_law_459 rfl rfl ?_
  refine g_aload_n dL_law_460 rfl rfl ?_
  refine g_iload_n dL_law_461 rfl rfl ?_
  refine g_iconst (v := 1) dL_law_462 (by decide) ?_
  refine g_iadd dL_law_463 ?_
  refine g_sld dL_law_464 (b1) ?_
  refine g_aload_n dL_law_465 rfl rfl ?_
  refine g_iload_n dL_law_466 rfl rfl ?_
  refine g_iconst (v := 2) dL_law_467 (by decide) ?_
  refine g_iadd dL_law_468 ?_
  refine g_sld dL_law_469 (b2) ?_
  refine g_aload_n dL_law_470 rfl rfl ?_
  refine g_iload_n dL_law_471 rfl rfl ?_
  refine g_iconst (v := 3) dL_law_472 (by decide) ?_
  refine g_iadd dL_law_473 ?_
  refine g_sld dL_law_474 (b3) ?_
  refine g_aload_n dL_law_475 rfl rfl ?_
  refine g_iload_n dL_law_476 rfl rfl ?_
  refine g_iconst (v := 4) dL_law_477 (by decide) ?_
  refine g_iadd dL_law_478 ?_
  refine g_sld dL_law_479 (b4) ?_
  refine g_aload_n dL_law_480 rfl rfl ?_
  refine g_iload_n dL_law_481 rfl rfl ?_
  refine g_iconst (v := 5) dL_law_482 (by decide) ?_
  refine g_iadd dL_law_483 ?_
  refine g_sld dL_law_484 (b5) ?_
  exact s_callL (M' := mX12_feed) (As := [.int (xs (x1 + 1).toNatClampNeg), .int (xs (x1 + 2).toNatClampNeg), .int (xs (x1 + 3).toNatClampNeg), .int (xs (x1 + 4).toNatClampNeg), .int (xs (x1 + 5).toNatClampNeg)]) (st := [.int x2]) dL_law_485 lm_L_45 ovX12_feed (h := (sk0 c, I)) (sk_120 _) (show vwCl[12]? = some _ from rfl) rfl (by simp [Value.category]) (by decide) rfl (k6)
set_option maxRecDepth 10000 in
set_option maxHeartbeats 4000000 in
theorem sg_law_502 {l : Launch} {Z : mx_G → List Frame → Array Value → State → State → Prop} {L0 : Nat} {xs : Nat → Int32} {c : Nat} {I : mx_I} (x1 : Int32) (x2 : Int32)
    (b1 : vp_in (x1 + 1) L0)
    (k2 : mx_K1 l mX12_end 100 [.ref 120, .int (xs (x1 + 1).toNatClampNeg)] (sk0 c, I) (fun r h' => mx_Go l room_1 mL_law (mx_S L0 xs Z) 132 13954 511 [.ref 1000, .ref 0, .ref 120, .int x1] (r.toList ++ [.int x2]) h')) :
    mx_Go l room_1 mL_law (mx_S L0 xs Z) 132 13954 502 [.ref 1000, .ref 0, .ref 120, .int x1] [.int x2] (sk0 c, I) := by
  refine g_aload_n dL_law_502 rfl rfl ?_
  refine g_aload_n dL_law_503 rfl rfl ?_
  refine g_iload_n dL_law_504 rfl rfl ?_
  refine g_iconst (v := 1) dL_law_505 (by decide) ?_
  refine g_iadd dL_law_506 ?_
  refine g_sld dL_law_507 (b1) ?_
  exact s_callL (M' := mX12_end) (As := [.int (xs (x1 + 1).toNatClampNeg)]) (st := [.int x2]) dL_law_508 lm_L_49 ovX12_end (h := (sk0 c, I)) (sk_120 _) (show vwCl[12]? = some _ from rfl) rfl (by simp [Value.category]) (by decide) rfl (k2)
set_option maxRecDepth 10000 in
set_option maxHeartbeats 4000000 in
theorem sg_law_520 {l : Launch} {Z : mx_G → List Frame → Array Value → State → State → Prop} {L0 : Nat} {xs : Nat → Int32} {c : Nat} {I : mx_I} (x1 : Int32) (x2 : Int32)
    (k1 : mx_K1 l mX12_text 100 [.ref 120] (sk0 c, I) (fun r h' => mx_Go l room_1 mL_law (mx_S L0 xs Z) 132 13954 524 [.ref 1000, .ref 0, .ref 120, .int x1] (r.toList ++ [.int x2]) h')) :
    mx_Go l room_1 mL_law (mx_S L0 xs Z) 132 13954 520 [.ref 1000, .ref 0, .ref 120, .int x1] [.int x2] (sk0 c, I) := by
  refine g_aload_n dL_law_520 rfl rfl ?_
  exact s_callL (M' := mX12_text) (As := []) (st := [.int x2]) dL_law_521 lm_L_54 ovX12_text (h := (sk0 c, I)) (sk_120 _) (show vwCl[12]? = some _ from rfl) rfl (by simp [Value.category]) (by decide) rfl (k1)
set_option maxRecDepth 10000 in
set_option maxHeartbeats 4000000 in
theorem sg_law_538 {l : Launch} {Z : mx_G → List Frame → Array Value → State → State → Prop} {L0 : Nat} {xs : Nat → Int32} {c : Nat} {I : mx_I} (x1 : Int32) (x2 : Int32)
    (b1 : vp_in (x1 + 1) L0)
    (k2 : mx_K1 l mX12_fault 100 [.ref 120, .int (xs (x1 + 1).toNatClampNeg)] (sk0 c, I) (fun r h' => mx_Go l room_1 mL_law (mx_S L0 xs Z) 132 13954 547 [.ref 1000, .ref 0, .ref 120, .int x1] (r.toList ++ [.int x2]) h')) :
    mx_Go l room_1 mL_law (mx_S L0 xs Z) 132 13954 538 [.ref 1000, .ref 0, .ref 120, .int x1] [.int x2] (sk0 c, I) := by
  refine g_aload_n dL_law_538 rfl rfl ?_
  refine g_aload_n dL_law_539 rfl rfl ?_
  refine g_iload_n dL_law_540 rfl rfl ?_
  refine g_iconst (v := 1) dL_law_541 (by decide) ?_
  refine g_iadd dL_law_542 ?_
  refine g_sld dL_law_543 (b1) ?_
  exact s_callL (M' := mX12_fault) (As := [.int (xs (x1 + 1).toNatClampNeg)]) (st := [.int x2]) dL_law_544 lm_L_59 ovX12_fault (h := (sk0 c, I)) (sk_120 _) (show vwCl[12]? = some _ from rfl) rfl (by simp [Value.category]) (by decide) rfl (k2)
set_option maxRecDepth 10000 in
set_option maxHeartbeats 4000000 in
theorem sg_law_561 {l : Launch} {Z : mx_G → List Frame → Array Value → State → State → Prop} {L0 : Nat} {xs : Nat → Int32} {c : Nat} {I : mx_I} (x1 : Int32) (x2 : Int32)
    (b1 : vp_in (x1 + 1) L0)
    (k2 : mx_K1 l mX12_hours 100 [.ref 120, .int (xs (x1 + 1).toNatClampNeg)] (sk0 c, I) (fun r h' => mx_Go l room_1 mL_law (mx_S L0 xs Z) 132 13954 570 [.ref 1000, .ref 0, .ref 120, .int x1] (r.toList ++ [.int x2]) h')) :
    mx_Go l room_1 mL_law (mx_S L0 xs Z) 132 13954 561 [.ref 1000, .ref 0, .ref 120, .int x1] [.int x2] (sk0 c, I) := by
  refine g_aload_n dL_law_561 rfl rfl ?_
  refine g_aload_n dL_law_562 rfl rfl ?_
  refine g_iload_n dL_law_563 rfl rfl ?_
  refine g_iconst (v := 1) dL_law_564 (by decide) ?_
  refine g_iadd dL_law_565 ?_
  refine g_sld dL_law_566 (b1) ?_
  exact s_callL (M' := mX12_hours) (As := [.int (xs (x1 + 1).toNatClampNeg)]) (st := [.int x2]) dL_law_567 lm_L_63 ovX12_hours (h := (sk0 c, I)) (sk_120 _) (show vwCl[12]? = some _ from rfl) rfl (by simp [Value.category]) (by decide) rfl (k2)
set_option maxRecDepth 10000 in
set_option maxHeartbeats 4000000 in
theorem sg_law_589 {l : Launch} {Z : mx_G → List Frame → Array Value → State → State → Prop} {L0 : Nat} {xs : Nat → Int32} {c : Nat} {I : mx_I} (x1 : Int32) (x2 : Int32)
    (b1 : vp_in (x1 + 1) L0)
    (b2 : vp_in (x1 + 2) L0)
    (k3 : mx_K1 l mX12_of 100 [.ref 120, .int (xs (x1 + 1).toNatClampNeg), .int (xs (x1 + 2).toNatClampNeg)] (sk0 c, I) (fun r h' => mx_Go l room_1 mL_law (mx_S L0 xs Z) 132 13954 603 [.ref 1000, .ref 0, .ref 120, .int x1] (r.toList ++ [.int x2]) h')) :
    mx_Go l room_1 mL_law (mx_S L0 xs Z) 132 13954 589 [.ref 1000, .ref 0, .ref 120, .int x1] [.int x2] (sk0 c, I) := by
  refine g_aload_n dL_law_589 rfl rfl ?_
  refine g_aload_n dL_law_590 rfl rfl ?_
  refine g_iload_n dL_law_591 rfl rfl ?_
  refine g_iconst (v := 1) dL_law_592 (by decide) ?_
  refine g_iadd dL_law_593 ?_
  refine g_sld dL_law_594 (b1) ?_
  refine g_aload_n dL_law_595 rfl rfl ?_
  refine g_iload_n dL_law_596 rfl rfl ?_
  refine g_iconst (v := 2) dL_law_597 (by decide) ?_
  refine g_iadd dL_law_598 ?_
  refine g_sld dL_law_599 (b2) ?_
  exact s_callL (M' := mX12_of) (As := [.int (xs (x1 + 1).toNatClampNeg), .int (xs (x1 + 2).toNatClampNeg)]) (st := [.int x2]) dL_law_600 lm_L_68 ovX12_of (h := (sk0 c, I)) (sk_120 _) (show vwCl[12]? = some _ from rfl) rfl (by simp [Value.category]) (by decide) rfl (k3)
set_option maxRecDepth 10000 in
set_option maxHeartbeats 4000000 in
theorem sg_law_622 {l : Launch} {Z : mx_G → List Frame → Array Value → State → State → Prop} {L0 : Nat} {xs : Nat → Int32} {c : Nat} {I : mx_I} (x1 : Int32) (x2 : Int32)
    (b1 : vp_in (x1 + 1) L0)
    (b2 : vp_in (x1 + 2) L0)
    (k3 : mx_K1 l mX12_who 100 [.ref 120, .int (xs (x1 + 1).toNatClampNeg), .int (xs (x1 + 2).toNatClampNeg)] (sk0 c, I) (fun r h' => mx_Go l room_1 mL_law (mx_S L0 xs Z) 132 13954 636 [.ref 1000, .ref 0, .ref 120, .int x1] (r.toList ++ [.int x2]) h')) :
    mx_Go l room_1 mL_law (mx_S L0 xs Z) 132 13954 622 [.ref 1000, .ref 0, .ref 120, .int x1] [.int x2] (sk0 c, I) := by
  refine g_aload_n dL_law_622 rfl rfl ?_
  refine g_aload_n dL_law_623 rfl rfl ?_
  refine g_iload_n dL_law_624 rfl rfl ?_
  refine g_iconst (v := 1) dL_law_625 (by decide) ?_
  refine g_iadd dL_law_626 ?_
  refine g_sld dL_law_627 (b1) ?_
  refine g_aload_n dL_law_628 rfl rfl ?_
  refine g_iload_n dL_law_629 rfl rfl ?_
  refine g_iconst (v := 2) dL_law_630 (by decide) ?_
  refine g_iadd dL_law_631 ?_
  refine g_sld dL_law_632 (b2) ?_
  exact s_callL (M' := mX12_who) (As := [.int (xs (x1 + 1).toNatClampNeg), .int (xs (x1 + 2).toNatClampNeg)]) (st := [.int x2]) dL_law_633 lm_L_72 ovX12_who (h := (sk0 c, I)) (sk_120 _) (show vwCl[12]? = some _ from rfl) rfl (by simp [Value.category]) (by decide) rfl (k3)
set_option maxRecDepth 10000 in
set_option maxHeartbeats 4000000 in
theorem sg_law_655 {l : Launch} {Z : mx_G → List Frame → Array Value → State → State → Prop} {L0 : Nat} {xs : Nat → Int32} {c : Nat} {I : mx_I} (x1 : Int32) (x2 : Int32)
    (b1 : vp_in (x1 + 1) L0)
    (b2 : vp_in (x1 + 2) L0)
    (k3 : mx_K1 l mX12_waits 100 [.ref 120, .int (xs (x1 + 1).toNatClampNeg), .int (xs (x1 + 2).toNatClampNeg)] (sk0 c, I) (fun r h' => mx_Go l room_1 mL_law (mx_S L0 xs Z) 132 13954 669 [.ref 1000, .ref 0, .ref 120, .int x1] (r.toList ++ [.int x2]) h')) :
    mx_Go l room_1 mL_law (mx_S L0 xs Z) 132 13954 655 [.ref 1000, .ref 0, .ref 120, .int x1] [.int x2] (sk0 c, I) := by
  refine g_aload_n dL_law_655 rfl rfl ?_
  refine g_aload_n dL_law_656 rfl rfl ?_
  refine g_iload_n dL_law_657 rfl rfl ?_
  refine g_iconst (v := 1) dL_law_658 (by decide) ?_
  refine g_iadd dL_law_659 ?_
  refine g_sld dL_law_660 (b1) ?_
  refine g_aload_n dL_law_661 rfl rfl ?_
  refine g_iload_n dL_law_662 rfl rfl ?_
  refine g_iconst (v := 2) dL_law_663 (by decide) ?_
  refine g_iadd dL_law_664 ?_
  refine g_sld dL_law_665 (b2) ?_
  exact s_callL (M' := mX12_waits) (As := [.int (xs (x1 + 1).toNatClampNeg), .int (xs (x1 + 2).toNatClampNeg)]) (st := [.int x2]) dL_law_666 lm_L_76 ovX12_waits (h := (sk0 c, I)) (sk_120 _) (show vwCl[12]? = some _ from rfl) rfl (by simp [Value.category]) (by decide) rfl (k3)
set_option maxRecDepth 10000 in
set_option maxHeartbeats 4000000 in
theorem sg_law_688 {l : Launch} {Z : mx_G → List Frame → Array Value → State → State → Prop} {L0 : Nat} {xs : Nat → Int32} {c : Nat} {I : mx_I} (x1 : Int32) (x2 : Int32)
    (b1 : vp_in (x1 + 1) L0)
    (b2 : vp_in (x1 + 2) L0)
    (k3 : mx_K1 l mX12_book 100 [.ref 120, .int (xs (x1 + 1).toNatClampNeg), .int (xs (x1 + 2).toNatClampNeg)] (sk0 c, I) (fun r h' => mx_Go l room_1 mL_law (mx_S L0 xs Z) 132 13954 702 [.ref 1000, .ref 0, .ref 120, .int x1] (r.toList ++ [.int x2]) h')) :
    mx_Go l room_1 mL_law (mx_S L0 xs Z) 132 13954 688 [.ref 1000, .ref 0, .ref 120, .int x1] [.int x2] (sk0 c, I) := by
  refine g_aload_n dL_law_688 rfl rfl ?_
  refine g_aload_n dL_law_689 rfl rfl ?_
  refine g_iload_n dL_law_690 rfl rfl ?_
  refine g_iconst (v := 1) dL_law_691 (by decide) ?_
  refine g_iadd dL_law_692 ?_
  refine g_sld dL_law_693 (b1) ?_
  refine g_aload_n dL_law_694 rfl rfl ?_
  refine g_iload_n dL_law_695 rfl rfl ?_
  refine g_iconst (v := 2) dL_law_696 (by decide) ?_
  refine g_iadd dL_law_697 ?_
  refine g_sld dL_law_698 (b2) ?_
  exact s_callL (M' := mX12_book) (As := [.int (xs (x1 + 1).toNatClampNeg), .int (xs (x1 + 2).toNatClampNeg)]) (st := [.int x2]) dL_law_699 lm_L_80 ovX12_book (h := (sk0 c, I)) (sk_120 _) (show vwCl[12]? = some _ from rfl) rfl (by simp [Value.category]) (by decide) rfl (k3)
set_option maxRecDepth 10000 in
set_option maxHeartbeats 4000000 in
theorem sg_law_721 {l : Launch} {Z : mx_G → List Frame → Array Value → State → State → Prop} {L0 : Nat} {xs : Nat → Int32} {c : Nat} {I : mx_I} (x1 : Int32) (x2 : Int32)
    (b1 : vp_in (x1 + 1) L0)
    (b2 : vp_in (x1 + 2) L0)
    (k3 : mx_K1 l mX12_over 100 [.ref 120, .int (xs (x1 + 1).toNatClampNeg), .int (xs (x1 + 2).toNatClampNeg)] (sk0 c, I) (fun r h' => mx_Go l room_1 mL_law (mx_S L0 xs Z) 132 13954 735 [.ref 1000, .ref 0, .ref 120, .int x1] (r.toList ++ [.int x2]) h')) :
    mx_Go l room_1 mL_law (mx_S L0 xs Z) 132 13954 721 [.ref 1000, .ref 0, .ref 120, .int x1] [.int x2] (sk0 c, I) := by
  refine g_aload_n dL_law_721 rfl rfl ?_
  refine g_aload_n dL_law_722 rfl rfl ?_
  refine g_iload_n dL_law_723 rfl rfl ?_
  refine g_iconst (v := 1) dL_law_724 (by decide) ?_
  refine g_iadd dL_law_725 ?_
  refine g_sld dL_law_726 (b1) ?_
  refine g_aload_n dL_law_727 rfl rfl ?_
  refine g_iload_n dL_law_728 rfl rfl ?_
  refine g_iconst (v := 2) dL_law_729 (by decide) ?_
  refine g_iadd dL_law_730 ?_
  refine g_sld dL_law_731 (b2) ?_
  exact s_callL (M' := mX12_over) (As := [.int (xs (x1 + 1).toNatClampNeg), .int (xs (x1 + 2).toNatClampNeg)]) (st := [.int x2]) dL_law_732 lm_L_84 ovX12_over (h := (sk0 c, I)) (sk_120 _) (show vwCl[12]? = some _ from rfl) rfl (by simp [Value.category]) (by decide) rfl (k3)
set_option maxRecDepth 10000 in
set_option maxHeartbeats 4000000 in
theorem sg_law_749 {l : Launch} {Z : mx_G → List Frame → Array Value → State → State → Prop} {L0 : Nat} {xs : Nat → Int32} {c : Nat} {I : mx_I} (x1 : Int32) (x2 : Int32)
    (b1 : vp_in (x1 + 1) L0)
    (k2 : mx_K1 l mX12_back 100 [.ref 120, .int (xs (x1 + 1).toNatClampNeg)] (sk0 c, I) (fun r h' => mx_Go l room_1 mL_law (mx_S L0 xs Z) 132 13954 758 [.ref 1000, .ref 0, .ref 120, .int x1] (r.toList ++ [.int x2]) h')) :
    mx_Go l room_1 mL_law (mx_S L0 xs Z) 132 13954 749 [.ref 1000, .ref 0, .ref 120, .int x1] [.int x2] (sk0 c, I) := by
  refine g_aload_n dL_law_749 rfl rfl ?_
  refine g_aload_n dL_law_750 rfl rfl ?_
  refine g_iload_n dL_law_751 rfl rfl ?_
  refine g_iconst (v := 1) dL_law_752 (by decide) ?_
  refine g_iadd dL_law_753 ?_
  refine g_sld dL_law_754 (b1) ?_
  exact s_callL (M' := mX12_back) (As := [.int (xs (x1 + 1).toNatClampNeg)]) (st := [.int x2]) dL_law_755 lm_L_88 ovX12_back (h := (sk0 c, I)) (sk_120 _) (show vwCl[12]? = some _ from rfl) rfl (by simp [Value.category]) (by decide) rfl (k2)
set_option maxRecDepth 10000 in
set_option maxHeartbeats 4000000 in
theorem sg_law_782 {l : Launch} {Z : mx_G → List Frame → Array Value → State → State → Prop} {L0 : Nat} {xs : Nat → Int32} {c : Nat} {I : mx_I} (x1 : Int32) (x2 : Int32)
    (b1 : vp_in (x1 + 1) L0)
    (b2 : vp_in (x1 + 2) L0)
    (b3 : vp_in (x1 + 3) L0)
    (k4 : mx_K1 l mX12_gathers 100 [.ref 120, .int (xs (x1 + 1).toNatClampNeg), .int (xs (x1 + 2).toNatClampNeg), .int (xs (x1 + 3).toNatClampNeg)] (sk0 c, I) (fun r h' => mx_Go l room_1 mL_law (mx_S L0 xs Z) 132 13954 801 [.ref 1000, .ref 0, .ref 120, .int x1] (r.toList ++ [.int x2]) h')) :
    mx_Go l room_1 mL_law (mx_S L0 xs Z) 132 13954 782 [.ref 1000, .ref 0, .ref 120, .int x1] [.int x2] (sk0 c, I) := by
  refine g_aload_n dL_law_782 rfl rfl ?_
  refine g_aload_n dL_law_783 rfl rfl ?_
  refine g_iload_n dL_law_784 rfl rfl ?_
  refine g_iconst (v := 1) dL_law_785 (by decide) ?_
  refine g_iadd dL_law_786 ?_
  refine g_sld dL_law_787 (b1) ?_
  refine g_aload_n dL_law_788 rfl rfl ?_
  refine g_iload_n dL_law_789 rfl rfl ?_
  refine g_iconst (v := 2) dL_law_790 (by decide) ?_
  refine g_iadd dL_law_791 ?_
  refine g_sld dL_law_792 (b2) ?_
  refine g_aload_n dL_law_793 rfl rfl ?_
  refine g_iload_n dL_law_794 rfl rfl ?_
  refine g_iconst (v := 3) dL_law_795 (by decide) ?_
  refine g_iadd dL_law_796 ?_
  refine g_sld dL_law_797 (b3) ?_
  exact s_callL (M' := mX12_gathers) (As := [.int (xs (x1 + 1).toNatClampNeg), .int (xs (x1 + 2).toNatClampNeg), .int (xs (x1 + 3).toNatClampNeg)]) (st := [.int x2]) dL_law_798 lm_L_92 ovX12_gathers (h := (sk0 c, I)) (sk_120 _) (show vwCl[12]? = some _ from rfl) rfl (by simp [Value.category]) (by decide) rfl (k4)
set_option maxRecDepth 10000 in
set_option maxHeartbeats 4000000 in
theorem sg_law_841 {l : Launch} {Z : mx_G → List Frame → Array Value → State → State → Prop} {L0 : Nat} {xs : Nat → Int32} {c : Nat} {I : mx_I} (x1 : Int32) (x2 : Int32)
    (b1 : vp_in (x1 + 1) L0)
    (b2 : vp_in (x1 + 2) L0)
    (b3 : vp_in (x1 + 3) L0)
    (b4 : vp_in (x1 + 4) L0)
    (b5 : vp_in (x1 + 5) L0)
    (b6 : vp_in (x1 + 6) L0)
    (k7 : mx_K1 l mX12_best 100 [.ref 120, .int (xs (x1 + 1).toNatClampNeg), .int (xs (x1 + 2).toNatClampNeg), .int (xs (x1 + 3).toNatClampNeg), .int (xs (x1 + 4).toNatClampNeg), .int (xs (x1 + 5).toNatClampNeg), .int (xs (x1 + 6).toNatClampNeg)] (sk0 c, I) (fun r h' => mx_Go l room_1 mL_law (mx_S L0 xs Z) 132 13954 876 [.ref 1000, .ref 0, .ref 120, .int x1] (r.toList ++ [.int x2]) h')) :
    mx_Go l room_1 mL_law (mx_S L0 xs Z) 132 13954 841 [.ref 1000, .ref 0, .ref 120, .int x1] [.int x2] (sk0 c, I) := by
  refine g_aload_n dL_law_841 rfl rfl ?_
  refine g_aload_n dL_law_842 rfl rfl ?_
  refine g_iload_n dL_law_843 rfl rfl ?_
  refine g_iconst (v := 1) dL_law_844 (by decide) ?_
  refine g_iadd dL_law_845 ?_
  refine g_sld dL_law_846 (b1) ?_
  refine g_aload_n dL_law_847 rfl rfl ?_
  refine g_iload_n dL_law_848 rfl rfl ?_
  refine g_iconst (v := 2) dL_law_849 (by decide) ?_
  refine g_iadd dL_law_850 ?_
  refine g_sld dL_law_851 (b2) ?_
  refine g_aload_n dL_law_852 rfl rfl ?_
  refine g_iload_n dL_law_853 rfl rfl ?_
  refine g_iconst (v := 3) dL_law_854 (by decide) ?_
  refine g_iadd dL_law_855 ?_
  refine g_sld dL_law_856 (b3) ?_
  refine g_aload_n dL_law_857 rfl rfl ?_
  refine g_iload_n dL_law_858 rfl rfl ?_
  refine g_iconst (v := 4) dL_law_859 (by decide) ?_
  refine g_iadd dL_law_860 ?_
  refine g_sld dL_law_861 (b4) ?_
  refine g_aload_n dL_law_862 rfl rfl ?_
  refine g_iload_n dL_law_863 rfl rfl ?_
  refine g_iconst (v := 5) dL_law_864 (by decide) ?_
  refine g_iadd dL_law_865 ?_
  refine g_sld dL_law_866 (b5) ?_
  refine g_aload_n dL_law_867 rfl rfl ?_
  refine g_iload_n dL_law_868 rfl rfl ?_
  refine g_bipush (v := 6) dL_law_869 (by decide) ?_
  refine g_iadd dL_law_871 ?_
  refine g_sld dL_law_872 (b6) ?_
  exact s_callL (M' := mX12_best) (As := [.int (xs (x1 + 1).toNatClampNeg), .int (xs (x1 + 2).toNatClampNeg), .int (xs (x1 + 3).toNatClampNeg), .int (xs (x1 + 4).toNatClampNeg), .int (xs (x1 + 5).toNatClampNeg), .int (xs (x1 + 6).toNatClampNeg)]) (st := [.int x2]) dL_law_873 lm_L_96 ovX12_best (h := (sk0 c, I)) (sk_120 _) (show vwCl[12]? = some _ from rfl) rfl (by simp [Value.category]) (by decide) rfl (k7)
set_option maxRecDepth 10000 in
set_option maxHeartbeats 4000000 in
theorem sg_law_916 {l : Launch} {Z : mx_G → List Frame → Array Value → State → State → Prop} {L0 : Nat} {xs : Nat → Int32} {c : Nat} {I : mx_I} (x1 : Int32) (x2 : Int32)
    (b1 : vp_in (x1 + 1) L0)
    (b2 : vp_in (x1 + 2) L0)
    (b3 : vp_in (x1 + 3) L0)
    (b4 : vp_in (x1 + 4) L0)
    (b5 : vp_in (x1 + 5) L0)
    (b6 : vp_in (x1 + 6) L0)
    (k7 : mx_K1 l mX12_send 100 [.ref 120, .int (xs (x1 + 1).toNatClampNeg), .int (xs (x1 + 2).toNatClampNeg), .int (xs (x1 + 3).toNatClampNeg), .int (xs (x1 + 4).toNatClampNeg), .int (xs (x1 + 5).toNatClampNeg), .int (xs (x1 + 6).toNatClampNeg)] (sk0 c, I) (fun r h' => mx_Go l room_1 mL_law (mx_S L0 xs Z) 132 13954 951 [.ref 1000, .ref 0, .ref 120, .int x1] (r.toList ++ [.int x2]) h')) :
    mx_Go l room_1 mL_law (mx_S L0 xs Z) 132 13954 916 [.ref 1000, .ref 0, .ref 120, .int x1] [.int x2] (sk0 c, I) := by
  refine g_aload_n dL_law_916 rfl rfl ?_
  refine g_aload_n dL_law_917 rfl rfl ?_
  refine g_iload_n dL_law_918 rfl rfl ?_
  refine g_iconst (v := 1) dL_law_919 (by decide) ?_
  refine g_iadd dL_law_920 ?_
  refine g_sld dL_law_921 (b1) ?_
  refine g_aload_n dL_law_922 rfl rfl ?_
  refine g_iload_n dL_law_923 rfl rfl ?_
  refine g_iconst (v := 2) dL_law_924 (by decide) ?_
  refine g_iadd dL_law_925 ?_
  refine g_sld dL_law_926 (b2) ?_
  refine g_aload_n dL_law_927 rfl rfl ?_
  refine g_iload_n dL_law_928 rfl rfl ?_
  refine g_iconst (v := 3) dL_law_929 (by decide) ?_
  refine g_iadd dL_law_930 ?_
  refine g_sld dL_law_931 (b3) ?_
  refine g_aload_n dL_law_932 rfl rfl ?_
  refine g_iload_n dL_law_933 rfl rfl ?_
  refine g_iconst (v := 4) dL_law_934 (by decide) ?_
  refine g_iadd dL_law_935 ?_
  refine g_sld dL_law_936 (b4) ?_
  refine g_aload_n dL_law_937 rfl rfl ?_
  refine g_iload_n dL_law_938 rfl rfl ?_
  refine g_iconst (v := 5) dL_law_939 (by decide) ?_
  refine g_iadd dL_law_940 ?_
  refine g_sld dL_law_941 (b5) ?_
  refine g_aload_n dL_law_942 rfl rfl ?_
  refine g_iload_n dL_law_943 rfl rfl ?_
  refine g_bipush (v := 6) dL_law_944 (by decide) ?_
  refine g_iadd dL_law_946 ?_
  refine g_sld dL_law_947 (b6) ?_
  exact s_callL (M' := mX12_send) (As := [.int (xs (x1 + 1).toNatClampNeg), .int (xs (x1 + 2).toNatClampNeg), .int (xs (x1 + 3).toNatClampNeg), .int (xs (x1 + 4).toNatClampNeg), .int (xs (x1 + 5).toNatClampNeg), .int (xs (x1 + 6).toNatClampNeg)]) (st := [.int x2]) dL_law_948 lm_L_100 ovX12_send (h := (sk0 c, I)) (sk_120 _) (show vwCl[12]? = some _ from rfl) rfl (by simp [Value.category]) (by decide) rfl (k7)
set_option maxRecDepth 10000 in
set_option maxHeartbeats 4000000 in
theorem sg_law_985 {l : Launch} {Z : mx_G → List Frame → Array Value → State → State → Prop} {L0 : Nat} {xs : Nat → Int32} {c : Nat} {I : mx_I} (x1 : Int32) (x2 : Int32)
    (b1 : vp_in (x1 + 1) L0)
    (b2 : vp_in (x1 + 2) L0)
    (b3 : vp_in (x1 + 3) L0)
    (b4 : vp_in (x1 + 4) L0)
    (b5 : vp_in (x1 + 5) L0)
    (k6 : mx_K1 l mX12_offer 100 [.ref 120, .int (xs (x1 + 1).toNatClampNeg), .int (xs (x1 + 2).toNatClampNeg), .int (xs (x1 + 3).toNatClampNeg), .int (xs (x1 + 4).toNatClampNeg), .int (xs (x1 + 5).toNatClampNeg)] (sk0 c, I) (fun r h' => mx_Go l room_1 mL_law (mx_S L0 xs Z) 132 13954 1014 [.ref 1000, .ref 0, .ref 120, .int x1] (r.toList ++ [.int x2]) h')) :
    mx_Go l room_1 mL_law (mx_S L0 xs Z) 132 13954 985 [.ref 1000, .ref 0, .ref 120, .int x1] [.int x2] (sk0 c, I) := by
  refine g_aload_n dL_law_985 rfl rfl ?_
  refine g_aload_n dL_law_986 rfl rfl ?_
  refine g_iload_n dL_law_987 rfl rfl ?_
  refine g_iconst (v := 1) dL_law_988 (by decide) ?_
  refine g_iadd dL_law_989 ?_
  refine g_sld dL_law_990 (b1) ?_
  refine g_aload_n dL_law_991 rfl rfl ?_
  refine g_iload_n dL_law_992 rfl rfl ?_
  refine g_iconst (v := 2) dL_law_993 (by decide) ?_
  refine g_iadd dL_law_994 ?_
  refine g_sld dL_law_995 (b2) ?_
  refine g_aload_n dL_law_996 rfl rfl ?_
  refine g_iload_n dL_law_997 rfl rfl ?_
  refine g_iconst (v := 3) dL_law_998 (by decide) ?_
  refine g_iadd dL_law_999 ?_
  refine g_sld dL_law_1000 (b3) ?_
  refine g_aload_n dL_law_1001 rfl rfl ?_
  refine g_iload_n dL_law_1002 rfl rfl ?_
  refine g_iconst (v := 4) dL_law_1003 (by decide) ?_
  refine g_iadd dL_law_1004 ?_
  refine g_sld dL_law_1005 (b4) ?_
  refine g_aload_n dL_law_1006 rfl rfl ?_
  refine g_iload_n dL_law_1007 rfl rfl ?_
  refine g_iconst (v := 5) dL_law_1008 (by decide) ?_
  refine g_iadd dL_law_1009 ?_
  refine g_sld dL_law_1010 (b5) ?_
  exact s_callL (M' := mX12_offer) (As := [.int (xs (x1 + 1).toNatClampNeg), .int (xs (x1 + 2).toNatClampNeg), .int (xs (x1 + 3).toNatClampNeg), .int (xs (x1 + 4).toNatClampNeg), .int (xs (x1 + 5).toNatClampNeg)]) (st := [.int x2]) dL_law_1011 lm_L_104 ovX12_offer (h := (sk0 c, I)) (sk_120 _) (show vwCl[12]? = some _ from rfl) rfl (by simp [Value.category]) (by decide) rfl (k6)
set_option maxRecDepth 10000 in
set_option maxHeartbeats 4000000 in
theorem sg_law_1043 {l : Launch} {Z : mx_G → List Frame → Array Value → State → State → Prop} {L0 : Nat} {xs : Nat → Int32} {c : Nat} {I : mx_I} (x1 : Int32) (x2 : Int32)
    (b1 : vp_in (x1 + 1) L0)
    (b2 : vp_in (x1 + 2) L0)
    (b3 : vp_in (x1 + 3) L0)
    (b4 : vp_in (x1 + 4) L0)
    (k5 : mx_K1 l mX12_fewest 100 [.ref 120, .int (xs (x1 + 1).toNatClampNeg), .int (xs (x1 + 2).toNatClampNeg), .int (xs (x1 + 3).toNatClampNeg), .int (xs (x1 + 4).toNatClampNeg)] (sk0 c, I) (fun r h' => mx_Go l room_1 mL_law (mx_S L0 xs Z) 132 13954 1067 [.ref 1000, .ref 0, .ref 120, .int x1] (r.toList ++ [.int x2]) h')) :
    mx_Go l room_1 mL_law (mx_S L0 xs Z) 132 13954 1043 [.ref 1000, .ref 0, .ref 120, .int x1] [.int x2] (sk0 c, I) := by
  refine g_aload_n dL_law_1043 rfl rfl ?_
  refine g_aload_n dL_law_1044 rfl rfl ?_
  refine g_iload_n dL_law_1045 rfl rfl ?_
  refine g_iconst (v := 1) dL_law_1046 (by decide) ?_
  refine g_iadd dL_law_1047 ?_
  refine g_sld dL_law_1048 (b1) ?_
  refine g_aload_n dL_law_1049 rfl rfl ?_
  refine g_iload_n dL_law_1050 rfl rfl ?_
  refine g_iconst (v := 2) dL_law_1051 (by decide) ?_
  refine g_iadd dL_law_1052 ?_
  refine g_sld dL_law_1053 (b2) ?_
  refine g_aload_n dL_law_1054 rfl rfl ?_
  refine g_iload_n dL_law_1055 rfl rfl ?_
  refine g_iconst (v := 3) dL_law_1056 (by decide) ?_
  refine g_iadd dL_law_1057 ?_
  refine g_sld dL_law_1058 (b3) ?_
  refine g_aload_n dL_law_1059 rfl rfl ?_
  refine g_iload_n dL_law_1060 rfl rfl ?_
  refine g_iconst (v := 4) dL_law_1061 (by decide) ?_
  refine g_iadd dL_law_1062 ?_
  refine g_sld dL_law_1063 (b4) ?_
  exact s_callL (M' := mX12_fewest) (As := [.int (xs (x1 + 1).toNatClampNeg), .int (xs (x1 + 2).toNatClampNeg), .int (xs (x1 + 3).toNatClampNeg), .int (xs (x1 + 4).toNatClampNeg)]) (st := [.int x2]) dL_law_1064 lm_L_109 ovX12_fewest (h := (sk0 c, I)) (sk_120 _) (show vwCl[12]? = some _ from rfl) rfl (by simp [Value.category]) (by decide) rfl (k5)
set_option maxRecDepth 10000 in
set_option maxHeartbeats 4000000 in
theorem sg_law_1081 {l : Launch} {Z : mx_G → List Frame → Array Value → State → State → Prop} {L0 : Nat} {xs : Nat → Int32} {c : Nat} {I : mx_I} (x1 : Int32) (x2 : Int32)
    (b1 : vp_in (x1 + 1) L0)
    (k2 : mx_K1 l mX12_right 100 [.ref 120, .int (xs (x1 + 1).toNatClampNeg)] (sk0 c, I) (fun r h' => mx_Go l room_1 mL_law (mx_S L0 xs Z) 132 13954 1090 [.ref 1000, .ref 0, .ref 120, .int x1] (r.toList ++ [.int x2]) h')) :
    mx_Go l room_1 mL_law (mx_S L0 xs Z) 132 13954 1081 [.ref 1000, .ref 0, .ref 120, .int x1] [.int x2] (sk0 c, I) := by
  refine g_aload_n dL_law_1081 rfl rfl ?_
  refine g_aload_n dL_law_1082 rfl rfl ?_
  refine g_iload_n dL_law_1083 rfl rfl ?_
  refine g_iconst (v := 1) dL_law_1084 (by decide) ?_
  refine g_iadd dL_law_1085 ?_
  refine g_sld dL_law_1086 (b1) ?_
  exact s_callL (M' := mX12_right) (As := [.int (xs (x1 + 1).toNatClampNeg)]) (st := [.int x2]) dL_law_1087 lm_L_113 ovX12_right (h := (sk0 c, I)) (sk_120 _) (show vwCl[12]? = some _ from rfl) rfl (by simp [Value.category]) (by decide) rfl (k2)
set_option maxRecDepth 10000 in
set_option maxHeartbeats 4000000 in
theorem sg_law_1114 {l : Launch} {Z : mx_G → List Frame → Array Value → State → State → Prop} {L0 : Nat} {xs : Nat → Int32} {c : Nat} {I : mx_I} (x1 : Int32) (x2 : Int32)
    (b1 : vp_in (x1 + 1) L0)
    (b2 : vp_in (x1 + 2) L0)
    (b3 : vp_in (x1 + 3) L0)
    (k4 : mx_K1 l mX12_list 100 [.ref 120, .int (xs (x1 + 1).toNatClampNeg), .int (xs (x1 + 2).toNatClampNeg), .int (xs (x1 + 3).toNatClampNeg)] (sk0 c, I) (fun r h' => mx_Go l room_1 mL_law (mx_S L0 xs Z) 132 13954 1133 [.ref 1000, .ref 0, .ref 120, .int x1] (r.toList ++ [.int x2]) h')) :
    mx_Go l room_1 mL_law (mx_S L0 xs Z) 132 13954 1114 [.ref 1000, .ref 0, .ref 120, .int x1] [.int x2] (sk0 c, I) := by
  refine g_aload_n dL_law_1114 rfl rfl ?_
  refine g_aload_n dL_law_1115 rfl rfl ?_
  refine g_iload_n dL_law_1116 rfl rfl ?_
  refine g_iconst (v := 1) dL_law_1117 (by decide) ?_
  refine g_iadd dL_law_1118 ?_
  refine g_sld dL_law_1119 (b1) ?_
  refine g_aload_n dL_law_1120 rfl rfl ?_
  refine g_iload_n dL_law_1121 rfl rfl ?_
  refine g_iconst (v := 2) dL_law_1122 (by decide) ?_
  refine g_iadd dL_law_1123 ?_
  refine g_sld dL_law_1124 (b2) ?_
  refine g_aload_n dL_law_1125 rfl rfl ?_
  refine g_iload_n dL_law_1126 rfl rfl ?_
  refine g_iconst (v := 3) dL_law_1127 (by decide) ?_
  refine g_iadd dL_law_1128 ?_
  refine g_sld dL_law_1129 (b3) ?_
  exact s_callL (M' := mX12_list) (As := [.int (xs (x1 + 1).toNatClampNeg), .int (xs (x1 + 2).toNatClampNeg), .int (xs (x1 + 3).toNatClampNeg)]) (st := [.int x2]) dL_law_1130 lm_L_117 ovX12_list (h := (sk0 c, I)) (sk_120 _) (show vwCl[12]? = some _ from rfl) rfl (by simp [Value.category]) (by decide) rfl (k4)
set_option maxRecDepth 10000 in
set_option maxHeartbeats 4000000 in
theorem sg_law_1147 {l : Launch} {Z : mx_G → List Frame → Array Value → State → State → Prop} {L0 : Nat} {xs : Nat → Int32} {c : Nat} {I : mx_I} (x1 : Int32) (x2 : Int32)
    (b1 : vp_in (x1 + 1) L0)
    (k2 : mx_K1 l mX12_night 100 [.ref 120, .int (xs (x1 + 1).toNatClampNeg)] (sk0 c, I) (fun r h' => mx_Go l room_1 mL_law (mx_S L0 xs Z) 132 13954 1156 [.ref 1000, .ref 0, .ref 120, .int x1] (r.toList ++ [.int x2]) h')) :
    mx_Go l room_1 mL_law (mx_S L0 xs Z) 132 13954 1147 [.ref 1000, .ref 0, .ref 120, .int x1] [.int x2] (sk0 c, I) := by
  refine g_aload_n dL_law_1147 rfl rfl ?_
  refine g_aload_n dL_law_1148 rfl rfl ?_
  refine g_iload_n dL_law_1149 rfl rfl ?_
  refine g_iconst (v := 1) dL_law_1150 (by decide) ?_
  refine g_iadd dL_law_1151 ?_
  refine g_sld dL_law_1152 (b1) ?_
  exact s_callL (M' := mX12_night) (As := [.int (xs (x1 + 1).toNatClampNeg)]) (st := [.int x2]) dL_law_1153 lm_L_121 ovX12_night (h := (sk0 c, I)) (sk_120 _) (show vwCl[12]? = some _ from rfl) rfl (by simp [Value.category]) (by decide) rfl (k2)
set_option maxRecDepth 10000 in
set_option maxHeartbeats 4000000 in
theorem sg_law_1185 {l : Launch} {Z : mx_G → List Frame → Array Value → State → State → Prop} {L0 : Nat} {xs : Nat → Int32} {c : Nat} {I : mx_I} (x1 : Int32) (x2 : Int64)
    (b1 : vp_in (x1 + 1) L0)
    (b2 : vp_in (x1 + 2) L0)
    (b3 : vp_in (x1 + 3) L0)
    (b4 : vp_in (x1 + 4) L0)
    (k5 : mx_K1 l mX12_chance 100 [.ref 120, .int (xs (x1 + 1).toNatClampNeg), .int (xs (x1 + 2).toNatClampNeg), .int (xs (x1 + 3).toNatClampNeg), .int (xs (x1 + 4).toNatClampNeg)] (sk0 c, I) (fun r h' => mx_Go l room_1 mL_law (mx_S L0 xs Z) 132 13954 1209 [.ref 1000, .ref 0, .ref 120, .int x1] (r.toList ++ [.long x2]) h')) :
    mx_Go l room_1 mL_law (mx_S L0 xs Z) 132 13954 1185 [.ref 1000, .ref 0, .ref 120, .int x1] [.long x2] (sk0 c, I) := by
  refine g_aload_n dL_law_1185 rfl rfl ?_
  refine g_aload_n dL_law_1186 rfl rfl ?_
  refine g_iload_n dL_law_1187 rfl rfl ?_
  refine g_iconst (v := 1) dL_law_1188 (by decide) ?_
  refine g_iadd dL_law_1189 ?_
  refine g_sld dL_law_1190 (b1) ?_
  refine g_aload_n dL_law_1191 rfl rfl ?_
  refine g_iload_n dL_law_1192 rfl rfl ?_
  refine g_iconst (v := 2) dL_law_1193 (by decide) ?_
  refine g_iadd dL_law_1194 ?_
  refine g_sld dL_law_1195 (b2) ?_
  refine g_aload_n dL_law_1196 rfl rfl ?_
  refine g_iload_n dL_law_1197 rfl rfl ?_
  refine g_iconst (v := 3) dL_law_1198 (by decide) ?_
  refine g_iadd dL_law_1199 ?_
  refine g_sld dL_law_1200 (b3) ?_
  refine g_aload_n dL_law_1201 rfl rfl ?_
  refine g_iload_n dL_law_1202 rfl rfl ?_
  refine g_iconst (v := 4) dL_law_1203 (by decide) ?_
  refine g_iadd dL_law_1204 ?_
  refine g_sld dL_law_1205 (b4) ?_
  exact s_callL (M' := mX12_chance) (As := [.int (xs (x1 + 1).toNatClampNeg), .int (xs (x1 + 2).toNatClampNeg), .int (xs (x1 + 3).toNatClampNeg), .int (xs (x1 + 4).toNatClampNeg)]) (st := [.long x2]) dL_law_1206 lm_L_126 ovX12_chance (h := (sk0 c, I)) (sk_120 _) (show vwCl[12]? = some _ from rfl) rfl (by simp [Value.category]) (by decide) rfl (k5)
set_option maxRecDepth 10000 in
set_option maxHeartbeats 4000000 in
theorem sg_law_1232 {l : Launch} {Z : mx_G → List Frame → Array Value → State → State → Prop} {L0 : Nat} {xs : Nat → Int32} {c : Nat} {I : mx_I} (x1 : Int32) (x2 : Int32)
    (b1 : vp_in (x1 + 1) L0)
    (k2 : ((xs (x1 + 1).toNatClampNeg) = 0) → mx_K1 l mX12_image 100 [.ref 120, .int 0] (sk0 c, I) (fun r h' => mx_Go l room_1 mL_law (mx_S L0 xs Z) 132 13954 1249 [.ref 1000, .ref 0, .ref 120, .int x1] (r.toList ++ [.int x2]) h'))
    (k3 : (¬ (xs (x1 + 1).toNatClampNeg) = 0) → mx_K1 l mX12_image 100 [.ref 120, .int 1] (sk0 c, I) (fun r h' => mx_Go l room_1 mL_law (mx_S L0 xs Z) 132 13954 1249 [.ref 1000, .ref 0, .ref 120, .int x1] (r.toList ++ [.int x2]) h')) :
    mx_Go l room_1 mL_law (mx_S L0 xs Z) 132 13954 1232 [.ref 1000, .ref 0, .ref 120, .int x1] [.int x2] (sk0 c, I) := by
  refine g_aload_n dL_law_1232 rfl rfl ?_
  refine g_aload_n dL_law_1233 rfl rfl ?_
  refine g_iload_n dL_law_1234 rfl rfl ?_
  refine g_iconst (v := 1) dL_law_1235 (by decide) ?_
  refine g_iadd dL_law_1236 ?_
  refine g_sld dL_law_1237 (b1) ?_
  refine g_if_eq (tgt := 1245) dL_law_1238 (by decide) (fun c1 => ?_) (fun c2 => ?_)
  · skip
    refine g_iconst (v := 0) dL_law_1245 (by decide) ?_
    exact s_callL (M' := mX12_image) (As := [.int 0]) (st := [.int x2]) dL_law_1246 lm_L_131 ovX12_image (h := (sk0 c, I)) (sk_120 _) (show vwCl[12]? = some _ from rfl) rfl (by simp [Value.category]) (by decide) rfl (k2 c1)
  · skip
    refine g_iconst (v := 1) dL_law_1241 (by decide) ?_
    refine g_goto (tgt := 1246) dL_law_1242 (by decide) ?_
    exact s_callL (M' := mX12_image) (As := [.int 1]) (st := [.int x2]) dL_law_1246 lm_L_131 ovX12_image (h := (sk0 c, I)) (sk_120 _) (show vwCl[12]? = some _ from rfl) rfl (by simp [Value.category]) (by decide) rfl (k3 c2)
set_option maxRecDepth 10000 in
set_option maxHeartbeats 4000000 in
theorem sg_law_1263 {l : Launch} {Z : mx_G → List Frame → Array Value → State → State → Prop} {L0 : Nat} {xs : Nat → Int32} {c : Nat} {I : mx_I} (x1 : Int32) (x2 : Int32)
    (b1 : vp_in (x1 + 1) L0)
    (k2 : mx_K1 l mX12_look 100 [.ref 120, .int (xs (x1 + 1).toNatClampNeg)] (sk0 c, I) (fun r h' => mx_Go l room_1 mL_law (mx_S L0 xs Z) 132 13954 1272 [.ref 1000, .ref 0, .ref 120, .int x1] (r.toList ++ [.int x2]) h')) :
    mx_Go l room_1 mL_law (mx_S L0 xs Z) 132 13954 1263 [.ref 1000, .ref 0, .ref 120, .int x1] [.int x2] (sk0 c, I) := by
  refine g_aload_n dL_law_1263 rfl rfl ?_
  refine g_aload_n dL_law_1264 rfl rfl ?_
  refine g_iload_n dL_law_1265 rfl rfl ?_
  refine g_iconst (v := 1) dL_law_1266 (by decide) ?_
  refine g_iadd dL_law_1267 ?_
  refine g_sld dL_law_1268 (b1) ?_
  exact s_callL (M' := mX12_look) (As := [.int (xs (x1 + 1).toNatClampNeg)]) (st := [.int x2]) dL_law_1269 lm_L_135 ovX12_look (h := (sk0 c, I)) (sk_120 _) (show vwCl[12]? = some _ from rfl) rfl (by simp [Value.category]) (by decide) rfl (k2)
set_option maxRecDepth 10000 in
set_option maxHeartbeats 4000000 in
theorem sg_law_178 {l : Launch} {Z : mx_G → List Frame → Array Value → State → State → Prop} {L0 : Nat} {xs : Nat → Int32} {c : Nat} {I : mx_I} (x1 : Int32) (x2 : Int32) (x3 : Int32)
    (e1 : (x3 = x2) → mx_Go l room_1 mL_law (mx_S L0 xs Z) 132 13954 18 [.ref 1000, .ref 0, .ref 120, .int (x1 + 7)] [] (sk0 c, I))
    (f2 : (¬ x3 = x2) → False) :
    mx_Go l room_1 mL_law (mx_S L0 xs Z) 132 13954 178 [.ref 1000, .ref 0, .ref 120, .int x1] [.int x2, .int x3] (sk0 c, I) := by
  refine g_icmp_eq (tgt := 1277) dL_law_178 (by decide) (fun c1 => ?_) (fun c2 => ?_)
  · skip
    refine s_iinc (v := (x1 + 7)) (L' := [.ref 1000, .ref 0, .ref 120, .int (x1 + 7)]) dL_law_1277 rfl (by decide) rfl rfl rfl ?_
    refine g_goto (tgt := 18) dL_law_1280 (by decide) ?_
    exact e1 c1
  · skip
    refine g_iconst (v := 0) dL_law_181 (by decide) ?_
    exact (f2 c2).elim
set_option maxRecDepth 10000 in
set_option maxHeartbeats 4000000 in
theorem sg_law_221 {l : Launch} {Z : mx_G → List Frame → Array Value → State → State → Prop} {L0 : Nat} {xs : Nat → Int32} {c : Nat} {I : mx_I} (x1 : Int32) (x2 : Int32) (x3 : Int32)
    (e1 : (x3 = x2) → mx_Go l room_1 mL_law (mx_S L0 xs Z) 132 13954 18 [.ref 1000, .ref 0, .ref 120, .int (x1 + 7)] [] (sk0 c, I))
    (f2 : (¬ x3 = x2) → False) :
    mx_Go l room_1 mL_law (mx_S L0 xs Z) 132 13954 221 [.ref 1000, .ref 0, .ref 120, .int x1] [.int x2, .int x3] (sk0 c, I) := by
  refine g_icmp_eq (tgt := 1277) dL_law_221 (by decide) (fun c1 => ?_) (fun c2 => ?_)
  · skip
    refine s_iinc (v := (x1 + 7)) (L' := [.ref 1000, .ref 0, .ref 120, .int (x1 + 7)]) dL_law_1277 rfl (by decide) rfl rfl rfl ?_
    refine g_goto (tgt := 18) dL_law_1280 (by decide) ?_
    exact e1 c1
  · skip
    refine g_iconst (v := 0) dL_law_224 (by decide) ?_
    exact (f2 c2).elim
set_option maxRecDepth 10000 in
set_option maxHeartbeats 4000000 in
theorem sg_law_264 {l : Launch} {Z : mx_G → List Frame → Array Value → State → State → Prop} {L0 : Nat} {xs : Nat → Int32} {c : Nat} {I : mx_I} (x1 : Int32) (x2 : Int32) (x3 : Int32)
    (e1 : (x3 = x2) → mx_Go l room_1 mL_law (mx_S L0 xs Z) 132 13954 18 [.ref 1000, .ref 0, .ref 120, .int (x1 + 7)] [] (sk0 c, I))
    (f2 : (¬ x3 = x2) → False) :
    mx_Go l room_1 mL_law (mx_S L0 xs Z) 132 13954 264 [.ref 1000, .ref 0, .ref 120, .int x1] [.int x2, .int x3] (sk0 c, I) := by
  refine g_icmp_eq (tgt := 1277) dL_law_264 (by decide) (fun c1 => ?_) (fun c2 => ?_)
  · skip
    refine s_iinc (v := (x1 + 7)) (L' := [.ref 1000, .ref 0, .ref 120, .int (x1 + 7)]) dL_law_1277 rfl (by decide) rfl rfl rfl ?_
    refine g_goto (tgt := 18) dL_law_1280 (by decide) ?_
    exact e1 c1
  · skip
    refine g_iconst (v := 0) dL_law_267 (by decide) ?_
    exact (f2 c2).elim
set_option maxRecDepth 10000 in
set_option maxHeartbeats 4000000 in
theorem sg_law_339 {l : Launch} {Z : mx_G → List Frame → Array Value → State → State → Prop} {L0 : Nat} {xs : Nat → Int32} {c : Nat} {I : mx_I} (x1 : Int32) (x2 : Int32) (x3 : Int32)
    (e1 : (x3 = x2) → mx_Go l room_1 mL_law (mx_S L0 xs Z) 132 13954 18 [.ref 1000, .ref 0, .ref 120, .int (x1 + 7)] [] (sk0 c, I))
    (f2 : (¬ x3 = x2) → False) :
    mx_Go l room_1 mL_law (mx_S L0 xs Z) 132 13954 339 [.ref 1000, .ref 0, .ref 120, .int x1] [.int x2, .int x3] (sk0 c, I) := by
  refine g_icmp_eq (tgt := 1277) dL_law_339 (by decide) (fun c1 => ?_) (fun c2 => ?_)
  · skip
    refine s_iinc (v := (x1 + 7)) (L' := [.ref 1000, .ref 0, .ref 120, .int (x1 + 7)]) dL_law_1277 rfl (by decide) rfl rfl rfl ?_
    refine g_goto (tgt := 18) dL_law_1280 (by decide) ?_
    exact e1 c1
  · skip
    refine g_iconst (v := 0) dL_law_342 (by decide) ?_
    exact (f2 c2).elim
set_option maxRecDepth 10000 in
set_option maxHeartbeats 4000000 in
theorem sg_law_382 {l : Launch} {Z : mx_G → List Frame → Array Value → State → State → Prop} {L0 : Nat} {xs : Nat → Int32} {c : Nat} {I : mx_I} (x1 : Int32) (x2 : Int32) (x3 : Int32)
    (e1 : (x3 = x2) → mx_Go l room_1 mL_law (mx_S L0 xs Z) 132 13954 18 [.ref 1000, .ref 0, .ref 120, .int (x1 + 7)] [] (sk0 c, I))
    (f2 : (¬ x3 = x2) → False) :
    mx_Go l room_1 mL_law (mx_S L0 xs Z) 132 13954 382 [.ref 1000, .ref 0, .ref 120, .int x1] [.int x2, .int x3] (sk0 c, I) := by
  refine g_icmp_eq (tgt := 1277) dL_law_382 (by decide) (fun c1 => ?_) (fun c2 => ?_)
  · skip
    refine s_iinc (v := (x1 + 7)) (L' := [.ref 1000, .ref 0, .ref 120, .int (x1 + 7)]) dL_law_1277 rfl (by decide) rfl rfl rfl ?_
    refine g_goto (tgt := 18) dL_law_1280 (by decide) ?_
    exact e1 c1
  · skip
    refine g_iconst (v := 0) dL_law_385 (by decide) ?_
    exact (f2 c2).elim
set_option maxRecDepth 10000 in
set_option maxHeartbeats 4000000 in
theorem sg_law_425 {l : Launch} {Z : mx_G → List Frame → Array Value → State → State → Prop} {L0 : Nat} {xs : Nat → Int32} {c : Nat} {I : mx_I} (x1 : Int32) (x2 : Int32) (x3 : Int32)
    (e1 : (x3 = x2) → mx_Go l room_1 mL_law (mx_S L0 xs Z) 132 13954 18 [.ref 1000, .ref 0, .ref 120, .int (x1 + 7)] [] (sk0 c, I))
    (f2 : (¬ x3 = x2) → False) :
    mx_Go l room_1 mL_law (mx_S L0 xs Z) 132 13954 425 [.ref 1000, .ref 0, .ref 120, .int x1] [.int x2, .int x3] (sk0 c, I) := by
  refine g_icmp_eq (tgt := 1277) dL_law_425 (by decide) (fun c1 => ?_) (fun c2 => ?_)
  · skip
    refine s_iinc (v := (x1 + 7)) (L' := [.ref 1000, .ref 0, .ref 120, .int (x1 + 7)]) dL_law_1277 rfl (by decide) rfl rfl rfl ?_
    refine g_goto (tgt := 18) dL_law_1280 (by decide) ?_
    exact e1 c1
  · skip
    refine g_iconst (v := 0) dL_law_428 (by decide) ?_
    exact (f2 c2).elim
set_option maxRecDepth 10000 in
set_option maxHeartbeats 4000000 in
theorem sg_law_488 {l : Launch} {Z : mx_G → List Frame → Array Value → State → State → Prop} {L0 : Nat} {xs : Nat → Int32} {c : Nat} {I : mx_I} (x1 : Int32) (x2 : Int32) (x3 : Int32)
    (e1 : (x3 = x2) → mx_Go l room_1 mL_law (mx_S L0 xs Z) 132 13954 18 [.ref 1000, .ref 0, .ref 120, .int (x1 + 7)] [] (sk0 c, I))
    (f2 : (¬ x3 = x2) → False) :
    mx_Go l room_1 mL_law (mx_S L0 xs Z) 132 13954 488 [.ref 1000, .ref 0, .ref 120, .int x1] [.int x2, .int x3] (sk0 c, I) := by
  refine g_icmp_eq (tgt := 1277) dL_law_488 (by decide) (fun c1 => ?_) (fun c2 => ?_)
  · skip
    refine s_iinc (v := (x1 + 7)) (L' := [.ref 1000, .ref 0, .ref 120, .int (x1 + 7)]) dL_law_1277 rfl (by decide) rfl rfl rfl ?_
    refine g_goto (tgt := 18) dL_law_1280 (by decide) ?_
    exact e1 c1
  · skip
    refine g_iconst (v := 0) dL_law_491 (by decide) ?_
    exact (f2 c2).elim
set_option maxRecDepth 10000 in
set_option maxHeartbeats 4000000 in
theorem sg_law_511 {l : Launch} {Z : mx_G → List Frame → Array Value → State → State → Prop} {L0 : Nat} {xs : Nat → Int32} {c : Nat} {I : mx_I} (x1 : Int32) (x2 : Int32) (x3 : Int32)
    (e1 : (x3 = x2) → mx_Go l room_1 mL_law (mx_S L0 xs Z) 132 13954 18 [.ref 1000, .ref 0, .ref 120, .int (x1 + 7)] [] (sk0 c, I))
    (f2 : (¬ x3 = x2) → False) :
    mx_Go l room_1 mL_law (mx_S L0 xs Z) 132 13954 511 [.ref 1000, .ref 0, .ref 120, .int x1] [.int x2, .int x3] (sk0 c, I) := by
  refine g_icmp_eq (tgt := 1277) dL_law_511 (by decide) (fun c1 => ?_) (fun c2 => ?_)
  · skip
    refine s_iinc (v := (x1 + 7)) (L' := [.ref 1000, .ref 0, .ref 120, .int (x1 + 7)]) dL_law_1277 rfl (by decide) rfl rfl rfl ?_
    refine g_goto (tgt := 18) dL_law_1280 (by decide) ?_
    exact e1 c1
  · skip
    refine g_iconst (v := 0) dL_law_514 (by decide) ?_
    exact (f2 c2).elim
set_option maxRecDepth 10000 in
set_option maxHeartbeats 4000000 in
theorem sg_law_524 {l : Launch} {Z : mx_G → List Frame → Array Value → State → State → Prop} {L0 : Nat} {xs : Nat → Int32} {c : Nat} {I : mx_I} (x1 : Int32) (x2 : Int32) (x3 : Int32)
    (e1 : (x3 = x2) → mx_Go l room_1 mL_law (mx_S L0 xs Z) 132 13954 18 [.ref 1000, .ref 0, .ref 120, .int (x1 + 7)] [] (sk0 c, I))
    (f2 : (¬ x3 = x2) → False) :
    mx_Go l room_1 mL_law (mx_S L0 xs Z) 132 13954 524 [.ref 1000, .ref 0, .ref 120, .int x1] [.int x2, .int x3] (sk0 c, I) := by
  refine g_icmp_eq (tgt := 1277) dL_law_524 (by decide) (fun c1 => ?_) (fun c2 => ?_)
  · skip
    refine s_iinc (v := (x1 + 7)) (L' := [.ref 1000, .ref 0, .ref 120, .int (x1 + 7)]) dL_law_1277 rfl (by decide) rfl rfl rfl ?_
    refine g_goto (tgt := 18) dL_law_1280 (by decide) ?_
    exact e1 c1
  · skip
    refine g_iconst (v := 0) dL_law_527 (by decide) ?_
    exact (f2 c2).elim
set_option maxRecDepth 10000 in
set_option maxHeartbeats 4000000 in
theorem sg_law_547 {l : Launch} {Z : mx_G → List Frame → Array Value → State → State → Prop} {L0 : Nat} {xs : Nat → Int32} {c : Nat} {I : mx_I} (x1 : Int32) (x2 : Int32) (x3 : Int32)
    (e1 : (x3 = x2) → mx_Go l room_1 mL_law (mx_S L0 xs Z) 132 13954 18 [.ref 1000, .ref 0, .ref 120, .int (x1 + 7)] [] (sk0 c, I))
    (f2 : (¬ x3 = x2) → False) :
    mx_Go l room_1 mL_law (mx_S L0 xs Z) 132 13954 547 [.ref 1000, .ref 0, .ref 120, .int x1] [.int x2, .int x3] (sk0 c, I) := by
  refine g_icmp_eq (tgt := 1277) dL_law_547 (by decide) (fun c1 => ?_) (fun c2 => ?_)
  · skip
    refine s_iinc (v := (x1 + 7)) (L' := [.ref 1000, .ref 0, .ref 120, .int (x1 + 7)]) dL_law_1277 rfl (by decide) rfl rfl rfl ?_
    refine g_goto (tgt := 18) dL_law_1280 (by decide) ?_
    exact e1 c1
  · skip
    refine g_iconst (v := 0) dL_law_550 (by decide) ?_
    exact (f2 c2).elim
set_option maxRecDepth 10000 in
set_option maxHeartbeats 4000000 in
theorem sg_law_570 {l : Launch} {Z : mx_G → List Frame → Array Value → State → State → Prop} {L0 : Nat} {xs : Nat → Int32} {c : Nat} {I : mx_I} (x1 : Int32) (x2 : Int32) (x3 : Int32)
    (e1 : (x3 = x2) → mx_Go l room_1 mL_law (mx_S L0 xs Z) 132 13954 18 [.ref 1000, .ref 0, .ref 120, .int (x1 + 7)] [] (sk0 c, I))
    (f2 : (¬ x3 = x2) → False) :
    mx_Go l room_1 mL_law (mx_S L0 xs Z) 132 13954 570 [.ref 1000, .ref 0, .ref 120, .int x1] [.int x2, .int x3] (sk0 c, I) := by
  refine g_icmp_eq (tgt := 1277) dL_law_570 (by decide) (fun c1 => ?_) (fun c2 => ?_)
  · skip
    refine s_iinc (v := (x1 + 7)) (L' := [.ref 1000, .ref 0, .ref 120, .int (x1 + 7)]) dL_law_1277 rfl (by decide) rfl rfl rfl ?_
    refine g_goto (tgt := 18) dL_law_1280 (by decide) ?_
    exact e1 c1
  · skip
    refine g_iconst (v := 0) dL_law_573 (by decide) ?_
    exact (f2 c2).elim
set_option maxRecDepth 10000 in
set_option maxHeartbeats 4000000 in
theorem sg_law_603 {l : Launch} {Z : mx_G → List Frame → Array Value → State → State → Prop} {L0 : Nat} {xs : Nat → Int32} {c : Nat} {I : mx_I} (x1 : Int32) (x2 : Int32) (x3 : Int32)
    (e1 : (x3 = x2) → mx_Go l room_1 mL_law (mx_S L0 xs Z) 132 13954 18 [.ref 1000, .ref 0, .ref 120, .int (x1 + 7)] [] (sk0 c, I))
    (f2 : (¬ x3 = x2) → False) :
    mx_Go l room_1 mL_law (mx_S L0 xs Z) 132 13954 603 [.ref 1000, .ref 0, .ref 120, .int x1] [.int x2, .int x3] (sk0 c, I) := by
  refine g_icmp_eq (tgt := 1277) dL_law_603 (by decide) (fun c1 => ?_) (fun c2 => ?_)
  · skip
    refine s_iinc (v := (x1 + 7)) (L' := [.ref 1000, .ref 0, .ref 120, .int (x1 + 7)]) dL_law_1277 rfl (by decide) rfl rfl rfl ?_
    refine g_goto (tgt := 18) dL_law_1280 (by decide) ?_
    exact e1 c1
  · skip
    refine g_iconst (v := 0) dL_law_606 (by decide) ?_
    exact (f2 c2).elim
set_option maxRecDepth 10000 in
set_option maxHeartbeats 4000000 in
theorem sg_law_636 {l : Launch} {Z : mx_G → List Frame → Array Value → State → State → Prop} {L0 : Nat} {xs : Nat → Int32} {c : Nat} {I : mx_I} (x1 : Int32) (x2 : Int32) (x3 : Int32)
    (e1 : (x3 = x2) → mx_Go l room_1 mL_law (mx_S L0 xs Z) 132 13954 18 [.ref 1000, .ref 0, .ref 120, .int (x1 + 7)] [] (sk0 c, I))
    (f2 : (¬ x3 = x2) → False) :
    mx_Go l room_1 mL_law (mx_S L0 xs Z) 132 13954 636 [.ref 1000, .ref 0, .ref 120, .int x1] [.int x2, .int x3] (sk0 c, I) := by
  refine g_icmp_eq (tgt := 1277) dL_law_636 (by decide) (fun c1 => ?_) (fun c2 => ?_)
  · skip
    refine s_iinc (v := (x1 + 7)) (L' := [.ref 1000, .ref 0, .ref 120, .int (x1 + 7)]) dL_law_1277 rfl (by decide) rfl rfl rfl ?_
    refine g_goto (tgt := 18) dL_law_1280 (by decide) ?_
    exact e1 c1
  · skip
    refine g_iconst (v := 0) dL_law_639 (by decide) ?_
    exact (f2 c2).elim
set_option maxRecDepth 10000 in
set_option maxHeartbeats 4000000 in
theorem sg_law_669 {l : Launch} {Z : mx_G → List Frame → Array Value → State → State → Prop} {L0 : Nat} {xs : Nat → Int32} {c : Nat} {I : mx_I} (x1 : Int32) (x2 : Int32) (x3 : Int32)
    (e1 : (x3 = x2) → mx_Go l room_1 mL_law (mx_S L0 xs Z) 132 13954 18 [.ref 1000, .ref 0, .ref 120, .int (x1 + 7)] [] (sk0 c, I))
    (f2 : (¬ x3 = x2) → False) :
    mx_Go l room_1 mL_law (mx_S L0 xs Z) 132 13954 669 [.ref 1000, .ref 0, .ref 120, .int x1] [.int x2, .int x3] (sk0 c, I) := by
  refine g_icmp_eq (tgt := 1277) dL_law_669 (by decide) (fun c1 => ?_) (fun c2 => ?_)
  · skip
    refine s_iinc (v := (x1 + 7)) (L' := [.ref 1000, .ref 0, .ref 120, .int (x1 + 7)]) dL_law_1277 rfl (by decide) rfl rfl rfl ?_
    refine g_goto (tgt := 18) dL_law_1280 (by decide) ?_
    exact e1 c1
  · skip
    refine g_iconst (v := 0) dL_law_672 (by decide) ?_
    exact (f2 c2).elim
set_option maxRecDepth 10000 in
set_option maxHeartbeats 4000000 in
theorem sg_law_702 {l : Launch} {Z : mx_G → List Frame → Array Value → State → State → Prop} {L0 : Nat} {xs : Nat → Int32} {c : Nat} {I : mx_I} (x1 : Int32) (x2 : Int32) (x3 : Int32)
    (e1 : (x3 = x2) → mx_Go l room_1 mL_law (mx_S L0 xs Z) 132 13954 18 [.ref 1000, .ref 0, .ref 120, .int (x1 + 7)] [] (sk0 c, I))
    (f2 : (¬ x3 = x2) → False) :
    mx_Go l room_1 mL_law (mx_S L0 xs Z) 132 13954 702 [.ref 1000, .ref 0, .ref 120, .int x1] [.int x2, .int x3] (sk0 c, I) := by
  refine g_icmp_eq (tgt := 1277) dL_law_702 (by decide) (fun c1 => ?_) (fun c2 => ?_)
  · skip
    refine s_iinc (v := (x1 + 7)) (L' := [.ref 1000, .ref 0, .ref 120, .int (x1 + 7)]) dL_law_1277 rfl (by decide) rfl rfl rfl ?_
    refine g_goto (tgt := 18) dL_law_1280 (by decide) ?_
    exact e1 c1
  · skip
    refine g_iconst (v := 0) dL_law_705 (by decide) ?_
    exact (f2 c2).elim
set_option maxRecDepth 10000 in
set_option maxHeartbeats 4000000 in
theorem sg_law_735 {l : Launch} {Z : mx_G → List Frame → Array Value → State → State → Prop} {L0 : Nat} {xs : Nat → Int32} {c : Nat} {I : mx_I} (x1 : Int32) (x2 : Int32) (x3 : Int32)
    (e1 : (x3 = x2) → mx_Go l room_1 mL_law (mx_S L0 xs Z) 132 13954 18 [.ref 1000, .ref 0, .ref 120, .int (x1 + 7)] [] (sk0 c, I))
    (f2 : (¬ x3 = x2) → False) :
    mx_Go l room_1 mL_law (mx_S L0 xs Z) 132 13954 735 [.ref 1000, .ref 0, .ref 120, .int x1] [.int x2, .int x3] (sk0 c, I) := by
  refine g_icmp_eq (tgt := 1277) dL_law_735 (by decide) (fun c1 => ?_) (fun c2 => ?_)
  · skip
    refine s_iinc (v := (x1 + 7)) (L' := [.ref 1000, .ref 0, .ref 120, .int (x1 + 7)]) dL_law_1277 rfl (by decide) rfl rfl rfl ?_
    refine g_goto (tgt := 18) dL_law_1280 (by decide) ?_
    exact e1 c1
  · skip
    refine g_iconst (v := 0) dL_law_738 (by decide) ?_
    exact (f2 c2).elim
set_option maxRecDepth 10000 in
set_option maxHeartbeats 4000000 in
theorem sg_law_758 {l : Launch} {Z : mx_G → List Frame → Array Value → State → State → Prop} {L0 : Nat} {xs : Nat → Int32} {c : Nat} {I : mx_I} (x1 : Int32) (x2 : Int32) (x3 : Int32)
    (e1 : (x3 = x2) → mx_Go l room_1 mL_law (mx_S L0 xs Z) 132 13954 18 [.ref 1000, .ref 0, .ref 120, .int (x1 + 7)] [] (sk0 c, I))
    (f2 : (¬ x3 = x2) → False) :
    mx_Go l room_1 mL_law (mx_S L0 xs Z) 132 13954 758 [.ref 1000, .ref 0, .ref 120, .int x1] [.int x2, .int x3] (sk0 c, I) := by
  refine g_icmp_eq (tgt := 1277) dL_law_758 (by decide) (fun c1 => ?_) (fun c2 => ?_)
  · skip
    refine s_iinc (v := (x1 + 7)) (L' := [.ref 1000, .ref 0, .ref 120, .int (x1 + 7)]) dL_law_1277 rfl (by decide) rfl rfl rfl ?_
    refine g_goto (tgt := 18) dL_law_1280 (by decide) ?_
    exact e1 c1
  · skip
    refine g_iconst (v := 0) dL_law_761 (by decide) ?_
    exact (f2 c2).elim
set_option maxRecDepth 10000 in
set_option maxHeartbeats 4000000 in
theorem sg_law_801 {l : Launch} {Z : mx_G → List Frame → Array Value → State → State → Prop} {L0 : Nat} {xs : Nat → Int32} {c : Nat} {I : mx_I} (x1 : Int32) (x2 : Int32) (x3 : Int32)
    (e1 : (x3 = x2) → mx_Go l room_1 mL_law (mx_S L0 xs Z) 132 13954 18 [.ref 1000, .ref 0, .ref 120, .int (x1 + 7)] [] (sk0 c, I))
    (f2 : (¬ x3 = x2) → False) :
    mx_Go l room_1 mL_law (mx_S L0 xs Z) 132 13954 801 [.ref 1000, .ref 0, .ref 120, .int x1] [.int x2, .int x3] (sk0 c, I) := by
  refine g_icmp_eq (tgt := 1277) dL_law_801 (by decide) (fun c1 => ?_) (fun c2 => ?_)
  · skip
    refine s_iinc (v := (x1 + 7)) (L' := [.ref 1000, .ref 0, .ref 120, .int (x1 + 7)]) dL_law_1277 rfl (by decide) rfl rfl rfl ?_
    refine g_goto (tgt := 18) dL_law_1280 (by decide) ?_
    exact e1 c1
  · skip
    refine g_iconst (v := 0) dL_law_804 (by decide) ?_
    exact (f2 c2).elim
set_option maxRecDepth 10000 in
set_option maxHeartbeats 4000000 in
theorem sg_law_876 {l : Launch} {Z : mx_G → List Frame → Array Value → State → State → Prop} {L0 : Nat} {xs : Nat → Int32} {c : Nat} {I : mx_I} (x1 : Int32) (x2 : Int32) (x3 : Int32)
    (e1 : (x3 = x2) → mx_Go l room_1 mL_law (mx_S L0 xs Z) 132 13954 18 [.ref 1000, .ref 0, .ref 120, .int (x1 + 7)] [] (sk0 c, I))
    (f2 : (¬ x3 = x2) → False) :
    mx_Go l room_1 mL_law (mx_S L0 xs Z) 132 13954 876 [.ref 1000, .ref 0, .ref 120, .int x1] [.int x2, .int x3] (sk0 c, I) := by
  refine g_icmp_eq (tgt := 1277) dL_law_876 (by decide) (fun c1 => ?_) (fun c2 => ?_)
  · skip
    refine s_iinc (v := (x1 + 7)) (L' := [.ref 1000, .ref 0, .ref 120, .int (x1 + 7)]) dL_law_1277 rfl (by decide) rfl rfl rfl ?_
    refine g_goto (tgt := 18) dL_law_1280 (by decide) ?_
    exact e1 c1
  · skip
    refine g_iconst (v := 0) dL_law_879 (by decide) ?_
    exact (f2 c2).elim
set_option maxRecDepth 10000 in
set_option maxHeartbeats 4000000 in
theorem sg_law_951 {l : Launch} {Z : mx_G → List Frame → Array Value → State → State → Prop} {L0 : Nat} {xs : Nat → Int32} {c : Nat} {I : mx_I} (x1 : Int32) (x2 : Int32) (x3 : Int32)
    (e1 : (x3 = x2) → mx_Go l room_1 mL_law (mx_S L0 xs Z) 132 13954 18 [.ref 1000, .ref 0, .ref 120, .int (x1 + 7)] [] (sk0 c, I))
    (f2 : (¬ x3 = x2) → False) :
    mx_Go l room_1 mL_law (mx_S L0 xs Z) 132 13954 951 [.ref 1000, .ref 0, .ref 120, .int x1] [.int x2, .int x3] (sk0 c, I) := by
  refine g_icmp_eq (tgt := 1277) dL_law_951 (by decide) (fun c1 => ?_) (fun c2 => ?_)
  · skip
    refine s_iinc (v := (x1 + 7)) (L' := [.ref 1000, .ref 0, .ref 120, .int (x1 + 7)]) dL_law_1277 rfl (by decide) rfl rfl rfl ?_
    refine g_goto (tgt := 18) dL_law_1280 (by decide) ?_
    exact e1 c1
  · skip
    refine g_iconst (v := 0) dL_law_954 (by decide) ?_
    exact (f2 c2).elim
set_option maxRecDepth 10000 in
set_option maxHeartbeats 4000000 in
theorem sg_law_1014 {l : Launch} {Z : mx_G → List Frame → Array Value → State → State → Prop} {L0 : Nat} {xs : Nat → Int32} {c : Nat} {I : mx_I} (x1 : Int32) (x2 : Int32) (x3 : Int32)
    (e1 : (x3 = x2) → mx_Go l room_1 mL_law (mx_S L0 xs Z) 132 13954 18 [.ref 1000, .ref 0, .ref 120, .int (x1 + 7)] [] (sk0 c, I))
    (f2 : (¬ x3 = x2) → False) :
    mx_Go l room_1 mL_law (mx_S L0 xs Z) 132 13954 1014 [.ref 1000, .ref 0, .ref 120, .int x1] [.int x2, .int x3] (sk0 c, I) := by
  refine g_icmp_eq (tgt := 1277) dL_law_1014 (by decide) (fun c1 => ?_) (fun c2 => ?_)
  · skip
    refine s_iinc (v := (x1 + 7)) (L' := [.ref 1000, .ref 0, .ref 120, .int (x1 + 7)]) dL_law_1277 rfl (by decide) rfl rfl rfl ?_
    refine g_goto (tgt := 18) dL_law_1280 (by decide) ?_
    exact e1 c1
  · skip
    refine g_iconst (v := 0) dL_law_1017 (by decide) ?_
    exact (f2 c2).elim
set_option maxRecDepth 10000 in
set_option maxHeartbeats 4000000 in
theorem sg_law_1067 {l : Launch} {Z : mx_G → List Frame → Array Value → State → State → Prop} {L0 : Nat} {xs : Nat → Int32} {c : Nat} {I : mx_I} (x1 : Int32) (x2 : Int32) (x3 : Int32)
    (e1 : (x3 = x2) → mx_Go l room_1 mL_law (mx_S L0 xs Z) 132 13954 18 [.ref 1000, .ref 0, .ref 120, .int (x1 + 7)] [] (sk0 c, I))
    (f2 : (¬ x3 = x2) → False) :
    mx_Go l room_1 mL_law (mx_S L0 xs Z) 132 13954 1067 [.ref 1000, .ref 0, .ref 120, .int x1] [.int x2, .int x3] (sk0 c, I) := by
  refine g_icmp_eq (tgt := 1277) dL_law_1067 (by decide) (fun c1 => ?_) (fun c2 => ?_)
  · skip
    refine s_iinc (v := (x1 + 7)) (L' := [.ref 1000, .ref 0, .ref 120, .int (x1 + 7)]) dL_law_1277 rfl (by decide) rfl rfl rfl ?_
    refine g_goto (tgt := 18) dL_law_1280 (by decide) ?_
    exact e1 c1
  · skip
    refine g_iconst (v := 0) dL_law_1070 (by decide) ?_
    exact (f2 c2).elim
set_option maxRecDepth 10000 in
set_option maxHeartbeats 4000000 in
theorem sg_law_1090 {l : Launch} {Z : mx_G → List Frame → Array Value → State → State → Prop} {L0 : Nat} {xs : Nat → Int32} {c : Nat} {I : mx_I} (x1 : Int32) (x2 : Int32) (x3 : Int32)
    (e1 : (x3 = x2) → mx_Go l room_1 mL_law (mx_S L0 xs Z) 132 13954 18 [.ref 1000, .ref 0, .ref 120, .int (x1 + 7)] [] (sk0 c, I))
    (f2 : (¬ x3 = x2) → False) :
    mx_Go l room_1 mL_law (mx_S L0 xs Z) 132 13954 1090 [.ref 1000, .ref 0, .ref 120, .int x1] [.int x2, .int x3] (sk0 c, I) := by
  refine g_icmp_eq (tgt := 1277) dL_law_1090 (by decide) (fun c1 => ?_) (fun c2 => ?_)
  · skip
    refine s_iinc (v := (x1 + 7)) (L' := [.ref 1000, .ref 0, .ref 120, .int (x1 + 7)]) dL_law_1277 rfl (by decide) rfl rfl rfl ?_
    refine g_goto (tgt := 18) dL_law_1280 (by decide) ?_
    exact e1 c1
  · skip
    refine g_iconst (v := 0) dL_law_1093 (by decide) ?_
    exact (f2 c2).elim
set_option maxRecDepth 10000 in
set_option maxHeartbeats 4000000 in
theorem sg_law_1133 {l : Launch} {Z : mx_G → List Frame → Array Value → State → State → Prop} {L0 : Nat} {xs : Nat → Int32} {c : Nat} {I : mx_I} (x1 : Int32) (x2 : Int32) (x3 : Int32)
    (e1 : (x3 = x2) → mx_Go l room_1 mL_law (mx_S L0 xs Z) 132 13954 18 [.ref 1000, .ref 0, .ref 120, .int (x1 + 7)] [] (sk0 c, I))
    (f2 : (¬ x3 = x2) → False) :
    mx_Go l room_1 mL_law (mx_S L0 xs Z) 132 13954 1133 [.ref 1000, .ref 0, .ref 120, .int x1] [.int x2, .int x3] (sk0 c, I) := by
  refine g_icmp_eq (tgt := 1277) dL_law_1133 (by decide) (fun c1 => ?_) (fun c2 => ?_)
  · skip
    refine s_iinc (v := (x1 + 7)) (L' := [.ref 1000, .ref 0, .ref 120, .int (x1 + 7)]) dL_law_1277 rfl (by decide) rfl rfl rfl ?_
    refine g_goto (tgt := 18) dL_law_1280 (by decide) ?_
    exact e1 c1
  · skip
    refine g_iconst (v := 0) dL_law_1136 (by decide) ?_
    exact (f2 c2).elim
set_option maxRecDepth 10000 in
set_option maxHeartbeats 4000000 in
theorem sg_law_1156 {l : Launch} {Z : mx_G → List Frame → Array Value → State → State → Prop} {L0 : Nat} {xs : Nat → Int32} {c : Nat} {I : mx_I} (x1 : Int32) (x2 : Int32) (x3 : Int32)
    (e1 : (x3 = x2) → mx_Go l room_1 mL_law (mx_S L0 xs Z) 132 13954 18 [.ref 1000, .ref 0, .ref 120, .int (x1 + 7)] [] (sk0 c, I))
    (f2 : (¬ x3 = x2) → False) :
    mx_Go l room_1 mL_law (mx_S L0 xs Z) 132 13954 1156 [.ref 1000, .ref 0, .ref 120, .int x1] [.int x2, .int x3] (sk0 c, I) := by
  refine g_icmp_eq (tgt := 1277) dL_law_1156 (by decide) (fun c1 => ?_) (fun c2 => ?_)
  · skip
    refine s_iinc (v := (x1 + 7)) (L' := [.ref 1000, .ref 0, .ref 120, .int (x1 + 7)]) dL_law_1277 rfl (by decide) rfl rfl rfl ?_
    refine g_goto (tgt := 18) dL_law_1280 (by decide) ?_
    exact e1 c1
  · skip
    refine g_iconst (v := 0) dL_law_1159 (by decide) ?_
    exact (f2 c2).elim
set_option maxRecDepth 10000 in
set_option maxHeartbeats 4000000 in
theorem sg_law_1209 {l : Launch} {Z : mx_G → List Frame → Array Value → State → State → Prop} {L0 : Nat} {xs : Nat → Int32} {c : Nat} {I : mx_I} (x1 : Int32) (x2 : Int64) (x3 : Int64)
    (e1 : ((lg_cmp x3 x2) = 0) → mx_Go l room_1 mL_law (mx_S L0 xs Z) 132 13954 18 [.ref 1000, .ref 0, .ref 120, .int (x1 + 7)] [] (sk0 c, I))
    (f2 : (¬ (lg_cmp x3 x2) = 0) → False) :
    mx_Go l room_1 mL_law (mx_S L0 xs Z) 132 13954 1209 [.ref 1000, .ref 0, .ref 120, .int x1] [.long x2, .long x3] (sk0 c, I) := by
  refine g_lcmp dL_law_1209 ?_
  refine g_if_eq (tgt := 1277) dL_law_1210 (by decide) (fun c1 => ?_) (fun c2 => ?_)
  · skip
    refine s_iinc (v := (x1 + 7)) (L' := [.ref 1000, .ref 0, .ref 120, .int (x1 + 7)]) dL_law_1277 rfl (by decide) rfl rfl rfl ?_
    refine g_goto (tgt := 18) dL_law_1280 (by decide) ?_
    exact e1 c1
  · skip
    refine g_iconst (v := 0) dL_law_1213 (by decide) ?_
    exact (f2 c2).elim
set_option maxRecDepth 10000 in
set_option maxHeartbeats 4000000 in
theorem sg_law_1249 {l : Launch} {Z : mx_G → List Frame → Array Value → State → State → Prop} {L0 : Nat} {xs : Nat → Int32} {c : Nat} {I : mx_I} (x1 : Int32) (x2 : Int32) (x3 : Int32)
    (e1 : (x3 = x2) → mx_Go l room_1 mL_law (mx_S L0 xs Z) 132 13954 18 [.ref 1000, .ref 0, .ref 120, .int (x1 + 7)] [] (sk0 c, I))
    (f2 : (¬ x3 = x2) → False) :
    mx_Go l room_1 mL_law (mx_S L0 xs Z) 132 13954 1249 [.ref 1000, .ref 0, .ref 120, .int x1] [.int x2, .int x3] (sk0 c, I) := by
  refine g_icmp_eq (tgt := 1277) dL_law_1249 (by decide) (fun c1 => ?_) (fun c2 => ?_)
  · skip
    refine s_iinc (v := (x1 + 7)) (L' := [.ref 1000, .ref 0, .ref 120, .int (x1 + 7)]) dL_law_1277 rfl (by decide) rfl rfl rfl ?_
    refine g_goto (tgt := 18) dL_law_1280 (by decide) ?_
    exact e1 c1
  · skip
    refine g_iconst (v := 0) dL_law_1252 (by decide) ?_
    exact (f2 c2).elim
set_option maxRecDepth 10000 in
set_option maxHeartbeats 4000000 in
theorem sg_law_1272 {l : Launch} {Z : mx_G → List Frame → Array Value → State → State → Prop} {L0 : Nat} {xs : Nat → Int32} {c : Nat} {I : mx_I} (x1 : Int32) (x2 : Int32) (x3 : Int32)
    (e1 : (x3 = x2) → mx_Go l room_1 mL_law (mx_S L0 xs Z) 132 13954 18 [.ref 1000, .ref 0, .ref 120, .int (x1 + 7)] [] (sk0 c, I))
    (f2 : (¬ x3 = x2) → False) :
    mx_Go l room_1 mL_law (mx_S L0 xs Z) 132 13954 1272 [.ref 1000, .ref 0, .ref 120, .int x1] [.int x2, .int x3] (sk0 c, I) := by
  refine g_icmp_eq (tgt := 1277) dL_law_1272 (by decide) (fun c1 => ?_) (fun c2 => ?_)
  · skip
    refine s_iinc (v := (x1 + 7)) (L' := [.ref 1000, .ref 0, .ref 120, .int (x1 + 7)]) dL_law_1277 rfl (by decide) rfl rfl rfl ?_
    refine g_goto (tgt := 18) dL_law_1280 (by decide) ?_
    exact e1 c1
  · skip
    refine g_iconst (v := 0) dL_law_1275 (by decide) ?_
    exact (f2 c2).elim
