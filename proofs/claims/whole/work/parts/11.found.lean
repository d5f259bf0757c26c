def fr_passL : Nat → pT → xT → Int32 → Int32 × xT
  | 0, P, X, ps => (0, X)
  | n + 1, P, X, ps =>
      if (X.1 5) = 0 then
      if (fr_mustCodes X) = 0 then ((0 : Int32), X) else ((1 : Int32), X)
    else
      if (400 : Int32) ≤ ps then
        if (fr_mustCodes X) = 0 then ((0 : Int32), X) else ((1 : Int32), X)
      else
        (fr_passL n P (fr_learnSignals (xl ((fr_run 121 P (xw (xw X 5 (0 : Int32)) 1 (0 : Int32)) (0 : Int32) (0 : Int32) (1 : Int32)).2) ((fr_run 121 P (xw (xw X 5 (0 : Int32)) 1 (0 : Int32)) (0 : Int32) (0 : Int32) (1 : Int32)).1))) (ps + (1 : Int32)))
set_option maxRecDepth 100000 in
set_option maxHeartbeats 4000000 in
theorem tX_isFound_L22 {l : Launch} {D : va_G} {A : Nat → Prop} {ad : Nat → Nat} {tP : Nat} {cI : ClassId} {tl : List va_E} {tyr : List (ClassId × FieldType)} {p : Program} {e : Env} {s : State} {m : MethodId} {args : Array Value} {below : List Frame} {meth : Method} {c : Code} (F : aw_F p s m c args cX_isFound 3 (Cond.code yX_isFound cX_isFound 3 (some .boolean) :: aw_big) yX_isFound.cls D vwCl ((cI, .int) :: tyr)) (Zs : zC A tP s) (hr : meth.sig.returnType = (some .boolean)) (hlk : meth.locks = false) :
    ∀ (n : Nat) (S : kT) (P : pT) (X : xT)  (ps : Int32) (hS : pS P) (hW : pW P) (h0 : 0 < (P.1 1).toInt) (h1 : 0 ≤ ps.toInt) (h2 : ps.toInt ≤ 400) (hm : 400 < ps.toInt + n), aW p l e (aw_rm 401) s m args below meth c 0 0 (MQ below (aw_Q D vwCl A ad (some (.int ((fr_passL n P X ps).1))) (hC ad cI S P ((fr_passL n P X ps).2) ++ tl)) args s 0 0 A) D vwCl A ad 3 (hC ad cI S P X ++ tl) [some (.ref (ad 11)), none, some (.int ps)] 22 [] := by
  intro n
  induction n with
  | zero =>
    intro S P X ps hS hW h0 h1 h2 hm
    exfalso; omega
  | succ n ih =>
    intro S P X ps hS hW h0 h1 h2 hm
    refine aw_aload_n (pc := 22) (i := 0) (x := ad 11) F dX_isFound_22 rfl rfl ?_
    refine aw_get (pc := 23) (v := .int (X.1 5)) F 11 hC_at11 rfl 7 (by decide) (fun w h => mw (iw_X w h)) (mw wd_161) rfl dX_isFound_23 ?_
    refine aw_if_eq (pc := 26) F 67 dX_isFound_26 (by decide) (fun c_26 => ?_) (fun c_26 => ?_)
    · skip
      refine aw_aload_n (pc := 67) (i := 0) (x := ad 11) F dX_isFound_67 rfl rfl ?_
      refine aw_goV (pc := 68) (As := []) (rest := []) F zC_ok Zs 11 hC_at11 rfl (tX_mustCodes  S P X) (cwV 0 F.1.2.2.2.2 (gi_V wd_583 wd_585 wd_42 wd_66 wd_586) rfl rfl rfl (by decide +kernel) ⟨by decide, by decide⟩) rfl (Nat.le_of_ble_eq_true rfl) ⟨Nat.zero_le _, Nat.zero_le _⟩ rfl dX_isFound_68 ?_
      show aW _ _ _ _ _ _ _ _ _ _ _ _ _ _ _ _ _ _ _ _ _ [.int (fr_mustCodes X)]
      refine aw_if_eq (pc := 71) F 78 dX_isFound_71 (by decide) (fun c_71 => ?_) (fun c_71 => ?_)
      · skip
        refine aw_iconst (pc := 78) (v := 0) F dX_isFound_78 (by decide) ?_
        exact aw_zret (pc := 79) F hr hlk dX_isFound_79 rfl (by rw [fr_passL, if_pos c_26, if_pos c_71]) (by rw [fr_passL, if_pos c_26, if_pos c_71])
      · skip
        refine aw_iconst (pc := 74) (v := 1) F dX_isFound_74 (by decide) ?_
        refine aw_goto (pc := 75) F 79 dX_isFound_75 (by decide) ?_
        exact aw_zret (pc := 79) F hr hlk dX_isFound_79 rfl (by rw [fr_passL, if_pos c_26, if_neg c_71]) (by rw [fr_passL, if_pos c_26, if_neg c_71])
    · skip
      refine aw_iload_n (pc := 29) (i := 2) (x := ps) F dX_isFound_29 rfl rfl ?_
      refine aw_sipush (pc := 30) (v := 400) F dX_isFound_30 (by decide) ?_
      refine aw_icmp_ge (pc := 33) F 67 dX_isFound_33 (by decide) (fun c_33 => ?_) (fun c_33 => ?_)
      · skip
        refine aw_aload_n (pc := 67) (i := 0) (x := ad 11) F dX_isFound_67 rfl rfl ?_
        refine aw_goV (pc := 68) (As := []) (rest := []) F zC_ok Zs 11 hC_at11 rfl (tX_mustCodes  S P X) (cwV 0 F.1.2.2.2.2 (gi_V wd_583 wd_585 wd_42 wd_66 wd_586) rfl rfl rfl (by decide +kernel) ⟨by decide, by decide⟩) rfl (Nat.le_of_ble_eq_true rfl) ⟨Nat.zero_le _, Nat.zero_le _⟩ rfl dX_isFound_68 ?_
        show aW _ _ _ _ _ _ _ _ _ _ _ _ _ _ _ _ _ _ _ _ _ [.int (fr_mustCodes X)]
        refine aw_if_eq (pc := 71) F 78 dX_isFound_71 (by decide) (fun c_71 => ?_) (fun c_71 => ?_)
        · skip
          refine aw_iconst (pc := 78) (v := 0) F dX_isFound_78 (by decide) ?_
          exact aw_zret (pc := 79) F hr hlk dX_isFound_79 rfl (by rw [fr_passL, if_neg c_26, if_pos c_33, if_pos c_71]) (by rw [fr_passL, if_neg c_26, if_pos c_33, if_pos c_71])
        · skip
          refine aw_iconst (pc := 74) (v := 1) F dX_isFound_74 (by decide) ?_
          refine aw_goto (pc := 75) F 79 dX_isFound_75 (by decide) ?_
          exact aw_zret (pc := 79) F hr hlk dX_isFound_79 rfl (by rw [fr_passL, if_neg c_26, if_pos c_33, if_neg c_71]) (by rw [fr_passL, if_neg c_26, if_pos c_33, if_neg c_71])
      · skip
        refine aw_aload_n (pc := 36) (i := 0) (x := ad 11) F dX_isFound_36 rfl rfl ?_
        refine aw_iconst (pc := 37) (v := 0) F dX_isFound_37 (by decide) ?_
        refine aw_put (pc := 38) (hp' := (hC ad cI S P (xw X 5 (0 : Int32)) ++ tl)) F 11 hC_at11 rfl 7 (by decide) (fun w h => mw (iw_X w h)) tyX tyX_ok nmX (mw wd_161) (ty := .boolean) rfl (by decide +kernel) rfl rfl (Nat.le_of_ble_eq_true rfl) hC_st11_7 dX_isFound_38 ?_
        refine aw_aload_n (pc := 41) (i := 0) (x := ad 11) F dX_isFound_41 rfl rfl ?_
        refine aw_iconst (pc := 42) (v := 0) F dX_isFound_42 (by decide) ?_
        refine aw_put (pc := 43) (hp' := (hC ad cI S P (xw (xw X 5 (0 : Int32)) 1 (0 : Int32)) ++ tl)) F 11 hC_at11 rfl 3 (by decide) (fun w h => mw (iw_X w h)) tyX tyX_ok nmX (mw wd_155) (ty := .int) rfl (by decide +kernel) rfl rfl (Nat.le_of_ble_eq_true rfl) hC_st11_3 dX_isFound_43 ?_
        refine aw_aload_n (pc := 46) (i := 0) (x := ad 11) F dX_isFound_46 rfl rfl ?_
        refine aw_aload_n (pc := 47) (i := 0) (x := ad 11) F dX_isFound_47 rfl rfl ?_
        refine aw_iconst (pc := 48) (v := 0) F dX_isFound_48 (by decide) ?_
        refine aw_iconst (pc := 49) (v := 0) F dX_isFound_49 (by decide) ?_
        refine aw_iconst (pc := 50) (v := 1) F dX_isFound_50 (by decide) ?_
        refine aw_goV (pc := 51) (As := [.int (0 : Int32), .int (0 : Int32), .int (1 : Int32)]) (rest := [.ref (ad 11)]) F zC_ok Zs 11 hC_at11 rfl (tX_runN S P hS hW 121 (xw (xw X 5 (0 : Int32)) 1 (0 : Int32)) (0 : Int32) (0 : Int32) (1 : Int32) ⟨Int.le_refl _, h0, by have := hS.2; rw [i_0]; omega⟩) (cwV 3 F.1.2.2.2.2 (gi_V wd_443 wd_445 wd_24 wd_66 wd_446) rfl rfl rfl (by decide +kernel) ⟨by decide, by decide⟩) rfl (Nat.le_of_ble_eq_true rfl) ⟨Nat.zero_le _, Nat.zero_le _⟩ rfl dX_isFound_51 ?_
        show aW _ _ _ _ _ _ _ _ _ _ _ _ _ _ _ _ _ _ _ _ _ [.long ((fr_run 121 P (xw (xw X 5 (0 : Int32)) 1 (0 : Int32)) (0 : Int32) (0 : Int32) (1 : Int32)).1), .ref (ad 11)]
        refine aw_put (pc := 54) (hp' := (hC ad cI S P (xl ((fr_run 121 P (xw (xw X 5 (0 : Int32)) 1 (0 : Int32)) (0 : Int32) (0 : Int32) (1 : Int32)).2) ((fr_run 121 P (xw (xw X 5 (0 : Int32)) 1 (0 : Int32)) (0 : Int32) (0 : Int32) (1 : Int32)).1)) ++ tl)) F 11 hC_at11 rfl 8 (by decide) (fun w h => mw (iw_X w h)) tyX tyX_ok nmX (mw wd_162) (ty := .long) rfl (by decide +kernel) rfl rfl (Nat.le_of_ble_eq_true rfl) hC_st11_8 dX_isFound_54 ?_
        refine aw_aload_n (pc := 57) (i := 0) (x := ad 11) F dX_isFound_57 rfl rfl ?_
        refine aw_goV (pc := 58) (As := []) (rest := []) F zC_ok Zs 11 hC_at11 rfl (tX_learnSignals  S P (xl ((fr_run 121 P (xw (xw X 5 (0 : Int32)) 1 (0 : Int32)) (0 : Int32) (0 : Int32) (1 : Int32)).2) ((fr_run 121 P (xw (xw X 5 (0 : Int32)) 1 (0 : Int32)) (0 : Int32) (0 : Int32) (1 : Int32)).1))) (cwV 0 F.1.2.2.2.2 (gi_V wd_578 wd_580 wd_41 wd_66 wd_581) rfl rfl rfl (by decide +kernel) ⟨by decide, by decide⟩) rfl (Nat.le_of_ble_eq_true rfl) ⟨Nat.zero_le _, Nat.zero_le _⟩ rfl dX_isFound_58 ?_
        show aW _ _ _ _ _ _ _ _ _ _ _ _ _ _ _ _ _ _ _ _ _ []
        refine aw_iinc (pc := 61) (x := ps) (v := ps + (1 : Int32)) (L' := [some (.ref (ad 11)), none, some (.int (ps + (1 : Int32)))]) F dX_isFound_61 rfl rfl (by decide) rfl ?_
        refine aw_goto (pc := 64) F 22 dX_isFound_64 (by decide) ?_
        rw [show (fr_passL (n + 1) P X ps) = (fr_passL n P (fr_learnSignals (xl ((fr_run 121 P (xw (xw X 5 (0 : Int32)) 1 (0 : Int32)) (0 : Int32) (0 : Int32) (1 : Int32)).2) ((fr_run 121 P (xw (xw X 5 (0 : Int32)) 1 (0 : Int32)) (0 : Int32) (0 : Int32) (1 : Int32)).1))) (ps + (1 : Int32))) from by rw [fr_passL, if_neg c_26, if_neg c_33]]
        exact ih S P (fr_learnSignals (xl ((fr_run 121 P (xw (xw X 5 (0 : Int32)) 1 (0 : Int32)) (0 : Int32) (0 : Int32) (1 : Int32)).2) ((fr_run 121 P (xw (xw X 5 (0 : Int32)) 1 (0 : Int32)) (0 : Int32) (0 : Int32) (1 : Int32)).1)))  (ps + (1 : Int32)) hS hW h0 (by have a := i_up (i_lt c_33); omega) (by have a := i_up (i_lt c_33); have b := i_lt c_33; have e : (400 : Int32).toInt = 400 := rfl; omega) (by have a := i_up (i_lt c_33); omega)
def fr_isFound  (P : pT) (X : xT) (inp : Int32) : Int32 × xT :=
  (fr_passL 401 P (xw (xw (xw (fr_forgetLocals P X) 3 (15 : Int32)) 4 inp) 5 (1 : Int32)) (0 : Int32))
set_option maxRecDepth 100000 in
set_option maxHeartbeats 4000000 in
theorem tX_isFound {l : Launch} {D : va_G} {A : Nat → Prop} {ad : Nat → Nat} {tP : Nat} {cI : ClassId} {tl : List va_E} {tyr : List (ClassId × FieldType)} (S : kT) (P : pT) (X : xT) (inp : Int32) (hS : pS P) (hW : pW P) (h0 : 0 < (P.1 1).toInt) : aw_M l yX_isFound (Cond.code yX_isFound cX_isFound 3 (some .boolean) :: aw_big) 401 D vwCl ((cI, .int) :: tyr) A ad (zC A tP) [.ref (ad 11), .int inp] (hC ad cI S P X ++ tl) (some (.int ((fr_isFound P X inp).1))) (hC ad cI S P ((fr_isFound P X inp).2) ++ tl) := by
  refine aw_met cX_isFound 3 (some .boolean) [some (.ref (ad 11)), some (.int inp), none] (by decide) rfl (Nat.le_of_ble_eq_true rfl) rfl ?_
  intro p e s m args below meth c F Zs hr hlk
  refine aw_aload_n (pc := 0) (i := 0) (x := ad 11) F dX_isFound_0 rfl rfl ?_
  refine aw_goV (pc := 1) (As := []) (rest := []) F zC_ok Zs 11 hC_at11 rfl (tX_forgetLocals  S P X) (cwV 0 F.1.2.2.2.2 (gi_V wd_439 wd_441 wd_23 wd_66 wd_442) rfl rfl rfl (by decide +kernel) ⟨Nat.le_of_ble_eq_true rfl, Nat.le_of_ble_eq_true rfl⟩) rfl (Nat.le_of_ble_eq_true rfl) ⟨Nat.zero_le _, Nat.zero_le _⟩ rfl dX_isFound_1 ?_
  show aW _ _ _ _ _ _ _ _ _ _ _ _ _ _ _ _ _ _ _ _ _ []
  refine aw_aload_n (pc := 4) (i := 0) (x := ad 11) F dX_isFound_4 rfl rfl ?_
  refine aw_bipush (pc := 5) (v := 15) F dX_isFound_5 (by decide) ?_
  refine aw_put (pc := 7) (hp' := (hC ad cI S P (xw (fr_forgetLocals P X) 3 (15 : Int32)) ++ tl)) F 11 hC_at11 rfl 5 (by decide) (fun w h => mw (iw_X w h)) tyX tyX_ok nmX (mw wd_157) (ty := .int) rfl (by decide +kernel) rfl rfl (Nat.le_of_ble_eq_true rfl) hC_st11_5 dX_isFound_7 ?_
  refine aw_aload_n (pc := 10) (i := 0) (x := ad 11) F dX_isFound_10 rfl rfl ?_
  refine aw_iload_n (pc := 11) (i := 1) (x := inp) F dX_isFound_11 rfl rfl ?_
  refine aw_put (pc := 12) (hp' := (hC ad cI S P (xw (xw (fr_forgetLocals P X) 3 (15 : Int32)) 4 inp) ++ tl)) F 11 hC_at11 rfl 6 (by decide) (fun w h => mw (iw_X w h)) tyX tyX_ok nmX (mw wd_159) (ty := .int) rfl (by decide +kernel) rfl rfl (Nat.le_of_ble_eq_true rfl) hC_st11_6 dX_isFound_12 ?_
  refine aw_aload_n (pc := 15) (i := 0) (x := ad 11) F dX_isFound_15 rfl rfl ?_
  refine aw_iconst (pc := 16) (v := 1) F dX_isFound_16 (by decide) ?_
  refine aw_put (pc := 17) (hp' := (hC ad cI S P (xw (xw (xw (fr_forgetLocals P X) 3 (15 : Int32)) 4 inp) 5 (1 : Int32)) ++ tl)) F 11 hC_at11 rfl 7 (by decide) (fun w h => mw (iw_X w h)) tyX tyX_ok nmX (mw wd_161) (ty := .boolean) rfl (by decide +kernel) rfl rfl (Nat.le_of_ble_eq_true rfl) hC_st11_7 dX_isFound_17 ?_
  refine aw_iconst (pc := 20) (v := 0) F dX_isFound_20 (by decide) ?_
  refine aw_istore_n (pc := 21) (i := 2) (L' := [some (.ref (ad 11)), some (.int inp), some (.int (0 : Int32))]) F dX_isFound_21 rfl (by decide) rfl ?_
  rw [show (fr_isFound P X inp) = (fr_passL 401 P (xw (xw (xw (fr_forgetLocals P X) 3 (15 : Int32)) 4 inp) 5 (1 : Int32)) (0 : Int32)) from by rw [fr_isFound]]
  refine aw_less (L' := [some (.ref (ad 11)), none, some (.int (0 : Int32))]) (fun i v h => by match i, h with | 0, h => exact h | 1, h => cases h | 2, h => exact h | _ + 3, h => cases h) ?_
  exact tX_isFound_L22  F Zs hr hlk 401 S P (xw (xw (xw (fr_forgetLocals P X) 3 (15 : Int32)) 4 inp) 5 (1 : Int32))  (0 : Int32) hS hW h0 (by rw [i_0]; omega) (by rw [i_0]; omega) (by rw [i_0]; omega)
