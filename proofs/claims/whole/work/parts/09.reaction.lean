theorem inr_g {x y : Int32} {n : Nat} (hy : y.toInt = n) (h0 : ¬ x < 0) (h1 : ¬ y ≤ x) : vp_in x n := by
  rw [vp_in_iff]
  have a := i_nlt h0
  rw [i_0] at a
  have b := i_lt h1
  omega
def fr_rewind  (X : xT)  : xT :=
  (xw (xw X 0 (0 : Int32)) 2 (0 : Int32))
set_option maxRecDepth 100000 in
set_option maxHeartbeats 4000000 in
theorem tX_rewind {l : Launch} {D : va_G} {A : Nat → Prop} {ad : Nat → Nat} {tP : Nat} {cI : ClassId} {tl : List va_E} {tyr : List (ClassId × FieldType)} (S : kT) (P : pT) (X : xT)   : aw_M l yX_rewind (Cond.code yX_rewind cX_rewind 1 none :: aw_big) 0 D vwCl ((cI, .int) :: tyr) A ad (zC A tP) [.ref (ad 11)] (hC ad cI S P X ++ tl) none (hC ad cI S P (fr_rewind X) ++ tl) := by
  refine aw_met cX_rewind 1 none [some (.ref (ad 11))] (by decide) rfl (Nat.le_of_ble_eq_true rfl) rfl ?_
  intro p e s m args below meth c F Zs hr hlk
  refine aw_aload_n (pc := 0) (i := 0) (x := ad 11) F dX_rewind_0 rfl rfl ?_
  refine aw_iconst (pc := 1) (v := 0) F dX_rewind_1 (by decide) ?_
  refine aw_put (pc := 2) (hp' := (hC ad cI S P (xw X 0 (0 : Int32)) ++ tl)) F 11 hC_at11 rfl 2 (by decide) (fun w h => mw (iw_X w h)) tyX tyX_ok nmX (mw wd_153) (ty := .int) rfl (by decide +kernel) rfl rfl (Nat.le_of_ble_eq_true rfl) hC_st11_2 dX_rewind_2 ?_
  refine aw_aload_n (pc := 5) (i := 0) (x := ad 11) F dX_rewind_5 rfl rfl ?_
  refine aw_iconst (pc := 6) (v := 0) F dX_rewind_6 (by decide) ?_
  refine aw_put (pc := 7) (hp' := (hC ad cI S P (xw (xw X 0 (0 : Int32)) 2 (0 : Int32)) ++ tl)) F 11 hC_at11 rfl 4 (by decide) (fun w h => mw (iw_X w h)) tyX tyX_ok nmX (mw wd_156) (ty := .boolean) rfl (by decide +kernel) rfl rfl (Nat.le_of_ble_eq_true rfl) hC_st11_4 dX_rewind_7 ?_
  exact aw_vret (pc := 10) F hr hlk dX_rewind_10 (by first | rfl | (unfold fr_rewind; rfl))
def fr_settle  (X : xT)  : xT :=
  (xw (xw X 2 (1 : Int32)) 0 ((xw X 2 (1 : Int32)).1 1))
set_option maxRecDepth 100000 in
set_option maxHeartbeats 4000000 in
theorem tX_settle {l : Launch} {D : va_G} {A : Nat → Prop} {ad : Nat → Nat} {tP : Nat} {cI : ClassId} {tl : List va_E} {tyr : List (ClassId × FieldType)} (S : kT) (P : pT) (X : xT)   : aw_M l yX_settle (Cond.code yX_settle cX_settle 1 none :: aw_big) 0 D vwCl ((cI, .int) :: tyr) A ad (zC A tP) [.ref (ad 11)] (hC ad cI S P X ++ tl) none (hC ad cI S P (fr_settle X) ++ tl) := by
  refine aw_met cX_settle 1 none [some (.ref (ad 11))] (by decide) rfl (Nat.le_of_ble_eq_true rfl) rfl ?_
  intro p e s m args below meth c F Zs hr hlk
  refine aw_aload_n (pc := 0) (i := 0) (x := ad 11) F dX_settle_0 rfl rfl ?_
  refine aw_iconst (pc := 1) (v := 1) F dX_settle_1 (by decide) ?_
  refine aw_put (pc := 2) (hp' := (hC ad cI S P (xw X 2 (1 : Int32)) ++ tl)) F 11 hC_at11 rfl 4 (by decide) (fun w h => mw (iw_X w h)) tyX tyX_ok nmX (mw wd_156) (ty := .boolean) rfl (by decide +kernel) rfl rfl (Nat.le_of_ble_eq_true rfl) hC_st11_4 dX_settle_2 ?_
  refine aw_aload_n (pc := 5) (i := 0) (x := ad 11) F dX_settle_5 rfl rfl ?_
  refine aw_aload_n (pc := 6) (i := 0) (x := ad 11) F dX_settle_6 rfl rfl ?_
  refine aw_get (pc := 7) (v := .int ((xw X 2 (1 : Int32)).1 1)) F 11 hC_at11 rfl 3 (by decide) (fun w h => mw (iw_X w h)) (mw wd_155) rfl dX_settle_7 ?_
  refine aw_put (pc := 10) (hp' := (hC ad cI S P (xw (xw X 2 (1 : Int32)) 0 ((xw X 2 (1 : Int32)).1 1)) ++ tl)) F 11 hC_at11 rfl 2 (by decide) (fun w h => mw (iw_X w h)) tyX tyX_ok nmX (mw wd_153) (ty := .int) rfl (by decide +kernel) rfl rfl (Nat.le_of_ble_eq_true rfl) hC_st11_2 dX_settle_10 ?_
  exact aw_vret (pc := 13) F hr hlk dX_settle_13 (by first | rfl | (unfold fr_settle; rfl))
def fr_mustCodes  (X : xT)  : Int32 :=
  (fo_codesIn (fo_must (X.2.2)))
set_option maxRecDepth 100000 in
set_option maxHeartbeats 4000000 in
theorem tX_mustCodes {l : Launch} {D : va_G} {A : Nat → Prop} {ad : Nat → Nat} {tP : Nat} {cI : ClassId} {tl : List va_E} {tyr : List (ClassId × FieldType)} (S : kT) (P : pT) (X : xT)   : aw_M l yX_mustCodes (Cond.code yX_mustCodes cX_mustCodes 1 (some .int) :: aw_big) 1 D vwCl ((cI, .int) :: tyr) A ad (zC A tP) [.ref (ad 11)] (hC ad cI S P X ++ tl) (some (.int (fr_mustCodes X))) (hC ad cI S P X ++ tl) := by
  refine aw_met cX_mustCodes 1 (some .int) [some (.ref (ad 11))] (by decide) rfl (Nat.le_of_ble_eq_true rfl) rfl ?_
  intro p e s m args below meth c F Zs hr hlk
  refine aw_aload_n (pc := 0) (i := 0) (x := ad 11) F dX_mustCodes_0 rfl rfl ?_
  refine aw_get (pc := 1) (v := .long (X.2.2)) F 11 hC_at11 rfl 8 (by decide) (fun w h => mw (iw_X w h)) (mw wd_162) rfl dX_mustCodes_1 ?_
  refine aw_goSN (pc := 4) (As := [.long (X.2.2)]) (rest := []) F zC_ok Zs (tO_must  S P X (X.2.2)) ⟨va_cnB 1 F.1.2.2.2.2 (gi_0 wd_454) rfl rfl rfl (nw_m Zs nl_452) (F.1.2.2.2.2 _ (mw wd_75)) (by decide +kernel) ⟨Nat.le_of_ble_eq_true rfl, Nat.le_of_ble_eq_true rfl⟩, F.1.2.2.2.2 _ (mw wd_453), trivial⟩ rfl (Nat.le_of_ble_eq_true rfl) ⟨Nat.zero_le _, Nat.zero_le _⟩ rfl dX_mustCodes_4 ?_
  show aW _ _ _ _ _ _ _ _ _ _ _ _ _ _ _ _ _ _ _ _ _ [.int (fo_must (X.2.2))]
  refine aw_goSN (pc := 7) (As := [.int (fo_must (X.2.2))]) (rest := []) F zC_ok Zs (tO_codesIn  S P X (fo_must (X.2.2))) ⟨va_cnB 1 F.1.2.2.2.2 (gi_0 wd_457) rfl rfl rfl (nw_m Zs nl_455) (F.1.2.2.2.2 _ (mw wd_75)) (by decide +kernel) ⟨Nat.le_of_ble_eq_true rfl, Nat.le_of_ble_eq_true rfl⟩, F.1.2.2.2.2 _ (mw wd_456), trivial⟩ rfl (Nat.le_of_ble_eq_true rfl) ⟨Nat.zero_le _, Nat.zero_le _⟩ rfl dX_mustCodes_7 ?_
  show aW _ _ _ _ _ _ _ _ _ _ _ _ _ _ _ _ _ _ _ _ _ [.int (fo_codesIn (fo_must (X.2.2)))]
  exact aw_iret (pc := 10) F hr hlk dX_mustCodes_10 (by first | rfl | (unfold fr_mustCodes; rfl)) rfl
def fr_ends  (X : xT)  : Int32 :=
  if (fr_mustCodes X) = (2 : Int32) then (0 : Int32) else (1 : Int32)
set_option maxRecDepth 100000 in
set_option maxHeartbeats 4000000 in
theorem tX_ends {l : Launch} {D : va_G} {A : Nat → Prop} {ad : Nat → Nat} {tP : Nat} {cI : ClassId} {tl : List va_E} {tyr : List (ClassId × FieldType)} (S : kT) (P : pT) (X : xT)   : aw_M l yX_ends (Cond.code yX_ends cX_ends 1 (some .boolean) :: aw_big) 2 D vwCl ((cI, .int) :: tyr) A ad (zC A tP) [.ref (ad 11)] (hC ad cI S P X ++ tl) (some (.int (fr_ends X))) (hC ad cI S P X ++ tl) := by
  refine aw_met cX_ends 1 (some .boolean) [some (.ref (ad 11))] (by decide) rfl (Nat.le_of_ble_eq_true rfl) rfl ?_
  intro p e s m args below meth c F Zs hr hlk
  refine aw_aload_n (pc := 0) (i := 0) (x := ad 11) F dX_ends_0 rfl rfl ?_
  refine aw_goV (pc := 1) (As := []) (rest := []) F zC_ok Zs 11 hC_at11 rfl (tX_mustCodes  S P X) (cwV 0 F.1.2.2.2.2 (gi_V wd_583 wd_585 wd_42 wd_66 wd_586) rfl rfl rfl (by decide +kernel) ⟨Nat.le_of_ble_eq_true rfl, Nat.le_of_ble_eq_true rfl⟩) rfl (Nat.le_of_ble_eq_true rfl) ⟨Nat.zero_le _, Nat.zero_le _⟩ rfl dX_ends_1 ?_
  show aW _ _ _ _ _ _ _ _ _ _ _ _ _ _ _ _ _ _ _ _ _ [.int (fr_mustCodes X)]
  refine aw_iconst (pc := 4) (v := 2) F dX_ends_4 (by decide) ?_
  refine aw_icmp_eq (pc := 5) F 12 dX_ends_5 (by decide) (fun c_5 => ?_) (fun c_5 => ?_)
  · skip
    refine aw_iconst (pc := 12) (v := 0) F dX_ends_12 (by decide) ?_
    exact aw_zret (pc := 13) F hr hlk dX_ends_13 rfl (by rw [fr_ends, if_pos c_5]) rfl
  · skip
    refine aw_iconst (pc := 8) (v := 1) F dX_ends_8 (by decide) ?_
    refine aw_goto (pc := 9) F 13 dX_ends_9 (by decide) ?_
    exact aw_zret (pc := 13) F hr hlk dX_ends_13 rfl (by rw [fr_ends, if_neg c_5]) rfl
def fr_learnSignals  (X : xT)  : xT :=
  if (((X.1 3) ||| ((fo_must (X.2.2)) &&& (65520 : Int32))) ||| (((fo_can (X.2.2)) ^^^ (-1 : Int32)) &&& (65520 : Int32))) = (X.1 3) then
    (xw (xw X 3 (((X.1 3) ||| ((fo_must (X.2.2)) &&& (65520 : Int32))) ||| (((fo_can (X.2.2)) ^^^ (-1 : Int32)) &&& (65520 : Int32)))) 4 (((xw X 3 (((X.1 3) ||| ((fo_must (X.2.2)) &&& (65520 : Int32))) ||| (((fo_can (X.2.2)) ^^^ (-1 : Int32)) &&& (65520 : Int32)))).1 4) ||| ((fo_must (X.2.2)) &&& (65520 : Int32))))
  else
    (xw (xw (xw X 5 (1 : Int32)) 3 (((X.1 3) ||| ((fo_must (X.2.2)) &&& (65520 : Int32))) ||| (((fo_can (X.2.2)) ^^^ (-1 : Int32)) &&& (65520 : Int32)))) 4 (((xw (xw X 5 (1 : Int32)) 3 (((X.1 3) ||| ((fo_must (X.2.2)) &&& (65520 : Int32))) ||| (((fo_can (X.2.2)) ^^^ (-1 : Int32)) &&& (65520 : Int32)))).1 4) ||| ((fo_must (X.2.2)) &&& (65520 : Int32))))
set_option maxRecDepth 100000 in
set_option maxHeartbeats 4000000 in
theorem tX_learnSignals {l : Launch} {D : va_G} {A : Nat → Prop} {ad : Nat → Nat} {tP : Nat} {cI : ClassId} {tl : List va_E} {tyr : List (ClassId × FieldType)} (S : kT) (P : pT) (X : xT)   : aw_M l yX_learnSignals (Cond.code yX_learnSignals cX_learnSignals 4 none :: aw_big) 1 D vwCl ((cI, .int) :: tyr) A ad (zC A tP) [.ref (ad 11)] (hC ad cI S P X ++ tl) none (hC ad cI S P (fr_learnSignals X) ++ tl) := by
  refine aw_met cX_learnSignals 4 none [some (.ref (ad 11)), none, none, none] (by decide) rfl (Nat.le_of_ble_eq_true rfl) rfl ?_
  intro p e s m args below meth c F Zs hr hlk
  refine aw_aload_n (pc := 0) (i := 0) (x := ad 11) F dX_learnSignals_0 rfl rfl ?_
  refine aw_get (pc := 1) (v := .long (X.2.2)) F 11 hC_at11 rfl 8 (by decide) (fun w h => mw (iw_X w h)) (mw wd_162) rfl dX_learnSignals_1 ?_
  refine aw_goSN (pc := 4) (As := [.long (X.2.2)]) (rest := []) F zC_ok Zs (tO_must  S P X (X.2.2)) ⟨va_cnB 1 F.1.2.2.2.2 (gi_0 wd_454) rfl rfl rfl (nw_m Zs nl_452) (F.1.2.2.2.2 _ (mw wd_75)) (by decide +kernel) ⟨Nat.le_of_ble_eq_true rfl, Nat.le_of_ble_eq_true rfl⟩, F.1.2.2.2.2 _ (mw wd_453), trivial⟩ rfl (Nat.le_of_ble_eq_true rfl) ⟨Nat.zero_le _, Nat.zero_le _⟩ rfl dX_learnSignals_4 ?_
  show aW _ _ _ _ _ _ _ _ _ _ _ _ _ _ _ _ _ _ _ _ _ [.int (fo_must (X.2.2))]
  refine aw_ldc (pc := 7) (v := 65520) F dX_learnSignals_7 (mw wd_582) ?_
  refine aw_iand (pc := 9) F dX_learnSignals_9 ?_
  refine aw_istore_n (pc := 10) (i := 1) (L' := [some (.ref (ad 11)), some (.int ((fo_must (X.2.2)) &&& (65520 : Int32))), none, none]) F dX_learnSignals_10 rfl (by decide) rfl ?_
  refine aw_aload_n (pc := 11) (i := 0) (x := ad 11) F dX_learnSignals_11 rfl rfl ?_
  refine aw_get (pc := 12) (v := .long (X.2.2)) F 11 hC_at11 rfl 8 (by decide) (fun w h => mw (iw_X w h)) (mw wd_162) rfl dX_learnSignals_12 ?_
  refine aw_goSN (pc := 15) (As := [.long (X.2.2)]) (rest := []) F zC_ok Zs (tO_can  S P X (X.2.2)) ⟨va_cnB 1 F.1.2.2.2.2 (gi_0 wd_480) rfl rfl rfl (nw_m Zs nl_512) (F.1.2.2.2.2 _ (mw wd_75)) (by decide +kernel) ⟨Nat.le_of_ble_eq_true rfl, Nat.le_of_ble_eq_true rfl⟩, F.1.2.2.2.2 _ (mw wd_479), trivial⟩ rfl (Nat.le_of_ble_eq_true rfl) ⟨Nat.zero_le _, Nat.zero_le _⟩ rfl dX_learnSignals_15 ?_
  show aW _ _ _ _ _ _ _ _ _ _ _ _ _ _ _ _ _ _ _ _ _ [.int (fo_can (X.2.2))]
  refine aw_iconst (pc := 18) (v := -1) F dX_learnSignals_18 (by decide) ?_
  refine aw_ixor (pc := 19) F dX_learnSignals_19 ?_
  refine aw_ldc (pc := 20) (v := 65520) F dX_learnSignals_20 (mw wd_582) ?_
  refine aw_iand (pc := 22) F dX_learnSignals_22 ?_
  refine aw_istore_n (pc := 23) (i := 2) (L' := [some (.ref (ad 11)), some (.int ((fo_must (X.2.2)) &&& (65520 : Int32))), some (.int (((fo_can (X.2.2)) ^^^ (-1 : Int32)) &&& (65520 : Int32))), none]) F dX_learnSignals_23 rfl (by decide) rfl ?_
  refine aw_aload_n (pc := 24) (i := 0) (x := ad 11) F dX_learnSignals_24 rfl rfl ?_
  refine aw_get (pc := 25) (v := .int (X.1 3)) F 11 hC_at11 rfl 5 (by decide) (fun w h => mw (iw_X w h)) (mw wd_157) rfl dX_learnSignals_25 ?_
  refine aw_iload_n (pc := 28) (i := 1) (x := (fo_must (X.2.2)) &&& (65520 : Int32)) F dX_learnSignals_28 rfl rfl ?_
  refine aw_ior (pc := 29) F dX_learnSignals_29 ?_
  refine aw_iload_n (pc := 30) (i := 2) (x := ((fo_can (X.2.2)) ^^^ (-1 : Int32)) &&& (65520 : Int32)) F dX_learnSignals_30 rfl rfl ?_
  refine aw_ior (pc := 31) F dX_learnSignals_31 ?_
  refine aw_istore_n (pc := 32) (i := 3) (L' := [some (.ref (ad 11)), some (.int ((fo_must (X.2.2)) &&& (65520 : Int32))), some (.int (((fo_can (X.2.2)) ^^^ (-1 : Int32)) &&& (65520 : Int32))), some (.int (((X.1 3) ||| ((fo_must (X.2.2)) &&& (65520 : Int32))) ||| (((fo_can (X.2.2)) ^^^ (-1 : Int32)) &&& (65520 : Int32))))]) F dX_learnSignals_32 rfl (by decide) rfl ?_
  refine aw_iload_n (pc := 33) (i := 3) (x := ((X.1 3) ||| ((fo_must (X.2.2)) &&& (65520 : Int32))) ||| (((fo_can (X.2.2)) ^^^ (-1 : Int32)) &&& (65520 : Int32))) F dX_learnSignals_33 rfl rfl ?_
  refine aw_aload_n (pc := 34) (i := 0) (x := ad 11) F dX_learnSignals_34 rfl rfl ?_
  refine aw_get (pc := 35) (v := .int (X.1 3)) F 11 hC_at11 rfl 5 (by decide) (fun w h => mw (iw_X w h)) (mw wd_157) rfl dX_learnSignals_35 ?_
  refine aw_icmp_eq (pc := 38) F 46 dX_learnSignals_38 (by decide) (fun c_38 => ?_) (fun c_38 => ?_)
  · skip
    refine aw_aload_n (pc := 46) (i := 0) (x := ad 11) F dX_learnSignals_46 rfl rfl ?_
    refine aw_iload_n (pc := 47) (i := 3) (x := ((X.1 3) ||| ((fo_must (X.2.2)) &&& (65520 : Int32))) ||| (((fo_can (X.2.2)) ^^^ (-1 : Int32)) &&& (65520 : Int32))) F dX_learnSignals_47 rfl rfl ?_
    refine aw_put (pc := 48) (hp' := (hC ad cI S P (xw X 3 (((X.1 3) ||| ((fo_must (X.2.2)) &&& (65520 : Int32))) ||| (((fo_can (X.2.2)) ^^^ (-1 : Int32)) &&& (65520 : Int32)))) ++ tl)) F 11 hC_at11 rfl 5 (by decide) (fun w h => mw (iw_X w h)) tyX tyX_ok nmX (mw wd_157) (ty := .int) rfl (by decide +kernel) rfl rfl (Nat.le_of_ble_eq_true rfl) hC_st11_5 dX_learnSignals_48 ?_
    refine aw_aload_n (pc := 51) (i := 0) (x := ad 11) F dX_learnSignals_51 rfl rfl ?_
    refine aw_dup (pc := 52) F dX_learnSignals_52 rfl ?_
    refine aw_get (pc := 53) (v := .int ((xw X 3 (((X.1 3) ||| ((fo_must (X.2.2)) &&& (65520 : Int32))) ||| (((fo_can (X.2.2)) ^^^ (-1 : Int32)) &&& (65520 : Int32)))).1 4)) F 11 hC_at11 rfl 6 (by decide) (fun w h => mw (iw_X w h)) (mw wd_159) rfl dX_learnSignals_53 ?_
    refine aw_iload_n (pc := 56) (i := 1) (x := (fo_must (X.2.2)) &&& (65520 : Int32)) F dX_learnSignals_56 rfl rfl ?_
    refine aw_ior (pc := 57) F dX_learnSignals_57 ?_
    refine aw_put (pc := 58) (hp' := (hC ad cI S P (xw (xw X 3 (((X.1 3) ||| ((fo_must (X.2.2)) &&& (65520 : Int32))) ||| (((fo_can (X.2.2)) ^^^ (-1 : Int32)) &&& (65520 : Int32)))) 4 (((xw X 3 (((X.1 3) ||| ((fo_must (X.2.2)) &&& (65520 : Int32))) ||| (((fo_can (X.2.2)) ^^^ (-1 : Int32)) &&& (65520 : Int32)))).1 4) ||| ((fo_must (X.2.2)) &&& (65520 : Int32)))) ++ tl)) F 11 hC_at11 rfl 6 (by decide) (fun w h => mw (iw_X w h)) tyX tyX_ok nmX (mw wd_159) (ty := .int) rfl (by decide +kernel) rfl rfl (Nat.le_of_ble_eq_true rfl) hC_st11_6 dX_learnSignals_58 ?_
    exact aw_vret (pc := 61) F hr hlk dX_learnSignals_61 (by rw [fr_learnSignals, if_pos c_38])
  · skip
    refine aw_aload_n (pc := 41) (i := 0) (x := ad 11) F dX_learnSignals_41 rfl rfl ?_
    refine aw_iconst (pc := 42) (v := 1) F dX_learnSignals_42 (by decide) ?_
    refine aw_put (pc := 43) (hp' := (hC ad cI S P (xw X 5 (1 : Int32)) ++ tl)) F 11 hC_at11 rfl 7 (by decide) (fun w h => mw (iw_X w h)) tyX tyX_ok nmX (mw wd_161) (ty := .boolean) rfl (by decide +kernel) rfl rfl (Nat.le_of_ble_eq_true rfl) hC_st11_7 dX_learnSignals_43 ?_
    refine aw_aload_n (pc := 46) (i := 0) (x := ad 11) F dX_learnSignals_46 rfl rfl ?_
    refine aw_iload_n (pc := 47) (i := 3) (x := ((X.1 3) ||| ((fo_must (X.2.2)) &&& (65520 : Int32))) ||| (((fo_can (X.2.2)) ^^^ (-1 : Int32)) &&& (65520 : Int32))) F dX_learnSignals_47 rfl rfl ?_
    refine aw_put (pc := 48) (hp' := (hC ad cI S P (xw (xw X 5 (1 : Int32)) 3 (((X.1 3) ||| ((fo_must (X.2.2)) &&& (65520 : Int32))) ||| (((fo_can (X.2.2)) ^^^ (-1 : Int32)) &&& (65520 : Int32)))) ++ tl)) F 11 hC_at11 rfl 5 (by decide) (fun w h => mw (iw_X w h)) tyX tyX_ok nmX (mw wd_157) (ty := .int) rfl (by decide +kernel) rfl rfl (Nat.le_of_ble_eq_true rfl) hC_st11_5 dX_learnSignals_48 ?_
    refine aw_aload_n (pc := 51) (i := 0) (x := ad 11) F dX_learnSignals_51 rfl rfl ?_
    refine aw_dup (pc := 52) F dX_learnSignals_52 rfl ?_
    refine aw_get (pc := 53) (v := .int ((xw (xw X 5 (1 : Int32)) 3 (((X.1 3) ||| ((fo_must (X.2.2)) &&& (65520 : Int32))) ||| (((fo_can (X.2.2)) ^^^ (-1 : Int32)) &&& (65520 : Int32)))).1 4)) F 11 hC_at11 rfl 6 (by decide) (fun w h => mw (iw_X w h)) (mw wd_159) rfl dX_learnSignals_53 ?_
    refine aw_iload_n (pc := 56) (i := 1) (x := (fo_must (X.2.2)) &&& (65520 : Int32)) F dX_learnSignals_56 rfl rfl ?_
    refine aw_ior (pc := 57) F dX_learnSignals_57 ?_
    refine aw_put (pc := 58) (hp' := (hC ad cI S P (xw (xw (xw X 5 (1 : Int32)) 3 (((X.1 3) ||| ((fo_must (X.2.2)) &&& (65520 : Int32))) ||| (((fo_can (X.2.2)) ^^^ (-1 : Int32)) &&& (65520 : Int32)))) 4 (((xw (xw X 5 (1 : Int32)) 3 (((X.1 3) ||| ((fo_must (X.2.2)) &&& (65520 : Int32))) ||| (((fo_can (X.2.2)) ^^^ (-1 : Int32)) &&& (65520 : Int32)))).1 4) ||| ((fo_must (X.2.2)) &&& (65520 : Int32)))) ++ tl)) F 11 hC_at11 rfl 6 (by decide) (fun w h => mw (iw_X w h)) tyX tyX_ok nmX (mw wd_159) (ty := .int) rfl (by decide +kernel) rfl rfl (Nat.le_of_ble_eq_true rfl) hC_st11_6 dX_learnSignals_58 ?_
    exact aw_vret (pc := 61) F hr hlk dX_learnSignals_61 (by rw [fr_learnSignals, if_neg c_38])
def fr_learnStatus  (X : xT) (sl : Int32) (v : Int32) : xT :=
  if sl < 0 then X else if (360 : Int32) ≤ sl then X else (xw (xa X sl.toNatClampNeg v) 5 (1 : Int32))
set_option maxRecDepth 100000 in
set_option maxHeartbeats 4000000 in
theorem tX_learnStatus {l : Launch} {D : va_G} {A : Nat → Prop} {ad : Nat → Nat} {tP : Nat} {cI : ClassId} {tl : List va_E} {tyr : List (ClassId × FieldType)} (S : kT) (P : pT) (X : xT) (sl : Int32) (v : Int32)  : aw_M l yX_learnStatus (Cond.code yX_learnStatus cX_learnStatus 3 none :: aw_big) 0 D vwCl ((cI, .int) :: tyr) A ad (zC A tP) [.ref (ad 11), .int sl, .int v] (hC ad cI S P X ++ tl) none (hC ad cI S P (fr_learnStatus X sl v) ++ tl) := by
  refine aw_met cX_learnStatus 3 none [some (.ref (ad 11)), some (.int sl), some (.int v)] (by decide) rfl (Nat.le_of_ble_eq_true rfl) rfl ?_
  intro p e s m args below meth c F Zs hr hlk
  refine aw_iload_n (pc := 0) (i := 1) (x := sl) F dX_learnStatus_0 rfl rfl ?_
  refine aw_if_lt (pc := 1) F 25 dX_learnStatus_1 (by decide) (fun c_1 => ?_) (fun c_1 => ?_)
  · skip
    exact aw_vret (pc := 25) F hr hlk dX_learnStatus_25 (by rw [fr_learnStatus, if_pos c_1])
  · skip
    refine aw_iload_n (pc := 4) (i := 1) (x := sl) F dX_learnStatus_4 rfl rfl ?_
    refine aw_aload_n (pc := 5) (i := 0) (x := ad 11) F dX_learnStatus_5 rfl rfl ?_
    refine aw_get (pc := 6) (v := .ref (ad 12)) F 11 hC_at11 rfl 1 (by decide) (fun w h => mw (iw_X w h)) (mw wd_152) rfl dX_learnStatus_6 ?_
    refine aw_alen (pc := 9) (v := 360) F 12 0 hC_at12 rfl rfl dX_learnStatus_9 ?_
    refine aw_icmp_ge (pc := 10) F 25 dX_learnStatus_10 (by decide) (fun c_10 => ?_) (fun c_10 => ?_)
    · skip
      exact aw_vret (pc := 25) F hr hlk dX_learnStatus_25 (by rw [fr_learnStatus, if_neg c_1, if_pos c_10])
    · skip
      refine aw_aload_n (pc := 13) (i := 0) (x := ad 11) F dX_learnStatus_13 rfl rfl ?_
      refine aw_get (pc := 14) (v := .ref (ad 12)) F 11 hC_at11 rfl 1 (by decide) (fun w h => mw (iw_X w h)) (mw wd_152) rfl dX_learnStatus_14 ?_
      refine aw_iload_n (pc := 17) (i := 1) (x := sl) F dX_learnStatus_17 rfl rfl ?_
      refine aw_iload_n (pc := 18) (i := 2) (x := v) F dX_learnStatus_18 rfl rfl ?_
      refine aw_iast (pc := 19) (hp' := (hC ad cI S P (xa X sl.toNatClampNeg v) ++ tl)) F 12 0 hC_at12 rfl (inr_g (y := 360) rfl c_1 c_10) hC_st12 dX_learnStatus_19 ?_
      refine aw_aload_n (pc := 20) (i := 0) (x := ad 11) F dX_learnStatus_20 rfl rfl ?_
      refine aw_iconst (pc := 21) (v := 1) F dX_learnStatus_21 (by decide) ?_
      refine aw_put (pc := 22) (hp' := (hC ad cI S P (xw (xa X sl.toNatClampNeg v) 5 (1 : Int32)) ++ tl)) F 11 hC_at11 rfl 7 (by decide) (fun w h => mw (iw_X w h)) tyX tyX_ok nmX (mw wd_161) (ty := .boolean) rfl (by decide +kernel) rfl rfl (Nat.le_of_ble_eq_true rfl) hC_st11_7 dX_learnStatus_22 ?_
      exact aw_vret (pc := 25) F hr hlk dX_learnStatus_25 (by rw [fr_learnStatus, if_neg c_1, if_neg c_10])
def fr_statusAt  (X : xT) (sl : Int32) : Int32 :=
  if sl < 0 then
    (2 : Int32)
  else
    if (360 : Int32) ≤ sl then (2 : Int32) else ((X.2.1) sl.toNatClampNeg)
set_option maxRecDepth 100000 in
set_option maxHeartbeats 4000000 in
theorem tX_statusAt {l : Launch} {D : va_G} {A : Nat → Prop} {ad : Nat → Nat} {tP : Nat} {cI : ClassId} {tl : List va_E} {tyr : List (ClassId × FieldType)} (S : kT) (P : pT) (X : xT) (sl : Int32)  : aw_M l yX_statusAt (Cond.code yX_statusAt cX_statusAt 2 (some .int) :: aw_big) 0 D vwCl ((cI, .int) :: tyr) A ad (zC A tP) [.ref (ad 11), .int sl] (hC ad cI S P X ++ tl) (some (.int (fr_statusAt X sl))) (hC ad cI S P X ++ tl) := by
  refine aw_met cX_statusAt 2 (some .int) [some (.ref (ad 11)), some (.int sl)] (by decide) rfl (Nat.le_of_ble_eq_true rfl) rfl ?_
  intro p e s m args below meth c F Zs hr hlk
  refine aw_iload_n (pc := 0) (i := 1) (x := sl) F dX_statusAt_0 rfl rfl ?_
  refine aw_if_lt (pc := 1) F 22 dX_statusAt_1 (by decide) (fun c_1 => ?_) (fun c_1 => ?_)
  · skip
    refine aw_iconst (pc := 22) (v := 2) F dX_statusAt_22 (by decide) ?_
    exact aw_iret (pc := 23) F hr hlk dX_statusAt_23 (by rw [fr_statusAt, if_pos c_1]) rfl
  · skip
    refine aw_iload_n (pc := 4) (i := 1) (x := sl) F dX_statusAt_4 rfl rfl ?_
    refine aw_aload_n (pc := 5) (i := 0) (x := ad 11) F dX_statusAt_5 rfl rfl ?_
    refine aw_get (pc := 6) (v := .ref (ad 12)) F 11 hC_at11 rfl 1 (by decide) (fun w h => mw (iw_X w h)) (mw wd_152) rfl dX_statusAt_6 ?_
    refine aw_alen (pc := 9) (v := 360) F 12 0 hC_at12 rfl rfl dX_statusAt_9 ?_
    refine aw_icmp_ge (pc := 10) F 22 dX_statusAt_10 (by decide) (fun c_10 => ?_) (fun c_10 => ?_)
    · skip
      refine aw_iconst (pc := 22) (v := 2) F dX_statusAt_22 (by decide) ?_
      exact aw_iret (pc := 23) F hr hlk dX_statusAt_23 (by rw [fr_statusAt, if_neg c_1, if_pos c_10]) rfl
    · skip
      refine aw_aload_n (pc := 13) (i := 0) (x := ad 11) F dX_statusAt_13 rfl rfl ?_
      refine aw_get (pc := 14) (v := .ref (ad 12)) F 11 hC_at11 rfl 1 (by decide) (fun w h => mw (iw_X w h)) (mw wd_152) rfl dX_statusAt_14 ?_
      refine aw_iload_n (pc := 17) (i := 1) (x := sl) F dX_statusAt_17 rfl rfl ?_
      refine aw_iald (pc := 18) F 12 0 hC_at12 rfl (inr_g (y := 360) rfl c_1 c_10) dX_statusAt_18 ?_
      refine aw_goto (pc := 19) F 23 dX_statusAt_19 (by decide) ?_
      exact aw_iret (pc := 23) F hr hlk dX_statusAt_23 (by rw [fr_statusAt, if_neg c_1, if_neg c_10]) rfl
def fr_learnLocal  (X : xT) (sl : Int32) (sg : Int32) (w : Int64) : Int32 × xT :=
  if (fk_hasBit (fo_must w) sg) = 0 then
    if (fk_hasBit (fo_can w) sg) = 0 then ((1 : Int32), (fr_learnStatus X sl (0 : Int32))) else ((0 : Int32), X)
  else
    ((1 : Int32), (fr_learnStatus X sl (1 : Int32)))
set_option maxRecDepth 100000 in
set_option maxHeartbeats 4000000 in
theorem tX_learnLocal {l : Launch} {D : va_G} {A : Nat → Prop} {ad : Nat → Nat} {tP : Nat} {cI : ClassId} {tl : List va_E} {tyr : List (ClassId × FieldType)} (S : kT) (P : pT) (X : xT) (sl : Int32) (sg : Int32) (w : Int64)  : aw_M l yX_learnLocal (Cond.code yX_learnLocal cX_learnLocal 5 (some .boolean) :: aw_big) 1 D vwCl ((cI, .int) :: tyr) A ad (zC A tP) [.ref (ad 11), .int sl, .int sg, .long w] (hC ad cI S P X ++ tl) (some (.int ((fr_learnLocal X sl sg w).1))) (hC ad cI S P ((fr_learnLocal X sl sg w).2) ++ tl) := by
  refine aw_met cX_learnLocal 5 (some .boolean) [some (.ref (ad 11)), some (.int sl), some (.int sg), some (.long w), none] (by decide) rfl (Nat.le_of_ble_eq_true rfl) rfl ?_
  intro p e s m args below meth c F Zs hr hlk
  refine aw_lload_n (pc := 0) (i := 3) (x := w) F dX_learnLocal_0 rfl rfl ?_
  refine aw_goSN (pc := 1) (As := [.long w]) (rest := []) F zC_ok Zs (tO_must  S P X w) ⟨va_cnB 1 F.1.2.2.2.2 (gi_0 wd_454) rfl rfl rfl (nw_m Zs nl_452) (F.1.2.2.2.2 _ (mw wd_75)) (by decide +kernel) ⟨Nat.le_of_ble_eq_true rfl, Nat.le_of_ble_eq_true rfl⟩, F.1.2.2.2.2 _ (mw wd_453), trivial⟩ rfl (Nat.le_of_ble_eq_true rfl) ⟨Nat.zero_le _, Nat.zero_le _⟩ rfl dX_learnLocal_1 ?_
  show aW _ _ _ _ _ _ _ _ _ _ _ _ _ _ _ _ _ _ _ _ _ [.int (fo_must w)]
  refine aw_iload_n (pc := 4) (i := 2) (x := sg) F dX_learnLocal_4 rfl rfl ?_
  refine aw_goSN (pc := 5) (As := [.int (fo_must w), .int sg]) (rest := []) F zC_ok Zs (tK_hasBit  S P X (fo_must w) sg) ⟨va_cnB 2 F.1.2.2.2.2 (gi_0 wd_507) rfl rfl rfl (nw_m Zs nl_505) (F.1.2.2.2.2 _ (mw wd_64)) (by decide +kernel) ⟨Nat.le_of_ble_eq_true rfl, Nat.le_of_ble_eq_true rfl⟩, F.1.2.2.2.2 _ (mw wd_506), trivial⟩ rfl (Nat.le_of_ble_eq_true rfl) ⟨Nat.zero_le _, Nat.zero_le _⟩ rfl dX_learnLocal_5 ?_
  show aW _ _ _ _ _ _ _ _ _ _ _ _ _ _ _ _ _ _ _ _ _ [.int (fk_hasBit (fo_must w) sg)]
  refine aw_if_eq (pc := 8) F 19 dX_learnLocal_8 (by decide) (fun c_8 => ?_) (fun c_8 => ?_)
  · skip
    refine aw_lload_n (pc := 19) (i := 3) (x := w) F dX_learnLocal_19 rfl rfl ?_
    refine aw_goSN (pc := 20) (As := [.long w]) (rest := []) F zC_ok Zs (tO_can  S P X w) ⟨va_cnB 1 F.1.2.2.2.2 (gi_0 wd_480) rfl rfl rfl (nw_m Zs nl_512) (F.1.2.2.2.2 _ (mw wd_75)) (by decide +kernel) ⟨Nat.le_of_ble_eq_true rfl, Nat.le_of_ble_eq_true rfl⟩, F.1.2.2.2.2 _ (mw wd_479), trivial⟩ rfl (Nat.le_of_ble_eq_true rfl) ⟨Nat.zero_le _, Nat.zero_le _⟩ rfl dX_learnLocal_20 ?_
    show aW _ _ _ _ _ _ _ _ _ _ _ _ _ _ _ _ _ _ _ _ _ [.int (fo_can w)]
    refine aw_iload_n (pc := 23) (i := 2) (x := sg) F dX_learnLocal_23 rfl rfl ?_
    refine aw_goSN (pc := 24) (As := [.int (fo_can w), .int sg]) (rest := []) F zC_ok Zs (tK_hasBit  S P X (fo_can w) sg) ⟨va_cnB 2 F.1.2.2.2.2 (gi_0 wd_507) rfl rfl rfl (nw_m Zs nl_505) (F.1.2.2.2.2 _ (mw wd_64)) (by decide +kernel) ⟨Nat.le_of_ble_eq_true rfl, Nat.le_of_ble_eq_true rfl⟩, F.1.2.2.2.2 _ (mw wd_506), trivial⟩ rfl (Nat.le_of_ble_eq_true rfl) ⟨Nat.zero_le _, Nat.zero_le _⟩ rfl dX_learnLocal_24 ?_
    show aW _ _ _ _ _ _ _ _ _ _ _ _ _ _ _ _ _ _ _ _ _ [.int (fk_hasBit (fo_can w) sg)]
    refine aw_if_ne (pc := 27) F 38 dX_learnLocal_27 (by decide) (fun c_27 => ?_) (fun c_27 => ?_)
    · skip
      refine aw_iconst (pc := 38) (v := 0) F dX_learnLocal_38 (by decide) ?_
      exact aw_zret (pc := 39) F hr hlk dX_learnLocal_39 rfl (by rw [fr_learnLocal, if_pos c_8, if_neg c_27]) (by rw [fr_learnLocal, if_pos c_8, if_neg c_27])
    · skip
      refine aw_aload_n (pc := 30) (i := 0) (x := ad 11) F dX_learnLocal_30 rfl rfl ?_
      refine aw_iload_n (pc := 31) (i := 1) (x := sl) F dX_learnLocal_31 rfl rfl ?_
      refine aw_iconst (pc := 32) (v := 0) F dX_learnLocal_32 (by decide) ?_
      refine aw_goV (pc := 33) (As := [.int sl, .int (0 : Int32)]) (rest := []) F zC_ok Zs 11 hC_at11 rfl (tX_learnStatus  S P X sl (0 : Int32)) (cwV 2 F.1.2.2.2.2 (gi_V wd_508 wd_510 wd_32 wd_66 wd_511) rfl rfl rfl (by decide +kernel) ⟨Nat.le_of_ble_eq_true rfl, Nat.le_of_ble_eq_true rfl⟩) rfl (Nat.le_of_ble_eq_true rfl) ⟨Nat.zero_le _, Nat.zero_le _⟩ rfl dX_learnLocal_33 ?_
      show aW _ _ _ _ _ _ _ _ _ _ _ _ _ _ _ _ _ _ _ _ _ []
      refine aw_iconst (pc := 36) (v := 1) F dX_learnLocal_36 (by decide) ?_
      exact aw_zret (pc := 37) F hr hlk dX_learnLocal_37 rfl (by rw [fr_learnLocal, if_pos c_8, if_pos c_27]) (by rw [fr_learnLocal, if_pos c_8, if_pos c_27])
  · skip
    refine aw_aload_n (pc := 11) (i := 0) (x := ad 11) F dX_learnLocal_11 rfl rfl ?_
    refine aw_iload_n (pc := 12) (i := 1) (x := sl) F dX_learnLocal_12 rfl rfl ?_
    refine aw_iconst (pc := 13) (v := 1) F dX_learnLocal_13 (by decide) ?_
    refine aw_goV (pc := 14) (As := [.int sl, .int (1 : Int32)]) (rest := []) F zC_ok Zs 11 hC_at11 rfl (tX_learnStatus  S P X sl (1 : Int32)) (cwV 2 F.1.2.2.2.2 (gi_V wd_508 wd_510 wd_32 wd_66 wd_511) rfl rfl rfl (by decide +kernel) ⟨Nat.le_of_ble_eq_true rfl, Nat.le_of_ble_eq_true rfl⟩) rfl (Nat.le_of_ble_eq_true rfl) ⟨Nat.zero_le _, Nat.zero_le _⟩ rfl dX_learnLocal_14 ?_
    show aW _ _ _ _ _ _ _ _ _ _ _ _ _ _ _ _ _ _ _ _ _ []
    refine aw_iconst (pc := 17) (v := 1) F dX_learnLocal_17 (by decide) ?_
    exact aw_zret (pc := 18) F hr hlk dX_learnLocal_18 rfl (by rw [fr_learnLocal, if_neg c_8]) (by rw [fr_learnLocal, if_neg c_8])
def fr_isSelectedIn  (P : pT) (X : xT) (at_ : Int32) : Int32 :=
  if ((X.1 0) &&& (fp_pausesIn P at_)) = 0 then (0 : Int32) else (1 : Int32)
set_option maxRecDepth 100000 in
set_option maxHeartbeats 4000000 in
theorem tX_isSelectedIn {l : Launch} {D : va_G} {A : Nat → Prop} {ad : Nat → Nat} {tP : Nat} {cI : ClassId} {tl : List va_E} {tyr : List (ClassId × FieldType)} (S : kT) (P : pT) (X : xT) (at_ : Int32) (hS : pS P) : aw_M l yX_isSelectedIn (Cond.code yX_isSelectedIn cX_isSelectedIn 2 (some .boolean) :: aw_big) 2 D vwCl ((cI, .int) :: tyr) A ad (zC A tP) [.ref (ad 11), .int at_] (hC ad cI S P X ++ tl) (some (.int (fr_isSelectedIn P X at_))) (hC ad cI S P X ++ tl) := by
  refine aw_met cX_isSelectedIn 2 (some .boolean) [some (.ref (ad 11)), some (.int at_)] (by decide) rfl (Nat.le_of_ble_eq_true rfl) rfl ?_
  intro p e s m args below meth c F Zs hr hlk
  refine aw_aload_n (pc := 0) (i := 0) (x := ad 11) F dX_isSelectedIn_0 rfl rfl ?_
  refine aw_get (pc := 1) (v := .int (X.1 0)) F 11 hC_at11 rfl 2 (by decide) (fun w h => mw (iw_X w h)) (mw wd_153) rfl dX_isSelectedIn_1 ?_
  refine aw_aload_n (pc := 4) (i := 0) (x := ad 11) F dX_isSelectedIn_4 rfl rfl ?_
  refine aw_get (pc := 5) (v := .ref (ad 1)) F 11 hC_at11 rfl 0 (by decide) (fun w h => mw (iw_X w h)) (mw wd_151) rfl dX_isSelectedIn_5 ?_
  refine aw_iload_n (pc := 8) (i := 1) (x := at_) F dX_isSelectedIn_8 rfl rfl ?_
  refine aw_goVN (pc := 9) (As := [.int at_]) (rest := [.int (X.1 0)]) F zC_ok Zs 1 hC_at1 rfl (tG_pausesIn  S P X at_ hS) ⟨va_cnB 1 F.1.2.2.2.2 (gi_0 wd_461) rfl rfl rfl (nw_m Zs nl_458) (F.1.2.2.2.2 _ (mw wd_65)) (by decide +kernel) ⟨Nat.le_of_ble_eq_true rfl, Nat.le_of_ble_eq_true rfl⟩, F.1.2.2.2.2 _ (mw wd_460), F.1.2.2.2.2 _ (mw wd_26)⟩ rfl (Nat.le_of_ble_eq_true rfl) ⟨Nat.zero_le _, Nat.zero_le _⟩ rfl dX_isSelectedIn_9 ?_
  show aW _ _ _ _ _ _ _ _ _ _ _ _ _ _ _ _ _ _ _ _ _ [.int (fp_pausesIn P at_), .int (X.1 0)]
  refine aw_iand (pc := 12) F dX_isSelectedIn_12 ?_
  refine aw_if_eq (pc := 13) F 20 dX_isSelectedIn_13 (by decide) (fun c_13 => ?_) (fun c_13 => ?_)
  · skip
    refine aw_iconst (pc := 20) (v := 0) F dX_isSelectedIn_20 (by decide) ?_
    exact aw_zret (pc := 21) F hr hlk dX_isSelectedIn_21 rfl (by rw [fr_isSelectedIn, if_pos c_13]) rfl
  · skip
    refine aw_iconst (pc := 16) (v := 1) F dX_isSelectedIn_16 (by decide) ?_
    refine aw_goto (pc := 17) F 21 dX_isSelectedIn_17 (by decide) ?_
    exact aw_zret (pc := 21) F hr hlk dX_isSelectedIn_21 rfl (by rw [fr_isSelectedIn, if_neg c_13]) rfl
def fr_tested  (X : xT) (te : Int32) : Int32 :=
  if 0 ≤ te then
    if (fk_statusIn (X.1 3) (X.1 4) te) = (2 : Int32) then
      (fk_statusIn (X.1 3) (X.1 4) te)
    else
      if te < 0 then
        if (fk_statusIn (X.1 3) (X.1 4) te) = (1 : Int32) then (0 : Int32) else (1 : Int32)
      else
        (fk_statusIn (X.1 3) (X.1 4) te)
  else
    if (fk_statusIn (X.1 3) (X.1 4) ((-1 : Int32) - te)) = (2 : Int32) then
      (fk_statusIn (X.1 3) (X.1 4) ((-1 : Int32) - te))
    else
      if te < 0 then
        if (fk_statusIn (X.1 3) (X.1 4) ((-1 : Int32) - te)) = (1 : Int32) then (0 : Int32) else (1 : Int32)
      else
        (fk_statusIn (X.1 3) (X.1 4) ((-1 : Int32) - te))
set_option maxRecDepth 100000 in
set_option maxHeartbeats 4000000 in
theorem tX_tested {l : Launch} {D : va_G} {A : Nat → Prop} {ad : Nat → Nat} {tP : Nat} {cI : ClassId} {tl : List va_E} {tyr : List (ClassId × FieldType)} (S : kT) (P : pT) (X : xT) (te : Int32)  : aw_M l yX_tested (Cond.code yX_tested cX_tested 4 (some .int) :: aw_big) 2 D vwCl ((cI, .int) :: tyr) A ad (zC A tP) [.ref (ad 11), .int te] (hC ad cI S P X ++ tl) (some (.int (fr_tested X te))) (hC ad cI S P X ++ tl) := by
  refine aw_met cX_tested 4 (some .int) [some (.ref (ad 11)), some (.int te), none, none] (by decide) rfl (Nat.le_of_ble_eq_true rfl) rfl ?_
  intro p e s m args below meth c F Zs hr hlk
  refine aw_iload_n (pc := 0) (i := 1) (x := te) F dX_tested_0 rfl rfl ?_
  refine aw_if_ge (pc := 1) F 10 dX_tested_1 (by decide) (fun c_1 => ?_) (fun c_1 => ?_)
  · skip
    refine aw_iload_n (pc := 10) (i := 1) (x := te) F dX_tested_10 rfl rfl ?_
    refine aw_istore_n (pc := 11) (i := 2) (L' := [some (.ref (ad 11)), some (.int te), some (.int te), none]) F dX_tested_11 rfl (by decide) rfl ?_
    refine aw_aload_n (pc := 12) (i := 0) (x := ad 11) F dX_tested_12 rfl rfl ?_
    refine aw_get (pc := 13) (v := .int (X.1 3)) F 11 hC_at11 rfl 5 (by decide) (fun w h => mw (iw_X w h)) (mw wd_157) rfl dX_tested_13 ?_
    refine aw_aload_n (pc := 16) (i := 0) (x := ad 11) F dX_tested_16 rfl rfl ?_
    refine aw_get (pc := 17) (v := .int (X.1 4)) F 11 hC_at11 rfl 6 (by decide) (fun w h => mw (iw_X w h)) (mw wd_159) rfl dX_tested_17 ?_
    refine aw_iload_n (pc := 20) (i := 2) (x := te) F dX_tested_20 rfl rfl ?_
    refine aw_goSN (pc := 21) (As := [.int (X.1 3), .int (X.1 4), .int te]) (rest := []) F zC_ok Zs (tK_statusIn  S P X (X.1 3) (X.1 4) te) ⟨va_cnB 3 F.1.2.2.2.2 (gi_0 wd_536) rfl rfl rfl (nw_m Zs nl_534) (F.1.2.2.2.2 _ (mw wd_64)) (by decide +kernel) ⟨Nat.le_of_ble_eq_true rfl, Nat.le_of_ble_eq_true rfl⟩, F.1.2.2.2.2 _ (mw wd_535), trivial⟩ rfl (Nat.le_of_ble_eq_true rfl) ⟨Nat.zero_le _, Nat.zero_le _⟩ rfl dX_tested_21 ?_
    show aW _ _ _ _ _ _ _ _ _ _ _ _ _ _ _ _ _ _ _ _ _ [.int (fk_statusIn (X.1 3) (X.1 4) te)]
    refine aw_istore_n (pc := 24) (i := 3) (L' := [some (.ref (ad 11)), some (.int te), some (.int te), some (.int (fk_statusIn (X.1 3) (X.1 4) te))]) F dX_tested_24 rfl (by decide) rfl ?_
    refine aw_iload_n (pc := 25) (i := 3) (x := (fk_statusIn (X.1 3) (X.1 4) te)) F dX_tested_25 rfl rfl ?_
    refine aw_iconst (pc := 26) (v := 2) F dX_tested_26 (by decide) ?_
    refine aw_icmp_eq (pc := 27) F 34 dX_tested_27 (by decide) (fun c_27 => ?_) (fun c_27 => ?_)
    · skip
      refine aw_iload_n (pc := 34) (i := 3) (x := (fk_statusIn (X.1 3) (X.1 4) te)) F dX_tested_34 rfl rfl ?_
      exact aw_iret (pc := 35) F hr hlk dX_tested_35 (by rw [fr_tested, if_pos c_1, if_pos c_27]) rfl
    · skip
      refine aw_iload_n (pc := 30) (i := 1) (x := te) F dX_tested_30 rfl rfl ?_
      refine aw_if_lt (pc := 31) F 36 dX_tested_31 (by decide) (fun c_31 => ?_) (fun c_31 => ?_)
      · skip
        refine aw_iload_n (pc := 36) (i := 3) (x := (fk_statusIn (X.1 3) (X.1 4) te)) F dX_tested_36 rfl rfl ?_
        refine aw_iconst (pc := 37) (v := 1) F dX_tested_37 (by decide) ?_
        refine aw_icmp_ne (pc := 38) F 45 dX_tested_38 (by decide) (fun c_38 => ?_) (fun c_38 => ?_)
        · skip
          refine aw_iconst (pc := 45) (v := 1) F dX_tested_45 (by decide) ?_
          exact aw_iret (pc := 46) F hr hlk dX_tested_46 (by rw [fr_tested, if_pos c_1, if_neg c_27, if_pos c_31, if_neg c_38]) rfl
        · skip
          refine aw_iconst (pc := 41) (v := 0) F dX_tested_41 (by decide) ?_
          refine aw_goto (pc := 42) F 46 dX_tested_42 (by decide) ?_
          exact aw_iret (pc := 46) F hr hlk dX_tested_46 (by rw [fr_tested, if_pos c_1, if_neg c_27, if_pos c_31, if_pos c_38]) rfl
      · skip
        refine aw_iload_n (pc := 34) (i := 3) (x := (fk_statusIn (X.1 3) (X.1 4) te)) F dX_tested_34 rfl rfl ?_
        exact aw_iret (pc := 35) F hr hlk dX_tested_35 (by rw [fr_tested, if_pos c_1, if_neg c_27, if_neg c_31]) rfl
  · skip
    refine aw_iconst (pc := 4) (v := -1) F dX_tested_4 (by decide) ?_
    refine aw_iload_n (pc := 5) (i := 1) (x := te) F dX_tested_5 rfl rfl ?_
    refine aw_isub (pc := 6) F dX_tested_6 ?_
    refine aw_goto (pc := 7) F 11 dX_tested_7 (by decide) ?_
    refine aw_istore_n (pc := 11) (i := 2) (L' := [some (.ref (ad 11)), some (.int te), some (.int ((-1 : Int32) - te)), none]) F dX_tested_11 rfl (by decide) rfl ?_
    refine aw_aload_n (pc := 12) (i := 0) (x := ad 11) F dX_tested_12 rfl rfl ?_
    refine aw_get (pc := 13) (v := .int (X.1 3)) F 11 hC_at11 rfl 5 (by decide) (fun w h => mw (iw_X w h)) (mw wd_157) rfl dX_tested_13 ?_
    refine aw_aload_n (pc := 16) (i := 0) (x := ad 11) F dX_tested_16 rfl rfl ?_
    refine aw_get (pc := 17) (v := .int (X.1 4)) F 11 hC_at11 rfl 6 (by decide) (fun w h => mw (iw_X w h)) (mw wd_159) rfl dX_tested_17 ?_
    refine aw_iload_n (pc := 20) (i := 2) (x := (-1 : Int32) - te) F dX_tested_20 rfl rfl ?_
    refine aw_goSN (pc := 21) (As := [.int (X.1 3), .int (X.1 4), .int ((-1 : Int32) - te)]) (rest := []) F zC_ok Zs (tK_statusIn  S P X (X.1 3) (X.1 4) ((-1 : Int32) - te)) ⟨va_cnB 3 F.1.2.2.2.2 (gi_0 wd_536) rfl rfl rfl (nw_m Zs nl_534) (F.1.2.2.2.2 _ (mw wd_64)) (by decide +kernel) ⟨Nat.le_of_ble_eq_true rfl, Nat.le_of_ble_eq_true rfl⟩, F.1.2.2.2.2 _ (mw wd_535), trivial⟩ rfl (Nat.le_of_ble_eq_true rfl) ⟨Nat.zero_le _, Nat.zero_le _⟩ rfl dX_tested_21 ?_
    show aW _ _ _ _ _ _ _ _ _ _ _ _ _ _ _ _ _ _ _ _ _ [.int (fk_statusIn (X.1 3) (X.1 4) ((-1 : Int32) - te))]
    refine aw_istore_n (pc := 24) (i := 3) (L' := [some (.ref (ad 11)), some (.int te), some (.int ((-1 : Int32) - te)), some (.int (fk_statusIn (X.1 3) (X.1 4) ((-1 : Int32) - te)))]) F dX_tested_24 rfl (by decide) rfl ?_
    refine aw_iload_n (pc := 25) (i := 3) (x := (fk_statusIn (X.1 3) (X.1 4) ((-1 : Int32) - te))) F dX_tested_25 rfl rfl ?_
    refine aw_iconst (pc := 26) (v := 2) F dX_tested_26 (by decide) ?_
    refine aw_icmp_eq (pc := 27) F 34 dX_tested_27 (by decide) (fun c_27 => ?_) (fun c_27 => ?_)
    · skip
      refine aw_iload_n (pc := 34) (i := 3) (x := (fk_statusIn (X.1 3) (X.1 4) ((-1 : Int32) - te))) F dX_tested_34 rfl rfl ?_
      exact aw_iret (pc := 35) F hr hlk dX_tested_35 (by rw [fr_tested, if_neg c_1, if_pos c_27]) rfl
    · skip
      refine aw_iload_n (pc := 30) (i := 1) (x := te) F dX_tested_30 rfl rfl ?_
      refine aw_if_lt (pc := 31) F 36 dX_tested_31 (by decide) (fun c_31 => ?_) (fun c_31 => ?_)
      · skip
        refine aw_iload_n (pc := 36) (i := 3) (x := (fk_statusIn (X.1 3) (X.1 4) ((-1 : Int32) - te))) F dX_tested_36 rfl rfl ?_
        refine aw_iconst (pc := 37) (v := 1) F dX_tested_37 (by decide) ?_
        refine aw_icmp_ne (pc := 38) F 45 dX_tested_38 (by decide) (fun c_38 => ?_) (fun c_38 => ?_)
        · skip
          refine aw_iconst (pc := 45) (v := 1) F dX_tested_45 (by decide) ?_
          exact aw_iret (pc := 46) F hr hlk dX_tested_46 (by rw [fr_tested, if_neg c_1, if_neg c_27, if_pos c_31, if_neg c_38]) rfl
        · skip
          refine aw_iconst (pc := 41) (v := 0) F dX_tested_41 (by decide) ?_
          refine aw_goto (pc := 42) F 46 dX_tested_42 (by decide) ?_
          exact aw_iret (pc := 46) F hr hlk dX_tested_46 (by rw [fr_tested, if_neg c_1, if_neg c_27, if_pos c_31, if_pos c_38]) rfl
      · skip
        refine aw_iload_n (pc := 34) (i := 3) (x := (fk_statusIn (X.1 3) (X.1 4) ((-1 : Int32) - te))) F dX_tested_34 rfl rfl ?_
        exact aw_iret (pc := 35) F hr hlk dX_tested_35 (by rw [fr_tested, if_neg c_1, if_neg c_27, if_neg c_31]) rfl
def fr_forgetL : Nat → pT → xT → Int32 → xT
  | 0, P, X, sl => X
  | n + 1, P, X, sl =>
      if (P.1 5) ≤ sl then
      X
    else
      if (360 : Int32) ≤ sl then X else (fr_forgetL n P (xa X sl.toNatClampNeg (2 : Int32)) (sl + (1 : Int32)))
set_option maxRecDepth 100000 in
set_option maxHeartbeats 4000000 in
theorem tX_forgetLocals_L2 {l : Launch} {D : va_G} {A : Nat → Prop} {ad : Nat → Nat} {tP : Nat} {cI : ClassId} {tl : List va_E} {tyr : List (ClassId × FieldType)} {p : Program} {e : Env} {s : State} {m : MethodId} {args : Array Value} {below : List Frame} {meth : Method} {c : Code} (F : aw_F p s m c args cX_forgetLocals 2 (Cond.code yX_forgetLocals cX_forgetLocals 2 none :: aw_big) yX_forgetLocals.cls D vwCl ((cI, .int) :: tyr)) (Zs : zC A tP s) (hr : meth.sig.returnType = none) (hlk : meth.locks = false) :
    ∀ (n : Nat) (S : kT) (P : pT) (X : xT)  (sl : Int32) (h0 : 0 ≤ sl.toInt) (hm : 360 < sl.toInt + n) (h1 : sl.toInt ≤ 360), aW p l e (aw_rm 0) s m args below meth c 0 0 (MQ below (aw_Q D vwCl A ad none (hC ad cI S P (fr_forgetL n P X sl) ++ tl)) args s 0 0 A) D vwCl A ad 2 (hC ad cI S P X ++ tl) [some (.ref (ad 11)), some (.int sl)] 2 [] := by
  intro n
  induction n with
  | zero =>
    intro S P X sl h0 hm h1
    exfalso; omega
  | succ n ih =>
    intro S P X sl h0 hm h1
    refine aw_iload_n (pc := 2) (i := 1) (x := sl) F dX_forgetLocals_2 rfl rfl ?_
    refine aw_aload_n (pc := 3) (i := 0) (x := ad 11) F dX_forgetLocals_3 rfl rfl ?_
    refine aw_get (pc := 4) (v := .ref (ad 1)) F 11 hC_at11 rfl 0 (by decide) (fun w h => mw (iw_X w h)) (mw wd_151) rfl dX_forgetLocals_4 ?_
    refine aw_getN (pc := 7) (v := .int (P.1 5)) F 1 hC_at1 rfl 14 (by decide) (fun w h => mw (iw_G w h)) (nw_f Zs nl_111) rfl dX_forgetLocals_7 ?_
    refine aw_icmp_ge (pc := 10) F 35 dX_forgetLocals_10 (by decide) (fun c_10 => ?_) (fun c_10 => ?_)
    · skip
      exact aw_vret (pc := 35) F hr hlk dX_forgetLocals_35 (by rw [fr_forgetL, if_pos c_10])
    · skip
      refine aw_iload_n (pc := 13) (i := 1) (x := sl) F dX_forgetLocals_13 rfl rfl ?_
      refine aw_aload_n (pc := 14) (i := 0) (x := ad 11) F dX_forgetLocals_14 rfl rfl ?_
      refine aw_get (pc := 15) (v := .ref (ad 12)) F 11 hC_at11 rfl 1 (by decide) (fun w h => mw (iw_X w h)) (mw wd_152) rfl dX_forgetLocals_15 ?_
      refine aw_alen (pc := 18) (v := 360) F 12 0 hC_at12 rfl rfl dX_forgetLocals_18 ?_
      refine aw_icmp_ge (pc := 19) F 35 dX_forgetLocals_19 (by decide) (fun c_19 => ?_) (fun c_19 => ?_)
      · skip
        exact aw_vret (pc := 35) F hr hlk dX_forgetLocals_35 (by rw [fr_forgetL, if_neg c_10, if_pos c_19])
      · skip
        refine aw_aload_n (pc := 22) (i := 0) (x := ad 11) F dX_forgetLocals_22 rfl rfl ?_
        refine aw_get (pc := 23) (v := .ref (ad 12)) F 11 hC_at11 rfl 1 (by decide) (fun w h => mw (iw_X w h)) (mw wd_152) rfl dX_forgetLocals_23 ?_
        refine aw_iload_n (pc := 26) (i := 1) (x := sl) F dX_forgetLocals_26 rfl rfl ?_
        refine aw_iconst (pc := 27) (v := 2) F dX_forgetLocals_27 (by decide) ?_
        refine aw_iast (pc := 28) (hp' := (hC ad cI S P (xa X sl.toNatClampNeg (2 : Int32)) ++ tl)) F 12 0 hC_at12 rfl (vp_in_iff.mpr (by have a := i_lt c_19; have b : (360 : Int32).toInt = 360 := rfl; omega)) hC_st12 dX_forgetLocals_28 ?_
        refine aw_iinc (pc := 29) (x := sl) (v := sl + (1 : Int32)) (L' := [some (.ref (ad 11)), some (.int (sl + (1 : Int32)))]) F dX_forgetLocals_29 rfl rfl (by decide) rfl ?_
        refine aw_goto (pc := 32) F 2 dX_forgetLocals_32 (by decide) ?_
        rw [show (fr_forgetL (n + 1) P X sl) = (fr_forgetL n P (xa X sl.toNatClampNeg (2 : Int32)) (sl + (1 : Int32))) from by rw [fr_forgetL, if_neg c_10, if_neg c_19]]
        exact ih S P (xa X sl.toNatClampNeg (2 : Int32))  (sl + (1 : Int32)) (by have a := i_up (i_lt c_19); omega) (by have a := i_up (i_lt c_19); omega) (by have a := i_up (i_lt c_19); have b := i_lt c_19; have e : (360 : Int32).toInt = 360 := rfl; omega)
def fr_forgetLocals  (P : pT) (X : xT)  : xT :=
  (fr_forgetL 361 P X (0 : Int32))
set_option maxRecDepth 100000 in
set_option maxHeartbeats 4000000 in
theorem tX_forgetLocals {l : Launch} {D : va_G} {A : Nat → Prop} {ad : Nat → Nat} {tP : Nat} {cI : ClassId} {tl : List va_E} {tyr : List (ClassId × FieldType)} (S : kT) (P : pT) (X : xT)   : aw_M l yX_forgetLocals (Cond.code yX_forgetLocals cX_forgetLocals 2 none :: aw_big) 0 D vwCl ((cI, .int) :: tyr) A ad (zC A tP) [.ref (ad 11)] (hC ad cI S P X ++ tl) none (hC ad cI S P (fr_forgetLocals P X) ++ tl) := by
  refine aw_met cX_forgetLocals 2 none [some (.ref (ad 11)), none] (by decide) rfl (Nat.le_of_ble_eq_true rfl) rfl ?_
  intro p e s m args below meth c F Zs hr hlk
  refine aw_iconst (pc := 0) (v := 0) F dX_forgetLocals_0 (by decide) ?_
  refine aw_istore_n (pc := 1) (i := 1) (L' := [some (.ref (ad 11)), some (.int (0 : Int32))]) F dX_forgetLocals_1 rfl (by decide) rfl ?_
  rw [show (fr_forgetLocals P X) = (fr_forgetL 361 P X (0 : Int32)) from by rw [fr_forgetLocals]]
  exact tX_forgetLocals_L2  F Zs hr hlk 361 S P X  (0 : Int32) (by rw [i_0]; omega) (by rw [i_0]; omega) (by rw [i_0]; omega)
