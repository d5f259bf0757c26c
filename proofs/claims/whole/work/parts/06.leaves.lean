def fc_ofExit   (x : Int32) : Int32 :=
  ((4 : Int32) <<< (x &&& 31))
set_option maxRecDepth 100000 in
set_option maxHeartbeats 4000000 in
theorem tC_ofExit {l : Launch} {D : va_G} {A : Nat → Prop} {ad : Nat → Nat} {tP : Nat} {cI : ClassId} {tl : List va_E} {tyr : List (ClassId × FieldType)} (S : kT) (P : pT) (X : xT) (x : Int32)  : aw_M l yC_ofExit (Cond.code yC_ofExit cC_ofExit 1 (some .int) :: aw_big) 0 D vwCl ((cI, .int) :: tyr) A ad (zC A tP) [.int x] (hC ad cI S P X ++ tl) (some (.int (fc_ofExit x))) (hC ad cI S P X ++ tl) := by
  refine aw_met cC_ofExit 1 (some .int) [some (.int x)] (by decide) rfl (Nat.le_of_ble_eq_true rfl) rfl ?_
  intro p e s m args below meth c F Zs hr hlk
  refine aw_iconst (pc := 0) (v := 4) F dC_ofExit_0 (by decide) ?_
  refine aw_iload_n (pc := 1) (i := 0) (x := x) F dC_ofExit_1 rfl rfl ?_
  refine aw_ishl (pc := 2) F dC_ofExit_2 ?_
  exact aw_iret (pc := 3) F hr hlk dC_ofExit_3 (by first | rfl | (unfold fc_ofExit; rfl)) rfl
def fc_haveZero   (x : Int32) : Int32 :=
  if (x &&& (1 : Int32)) = 0 then (0 : Int32) else (1 : Int32)
set_option maxRecDepth 100000 in
set_option maxHeartbeats 4000000 in
theorem tC_haveZero {l : Launch} {D : va_G} {A : Nat → Prop} {ad : Nat → Nat} {tP : Nat} {cI : ClassId} {tl : List va_E} {tyr : List (ClassId × FieldType)} (S : kT) (P : pT) (X : xT) (x : Int32)  : aw_M l yC_haveZero (Cond.code yC_haveZero cC_haveZero 1 (some .boolean) :: aw_big) 0 D vwCl ((cI, .int) :: tyr) A ad (zC A tP) [.int x] (hC ad cI S P X ++ tl) (some (.int (fc_haveZero x))) (hC ad cI S P X ++ tl) := by
  refine aw_met cC_haveZero 1 (some .boolean) [some (.int x)] (by decide) rfl (Nat.le_of_ble_eq_true rfl) rfl ?_
  intro p e s m args below meth c F Zs hr hlk
  refine aw_iload_n (pc := 0) (i := 0) (x := x) F dC_haveZero_0 rfl rfl ?_
  refine aw_iconst (pc := 1) (v := 1) F dC_haveZero_1 (by decide) ?_
  refine aw_iand (pc := 2) F dC_haveZero_2 ?_
  refine aw_if_eq (pc := 3) F 10 dC_haveZero_3 (by decide) (fun c_3 => ?_) (fun c_3 => ?_)
  · skip
    refine aw_iconst (pc := 10) (v := 0) F dC_haveZero_10 (by decide) ?_
    exact aw_zret (pc := 11) F hr hlk dC_haveZero_11 rfl (by rw [fc_haveZero, if_pos c_3]) rfl
  · skip
    refine aw_iconst (pc := 6) (v := 1) F dC_haveZero_6 (by decide) ?_
    refine aw_goto (pc := 7) F 11 dC_haveZero_7 (by decide) ?_
    exact aw_zret (pc := 11) F hr hlk dC_haveZero_11 rfl (by rw [fc_haveZero, if_neg c_3]) rfl
def fc_withoutZero   (x : Int32) : Int32 :=
  (x &&& (-2 : Int32))
set_option maxRecDepth 100000 in
set_option maxHeartbeats 4000000 in
theorem tC_withoutZero {l : Launch} {D : va_G} {A : Nat → Prop} {ad : Nat → Nat} {tP : Nat} {cI : ClassId} {tl : List va_E} {tyr : List (ClassId × FieldType)} (S : kT) (P : pT) (X : xT) (x : Int32)  : aw_M l yC_withoutZero (Cond.code yC_withoutZero cC_withoutZero 1 (some .int) :: aw_big) 0 D vwCl ((cI, .int) :: tyr) A ad (zC A tP) [.int x] (hC ad cI S P X ++ tl) (some (.int (fc_withoutZero x))) (hC ad cI S P X ++ tl) := by
  refine aw_met cC_withoutZero 1 (some .int) [some (.int x)] (by decide) rfl (Nat.le_of_ble_eq_true rfl) rfl ?_
  intro p e s m args below meth c F Zs hr hlk
  refine aw_iload_n (pc := 0) (i := 0) (x := x) F dC_withoutZero_0 rfl rfl ?_
  refine aw_bipush (pc := 1) (v := -2) F dC_withoutZero_1 (by decide) ?_
  refine aw_iand (pc := 3) F dC_withoutZero_3 ?_
  exact aw_iret (pc := 4) F hr hlk dC_withoutZero_4 (by first | rfl | (unfold fc_withoutZero; rfl)) rfl
def fc_inSequence   (x : Int32) (y : Int32) : Int32 :=
  if (fc_haveZero x) = 0 then x else ((fc_withoutZero x) ||| y)
set_option maxRecDepth 100000 in
set_option maxHeartbeats 4000000 in
theorem tC_inSequence {l : Launch} {D : va_G} {A : Nat → Prop} {ad : Nat → Nat} {tP : Nat} {cI : ClassId} {tl : List va_E} {tyr : List (ClassId × FieldType)} (S : kT) (P : pT) (X : xT) (x : Int32) (y : Int32)  : aw_M l yC_inSequence (Cond.code yC_inSequence cC_inSequence 2 (some .int) :: aw_big) 1 D vwCl ((cI, .int) :: tyr) A ad (zC A tP) [.int x, .int y] (hC ad cI S P X ++ tl) (some (.int (fc_inSequence x y))) (hC ad cI S P X ++ tl) := by
  refine aw_met cC_inSequence 2 (some .int) [some (.int x), some (.int y)] (by decide) rfl (Nat.le_of_ble_eq_true rfl) rfl ?_
  intro p e s m args below meth c F Zs hr hlk
  refine aw_iload_n (pc := 0) (i := 0) (x := x) F dC_inSequence_0 rfl rfl ?_
  refine aw_goS (pc := 1) (As := [.int x]) (rest := []) F zC_ok Zs (tC_haveZero  S P X x) (va_cwS 1 F.1.2.2.2.2 (gi_S wd_412 wd_413 wd_73 wd_414) rfl rfl rfl (by decide +kernel) ⟨Nat.le_of_ble_eq_true rfl, Nat.le_of_ble_eq_true rfl⟩) rfl (Nat.le_of_ble_eq_true rfl) ⟨Nat.zero_le _, Nat.zero_le _⟩ rfl dC_inSequence_1 ?_
  show aW _ _ _ _ _ _ _ _ _ _ _ _ _ _ _ _ _ _ _ _ _ [.int (fc_haveZero x)]
  refine aw_if_eq (pc := 4) F 16 dC_inSequence_4 (by decide) (fun c_4 => ?_) (fun c_4 => ?_)
  · skip
    refine aw_iload_n (pc := 16) (i := 0) (x := x) F dC_inSequence_16 rfl rfl ?_
    exact aw_iret (pc := 17) F hr hlk dC_inSequence_17 (by rw [fc_inSequence, if_pos c_4]) rfl
  · skip
    refine aw_iload_n (pc := 7) (i := 0) (x := x) F dC_inSequence_7 rfl rfl ?_
    refine aw_goS (pc := 8) (As := [.int x]) (rest := []) F zC_ok Zs (tC_withoutZero  S P X x) (va_cwS 1 F.1.2.2.2.2 (gi_S wd_415 wd_407 wd_73 wd_408) rfl rfl rfl (by decide +kernel) ⟨Nat.le_of_ble_eq_true rfl, Nat.le_of_ble_eq_true rfl⟩) rfl (Nat.le_of_ble_eq_true rfl) ⟨Nat.zero_le _, Nat.zero_le _⟩ rfl dC_inSequence_8 ?_
    show aW _ _ _ _ _ _ _ _ _ _ _ _ _ _ _ _ _ _ _ _ _ [.int (fc_withoutZero x)]
    refine aw_iload_n (pc := 11) (i := 1) (x := y) F dC_inSequence_11 rfl rfl ?_
    refine aw_ior (pc := 12) F dC_inSequence_12 ?_
    refine aw_goto (pc := 13) F 17 dC_inSequence_13 (by decide) ?_
    exact aw_iret (pc := 17) F hr hlk dC_inSequence_17 (by rw [fc_inSequence, if_neg c_4]) rfl
def fc_greaterOfPairs   (x : Int32) (y : Int32) : Int32 :=
  if x = 0 then
    (0 : Int32)
  else
    if y = 0 then
      (0 : Int32)
    else
      ((x ||| y) &&& (-(if (x &&& (-x)) < (y &&& (-y)) then (y &&& (-y)) else (x &&& (-x)))))
set_option maxRecDepth 100000 in
set_option maxHeartbeats 4000000 in
theorem tC_greaterOfPairs {l : Launch} {D : va_G} {A : Nat → Prop} {ad : Nat → Nat} {tP : Nat} {cI : ClassId} {tl : List va_E} {tyr : List (ClassId × FieldType)} (S : kT) (P : pT) (X : xT) (x : Int32) (y : Int32)  : aw_M l yC_greaterOfPairs (Cond.code yC_greaterOfPairs cC_greaterOfPairs 3 (some .int) :: aw_big) 1 D vwCl ((cI, .int) :: tyr) A ad (zC A tP) [.int x, .int y] (hC ad cI S P X ++ tl) (some (.int (fc_greaterOfPairs x y))) (hC ad cI S P X ++ tl) := by
  refine aw_met cC_greaterOfPairs 3 (some .int) [some (.int x), some (.int y), none] (by decide) rfl (Nat.le_of_ble_eq_true rfl) rfl ?_
  intro p e s m args below meth c F Zs hr hlk
  refine aw_iload_n (pc := 0) (i := 0) (x := x) F dC_greaterOfPairs_0 rfl rfl ?_
  refine aw_if_eq (pc := 1) F 8 dC_greaterOfPairs_1 (by decide) (fun c_1 => ?_) (fun c_1 => ?_)
  · skip
    refine aw_iconst (pc := 8) (v := 0) F dC_greaterOfPairs_8 (by decide) ?_
    exact aw_iret (pc := 9) F hr hlk dC_greaterOfPairs_9 (by rw [fc_greaterOfPairs, if_pos c_1]) rfl
  · skip
    refine aw_iload_n (pc := 4) (i := 1) (x := y) F dC_greaterOfPairs_4 rfl rfl ?_
    refine aw_if_ne (pc := 5) F 10 dC_greaterOfPairs_5 (by decide) (fun c_5 => ?_) (fun c_5 => ?_)
    · skip
      refine aw_iload_n (pc := 10) (i := 0) (x := x) F dC_greaterOfPairs_10 rfl rfl ?_
      refine aw_iload_n (pc := 11) (i := 0) (x := x) F dC_greaterOfPairs_11 rfl rfl ?_
      refine aw_ineg (pc := 12) F dC_greaterOfPairs_12 ?_
      refine aw_iand (pc := 13) F dC_greaterOfPairs_13 ?_
      refine aw_iload_n (pc := 14) (i := 1) (x := y) F dC_greaterOfPairs_14 rfl rfl ?_
      refine aw_iload_n (pc := 15) (i := 1) (x := y) F dC_greaterOfPairs_15 rfl rfl ?_
      refine aw_ineg (pc := 16) F dC_greaterOfPairs_16 ?_
      refine aw_iand (pc := 17) F dC_greaterOfPairs_17 ?_
      refine aw_mmax (pc := 18) F (mw wd_419) (mw wd_420) (mw wd_74) (mw wd_mmax) (by decide) (by decide) ⟨Nat.zero_le _, Nat.zero_le _⟩ dC_greaterOfPairs_18 ?_
      refine aw_istore_n (pc := 21) (i := 2) (L' := [some (.int x), some (.int y), some (.int (if (x &&& (-x)) < (y &&& (-y)) then (y &&& (-y)) else (x &&& (-x))))]) F dC_greaterOfPairs_21 rfl (by decide) rfl ?_
      refine aw_iload_n (pc := 22) (i := 0) (x := x) F dC_greaterOfPairs_22 rfl rfl ?_
      refine aw_iload_n (pc := 23) (i := 1) (x := y) F dC_greaterOfPairs_23 rfl rfl ?_
      refine aw_ior (pc := 24) F dC_greaterOfPairs_24 ?_
      refine aw_iload_n (pc := 25) (i := 2) (x := if (x &&& (-x)) < (y &&& (-y)) then (y &&& (-y)) else (x &&& (-x))) F dC_greaterOfPairs_25 rfl rfl ?_
      refine aw_ineg (pc := 26) F dC_greaterOfPairs_26 ?_
      refine aw_iand (pc := 27) F dC_greaterOfPairs_27 ?_
      exact aw_iret (pc := 28) F hr hlk dC_greaterOfPairs_28 (by rw [fc_greaterOfPairs, if_neg c_1, if_neg c_5]) rfl
    · skip
      refine aw_iconst (pc := 8) (v := 0) F dC_greaterOfPairs_8 (by decide) ?_
      exact aw_iret (pc := 9) F hr hlk dC_greaterOfPairs_9 (by rw [fc_greaterOfPairs, if_neg c_1, if_pos c_5]) rfl
def fc_outsideTrap   (x : Int32) : Int32 :=
  if (x &&& (4 : Int32)) = 0 then
    (((x &&& (3 : Int32)) ||| (0 : Int32)) ||| ((x >>> ((3 : Int32) &&& 31)) <<< ((2 : Int32) &&& 31)))
  else
    (((x &&& (3 : Int32)) ||| (1 : Int32)) ||| ((x >>> ((3 : Int32) &&& 31)) <<< ((2 : Int32) &&& 31)))
set_option maxRecDepth 100000 in
set_option maxHeartbeats 4000000 in
theorem tC_outsideTrap {l : Launch} {D : va_G} {A : Nat → Prop} {ad : Nat → Nat} {tP : Nat} {cI : ClassId} {tl : List va_E} {tyr : List (ClassId × FieldType)} (S : kT) (P : pT) (X : xT) (x : Int32)  : aw_M l yC_outsideTrap (Cond.code yC_outsideTrap cC_outsideTrap 3 (some .int) :: aw_big) 0 D vwCl ((cI, .int) :: tyr) A ad (zC A tP) [.int x] (hC ad cI S P X ++ tl) (some (.int (fc_outsideTrap x))) (hC ad cI S P X ++ tl) := by
  refine aw_met cC_outsideTrap 3 (some .int) [some (.int x), none, none] (by decide) rfl (Nat.le_of_ble_eq_true rfl) rfl ?_
  intro p e s m args below meth c F Zs hr hlk
  refine aw_iload_n (pc := 0) (i := 0) (x := x) F dC_outsideTrap_0 rfl rfl ?_
  refine aw_iconst (pc := 1) (v := 4) F dC_outsideTrap_1 (by decide) ?_
  refine aw_iand (pc := 2) F dC_outsideTrap_2 ?_
  refine aw_if_eq (pc := 3) F 10 dC_outsideTrap_3 (by decide) (fun c_3 => ?_) (fun c_3 => ?_)
  · skip
    refine aw_iconst (pc := 10) (v := 0) F dC_outsideTrap_10 (by decide) ?_
    refine aw_istore_n (pc := 11) (i := 1) (L' := [some (.int x), some (.int (0 : Int32)), none]) F dC_outsideTrap_11 rfl (by decide) rfl ?_
    refine aw_iload_n (pc := 12) (i := 0) (x := x) F dC_outsideTrap_12 rfl rfl ?_
    refine aw_iconst (pc := 13) (v := 3) F dC_outsideTrap_13 (by decide) ?_
    refine aw_ishr (pc := 14) F dC_outsideTrap_14 ?_
    refine aw_iconst (pc := 15) (v := 2) F dC_outsideTrap_15 (by decide) ?_
    refine aw_ishl (pc := 16) F dC_outsideTrap_16 ?_
    refine aw_istore_n (pc := 17) (i := 2) (L' := [some (.int x), some (.int (0 : Int32)), some (.int ((x >>> ((3 : Int32) &&& 31)) <<< ((2 : Int32) &&& 31)))]) F dC_outsideTrap_17 rfl (by decide) rfl ?_
    refine aw_iload_n (pc := 18) (i := 0) (x := x) F dC_outsideTrap_18 rfl rfl ?_
    refine aw_iconst (pc := 19) (v := 3) F dC_outsideTrap_19 (by decide) ?_
    refine aw_iand (pc := 20) F dC_outsideTrap_20 ?_
    refine aw_iload_n (pc := 21) (i := 1) (x := (0 : Int32)) F dC_outsideTrap_21 rfl rfl ?_
    refine aw_ior (pc := 22) F dC_outsideTrap_22 ?_
    refine aw_iload_n (pc := 23) (i := 2) (x := (x >>> ((3 : Int32) &&& 31)) <<< ((2 : Int32) &&& 31)) F dC_outsideTrap_23 rfl rfl ?_
    refine aw_ior (pc := 24) F dC_outsideTrap_24 ?_
    exact aw_iret (pc := 25) F hr hlk dC_outsideTrap_25 (by rw [fc_outsideTrap, if_pos c_3]) rfl
  · skip
    refine aw_iconst (pc := 6) (v := 1) F dC_outsideTrap_6 (by decide) ?_
    refine aw_goto (pc := 7) F 11 dC_outsideTrap_7 (by decide) ?_
    refine aw_istore_n (pc := 11) (i := 1) (L' := [some (.int x), some (.int (1 : Int32)), none]) F dC_outsideTrap_11 rfl (by decide) rfl ?_
    refine aw_iload_n (pc := 12) (i := 0) (x := x) F dC_outsideTrap_12 rfl rfl ?_
    refine aw_iconst (pc := 13) (v := 3) F dC_outsideTrap_13 (by decide) ?_
    refine aw_ishr (pc := 14) F dC_outsideTrap_14 ?_
    refine aw_iconst (pc := 15) (v := 2) F dC_outsideTrap_15 (by decide) ?_
    refine aw_ishl (pc := 16) F dC_outsideTrap_16 ?_
    refine aw_istore_n (pc := 17) (i := 2) (L' := [some (.int x), some (.int (1 : Int32)), some (.int ((x >>> ((3 : Int32) &&& 31)) <<< ((2 : Int32) &&& 31)))]) F dC_outsideTrap_17 rfl (by decide) rfl ?_
    refine aw_iload_n (pc := 18) (i := 0) (x := x) F dC_outsideTrap_18 rfl rfl ?_
    refine aw_iconst (pc := 19) (v := 3) F dC_outsideTrap_19 (by decide) ?_
    refine aw_iand (pc := 20) F dC_outsideTrap_20 ?_
    refine aw_iload_n (pc := 21) (i := 1) (x := (1 : Int32)) F dC_outsideTrap_21 rfl rfl ?_
    refine aw_ior (pc := 22) F dC_outsideTrap_22 ?_
    refine aw_iload_n (pc := 23) (i := 2) (x := (x >>> ((3 : Int32) &&& 31)) <<< ((2 : Int32) &&& 31)) F dC_outsideTrap_23 rfl rfl ?_
    refine aw_ior (pc := 24) F dC_outsideTrap_24 ?_
    exact aw_iret (pc := 25) F hr hlk dC_outsideTrap_25 (by rw [fc_outsideTrap, if_neg c_3]) rfl
def fo_half   (x : Int32) (y : Int32) : Int32 :=
  (x ||| (y <<< ((16 : Int32) &&& 31)))
set_option maxRecDepth 100000 in
set_option maxHeartbeats 4000000 in
theorem tO_half {l : Launch} {D : va_G} {A : Nat → Prop} {ad : Nat → Nat} {tP : Nat} {cI : ClassId} {tl : List va_E} {tyr : List (ClassId × FieldType)} (S : kT) (P : pT) (X : xT) (x : Int32) (y : Int32)  : aw_M l yO_half (Cond.code yO_half cO_half 2 (some .int) :: aw_big) 0 D vwCl ((cI, .int) :: tyr) A ad (zC A tP) [.int x, .int y] (hC ad cI S P X ++ tl) (some (.int (fo_half x y))) (hC ad cI S P X ++ tl) := by
  refine aw_met cO_half 2 (some .int) [some (.int x), some (.int y)] (by decide) rfl (Nat.le_of_ble_eq_true rfl) rfl ?_
  intro p e s m args below meth c F Zs hr hlk
  refine aw_iload_n (pc := 0) (i := 0) (x := x) F dO_half_0 rfl rfl ?_
  refine aw_iload_n (pc := 1) (i := 1) (x := y) F dO_half_1 rfl rfl ?_
  refine aw_bipush (pc := 2) (v := 16) F dO_half_2 (by decide) ?_
  refine aw_ishl (pc := 4) F dO_half_4 ?_
  refine aw_ior (pc := 5) F dO_half_5 ?_
  exact aw_iret (pc := 6) F hr hlk dO_half_6 (by first | rfl | (unfold fo_half; rfl)) rfl
def fo_whole   (x : Int32) (y : Int32) : Int64 :=
  ((x.toInt64 <<< ((32 : Int32).toInt64 &&& 63)) ||| y.toInt64)
set_option maxRecDepth 100000 in
set_option maxHeartbeats 4000000 in
theorem tO_whole {l : Launch} {D : va_G} {A : Nat → Prop} {ad : Nat → Nat} {tP : Nat} {cI : ClassId} {tl : List va_E} {tyr : List (ClassId × FieldType)} (S : kT) (P : pT) (X : xT) (x : Int32) (y : Int32)  : aw_M l yO_whole (Cond.code yO_whole cO_whole 2 (some .long) :: aw_big) 0 D vwCl ((cI, .int) :: tyr) A ad (zC A tP) [.int x, .int y] (hC ad cI S P X ++ tl) (some (.long (fo_whole x y))) (hC ad cI S P X ++ tl) := by
  refine aw_met cO_whole 2 (some .long) [some (.int x), some (.int y)] (by decide) rfl (Nat.le_of_ble_eq_true rfl) rfl ?_
  intro p e s m args below meth c F Zs hr hlk
  refine aw_iload_n (pc := 0) (i := 0) (x := x) F dO_whole_0 rfl rfl ?_
  refine aw_i2l (pc := 1) (v := x.toInt64) F dO_whole_1 rfl ?_
  refine aw_bipush (pc := 2) (v := 32) F dO_whole_2 (by decide) ?_
  refine aw_lshl (pc := 4) (v := x.toInt64 <<< ((32 : Int32).toInt64 &&& 63)) F dO_whole_4 rfl ?_
  refine aw_iload_n (pc := 5) (i := 1) (x := y) F dO_whole_5 rfl rfl ?_
  refine aw_i2l (pc := 6) (v := y.toInt64) F dO_whole_6 rfl ?_
  refine aw_lor (pc := 7) F dO_whole_7 ?_
  exact aw_lret (pc := 8) F hr hlk dO_whole_8 (by first | rfl | (unfold fo_whole; rfl)) rfl
def fo_can   (w : Int64) : Int32 :=
  w.toInt32
set_option maxRecDepth 100000 in
set_option maxHeartbeats 4000000 in
theorem tO_can {l : Launch} {D : va_G} {A : Nat → Prop} {ad : Nat → Nat} {tP : Nat} {cI : ClassId} {tl : List va_E} {tyr : List (ClassId × FieldType)} (S : kT) (P : pT) (X : xT) (w : Int64)  : aw_M l yO_can (Cond.code yO_can cO_can 2 (some .int) :: aw_big) 0 D vwCl ((cI, .int) :: tyr) A ad (zC A tP) [.long w] (hC ad cI S P X ++ tl) (some (.int (fo_can w))) (hC ad cI S P X ++ tl) := by
  refine aw_met cO_can 2 (some .int) [some (.long w), none] (by decide) rfl (Nat.le_of_ble_eq_true rfl) rfl ?_
  intro p e s m args below meth c F Zs hr hlk
  refine aw_lload_n (pc := 0) (i := 0) (x := w) F dO_can_0 rfl rfl ?_
  refine aw_l2i (pc := 1) (v := w.toInt32) F dO_can_1 rfl ?_
  exact aw_iret (pc := 2) F hr hlk dO_can_2 (by first | rfl | (unfold fo_can; rfl)) rfl
def fo_must   (w : Int64) : Int32 :=
  (((w.toUInt64 >>> ((32 : Int32).toInt64.toUInt64 &&& Int64.toUInt64 63)).toInt64).toInt32)
set_option maxRecDepth 100000 in
set_option maxHeartbeats 4000000 in
theorem tO_must {l : Launch} {D : va_G} {A : Nat → Prop} {ad : Nat → Nat} {tP : Nat} {cI : ClassId} {tl : List va_E} {tyr : List (ClassId × FieldType)} (S : kT) (P : pT) (X : xT) (w : Int64)  : aw_M l yO_must (Cond.code yO_must cO_must 2 (some .int) :: aw_big) 0 D vwCl ((cI, .int) :: tyr) A ad (zC A tP) [.long w] (hC ad cI S P X ++ tl) (some (.int (fo_must w))) (hC ad cI S P X ++ tl) := by
  refine aw_met cO_must 2 (some .int) [some (.long w), none] (by decide) rfl (Nat.le_of_ble_eq_true rfl) rfl ?_
  intro p e s m args below meth c F Zs hr hlk
  refine aw_lload_n (pc := 0) (i := 0) (x := w) F dO_must_0 rfl rfl ?_
  refine aw_bipush (pc := 1) (v := 32) F dO_must_1 (by decide) ?_
  refine aw_lushr (pc := 3) (v := (w.toUInt64 >>> ((32 : Int32).toInt64.toUInt64 &&& Int64.toUInt64 63)).toInt64) F dO_must_3 rfl ?_
  refine aw_l2i (pc := 4) (v := ((w.toUInt64 >>> ((32 : Int32).toInt64.toUInt64 &&& Int64.toUInt64 63)).toInt64).toInt32) F dO_must_4 rfl ?_
  exact aw_iret (pc := 5) F hr hlk dO_must_5 (by first | rfl | (unfold fo_must; rfl)) rfl
def fo_emittedIn   (x : Int32) : Int32 :=
  (x &&& (65535 : Int32))
set_option maxRecDepth 100000 in
set_option maxHeartbeats 4000000 in
theorem tO_emittedIn {l : Launch} {D : va_G} {A : Nat → Prop} {ad : Nat → Nat} {tP : Nat} {cI : ClassId} {tl : List va_E} {tyr : List (ClassId × FieldType)} (S : kT) (P : pT) (X : xT) (x : Int32)  : aw_M l yO_emittedIn (Cond.code yO_emittedIn cO_emittedIn 1 (some .int) :: aw_big) 0 D vwCl ((cI, .int) :: tyr) A ad (zC A tP) [.int x] (hC ad cI S P X ++ tl) (some (.int (fo_emittedIn x))) (hC ad cI S P X ++ tl) := by
  refine aw_met cO_emittedIn 1 (some .int) [some (.int x)] (by decide) rfl (Nat.le_of_ble_eq_true rfl) rfl ?_
  intro p e s m args below meth c F Zs hr hlk
  refine aw_iload_n (pc := 0) (i := 0) (x := x) F dO_emittedIn_0 rfl rfl ?_
  refine aw_ldc (pc := 1) (v := 65535) F dO_emittedIn_1 (mw wd_472) ?_
  refine aw_iand (pc := 3) F dO_emittedIn_3 ?_
  exact aw_iret (pc := 4) F hr hlk dO_emittedIn_4 (by first | rfl | (unfold fo_emittedIn; rfl)) rfl
def fo_codesIn   (x : Int32) : Int32 :=
  (x >>> ((16 : Int32) &&& 31))
set_option maxRecDepth 100000 in
set_option maxHeartbeats 4000000 in
theorem tO_codesIn {l : Launch} {D : va_G} {A : Nat → Prop} {ad : Nat → Nat} {tP : Nat} {cI : ClassId} {tl : List va_E} {tyr : List (ClassId × FieldType)} (S : kT) (P : pT) (X : xT) (x : Int32)  : aw_M l yO_codesIn (Cond.code yO_codesIn cO_codesIn 1 (some .int) :: aw_big) 0 D vwCl ((cI, .int) :: tyr) A ad (zC A tP) [.int x] (hC ad cI S P X ++ tl) (some (.int (fo_codesIn x))) (hC ad cI S P X ++ tl) := by
  refine aw_met cO_codesIn 1 (some .int) [some (.int x)] (by decide) rfl (Nat.le_of_ble_eq_true rfl) rfl ?_
  intro p e s m args below meth c F Zs hr hlk
  refine aw_iload_n (pc := 0) (i := 0) (x := x) F dO_codesIn_0 rfl rfl ?_
  refine aw_bipush (pc := 1) (v := 16) F dO_codesIn_1 (by decide) ?_
  refine aw_ishr (pc := 3) F dO_codesIn_3 ?_
  exact aw_iret (pc := 4) F hr hlk dO_codesIn_4 (by first | rfl | (unfold fo_codesIn; rfl)) rfl
def fo_canEndWithZero   (w : Int64) : Int32 :=
  if (lg_cmp (w &&& (65536 : Int64)) (0 : Int64)) = 0 then (0 : Int32) else (1 : Int32)
set_option maxRecDepth 100000 in
set_option maxHeartbeats 4000000 in
theorem tO_canEndWithZero {l : Launch} {D : va_G} {A : Nat → Prop} {ad : Nat → Nat} {tP : Nat} {cI : ClassId} {tl : List va_E} {tyr : List (ClassId × FieldType)} (S : kT) (P : pT) (X : xT) (w : Int64)  : aw_M l yO_canEndWithZero (Cond.code yO_canEndWithZero cO_canEndWithZero 2 (some .boolean) :: aw_big) 0 D vwCl ((cI, .int) :: tyr) A ad (zC A tP) [.long w] (hC ad cI S P X ++ tl) (some (.int (fo_canEndWithZero w))) (hC ad cI S P X ++ tl) := by
  refine aw_met cO_canEndWithZero 2 (some .boolean) [some (.long w), none] (by decide) rfl (Nat.le_of_ble_eq_true rfl) rfl ?_
  intro p e s m args below meth c F Zs hr hlk
  refine aw_lload_n (pc := 0) (i := 0) (x := w) F dO_canEndWithZero_0 rfl rfl ?_
  refine aw_ldc2 (pc := 1) (v := 65536) F dO_canEndWithZero_1 (mw wd_549) ?_
  refine aw_land (pc := 4) F dO_canEndWithZero_4 ?_
  refine aw_lconst (pc := 5) (v := 0) F dO_canEndWithZero_5 (by decide) ?_
  refine aw_lcmp (pc := 6) F dO_canEndWithZero_6 ?_
  refine aw_if_eq (pc := 7) F 14 dO_canEndWithZero_7 (by decide) (fun c_7 => ?_) (fun c_7 => ?_)
  · skip
    refine aw_iconst (pc := 14) (v := 0) F dO_canEndWithZero_14 (by decide) ?_
    exact aw_zret (pc := 15) F hr hlk dO_canEndWithZero_15 rfl (by rw [fo_canEndWithZero, if_pos c_7]) rfl
  · skip
    refine aw_iconst (pc := 10) (v := 1) F dO_canEndWithZero_10 (by decide) ?_
    refine aw_goto (pc := 11) F 15 dO_canEndWithZero_11 (by decide) ?_
    exact aw_zret (pc := 15) F hr hlk dO_canEndWithZero_15 rfl (by rw [fo_canEndWithZero, if_neg c_7]) rfl
def fo_mustEndWithZero   (w : Int64) : Int32 :=
  if (lg_cmp (w &&& (281474976710656 : Int64)) (0 : Int64)) = 0 then (0 : Int32) else (1 : Int32)
set_option maxRecDepth 100000 in
set_option maxHeartbeats 4000000 in
theorem tO_mustEndWithZero {l : Launch} {D : va_G} {A : Nat → Prop} {ad : Nat → Nat} {tP : Nat} {cI : ClassId} {tl : List va_E} {tyr : List (ClassId × FieldType)} (S : kT) (P : pT) (X : xT) (w : Int64)  : aw_M l yO_mustEndWithZero (Cond.code yO_mustEndWithZero cO_mustEndWithZero 2 (some .boolean) :: aw_big) 0 D vwCl ((cI, .int) :: tyr) A ad (zC A tP) [.long w] (hC ad cI S P X ++ tl) (some (.int (fo_mustEndWithZero w))) (hC ad cI S P X ++ tl) := by
  refine aw_met cO_mustEndWithZero 2 (some .boolean) [some (.long w), none] (by decide) rfl (Nat.le_of_ble_eq_true rfl) rfl ?_
  intro p e s m args below meth c F Zs hr hlk
  refine aw_lload_n (pc := 0) (i := 0) (x := w) F dO_mustEndWithZero_0 rfl rfl ?_
  refine aw_ldc2 (pc := 1) (v := 281474976710656) F dO_mustEndWithZero_1 (mw wd_557) ?_
  refine aw_land (pc := 4) F dO_mustEndWithZero_4 ?_
  refine aw_lconst (pc := 5) (v := 0) F dO_mustEndWithZero_5 (by decide) ?_
  refine aw_lcmp (pc := 6) F dO_mustEndWithZero_6 ?_
  refine aw_if_eq (pc := 7) F 14 dO_mustEndWithZero_7 (by decide) (fun c_7 => ?_) (fun c_7 => ?_)
  · skip
    refine aw_iconst (pc := 14) (v := 0) F dO_mustEndWithZero_14 (by decide) ?_
    exact aw_zret (pc := 15) F hr hlk dO_mustEndWithZero_15 rfl (by rw [fo_mustEndWithZero, if_pos c_7]) rfl
  · skip
    refine aw_iconst (pc := 10) (v := 1) F dO_mustEndWithZero_10 (by decide) ?_
    refine aw_goto (pc := 11) F 15 dO_mustEndWithZero_11 (by decide) ?_
    exact aw_zret (pc := 15) F hr hlk dO_mustEndWithZero_15 rfl (by rw [fo_mustEndWithZero, if_neg c_7]) rfl
def fo_withoutZero   (w : Int64) : Int64 :=
  (w &&& (-281474976776193 : Int64))
set_option maxRecDepth 100000 in
set_option maxHeartbeats 4000000 in
theorem tO_withoutZero {l : Launch} {D : va_G} {A : Nat → Prop} {ad : Nat → Nat} {tP : Nat} {cI : ClassId} {tl : List va_E} {tyr : List (ClassId × FieldType)} (S : kT) (P : pT) (X : xT) (w : Int64)  : aw_M l yO_withoutZero (Cond.code yO_withoutZero cO_withoutZero 2 (some .long) :: aw_big) 0 D vwCl ((cI, .int) :: tyr) A ad (zC A tP) [.long w] (hC ad cI S P X ++ tl) (some (.long (fo_withoutZero w))) (hC ad cI S P X ++ tl) := by
  refine aw_met cO_withoutZero 2 (some .long) [some (.long w), none] (by decide) rfl (Nat.le_of_ble_eq_true rfl) rfl ?_
  intro p e s m args below meth c F Zs hr hlk
  refine aw_lload_n (pc := 0) (i := 0) (x := w) F dO_withoutZero_0 rfl rfl ?_
  refine aw_ldc2 (pc := 1) (v := -281474976776193) F dO_withoutZero_1 (mw wd_553) ?_
  refine aw_land (pc := 4) F dO_withoutZero_4 ?_
  exact aw_lret (pc := 5) F hr hlk dO_withoutZero_5 (by first | rfl | (unfold fo_withoutZero; rfl)) rfl
def fo_withoutSignal   (w : Int64) (x : Int32) : Int64 :=
  (w &&& ((((1 : Int64) <<< (x.toInt64 &&& 63)) ||| (((1 : Int64) <<< (x.toInt64 &&& 63)) <<< ((32 : Int32).toInt64 &&& 63))) ^^^ (-1 : Int64)))
set_option maxRecDepth 100000 in
set_option maxHeartbeats 4000000 in
theorem tO_withoutSignal {l : Launch} {D : va_G} {A : Nat → Prop} {ad : Nat → Nat} {tP : Nat} {cI : ClassId} {tl : List va_E} {tyr : List (ClassId × FieldType)} (S : kT) (P : pT) (X : xT) (w : Int64) (x : Int32)  : aw_M l yO_withoutSignal (Cond.code yO_withoutSignal cO_withoutSignal 5 (some .long) :: aw_big) 0 D vwCl ((cI, .int) :: tyr) A ad (zC A tP) [.long w, .int x] (hC ad cI S P X ++ tl) (some (.long (fo_withoutSignal w x))) (hC ad cI S P X ++ tl) := by
  refine aw_met cO_withoutSignal 5 (some .long) [some (.long w), none, some (.int x), none, none] (by decide) rfl (Nat.le_of_ble_eq_true rfl) rfl ?_
  intro p e s m args below meth c F Zs hr hlk
  refine aw_lconst (pc := 0) (v := 1) F dO_withoutSignal_0 (by decide) ?_
  refine aw_iload_n (pc := 1) (i := 2) (x := x) F dO_withoutSignal_1 rfl rfl ?_
  refine aw_lshl (pc := 2) (v := (1 : Int64) <<< (x.toInt64 &&& 63)) F dO_withoutSignal_2 rfl ?_
  refine aw_lstore_n (pc := 3) (i := 3) (L' := [some (.long w), none, some (.int x), some (.long ((1 : Int64) <<< (x.toInt64 &&& 63))), none]) F dO_withoutSignal_3 rfl (by decide) rfl ?_
  refine aw_lload_n (pc := 4) (i := 0) (x := w) F dO_withoutSignal_4 rfl rfl ?_
  refine aw_lload_n (pc := 5) (i := 3) (x := (1 : Int64) <<< (x.toInt64 &&& 63)) F dO_withoutSignal_5 rfl rfl ?_
  refine aw_lload_n (pc := 6) (i := 3) (x := (1 : Int64) <<< (x.toInt64 &&& 63)) F dO_withoutSignal_6 rfl rfl ?_
  refine aw_bipush (pc := 7) (v := 32) F dO_withoutSignal_7 (by decide) ?_
  refine aw_lshl (pc := 9) (v := ((1 : Int64) <<< (x.toInt64 &&& 63)) <<< ((32 : Int32).toInt64 &&& 63)) F dO_withoutSignal_9 rfl ?_
  refine aw_lor (pc := 10) F dO_withoutSignal_10 ?_
  refine aw_ldc2 (pc := 11) (v := -1) F dO_withoutSignal_11 (mw wd_516) ?_
  refine aw_lxor (pc := 14) F dO_withoutSignal_14 ?_
  refine aw_land (pc := 15) F dO_withoutSignal_15 ?_
  exact aw_lret (pc := 16) F hr hlk dO_withoutSignal_16 (by first | rfl | (unfold fo_withoutSignal; rfl)) rfl
def fo_joined   (x : Int32) (y : Int32) : Int32 :=
  (fo_half (fo_emittedIn (x ||| y)) (fc_greaterOfPairs (fo_codesIn x) (fo_codesIn y)))
set_option maxRecDepth 100000 in
set_option maxHeartbeats 4000000 in
theorem tO_joined {l : Launch} {D : va_G} {A : Nat → Prop} {ad : Nat → Nat} {tP : Nat} {cI : ClassId} {tl : List va_E} {tyr : List (ClassId × FieldType)} (S : kT) (P : pT) (X : xT) (x : Int32) (y : Int32)  : aw_M l yO_joined (Cond.code yO_joined cO_joined 2 (some .int) :: aw_big) 2 D vwCl ((cI, .int) :: tyr) A ad (zC A tP) [.int x, .int y] (hC ad cI S P X ++ tl) (some (.int (fo_joined x y))) (hC ad cI S P X ++ tl) := by
  refine aw_met cO_joined 2 (some .int) [some (.int x), some (.int y)] (by decide) rfl (Nat.le_of_ble_eq_true rfl) rfl ?_
  intro p e s m args below meth c F Zs hr hlk
  refine aw_iload_n (pc := 0) (i := 0) (x := x) F dO_joined_0 rfl rfl ?_
  refine aw_iload_n (pc := 1) (i := 1) (x := y) F dO_joined_1 rfl rfl ?_
  refine aw_ior (pc := 2) F dO_joined_2 ?_
  refine aw_goS (pc := 3) (As := [.int (x ||| y)]) (rest := []) F zC_ok Zs (tO_emittedIn  S P X (x ||| y)) (va_cwS 1 F.1.2.2.2.2 (gi_S wd_469 wd_470 wd_75 wd_471) rfl rfl rfl (by decide +kernel) ⟨Nat.le_of_ble_eq_true rfl, Nat.le_of_ble_eq_true rfl⟩) rfl (Nat.le_of_ble_eq_true rfl) ⟨Nat.zero_le _, Nat.zero_le _⟩ rfl dO_joined_3 ?_
  show aW _ _ _ _ _ _ _ _ _ _ _ _ _ _ _ _ _ _ _ _ _ [.int (fo_emittedIn (x ||| y))]
  refine aw_iload_n (pc := 6) (i := 0) (x := x) F dO_joined_6 rfl rfl ?_
  refine aw_goS (pc := 7) (As := [.int x]) (rest := [.int (fo_emittedIn (x ||| y))]) F zC_ok Zs (tO_codesIn  S P X x) (va_cwS 1 F.1.2.2.2.2 (gi_S wd_473 wd_456 wd_75 wd_457) rfl rfl rfl (by decide +kernel) ⟨Nat.le_of_ble_eq_true rfl, Nat.le_of_ble_eq_true rfl⟩) rfl (Nat.le_of_ble_eq_true rfl) ⟨Nat.zero_le _, Nat.zero_le _⟩ rfl dO_joined_7 ?_
  show aW _ _ _ _ _ _ _ _ _ _ _ _ _ _ _ _ _ _ _ _ _ [.int (fo_codesIn x), .int (fo_emittedIn (x ||| y))]
  refine aw_iload_n (pc := 10) (i := 1) (x := y) F dO_joined_10 rfl rfl ?_
  refine aw_goS (pc := 11) (As := [.int y]) (rest := [.int (fo_codesIn x), .int (fo_emittedIn (x ||| y))]) F zC_ok Zs (tO_codesIn  S P X y) (va_cwS 1 F.1.2.2.2.2 (gi_S wd_473 wd_456 wd_75 wd_457) rfl rfl rfl (by decide +kernel) ⟨Nat.le_of_ble_eq_true rfl, Nat.le_of_ble_eq_true rfl⟩) rfl (Nat.le_of_ble_eq_true rfl) ⟨Nat.zero_le _, Nat.zero_le _⟩ rfl dO_joined_11 ?_
  show aW _ _ _ _ _ _ _ _ _ _ _ _ _ _ _ _ _ _ _ _ _ [.int (fo_codesIn y), .int (fo_codesIn x), .int (fo_emittedIn (x ||| y))]
  refine aw_goSN (pc := 14) (As := [.int (fo_codesIn x), .int (fo_codesIn y)]) (rest := [.int (fo_emittedIn (x ||| y))]) F zC_ok Zs (tC_greaterOfPairs  S P X (fo_codesIn x) (fo_codesIn y)) ⟨va_cnB 2 F.1.2.2.2.2 (gi_0 wd_418) rfl rfl rfl (nw_m Zs nl_568) (F.1.2.2.2.2 _ (mw wd_73)) (by decide +kernel) ⟨Nat.le_of_ble_eq_true rfl, Nat.le_of_ble_eq_true rfl⟩, F.1.2.2.2.2 _ (mw wd_417), trivial⟩ rfl (Nat.le_of_ble_eq_true rfl) ⟨Nat.zero_le _, Nat.zero_le _⟩ rfl dO_joined_14 ?_
  show aW _ _ _ _ _ _ _ _ _ _ _ _ _ _ _ _ _ _ _ _ _ [.int (fc_greaterOfPairs (fo_codesIn x) (fo_codesIn y)), .int (fo_emittedIn (x ||| y))]
  refine aw_goS (pc := 17) (As := [.int (fo_emittedIn (x ||| y)), .int (fc_greaterOfPairs (fo_codesIn x) (fo_codesIn y))]) (rest := []) F zC_ok Zs (tO_half  S P X (fo_emittedIn (x ||| y)) (fc_greaterOfPairs (fo_codesIn x) (fo_codesIn y))) (va_cwS 2 F.1.2.2.2.2 (gi_S wd_475 wd_476 wd_75 wd_477) rfl rfl rfl (by decide +kernel) ⟨Nat.le_of_ble_eq_true rfl, Nat.le_of_ble_eq_true rfl⟩) rfl (Nat.le_of_ble_eq_true rfl) ⟨Nat.zero_le _, Nat.zero_le _⟩ rfl dO_joined_17 ?_
  show aW _ _ _ _ _ _ _ _ _ _ _ _ _ _ _ _ _ _ _ _ _ [.int (fo_half (fo_emittedIn (x ||| y)) (fc_greaterOfPairs (fo_codesIn x) (fo_codesIn y)))]
  exact aw_iret (pc := 20) F hr hlk dO_joined_20 (by first | rfl | (unfold fo_joined; rfl)) rfl
def fo_outsideTrapHalf   (x : Int32) : Int32 :=
  (fo_half (fo_emittedIn x) (fc_outsideTrap (fo_codesIn x)))
set_option maxRecDepth 100000 in
set_option maxHeartbeats 4000000 in
theorem tO_outsideTrapHalf {l : Launch} {D : va_G} {A : Nat → Prop} {ad : Nat → Nat} {tP : Nat} {cI : ClassId} {tl : List va_E} {tyr : List (ClassId × FieldType)} (S : kT) (P : pT) (X : xT) (x : Int32)  : aw_M l yO_outsideTrapHalf (Cond.code yO_outsideTrapHalf cO_outsideTrapHalf 1 (some .int) :: aw_big) 1 D vwCl ((cI, .int) :: tyr) A ad (zC A tP) [.int x] (hC ad cI S P X ++ tl) (some (.int (fo_outsideTrapHalf x))) (hC ad cI S P X ++ tl) := by
  refine aw_met cO_outsideTrapHalf 1 (some .int) [some (.int x)] (by decide) rfl (Nat.le_of_ble_eq_true rfl) rfl ?_
  intro p e s m args below meth c F Zs hr hlk
  refine aw_iload_n (pc := 0) (i := 0) (x := x) F dO_outsideTrapHalf_0 rfl rfl ?_
  refine aw_goS (pc := 1) (As := [.int x]) (rest := []) F zC_ok Zs (tO_emittedIn  S P X x) (va_cwS 1 F.1.2.2.2.2 (gi_S wd_469 wd_470 wd_75 wd_471) rfl rfl rfl (by decide +kernel) ⟨Nat.le_of_ble_eq_true rfl, Nat.le_of_ble_eq_true rfl⟩) rfl (Nat.le_of_ble_eq_true rfl) ⟨Nat.zero_le _, Nat.zero_le _⟩ rfl dO_outsideTrapHalf_1 ?_
  show aW _ _ _ _ _ _ _ _ _ _ _ _ _ _ _ _ _ _ _ _ _ [.int (fo_emittedIn x)]
  refine aw_iload_n (pc := 4) (i := 0) (x := x) F dO_outsideTrapHalf_4 rfl rfl ?_
  refine aw_goS (pc := 5) (As := [.int x]) (rest := [.int (fo_emittedIn x)]) F zC_ok Zs (tO_codesIn  S P X x) (va_cwS 1 F.1.2.2.2.2 (gi_S wd_473 wd_456 wd_75 wd_457) rfl rfl rfl (by decide +kernel) ⟨Nat.le_of_ble_eq_true rfl, Nat.le_of_ble_eq_true rfl⟩) rfl (Nat.le_of_ble_eq_true rfl) ⟨Nat.zero_le _, Nat.zero_le _⟩ rfl dO_outsideTrapHalf_5 ?_
  show aW _ _ _ _ _ _ _ _ _ _ _ _ _ _ _ _ _ _ _ _ _ [.int (fo_codesIn x), .int (fo_emittedIn x)]
  refine aw_goSN (pc := 8) (As := [.int (fo_codesIn x)]) (rest := [.int (fo_emittedIn x)]) F zC_ok Zs (tC_outsideTrap  S P X (fo_codesIn x)) ⟨va_cnB 1 F.1.2.2.2.2 (gi_0 wd_424) rfl rfl rfl (nw_m Zs nl_474) (F.1.2.2.2.2 _ (mw wd_73)) (by decide +kernel) ⟨Nat.le_of_ble_eq_true rfl, Nat.le_of_ble_eq_true rfl⟩, F.1.2.2.2.2 _ (mw wd_423), trivial⟩ rfl (Nat.le_of_ble_eq_true rfl) ⟨Nat.zero_le _, Nat.zero_le _⟩ rfl dO_outsideTrapHalf_8 ?_
  show aW _ _ _ _ _ _ _ _ _ _ _ _ _ _ _ _ _ _ _ _ _ [.int (fc_outsideTrap (fo_codesIn x)), .int (fo_emittedIn x)]
  refine aw_goS (pc := 11) (As := [.int (fo_emittedIn x), .int (fc_outsideTrap (fo_codesIn x))]) (rest := []) F zC_ok Zs (tO_half  S P X (fo_emittedIn x) (fc_outsideTrap (fo_codesIn x))) (va_cwS 2 F.1.2.2.2.2 (gi_S wd_475 wd_476 wd_75 wd_477) rfl rfl rfl (by decide +kernel) ⟨Nat.le_of_ble_eq_true rfl, Nat.le_of_ble_eq_true rfl⟩) rfl (Nat.le_of_ble_eq_true rfl) ⟨Nat.zero_le _, Nat.zero_le _⟩ rfl dO_outsideTrapHalf_11 ?_
  show aW _ _ _ _ _ _ _ _ _ _ _ _ _ _ _ _ _ _ _ _ _ [.int (fo_half (fo_emittedIn x) (fc_outsideTrap (fo_codesIn x)))]
  exact aw_iret (pc := 14) F hr hlk dO_outsideTrapHalf_14 (by first | rfl | (unfold fo_outsideTrapHalf; rfl)) rfl
def fo_inParallel   (w : Int64) (v : Int64) : Int64 :=
  (fo_whole (fo_joined (fo_must w) (fo_must v)) (fo_joined (fo_can w) (fo_can v)))
set_option maxRecDepth 100000 in
set_option maxHeartbeats 4000000 in
theorem tO_inParallel {l : Launch} {D : va_G} {A : Nat → Prop} {ad : Nat → Nat} {tP : Nat} {cI : ClassId} {tl : List va_E} {tyr : List (ClassId × FieldType)} (S : kT) (P : pT) (X : xT) (w : Int64) (v : Int64)  : aw_M l yO_inParallel (Cond.code yO_inParallel cO_inParallel 4 (some .long) :: aw_big) 3 D vwCl ((cI, .int) :: tyr) A ad (zC A tP) [.long w, .long v] (hC ad cI S P X ++ tl) (some (.long (fo_inParallel w v))) (hC ad cI S P X ++ tl) := by
  refine aw_met cO_inParallel 4 (some .long) [some (.long w), none, some (.long v), none] (by decide) rfl (Nat.le_of_ble_eq_true rfl) rfl ?_
  intro p e s m args below meth c F Zs hr hlk
  refine aw_lload_n (pc := 0) (i := 0) (x := w) F dO_inParallel_0 rfl rfl ?_
  refine aw_goS (pc := 1) (As := [.long w]) (rest := []) F zC_ok Zs (tO_must  S P X w) (va_cwS 1 F.1.2.2.2.2 (gi_S wd_465 wd_453 wd_75 wd_454) rfl rfl rfl (by decide +kernel) ⟨Nat.le_of_ble_eq_true rfl, Nat.le_of_ble_eq_true rfl⟩) rfl (Nat.le_of_ble_eq_true rfl) ⟨Nat.zero_le _, Nat.zero_le _⟩ rfl dO_inParallel_1 ?_
  show aW _ _ _ _ _ _ _ _ _ _ _ _ _ _ _ _ _ _ _ _ _ [.int (fo_must w)]
  refine aw_lload_n (pc := 4) (i := 2) (x := v) F dO_inParallel_4 rfl rfl ?_
  refine aw_goS (pc := 5) (As := [.long v]) (rest := [.int (fo_must w)]) F zC_ok Zs (tO_must  S P X v) (va_cwS 1 F.1.2.2.2.2 (gi_S wd_465 wd_453 wd_75 wd_454) rfl rfl rfl (by decide +kernel) ⟨Nat.le_of_ble_eq_true rfl, Nat.le_of_ble_eq_true rfl⟩) rfl (Nat.le_of_ble_eq_true rfl) ⟨Nat.zero_le _, Nat.zero_le _⟩ rfl dO_inParallel_5 ?_
  show aW _ _ _ _ _ _ _ _ _ _ _ _ _ _ _ _ _ _ _ _ _ [.int (fo_must v), .int (fo_must w)]
  refine aw_goS (pc := 8) (As := [.int (fo_must w), .int (fo_must v)]) (rest := []) F zC_ok Zs (tO_joined  S P X (fo_must w) (fo_must v)) (va_cwS 2 F.1.2.2.2.2 (gi_S wd_565 wd_566 wd_75 wd_567) rfl rfl rfl (by decide +kernel) ⟨Nat.le_of_ble_eq_true rfl, Nat.le_of_ble_eq_true rfl⟩) rfl (Nat.le_of_ble_eq_true rfl) ⟨Nat.zero_le _, Nat.zero_le _⟩ rfl dO_inParallel_8 ?_
  show aW _ _ _ _ _ _ _ _ _ _ _ _ _ _ _ _ _ _ _ _ _ [.int (fo_joined (fo_must w) (fo_must v))]
  refine aw_lload_n (pc := 11) (i := 0) (x := w) F dO_inParallel_11 rfl rfl ?_
  refine aw_goS (pc := 12) (As := [.long w]) (rest := [.int (fo_joined (fo_must w) (fo_must v))]) F zC_ok Zs (tO_can  S P X w) (va_cwS 1 F.1.2.2.2.2 (gi_S wd_478 wd_479 wd_75 wd_480) rfl rfl rfl (by decide +kernel) ⟨Nat.le_of_ble_eq_true rfl, Nat.le_of_ble_eq_true rfl⟩) rfl (Nat.le_of_ble_eq_true rfl) ⟨Nat.zero_le _, Nat.zero_le _⟩ rfl dO_inParallel_12 ?_
  show aW _ _ _ _ _ _ _ _ _ _ _ _ _ _ _ _ _ _ _ _ _ [.int (fo_can w), .int (fo_joined (fo_must w) (fo_must v))]
  refine aw_lload_n (pc := 15) (i := 2) (x := v) F dO_inParallel_15 rfl rfl ?_
  refine aw_goS (pc := 16) (As := [.long v]) (rest := [.int (fo_can w), .int (fo_joined (fo_must w) (fo_must v))]) F zC_ok Zs (tO_can  S P X v) (va_cwS 1 F.1.2.2.2.2 (gi_S wd_478 wd_479 wd_75 wd_480) rfl rfl rfl (by decide +kernel) ⟨Nat.le_of_ble_eq_true rfl, Nat.le_of_ble_eq_true rfl⟩) rfl (Nat.le_of_ble_eq_true rfl) ⟨Nat.zero_le _, Nat.zero_le _⟩ rfl dO_inParallel_16 ?_
  show aW _ _ _ _ _ _ _ _ _ _ _ _ _ _ _ _ _ _ _ _ _ [.int (fo_can v), .int (fo_can w), .int (fo_joined (fo_must w) (fo_must v))]
  refine aw_goS (pc := 19) (As := [.int (fo_can w), .int (fo_can v)]) (rest := [.int (fo_joined (fo_must w) (fo_must v))]) F zC_ok Zs (tO_joined  S P X (fo_can w) (fo_can v)) (va_cwS 2 F.1.2.2.2.2 (gi_S wd_565 wd_566 wd_75 wd_567) rfl rfl rfl (by decide +kernel) ⟨Nat.le_of_ble_eq_true rfl, Nat.le_of_ble_eq_true rfl⟩) rfl (Nat.le_of_ble_eq_true rfl) ⟨Nat.zero_le _, Nat.zero_le _⟩ rfl dO_inParallel_19 ?_
  show aW _ _ _ _ _ _ _ _ _ _ _ _ _ _ _ _ _ _ _ _ _ [.int (fo_joined (fo_can w) (fo_can v)), .int (fo_joined (fo_must w) (fo_must v))]
  refine aw_goS (pc := 22) (As := [.int (fo_joined (fo_must w) (fo_must v)), .int (fo_joined (fo_can w) (fo_can v))]) (rest := []) F zC_ok Zs (tO_whole  S P X (fo_joined (fo_must w) (fo_must v)) (fo_joined (fo_can w) (fo_can v))) (va_cwS 2 F.1.2.2.2.2 (gi_S wd_481 wd_482 wd_75 wd_483) rfl rfl rfl (by decide +kernel) ⟨Nat.le_of_ble_eq_true rfl, Nat.le_of_ble_eq_true rfl⟩) rfl (Nat.le_of_ble_eq_true rfl) ⟨Nat.zero_le _, Nat.zero_le _⟩ rfl dO_inParallel_22 ?_
  show aW _ _ _ _ _ _ _ _ _ _ _ _ _ _ _ _ _ _ _ _ _ [.long (fo_whole (fo_joined (fo_must w) (fo_must v)) (fo_joined (fo_can w) (fo_can v)))]
  exact aw_lret (pc := 25) F hr hlk dO_inParallel_25 (by first | rfl | (unfold fo_inParallel; rfl)) rfl
def fo_outsideTrap   (w : Int64) : Int64 :=
  (fo_whole (fo_outsideTrapHalf (fo_must w)) (fo_outsideTrapHalf (fo_can w)))
set_option maxRecDepth 100000 in
set_option maxHeartbeats 4000000 in
theorem tO_outsideTrap {l : Launch} {D : va_G} {A : Nat → Prop} {ad : Nat → Nat} {tP : Nat} {cI : ClassId} {tl : List va_E} {tyr : List (ClassId × FieldType)} (S : kT) (P : pT) (X : xT) (w : Int64)  : aw_M l yO_outsideTrap (Cond.code yO_outsideTrap cO_outsideTrap 2 (some .long) :: aw_big) 2 D vwCl ((cI, .int) :: tyr) A ad (zC A tP) [.long w] (hC ad cI S P X ++ tl) (some (.long (fo_outsideTrap w))) (hC ad cI S P X ++ tl) := by
  refine aw_met cO_outsideTrap 2 (some .long) [some (.long w), none] (by decide) rfl (Nat.le_of_ble_eq_true rfl) rfl ?_
  intro p e s m args below meth c F Zs hr hlk
  refine aw_lload_n (pc := 0) (i := 0) (x := w) F dO_outsideTrap_0 rfl rfl ?_
  refine aw_goS (pc := 1) (As := [.long w]) (rest := []) F zC_ok Zs (tO_must  S P X w) (va_cwS 1 F.1.2.2.2.2 (gi_S wd_465 wd_453 wd_75 wd_454) rfl rfl rfl (by decide +kernel) ⟨Nat.le_of_ble_eq_true rfl, Nat.le_of_ble_eq_true rfl⟩) rfl (Nat.le_of_ble_eq_true rfl) ⟨Nat.zero_le _, Nat.zero_le _⟩ rfl dO_outsideTrap_1 ?_
  show aW _ _ _ _ _ _ _ _ _ _ _ _ _ _ _ _ _ _ _ _ _ [.int (fo_must w)]
  refine aw_goS (pc := 4) (As := [.int (fo_must w)]) (rest := []) F zC_ok Zs (tO_outsideTrapHalf  S P X (fo_must w)) (va_cwS 1 F.1.2.2.2.2 (gi_S wd_466 wd_467 wd_75 wd_468) rfl rfl rfl (by decide +kernel) ⟨Nat.le_of_ble_eq_true rfl, Nat.le_of_ble_eq_true rfl⟩) rfl (Nat.le_of_ble_eq_true rfl) ⟨Nat.zero_le _, Nat.zero_le _⟩ rfl dO_outsideTrap_4 ?_
  show aW _ _ _ _ _ _ _ _ _ _ _ _ _ _ _ _ _ _ _ _ _ [.int (fo_outsideTrapHalf (fo_must w))]
  refine aw_lload_n (pc := 7) (i := 0) (x := w) F dO_outsideTrap_7 rfl rfl ?_
  refine aw_goS (pc := 8) (As := [.long w]) (rest := [.int (fo_outsideTrapHalf (fo_must w))]) F zC_ok Zs (tO_can  S P X w) (va_cwS 1 F.1.2.2.2.2 (gi_S wd_478 wd_479 wd_75 wd_480) rfl rfl rfl (by decide +kernel) ⟨Nat.le_of_ble_eq_true rfl, Nat.le_of_ble_eq_true rfl⟩) rfl (Nat.le_of_ble_eq_true rfl) ⟨Nat.zero_le _, Nat.zero_le _⟩ rfl dO_outsideTrap_8 ?_
  show aW _ _ _ _ _ _ _ _ _ _ _ _ _ _ _ _ _ _ _ _ _ [.int (fo_can w), .int (fo_outsideTrapHalf (fo_must w))]
  refine aw_goS (pc := 11) (As := [.int (fo_can w)]) (rest := [.int (fo_outsideTrapHalf (fo_must w))]) F zC_ok Zs (tO_outsideTrapHalf  S P X (fo_can w)) (va_cwS 1 F.1.2.2.2.2 (gi_S wd_466 wd_467 wd_75 wd_468) rfl rfl rfl (by decide +kernel) ⟨Nat.le_of_ble_eq_true rfl, Nat.le_of_ble_eq_true rfl⟩) rfl (Nat.le_of_ble_eq_true rfl) ⟨Nat.zero_le _, Nat.zero_le _⟩ rfl dO_outsideTrap_11 ?_
  show aW _ _ _ _ _ _ _ _ _ _ _ _ _ _ _ _ _ _ _ _ _ [.int (fo_outsideTrapHalf (fo_can w)), .int (fo_outsideTrapHalf (fo_must w))]
  refine aw_goS (pc := 14) (As := [.int (fo_outsideTrapHalf (fo_must w)), .int (fo_outsideTrapHalf (fo_can w))]) (rest := []) F zC_ok Zs (tO_whole  S P X (fo_outsideTrapHalf (fo_must w)) (fo_outsideTrapHalf (fo_can w))) (va_cwS 2 F.1.2.2.2.2 (gi_S wd_481 wd_482 wd_75 wd_483) rfl rfl rfl (by decide +kernel) ⟨Nat.le_of_ble_eq_true rfl, Nat.le_of_ble_eq_true rfl⟩) rfl (Nat.le_of_ble_eq_true rfl) ⟨Nat.zero_le _, Nat.zero_le _⟩ rfl dO_outsideTrap_14 ?_
  show aW _ _ _ _ _ _ _ _ _ _ _ _ _ _ _ _ _ _ _ _ _ [.long (fo_whole (fo_outsideTrapHalf (fo_must w)) (fo_outsideTrapHalf (fo_can w)))]
  exact aw_lret (pc := 17) F hr hlk dO_outsideTrap_17 (by first | rfl | (unfold fo_outsideTrap; rfl)) rfl
def fo_of   (x : Int32) (y : Int32) (b : Int32) : Int64 :=
  if b = 0 then (fo_whole (0 : Int32) (fo_half x y)) else (fo_whole (fo_half x y) (fo_half x y))
set_option maxRecDepth 100000 in
set_option maxHeartbeats 4000000 in
theorem tO_of {l : Launch} {D : va_G} {A : Nat → Prop} {ad : Nat → Nat} {tP : Nat} {cI : ClassId} {tl : List va_E} {tyr : List (ClassId × FieldType)} (S : kT) (P : pT) (X : xT) (x : Int32) (y : Int32) (b : Int32)  : aw_M l yO_of (Cond.code yO_of cO_of 4 (some .long) :: aw_big) 1 D vwCl ((cI, .int) :: tyr) A ad (zC A tP) [.int x, .int y, .int b] (hC ad cI S P X ++ tl) (some (.long (fo_of x y b))) (hC ad cI S P X ++ tl) := by
  refine aw_met cO_of 4 (some .long) [some (.int x), some (.int y), some (.int b), none] (by decide) rfl (Nat.le_of_ble_eq_true rfl) rfl ?_
  intro p e s m args below meth c F Zs hr hlk
  refine aw_iload_n (pc := 0) (i := 0) (x := x) F dO_of_0 rfl rfl ?_
  refine aw_iload_n (pc := 1) (i := 1) (x := y) F dO_of_1 rfl rfl ?_
  refine aw_goS (pc := 2) (As := [.int x, .int y]) (rest := []) F zC_ok Zs (tO_half  S P X x y) (va_cwS 2 F.1.2.2.2.2 (gi_S wd_475 wd_476 wd_75 wd_477) rfl rfl rfl (by decide +kernel) ⟨Nat.le_of_ble_eq_true rfl, Nat.le_of_ble_eq_true rfl⟩) rfl (Nat.le_of_ble_eq_true rfl) ⟨Nat.zero_le _, Nat.zero_le _⟩ rfl dO_of_2 ?_
  show aW _ _ _ _ _ _ _ _ _ _ _ _ _ _ _ _ _ _ _ _ _ [.int (fo_half x y)]
  refine aw_istore_n (pc := 5) (i := 3) (L' := [some (.int x), some (.int y), some (.int b), some (.int (fo_half x y))]) F dO_of_5 rfl (by decide) rfl ?_
  refine aw_iload_n (pc := 6) (i := 2) (x := b) F dO_of_6 rfl rfl ?_
  refine aw_if_eq (pc := 7) F 14 dO_of_7 (by decide) (fun c_7 => ?_) (fun c_7 => ?_)
  · skip
    refine aw_iconst (pc := 14) (v := 0) F dO_of_14 (by decide) ?_
    refine aw_iload_n (pc := 15) (i := 3) (x := (fo_half x y)) F dO_of_15 rfl rfl ?_
    refine aw_goS (pc := 16) (As := [.int (0 : Int32), .int (fo_half x y)]) (rest := []) F zC_ok Zs (tO_whole  S P X (0 : Int32) (fo_half x y)) (va_cwS 2 F.1.2.2.2.2 (gi_S wd_481 wd_482 wd_75 wd_483) rfl rfl rfl (by decide +kernel) ⟨Nat.le_of_ble_eq_true rfl, Nat.le_of_ble_eq_true rfl⟩) rfl (Nat.le_of_ble_eq_true rfl) ⟨Nat.zero_le _, Nat.zero_le _⟩ rfl dO_of_16 ?_
    show aW _ _ _ _ _ _ _ _ _ _ _ _ _ _ _ _ _ _ _ _ _ [.long (fo_whole (0 : Int32) (fo_half x y))]
    exact aw_lret (pc := 19) F hr hlk dO_of_19 (by rw [fo_of, if_pos c_7]) rfl
  · skip
    refine aw_iload_n (pc := 10) (i := 3) (x := (fo_half x y)) F dO_of_10 rfl rfl ?_
    refine aw_goto (pc := 11) F 15 dO_of_11 (by decide) ?_
    refine aw_iload_n (pc := 15) (i := 3) (x := (fo_half x y)) F dO_of_15 rfl rfl ?_
    refine aw_goS (pc := 16) (As := [.int (fo_half x y), .int (fo_half x y)]) (rest := []) F zC_ok Zs (tO_whole  S P X (fo_half x y) (fo_half x y)) (va_cwS 2 F.1.2.2.2.2 (gi_S wd_481 wd_482 wd_75 wd_483) rfl rfl rfl (by decide +kernel) ⟨Nat.le_of_ble_eq_true rfl, Nat.le_of_ble_eq_true rfl⟩) rfl (Nat.le_of_ble_eq_true rfl) ⟨Nat.zero_le _, Nat.zero_le _⟩ rfl dO_of_16 ?_
    show aW _ _ _ _ _ _ _ _ _ _ _ _ _ _ _ _ _ _ _ _ _ [.long (fo_whole (fo_half x y) (fo_half x y))]
    exact aw_lret (pc := 19) F hr hlk dO_of_19 (by rw [fo_of, if_neg c_7]) rfl
def fk_hasBit   (x : Int32) (y : Int32) : Int32 :=
  if ((x >>> (y &&& 31)) &&& (1 : Int32)) = 0 then (0 : Int32) else (1 : Int32)
set_option maxRecDepth 100000 in
set_option maxHeartbeats 4000000 in
theorem tK_hasBit {l : Launch} {D : va_G} {A : Nat → Prop} {ad : Nat → Nat} {tP : Nat} {cI : ClassId} {tl : List va_E} {tyr : List (ClassId × FieldType)} (S : kT) (P : pT) (X : xT) (x : Int32) (y : Int32)  : aw_M l yK_hasBit (Cond.code yK_hasBit cK_hasBit 2 (some .boolean) :: aw_big) 0 D vwCl ((cI, .int) :: tyr) A ad (zC A tP) [.int x, .int y] (hC ad cI S P X ++ tl) (some (.int (fk_hasBit x y))) (hC ad cI S P X ++ tl) := by
  refine aw_met cK_hasBit 2 (some .boolean) [some (.int x), some (.int y)] (by decide) rfl (Nat.le_of_ble_eq_true rfl) rfl ?_
  intro p e s m args below meth c F Zs hr hlk
  refine aw_iload_n (pc := 0) (i := 0) (x := x) F dK_hasBit_0 rfl rfl ?_
  refine aw_iload_n (pc := 1) (i := 1) (x := y) F dK_hasBit_1 rfl rfl ?_
  refine aw_ishr (pc := 2) F dK_hasBit_2 ?_
  refine aw_iconst (pc := 3) (v := 1) F dK_hasBit_3 (by decide) ?_
  refine aw_iand (pc := 4) F dK_hasBit_4 ?_
  refine aw_if_eq (pc := 5) F 12 dK_hasBit_5 (by decide) (fun c_5 => ?_) (fun c_5 => ?_)
  · skip
    refine aw_iconst (pc := 12) (v := 0) F dK_hasBit_12 (by decide) ?_
    exact aw_zret (pc := 13) F hr hlk dK_hasBit_13 rfl (by rw [fk_hasBit, if_pos c_5]) rfl
  · skip
    refine aw_iconst (pc := 8) (v := 1) F dK_hasBit_8 (by decide) ?_
    refine aw_goto (pc := 9) F 13 dK_hasBit_9 (by decide) ?_
    exact aw_zret (pc := 13) F hr hlk dK_hasBit_13 rfl (by rw [fk_hasBit, if_neg c_5]) rfl
def fk_statusIn   (x : Int32) (y : Int32) (z : Int32) : Int32 :=
  if (fk_hasBit x z) = 0 then (2 : Int32) else if (fk_hasBit y z) = 0 then (0 : Int32) else (1 : Int32)
set_option maxRecDepth 100000 in
set_option maxHeartbeats 4000000 in
theorem tK_statusIn {l : Launch} {D : va_G} {A : Nat → Prop} {ad : Nat → Nat} {tP : Nat} {cI : ClassId} {tl : List va_E} {tyr : List (ClassId × FieldType)} (S : kT) (P : pT) (X : xT) (x : Int32) (y : Int32) (z : Int32)  : aw_M l yK_statusIn (Cond.code yK_statusIn cK_statusIn 3 (some .int) :: aw_big) 1 D vwCl ((cI, .int) :: tyr) A ad (zC A tP) [.int x, .int y, .int z] (hC ad cI S P X ++ tl) (some (.int (fk_statusIn x y z))) (hC ad cI S P X ++ tl) := by
  refine aw_met cK_statusIn 3 (some .int) [some (.int x), some (.int y), some (.int z)] (by decide) rfl (Nat.le_of_ble_eq_true rfl) rfl ?_
  intro p e s m args below meth c F Zs hr hlk
  refine aw_iload_n (pc := 0) (i := 0) (x := x) F dK_statusIn_0 rfl rfl ?_
  refine aw_iload_n (pc := 1) (i := 2) (x := z) F dK_statusIn_1 rfl rfl ?_
  refine aw_goS (pc := 2) (As := [.int x, .int z]) (rest := []) F zC_ok Zs (tK_hasBit  S P X x z) (va_cwS 2 F.1.2.2.2.2 (gi_S wd_537 wd_506 wd_64 wd_507) rfl rfl rfl (by decide +kernel) ⟨Nat.le_of_ble_eq_true rfl, Nat.le_of_ble_eq_true rfl⟩) rfl (Nat.le_of_ble_eq_true rfl) ⟨Nat.zero_le _, Nat.zero_le _⟩ rfl dK_statusIn_2 ?_
  show aW _ _ _ _ _ _ _ _ _ _ _ _ _ _ _ _ _ _ _ _ _ [.int (fk_hasBit x z)]
  refine aw_if_ne (pc := 5) F 10 dK_statusIn_5 (by decide) (fun c_5 => ?_) (fun c_5 => ?_)
  · skip
    refine aw_iload_n (pc := 10) (i := 1) (x := y) F dK_statusIn_10 rfl rfl ?_
    refine aw_iload_n (pc := 11) (i := 2) (x := z) F dK_statusIn_11 rfl rfl ?_
    refine aw_goS (pc := 12) (As := [.int y, .int z]) (rest := []) F zC_ok Zs (tK_hasBit  S P X y z) (va_cwS 2 F.1.2.2.2.2 (gi_S wd_537 wd_506 wd_64 wd_507) rfl rfl rfl (by decide +kernel) ⟨Nat.le_of_ble_eq_true rfl, Nat.le_of_ble_eq_true rfl⟩) rfl (Nat.le_of_ble_eq_true rfl) ⟨Nat.zero_le _, Nat.zero_le _⟩ rfl dK_statusIn_12 ?_
    show aW _ _ _ _ _ _ _ _ _ _ _ _ _ _ _ _ _ _ _ _ _ [.int (fk_hasBit y z)]
    refine aw_if_eq (pc := 15) F 22 dK_statusIn_15 (by decide) (fun c_15 => ?_) (fun c_15 => ?_)
    · skip
      refine aw_iconst (pc := 22) (v := 0) F dK_statusIn_22 (by decide) ?_
      exact aw_iret (pc := 23) F hr hlk dK_statusIn_23 (by rw [fk_statusIn, if_neg c_5, if_pos c_15]) rfl
    · skip
      refine aw_iconst (pc := 18) (v := 1) F dK_statusIn_18 (by decide) ?_
      refine aw_goto (pc := 19) F 23 dK_statusIn_19 (by decide) ?_
      exact aw_iret (pc := 23) F hr hlk dK_statusIn_23 (by rw [fk_statusIn, if_neg c_5, if_neg c_15]) rfl
  · skip
    refine aw_iconst (pc := 8) (v := 2) F dK_statusIn_8 (by decide) ?_
    exact aw_iret (pc := 9) F hr hlk dK_statusIn_9 (by rw [fk_statusIn, if_pos c_5]) rfl
def fp_isWhole  (P : pT)  : Int32 :=
  if (P.1 2) = 0 then (1 : Int32) else (0 : Int32)
set_option maxRecDepth 100000 in
set_option maxHeartbeats 4000000 in
theorem tG_isWhole {l : Launch} {D : va_G} {A : Nat → Prop} {ad : Nat → Nat} {tP : Nat} {cI : ClassId} {tl : List va_E} {tyr : List (ClassId × FieldType)} (S : kT) (P : pT) (X : xT)   : aw_M l yG_isWhole (Cond.code yG_isWhole cG_isWhole 1 (some .boolean) :: aw_big) 0 D vwCl ((cI, .int) :: tyr) A ad (zC A tP) [.ref (ad 1)] (hC ad cI S P X ++ tl) (some (.int (fp_isWhole P))) (hC ad cI S P X ++ tl) := by
  refine aw_met cG_isWhole 1 (some .boolean) [some (.ref (ad 1))] (by decide) rfl (Nat.le_of_ble_eq_true rfl) rfl ?_
  intro p e s m args below meth c F Zs hr hlk
  refine aw_aload_n (pc := 0) (i := 0) (x := ad 1) F dG_isWhole_0 rfl rfl ?_
  refine aw_get (pc := 1) (v := .int (P.1 2)) F 1 hC_at1 rfl 11 (by decide) (fun w h => mw (iw_G w h)) (mw wd_104) rfl dG_isWhole_1 ?_
  refine aw_if_ne (pc := 4) F 11 dG_isWhole_4 (by decide) (fun c_4 => ?_) (fun c_4 => ?_)
  · skip
    refine aw_iconst (pc := 11) (v := 0) F dG_isWhole_11 (by decide) ?_
    exact aw_zret (pc := 12) F hr hlk dG_isWhole_12 rfl (by rw [fp_isWhole, if_neg c_4]) rfl
  · skip
    refine aw_iconst (pc := 7) (v := 1) F dG_isWhole_7 (by decide) ?_
    refine aw_goto (pc := 8) F 12 dG_isWhole_8 (by decide) ?_
    exact aw_zret (pc := 12) F hr hlk dG_isWhole_12 rfl (by rw [fp_isWhole, if_pos c_4]) rfl
def fp_has  (P : pT) (at_ : Int32) : Int32 :=
  if at_ < 0 then (0 : Int32) else if (P.1 1) ≤ at_ then (0 : Int32) else (1 : Int32)
set_option maxRecDepth 100000 in
set_option maxHeartbeats 4000000 in
theorem tG_has {l : Launch} {D : va_G} {A : Nat → Prop} {ad : Nat → Nat} {tP : Nat} {cI : ClassId} {tl : List va_E} {tyr : List (ClassId × FieldType)} (S : kT) (P : pT) (X : xT) (at_ : Int32)  : aw_M l yG_has (Cond.code yG_has cG_has 2 (some .boolean) :: aw_big) 0 D vwCl ((cI, .int) :: tyr) A ad (zC A tP) [.ref (ad 1), .int at_] (hC ad cI S P X ++ tl) (some (.int (fp_has P at_))) (hC ad cI S P X ++ tl) := by
  refine aw_met cG_has 2 (some .boolean) [some (.ref (ad 1)), some (.int at_)] (by decide) rfl (Nat.le_of_ble_eq_true rfl) rfl ?_
  intro p e s m args below meth c F Zs hr hlk
  refine aw_iload_n (pc := 0) (i := 1) (x := at_) F dG_has_0 rfl rfl ?_
  refine aw_if_lt (pc := 1) F 16 dG_has_1 (by decide) (fun c_1 => ?_) (fun c_1 => ?_)
  · skip
    refine aw_iconst (pc := 16) (v := 0) F dG_has_16 (by decide) ?_
    exact aw_zret (pc := 17) F hr hlk dG_has_17 rfl (by rw [fp_has, if_pos c_1]) rfl
  · skip
    refine aw_iload_n (pc := 4) (i := 1) (x := at_) F dG_has_4 rfl rfl ?_
    refine aw_aload_n (pc := 5) (i := 0) (x := ad 1) F dG_has_5 rfl rfl ?_
    refine aw_get (pc := 6) (v := .int (P.1 1)) F 1 hC_at1 rfl 10 (by decide) (fun w h => mw (iw_G w h)) (mw wd_102) rfl dG_has_6 ?_
    refine aw_icmp_ge (pc := 9) F 16 dG_has_9 (by decide) (fun c_9 => ?_) (fun c_9 => ?_)
    · skip
      refine aw_iconst (pc := 16) (v := 0) F dG_has_16 (by decide) ?_
      exact aw_zret (pc := 17) F hr hlk dG_has_17 rfl (by rw [fp_has, if_neg c_1, if_pos c_9]) rfl
    · skip
      refine aw_iconst (pc := 12) (v := 1) F dG_has_12 (by decide) ?_
      refine aw_goto (pc := 13) F 17 dG_has_13 (by decide) ?_
      exact aw_zret (pc := 17) F hr hlk dG_has_17 rfl (by rw [fp_has, if_neg c_1, if_neg c_9]) rfl
