def mS (M : mT) : Prop := 0 ≤ (M.1 0).toInt ∧ (M.1 0).toInt ≤ 120
def mL (M : mT) : Prop := 0 ≤ (M.1 4).toInt ∧ (M.1 4).toInt ≤ 24
def mO (M : mT) : Prop := ∀ j : Nat, (j : Int) < (M.1 4).toInt → vp_in (M.2 9 j) 120
theorem m_top {M : mT} (hL : mL M) (h : 0 < (M.1 4).toInt) : 0 ≤ ((M.1 4) - (1 : Int32)).toInt ∧ ((M.1 4) - (1 : Int32)).toInt < (M.1 4).toInt := by
  have := i_dn (x := M.1 4) (y := 0) h
  omega
theorem m_ne {M : mT} (hL : mL M) (h : ¬ (M.1 4) = 0) : 0 < (M.1 4).toInt := by
  have a := hL.1
  rcases Int.lt_or_eq_of_le a with b | b
  · exact b
  · exact absurd (Int32.toInt_inj.mp (by rw [← b]; rfl)) h
theorem mr_top {M : mT} (hL : mL M) (h : 0 < (M.1 4).toInt) : vp_in ((M.1 4) - (1 : Int32)) 25 := by
  rw [vp_in_iff]
  have a := m_top hL h
  have b := hL.2
  omega
theorem mr_otop {M : mT} (hL : mL M) (hO : mO M) (h : 0 < (M.1 4).toInt) : vp_in (M.2 9 ((M.1 4) - (1 : Int32)).toNatClampNeg) 120 := hO _ (by rw [i_nat (m_top hL h).1]; exact (m_top hL h).2)
def fm_fails  (T : Int32) (a : Int32) (b : Int32) : Int32 × Int32 :=
  if a = 0 then
    if b = 0 then
      if (0 : Int32) ≤ 0 then ((0 : Int32), (0 : Int32)) else ((1 : Int32), (0 : Int32))
    else
      if (2 : Int32) ≤ 0 then ((0 : Int32), (2 : Int32)) else ((1 : Int32), (2 : Int32))
  else
    if (1 : Int32) ≤ 0 then ((0 : Int32), (1 : Int32)) else ((1 : Int32), (1 : Int32))
set_option maxRecDepth 100000 in
set_option maxHeartbeats 4000000 in
theorem tM_fails {l : Launch} {D : va_G} {A : Nat → Prop} {ad : Nat → Nat} {tP : Nat} {cI cZ : ClassId} {S : kT} {P : pT} {X : xT} {tl : List va_E} {tyr : List (ClassId × FieldType)} (T : Int32) (M : mT) (Y : yT) (V : vT) (a : Int32) (b : Int32)  : aw_M l yM_fails (Cond.code yM_fails cM_fails 3 (some .boolean) :: aw_big) 0 D vwCl ((cI, .int) :: (cZ, .boolean) :: tyr) A ad (zC A tP) [.ref (ad 13), .int a, .int b] (hC ad cI S P X ++ (hM ad cI cZ T M Y V ++ tl)) (some (.int ((fm_fails T a b).1))) (hC ad cI S P X ++ (hM ad cI cZ ((fm_fails T a b).2) M Y V ++ tl)) := by
  refine aw_met cM_fails 3 (some .boolean) [some (.ref (ad 13)), some (.int a), some (.int b)] (by decide) rfl (Nat.le_of_ble_eq_true rfl) rfl ?_
  intro p e s m args below meth c F Zs hr hlk
  refine aw_aload_n (pc := 0) (i := 0) (x := ad 13) F dM_fails_0 rfl rfl ?_
  refine aw_iload_n (pc := 1) (i := 1) (x := a) F dM_fails_1 rfl rfl ?_
  refine aw_if_eq (pc := 2) F 9 dM_fails_2 (by decide) (fun c_2 => ?_) (fun c_2 => ?_)
  · skip
    refine aw_iload_n (pc := 9) (i := 2) (x := b) F dM_fails_9 rfl rfl ?_
    refine aw_if_eq (pc := 10) F 17 dM_fails_10 (by decide) (fun c_10 => ?_) (fun c_10 => ?_)
    · skip
      refine aw_iconst (pc := 17) (v := 0) F dM_fails_17 (by decide) ?_
      refine aw_put (pc := 18) (hp' := (hC ad cI S P X ++ (hM ad cI cZ (0 : Int32) M Y V ++ tl))) F 13 hM_at13 rfl 0 (by decide) (fun w h => mw (iw_M w h)) tyM tyM_ok nmM (mw wd_649) (ty := .int) rfl (by decide +kernel) rfl rfl (Nat.le_of_ble_eq_true rfl) hM_st13_0 dM_fails_18 ?_
      refine aw_aload_n (pc := 21) (i := 0) (x := ad 13) F dM_fails_21 rfl rfl ?_
      refine aw_get (pc := 22) (v := .int (0 : Int32)) F 13 hM_at13 rfl 0 (by decide) (fun w h => mw (iw_M w h)) (mw wd_649) rfl dM_fails_22 ?_
      refine aw_if_le (pc := 25) F 32 dM_fails_25 (by decide) (fun c_25 => ?_) (fun c_25 => ?_)
      · skip
        refine aw_iconst (pc := 32) (v := 0) F dM_fails_32 (by decide) ?_
        exact aw_zret (pc := 33) F hr hlk dM_fails_33 rfl (by rw [fm_fails, if_pos c_2, if_pos c_10, if_pos c_25]) (by rw [fm_fails, if_pos c_2, if_pos c_10, if_pos c_25])
      · skip
        refine aw_iconst (pc := 28) (v := 1) F dM_fails_28 (by decide) ?_
        refine aw_goto (pc := 29) F 33 dM_fails_29 (by decide) ?_
        exact aw_zret (pc := 33) F hr hlk dM_fails_33 rfl (by rw [fm_fails, if_pos c_2, if_pos c_10, if_neg c_25]) (by rw [fm_fails, if_pos c_2, if_pos c_10, if_neg c_25])
    · skip
      refine aw_iconst (pc := 13) (v := 2) F dM_fails_13 (by decide) ?_
      refine aw_goto (pc := 14) F 18 dM_fails_14 (by decide) ?_
      refine aw_put (pc := 18) (hp' := (hC ad cI S P X ++ (hM ad cI cZ (2 : Int32) M Y V ++ tl))) F 13 hM_at13 rfl 0 (by decide) (fun w h => mw (iw_M w h)) tyM tyM_ok nmM (mw wd_649) (ty := .int) rfl (by decide +kernel) rfl rfl (Nat.le_of_ble_eq_true rfl) hM_st13_0 dM_fails_18 ?_
      refine aw_aload_n (pc := 21) (i := 0) (x := ad 13) F dM_fails_21 rfl rfl ?_
      refine aw_get (pc := 22) (v := .int (2 : Int32)) F 13 hM_at13 rfl 0 (by decide) (fun w h => mw (iw_M w h)) (mw wd_649) rfl dM_fails_22 ?_
      refine aw_if_le (pc := 25) F 32 dM_fails_25 (by decide) (fun c_25 => ?_) (fun c_25 => ?_)
      · skip
        refine aw_iconst (pc := 32) (v := 0) F dM_fails_32 (by decide) ?_
        exact aw_zret (pc := 33) F hr hlk dM_fails_33 rfl (by rw [fm_fails, if_pos c_2, if_neg c_10, if_pos c_25]) (by rw [fm_fails, if_pos c_2, if_neg c_10, if_pos c_25])
      · skip
        refine aw_iconst (pc := 28) (v := 1) F dM_fails_28 (by decide) ?_
        refine aw_goto (pc := 29) F 33 dM_fails_29 (by decide) ?_
        exact aw_zret (pc := 33) F hr hlk dM_fails_33 rfl (by rw [fm_fails, if_pos c_2, if_neg c_10, if_neg c_25]) (by rw [fm_fails, if_pos c_2, if_neg c_10, if_neg c_25])
  · skip
    refine aw_iconst (pc := 5) (v := 1) F dM_fails_5 (by decide) ?_
    refine aw_goto (pc := 6) F 18 dM_fails_6 (by decide) ?_
    refine aw_put (pc := 18) (hp' := (hC ad cI S P X ++ (hM ad cI cZ (1 : Int32) M Y V ++ tl))) F 13 hM_at13 rfl 0 (by decide) (fun w h => mw (iw_M w h)) tyM tyM_ok nmM (mw wd_649) (ty := .int) rfl (by decide +kernel) rfl rfl (Nat.le_of_ble_eq_true rfl) hM_st13_0 dM_fails_18 ?_
    refine aw_aload_n (pc := 21) (i := 0) (x := ad 13) F dM_fails_21 rfl rfl ?_
    refine aw_get (pc := 22) (v := .int (1 : Int32)) F 13 hM_at13 rfl 0 (by decide) (fun w h => mw (iw_M w h)) (mw wd_649) rfl dM_fails_22 ?_
    refine aw_if_le (pc := 25) F 32 dM_fails_25 (by decide) (fun c_25 => ?_) (fun c_25 => ?_)
    · skip
      refine aw_iconst (pc := 32) (v := 0) F dM_fails_32 (by decide) ?_
      exact aw_zret (pc := 33) F hr hlk dM_fails_33 rfl (by rw [fm_fails, if_neg c_2, if_pos c_25]) (by rw [fm_fails, if_neg c_2, if_pos c_25])
    · skip
      refine aw_iconst (pc := 28) (v := 1) F dM_fails_28 (by decide) ?_
      refine aw_goto (pc := 29) F 33 dM_fails_29 (by decide) ?_
      exact aw_zret (pc := 33) F hr hlk dM_fails_33 rfl (by rw [fm_fails, if_neg c_2, if_neg c_25]) (by rw [fm_fails, if_neg c_2, if_neg c_25])
def fm_partsOf   (so : Int32) : Int32 :=
  if (4 : Int32) ≤ so then
    if so = (4 : Int32) then
      (2 : Int32)
    else
      if so = (6 : Int32) then (2 : Int32) else if so = (7 : Int32) then (2 : Int32) else (1 : Int32)
  else
    (0 : Int32)
set_option maxRecDepth 100000 in
set_option maxHeartbeats 4000000 in
theorem tM_partsOf {l : Launch} {D : va_G} {A : Nat → Prop} {ad : Nat → Nat} {tP : Nat} {cI cZ : ClassId} {S : kT} {P : pT} {X : xT} {tl : List va_E} {tyr : List (ClassId × FieldType)} (T : Int32) (M : mT) (Y : yT) (V : vT) (so : Int32)  : aw_M l yM_partsOf (Cond.code yM_partsOf cM_partsOf 1 (some .int) :: aw_big) 0 D vwCl ((cI, .int) :: (cZ, .boolean) :: tyr) A ad (zC A tP) [.int so] (hC ad cI S P X ++ (hM ad cI cZ T M Y V ++ tl)) (some (.int (fm_partsOf so))) (hC ad cI S P X ++ (hM ad cI cZ T M Y V ++ tl)) := by
  refine aw_met cM_partsOf 1 (some .int) [some (.int so)] (by decide) rfl (Nat.le_of_ble_eq_true rfl) rfl ?_
  intro p e s m args below meth c F Zs hr hlk
  refine aw_iload_n (pc := 0) (i := 0) (x := so) F dM_partsOf_0 rfl rfl ?_
  refine aw_iconst (pc := 1) (v := 4) F dM_partsOf_1 (by decide) ?_
  refine aw_icmp_ge (pc := 2) F 9 dM_partsOf_2 (by decide) (fun c_2 => ?_) (fun c_2 => ?_)
  · skip
    refine aw_iload_n (pc := 9) (i := 0) (x := so) F dM_partsOf_9 rfl rfl ?_
    refine aw_iconst (pc := 10) (v := 4) F dM_partsOf_10 (by decide) ?_
    refine aw_icmp_eq (pc := 11) F 26 dM_partsOf_11 (by decide) (fun c_11 => ?_) (fun c_11 => ?_)
    · skip
      refine aw_iconst (pc := 26) (v := 2) F dM_partsOf_26 (by decide) ?_
      refine aw_goto (pc := 27) F 31 dM_partsOf_27 (by decide) ?_
      exact aw_iret (pc := 31) F hr hlk dM_partsOf_31 (by rw [fm_partsOf, if_pos c_2, if_pos c_11]) rfl
    · skip
      refine aw_iload_n (pc := 14) (i := 0) (x := so) F dM_partsOf_14 rfl rfl ?_
      refine aw_bipush (pc := 15) (v := 6) F dM_partsOf_15 (by decide) ?_
      refine aw_icmp_eq (pc := 17) F 26 dM_partsOf_17 (by decide) (fun c_17 => ?_) (fun c_17 => ?_)
      · skip
        refine aw_iconst (pc := 26) (v := 2) F dM_partsOf_26 (by decide) ?_
        refine aw_goto (pc := 27) F 31 dM_partsOf_27 (by decide) ?_
        exact aw_iret (pc := 31) F hr hlk dM_partsOf_31 (by rw [fm_partsOf, if_pos c_2, if_neg c_11, if_pos c_17]) rfl
      · skip
        refine aw_iload_n (pc := 20) (i := 0) (x := so) F dM_partsOf_20 rfl rfl ?_
        refine aw_bipush (pc := 21) (v := 7) F dM_partsOf_21 (by decide) ?_
        refine aw_icmp_ne (pc := 23) F 30 dM_partsOf_23 (by decide) (fun c_23 => ?_) (fun c_23 => ?_)
        · skip
          refine aw_iconst (pc := 30) (v := 1) F dM_partsOf_30 (by decide) ?_
          exact aw_iret (pc := 31) F hr hlk dM_partsOf_31 (by rw [fm_partsOf, if_pos c_2, if_neg c_11, if_neg c_17, if_neg c_23]) rfl
        · skip
          refine aw_iconst (pc := 26) (v := 2) F dM_partsOf_26 (by decide) ?_
          refine aw_goto (pc := 27) F 31 dM_partsOf_27 (by decide) ?_
          exact aw_iret (pc := 31) F hr hlk dM_partsOf_31 (by rw [fm_partsOf, if_pos c_2, if_neg c_11, if_neg c_17, if_pos c_23]) rfl
  · skip
    refine aw_iconst (pc := 5) (v := 0) F dM_partsOf_5 (by decide) ?_
    refine aw_goto (pc := 6) F 31 dM_partsOf_6 (by decide) ?_
    exact aw_iret (pc := 31) F hr hlk dM_partsOf_31 (by rw [fm_partsOf, if_neg c_2]) rfl
def fm_trapsHere  (M : mT)  : Int32 :=
  if (M.1 4) = 0 then
    (0 : Int32)
  else
    if ((M.2 0) ((M.2 9) ((M.1 4) - (1 : Int32)).toNatClampNeg).toNatClampNeg) = (9 : Int32) then
      (((M.2 6) ((M.2 9) ((M.1 4) - (1 : Int32)).toNatClampNeg).toNatClampNeg) + (1 : Int32))
    else
      (((M.2 6) ((M.2 9) ((M.1 4) - (1 : Int32)).toNatClampNeg).toNatClampNeg) + (0 : Int32))
set_option maxRecDepth 100000 in
set_option maxHeartbeats 4000000 in
theorem tM_trapsHere {l : Launch} {D : va_G} {A : Nat → Prop} {ad : Nat → Nat} {tP : Nat} {cI cZ : ClassId} {S : kT} {P : pT} {X : xT} {tl : List va_E} {tyr : List (ClassId × FieldType)} (T : Int32) (M : mT) (Y : yT) (V : vT)  (hL : mL M) (hO : mO M) : aw_M l yM_trapsHere (Cond.code yM_trapsHere cM_trapsHere 1 (some .int) :: aw_big) 0 D vwCl ((cI, .int) :: (cZ, .boolean) :: tyr) A ad (zC A tP) [.ref (ad 13)] (hC ad cI S P X ++ (hM ad cI cZ T M Y V ++ tl)) (some (.int (fm_trapsHere M))) (hC ad cI S P X ++ (hM ad cI cZ T M Y V ++ tl)) := by
  refine aw_met cM_trapsHere 1 (some .int) [some (.ref (ad 13))] (by decide) rfl (Nat.le_of_ble_eq_true rfl) rfl ?_
  intro p e s m args below meth c F Zs hr hlk
  refine aw_aload_n (pc := 0) (i := 0) (x := ad 13) F dM_trapsHere_0 rfl rfl ?_
  refine aw_get (pc := 1) (v := .int (M.1 4)) F 13 hM_at13 rfl 16 (by decide) (fun w h => mw (iw_M w h)) (mw wd_665) rfl dM_trapsHere_1 ?_
  refine aw_if_ne (pc := 4) F 11 dM_trapsHere_4 (by decide) (fun c_4 => ?_) (fun c_4 => ?_)
  · skip
    refine aw_aload_n (pc := 11) (i := 0) (x := ad 13) F dM_trapsHere_11 rfl rfl ?_
    refine aw_get (pc := 12) (v := .ref (ad 20)) F 13 hM_at13 rfl 11 (by decide) (fun w h => mw (iw_M w h)) (mw wd_660) rfl dM_trapsHere_12 ?_
    refine aw_aload_n (pc := 15) (i := 0) (x := ad 13) F dM_trapsHere_15 rfl rfl ?_
    refine aw_get (pc := 16) (v := .ref (ad 23)) F 13 hM_at13 rfl 14 (by decide) (fun w h => mw (iw_M w h)) (mw wd_663) rfl dM_trapsHere_16 ?_
    refine aw_aload_n (pc := 19) (i := 0) (x := ad 13) F dM_trapsHere_19 rfl rfl ?_
    refine aw_get (pc := 20) (v := .int (M.1 4)) F 13 hM_at13 rfl 16 (by decide) (fun w h => mw (iw_M w h)) (mw wd_665) rfl dM_trapsHere_20 ?_
    refine aw_iconst (pc := 23) (v := 1) F dM_trapsHere_23 (by decide) ?_
    refine aw_isub (pc := 24) F dM_trapsHere_24 ?_
    refine aw_iald (pc := 25) F 23 0 hM_at23 rfl (mr_top hL (m_ne hL c_4)) dM_trapsHere_25 ?_
    refine aw_iald (pc := 26) F 20 0 hM_at20 rfl (mr_otop hL hO (m_ne hL c_4)) dM_trapsHere_26 ?_
    refine aw_aload_n (pc := 27) (i := 0) (x := ad 13) F dM_trapsHere_27 rfl rfl ?_
    refine aw_get (pc := 28) (v := .ref (ad 14)) F 13 hM_at13 rfl 5 (by decide) (fun w h => mw (iw_M w h)) (mw wd_654) rfl dM_trapsHere_28 ?_
    refine aw_aload_n (pc := 31) (i := 0) (x := ad 13) F dM_trapsHere_31 rfl rfl ?_
    refine aw_get (pc := 32) (v := .ref (ad 23)) F 13 hM_at13 rfl 14 (by decide) (fun w h => mw (iw_M w h)) (mw wd_663) rfl dM_trapsHere_32 ?_
    refine aw_aload_n (pc := 35) (i := 0) (x := ad 13) F dM_trapsHere_35 rfl rfl ?_
    refine aw_get (pc := 36) (v := .int (M.1 4)) F 13 hM_at13 rfl 16 (by decide) (fun w h => mw (iw_M w h)) (mw wd_665) rfl dM_trapsHere_36 ?_
    refine aw_iconst (pc := 39) (v := 1) F dM_trapsHere_39 (by decide) ?_
    refine aw_isub (pc := 40) F dM_trapsHere_40 ?_
    refine aw_iald (pc := 41) F 23 0 hM_at23 rfl (mr_top hL (m_ne hL c_4)) dM_trapsHere_41 ?_
    refine aw_iald (pc := 42) F 14 0 hM_at14 rfl (mr_otop hL hO (m_ne hL c_4)) dM_trapsHere_42 ?_
    refine aw_bipush (pc := 43) (v := 9) F dM_trapsHere_43 (by decide) ?_
    refine aw_icmp_ne (pc := 45) F 52 dM_trapsHere_45 (by decide) (fun c_45 => ?_) (fun c_45 => ?_)
    · skip
      refine aw_iconst (pc := 52) (v := 0) F dM_trapsHere_52 (by decide) ?_
      refine aw_iadd (pc := 53) F dM_trapsHere_53 ?_
      exact aw_iret (pc := 54) F hr hlk dM_trapsHere_54 (by rw [fm_trapsHere, if_neg c_4, if_neg c_45]) rfl
    · skip
      refine aw_iconst (pc := 48) (v := 1) F dM_trapsHere_48 (by decide) ?_
      refine aw_goto (pc := 49) F 53 dM_trapsHere_49 (by decide) ?_
      refine aw_iadd (pc := 53) F dM_trapsHere_53 ?_
      exact aw_iret (pc := 54) F hr hlk dM_trapsHere_54 (by rw [fm_trapsHere, if_neg c_4, if_pos c_45]) rfl
  · skip
    refine aw_iconst (pc := 7) (v := 0) F dM_trapsHere_7 (by decide) ?_
    refine aw_goto (pc := 8) F 54 dM_trapsHere_8 (by decide) ?_
    exact aw_iret (pc := 54) F hr hlk dM_trapsHere_54 (by rw [fm_trapsHere, if_pos c_4]) rfl
def fm_isSaid  (M : mT) (so : Int32) (x : Int32) : Int32 :=
  if so < 0 then
    (0 : Int32)
  else
    if so ≤ (10 : Int32) then
      if so = (2 : Int32) then
        if x ≤ (3 : Int32) then (0 : Int32) else if (16 : Int32) ≤ x then (0 : Int32) else (1 : Int32)
      else
        if so = (10 : Int32) then
          if x ≤ (3 : Int32) then (0 : Int32) else if (16 : Int32) ≤ x then (0 : Int32) else (1 : Int32)
        else
          if so = (3 : Int32) then
            if x < 0 then (0 : Int32) else if (fm_trapsHere M) ≤ x then (0 : Int32) else (1 : Int32)
          else
            if so = (4 : Int32) then
              if x ≤ (-17 : Int32) then (0 : Int32) else if (16 : Int32) ≤ x then (0 : Int32) else (1 : Int32)
            else
              if so = (5 : Int32) then
                if x ≤ (-17 : Int32) then (0 : Int32) else if (16 : Int32) ≤ x then (0 : Int32) else (1 : Int32)
              else
                if x = 0 then (1 : Int32) else (0 : Int32)
    else
      (0 : Int32)
set_option maxRecDepth 100000 in
set_option maxHeartbeats 4000000 in
theorem tM_isSaid {l : Launch} {D : va_G} {A : Nat → Prop} {ad : Nat → Nat} {tP : Nat} {cI cZ : ClassId} {S : kT} {P : pT} {X : xT} {tl : List va_E} {tyr : List (ClassId × FieldType)} (T : Int32) (M : mT) (Y : yT) (V : vT) (so : Int32) (x : Int32) (hL : mL M) (hO : mO M) : aw_M l yM_isSaid (Cond.code yM_isSaid cM_isSaid 3 (some .boolean) :: aw_big) 1 D vwCl ((cI, .int) :: (cZ, .boolean) :: tyr) A ad (zC A tP) [.ref (ad 13), .int so, .int x] (hC ad cI S P X ++ (hM ad cI cZ T M Y V ++ tl)) (some (.int (fm_isSaid M so x))) (hC ad cI S P X ++ (hM ad cI cZ T M Y V ++ tl)) := by
  refine aw_met cM_isSaid 3 (some .boolean) [some (.ref (ad 13)), some (.int so), some (.int x)] (by decide) rfl (Nat.le_of_ble_eq_true rfl) rfl ?_
  intro p e s m args below meth c F Zs hr hlk
  refine aw_iload_n (pc := 0) (i := 1) (x := so) F dM_isSaid_0 rfl rfl ?_
  refine aw_if_lt (pc := 1) F 10 dM_isSaid_1 (by decide) (fun c_1 => ?_) (fun c_1 => ?_)
  · skip
    refine aw_iconst (pc := 10) (v := 0) F dM_isSaid_10 (by decide) ?_
    exact aw_zret (pc := 11) F hr hlk dM_isSaid_11 rfl (by rw [fm_isSaid, if_pos c_1]) rfl
  · skip
    refine aw_iload_n (pc := 4) (i := 1) (x := so) F dM_isSaid_4 rfl rfl ?_
    refine aw_bipush (pc := 5) (v := 10) F dM_isSaid_5 (by decide) ?_
    refine aw_icmp_le (pc := 7) F 12 dM_isSaid_7 (by decide) (fun c_7 => ?_) (fun c_7 => ?_)
    · skip
      refine aw_iload_n (pc := 12) (i := 1) (x := so) F dM_isSaid_12 rfl rfl ?_
      refine aw_iconst (pc := 13) (v := 2) F dM_isSaid_13 (by decide) ?_
      refine aw_icmp_eq (pc := 14) F 23 dM_isSaid_14 (by decide) (fun c_14 => ?_) (fun c_14 => ?_)
      · skip
        refine aw_iload_n (pc := 23) (i := 2) (x := x) F dM_isSaid_23 rfl rfl ?_
        refine aw_iconst (pc := 24) (v := 3) F dM_isSaid_24 (by decide) ?_
        refine aw_icmp_le (pc := 25) F 38 dM_isSaid_25 (by decide) (fun c_25 => ?_) (fun c_25 => ?_)
        · skip
          refine aw_iconst (pc := 38) (v := 0) F dM_isSaid_38 (by decide) ?_
          exact aw_zret (pc := 39) F hr hlk dM_isSaid_39 rfl (by rw [fm_isSaid, if_neg c_1, if_pos c_7, if_pos c_14, if_pos c_25]) rfl
        · skip
          refine aw_iload_n (pc := 28) (i := 2) (x := x) F dM_isSaid_28 rfl rfl ?_
          refine aw_bipush (pc := 29) (v := 16) F dM_isSaid_29 (by decide) ?_
          refine aw_icmp_ge (pc := 31) F 38 dM_isSaid_31 (by decide) (fun c_31 => ?_) (fun c_31 => ?_)
          · skip
            refine aw_iconst (pc := 38) (v := 0) F dM_isSaid_38 (by decide) ?_
            exact aw_zret (pc := 39) F hr hlk dM_isSaid_39 rfl (by rw [fm_isSaid, if_neg c_1, if_pos c_7, if_pos c_14, if_neg c_25, if_pos c_31]) rfl
          · skip
            refine aw_iconst (pc := 34) (v := 1) F dM_isSaid_34 (by decide) ?_
            refine aw_goto (pc := 35) F 39 dM_isSaid_35 (by decide) ?_
            exact aw_zret (pc := 39) F hr hlk dM_isSaid_39 rfl (by rw [fm_isSaid, if_neg c_1, if_pos c_7, if_pos c_14, if_neg c_25, if_neg c_31]) rfl
      · skip
        refine aw_iload_n (pc := 17) (i := 1) (x := so) F dM_isSaid_17 rfl rfl ?_
        refine aw_bipush (pc := 18) (v := 10) F dM_isSaid_18 (by decide) ?_
        refine aw_icmp_ne (pc := 20) F 40 dM_isSaid_20 (by decide) (fun c_20 => ?_) (fun c_20 => ?_)
        · skip
          refine aw_iload_n (pc := 40) (i := 1) (x := so) F dM_isSaid_40 rfl rfl ?_
          refine aw_iconst (pc := 41) (v := 3) F dM_isSaid_41 (by decide) ?_
          refine aw_icmp_ne (pc := 42) F 63 dM_isSaid_42 (by decide) (fun c_42 => ?_) (fun c_42 => ?_)
          · skip
            refine aw_iload_n (pc := 63) (i := 1) (x := so) F dM_isSaid_63 rfl rfl ?_
            refine aw_iconst (pc := 64) (v := 4) F dM_isSaid_64 (by decide) ?_
            refine aw_icmp_eq (pc := 65) F 73 dM_isSaid_65 (by decide) (fun c_65 => ?_) (fun c_65 => ?_)
            · skip
              refine aw_iload_n (pc := 73) (i := 2) (x := x) F dM_isSaid_73 rfl rfl ?_
              refine aw_bipush (pc := 74) (v := -17) F dM_isSaid_74 (by decide) ?_
              refine aw_icmp_le (pc := 76) F 89 dM_isSaid_76 (by decide) (fun c_76 => ?_) (fun c_76 => ?_)
              · skip
                refine aw_iconst (pc := 89) (v := 0) F dM_isSaid_89 (by decide) ?_
                refine aw_goto (pc := 90) F 102 dM_isSaid_90 (by decide) ?_
                exact aw_zret (pc := 102) F hr hlk dM_isSaid_102 rfl (by rw [fm_isSaid, if_neg c_1, if_pos c_7, if_neg c_14, if_neg c_20, if_neg c_42, if_pos c_65, if_pos c_76]) rfl
              · skip
                refine aw_iload_n (pc := 79) (i := 2) (x := x) F dM_isSaid_79 rfl rfl ?_
                refine aw_bipush (pc := 80) (v := 16) F dM_isSaid_80 (by decide) ?_
                refine aw_icmp_ge (pc := 82) F 89 dM_isSaid_82 (by decide) (fun c_82 => ?_) (fun c_82 => ?_)
                · skip
                  refine aw_iconst (pc := 89) (v := 0) F dM_isSaid_89 (by decide) ?_
                  refine aw_goto (pc := 90) F 102 dM_isSaid_90 (by decide) ?_
                  exact aw_zret (pc := 102) F hr hlk dM_isSaid_102 rfl (by rw [fm_isSaid, if_neg c_1, if_pos c_7, if_neg c_14, if_neg c_20, if_neg c_42, if_pos c_65, if_neg c_76, if_pos c_82]) rfl
                · skip
                  refine aw_iconst (pc := 85) (v := 1) F dM_isSaid_85 (by decide) ?_
                  refine aw_goto (pc := 86) F 102 dM_isSaid_86 (by decide) ?_
                  exact aw_zret (pc := 102) F hr hlk dM_isSaid_102 rfl (by rw [fm_isSaid, if_neg c_1, if_pos c_7, if_neg c_14, if_neg c_20, if_neg c_42, if_pos c_65, if_neg c_76, if_neg c_82]) rfl
            · skip
              refine aw_iload_n (pc := 68) (i := 1) (x := so) F dM_isSaid_68 rfl rfl ?_
              refine aw_iconst (pc := 69) (v := 5) F dM_isSaid_69 (by decide) ?_
              refine aw_icmp_ne (pc := 70) F 93 dM_isSaid_70 (by decide) (fun c_70 => ?_) (fun c_70 => ?_)
              · skip
                refine aw_iload_n (pc := 93) (i := 2) (x := x) F dM_isSaid_93 rfl rfl ?_
                refine aw_if_ne (pc := 94) F 101 dM_isSaid_94 (by decide) (fun c_94 => ?_) (fun c_94 => ?_)
                · skip
                  refine aw_iconst (pc := 101) (v := 0) F dM_isSaid_101 (by decide) ?_
                  exact aw_zret (pc := 102) F hr hlk dM_isSaid_102 rfl (by rw [fm_isSaid, if_neg c_1, if_pos c_7, if_neg c_14, if_neg c_20, if_neg c_42, if_neg c_65, if_neg c_70, if_neg c_94]) rfl
                · skip
                  refine aw_iconst (pc := 97) (v := 1) F dM_isSaid_97 (by decide) ?_
                  refine aw_goto (pc := 98) F 102 dM_isSaid_98 (by decide) ?_
                  exact aw_zret (pc := 102) F hr hlk dM_isSaid_102 rfl (by rw [fm_isSaid, if_neg c_1, if_pos c_7, if_neg c_14, if_neg c_20, if_neg c_42, if_neg c_65, if_neg c_70, if_pos c_94]) rfl
              · skip
                refine aw_iload_n (pc := 73) (i := 2) (x := x) F dM_isSaid_73 rfl rfl ?_
                refine aw_bipush (pc := 74) (v := -17) F dM_isSaid_74 (by decide) ?_
                refine aw_icmp_le (pc := 76) F 89 dM_isSaid_76 (by decide) (fun c_76 => ?_) (fun c_76 => ?_)
                · skip
                  refine aw_iconst (pc := 89) (v := 0) F dM_isSaid_89 (by decide) ?_
                  refine aw_goto (pc := 90) F 102 dM_isSaid_90 (by decide) ?_
                  exact aw_zret (pc := 102) F hr hlk dM_isSaid_102 rfl (by rw [fm_isSaid, if_neg c_1, if_pos c_7, if_neg c_14, if_neg c_20, if_neg c_42, if_neg c_65, if_pos c_70, if_pos c_76]) rfl
                · skip
                  refine aw_iload_n (pc := 79) (i := 2) (x := x) F dM_isSaid_79 rfl rfl ?_
                  refine aw_bipush (pc := 80) (v := 16) F dM_isSaid_80 (by decide) ?_
                  refine aw_icmp_ge (pc := 82) F 89 dM_isSaid_82 (by decide) (fun c_82 => ?_) (fun c_82 => ?_)
                  · skip
                    refine aw_iconst (pc := 89) (v := 0) F dM_isSaid_89 (by decide) ?_
                    refine aw_goto (pc := 90) F 102 dM_isSaid_90 (by decide) ?_
                    exact aw_zret (pc := 102) F hr hlk dM_isSaid_102 rfl (by rw [fm_isSaid, if_neg c_1, if_pos c_7, if_neg c_14, if_neg c_20, if_neg c_42, if_neg c_65, if_pos c_70, if_neg c_76, if_pos c_82]) rfl
                  · skip
                    refine aw_iconst (pc := 85) (v := 1) F dM_isSaid_85 (by decide) ?_
                    refine aw_goto (pc := 86) F 102 dM_isSaid_86 (by decide) ?_
                    exact aw_zret (pc := 102) F hr hlk dM_isSaid_102 rfl (by rw [fm_isSaid, if_neg c_1, if_pos c_7, if_neg c_14, if_neg c_20, if_neg c_42, if_neg c_65, if_pos c_70, if_neg c_76, if_neg c_82]) rfl
          · skip
            refine aw_iload_n (pc := 45) (i := 2) (x := x) F dM_isSaid_45 rfl rfl ?_
            refine aw_if_lt (pc := 46) F 61 dM_isSaid_46 (by decide) (fun c_46 => ?_) (fun c_46 => ?_)
            · skip
              refine aw_iconst (pc := 61) (v := 0) F dM_isSaid_61 (by decide) ?_
              exact aw_zret (pc := 62) F hr hlk dM_isSaid_62 rfl (by rw [fm_isSaid, if_neg c_1, if_pos c_7, if_neg c_14, if_neg c_20, if_pos c_42, if_pos c_46]) rfl
            · skip
              refine aw_iload_n (pc := 49) (i := 2) (x := x) F dM_isSaid_49 rfl rfl ?_
              refine aw_aload_n (pc := 50) (i := 0) (x := ad 13) F dM_isSaid_50 rfl rfl ?_
              refine aw_goV (pc := 51) (As := []) (rest := [.int x]) F zC_ok Zs 13 hM_at13 rfl (tM_trapsHere  T M Y V  hL hO) (cwV 0 F.1.2.2.2.2 (gi_V wd_750 wd_752 wd_46 wd_67 wd_753) rfl rfl rfl (by decide +kernel) ⟨Nat.le_of_ble_eq_true rfl, Nat.le_of_ble_eq_true rfl⟩) rfl (Nat.le_of_ble_eq_true rfl) ⟨Nat.zero_le _, Nat.zero_le _⟩ rfl dM_isSaid_51 ?_
              show aW _ _ _ _ _ _ _ _ _ _ _ _ _ _ _ _ _ _ _ _ _ [.int (fm_trapsHere M), .int x]
              refine aw_icmp_ge (pc := 54) F 61 dM_isSaid_54 (by decide) (fun c_54 => ?_) (fun c_54 => ?_)
              · skip
                refine aw_iconst (pc := 61) (v := 0) F dM_isSaid_61 (by decide) ?_
                exact aw_zret (pc := 62) F hr hlk dM_isSaid_62 rfl (by rw [fm_isSaid, if_neg c_1, if_pos c_7, if_neg c_14, if_neg c_20, if_pos c_42, if_neg c_46, if_pos c_54]) rfl
              · skip
                refine aw_iconst (pc := 57) (v := 1) F dM_isSaid_57 (by decide) ?_
                refine aw_goto (pc := 58) F 62 dM_isSaid_58 (by decide) ?_
                exact aw_zret (pc := 62) F hr hlk dM_isSaid_62 rfl (by rw [fm_isSaid, if_neg c_1, if_pos c_7, if_neg c_14, if_neg c_20, if_pos c_42, if_neg c_46, if_neg c_54]) rfl
        · skip
          refine aw_iload_n (pc := 23) (i := 2) (x := x) F dM_isSaid_23 rfl rfl ?_
          refine aw_iconst (pc := 24) (v := 3) F dM_isSaid_24 (by decide) ?_
          refine aw_icmp_le (pc := 25) F 38 dM_isSaid_25 (by decide) (fun c_25 => ?_) (fun c_25 => ?_)
          · skip
            refine aw_iconst (pc := 38) (v := 0) F dM_isSaid_38 (by decide) ?_
            exact aw_zret (pc := 39) F hr hlk dM_isSaid_39 rfl (by rw [fm_isSaid, if_neg c_1, if_pos c_7, if_neg c_14, if_pos c_20, if_pos c_25]) rfl
          · skip
            refine aw_iload_n (pc := 28) (i := 2) (x := x) F dM_isSaid_28 rfl rfl ?_
            refine aw_bipush (pc := 29) (v := 16) F dM_isSaid_29 (by decide) ?_
            refine aw_icmp_ge (pc := 31) F 38 dM_isSaid_31 (by decide) (fun c_31 => ?_) (fun c_31 => ?_)
            · skip
              refine aw_iconst (pc := 38) (v := 0) F dM_isSaid_38 (by decide) ?_
              exact aw_zret (pc := 39) F hr hlk dM_isSaid_39 rfl (by rw [fm_isSaid, if_neg c_1, if_pos c_7, if_neg c_14, if_pos c_20, if_neg c_25, if_pos c_31]) rfl
            · skip
              refine aw_iconst (pc := 34) (v := 1) F dM_isSaid_34 (by decide) ?_
              refine aw_goto (pc := 35) F 39 dM_isSaid_35 (by decide) ?_
              exact aw_zret (pc := 39) F hr hlk dM_isSaid_39 rfl (by rw [fm_isSaid, if_neg c_1, if_pos c_7, if_neg c_14, if_pos c_20, if_neg c_25, if_neg c_31]) rfl
    · skip
      refine aw_iconst (pc := 10) (v := 0) F dM_isSaid_10 (by decide) ?_
      exact aw_zret (pc := 11) F hr hlk dM_isSaid_11 rfl (by rw [fm_isSaid, if_neg c_1, if_neg c_7]) rfl
def fm_outcome   (x : Int32) (y : Int32) : Int32 :=
  (x ||| ((y + (1 : Int32)) <<< ((8 : Int32) &&& 31)))
set_option maxRecDepth 100000 in
set_option maxHeartbeats 4000000 in
theorem tM_outcome {l : Launch} {D : va_G} {A : Nat → Prop} {ad : Nat → Nat} {tP : Nat} {cI cZ : ClassId} {S : kT} {P : pT} {X : xT} {tl : List va_E} {tyr : List (ClassId × FieldType)} (T : Int32) (M : mT) (Y : yT) (V : vT) (x : Int32) (y : Int32)  : aw_M l yM_outcome (Cond.code yM_outcome cM_outcome 2 (some .int) :: aw_big) 0 D vwCl ((cI, .int) :: (cZ, .boolean) :: tyr) A ad (zC A tP) [.int x, .int y] (hC ad cI S P X ++ (hM ad cI cZ T M Y V ++ tl)) (some (.int (fm_outcome x y))) (hC ad cI S P X ++ (hM ad cI cZ T M Y V ++ tl)) := by
  refine aw_met cM_outcome 2 (some .int) [some (.int x), some (.int y)] (by decide) rfl (Nat.le_of_ble_eq_true rfl) rfl ?_
  intro p e s m args below meth c F Zs hr hlk
  refine aw_iload_n (pc := 0) (i := 0) (x := x) F dM_outcome_0 rfl rfl ?_
  refine aw_iload_n (pc := 1) (i := 1) (x := y) F dM_outcome_1 rfl rfl ?_
  refine aw_iconst (pc := 2) (v := 1) F dM_outcome_2 (by decide) ?_
  refine aw_iadd (pc := 3) F dM_outcome_3 ?_
  refine aw_bipush (pc := 4) (v := 8) F dM_outcome_4 (by decide) ?_
  refine aw_ishl (pc := 6) F dM_outcome_6 ?_
  refine aw_ior (pc := 7) F dM_outcome_7 ?_
  exact aw_iret (pc := 8) F hr hlk dM_outcome_8 (by first | rfl | (unfold fm_outcome; rfl)) rfl
def fm_canOf   (x : Int32) : Int32 :=
  (x &&& (255 : Int32))
set_option maxRecDepth 100000 in
set_option maxHeartbeats 4000000 in
theorem tM_canOf {l : Launch} {D : va_G} {A : Nat → Prop} {ad : Nat → Nat} {tP : Nat} {cI cZ : ClassId} {S : kT} {P : pT} {X : xT} {tl : List va_E} {tyr : List (ClassId × FieldType)} (T : Int32) (M : mT) (Y : yT) (V : vT) (x : Int32)  : aw_M l yM_canOf (Cond.code yM_canOf cM_canOf 1 (some .int) :: aw_big) 0 D vwCl ((cI, .int) :: (cZ, .boolean) :: tyr) A ad (zC A tP) [.int x] (hC ad cI S P X ++ (hM ad cI cZ T M Y V ++ tl)) (some (.int (fm_canOf x))) (hC ad cI S P X ++ (hM ad cI cZ T M Y V ++ tl)) := by
  refine aw_met cM_canOf 1 (some .int) [some (.int x)] (by decide) rfl (Nat.le_of_ble_eq_true rfl) rfl ?_
  intro p e s m args below meth c F Zs hr hlk
  refine aw_iload_n (pc := 0) (i := 0) (x := x) F dM_canOf_0 rfl rfl ?_
  refine aw_sipush (pc := 1) (v := 255) F dM_canOf_1 (by decide) ?_
  refine aw_iand (pc := 4) F dM_canOf_4 ?_
  exact aw_iret (pc := 5) F hr hlk dM_canOf_5 (by first | rfl | (unfold fm_canOf; rfl)) rfl
def fm_mustOf   (x : Int32) : Int32 :=
  ((x >>> ((8 : Int32) &&& 31)) - (1 : Int32))
set_option maxRecDepth 100000 in
set_option maxHeartbeats 4000000 in
theorem tM_mustOf {l : Launch} {D : va_G} {A : Nat → Prop} {ad : Nat → Nat} {tP : Nat} {cI cZ : ClassId} {S : kT} {P : pT} {X : xT} {tl : List va_E} {tyr : List (ClassId × FieldType)} (T : Int32) (M : mT) (Y : yT) (V : vT) (x : Int32)  : aw_M l yM_mustOf (Cond.code yM_mustOf cM_mustOf 1 (some .int) :: aw_big) 0 D vwCl ((cI, .int) :: (cZ, .boolean) :: tyr) A ad (zC A tP) [.int x] (hC ad cI S P X ++ (hM ad cI cZ T M Y V ++ tl)) (some (.int (fm_mustOf x))) (hC ad cI S P X ++ (hM ad cI cZ T M Y V ++ tl)) := by
  refine aw_met cM_mustOf 1 (some .int) [some (.int x)] (by decide) rfl (Nat.le_of_ble_eq_true rfl) rfl ?_
  intro p e s m args below meth c F Zs hr hlk
  refine aw_iload_n (pc := 0) (i := 0) (x := x) F dM_mustOf_0 rfl rfl ?_
  refine aw_bipush (pc := 1) (v := 8) F dM_mustOf_1 (by decide) ?_
  refine aw_ishr (pc := 3) F dM_mustOf_3 ?_
  refine aw_iconst (pc := 4) (v := 1) F dM_mustOf_4 (by decide) ?_
  refine aw_isub (pc := 5) F dM_mustOf_5 ?_
  exact aw_iret (pc := 6) F hr hlk dM_mustOf_6 (by first | rfl | (unfold fm_mustOf; rfl)) rfl
def fm_caught   (x : Int32) : Int32 :=
  (((x &&& (3 : Int32)) ||| ((x >>> ((2 : Int32) &&& 31)) &&& (1 : Int32))) ||| ((x >>> ((3 : Int32) &&& 31)) <<< ((2 : Int32) &&& 31)))
set_option maxRecDepth 100000 in
set_option maxHeartbeats 4000000 in
theorem tM_caught {l : Launch} {D : va_G} {A : Nat → Prop} {ad : Nat → Nat} {tP : Nat} {cI cZ : ClassId} {S : kT} {P : pT} {X : xT} {tl : List va_E} {tyr : List (ClassId × FieldType)} (T : Int32) (M : mT) (Y : yT) (V : vT) (x : Int32)  : aw_M l yM_caught (Cond.code yM_caught cM_caught 1 (some .int) :: aw_big) 0 D vwCl ((cI, .int) :: (cZ, .boolean) :: tyr) A ad (zC A tP) [.int x] (hC ad cI S P X ++ (hM ad cI cZ T M Y V ++ tl)) (some (.int (fm_caught x))) (hC ad cI S P X ++ (hM ad cI cZ T M Y V ++ tl)) := by
  refine aw_met cM_caught 1 (some .int) [some (.int x)] (by decide) rfl (Nat.le_of_ble_eq_true rfl) rfl ?_
  intro p e s m args below meth c F Zs hr hlk
  refine aw_iload_n (pc := 0) (i := 0) (x := x) F dM_caught_0 rfl rfl ?_
  refine aw_iconst (pc := 1) (v := 3) F dM_caught_1 (by decide) ?_
  refine aw_iand (pc := 2) F dM_caught_2 ?_
  refine aw_iload_n (pc := 3) (i := 0) (x := x) F dM_caught_3 rfl rfl ?_
  refine aw_iconst (pc := 4) (v := 2) F dM_caught_4 (by decide) ?_
  refine aw_ishr (pc := 5) F dM_caught_5 ?_
  refine aw_iconst (pc := 6) (v := 1) F dM_caught_6 (by decide) ?_
  refine aw_iand (pc := 7) F dM_caught_7 ?_
  refine aw_ior (pc := 8) F dM_caught_8 ?_
  refine aw_iload_n (pc := 9) (i := 0) (x := x) F dM_caught_9 rfl rfl ?_
  refine aw_iconst (pc := 10) (v := 3) F dM_caught_10 (by decide) ?_
  refine aw_ishr (pc := 11) F dM_caught_11 ?_
  refine aw_iconst (pc := 12) (v := 2) F dM_caught_12 (by decide) ?_
  refine aw_ishl (pc := 13) F dM_caught_13 ?_
  refine aw_ior (pc := 14) F dM_caught_14 ?_
  exact aw_iret (pc := 15) F hr hlk dM_caught_15 (by first | rfl | (unfold fm_caught; rfl)) rfl
def fm_pairsJ : Nat → Int32 → Int32 → Int32 → Int32 → Int32 → Int32 × Int32
  | 0, x, y, k, al, j => (al, j)
  | n + 1, x, y, k, al, j =>
      if (8 : Int32) ≤ j then
      (al, j)
    else
      if ((x >>> (k &&& 31)) &&& (1 : Int32)) = (1 : Int32) then
        if ((y >>> (j &&& 31)) &&& (1 : Int32)) = (1 : Int32) then
          if k ≤ j then
            (fm_pairsJ n x y k (al ||| ((1 : Int32) <<< (j &&& 31))) (j + (1 : Int32)))
          else
            (fm_pairsJ n x y k (al ||| ((1 : Int32) <<< (k &&& 31))) (j + (1 : Int32)))
        else
          (fm_pairsJ n x y k al (j + (1 : Int32)))
      else
        (fm_pairsJ n x y k al (j + (1 : Int32)))
set_option maxRecDepth 100000 in
set_option maxHeartbeats 4000000 in
theorem tM_pairs_X13 {l : Launch} {D : va_G} {A : Nat → Prop} {ad : Nat → Nat} {tP : Nat} {cI cZ : ClassId} {S : kT} {P : pT} {X : xT} {tl : List va_E} {tyr : List (ClassId × FieldType)} {p : Program} {e : Env} {R : Room} {s : State} {m : MethodId} {args : Array Value} {below : List Frame} {meth : Method} {c : Code} {Q : State → Prop} (F : aw_F p s m c args cM_pairs 5 (Cond.code yM_pairs cM_pairs 5 (some .int) :: aw_big) yM_pairs.cls D vwCl ((cI, .int) :: (cZ, .boolean) :: tyr)) (Zs : zC A tP s) :
    ∀ (n : Nat) (T : Int32) (M : mT) (Y : yT) (V : vT) (x : Int32) (y : Int32) (k : Int32) (al : Int32) (j : Int32) (h1 : 0 ≤ j.toInt) (h2 : j.toInt ≤ 8) (hm : 8 < j.toInt + n), aW p l e R s m args below meth c 0 0 Q D vwCl A ad 5 (hC ad cI S P X ++ (hM ad cI cZ T M Y V ++ tl)) [some (.int x), some (.int y), some (.int ((fm_pairsJ n x y k al j).1)), some (.int k), some (.int ((fm_pairsJ n x y k al j).2))] 66 [] → aW p l e R s m args below meth c 0 0 Q D vwCl A ad 5 (hC ad cI S P X ++ (hM ad cI cZ T M Y V ++ tl)) [some (.int x), some (.int y), some (.int al), some (.int k), some (.int j)] 13 [] := by
  intro n
  induction n with
  | zero =>
    intro T M Y V x y k al j h1 h2 hm kq
    exfalso; omega
  | succ n ih =>
    intro T M Y V x y k al j h1 h2 hm kq
    refine aw_iload (pc := 13) (i := 4) (x := j) F dM_pairs_13 rfl ?_
    refine aw_bipush (pc := 15) (v := 8) F dM_pairs_15 (by decide) ?_
    refine aw_icmp_ge (pc := 17) F 66 dM_pairs_17 (by decide) (fun c_17 => ?_) (fun c_17 => ?_)
    · skip
      rw [show (fm_pairsJ (n + 1) x y k al j) = (al, j) from by rw [fm_pairsJ, if_pos c_17]] at kq
      exact kq
    · skip
      refine aw_iload_n (pc := 20) (i := 0) (x := x) F dM_pairs_20 rfl rfl ?_
      refine aw_iload_n (pc := 21) (i := 3) (x := k) F dM_pairs_21 rfl rfl ?_
      refine aw_ishr (pc := 22) F dM_pairs_22 ?_
      refine aw_iconst (pc := 23) (v := 1) F dM_pairs_23 (by decide) ?_
      refine aw_iand (pc := 24) F dM_pairs_24 ?_
      refine aw_iconst (pc := 25) (v := 1) F dM_pairs_25 (by decide) ?_
      refine aw_icmp_ne (pc := 26) F 58 dM_pairs_26 (by decide) (fun c_26 => ?_) (fun c_26 => ?_)
      · skip
        refine aw_iload_n (pc := 58) (i := 2) (x := al) F dM_pairs_58 rfl rfl ?_
        refine aw_istore_n (pc := 59) (i := 2) (L' := [some (.int x), some (.int y), some (.int al), some (.int k), some (.int j)]) F dM_pairs_59 rfl (by decide) rfl ?_
        refine aw_iinc (pc := 60) (x := j) (v := j + (1 : Int32)) (L' := [some (.int x), some (.int y), some (.int al), some (.int k), some (.int (j + (1 : Int32)))]) F dM_pairs_60 rfl rfl (by decide) rfl ?_
        refine aw_goto (pc := 63) F 13 dM_pairs_63 (by decide) ?_
        rw [show (fm_pairsJ (n + 1) x y k al j) = (fm_pairsJ n x y k al (j + (1 : Int32))) from by rw [fm_pairsJ, if_neg c_17, if_neg c_26]] at kq
        exact ih T M Y V x y k al (j + (1 : Int32)) (by have a := i_up (i_lt c_17); omega) (by have a := i_up (i_lt c_17); have b := i_lt c_17; have e : (8 : Int32).toInt = 8 := rfl; omega) (by have a := i_up (i_lt c_17); omega) kq
      · skip
        refine aw_iload_n (pc := 29) (i := 1) (x := y) F dM_pairs_29 rfl rfl ?_
        refine aw_iload (pc := 30) (i := 4) (x := j) F dM_pairs_30 rfl ?_
        refine aw_ishr (pc := 32) F dM_pairs_32 ?_
        refine aw_iconst (pc := 33) (v := 1) F dM_pairs_33 (by decide) ?_
        refine aw_iand (pc := 34) F dM_pairs_34 ?_
        refine aw_iconst (pc := 35) (v := 1) F dM_pairs_35 (by decide) ?_
        refine aw_icmp_ne (pc := 36) F 58 dM_pairs_36 (by decide) (fun c_36 => ?_) (fun c_36 => ?_)
        · skip
          refine aw_iload_n (pc := 58) (i := 2) (x := al) F dM_pairs_58 rfl rfl ?_
          refine aw_istore_n (pc := 59) (i := 2) (L' := [some (.int x), some (.int y), some (.int al), some (.int k), some (.int j)]) F dM_pairs_59 rfl (by decide) rfl ?_
          refine aw_iinc (pc := 60) (x := j) (v := j + (1 : Int32)) (L' := [some (.int x), some (.int y), some (.int al), some (.int k), some (.int (j + (1 : Int32)))]) F dM_pairs_60 rfl rfl (by decide) rfl ?_
          refine aw_goto (pc := 63) F 13 dM_pairs_63 (by decide) ?_
          rw [show (fm_pairsJ (n + 1) x y k al j) = (fm_pairsJ n x y k al (j + (1 : Int32))) from by rw [fm_pairsJ, if_neg c_17, if_pos c_26, if_neg c_36]] at kq
          exact ih T M Y V x y k al (j + (1 : Int32)) (by have a := i_up (i_lt c_17); omega) (by have a := i_up (i_lt c_17); have b := i_lt c_17; have e : (8 : Int32).toInt = 8 := rfl; omega) (by have a := i_up (i_lt c_17); omega) kq
        · skip
          refine aw_iload_n (pc := 39) (i := 2) (x := al) F dM_pairs_39 rfl rfl ?_
          refine aw_iconst (pc := 40) (v := 1) F dM_pairs_40 (by decide) ?_
          refine aw_iload_n (pc := 41) (i := 3) (x := k) F dM_pairs_41 rfl rfl ?_
          refine aw_iload (pc := 42) (i := 4) (x := j) F dM_pairs_42 rfl ?_
          refine aw_icmp_le (pc := 44) F 51 dM_pairs_44 (by decide) (fun c_44 => ?_) (fun c_44 => ?_)
          · skip
            refine aw_iload (pc := 51) (i := 4) (x := j) F dM_pairs_51 rfl ?_
            refine aw_ishl (pc := 53) F dM_pairs_53 ?_
            refine aw_ior (pc := 54) F dM_pairs_54 ?_
            refine aw_goto (pc := 55) F 59 dM_pairs_55 (by decide) ?_
            refine aw_istore_n (pc := 59) (i := 2) (L' := [some (.int x), some (.int y), some (.int (al ||| ((1 : Int32) <<< (j &&& 31)))), some (.int k), some (.int j)]) F dM_pairs_59 rfl (by decide) rfl ?_
            refine aw_iinc (pc := 60) (x := j) (v := j + (1 : Int32)) (L' := [some (.int x), some (.int y), some (.int (al ||| ((1 : Int32) <<< (j &&& 31)))), some (.int k), some (.int (j + (1 : Int32)))]) F dM_pairs_60 rfl rfl (by decide) rfl ?_
            refine aw_goto (pc := 63) F 13 dM_pairs_63 (by decide) ?_
            rw [show (fm_pairsJ (n + 1) x y k al j) = (fm_pairsJ n x y k (al ||| ((1 : Int32) <<< (j &&& 31))) (j + (1 : Int32))) from by rw [fm_pairsJ, if_neg c_17, if_pos c_26, if_pos c_36, if_pos c_44]] at kq
            exact ih T M Y V x y k (al ||| ((1 : Int32) <<< (j &&& 31))) (j + (1 : Int32)) (by have a := i_up (i_lt c_17); omega) (by have a := i_up (i_lt c_17); have b := i_lt c_17; have e : (8 : Int32).toInt = 8 := rfl; omega) (by have a := i_up (i_lt c_17); omega) kq
          · skip
            refine aw_iload_n (pc := 47) (i := 3) (x := k) F dM_pairs_47 rfl rfl ?_
            refine aw_goto (pc := 48) F 53 dM_pairs_48 (by decide) ?_
            refine aw_ishl (pc := 53) F dM_pairs_53 ?_
            refine aw_ior (pc := 54) F dM_pairs_54 ?_
            refine aw_goto (pc := 55) F 59 dM_pairs_55 (by decide) ?_
            refine aw_istore_n (pc := 59) (i := 2) (L' := [some (.int x), some (.int y), some (.int (al ||| ((1 : Int32) <<< (k &&& 31)))), some (.int k), some (.int j)]) F dM_pairs_59 rfl (by decide) rfl ?_
            refine aw_iinc (pc := 60) (x := j) (v := j + (1 : Int32)) (L' := [some (.int x), some (.int y), some (.int (al ||| ((1 : Int32) <<< (k &&& 31)))), some (.int k), some (.int (j + (1 : Int32)))]) F dM_pairs_60 rfl rfl (by decide) rfl ?_
            refine aw_goto (pc := 63) F 13 dM_pairs_63 (by decide) ?_
            rw [show (fm_pairsJ (n + 1) x y k al j) = (fm_pairsJ n x y k (al ||| ((1 : Int32) <<< (k &&& 31))) (j + (1 : Int32))) from by rw [fm_pairsJ, if_neg c_17, if_pos c_26, if_pos c_36, if_neg c_44]] at kq
            exact ih T M Y V x y k (al ||| ((1 : Int32) <<< (k &&& 31))) (j + (1 : Int32)) (by have a := i_up (i_lt c_17); omega) (by have a := i_up (i_lt c_17); have b := i_lt c_17; have e : (8 : Int32).toInt = 8 := rfl; omega) (by have a := i_up (i_lt c_17); omega) kq
def fm_pairsK : Nat → Int32 → Int32 → Int32 → Int32 → Int32 × Int32
  | 0, x, y, al, k => (al, k)
  | n + 1, x, y, al, k =>
      if (8 : Int32) ≤ k then
      (al, k)
    else
      (fm_pairsK n x y ((fm_pairsJ 9 x y k al (0 : Int32)).1) (k + (1 : Int32)))
set_option maxRecDepth 100000 in
set_option maxHeartbeats 4000000 in
theorem tM_pairs_X4 {l : Launch} {D : va_G} {A : Nat → Prop} {ad : Nat → Nat} {tP : Nat} {cI cZ : ClassId} {S : kT} {P : pT} {X : xT} {tl : List va_E} {tyr : List (ClassId × FieldType)} {p : Program} {e : Env} {R : Room} {s : State} {m : MethodId} {args : Array Value} {below : List Frame} {meth : Method} {c : Code} {Q : State → Prop} (F : aw_F p s m c args cM_pairs 5 (Cond.code yM_pairs cM_pairs 5 (some .int) :: aw_big) yM_pairs.cls D vwCl ((cI, .int) :: (cZ, .boolean) :: tyr)) (Zs : zC A tP s) :
    ∀ (n : Nat) (T : Int32) (M : mT) (Y : yT) (V : vT) (x : Int32) (y : Int32) (al : Int32) (k : Int32) (h1 : 0 ≤ k.toInt) (h2 : k.toInt ≤ 8) (hm : 8 < k.toInt + n), aW p l e R s m args below meth c 0 0 Q D vwCl A ad 5 (hC ad cI S P X ++ (hM ad cI cZ T M Y V ++ tl)) [some (.int x), some (.int y), some (.int ((fm_pairsK n x y al k).1)), some (.int ((fm_pairsK n x y al k).2)), none] 72 [] → aW p l e R s m args below meth c 0 0 Q D vwCl A ad 5 (hC ad cI S P X ++ (hM ad cI cZ T M Y V ++ tl)) [some (.int x), some (.int y), some (.int al), some (.int k), none] 4 [] := by
  intro n
  induction n with
  | zero =>
    intro T M Y V x y al k h1 h2 hm kq
    exfalso; omega
  | succ n ih =>
    intro T M Y V x y al k h1 h2 hm kq
    refine aw_iload_n (pc := 4) (i := 3) (x := k) F dM_pairs_4 rfl rfl ?_
    refine aw_bipush (pc := 5) (v := 8) F dM_pairs_5 (by decide) ?_
    refine aw_icmp_ge (pc := 7) F 72 dM_pairs_7 (by decide) (fun c_7 => ?_) (fun c_7 => ?_)
    · skip
      rw [show (fm_pairsK (n + 1) x y al k) = (al, k) from by rw [fm_pairsK, if_pos c_7]] at kq
      exact kq
    · skip
      refine aw_iconst (pc := 10) (v := 0) F dM_pairs_10 (by decide) ?_
      refine aw_istore (pc := 11) (i := 4) (L' := [some (.int x), some (.int y), some (.int al), some (.int k), some (.int (0 : Int32))]) F dM_pairs_11 (by decide) rfl ?_
      refine tM_pairs_X13  F Zs 9 T M Y V x y k al (0 : Int32) (by rw [i_0]; omega) (by rw [i_0]; omega) (by rw [i_0]; omega) ?_
      refine aw_iinc (pc := 66) (x := k) (v := k + (1 : Int32)) (L' := [some (.int x), some (.int y), some (.int ((fm_pairsJ 9 x y k al (0 : Int32)).1)), some (.int (k + (1 : Int32))), some (.int ((fm_pairsJ 9 x y k al (0 : Int32)).2))]) F dM_pairs_66 rfl rfl (by decide) rfl ?_
      refine aw_goto (pc := 69) F 4 dM_pairs_69 (by decide) ?_
      rw [show (fm_pairsK (n + 1) x y al k) = (fm_pairsK n x y ((fm_pairsJ 9 x y k al (0 : Int32)).1) (k + (1 : Int32))) from by rw [fm_pairsK, if_neg c_7]] at kq
      refine aw_less (L' := [some (.int x), some (.int y), some (.int ((fm_pairsJ 9 x y k al (0 : Int32)).1)), some (.int (k + (1 : Int32))), none]) (fun i v h => by match i, h with | 0, h => exact h | 1, h => exact h | 2, h => exact h | 3, h => exact h | 4, h => cases h | _ + 5, h => cases h) ?_
      exact ih T M Y V x y ((fm_pairsJ 9 x y k al (0 : Int32)).1) (k + (1 : Int32)) (by have a := i_up (i_lt c_7); omega) (by have a := i_up (i_lt c_7); have b := i_lt c_7; have e : (8 : Int32).toInt = 8 := rfl; omega) (by have a := i_up (i_lt c_7); omega) kq
def fm_pairs   (x : Int32) (y : Int32) : Int32 :=
  ((fm_pairsK 9 x y (0 : Int32) (0 : Int32)).1)
set_option maxRecDepth 100000 in
set_option maxHeartbeats 4000000 in
theorem tM_pairs {l : Launch} {D : va_G} {A : Nat → Prop} {ad : Nat → Nat} {tP : Nat} {cI cZ : ClassId} {S : kT} {P : pT} {X : xT} {tl : List va_E} {tyr : List (ClassId × FieldType)} (T : Int32) (M : mT) (Y : yT) (V : vT) (x : Int32) (y : Int32)  : aw_M l yM_pairs (Cond.code yM_pairs cM_pairs 5 (some .int) :: aw_big) 0 D vwCl ((cI, .int) :: (cZ, .boolean) :: tyr) A ad (zC A tP) [.int x, .int y] (hC ad cI S P X ++ (hM ad cI cZ T M Y V ++ tl)) (some (.int (fm_pairs x y))) (hC ad cI S P X ++ (hM ad cI cZ T M Y V ++ tl)) := by
  refine aw_met cM_pairs 5 (some .int) [some (.int x), some (.int y), none, none, none] (by decide) rfl (Nat.le_of_ble_eq_true rfl) rfl ?_
  intro p e s m args below meth c F Zs hr hlk
  refine aw_iconst (pc := 0) (v := 0) F dM_pairs_0 (by decide) ?_
  refine aw_istore_n (pc := 1) (i := 2) (L' := [some (.int x), some (.int y), some (.int (0 : Int32)), none, none]) F dM_pairs_1 rfl (by decide) rfl ?_
  refine aw_iconst (pc := 2) (v := 0) F dM_pairs_2 (by decide) ?_
  refine aw_istore_n (pc := 3) (i := 3) (L' := [some (.int x), some (.int y), some (.int (0 : Int32)), some (.int (0 : Int32)), none]) F dM_pairs_3 rfl (by decide) rfl ?_
  refine tM_pairs_X4  F Zs 9 T M Y V x y (0 : Int32) (0 : Int32) (by rw [i_0]; omega) (by rw [i_0]; omega) (by rw [i_0]; omega) ?_
  refine aw_iload_n (pc := 72) (i := 2) (x := ((fm_pairsK 9 x y (0 : Int32) (0 : Int32)).1)) F dM_pairs_72 rfl rfl ?_
  exact aw_iret (pc := 73) F hr hlk dM_pairs_73 (by first | rfl | (unfold fm_pairs; rfl)) rfl
def fm_restK : Nat → yT → Int32 → Int32 → Int32 × yT
  | 0, Y, ph, k => (k, Y)
  | n + 1, Y, ph, k =>
      if (32 : Int32) ≤ k then
      (k, Y)
    else
      (fm_restK n (y2w Y 0 k.toNatClampNeg (vp_nar .boolean (0 : Int32))) ph (k + (1 : Int32)))
set_option maxRecDepth 100000 in
set_option maxHeartbeats 4000000 in
theorem tM_rest_X12 {l : Launch} {D : va_G} {A : Nat → Prop} {ad : Nat → Nat} {tP : Nat} {cI cZ : ClassId} {S : kT} {P : pT} {X : xT} {tl : List va_E} {tyr : List (ClassId × FieldType)} {p : Program} {e : Env} {R : Room} {s : State} {m : MethodId} {args : Array Value} {below : List Frame} {meth : Method} {c : Code} {Q : State → Prop} (F : aw_F p s m c args cM_rest 3 (Cond.code yM_rest cM_rest 3 none :: aw_big) yM_rest.cls D vwCl ((cI, .int) :: (cZ, .boolean) :: tyr)) (Zs : zC A tP s) :
    ∀ (n : Nat) (T : Int32) (M : mT) (Y : yT) (V : vT) (ph : Int32) (k : Int32) (h1 : 0 ≤ k.toInt) (h2 : k.toInt ≤ 32) (hm : 32 < k.toInt + n), aW p l e R s m args below meth c 0 0 Q D vwCl A ad 3 (hC ad cI S P X ++ (hM ad cI cZ T M ((fm_restK n Y ph k).2) V ++ tl)) [some (.ref (ad 13)), some (.int ph), some (.int ((fm_restK n Y ph k).1))] 31 [] → aW p l e R s m args below meth c 0 0 Q D vwCl A ad 3 (hC ad cI S P X ++ (hM ad cI cZ T M Y V ++ tl)) [some (.ref (ad 13)), some (.int ph), some (.int k)] 12 [] := by
  intro n
  induction n with
  | zero =>
    intro T M Y V ph k h1 h2 hm kq
    exfalso; omega
  | succ n ih =>
    intro T M Y V ph k h1 h2 hm kq
    refine aw_iload_n (pc := 12) (i := 2) (x := k) F dM_rest_12 rfl rfl ?_
    refine aw_bipush (pc := 13) (v := 32) F dM_rest_13 (by decide) ?_
    refine aw_icmp_ge (pc := 15) F 31 dM_rest_15 (by decide) (fun c_15 => ?_) (fun c_15 => ?_)
    · skip
      rw [show (fm_restK (n + 1) Y ph k) = (k, Y) from by rw [fm_restK, if_pos c_15]] at kq
      exact kq
    · skip
      refine aw_aload_n (pc := 18) (i := 0) (x := ad 13) F dM_rest_18 rfl rfl ?_
      refine aw_get (pc := 19) (v := .ref (ad 25)) F 13 hM_at13 rfl 20 (by decide) (fun w h => mw (iw_M w h)) (mw wd_669) rfl dM_rest_19 ?_
      refine aw_iload_n (pc := 22) (i := 2) (x := k) F dM_rest_22 rfl rfl ?_
      refine aw_iconst (pc := 23) (v := 0) F dM_rest_23 (by decide) ?_
      refine aw_zast (pc := 24) (hp' := (hC ad cI S P X ++ (hM ad cI cZ T M (y2w Y 0 k.toNatClampNeg (vp_nar .boolean (0 : Int32))) V ++ tl))) F 25 1 hM_at25 rfl (vp_in_iff.mpr (by have a := i_lt c_15; have e : (32 : Int32).toInt = 32 := rfl; omega)) hM_st25 dM_rest_24 ?_
      refine aw_iinc (pc := 25) (x := k) (v := k + (1 : Int32)) (L' := [some (.ref (ad 13)), some (.int ph), some (.int (k + (1 : Int32)))]) F dM_rest_25 rfl rfl (by decide) rfl ?_
      refine aw_goto (pc := 28) F 12 dM_rest_28 (by decide) ?_
      rw [show (fm_restK (n + 1) Y ph k) = (fm_restK n (y2w Y 0 k.toNatClampNeg (vp_nar .boolean (0 : Int32))) ph (k + (1 : Int32))) from by rw [fm_restK, if_neg c_15]] at kq
      exact ih T M (y2w Y 0 k.toNatClampNeg (vp_nar .boolean (0 : Int32))) V ph (k + (1 : Int32)) (by have a := i_up (i_lt c_15); omega) (by have a := i_up (i_lt c_15); have b := i_lt c_15; have e : (32 : Int32).toInt = 32 := rfl; omega) (by have a := i_up (i_lt c_15); omega) kq
def fm_restS : Nat → yT → Int32 → Int32 × yT
  | 0, Y, k => (k, Y)
  | n + 1, Y, k =>
      if (16 : Int32) ≤ k then (k, Y) else (fm_restS n (y2w Y 1 k.toNatClampNeg (0 : Int32)) (k + (1 : Int32)))
set_option maxRecDepth 100000 in
set_option maxHeartbeats 4000000 in
theorem tM_rest_X33 {l : Launch} {D : va_G} {A : Nat → Prop} {ad : Nat → Nat} {tP : Nat} {cI cZ : ClassId} {S : kT} {P : pT} {X : xT} {tl : List va_E} {tyr : List (ClassId × FieldType)} {p : Program} {e : Env} {R : Room} {s : State} {m : MethodId} {args : Array Value} {below : List Frame} {meth : Method} {c : Code} {Q : State → Prop} (F : aw_F p s m c args cM_rest 3 (Cond.code yM_rest cM_rest 3 none :: aw_big) yM_rest.cls D vwCl ((cI, .int) :: (cZ, .boolean) :: tyr)) (Zs : zC A tP s) :
    ∀ (n : Nat) (T : Int32) (M : mT) (Y : yT) (V : vT)  (k : Int32) (h1 : 0 ≤ k.toInt) (h2 : k.toInt ≤ 16) (hm : 16 < k.toInt + n), aW p l e R s m args below meth c 0 0 Q D vwCl A ad 3 (hC ad cI S P X ++ (hM ad cI cZ T M ((fm_restS n Y k).2) V ++ tl)) [some (.ref (ad 13)), none, some (.int ((fm_restS n Y k).1))] 52 [] → aW p l e R s m args below meth c 0 0 Q D vwCl A ad 3 (hC ad cI S P X ++ (hM ad cI cZ T M Y V ++ tl)) [some (.ref (ad 13)), none, some (.int k)] 33 [] := by
  intro n
  induction n with
  | zero =>
    intro T M Y V k h1 h2 hm kq
    exfalso; omega
  | succ n ih =>
    intro T M Y V k h1 h2 hm kq
    refine aw_iload_n (pc := 33) (i := 2) (x := k) F dM_rest_33 rfl rfl ?_
    refine aw_bipush (pc := 34) (v := 16) F dM_rest_34 (by decide) ?_
    refine aw_icmp_ge (pc := 36) F 52 dM_rest_36 (by decide) (fun c_36 => ?_) (fun c_36 => ?_)
    · skip
      rw [show (fm_restS (n + 1) Y k) = (k, Y) from by rw [fm_restS, if_pos c_36]] at kq
      exact kq
    · skip
      refine aw_aload_n (pc := 39) (i := 0) (x := ad 13) F dM_rest_39 rfl rfl ?_
      refine aw_get (pc := 40) (v := .ref (ad 26)) F 13 hM_at13 rfl 22 (by decide) (fun w h => mw (iw_M w h)) (mw wd_671) rfl dM_rest_40 ?_
      refine aw_iload_n (pc := 43) (i := 2) (x := k) F dM_rest_43 rfl rfl ?_
      refine aw_iconst (pc := 44) (v := 0) F dM_rest_44 (by decide) ?_
      refine aw_iast (pc := 45) (hp' := (hC ad cI S P X ++ (hM ad cI cZ T M (y2w Y 1 k.toNatClampNeg (0 : Int32)) V ++ tl))) F 26 0 hM_at26 rfl (vp_in_iff.mpr (by have a := i_lt c_36; have e : (16 : Int32).toInt = 16 := rfl; omega)) hM_st26 dM_rest_45 ?_
      refine aw_iinc (pc := 46) (x := k) (v := k + (1 : Int32)) (L' := [some (.ref (ad 13)), none, some (.int (k + (1 : Int32)))]) F dM_rest_46 rfl rfl (by decide) rfl ?_
      refine aw_goto (pc := 49) F 33 dM_rest_49 (by decide) ?_
      rw [show (fm_restS (n + 1) Y k) = (fm_restS n (y2w Y 1 k.toNatClampNeg (0 : Int32)) (k + (1 : Int32))) from by rw [fm_restS, if_neg c_36]] at kq
      exact ih T M (y2w Y 1 k.toNatClampNeg (0 : Int32)) V  (k + (1 : Int32)) (by have a := i_up (i_lt c_36); omega) (by have a := i_up (i_lt c_36); have b := i_lt c_36; have e : (16 : Int32).toInt = 16 := rfl; omega) (by have a := i_up (i_lt c_36); omega) kq
def fm_rest  (Y : yT) (ph : Int32) : yT :=
  ((fm_restS 17 ((fm_restK 33 (y1w (y1w Y 0 ph) 1 (0 : Int32)) ph (0 : Int32)).2) (0 : Int32)).2)
set_option maxRecDepth 100000 in
set_option maxHeartbeats 4000000 in
theorem tM_rest {l : Launch} {D : va_G} {A : Nat → Prop} {ad : Nat → Nat} {tP : Nat} {cI cZ : ClassId} {S : kT} {P : pT} {X : xT} {tl : List va_E} {tyr : List (ClassId × FieldType)} (T : Int32) (M : mT) (Y : yT) (V : vT) (ph : Int32)  : aw_M l yM_rest (Cond.code yM_rest cM_rest 3 none :: aw_big) 0 D vwCl ((cI, .int) :: (cZ, .boolean) :: tyr) A ad (zC A tP) [.ref (ad 13), .int ph] (hC ad cI S P X ++ (hM ad cI cZ T M Y V ++ tl)) none (hC ad cI S P X ++ (hM ad cI cZ T M (fm_rest Y ph) V ++ tl)) := by
  refine aw_met cM_rest 3 none [some (.ref (ad 13)), some (.int ph), none] (by decide) rfl (Nat.le_of_ble_eq_true rfl) rfl ?_
  intro p e s m args below meth c F Zs hr hlk
  refine aw_aload_n (pc := 0) (i := 0) (x := ad 13) F dM_rest_0 rfl rfl ?_
  refine aw_iload_n (pc := 1) (i := 1) (x := ph) F dM_rest_1 rfl rfl ?_
  refine aw_put (pc := 2) (hp' := (hC ad cI S P X ++ (hM ad cI cZ T M (y1w Y 0 ph) V ++ tl))) F 13 hM_at13 rfl 17 (by decide) (fun w h => mw (iw_M w h)) tyM tyM_ok nmM (mw wd_666) (ty := .int) rfl (by decide +kernel) rfl rfl (Nat.le_of_ble_eq_true rfl) hM_st13_17 dM_rest_2 ?_
  refine aw_aload_n (pc := 5) (i := 0) (x := ad 13) F dM_rest_5 rfl rfl ?_
  refine aw_iconst (pc := 6) (v := 0) F dM_rest_6 (by decide) ?_
  refine aw_put (pc := 7) (hp' := (hC ad cI S P X ++ (hM ad cI cZ T M (y1w (y1w Y 0 ph) 1 (0 : Int32)) V ++ tl))) F 13 hM_at13 rfl 18 (by decide) (fun w h => mw (iw_M w h)) tyM tyM_ok nmM (mw wd_667) (ty := .int) rfl (by decide +kernel) rfl rfl (Nat.le_of_ble_eq_true rfl) hM_st13_18 dM_rest_7 ?_
  refine aw_iconst (pc := 10) (v := 0) F dM_rest_10 (by decide) ?_
  refine aw_istore_n (pc := 11) (i := 2) (L' := [some (.ref (ad 13)), some (.int ph), some (.int (0 : Int32))]) F dM_rest_11 rfl (by decide) rfl ?_
  refine tM_rest_X12  F Zs 33 T M (y1w (y1w Y 0 ph) 1 (0 : Int32)) V ph (0 : Int32) (by rw [i_0]; omega) (by rw [i_0]; omega) (by rw [i_0]; omega) ?_
  refine aw_iconst (pc := 31) (v := 0) F dM_rest_31 (by decide) ?_
  refine aw_istore_n (pc := 32) (i := 2) (L' := [some (.ref (ad 13)), some (.int ph), some (.int (0 : Int32))]) F dM_rest_32 rfl (by decide) rfl ?_
  refine aw_less (L' := [some (.ref (ad 13)), none, some (.int (0 : Int32))]) (fun i v h => by match i, h with | 0, h => exact h | 1, h => cases h | 2, h => exact h | _ + 3, h => cases h) ?_
  refine tM_rest_X33  F Zs 17 T M ((fm_restK 33 (y1w (y1w Y 0 ph) 1 (0 : Int32)) ph (0 : Int32)).2) V  (0 : Int32) (by rw [i_0]; omega) (by rw [i_0]; omega) (by rw [i_0]; omega) ?_
  exact aw_vret (pc := 52) F hr hlk dM_rest_52 (by first | rfl | (unfold fm_rest; rfl))
def fm_clear  (T : Int32) (M : mT) (Y : yT)  : Int32 × Int32 × mT × yT :=
  ((M.1 0), (0 : Int32), (m1w (m1w (m1w (m1w (m1w M 0 (0 : Int32)) 1 (0 : Int32)) 2 (0 : Int32)) 3 (1 : Int32)) 4 (0 : Int32)), (fm_rest Y (0 : Int32)))
set_option maxRecDepth 100000 in
set_option maxHeartbeats 4000000 in
theorem tM_clear {l : Launch} {D : va_G} {A : Nat → Prop} {ad : Nat → Nat} {tP : Nat} {cI cZ : ClassId} {S : kT} {P : pT} {X : xT} {tl : List va_E} {tyr : List (ClassId × FieldType)} (T : Int32) (M : mT) (Y : yT) (V : vT)   : aw_M l yM_clear (Cond.code yM_clear cM_clear 2 (some .int) :: aw_big) 1 D vwCl ((cI, .int) :: (cZ, .boolean) :: tyr) A ad (zC A tP) [.ref (ad 13)] (hC ad cI S P X ++ (hM ad cI cZ T M Y V ++ tl)) (some (.int ((fm_clear T M Y).1))) (hC ad cI S P X ++ (hM ad cI cZ ((fm_clear T M Y).2.1) ((fm_clear T M Y).2.2.1) ((fm_clear T M Y).2.2.2) V ++ tl)) := by
  refine aw_met cM_clear 2 (some .int) [some (.ref (ad 13)), none] (by decide) rfl (Nat.le_of_ble_eq_true rfl) rfl ?_
  intro p e s m args below meth c F Zs hr hlk
  refine aw_aload_n (pc := 0) (i := 0) (x := ad 13) F dM_clear_0 rfl rfl ?_
  refine aw_iconst (pc := 1) (v := 0) F dM_clear_1 (by decide) ?_
  refine aw_put (pc := 2) (hp' := (hC ad cI S P X ++ (hM ad cI cZ (0 : Int32) M Y V ++ tl))) F 13 hM_at13 rfl 0 (by decide) (fun w h => mw (iw_M w h)) tyM tyM_ok nmM (mw wd_649) (ty := .int) rfl (by decide +kernel) rfl rfl (Nat.le_of_ble_eq_true rfl) hM_st13_0 dM_clear_2 ?_
  refine aw_aload_n (pc := 5) (i := 0) (x := ad 13) F dM_clear_5 rfl rfl ?_
  refine aw_get (pc := 6) (v := .int (M.1 0)) F 13 hM_at13 rfl 1 (by decide) (fun w h => mw (iw_M w h)) (mw wd_650) rfl dM_clear_6 ?_
  refine aw_istore_n (pc := 9) (i := 1) (L' := [some (.ref (ad 13)), some (.int (M.1 0))]) F dM_clear_9 rfl (by decide) rfl ?_
  refine aw_aload_n (pc := 10) (i := 0) (x := ad 13) F dM_clear_10 rfl rfl ?_
  refine aw_iconst (pc := 11) (v := 0) F dM_clear_11 (by decide) ?_
  refine aw_put (pc := 12) (hp' := (hC ad cI S P X ++ (hM ad cI cZ (0 : Int32) (m1w M 0 (0 : Int32)) Y V ++ tl))) F 13 hM_at13 rfl 1 (by decide) (fun w h => mw (iw_M w h)) tyM tyM_ok nmM (mw wd_650) (ty := .int) rfl (by decide +kernel) rfl rfl (Nat.le_of_ble_eq_true rfl) hM_st13_1 dM_clear_12 ?_
  refine aw_aload_n (pc := 15) (i := 0) (x := ad 13) F dM_clear_15 rfl rfl ?_
  refine aw_iconst (pc := 16) (v := 0) F dM_clear_16 (by decide) ?_
  refine aw_put (pc := 17) (hp' := (hC ad cI S P X ++ (hM ad cI cZ (0 : Int32) (m1w (m1w M 0 (0 : Int32)) 1 (0 : Int32)) Y V ++ tl))) F 13 hM_at13 rfl 2 (by decide) (fun w h => mw (iw_M w h)) tyM tyM_ok nmM (mw wd_651) (ty := .int) rfl (by decide +kernel) rfl rfl (Nat.le_of_ble_eq_true rfl) hM_st13_2 dM_clear_17 ?_
  refine aw_aload_n (pc := 20) (i := 0) (x := ad 13) F dM_clear_20 rfl rfl ?_
  refine aw_iconst (pc := 21) (v := 0) F dM_clear_21 (by decide) ?_
  refine aw_put (pc := 22) (hp' := (hC ad cI S P X ++ (hM ad cI cZ (0 : Int32) (m1w (m1w (m1w M 0 (0 : Int32)) 1 (0 : Int32)) 2 (0 : Int32)) Y V ++ tl))) F 13 hM_at13 rfl 3 (by decide) (fun w h => mw (iw_M w h)) tyM tyM_ok nmM (mw wd_652) (ty := .int) rfl (by decide +kernel) rfl rfl (Nat.le_of_ble_eq_true rfl) hM_st13_3 dM_clear_22 ?_
  refine aw_aload_n (pc := 25) (i := 0) (x := ad 13) F dM_clear_25 rfl rfl ?_
  refine aw_iconst (pc := 26) (v := 1) F dM_clear_26 (by decide) ?_
  refine aw_put (pc := 27) (hp' := (hC ad cI S P X ++ (hM ad cI cZ (0 : Int32) (m1w (m1w (m1w (m1w M 0 (0 : Int32)) 1 (0 : Int32)) 2 (0 : Int32)) 3 (1 : Int32)) Y V ++ tl))) F 13 hM_at13 rfl 4 (by decide) (fun w h => mw (iw_M w h)) tyM tyM_ok nmM (mw wd_653) (ty := .int) rfl (by decide +kernel) rfl rfl (Nat.le_of_ble_eq_true rfl) hM_st13_4 dM_clear_27 ?_
  refine aw_aload_n (pc := 30) (i := 0) (x := ad 13) F dM_clear_30 rfl rfl ?_
  refine aw_iconst (pc := 31) (v := 0) F dM_clear_31 (by decide) ?_
  refine aw_put (pc := 32) (hp' := (hC ad cI S P X ++ (hM ad cI cZ (0 : Int32) (m1w (m1w (m1w (m1w (m1w M 0 (0 : Int32)) 1 (0 : Int32)) 2 (0 : Int32)) 3 (1 : Int32)) 4 (0 : Int32)) Y V ++ tl))) F 13 hM_at13 rfl 16 (by decide) (fun w h => mw (iw_M w h)) tyM tyM_ok nmM (mw wd_665) (ty := .int) rfl (by decide +kernel) rfl rfl (Nat.le_of_ble_eq_true rfl) hM_st13_16 dM_clear_32 ?_
  refine aw_aload_n (pc := 35) (i := 0) (x := ad 13) F dM_clear_35 rfl rfl ?_
  refine aw_iconst (pc := 36) (v := 0) F dM_clear_36 (by decide) ?_
  refine aw_goV (pc := 37) (As := [.int (0 : Int32)]) (rest := []) F zC_ok Zs 13 hM_at13 rfl (tM_rest  (0 : Int32) (m1w (m1w (m1w (m1w (m1w M 0 (0 : Int32)) 1 (0 : Int32)) 2 (0 : Int32)) 3 (1 : Int32)) 4 (0 : Int32)) Y V (0 : Int32)) (cwV 1 F.1.2.2.2.2 (gi_V wd_765 wd_767 wd_48 wd_67 wd_768) rfl rfl rfl (by decide +kernel) ⟨Nat.le_of_ble_eq_true rfl, Nat.le_of_ble_eq_true rfl⟩) rfl (Nat.le_of_ble_eq_true rfl) ⟨Nat.zero_le _, Nat.zero_le _⟩ rfl dM_clear_37 ?_
  show aW _ _ _ _ _ _ _ _ _ _ _ _ _ _ _ _ _ _ _ _ _ []
  refine aw_iload_n (pc := 40) (i := 1) (x := (M.1 0)) F dM_clear_40 rfl rfl ?_
  exact aw_iret (pc := 41) F hr hlk dM_clear_41 (by first | rfl | (unfold fm_clear; rfl)) (by first | rfl | (unfold fm_clear; rfl))
def fm_thrown  (T : Int32)  : Int32 :=
  T
set_option maxRecDepth 100000 in
set_option maxHeartbeats 4000000 in
theorem tM_thrown {l : Launch} {D : va_G} {A : Nat → Prop} {ad : Nat → Nat} {tP : Nat} {cI cZ : ClassId} {S : kT} {P : pT} {X : xT} {tl : List va_E} {tyr : List (ClassId × FieldType)} (T : Int32) (M : mT) (Y : yT) (V : vT)   : aw_M l yM_thrown (Cond.code yM_thrown cM_thrown 1 (some .int) :: aw_big) 0 D vwCl ((cI, .int) :: (cZ, .boolean) :: tyr) A ad (zC A tP) [.ref (ad 13)] (hC ad cI S P X ++ (hM ad cI cZ T M Y V ++ tl)) (some (.int (fm_thrown T))) (hC ad cI S P X ++ (hM ad cI cZ T M Y V ++ tl)) := by
  refine aw_met cM_thrown 1 (some .int) [some (.ref (ad 13))] (by decide) rfl (Nat.le_of_ble_eq_true rfl) rfl ?_
  intro p e s m args below meth c F Zs hr hlk
  refine aw_aload_n (pc := 0) (i := 0) (x := ad 13) F dM_thrown_0 rfl rfl ?_
  refine aw_get (pc := 1) (v := .int T) F 13 hM_at13 rfl 0 (by decide) (fun w h => mw (iw_M w h)) (mw wd_649) rfl dM_thrown_1 ?_
  exact aw_iret (pc := 4) F hr hlk dM_thrown_4 (by first | rfl | (unfold fm_thrown; rfl)) rfl
