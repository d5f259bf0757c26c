abbrev kmT : Type := vT → Int32 → Int32 → Int32 → Int32 × vT
def fm_side (K : kmT) (M : mT) (Y : yT) (V : vT) (i : Int32) (st : Int32) (su : Int32) : Int32 × vT :=
  if st = 0 then
    if (fm_has M Y i) = 0 then
      if su = 0 then
        ((fm_outcome (1 : Int32) (-1 : Int32)), V)
      else
        ((fm_outcome (1 : Int32) (0 : Int32)), V)
    else
      (((K V i st su).1), ((K V i st su).2))
  else
    (((K V i st su).1), ((K V i st su).2))
set_option maxRecDepth 100000 in
set_option maxHeartbeats 4000000 in
theorem tM_side {l : Launch} {D : va_G} {A : Nat → Prop} {ad : Nat → Nat} {tP : Nat} {cI cZ : ClassId} {S : kT} {P : pT} {X : xT} {tl : List va_E} {tyr : List (ClassId × FieldType)} {d : Nat} {K : kmT} {Cn : Int32 → Prop} (T : Int32) (M : mT) (Y : yT) (V : vT) (i : Int32) (st : Int32) (su : Int32) (hd : 6 ≤ d) (hw : mW M) (HC : ∀ a, Cn a → mIx M a) (HV : ∀ (V : vT) (a b c : Int32), Cn a → vI V → vI (K V a b c).2) (HK : ∀ (V : vT) (a b c : Int32), Cn a → vI V → aw_M l yM_run (Cond.code yM_run cM_run 4 (some .int) :: aw_big) d D vwCl ((cI, .int) :: (cZ, .boolean) :: tyr) A ad (zC A tP) [.ref (ad 13), .int a, .int b, .int c] (hC ad cI S P X ++ (hM ad cI cZ T M Y V ++ tl)) (some (.int (K V a b c).1)) (hC ad cI S P X ++ (hM ad cI cZ T M Y (K V a b c).2 ++ tl))) (hc1 : Cn i) (hv : vI V) : aw_M l yM_side (Cond.code yM_side cM_side 4 (some .int) :: aw_big) (d + 1) D vwCl ((cI, .int) :: (cZ, .boolean) :: tyr) A ad (zC A tP) [.ref (ad 13), .int i, .int st, .int su] (hC ad cI S P X ++ (hM ad cI cZ T M Y V ++ tl)) (some (.int ((fm_side K M Y V i st su).1))) (hC ad cI S P X ++ (hM ad cI cZ T M Y ((fm_side K M Y V i st su).2) ++ tl)) := by
  refine aw_met cM_side 4 (some .int) [some (.ref (ad 13)), some (.int i), some (.int st), some (.int su)] (by decide) rfl (Nat.le_of_ble_eq_true rfl) rfl ?_
  intro p e s m args below meth c F Zs hr hlk
  refine aw_iload_n (pc := 0) (i := 2) (x := st) F dM_side_0 rfl rfl ?_
  refine aw_if_ne (pc := 1) F 12 dM_side_1 (by decide) (fun c_1 => ?_) (fun c_1 => ?_)
  · skip
    refine aw_aload_n (pc := 12) (i := 0) (x := ad 13) F dM_side_12 rfl rfl ?_
    refine aw_iload_n (pc := 13) (i := 1) (x := i) F dM_side_13 rfl rfl ?_
    refine aw_iload_n (pc := 14) (i := 2) (x := st) F dM_side_14 rfl rfl ?_
    refine aw_iload_n (pc := 15) (i := 3) (x := su) F dM_side_15 rfl rfl ?_
    refine aw_goV (pc := 16) (As := [.int i, .int st, .int su]) (rest := []) F zC_ok Zs 13 hM_at13 rfl (HK V i st su hc1 hv) (cwV 3 F.1.2.2.2.2 (gi_V wd_791 wd_793 wd_51 wd_67 wd_794) rfl rfl rfl (by decide +kernel) ⟨by first | (simp only [aw_rm]; omega) | simp only [aw_rm] | omega, by first | (simp only [aw_rm]; omega) | simp only [aw_rm] | omega⟩) rfl (Nat.le_of_ble_eq_true rfl) ⟨Nat.zero_le _, Nat.zero_le _⟩ rfl dM_side_16 ?_
    show aW _ _ _ _ _ _ _ _ _ _ _ _ _ _ _ _ _ _ _ _ _ [.int ((K V i st su).1)]
    refine aw_goto (pc := 19) F 35 dM_side_19 (by decide) ?_
    exact aw_iret (pc := 35) F hr hlk dM_side_35 (by rw [fm_side, if_neg c_1]) (by rw [fm_side, if_neg c_1])
  · skip
    refine aw_aload_n (pc := 4) (i := 0) (x := ad 13) F dM_side_4 rfl rfl ?_
    refine aw_iload_n (pc := 5) (i := 1) (x := i) F dM_side_5 rfl rfl ?_
    refine aw_goV (pc := 6) (As := [.int i]) (rest := []) F zC_ok Zs 13 hM_at13 rfl (tM_has  T M Y V i hw (HC _ hc1)) (cwV 1 F.1.2.2.2.2 (gi_V wd_806 wd_808 wd_54 wd_67 wd_809) rfl rfl rfl (by decide +kernel) ⟨by first | (simp only [aw_rm]; omega) | simp only [aw_rm] | omega, by first | (simp only [aw_rm]; omega) | simp only [aw_rm] | omega⟩) rfl (Nat.le_of_ble_eq_true rfl) ⟨Nat.zero_le _, Nat.zero_le _⟩ rfl dM_side_6 ?_
    show aW _ _ _ _ _ _ _ _ _ _ _ _ _ _ _ _ _ _ _ _ _ [.int (fm_has M Y i)]
    refine aw_if_eq (pc := 9) F 22 dM_side_9 (by decide) (fun c_9 => ?_) (fun c_9 => ?_)
    · skip
      refine aw_iconst (pc := 22) (v := 1) F dM_side_22 (by decide) ?_
      refine aw_iload_n (pc := 23) (i := 3) (x := su) F dM_side_23 rfl rfl ?_
      refine aw_if_eq (pc := 24) F 31 dM_side_24 (by decide) (fun c_24 => ?_) (fun c_24 => ?_)
      · skip
        refine aw_iconst (pc := 31) (v := -1) F dM_side_31 (by decide) ?_
        refine aw_goS (pc := 32) (As := [.int (1 : Int32), .int (-1 : Int32)]) (rest := []) F zC_ok Zs (tM_outcome  T M Y V (1 : Int32) (-1 : Int32)) (va_cwS 2 F.1.2.2.2.2 (gi_S wd_799 wd_800 wd_67 wd_801) rfl rfl rfl (by decide +kernel) ⟨by first | (simp only [aw_rm]; omega) | simp only [aw_rm] | omega, by first | (simp only [aw_rm]; omega) | simp only [aw_rm] | omega⟩) rfl (Nat.le_of_ble_eq_true rfl) ⟨Nat.zero_le _, Nat.zero_le _⟩ rfl dM_side_32 ?_
        show aW _ _ _ _ _ _ _ _ _ _ _ _ _ _ _ _ _ _ _ _ _ [.int (fm_outcome (1 : Int32) (-1 : Int32))]
        exact aw_iret (pc := 35) F hr hlk dM_side_35 (by rw [fm_side, if_pos c_1, if_pos c_9, if_pos c_24]) (by rw [fm_side, if_pos c_1, if_pos c_9, if_pos c_24])
      · skip
        refine aw_iconst (pc := 27) (v := 0) F dM_side_27 (by decide) ?_
        refine aw_goto (pc := 28) F 32 dM_side_28 (by decide) ?_
        refine aw_goS (pc := 32) (As := [.int (1 : Int32), .int (0 : Int32)]) (rest := []) F zC_ok Zs (tM_outcome  T M Y V (1 : Int32) (0 : Int32)) (va_cwS 2 F.1.2.2.2.2 (gi_S wd_799 wd_800 wd_67 wd_801) rfl rfl rfl (by decide +kernel) ⟨by first | (simp only [aw_rm]; omega) | simp only [aw_rm] | omega, by first | (simp only [aw_rm]; omega) | simp only [aw_rm] | omega⟩) rfl (Nat.le_of_ble_eq_true rfl) ⟨Nat.zero_le _, Nat.zero_le _⟩ rfl dM_side_32 ?_
        show aW _ _ _ _ _ _ _ _ _ _ _ _ _ _ _ _ _ _ _ _ _ [.int (fm_outcome (1 : Int32) (0 : Int32))]
        exact aw_iret (pc := 35) F hr hlk dM_side_35 (by rw [fm_side, if_pos c_1, if_pos c_9, if_neg c_24]) (by rw [fm_side, if_pos c_1, if_pos c_9, if_neg c_24])
    · skip
      refine aw_aload_n (pc := 12) (i := 0) (x := ad 13) F dM_side_12 rfl rfl ?_
      refine aw_iload_n (pc := 13) (i := 1) (x := i) F dM_side_13 rfl rfl ?_
      refine aw_iload_n (pc := 14) (i := 2) (x := st) F dM_side_14 rfl rfl ?_
      refine aw_iload_n (pc := 15) (i := 3) (x := su) F dM_side_15 rfl rfl ?_
      refine aw_goV (pc := 16) (As := [.int i, .int st, .int su]) (rest := []) F zC_ok Zs 13 hM_at13 rfl (HK V i st su hc1 hv) (cwV 3 F.1.2.2.2.2 (gi_V wd_791 wd_793 wd_51 wd_67 wd_794) rfl rfl rfl (by decide +kernel) ⟨by first | (simp only [aw_rm]; omega) | simp only [aw_rm] | omega, by first | (simp only [aw_rm]; omega) | simp only [aw_rm] | omega⟩) rfl (Nat.le_of_ble_eq_true rfl) ⟨Nat.zero_le _, Nat.zero_le _⟩ rfl dM_side_16 ?_
      show aW _ _ _ _ _ _ _ _ _ _ _ _ _ _ _ _ _ _ _ _ _ [.int ((K V i st su).1)]
      refine aw_goto (pc := 19) F 35 dM_side_19 (by decide) ?_
      exact aw_iret (pc := 35) F hr hlk dM_side_35 (by rw [fm_side, if_pos c_1, if_neg c_9]) (by rw [fm_side, if_pos c_1, if_neg c_9])
def fm_present (K : kmT) (M : mT) (Y : yT) (V : vT) (i : Int32) (st : Int32) (su : Int32) : Int32 × vT :=
  if st = 0 then
    if (fm_has M Y ((M.2 2) i.toNatClampNeg)) = 0 then
      (((K V ((M.2 3) i.toNatClampNeg) (0 : Int32) su).1), ((K V ((M.2 3) i.toNatClampNeg) (0 : Int32) su).2))
    else
      (((K V ((M.2 2) i.toNatClampNeg) (0 : Int32) su).1), ((K V ((M.2 2) i.toNatClampNeg) (0 : Int32) su).2))
  else
    if (fm_test Y V ((M.2 1) i.toNatClampNeg)) = (2 : Int32) then
      ((fm_outcome ((fm_canOf ((K V ((M.2 2) i.toNatClampNeg) (1 : Int32) (0 : Int32)).1)) ||| (fm_canOf ((K ((K V ((M.2 2) i.toNatClampNeg) (1 : Int32) (0 : Int32)).2) ((M.2 3) i.toNatClampNeg) (1 : Int32) (0 : Int32)).1))) (-1 : Int32)), ((K ((K V ((M.2 2) i.toNatClampNeg) (1 : Int32) (0 : Int32)).2) ((M.2 3) i.toNatClampNeg) (1 : Int32) (0 : Int32)).2))
    else
      if (fm_test Y V ((M.2 1) i.toNatClampNeg)) = (1 : Int32) then
        (((K V ((M.2 2) i.toNatClampNeg) (1 : Int32) su).1), ((K V ((M.2 2) i.toNatClampNeg) (1 : Int32) su).2))
      else
        (((K V ((M.2 3) i.toNatClampNeg) (1 : Int32) su).1), ((K V ((M.2 3) i.toNatClampNeg) (1 : Int32) su).2))
set_option maxRecDepth 100000 in
set_option maxHeartbeats 4000000 in
theorem tM_present {l : Launch} {D : va_G} {A : Nat → Prop} {ad : Nat → Nat} {tP : Nat} {cI cZ : ClassId} {S : kT} {P : pT} {X : xT} {tl : List va_E} {tyr : List (ClassId × FieldType)} {d : Nat} {K : kmT} {Cn : Int32 → Prop} (T : Int32) (M : mT) (Y : yT) (V : vT) (i : Int32) (st : Int32) (su : Int32) (hd : 6 ≤ d) (hw : mW M) (HC : ∀ a, Cn a → mIx M a) (HV : ∀ (V : vT) (a b c : Int32), Cn a → vI V → vI (K V a b c).2) (HK : ∀ (V : vT) (a b c : Int32), Cn a → vI V → aw_M l yM_run (Cond.code yM_run cM_run 4 (some .int) :: aw_big) d D vwCl ((cI, .int) :: (cZ, .boolean) :: tyr) A ad (zC A tP) [.ref (ad 13), .int a, .int b, .int c] (hC ad cI S P X ++ (hM ad cI cZ T M Y V ++ tl)) (some (.int (K V a b c).1)) (hC ad cI S P X ++ (hM ad cI cZ T M Y (K V a b c).2 ++ tl))) (hi : mIx M i) (hc1 : Cn ((M.2 2) i.toNatClampNeg)) (hc2 : Cn ((M.2 3) i.toNatClampNeg)) (ht : -16 ≤ ((M.2 1) i.toNatClampNeg).toInt ∧ ((M.2 1) i.toNatClampNeg).toInt < 16) (hv : vI V) : aw_M l yM_present (Cond.code yM_present cM_present 7 (some .int) :: aw_big) (d + 1) D vwCl ((cI, .int) :: (cZ, .boolean) :: tyr) A ad (zC A tP) [.ref (ad 13), .int i, .int st, .int su] (hC ad cI S P X ++ (hM ad cI cZ T M Y V ++ tl)) (some (.int ((fm_present K M Y V i st su).1))) (hC ad cI S P X ++ (hM ad cI cZ T M Y ((fm_present K M Y V i st su).2) ++ tl)) := by
  refine aw_met cM_present 7 (some .int) [some (.ref (ad 13)), some (.int i), some (.int st), some (.int su), none, none, none] (by decide) rfl (Nat.le_of_ble_eq_true rfl) rfl ?_
  intro p e s m args below meth c F Zs hr hlk
  refine aw_iload_n (pc := 0) (i := 2) (x := st) F dM_present_0 rfl rfl ?_
  refine aw_if_ne (pc := 1) F 39 dM_present_1 (by decide) (fun c_1 => ?_) (fun c_1 => ?_)
  · skip
    refine aw_aload_n (pc := 39) (i := 0) (x := ad 13) F dM_present_39 rfl rfl ?_
    refine aw_aload_n (pc := 40) (i := 0) (x := ad 13) F dM_present_40 rfl rfl ?_
    refine aw_get (pc := 41) (v := .ref (ad 15)) F 13 hM_at13 rfl 6 (by decide) (fun w h => mw (iw_M w h)) (mw wd_655) rfl dM_present_41 ?_
    refine aw_iload_n (pc := 44) (i := 1) (x := i) F dM_present_44 rfl rfl ?_
    refine aw_iald (pc := 45) F 15 0 hM_at15 rfl (ix_in hw hi) dM_present_45 ?_
    refine aw_goV (pc := 46) (As := [.int ((M.2 1) i.toNatClampNeg)]) (rest := []) F zC_ok Zs 13 hM_at13 rfl (tM_test  T M Y V ((M.2 1) i.toNatClampNeg) hv ht) (cwV 1 F.1.2.2.2.2 (gi_V wd_810 wd_812 wd_55 wd_67 wd_813) rfl rfl rfl (by decide +kernel) ⟨by first | (simp only [aw_rm]; omega) | simp only [aw_rm] | omega, by first | (simp only [aw_rm]; omega) | simp only [aw_rm] | omega⟩) rfl (Nat.le_of_ble_eq_true rfl) ⟨Nat.zero_le _, Nat.zero_le _⟩ rfl dM_present_46 ?_
    show aW _ _ _ _ _ _ _ _ _ _ _ _ _ _ _ _ _ _ _ _ _ [.int (fm_test Y V ((M.2 1) i.toNatClampNeg))]
    refine aw_istore (pc := 49) (i := 4) (L' := [some (.ref (ad 13)), some (.int i), some (.int st), some (.int su), some (.int (fm_test Y V ((M.2 1) i.toNatClampNeg))), none, none]) F dM_present_49 (by decide) rfl ?_
    refine aw_iload (pc := 51) (i := 4) (x := (fm_test Y V ((M.2 1) i.toNatClampNeg))) F dM_present_51 rfl ?_
    refine aw_iconst (pc := 53) (v := 2) F dM_present_53 (by decide) ?_
    refine aw_icmp_eq (pc := 54) F 85 dM_present_54 (by decide) (fun c_54 => ?_) (fun c_54 => ?_)
    · skip
      refine aw_aload_n (pc := 85) (i := 0) (x := ad 13) F dM_present_85 rfl rfl ?_
      refine aw_aload_n (pc := 86) (i := 0) (x := ad 13) F dM_present_86 rfl rfl ?_
      refine aw_get (pc := 87) (v := .ref (ad 16)) F 13 hM_at13 rfl 7 (by decide) (fun w h => mw (iw_M w h)) (mw wd_656) rfl dM_present_87 ?_
      refine aw_iload_n (pc := 90) (i := 1) (x := i) F dM_present_90 rfl rfl ?_
      refine aw_iald (pc := 91) F 16 0 hM_at16 rfl (ix_in hw hi) dM_present_91 ?_
      refine aw_iconst (pc := 92) (v := 1) F dM_present_92 (by decide) ?_
      refine aw_iconst (pc := 93) (v := 0) F dM_present_93 (by decide) ?_
      refine aw_goV (pc := 94) (As := [.int ((M.2 2) i.toNatClampNeg), .int (1 : Int32), .int (0 : Int32)]) (rest := []) F zC_ok Zs 13 hM_at13 rfl (HK V ((M.2 2) i.toNatClampNeg) (1 : Int32) (0 : Int32) hc1 hv) (cwV 3 F.1.2.2.2.2 (gi_V wd_791 wd_793 wd_51 wd_67 wd_794) rfl rfl rfl (by decide +kernel) ⟨by first | (simp only [aw_rm]; omega) | simp only [aw_rm] | omega, by first | (simp only [aw_rm]; omega) | simp only [aw_rm] | omega⟩) rfl (Nat.le_of_ble_eq_true rfl) ⟨Nat.zero_le _, Nat.zero_le _⟩ rfl dM_present_94 ?_
      show aW _ _ _ _ _ _ _ _ _ _ _ _ _ _ _ _ _ _ _ _ _ [.int ((K V ((M.2 2) i.toNatClampNeg) (1 : Int32) (0 : Int32)).1)]
      refine aw_istore (pc := 97) (i := 5) (L' := [some (.ref (ad 13)), some (.int i), some (.int st), some (.int su), some (.int (fm_test Y V ((M.2 1) i.toNatClampNeg))), some (.int ((K V ((M.2 2) i.toNatClampNeg) (1 : Int32) (0 : Int32)).1)), none]) F dM_present_97 (by decide) rfl ?_
      refine aw_aload_n (pc := 99) (i := 0) (x := ad 13) F dM_present_99 rfl rfl ?_
      refine aw_aload_n (pc := 100) (i := 0) (x := ad 13) F dM_present_100 rfl rfl ?_
      refine aw_get (pc := 101) (v := .ref (ad 17)) F 13 hM_at13 rfl 8 (by decide) (fun w h => mw (iw_M w h)) (mw wd_657) rfl dM_present_101 ?_
      refine aw_iload_n (pc := 104) (i := 1) (x := i) F dM_present_104 rfl rfl ?_
      refine aw_iald (pc := 105) F 17 0 hM_at17 rfl (ix_in hw hi) dM_present_105 ?_
      refine aw_iconst (pc := 106) (v := 1) F dM_present_106 (by decide) ?_
      refine aw_iconst (pc := 107) (v := 0) F dM_present_107 (by decide) ?_
      refine aw_goV (pc := 108) (As := [.int ((M.2 3) i.toNatClampNeg), .int (1 : Int32), .int (0 : Int32)]) (rest := []) F zC_ok Zs 13 hM_at13 rfl (HK ((K V ((M.2 2) i.toNatClampNeg) (1 : Int32) (0 : Int32)).2) ((M.2 3) i.toNatClampNeg) (1 : Int32) (0 : Int32) hc2 (HV _ _ _ _ hc1 hv)) (cwV 3 F.1.2.2.2.2 (gi_V wd_791 wd_793 wd_51 wd_67 wd_794) rfl rfl rfl (by decide +kernel) ⟨by first | (simp only [aw_rm]; omega) | simp only [aw_rm] | omega, by first | (simp only [aw_rm]; omega) | simp only [aw_rm] | omega⟩) rfl (Nat.le_of_ble_eq_true rfl) ⟨Nat.zero_le _, Nat.zero_le _⟩ rfl dM_present_108 ?_
      show aW _ _ _ _ _ _ _ _ _ _ _ _ _ _ _ _ _ _ _ _ _ [.int ((K ((K V ((M.2 2) i.toNatClampNeg) (1 : Int32) (0 : Int32)).2) ((M.2 3) i.toNatClampNeg) (1 : Int32) (0 : Int32)).1)]
      refine aw_istore (pc := 111) (i := 6) (L' := [some (.ref (ad 13)), some (.int i), some (.int st), some (.int su), some (.int (fm_test Y V ((M.2 1) i.toNatClampNeg))), some (.int ((K V ((M.2 2) i.toNatClampNeg) (1 : Int32) (0 : Int32)).1)), some (.int ((K ((K V ((M.2 2) i.toNatClampNeg) (1 : Int32) (0 : Int32)).2) ((M.2 3) i.toNatClampNeg) (1 : Int32) (0 : Int32)).1))]) F dM_present_111 (by decide) rfl ?_
      refine aw_iload (pc := 113) (i := 5) (x := ((K V ((M.2 2) i.toNatClampNeg) (1 : Int32) (0 : Int32)).1)) F dM_present_113 rfl ?_
      refine aw_goS (pc := 115) (As := [.int ((K V ((M.2 2) i.toNatClampNeg) (1 : Int32) (0 : Int32)).1)]) (rest := []) F zC_ok Zs (tM_canOf  T M Y ((K ((K V ((M.2 2) i.toNatClampNeg) (1 : Int32) (0 : Int32)).2) ((M.2 3) i.toNatClampNeg) (1 : Int32) (0 : Int32)).2) ((K V ((M.2 2) i.toNatClampNeg) (1 : Int32) (0 : Int32)).1)) (va_cwS 1 F.1.2.2.2.2 (gi_S wd_814 wd_815 wd_67 wd_816) rfl rfl rfl (by decide +kernel) ⟨by first | (simp only [aw_rm]; omega) | simp only [aw_rm] | omega, by first | (simp only [aw_rm]; omega) | simp only [aw_rm] | omega⟩) rfl (Nat.le_of_ble_eq_true rfl) ⟨Nat.zero_le _, Nat.zero_le _⟩ rfl dM_present_115 ?_
      show aW _ _ _ _ _ _ _ _ _ _ _ _ _ _ _ _ _ _ _ _ _ [.int (fm_canOf ((K V ((M.2 2) i.toNatClampNeg) (1 : Int32) (0 : Int32)).1))]
      refine aw_iload (pc := 118) (i := 6) (x := ((K ((K V ((M.2 2) i.toNatClampNeg) (1 : Int32) (0 : Int32)).2) ((M.2 3) i.toNatClampNeg) (1 : Int32) (0 : Int32)).1)) F dM_present_118 rfl ?_
      refine aw_goS (pc := 120) (As := [.int ((K ((K V ((M.2 2) i.toNatClampNeg) (1 : Int32) (0 : Int32)).2) ((M.2 3) i.toNatClampNeg) (1 : Int32) (0 : Int32)).1)]) (rest := [.int (fm_canOf ((K V ((M.2 2) i.toNatClampNeg) (1 : Int32) (0 : Int32)).1))]) F zC_ok Zs (tM_canOf  T M Y ((K ((K V ((M.2 2) i.toNatClampNeg) (1 : Int32) (0 : Int32)).2) ((M.2 3) i.toNatClampNeg) (1 : Int32) (0 : Int32)).2) ((K ((K V ((M.2 2) i.toNatClampNeg) (1 : Int32) (0 : Int32)).2) ((M.2 3) i.toNatClampNeg) (1 : Int32) (0 : Int32)).1)) (va_cwS 1 F.1.2.2.2.2 (gi_S wd_814 wd_815 wd_67 wd_816) rfl rfl rfl (by decide +kernel) ⟨by first | (simp only [aw_rm]; omega) | simp only [aw_rm] | omega, by first | (simp only [aw_rm]; omega) | simp only [aw_rm] | omega⟩) rfl (Nat.le_of_ble_eq_true rfl) ⟨Nat.zero_le _, Nat.zero_le _⟩ rfl dM_present_120 ?_
      show aW _ _ _ _ _ _ _ _ _ _ _ _ _ _ _ _ _ _ _ _ _ [.int (fm_canOf ((K ((K V ((M.2 2) i.toNatClampNeg) (1 : Int32) (0 : Int32)).2) ((M.2 3) i.toNatClampNeg) (1 : Int32) (0 : Int32)).1)), .int (fm_canOf ((K V ((M.2 2) i.toNatClampNeg) (1 : Int32) (0 : Int32)).1))]
      refine aw_ior (pc := 123) F dM_present_123 ?_
      refine aw_iconst (pc := 124) (v := -1) F dM_present_124 (by decide) ?_
      refine aw_goS (pc := 125) (As := [.int ((fm_canOf ((K V ((M.2 2) i.toNatClampNeg) (1 : Int32) (0 : Int32)).1)) ||| (fm_canOf ((K ((K V ((M.2 2) i.toNatClampNeg) (1 : Int32) (0 : Int32)).2) ((M.2 3) i.toNatClampNeg) (1 : Int32) (0 : Int32)).1))), .int (-1 : Int32)]) (rest := []) F zC_ok Zs (tM_outcome  T M Y ((K ((K V ((M.2 2) i.toNatClampNeg) (1 : Int32) (0 : Int32)).2) ((M.2 3) i.toNatClampNeg) (1 : Int32) (0 : Int32)).2) ((fm_canOf ((K V ((M.2 2) i.toNatClampNeg) (1 : Int32) (0 : Int32)).1)) ||| (fm_canOf ((K ((K V ((M.2 2) i.toNatClampNeg) (1 : Int32) (0 : Int32)).2) ((M.2 3) i.toNatClampNeg) (1 : Int32) (0 : Int32)).1))) (-1 : Int32)) (va_cwS 2 F.1.2.2.2.2 (gi_S wd_799 wd_800 wd_67 wd_801) rfl rfl rfl (by decide +kernel) ⟨by first | (simp only [aw_rm]; omega) | simp only [aw_rm] | omega, by first | (simp only [aw_rm]; omega) | simp only [aw_rm] | omega⟩) rfl (Nat.le_of_ble_eq_true rfl) ⟨Nat.zero_le _, Nat.zero_le _⟩ rfl dM_present_125 ?_
      show aW _ _ _ _ _ _ _ _ _ _ _ _ _ _ _ _ _ _ _ _ _ [.int (fm_outcome ((fm_canOf ((K V ((M.2 2) i.toNatClampNeg) (1 : Int32) (0 : Int32)).1)) ||| (fm_canOf ((K ((K V ((M.2 2) i.toNatClampNeg) (1 : Int32) (0 : Int32)).2) ((M.2 3) i.toNatClampNeg) (1 : Int32) (0 : Int32)).1))) (-1 : Int32))]
      exact aw_iret (pc := 128) F hr hlk dM_present_128 (by rw [fm_present, if_neg c_1, if_pos c_54]) (by rw [fm_present, if_neg c_1, if_pos c_54])
    · skip
      refine aw_aload_n (pc := 57) (i := 0) (x := ad 13) F dM_present_57 rfl rfl ?_
      refine aw_iload (pc := 58) (i := 4) (x := (fm_test Y V ((M.2 1) i.toNatClampNeg))) F dM_present_58 rfl ?_
      refine aw_iconst (pc := 60) (v := 1) F dM_present_60 (by decide) ?_
      refine aw_icmp_ne (pc := 61) F 73 dM_present_61 (by decide) (fun c_61 => ?_) (fun c_61 => ?_)
      · skip
        refine aw_aload_n (pc := 73) (i := 0) (x := ad 13) F dM_present_73 rfl rfl ?_
        refine aw_get (pc := 74) (v := .ref (ad 17)) F 13 hM_at13 rfl 8 (by decide) (fun w h => mw (iw_M w h)) (mw wd_657) rfl dM_present_74 ?_
        refine aw_iload_n (pc := 77) (i := 1) (x := i) F dM_present_77 rfl rfl ?_
        refine aw_iald (pc := 78) F 17 0 hM_at17 rfl (ix_in hw hi) dM_present_78 ?_
        refine aw_iconst (pc := 79) (v := 1) F dM_present_79 (by decide) ?_
        refine aw_iload_n (pc := 80) (i := 3) (x := su) F dM_present_80 rfl rfl ?_
        refine aw_goV (pc := 81) (As := [.int ((M.2 3) i.toNatClampNeg), .int (1 : Int32), .int su]) (rest := []) F zC_ok Zs 13 hM_at13 rfl (HK V ((M.2 3) i.toNatClampNeg) (1 : Int32) su hc2 hv) (cwV 3 F.1.2.2.2.2 (gi_V wd_791 wd_793 wd_51 wd_67 wd_794) rfl rfl rfl (by decide +kernel) ⟨by first | (simp only [aw_rm]; omega) | simp only [aw_rm] | omega, by first | (simp only [aw_rm]; omega) | simp only [aw_rm] | omega⟩) rfl (Nat.le_of_ble_eq_true rfl) ⟨Nat.zero_le _, Nat.zero_le _⟩ rfl dM_present_81 ?_
        show aW _ _ _ _ _ _ _ _ _ _ _ _ _ _ _ _ _ _ _ _ _ [.int ((K V ((M.2 3) i.toNatClampNeg) (1 : Int32) su).1)]
        exact aw_iret (pc := 84) F hr hlk dM_present_84 (by rw [fm_present, if_neg c_1, if_neg c_54, if_neg c_61]) (by rw [fm_present, if_neg c_1, if_neg c_54, if_neg c_61])
      · skip
        refine aw_aload_n (pc := 64) (i := 0) (x := ad 13) F dM_present_64 rfl rfl ?_
        refine aw_get (pc := 65) (v := .ref (ad 16)) F 13 hM_at13 rfl 7 (by decide) (fun w h => mw (iw_M w h)) (mw wd_656) rfl dM_present_65 ?_
        refine aw_iload_n (pc := 68) (i := 1) (x := i) F dM_present_68 rfl rfl ?_
        refine aw_iald (pc := 69) F 16 0 hM_at16 rfl (ix_in hw hi) dM_present_69 ?_
        refine aw_goto (pc := 70) F 79 dM_present_70 (by decide) ?_
        refine aw_iconst (pc := 79) (v := 1) F dM_present_79 (by decide) ?_
        refine aw_iload_n (pc := 80) (i := 3) (x := su) F dM_present_80 rfl rfl ?_
        refine aw_goV (pc := 81) (As := [.int ((M.2 2) i.toNatClampNeg), .int (1 : Int32), .int su]) (rest := []) F zC_ok Zs 13 hM_at13 rfl (HK V ((M.2 2) i.toNatClampNeg) (1 : Int32) su hc1 hv) (cwV 3 F.1.2.2.2.2 (gi_V wd_791 wd_793 wd_51 wd_67 wd_794) rfl rfl rfl (by decide +kernel) ⟨by first | (simp only [aw_rm]; omega) | simp only [aw_rm] | omega, by first | (simp only [aw_rm]; omega) | simp only [aw_rm] | omega⟩) rfl (Nat.le_of_ble_eq_true rfl) ⟨Nat.zero_le _, Nat.zero_le _⟩ rfl dM_present_81 ?_
        show aW _ _ _ _ _ _ _ _ _ _ _ _ _ _ _ _ _ _ _ _ _ [.int ((K V ((M.2 2) i.toNatClampNeg) (1 : Int32) su).1)]
        exact aw_iret (pc := 84) F hr hlk dM_present_84 (by rw [fm_present, if_neg c_1, if_neg c_54, if_pos c_61]) (by rw [fm_present, if_neg c_1, if_neg c_54, if_pos c_61])
  · skip
    refine aw_aload_n (pc := 4) (i := 0) (x := ad 13) F dM_present_4 rfl rfl ?_
    refine aw_aload_n (pc := 5) (i := 0) (x := ad 13) F dM_present_5 rfl rfl ?_
    refine aw_aload_n (pc := 6) (i := 0) (x := ad 13) F dM_present_6 rfl rfl ?_
    refine aw_get (pc := 7) (v := .ref (ad 16)) F 13 hM_at13 rfl 7 (by decide) (fun w h => mw (iw_M w h)) (mw wd_656) rfl dM_present_7 ?_
    refine aw_iload_n (pc := 10) (i := 1) (x := i) F dM_present_10 rfl rfl ?_
    refine aw_iald (pc := 11) F 16 0 hM_at16 rfl (ix_in hw hi) dM_present_11 ?_
    refine aw_goV (pc := 12) (As := [.int ((M.2 2) i.toNatClampNeg)]) (rest := [.ref (ad 13)]) F zC_ok Zs 13 hM_at13 rfl (tM_has  T M Y V ((M.2 2) i.toNatClampNeg) hw (HC _ hc1)) (cwV 1 F.1.2.2.2.2 (gi_V wd_806 wd_808 wd_54 wd_67 wd_809) rfl rfl rfl (by decide +kernel) ⟨by first | (simp only [aw_rm]; omega) | simp only [aw_rm] | omega, by first | (simp only [aw_rm]; omega) | simp only [aw_rm] | omega⟩) rfl (Nat.le_of_ble_eq_true rfl) ⟨Nat.zero_le _, Nat.zero_le _⟩ rfl dM_present_12 ?_
    show aW _ _ _ _ _ _ _ _ _ _ _ _ _ _ _ _ _ _ _ _ _ [.int (fm_has M Y ((M.2 2) i.toNatClampNeg)), .ref (ad 13)]
    refine aw_if_eq (pc := 15) F 27 dM_present_15 (by decide) (fun c_15 => ?_) (fun c_15 => ?_)
    · skip
      refine aw_aload_n (pc := 27) (i := 0) (x := ad 13) F dM_present_27 rfl rfl ?_
      refine aw_get (pc := 28) (v := .ref (ad 17)) F 13 hM_at13 rfl 8 (by decide) (fun w h => mw (iw_M w h)) (mw wd_657) rfl dM_present_28 ?_
      refine aw_iload_n (pc := 31) (i := 1) (x := i) F dM_present_31 rfl rfl ?_
      refine aw_iald (pc := 32) F 17 0 hM_at17 rfl (ix_in hw hi) dM_present_32 ?_
      refine aw_iconst (pc := 33) (v := 0) F dM_present_33 (by decide) ?_
      refine aw_iload_n (pc := 34) (i := 3) (x := su) F dM_present_34 rfl rfl ?_
      refine aw_goV (pc := 35) (As := [.int ((M.2 3) i.toNatClampNeg), .int (0 : Int32), .int su]) (rest := []) F zC_ok Zs 13 hM_at13 rfl (HK V ((M.2 3) i.toNatClampNeg) (0 : Int32) su hc2 hv) (cwV 3 F.1.2.2.2.2 (gi_V wd_791 wd_793 wd_51 wd_67 wd_794) rfl rfl rfl (by decide +kernel) ⟨by first | (simp only [aw_rm]; omega) | simp only [aw_rm] | omega, by first | (simp only [aw_rm]; omega) | simp only [aw_rm] | omega⟩) rfl (Nat.le_of_ble_eq_true rfl) ⟨Nat.zero_le _, Nat.zero_le _⟩ rfl dM_present_35 ?_
      show aW _ _ _ _ _ _ _ _ _ _ _ _ _ _ _ _ _ _ _ _ _ [.int ((K V ((M.2 3) i.toNatClampNeg) (0 : Int32) su).1)]
      exact aw_iret (pc := 38) F hr hlk dM_present_38 (by rw [fm_present, if_pos c_1, if_pos c_15]) (by rw [fm_present, if_pos c_1, if_pos c_15])
    · skip
      refine aw_aload_n (pc := 18) (i := 0) (x := ad 13) F dM_present_18 rfl rfl ?_
      refine aw_get (pc := 19) (v := .ref (ad 16)) F 13 hM_at13 rfl 7 (by decide) (fun w h => mw (iw_M w h)) (mw wd_656) rfl dM_present_19 ?_
      refine aw_iload_n (pc := 22) (i := 1) (x := i) F dM_present_22 rfl rfl ?_
      refine aw_iald (pc := 23) F 16 0 hM_at16 rfl (ix_in hw hi) dM_present_23 ?_
      refine aw_goto (pc := 24) F 33 dM_present_24 (by decide) ?_
      refine aw_iconst (pc := 33) (v := 0) F dM_present_33 (by decide) ?_
      refine aw_iload_n (pc := 34) (i := 3) (x := su) F dM_present_34 rfl rfl ?_
      refine aw_goV (pc := 35) (As := [.int ((M.2 2) i.toNatClampNeg), .int (0 : Int32), .int su]) (rest := []) F zC_ok Zs 13 hM_at13 rfl (HK V ((M.2 2) i.toNatClampNeg) (0 : Int32) su hc1 hv) (cwV 3 F.1.2.2.2.2 (gi_V wd_791 wd_793 wd_51 wd_67 wd_794) rfl rfl rfl (by decide +kernel) ⟨by first | (simp only [aw_rm]; omega) | simp only [aw_rm] | omega, by first | (simp only [aw_rm]; omega) | simp only [aw_rm] | omega⟩) rfl (Nat.le_of_ble_eq_true rfl) ⟨Nat.zero_le _, Nat.zero_le _⟩ rfl dM_present_35 ?_
      show aW _ _ _ _ _ _ _ _ _ _ _ _ _ _ _ _ _ _ _ _ _ [.int ((K V ((M.2 2) i.toNatClampNeg) (0 : Int32) su).1)]
      exact aw_iret (pc := 38) F hr hlk dM_present_38 (by rw [fm_present, if_pos c_1, if_neg c_15]) (by rw [fm_present, if_pos c_1, if_neg c_15])
def fm_susT (M : mT) (Y : yT) (V : vT) (i : Int32) (st : Int32) (su : Int32) : Int32 :=
  if st = 0 then (fm_test Y V ((M.2 1) i.toNatClampNeg)) else (0 : Int32)
set_option maxRecDepth 100000 in
set_option maxHeartbeats 4000000 in
theorem tM_suspend_X0 {l : Launch} {D : va_G} {A : Nat → Prop} {ad : Nat → Nat} {tP : Nat} {cI cZ : ClassId} {S : kT} {P : pT} {X : xT} {tl : List va_E} {tyr : List (ClassId × FieldType)} {d : Nat} {p : Program} {e : Env} {s : State} {m : MethodId} {args : Array Value} {below : List Frame} {meth : Method} {c : Code} {Q : State → Prop} (F : aw_F p s m c args cM_suspend 6 (Cond.code yM_suspend cM_suspend 6 (some .int) :: aw_big) yM_suspend.cls D vwCl ((cI, .int) :: (cZ, .boolean) :: tyr)) (Zs : zC A tP s) :
    ∀ (T : Int32) (M : mT) (Y : yT) (V : vT) (i : Int32) (st : Int32) (su : Int32)  (hd : 6 ≤ d) (hw : mW M) (hi : mIx M i) (ht : -16 ≤ ((M.2 1) i.toNatClampNeg).toInt ∧ ((M.2 1) i.toNatClampNeg).toInt < 16) (hv : vI V), aW p l e (aw_rm (d + 1)) s m args below meth c 0 0 Q D vwCl A ad 6 (hC ad cI S P X ++ (hM ad cI cZ T M Y V ++ tl)) [some (.ref (ad 13)), some (.int i), some (.int st), some (.int su), some (.int (fm_susT M Y V i st su)), none] 20 [] → aW p l e (aw_rm (d + 1)) s m args below meth c 0 0 Q D vwCl A ad 6 (hC ad cI S P X ++ (hM ad cI cZ T M Y V ++ tl)) [some (.ref (ad 13)), some (.int i), some (.int st), some (.int su), none, none] 0 [] := by
  intro T M Y V i st su hd hw hi ht hv kq
  refine aw_iload_n (pc := 0) (i := 2) (x := st) F dM_suspend_0 rfl rfl ?_
  refine aw_if_eq (pc := 1) F 8 dM_suspend_1 (by decide) (fun c_1 => ?_) (fun c_1 => ?_)
  · skip
    refine aw_aload_n (pc := 8) (i := 0) (x := ad 13) F dM_suspend_8 rfl rfl ?_
    refine aw_aload_n (pc := 9) (i := 0) (x := ad 13) F dM_suspend_9 rfl rfl ?_
    refine aw_get (pc := 10) (v := .ref (ad 15)) F 13 hM_at13 rfl 6 (by decide) (fun w h => mw (iw_M w h)) (mw wd_655) rfl dM_suspend_10 ?_
    refine aw_iload_n (pc := 13) (i := 1) (x := i) F dM_suspend_13 rfl rfl ?_
    refine aw_iald (pc := 14) F 15 0 hM_at15 rfl (ix_in hw hi) dM_suspend_14 ?_
    refine aw_goV (pc := 15) (As := [.int ((M.2 1) i.toNatClampNeg)]) (rest := []) F zC_ok Zs 13 hM_at13 rfl (tM_test  T M Y V ((M.2 1) i.toNatClampNeg) hv ht) (cwV 1 F.1.2.2.2.2 (gi_V wd_810 wd_812 wd_55 wd_67 wd_813) rfl rfl rfl (by decide +kernel) ⟨by first | (simp only [aw_rm]; omega) | simp only [aw_rm] | omega, by first | (simp only [aw_rm]; omega) | simp only [aw_rm] | omega⟩) rfl (Nat.le_of_ble_eq_true rfl) ⟨Nat.zero_le _, Nat.zero_le _⟩ rfl dM_suspend_15 ?_
    show aW _ _ _ _ _ _ _ _ _ _ _ _ _ _ _ _ _ _ _ _ _ [.int (fm_test Y V ((M.2 1) i.toNatClampNeg))]
    refine aw_istore (pc := 18) (i := 4) (L' := [some (.ref (ad 13)), some (.int i), some (.int st), some (.int su), some (.int (fm_test Y V ((M.2 1) i.toNatClampNeg))), none]) F dM_suspend_18 (by decide) rfl ?_
    rw [show (fm_susT M Y V i st su) = (fm_test Y V ((M.2 1) i.toNatClampNeg)) from by rw [fm_susT, if_pos c_1]] at kq
    exact kq
  · skip
    refine aw_iconst (pc := 4) (v := 0) F dM_suspend_4 (by decide) ?_
    refine aw_goto (pc := 5) F 18 dM_suspend_5 (by decide) ?_
    refine aw_istore (pc := 18) (i := 4) (L' := [some (.ref (ad 13)), some (.int i), some (.int st), some (.int su), some (.int (0 : Int32)), none]) F dM_suspend_18 (by decide) rfl ?_
    rw [show (fm_susT M Y V i st su) = (0 : Int32) from by rw [fm_susT, if_neg c_1]] at kq
    exact kq
def fm_susL : Nat → mT → yT → vT → Int32 → Int32 → Int32 → Int32 × vT
  | 0, M, Y, V, i, su, k => (k, V)
  | n + 1, M, Y, V, i, su, k =>
      if ((M.2 4) i.toNatClampNeg) ≤ k then
      (k, V)
    else
      if su = 0 then
        (k, V)
      else
        if ((M.2 8) k.toNatClampNeg) = (-1 : Int32) then
          (fm_susL n M Y V i su (k + (1 : Int32)))
        else
          (fm_susL n M Y (v2w V 0 ((M.2 8) k.toNatClampNeg).toNatClampNeg (vp_nar .boolean ((Y.2 0) ((M.2 8) k.toNatClampNeg).toNatClampNeg))) i su (k + (1 : Int32)))
set_option maxRecDepth 100000 in
set_option maxHeartbeats 4000000 in
theorem tM_suspend_X69 {l : Launch} {D : va_G} {A : Nat → Prop} {ad : Nat → Nat} {tP : Nat} {cI cZ : ClassId} {S : kT} {P : pT} {X : xT} {tl : List va_E} {tyr : List (ClassId × FieldType)} {p : Program} {e : Env} {R : Room} {s : State} {m : MethodId} {args : Array Value} {below : List Frame} {meth : Method} {c : Code} {Q : State → Prop} (F : aw_F p s m c args cM_suspend 6 (Cond.code yM_suspend cM_suspend 6 (some .int) :: aw_big) yM_suspend.cls D vwCl ((cI, .int) :: (cZ, .boolean) :: tyr)) (Zs : zC A tP s) :
    ∀ (n : Nat) (T : Int32) (M : mT) (Y : yT) (V : vT) (i : Int32) (su : Int32) (k : Int32) (hw : mW M) (hi : mIx M i) (h1 : 0 ≤ k.toInt) (h2 : k.toInt ≤ 120) (hm : 120 < k.toInt + n), aW p l e R s m args below meth c 0 0 Q D vwCl A ad 6 (hC ad cI S P X ++ (hM ad cI cZ T M Y ((fm_susL n M Y V i su k).2) ++ tl)) [some (.ref (ad 13)), some (.int i), none, some (.int su), none, some (.int ((fm_susL n M Y V i su k).1))] 125 [] → aW p l e R s m args below meth c 0 0 Q D vwCl A ad 6 (hC ad cI S P X ++ (hM ad cI cZ T M Y V ++ tl)) [some (.ref (ad 13)), some (.int i), none, some (.int su), none, some (.int k)] 69 [] := by
  intro n
  induction n with
  | zero =>
    intro T M Y V i su k hw hi h1 h2 hm kq
    exfalso; omega
  | succ n ih =>
    intro T M Y V i su k hw hi h1 h2 hm kq
    refine aw_iload (pc := 69) (i := 5) (x := k) F dM_suspend_69 rfl ?_
    refine aw_aload_n (pc := 71) (i := 0) (x := ad 13) F dM_suspend_71 rfl rfl ?_
    refine aw_get (pc := 72) (v := .ref (ad 18)) F 13 hM_at13 rfl 9 (by decide) (fun w h => mw (iw_M w h)) (mw wd_658) rfl dM_suspend_72 ?_
    refine aw_iload_n (pc := 75) (i := 1) (x := i) F dM_suspend_75 rfl rfl ?_
    refine aw_iald (pc := 76) F 18 0 hM_at18 rfl (ix_in hw hi) dM_suspend_76 ?_
    refine aw_icmp_ge (pc := 77) F 125 dM_suspend_77 (by decide) (fun c_77 => ?_) (fun c_77 => ?_)
    · skip
      rw [show (fm_susL (n + 1) M Y V i su k) = (k, V) from by rw [fm_susL, if_pos c_77]] at kq
      exact kq
    · skip
      refine aw_iload_n (pc := 80) (i := 3) (x := su) F dM_suspend_80 rfl rfl ?_
      refine aw_if_eq (pc := 81) F 125 dM_suspend_81 (by decide) (fun c_81 => ?_) (fun c_81 => ?_)
      · skip
        rw [show (fm_susL (n + 1) M Y V i su k) = (k, V) from by rw [fm_susL, if_neg c_77, if_pos c_81]] at kq
        exact kq
      · skip
        refine aw_aload_n (pc := 84) (i := 0) (x := ad 13) F dM_suspend_84 rfl rfl ?_
        refine aw_get (pc := 85) (v := .ref (ad 22)) F 13 hM_at13 rfl 13 (by decide) (fun w h => mw (iw_M w h)) (mw wd_662) rfl dM_suspend_85 ?_
        refine aw_iload (pc := 88) (i := 5) (x := k) F dM_suspend_88 rfl ?_
        refine aw_iald (pc := 90) F 22 0 hM_at22 rfl (ix_in hw (hk_in hw hi h1 c_77)) dM_suspend_90 ?_
        refine aw_iconst (pc := 91) (v := -1) F dM_suspend_91 (by decide) ?_
        refine aw_icmp_eq (pc := 92) F 119 dM_suspend_92 (by decide) (fun c_92 => ?_) (fun c_92 => ?_)
        · skip
          refine aw_iinc (pc := 119) (x := k) (v := k + (1 : Int32)) (L' := [some (.ref (ad 13)), some (.int i), none, some (.int su), none, some (.int (k + (1 : Int32)))]) F dM_suspend_119 rfl rfl (by decide) rfl ?_
          refine aw_goto (pc := 122) F 69 dM_suspend_122 (by decide) ?_
          rw [show (fm_susL (n + 1) M Y V i su k) = (fm_susL n M Y V i su (k + (1 : Int32))) from by rw [fm_susL, if_neg c_77, if_neg c_81, if_pos c_92]] at kq
          exact ih T M Y V i su (k + (1 : Int32)) hw hi (by have a := mI_up hw (hk_in hw hi h1 c_77); omega) (by have a := mI_up hw (hk_in hw hi h1 c_77); omega) (by have a := mI_up hw (hk_in hw hi h1 c_77); omega) kq
        · skip
          refine aw_aload_n (pc := 95) (i := 0) (x := ad 13) F dM_suspend_95 rfl rfl ?_
          refine aw_get (pc := 96) (v := .ref (ad 28)) F 13 hM_at13 rfl 21 (by decide) (fun w h => mw (iw_M w h)) (mw wd_670) rfl dM_suspend_96 ?_
          refine aw_aload_n (pc := 99) (i := 0) (x := ad 13) F dM_suspend_99 rfl rfl ?_
          refine aw_get (pc := 100) (v := .ref (ad 22)) F 13 hM_at13 rfl 13 (by decide) (fun w h => mw (iw_M w h)) (mw wd_662) rfl dM_suspend_100 ?_
          refine aw_iload (pc := 103) (i := 5) (x := k) F dM_suspend_103 rfl ?_
          refine aw_iald (pc := 105) F 22 0 hM_at22 rfl (ix_in hw (hk_in hw hi h1 c_77)) dM_suspend_105 ?_
          refine aw_aload_n (pc := 106) (i := 0) (x := ad 13) F dM_suspend_106 rfl rfl ?_
          refine aw_get (pc := 107) (v := .ref (ad 25)) F 13 hM_at13 rfl 20 (by decide) (fun w h => mw (iw_M w h)) (mw wd_669) rfl dM_suspend_107 ?_
          refine aw_aload_n (pc := 110) (i := 0) (x := ad 13) F dM_suspend_110 rfl rfl ?_
          refine aw_get (pc := 111) (v := .ref (ad 22)) F 13 hM_at13 rfl 13 (by decide) (fun w h => mw (iw_M w h)) (mw wd_662) rfl dM_suspend_111 ?_
          refine aw_iload (pc := 114) (i := 5) (x := k) F dM_suspend_114 rfl ?_
          refine aw_iald (pc := 116) F 22 0 hM_at22 rfl (ix_in hw (hk_in hw hi h1 c_77)) dM_suspend_116 ?_
          refine aw_zald (pc := 117) F 25 1 hM_at25 rfl (hk_pa hw (hk_in hw hi h1 c_77) c_92) dM_suspend_117 ?_
          refine aw_zast (pc := 118) (hp' := (hC ad cI S P X ++ (hM ad cI cZ T M Y (v2w V 0 ((M.2 8) k.toNatClampNeg).toNatClampNeg (vp_nar .boolean ((Y.2 0) ((M.2 8) k.toNatClampNeg).toNatClampNeg))) ++ tl))) F 28 1 hM_at28 rfl (hk_pa hw (hk_in hw hi h1 c_77) c_92) hM_st28 dM_suspend_118 ?_
          refine aw_iinc (pc := 119) (x := k) (v := k + (1 : Int32)) (L' := [some (.ref (ad 13)), some (.int i), none, some (.int su), none, some (.int (k + (1 : Int32)))]) F dM_suspend_119 rfl rfl (by decide) rfl ?_
          refine aw_goto (pc := 122) F 69 dM_suspend_122 (by decide) ?_
          rw [show (fm_susL (n + 1) M Y V i su k) = (fm_susL n M Y (v2w V 0 ((M.2 8) k.toNatClampNeg).toNatClampNeg (vp_nar .boolean ((Y.2 0) ((M.2 8) k.toNatClampNeg).toNatClampNeg))) i su (k + (1 : Int32))) from by rw [fm_susL, if_neg c_77, if_neg c_81, if_neg c_92]] at kq
          exact ih T M Y (v2w V 0 ((M.2 8) k.toNatClampNeg).toNatClampNeg (vp_nar .boolean ((Y.2 0) ((M.2 8) k.toNatClampNeg).toNatClampNeg))) i su (k + (1 : Int32)) hw hi (by have a := mI_up hw (hk_in hw hi h1 c_77); omega) (by have a := mI_up hw (hk_in hw hi h1 c_77); omega) (by have a := mI_up hw (hk_in hw hi h1 c_77); omega) kq
def fm_suspend (K : kmT) (M : mT) (Y : yT) (V : vT) (i : Int32) (st : Int32) (su : Int32) : Int32 × vT :=
  if (fm_susT M Y V i st su) = 0 then
    (((K V ((M.2 2) i.toNatClampNeg) st su).1), ((K V ((M.2 2) i.toNatClampNeg) st su).2))
  else
    if (fm_susT M Y V i st su) = (2 : Int32) then
      ((fm_outcome ((fm_canOf ((K V ((M.2 2) i.toNatClampNeg) (0 : Int32) (0 : Int32)).1)) ||| (2 : Int32)) (-1 : Int32)), ((K V ((M.2 2) i.toNatClampNeg) (0 : Int32) (0 : Int32)).2))
    else
      if su = 0 then
        ((fm_outcome (2 : Int32) (-1 : Int32)), ((fm_susL 121 M Y V i su i).2))
      else
        ((fm_outcome (2 : Int32) (1 : Int32)), ((fm_susL 121 M Y V i su i).2))
set_option maxRecDepth 100000 in
set_option maxHeartbeats 4000000 in
theorem tM_suspend {l : Launch} {D : va_G} {A : Nat → Prop} {ad : Nat → Nat} {tP : Nat} {cI cZ : ClassId} {S : kT} {P : pT} {X : xT} {tl : List va_E} {tyr : List (ClassId × FieldType)} {d : Nat} {K : kmT} {Cn : Int32 → Prop} (T : Int32) (M : mT) (Y : yT) (V : vT) (i : Int32) (st : Int32) (su : Int32) (hd : 6 ≤ d) (hw : mW M) (HC : ∀ a, Cn a → mIx M a) (HV : ∀ (V : vT) (a b c : Int32), Cn a → vI V → vI (K V a b c).2) (HK : ∀ (V : vT) (a b c : Int32), Cn a → vI V → aw_M l yM_run (Cond.code yM_run cM_run 4 (some .int) :: aw_big) d D vwCl ((cI, .int) :: (cZ, .boolean) :: tyr) A ad (zC A tP) [.ref (ad 13), .int a, .int b, .int c] (hC ad cI S P X ++ (hM ad cI cZ T M Y V ++ tl)) (some (.int (K V a b c).1)) (hC ad cI S P X ++ (hM ad cI cZ T M Y (K V a b c).2 ++ tl))) (hi : mIx M i) (hc1 : Cn ((M.2 2) i.toNatClampNeg)) (ht : -16 ≤ ((M.2 1) i.toNatClampNeg).toInt ∧ ((M.2 1) i.toNatClampNeg).toInt < 16) (hv : vI V) : aw_M l yM_suspend (Cond.code yM_suspend cM_suspend 6 (some .int) :: aw_big) (d + 1) D vwCl ((cI, .int) :: (cZ, .boolean) :: tyr) A ad (zC A tP) [.ref (ad 13), .int i, .int st, .int su] (hC ad cI S P X ++ (hM ad cI cZ T M Y V ++ tl)) (some (.int ((fm_suspend K M Y V i st su).1))) (hC ad cI S P X ++ (hM ad cI cZ T M Y ((fm_suspend K M Y V i st su).2) ++ tl)) := by
  refine aw_met cM_suspend 6 (some .int) [some (.ref (ad 13)), some (.int i), some (.int st), some (.int su), none, none] (by decide) rfl (Nat.le_of_ble_eq_true rfl) rfl ?_
  intro p e s m args below meth c F Zs hr hlk
  refine tM_suspend_X0  F Zs  T M Y V i st su  hd hw hi ht hv ?_
  refine aw_iload (pc := 20) (i := 4) (x := (fm_susT M Y V i st su)) F dM_suspend_20 rfl ?_
  refine aw_if_ne (pc := 22) F 38 dM_suspend_22 (by decide) (fun c_22 => ?_) (fun c_22 => ?_)
  · skip
    refine aw_iload (pc := 38) (i := 4) (x := (fm_susT M Y V i st su)) F dM_suspend_38 rfl ?_
    refine aw_iconst (pc := 40) (v := 2) F dM_suspend_40 (by decide) ?_
    refine aw_icmp_ne (pc := 41) F 66 dM_suspend_41 (by decide) (fun c_41 => ?_) (fun c_41 => ?_)
    · skip
      refine aw_iload_n (pc := 66) (i := 1) (x := i) F dM_suspend_66 rfl rfl ?_
      refine aw_istore (pc := 67) (i := 5) (L' := [some (.ref (ad 13)), some (.int i), some (.int st), some (.int su), some (.int (fm_susT M Y V i st su)), some (.int i)]) F dM_suspend_67 (by decide) rfl ?_
      refine aw_less (L' := [some (.ref (ad 13)), some (.int i), none, some (.int su), none, some (.int i)]) (fun i v h => by match i, h with | 0, h => exact h | 1, h => exact h | 2, h => cases h | 3, h => exact h | 4, h => cases h | 5, h => exact h | _ + 6, h => cases h) ?_
      refine tM_suspend_X69  F Zs 121 T M Y V i su i hw hi hi.1 (by have a := hi.2; have b := hw.1.2; omega) (by have a := hi.1; omega) ?_
      refine aw_iconst (pc := 125) (v := 2) F dM_suspend_125 (by decide) ?_
      refine aw_iload_n (pc := 126) (i := 3) (x := su) F dM_suspend_126 rfl rfl ?_
      refine aw_if_eq (pc := 127) F 134 dM_suspend_127 (by decide) (fun c_127 => ?_) (fun c_127 => ?_)
      · skip
        refine aw_iconst (pc := 134) (v := -1) F dM_suspend_134 (by decide) ?_
        refine aw_goS (pc := 135) (As := [.int (2 : Int32), .int (-1 : Int32)]) (rest := []) F zC_ok Zs (tM_outcome  T M Y ((fm_susL 121 M Y V i su i).2) (2 : Int32) (-1 : Int32)) (va_cwS 2 F.1.2.2.2.2 (gi_S wd_799 wd_800 wd_67 wd_801) rfl rfl rfl (by decide +kernel) ⟨by first | (simp only [aw_rm]; omega) | simp only [aw_rm] | omega, by first | (simp only [aw_rm]; omega) | simp only [aw_rm] | omega⟩) rfl (Nat.le_of_ble_eq_true rfl) ⟨Nat.zero_le _, Nat.zero_le _⟩ rfl dM_suspend_135 ?_
        show aW _ _ _ _ _ _ _ _ _ _ _ _ _ _ _ _ _ _ _ _ _ [.int (fm_outcome (2 : Int32) (-1 : Int32))]
        exact aw_iret (pc := 138) F hr hlk dM_suspend_138 (by rw [fm_suspend, if_neg c_22, if_neg c_41, if_pos c_127]) (by rw [fm_suspend, if_neg c_22, if_neg c_41, if_pos c_127])
      · skip
        refine aw_iconst (pc := 130) (v := 1) F dM_suspend_130 (by decide) ?_
        refine aw_goto (pc := 131) F 135 dM_suspend_131 (by decide) ?_
        refine aw_goS (pc := 135) (As := [.int (2 : Int32), .int (1 : Int32)]) (rest := []) F zC_ok Zs (tM_outcome  T M Y ((fm_susL 121 M Y V i su i).2) (2 : Int32) (1 : Int32)) (va_cwS 2 F.1.2.2.2.2 (gi_S wd_799 wd_800 wd_67 wd_801) rfl rfl rfl (by decide +kernel) ⟨by first | (simp only [aw_rm]; omega) | simp only [aw_rm] | omega, by first | (simp only [aw_rm]; omega) | simp only [aw_rm] | omega⟩) rfl (Nat.le_of_ble_eq_true rfl) ⟨Nat.zero_le _, Nat.zero_le _⟩ rfl dM_suspend_135 ?_
        show aW _ _ _ _ _ _ _ _ _ _ _ _ _ _ _ _ _ _ _ _ _ [.int (fm_outcome (2 : Int32) (1 : Int32))]
        exact aw_iret (pc := 138) F hr hlk dM_suspend_138 (by rw [fm_suspend, if_neg c_22, if_neg c_41, if_neg c_127]) (by rw [fm_suspend, if_neg c_22, if_neg c_41, if_neg c_127])
    · skip
      refine aw_aload_n (pc := 44) (i := 0) (x := ad 13) F dM_suspend_44 rfl rfl ?_
      refine aw_aload_n (pc := 45) (i := 0) (x := ad 13) F dM_suspend_45 rfl rfl ?_
      refine aw_get (pc := 46) (v := .ref (ad 16)) F 13 hM_at13 rfl 7 (by decide) (fun w h => mw (iw_M w h)) (mw wd_656) rfl dM_suspend_46 ?_
      refine aw_iload_n (pc := 49) (i := 1) (x := i) F dM_suspend_49 rfl rfl ?_
      refine aw_iald (pc := 50) F 16 0 hM_at16 rfl (ix_in hw hi) dM_suspend_50 ?_
      refine aw_iconst (pc := 51) (v := 0) F dM_suspend_51 (by decide) ?_
      refine aw_iconst (pc := 52) (v := 0) F dM_suspend_52 (by decide) ?_
      refine aw_goV (pc := 53) (As := [.int ((M.2 2) i.toNatClampNeg), .int (0 : Int32), .int (0 : Int32)]) (rest := []) F zC_ok Zs 13 hM_at13 rfl (HK V ((M.2 2) i.toNatClampNeg) (0 : Int32) (0 : Int32) hc1 hv) (cwV 3 F.1.2.2.2.2 (gi_V wd_791 wd_793 wd_51 wd_67 wd_794) rfl rfl rfl (by decide +kernel) ⟨by first | (simp only [aw_rm]; omega) | simp only [aw_rm] | omega, by first | (simp only [aw_rm]; omega) | simp only [aw_rm] | omega⟩) rfl (Nat.le_of_ble_eq_true rfl) ⟨Nat.zero_le _, Nat.zero_le _⟩ rfl dM_suspend_53 ?_
      show aW _ _ _ _ _ _ _ _ _ _ _ _ _ _ _ _ _ _ _ _ _ [.int ((K V ((M.2 2) i.toNatClampNeg) (0 : Int32) (0 : Int32)).1)]
      refine aw_goS (pc := 56) (As := [.int ((K V ((M.2 2) i.toNatClampNeg) (0 : Int32) (0 : Int32)).1)]) (rest := []) F zC_ok Zs (tM_canOf  T M Y ((K V ((M.2 2) i.toNatClampNeg) (0 : Int32) (0 : Int32)).2) ((K V ((M.2 2) i.toNatClampNeg) (0 : Int32) (0 : Int32)).1)) (va_cwS 1 F.1.2.2.2.2 (gi_S wd_814 wd_815 wd_67 wd_816) rfl rfl rfl (by decide +kernel) ⟨by first | (simp only [aw_rm]; omega) | simp only [aw_rm] | omega, by first | (simp only [aw_rm]; omega) | simp only [aw_rm] | omega⟩) rfl (Nat.le_of_ble_eq_true rfl) ⟨Nat.zero_le _, Nat.zero_le _⟩ rfl dM_suspend_56 ?_
      show aW _ _ _ _ _ _ _ _ _ _ _ _ _ _ _ _ _ _ _ _ _ [.int (fm_canOf ((K V ((M.2 2) i.toNatClampNeg) (0 : Int32) (0 : Int32)).1))]
      refine aw_iconst (pc := 59) (v := 2) F dM_suspend_59 (by decide) ?_
      refine aw_ior (pc := 60) F dM_suspend_60 ?_
      refine aw_iconst (pc := 61) (v := -1) F dM_suspend_61 (by decide) ?_
      refine aw_goS (pc := 62) (As := [.int ((fm_canOf ((K V ((M.2 2) i.toNatClampNeg) (0 : Int32) (0 : Int32)).1)) ||| (2 : Int32)), .int (-1 : Int32)]) (rest := []) F zC_ok Zs (tM_outcome  T M Y ((K V ((M.2 2) i.toNatClampNeg) (0 : Int32) (0 : Int32)).2) ((fm_canOf ((K V ((M.2 2) i.toNatClampNeg) (0 : Int32) (0 : Int32)).1)) ||| (2 : Int32)) (-1 : Int32)) (va_cwS 2 F.1.2.2.2.2 (gi_S wd_799 wd_800 wd_67 wd_801) rfl rfl rfl (by decide +kernel) ⟨by first | (simp only [aw_rm]; omega) | simp only [aw_rm] | omega, by first | (simp only [aw_rm]; omega) | simp only [aw_rm] | omega⟩) rfl (Nat.le_of_ble_eq_true rfl) ⟨Nat.zero_le _, Nat.zero_le _⟩ rfl dM_suspend_62 ?_
      show aW _ _ _ _ _ _ _ _ _ _ _ _ _ _ _ _ _ _ _ _ _ [.int (fm_outcome ((fm_canOf ((K V ((M.2 2) i.toNatClampNeg) (0 : Int32) (0 : Int32)).1)) ||| (2 : Int32)) (-1 : Int32))]
      exact aw_iret (pc := 65) F hr hlk dM_suspend_65 (by rw [fm_suspend, if_neg c_22, if_pos c_41]) (by rw [fm_suspend, if_neg c_22, if_pos c_41])
  · skip
    refine aw_aload_n (pc := 25) (i := 0) (x := ad 13) F dM_suspend_25 rfl rfl ?_
    refine aw_aload_n (pc := 26) (i := 0) (x := ad 13) F dM_suspend_26 rfl rfl ?_
    refine aw_get (pc := 27) (v := .ref (ad 16)) F 13 hM_at13 rfl 7 (by decide) (fun w h => mw (iw_M w h)) (mw wd_656) rfl dM_suspend_27 ?_
    refine aw_iload_n (pc := 30) (i := 1) (x := i) F dM_suspend_30 rfl rfl ?_
    refine aw_iald (pc := 31) F 16 0 hM_at16 rfl (ix_in hw hi) dM_suspend_31 ?_
    refine aw_iload_n (pc := 32) (i := 2) (x := st) F dM_suspend_32 rfl rfl ?_
    refine aw_iload_n (pc := 33) (i := 3) (x := su) F dM_suspend_33 rfl rfl ?_
    refine aw_goV (pc := 34) (As := [.int ((M.2 2) i.toNatClampNeg), .int st, .int su]) (rest := []) F zC_ok Zs 13 hM_at13 rfl (HK V ((M.2 2) i.toNatClampNeg) st su hc1 hv) (cwV 3 F.1.2.2.2.2 (gi_V wd_791 wd_793 wd_51 wd_67 wd_794) rfl rfl rfl (by decide +kernel) ⟨by first | (simp only [aw_rm]; omega) | simp only [aw_rm] | omega, by first | (simp only [aw_rm]; omega) | simp only [aw_rm] | omega⟩) rfl (Nat.le_of_ble_eq_true rfl) ⟨Nat.zero_le _, Nat.zero_le _⟩ rfl dM_suspend_34 ?_
    show aW _ _ _ _ _ _ _ _ _ _ _ _ _ _ _ _ _ _ _ _ _ [.int ((K V ((M.2 2) i.toNatClampNeg) st su).1)]
    exact aw_iret (pc := 37) F hr hlk dM_suspend_37 (by rw [fm_suspend, if_pos c_22]) (by rw [fm_suspend, if_pos c_22])
def fm_behM (i : Int32) (be : Int32) (th : Int32) (st : Int32) (su : Int32) : Int32 :=
  if (fm_mustOf be) = 0 then (1 : Int32) else (0 : Int32)
set_option maxRecDepth 100000 in
set_option maxHeartbeats 4000000 in
theorem tM_behind_X0 {l : Launch} {D : va_G} {A : Nat → Prop} {ad : Nat → Nat} {tP : Nat} {cI cZ : ClassId} {S : kT} {P : pT} {X : xT} {tl : List va_E} {tyr : List (ClassId × FieldType)} {d : Nat} {p : Program} {e : Env} {s : State} {m : MethodId} {args : Array Value} {below : List Frame} {meth : Method} {c : Code} {Q : State → Prop} (F : aw_F p s m c args cM_behind 9 (Cond.code yM_behind cM_behind 9 (some .int) :: aw_big) yM_behind.cls D vwCl ((cI, .int) :: (cZ, .boolean) :: tyr)) (Zs : zC A tP s) :
    ∀ (T : Int32) (M : mT) (Y : yT) (V : vT) (i : Int32) (be : Int32) (th : Int32) (st : Int32) (su : Int32)  (hd : 6 ≤ d), aW p l e (aw_rm (d + 1)) s m args below meth c 0 0 Q D vwCl A ad 9 (hC ad cI S P X ++ (hM ad cI cZ T M Y V ++ tl)) [some (.ref (ad 13)), some (.int i), some (.int be), some (.int th), some (.int st), some (.int su), some (.int (fm_behM i be th st su)), none, none] 14 [] → aW p l e (aw_rm (d + 1)) s m args below meth c 0 0 Q D vwCl A ad 9 (hC ad cI S P X ++ (hM ad cI cZ T M Y V ++ tl)) [some (.ref (ad 13)), some (.int i), some (.int be), some (.int th), some (.int st), some (.int su), none, none, none] 0 [] := by
  intro T M Y V i be th st su hd kq
  refine aw_iload_n (pc := 0) (i := 2) (x := be) F dM_behind_0 rfl rfl ?_
  refine aw_goS (pc := 1) (As := [.int be]) (rest := []) F zC_ok Zs (tM_mustOf  T M Y V be) (va_cwS 1 F.1.2.2.2.2 (gi_S wd_825 wd_826 wd_67 wd_827) rfl rfl rfl (by decide +kernel) ⟨by first | (simp only [aw_rm]; omega) | simp only [aw_rm] | omega, by first | (simp only [aw_rm]; omega) | simp only [aw_rm] | omega⟩) rfl (Nat.le_of_ble_eq_true rfl) ⟨Nat.zero_le _, Nat.zero_le _⟩ rfl dM_behind_1 ?_
  show aW _ _ _ _ _ _ _ _ _ _ _ _ _ _ _ _ _ _ _ _ _ [.int (fm_mustOf be)]
  refine aw_if_ne (pc := 4) F 11 dM_behind_4 (by decide) (fun c_4 => ?_) (fun c_4 => ?_)
  · skip
    refine aw_iconst (pc := 11) (v := 0) F dM_behind_11 (by decide) ?_
    refine aw_istore (pc := 12) (i := 6) (L' := [some (.ref (ad 13)), some (.int i), some (.int be), some (.int th), some (.int st), some (.int su), some (.int (0 : Int32)), none, none]) F dM_behind_12 (by decide) rfl ?_
    rw [show (fm_behM i be th st su) = (0 : Int32) from by rw [fm_behM, if_neg c_4]] at kq
    exact kq
  · skip
    refine aw_iconst (pc := 7) (v := 1) F dM_behind_7 (by decide) ?_
    refine aw_goto (pc := 8) F 12 dM_behind_8 (by decide) ?_
    refine aw_istore (pc := 12) (i := 6) (L' := [some (.ref (ad 13)), some (.int i), some (.int be), some (.int th), some (.int st), some (.int su), some (.int (1 : Int32)), none, none]) F dM_behind_12 (by decide) rfl ?_
    rw [show (fm_behM i be th st su) = (1 : Int32) from by rw [fm_behM, if_pos c_4]] at kq
    exact kq
def fm_behW (M : mT) (V : vT) (i : Int32) (be : Int32) (th : Int32) (st : Int32) (su : Int32) (m0 : Int32) (kp : Int32) : vT :=
  if st = 0 then (v1w V 0 ((1 : Int32) + ((M.2 5) i.toNatClampNeg))) else (v1w V 0 (V.1 0))
set_option maxRecDepth 100000 in
set_option maxHeartbeats 4000000 in
theorem tM_behind_X31 {l : Launch} {D : va_G} {A : Nat → Prop} {ad : Nat → Nat} {tP : Nat} {cI cZ : ClassId} {S : kT} {P : pT} {X : xT} {tl : List va_E} {tyr : List (ClassId × FieldType)} {p : Program} {e : Env} {R : Room} {s : State} {m : MethodId} {args : Array Value} {below : List Frame} {meth : Method} {c : Code} {Q : State → Prop} (F : aw_F p s m c args cM_behind 9 (Cond.code yM_behind cM_behind 9 (some .int) :: aw_big) yM_behind.cls D vwCl ((cI, .int) :: (cZ, .boolean) :: tyr)) (Zs : zC A tP s) :
    ∀ (T : Int32) (M : mT) (Y : yT) (V : vT) (i : Int32) (be : Int32) (th : Int32) (st : Int32) (su : Int32) (m0 : Int32) (kp : Int32)  (hw : mW M) (hi : mIx M i), aW p l e R s m args below meth c 0 0 Q D vwCl A ad 9 (hC ad cI S P X ++ (hM ad cI cZ T M Y (fm_behW M V i be th st su m0 kp) ++ tl)) [some (.ref (ad 13)), some (.int i), some (.int be), some (.int th), some (.int st), some (.int su), some (.int m0), some (.int kp), none] 55 [] → aW p l e R s m args below meth c 0 0 Q D vwCl A ad 9 (hC ad cI S P X ++ (hM ad cI cZ T M Y V ++ tl)) [some (.ref (ad 13)), some (.int i), some (.int be), some (.int th), some (.int st), some (.int su), some (.int m0), some (.int kp), none] 31 [] := by
  intro T M Y V i be th st su m0 kp hw hi kq
  refine aw_aload_n (pc := 31) (i := 0) (x := ad 13) F dM_behind_31 rfl rfl ?_
  refine aw_iload (pc := 32) (i := 4) (x := st) F dM_behind_32 rfl ?_
  refine aw_if_eq (pc := 34) F 44 dM_behind_34 (by decide) (fun c_34 => ?_) (fun c_34 => ?_)
  · skip
    refine aw_iconst (pc := 44) (v := 1) F dM_behind_44 (by decide) ?_
    refine aw_aload_n (pc := 45) (i := 0) (x := ad 13) F dM_behind_45 rfl rfl ?_
    refine aw_get (pc := 46) (v := .ref (ad 19)) F 13 hM_at13 rfl 10 (by decide) (fun w h => mw (iw_M w h)) (mw wd_659) rfl dM_behind_46 ?_
    refine aw_iload_n (pc := 49) (i := 1) (x := i) F dM_behind_49 rfl rfl ?_
    refine aw_iald (pc := 50) F 19 0 hM_at19 rfl (ix_in hw hi) dM_behind_50 ?_
    refine aw_iadd (pc := 51) F dM_behind_51 ?_
    refine aw_put (pc := 52) (hp' := (hC ad cI S P X ++ (hM ad cI cZ T M Y (v1w V 0 ((1 : Int32) + ((M.2 5) i.toNatClampNeg))) ++ tl))) F 13 hM_at13 rfl 27 (by decide) (fun w h => mw (iw_M w h)) tyM tyM_ok nmM (mw wd_676) (ty := .int) rfl (by decide +kernel) rfl rfl (Nat.le_of_ble_eq_true rfl) hM_st13_27 dM_behind_52 ?_
    rw [show (fm_behW M V i be th st su m0 kp) = (v1w V 0 ((1 : Int32) + ((M.2 5) i.toNatClampNeg))) from by rw [fm_behW, if_pos c_34]] at kq
    exact kq
  · skip
    refine aw_aload_n (pc := 37) (i := 0) (x := ad 13) F dM_behind_37 rfl rfl ?_
    refine aw_get (pc := 38) (v := .int (V.1 0)) F 13 hM_at13 rfl 27 (by decide) (fun w h => mw (iw_M w h)) (mw wd_676) rfl dM_behind_38 ?_
    refine aw_goto (pc := 41) F 52 dM_behind_41 (by decide) ?_
    refine aw_put (pc := 52) (hp' := (hC ad cI S P X ++ (hM ad cI cZ T M Y (v1w V 0 (V.1 0)) ++ tl))) F 13 hM_at13 rfl 27 (by decide) (fun w h => mw (iw_M w h)) tyM tyM_ok nmM (mw wd_676) (ty := .int) rfl (by decide +kernel) rfl rfl (Nat.le_of_ble_eq_true rfl) hM_st13_27 dM_behind_52 ?_
    rw [show (fm_behW M V i be th st su m0 kp) = (v1w V 0 (V.1 0)) from by rw [fm_behW, if_neg c_34]] at kq
    exact kq
theorem behW_v {M : mT} {V : vT} {i be th st su m0 kp : Int32} (hw : mW M) (hi : mIx M i) (hv : vI V) : vI (fm_behW M V i be th st su m0 kp) := by
  unfold fm_behW
  split
  · have a := (hw.2 i hi).2.2.2.2.2.2.2.2.1
    have e : ((1 : Int32) + (M.2 5) i.toNatClampNeg).toInt = 1 + ((M.2 5) i.toNatClampNeg).toInt := by
      rw [i_add] <;> rw [i_1] <;> omega
    exact ⟨hv.1, show 0 ≤ ((1 : Int32) + (M.2 5) i.toNatClampNeg).toInt by omega, show ((1 : Int32) + (M.2 5) i.toNatClampNeg).toInt ≤ 25 by omega⟩
  · exact hv
theorem way_v {V Q : vT} (hv : vI V) (hq : vI Q) : vI (v1w Q 0 (V.1 0)) := ⟨hq.1, hv.2.1, hv.2.2⟩
def fm_behind (K : kmT) (M : mT) (V : vT) (i : Int32) (be : Int32) (th : Int32) (st : Int32) (su : Int32) : Int32 × vT :=
  if ((fm_canOf be) &&& (1 : Int32)) = 0 then
    (be, V)
  else
    if su = 0 then
      if (fm_behM i be th st su) = 0 then
        ((fm_outcome (((fm_canOf be) &&& (-2 : Int32)) ||| (fm_canOf ((K (fm_behW M V i be th st su (fm_behM i be th st su) (V.1 0)) th (1 : Int32) (0 : Int32)).1))) (fm_mustOf be)), (v1w ((K (fm_behW M V i be th st su (fm_behM i be th st su) (V.1 0)) th (1 : Int32) (0 : Int32)).2) 0 (V.1 0)))
      else
        ((fm_outcome (((fm_canOf be) &&& (-2 : Int32)) ||| (fm_canOf ((K (fm_behW M V i be th st su (fm_behM i be th st su) (V.1 0)) th (1 : Int32) (0 : Int32)).1))) (fm_mustOf ((K (fm_behW M V i be th st su (fm_behM i be th st su) (V.1 0)) th (1 : Int32) (0 : Int32)).1))), (v1w ((K (fm_behW M V i be th st su (fm_behM i be th st su) (V.1 0)) th (1 : Int32) (0 : Int32)).2) 0 (V.1 0)))
    else
      if (fm_behM i be th st su) = 0 then
        if (fm_behM i be th st su) = 0 then
          ((fm_outcome (((fm_canOf be) &&& (-2 : Int32)) ||| (fm_canOf ((K (fm_behW M V i be th st su (fm_behM i be th st su) (V.1 0)) th (1 : Int32) (0 : Int32)).1))) (fm_mustOf be)), (v1w ((K (fm_behW M V i be th st su (fm_behM i be th st su) (V.1 0)) th (1 : Int32) (0 : Int32)).2) 0 (V.1 0)))
        else
          ((fm_outcome (((fm_canOf be) &&& (-2 : Int32)) ||| (fm_canOf ((K (fm_behW M V i be th st su (fm_behM i be th st su) (V.1 0)) th (1 : Int32) (0 : Int32)).1))) (fm_mustOf ((K (fm_behW M V i be th st su (fm_behM i be th st su) (V.1 0)) th (1 : Int32) (0 : Int32)).1))), (v1w ((K (fm_behW M V i be th st su (fm_behM i be th st su) (V.1 0)) th (1 : Int32) (0 : Int32)).2) 0 (V.1 0)))
      else
        if (fm_behM i be th st su) = 0 then
          ((fm_outcome (((fm_canOf be) &&& (-2 : Int32)) ||| (fm_canOf ((K (fm_behW M V i be th st su (fm_behM i be th st su) (V.1 0)) th (1 : Int32) (1 : Int32)).1))) (fm_mustOf be)), (v1w ((K (fm_behW M V i be th st su (fm_behM i be th st su) (V.1 0)) th (1 : Int32) (1 : Int32)).2) 0 (V.1 0)))
        else
          ((fm_outcome (((fm_canOf be) &&& (-2 : Int32)) ||| (fm_canOf ((K (fm_behW M V i be th st su (fm_behM i be th st su) (V.1 0)) th (1 : Int32) (1 : Int32)).1))) (fm_mustOf ((K (fm_behW M V i be th st su (fm_behM i be th st su) (V.1 0)) th (1 : Int32) (1 : Int32)).1))), (v1w ((K (fm_behW M V i be th st su (fm_behM i be th st su) (V.1 0)) th (1 : Int32) (1 : Int32)).2) 0 (V.1 0)))
set_option maxRecDepth 100000 in
set_option maxHeartbeats 4000000 in
theorem tM_behind {l : Launch} {D : va_G} {A : Nat → Prop} {ad : Nat → Nat} {tP : Nat} {cI cZ : ClassId} {S : kT} {P : pT} {X : xT} {tl : List va_E} {tyr : List (ClassId × FieldType)} {d : Nat} {K : kmT} {Cn : Int32 → Prop} (T : Int32) (M : mT) (Y : yT) (V : vT) (i : Int32) (be : Int32) (th : Int32) (st : Int32) (su : Int32) (hd : 6 ≤ d) (hw : mW M) (HC : ∀ a, Cn a → mIx M a) (HV : ∀ (V : vT) (a b c : Int32), Cn a → vI V → vI (K V a b c).2) (HK : ∀ (V : vT) (a b c : Int32), Cn a → vI V → aw_M l yM_run (Cond.code yM_run cM_run 4 (some .int) :: aw_big) d D vwCl ((cI, .int) :: (cZ, .boolean) :: tyr) A ad (zC A tP) [.ref (ad 13), .int a, .int b, .int c] (hC ad cI S P X ++ (hM ad cI cZ T M Y V ++ tl)) (some (.int (K V a b c).1)) (hC ad cI S P X ++ (hM ad cI cZ T M Y (K V a b c).2 ++ tl))) (hi : mIx M i) (hc1 : Cn th) (hv : vI V) : aw_M l yM_behind (Cond.code yM_behind cM_behind 9 (some .int) :: aw_big) (d + 1) D vwCl ((cI, .int) :: (cZ, .boolean) :: tyr) A ad (zC A tP) [.ref (ad 13), .int i, .int be, .int th, .int st, .int su] (hC ad cI S P X ++ (hM ad cI cZ T M Y V ++ tl)) (some (.int ((fm_behind K M V i be th st su).1))) (hC ad cI S P X ++ (hM ad cI cZ T M Y ((fm_behind K M V i be th st su).2) ++ tl)) := by
  refine aw_met cM_behind 9 (some .int) [some (.ref (ad 13)), some (.int i), some (.int be), some (.int th), some (.int st), some (.int su), none, none, none] (by decide) rfl (Nat.le_of_ble_eq_true rfl) rfl ?_
  intro p e s m args below meth c F Zs hr hlk
  refine tM_behind_X0  F Zs  T M Y V i be th st su  hd ?_
  refine aw_iload_n (pc := 14) (i := 2) (x := be) F dM_behind_14 rfl rfl ?_
  refine aw_goS (pc := 15) (As := [.int be]) (rest := []) F zC_ok Zs (tM_canOf  T M Y V be) (va_cwS 1 F.1.2.2.2.2 (gi_S wd_814 wd_815 wd_67 wd_816) rfl rfl rfl (by decide +kernel) ⟨by first | (simp only [aw_rm]; omega) | simp only [aw_rm] | omega, by first | (simp only [aw_rm]; omega) | simp only [aw_rm] | omega⟩) rfl (Nat.le_of_ble_eq_true rfl) ⟨Nat.zero_le _, Nat.zero_le _⟩ rfl dM_behind_15 ?_
  show aW _ _ _ _ _ _ _ _ _ _ _ _ _ _ _ _ _ _ _ _ _ [.int (fm_canOf be)]
  refine aw_iconst (pc := 18) (v := 1) F dM_behind_18 (by decide) ?_
  refine aw_iand (pc := 19) F dM_behind_19 ?_
  refine aw_if_ne (pc := 20) F 25 dM_behind_20 (by decide) (fun c_20 => ?_) (fun c_20 => ?_)
  · skip
    refine aw_aload_n (pc := 25) (i := 0) (x := ad 13) F dM_behind_25 rfl rfl ?_
    refine aw_get (pc := 26) (v := .int (V.1 0)) F 13 hM_at13 rfl 27 (by decide) (fun w h => mw (iw_M w h)) (mw wd_676) rfl dM_behind_26 ?_
    refine aw_istore (pc := 29) (i := 7) (L' := [some (.ref (ad 13)), some (.int i), some (.int be), some (.int th), some (.int st), some (.int su), some (.int (fm_behM i be th st su)), some (.int (V.1 0)), none]) F dM_behind_29 (by decide) rfl ?_
    refine tM_behind_X31  F Zs  T M Y V i be th st su (fm_behM i be th st su) (V.1 0)  hw hi ?_
    refine aw_aload_n (pc := 55) (i := 0) (x := ad 13) F dM_behind_55 rfl rfl ?_
    refine aw_iload_n (pc := 56) (i := 3) (x := th) F dM_behind_56 rfl rfl ?_
    refine aw_iconst (pc := 57) (v := 1) F dM_behind_57 (by decide) ?_
    refine aw_iload (pc := 58) (i := 5) (x := su) F dM_behind_58 rfl ?_
    refine aw_if_eq (pc := 60) F 72 dM_behind_60 (by decide) (fun c_60 => ?_) (fun c_60 => ?_)
    · skip
      refine aw_iconst (pc := 72) (v := 0) F dM_behind_72 (by decide) ?_
      refine aw_goV (pc := 73) (As := [.int th, .int (1 : Int32), .int (0 : Int32)]) (rest := []) F zC_ok Zs 13 hM_at13 rfl (HK (fm_behW M V i be th st su (fm_behM i be th st su) (V.1 0)) th (1 : Int32) (0 : Int32) hc1 (behW_v hw hi hv)) (cwV 3 F.1.2.2.2.2 (gi_V wd_791 wd_793 wd_51 wd_67 wd_794) rfl rfl rfl (by decide +kernel) ⟨by first | (simp only [aw_rm]; omega) | simp only [aw_rm] | omega, by first | (simp only [aw_rm]; omega) | simp only [aw_rm] | omega⟩) rfl (Nat.le_of_ble_eq_true rfl) ⟨Nat.zero_le _, Nat.zero_le _⟩ rfl dM_behind_73 ?_
      show aW _ _ _ _ _ _ _ _ _ _ _ _ _ _ _ _ _ _ _ _ _ [.int ((K (fm_behW M V i be th st su (fm_behM i be th st su) (V.1 0)) th (1 : Int32) (0 : Int32)).1)]
      refine aw_istore (pc := 76) (i := 8) (L' := [some (.ref (ad 13)), some (.int i), some (.int be), some (.int th), some (.int st), some (.int su), some (.int (fm_behM i be th st su)), some (.int (V.1 0)), some (.int ((K (fm_behW M V i be th st su (fm_behM i be th st su) (V.1 0)) th (1 : Int32) (0 : Int32)).1))]) F dM_behind_76 (by decide) rfl ?_
      refine aw_aload_n (pc := 78) (i := 0) (x := ad 13) F dM_behind_78 rfl rfl ?_
      refine aw_iload (pc := 79) (i := 7) (x := (V.1 0)) F dM_behind_79 rfl ?_
      refine aw_put (pc := 81) (hp' := (hC ad cI S P X ++ (hM ad cI cZ T M Y (v1w ((K (fm_behW M V i be th st su (fm_behM i be th st su) (V.1 0)) th (1 : Int32) (0 : Int32)).2) 0 (V.1 0)) ++ tl))) F 13 hM_at13 rfl 27 (by decide) (fun w h => mw (iw_M w h)) tyM tyM_ok nmM (mw wd_676) (ty := .int) rfl (by decide +kernel) rfl rfl (Nat.le_of_ble_eq_true rfl) hM_st13_27 dM_behind_81 ?_
      refine aw_iload_n (pc := 84) (i := 2) (x := be) F dM_behind_84 rfl rfl ?_
      refine aw_goS (pc := 85) (As := [.int be]) (rest := []) F zC_ok Zs (tM_canOf  T M Y (v1w ((K (fm_behW M V i be th st su (fm_behM i be th st su) (V.1 0)) th (1 : Int32) (0 : Int32)).2) 0 (V.1 0)) be) (va_cwS 1 F.1.2.2.2.2 (gi_S wd_814 wd_815 wd_67 wd_816) rfl rfl rfl (by decide +kernel) ⟨by first | (simp only [aw_rm]; omega) | simp only [aw_rm] | omega, by first | (simp only [aw_rm]; omega) | simp only [aw_rm] | omega⟩) rfl (Nat.le_of_ble_eq_true rfl) ⟨Nat.zero_le _, Nat.zero_le _⟩ rfl dM_behind_85 ?_
      show aW _ _ _ _ _ _ _ _ _ _ _ _ _ _ _ _ _ _ _ _ _ [.int (fm_canOf be)]
      refine aw_bipush (pc := 88) (v := -2) F dM_behind_88 (by decide) ?_
      refine aw_iand (pc := 90) F dM_behind_90 ?_
      refine aw_iload (pc := 91) (i := 8) (x := ((K (fm_behW M V i be th st su (fm_behM i be th st su) (V.1 0)) th (1 : Int32) (0 : Int32)).1)) F dM_behind_91 rfl ?_
      refine aw_goS (pc := 93) (As := [.int ((K (fm_behW M V i be th st su (fm_behM i be th st su) (V.1 0)) th (1 : Int32) (0 : Int32)).1)]) (rest := [.int ((fm_canOf be) &&& (-2 : Int32))]) F zC_ok Zs (tM_canOf  T M Y (v1w ((K (fm_behW M V i be th st su (fm_behM i be th st su) (V.1 0)) th (1 : Int32) (0 : Int32)).2) 0 (V.1 0)) ((K (fm_behW M V i be th st su (fm_behM i be th st su) (V.1 0)) th (1 : Int32) (0 : Int32)).1)) (va_cwS 1 F.1.2.2.2.2 (gi_S wd_814 wd_815 wd_67 wd_816) rfl rfl rfl (by decide +kernel) ⟨by first | (simp only [aw_rm]; omega) | simp only [aw_rm] | omega, by first | (simp only [aw_rm]; omega) | simp only [aw_rm] | omega⟩) rfl (Nat.le_of_ble_eq_true rfl) ⟨Nat.zero_le _, Nat.zero_le _⟩ rfl dM_behind_93 ?_
      show aW _ _ _ _ _ _ _ _ _ _ _ _ _ _ _ _ _ _ _ _ _ [.int (fm_canOf ((K (fm_behW M V i be th st su (fm_behM i be th st su) (V.1 0)) th (1 : Int32) (0 : Int32)).1)), .int ((fm_canOf be) &&& (-2 : Int32))]
      refine aw_ior (pc := 96) F dM_behind_96 ?_
      refine aw_iload (pc := 97) (i := 6) (x := (fm_behM i be th st su)) F dM_behind_97 rfl ?_
      refine aw_if_eq (pc := 99) F 110 dM_behind_99 (by decide) (fun c_99 => ?_) (fun c_99 => ?_)
      · skip
        refine aw_iload_n (pc := 110) (i := 2) (x := be) F dM_behind_110 rfl rfl ?_
        refine aw_goS (pc := 111) (As := [.int be]) (rest := [.int (((fm_canOf be) &&& (-2 : Int32)) ||| (fm_canOf ((K (fm_behW M V i be th st su (fm_behM i be th st su) (V.1 0)) th (1 : Int32) (0 : Int32)).1)))]) F zC_ok Zs (tM_mustOf  T M Y (v1w ((K (fm_behW M V i be th st su (fm_behM i be th st su) (V.1 0)) th (1 : Int32) (0 : Int32)).2) 0 (V.1 0)) be) (va_cwS 1 F.1.2.2.2.2 (gi_S wd_825 wd_826 wd_67 wd_827) rfl rfl rfl (by decide +kernel) ⟨by first | (simp only [aw_rm]; omega) | simp only [aw_rm] | omega, by first | (simp only [aw_rm]; omega) | simp only [aw_rm] | omega⟩) rfl (Nat.le_of_ble_eq_true rfl) ⟨Nat.zero_le _, Nat.zero_le _⟩ rfl dM_behind_111 ?_
        show aW _ _ _ _ _ _ _ _ _ _ _ _ _ _ _ _ _ _ _ _ _ [.int (fm_mustOf be), .int (((fm_canOf be) &&& (-2 : Int32)) ||| (fm_canOf ((K (fm_behW M V i be th st su (fm_behM i be th st su) (V.1 0)) th (1 : Int32) (0 : Int32)).1)))]
        refine aw_goS (pc := 114) (As := [.int (((fm_canOf be) &&& (-2 : Int32)) ||| (fm_canOf ((K (fm_behW M V i be th st su (fm_behM i be th st su) (V.1 0)) th (1 : Int32) (0 : Int32)).1))), .int (fm_mustOf be)]) (rest := []) F zC_ok Zs (tM_outcome  T M Y (v1w ((K (fm_behW M V i be th st su (fm_behM i be th st su) (V.1 0)) th (1 : Int32) (0 : Int32)).2) 0 (V.1 0)) (((fm_canOf be) &&& (-2 : Int32)) ||| (fm_canOf ((K (fm_behW M V i be th st su (fm_behM i be th st su) (V.1 0)) th (1 : Int32) (0 : Int32)).1))) (fm_mustOf be)) (va_cwS 2 F.1.2.2.2.2 (gi_S wd_799 wd_800 wd_67 wd_801) rfl rfl rfl (by decide +kernel) ⟨by first | (simp only [aw_rm]; omega) | simp only [aw_rm] | omega, by first | (simp only [aw_rm]; omega) | simp only [aw_rm] | omega⟩) rfl (Nat.le_of_ble_eq_true rfl) ⟨Nat.zero_le _, Nat.zero_le _⟩ rfl dM_behind_114 ?_
        show aW _ _ _ _ _ _ _ _ _ _ _ _ _ _ _ _ _ _ _ _ _ [.int (fm_outcome (((fm_canOf be) &&& (-2 : Int32)) ||| (fm_canOf ((K (fm_behW M V i be th st su (fm_behM i be th st su) (V.1 0)) th (1 : Int32) (0 : Int32)).1))) (fm_mustOf be))]
        exact aw_iret (pc := 117) F hr hlk dM_behind_117 (by rw [fm_behind, if_neg c_20, if_pos c_60, if_pos c_99]) (by rw [fm_behind, if_neg c_20, if_pos c_60, if_pos c_99])
      · skip
        refine aw_iload (pc := 102) (i := 8) (x := ((K (fm_behW M V i be th st su (fm_behM i be th st su) (V.1 0)) th (1 : Int32) (0 : Int32)).1)) F dM_behind_102 rfl ?_
        refine aw_goS (pc := 104) (As := [.int ((K (fm_behW M V i be th st su (fm_behM i be th st su) (V.1 0)) th (1 : Int32) (0 : Int32)).1)]) (rest := [.int (((fm_canOf be) &&& (-2 : Int32)) ||| (fm_canOf ((K (fm_behW M V i be th st su (fm_behM i be th st su) (V.1 0)) th (1 : Int32) (0 : Int32)).1)))]) F zC_ok Zs (tM_mustOf  T M Y (v1w ((K (fm_behW M V i be th st su (fm_behM i be th st su) (V.1 0)) th (1 : Int32) (0 : Int32)).2) 0 (V.1 0)) ((K (fm_behW M V i be th st su (fm_behM i be th st su) (V.1 0)) th (1 : Int32) (0 : Int32)).1)) (va_cwS 1 F.1.2.2.2.2 (gi_S wd_825 wd_826 wd_67 wd_827) rfl rfl rfl (by decide +kernel) ⟨by first | (simp only [aw_rm]; omega) | simp only [aw_rm] | omega, by first | (simp only [aw_rm]; omega) | simp only [aw_rm] | omega⟩) rfl (Nat.le_of_ble_eq_true rfl) ⟨Nat.zero_le _, Nat.zero_le _⟩ rfl dM_behind_104 ?_
        show aW _ _ _ _ _ _ _ _ _ _ _ _ _ _ _ _ _ _ _ _ _ [.int (fm_mustOf ((K (fm_behW M V i be th st su (fm_behM i be th st su) (V.1 0)) th (1 : Int32) (0 : Int32)).1)), .int (((fm_canOf be) &&& (-2 : Int32)) ||| (fm_canOf ((K (fm_behW M V i be th st su (fm_behM i be th st su) (V.1 0)) th (1 : Int32) (0 : Int32)).1)))]
        refine aw_goto (pc := 107) F 114 dM_behind_107 (by decide) ?_
        refine aw_goS (pc := 114) (As := [.int (((fm_canOf be) &&& (-2 : Int32)) ||| (fm_canOf ((K (fm_behW M V i be th st su (fm_behM i be th st su) (V.1 0)) th (1 : Int32) (0 : Int32)).1))), .int (fm_mustOf ((K (fm_behW M V i be th st su (fm_behM i be th st su) (V.1 0)) th (1 : Int32) (0 : Int32)).1))]) (rest := []) F zC_ok Zs (tM_outcome  T M Y (v1w ((K (fm_behW M V i be th st su (fm_behM i be th st su) (V.1 0)) th (1 : Int32) (0 : Int32)).2) 0 (V.1 0)) (((fm_canOf be) &&& (-2 : Int32)) ||| (fm_canOf ((K (fm_behW M V i be th st su (fm_behM i be th st su) (V.1 0)) th (1 : Int32) (0 : Int32)).1))) (fm_mustOf ((K (fm_behW M V i be th st su (fm_behM i be th st su) (V.1 0)) th (1 : Int32) (0 : Int32)).1))) (va_cwS 2 F.1.2.2.2.2 (gi_S wd_799 wd_800 wd_67 wd_801) rfl rfl rfl (by decide +kernel) ⟨by first | (simp only [aw_rm]; omega) | simp only [aw_rm] | omega, by first | (simp only [aw_rm]; omega) | simp only [aw_rm] | omega⟩) rfl (Nat.le_of_ble_eq_true rfl) ⟨Nat.zero_le _, Nat.zero_le _⟩ rfl dM_behind_114 ?_
        show aW _ _ _ _ _ _ _ _ _ _ _ _ _ _ _ _ _ _ _ _ _ [.int (fm_outcome (((fm_canOf be) &&& (-2 : Int32)) ||| (fm_canOf ((K (fm_behW M V i be th st su (fm_behM i be th st su) (V.1 0)) th (1 : Int32) (0 : Int32)).1))) (fm_mustOf ((K (fm_behW M V i be th st su (fm_behM i be th st su) (V.1 0)) th (1 : Int32) (0 : Int32)).1)))]
        exact aw_iret (pc := 117) F hr hlk dM_behind_117 (by rw [fm_behind, if_neg c_20, if_pos c_60, if_neg c_99]) (by rw [fm_behind, if_neg c_20, if_pos c_60, if_neg c_99])
    · skip
      refine aw_iload (pc := 63) (i := 6) (x := (fm_behM i be th st su)) F dM_behind_63 rfl ?_
      refine aw_if_eq (pc := 65) F 72 dM_behind_65 (by decide) (fun c_65 => ?_) (fun c_65 => ?_)
      · skip
        refine aw_iconst (pc := 72) (v := 0) F dM_behind_72 (by decide) ?_
        refine aw_goV (pc := 73) (As := [.int th, .int (1 : Int32), .int (0 : Int32)]) (rest := []) F zC_ok Zs 13 hM_at13 rfl (HK (fm_behW M V i be th st su (fm_behM i be th st su) (V.1 0)) th (1 : Int32) (0 : Int32) hc1 (behW_v hw hi hv)) (cwV 3 F.1.2.2.2.2 (gi_V wd_791 wd_793 wd_51 wd_67 wd_794) rfl rfl rfl (by decide +kernel) ⟨by first | (simp only [aw_rm]; omega) | simp only [aw_rm] | omega, by first | (simp only [aw_rm]; omega) | simp only [aw_rm] | omega⟩) rfl (Nat.le_of_ble_eq_true rfl) ⟨Nat.zero_le _, Nat.zero_le _⟩ rfl dM_behind_73 ?_
        show aW _ _ _ _ _ _ _ _ _ _ _ _ _ _ _ _ _ _ _ _ _ [.int ((K (fm_behW M V i be th st su (fm_behM i be th st su) (V.1 0)) th (1 : Int32) (0 : Int32)).1)]
        refine aw_istore (pc := 76) (i := 8) (L' := [some (.ref (ad 13)), some (.int i), some (.int be), some (.int th), some (.int st), some (.int su), some (.int (fm_behM i be th st su)), some (.int (V.1 0)), some (.int ((K (fm_behW M V i be th st su (fm_behM i be th st su) (V.1 0)) th (1 : Int32) (0 : Int32)).1))]) F dM_behind_76 (by decide) rfl ?_
        refine aw_aload_n (pc := 78) (i := 0) (x := ad 13) F dM_behind_78 rfl rfl ?_
        refine aw_iload (pc := 79) (i := 7) (x := (V.1 0)) F dM_behind_79 rfl ?_
        refine aw_put (pc := 81) (hp' := (hC ad cI S P X ++ (hM ad cI cZ T M Y (v1w ((K (fm_behW M V i be th st su (fm_behM i be th st su) (V.1 0)) th (1 : Int32) (0 : Int32)).2) 0 (V.1 0)) ++ tl))) F 13 hM_at13 rfl 27 (by decide) (fun w h => mw (iw_M w h)) tyM tyM_ok nmM (mw wd_676) (ty := .int) rfl (by decide +kernel) rfl rfl (Nat.le_of_ble_eq_true rfl) hM_st13_27 dM_behind_81 ?_
        refine aw_iload_n (pc := 84) (i := 2) (x := be) F dM_behind_84 rfl rfl ?_
        refine aw_goS (pc := 85) (As := [.int be]) (rest := []) F zC_ok Zs (tM_canOf  T M Y (v1w ((K (fm_behW M V i be th st su (fm_behM i be th st su) (V.1 0)) th (1 : Int32) (0 : Int32)).2) 0 (V.1 0)) be) (va_cwS 1 F.1.2.2.2.2 (gi_S wd_814 wd_815 wd_67 wd_816) rfl rfl rfl (by decide +kernel) ⟨by first | (simp only [aw_rm]; omega) | simp only [aw_rm] | omega, by first | (simp only [aw_rm]; omega) | simp only [aw_rm] | omega⟩) rfl (Nat.le_of_ble_eq_true rfl) ⟨Nat.zero_le _, Nat.zero_le _⟩ rfl dM_behind_85 ?_
        show aW _ _ _ _ _ _ _ _ _ _ _ _ _ _ _ _ _ _ _ _ _ [.int (fm_canOf be)]
        refine aw_bipush (pc := 88) (v := -2) F dM_behind_88 (by decide) ?_
        refine aw_iand (pc := 90) F dM_behind_90 ?_
        refine aw_iload (pc := 91) (i := 8) (x := ((K (fm_behW M V i be th st su (fm_behM i be th st su) (V.1 0)) th (1 : Int32) (0 : Int32)).1)) F dM_behind_91 rfl ?_
        refine aw_goS (pc := 93) (As := [.int ((K (fm_behW M V i be th st su (fm_behM i be th st su) (V.1 0)) th (1 : Int32) (0 : Int32)).1)]) (rest := [.int ((fm_canOf be) &&& (-2 : Int32))]) F zC_ok Zs (tM_canOf  T M Y (v1w ((K (fm_behW M V i be th st su (fm_behM i be th st su) (V.1 0)) th (1 : Int32) (0 : Int32)).2) 0 (V.1 0)) ((K (fm_behW M V i be th st su (fm_behM i be th st su) (V.1 0)) th (1 : Int32) (0 : Int32)).1)) (va_cwS 1 F.1.2.2.2.2 (gi_S wd_814 wd_815 wd_67 wd_816) rfl rfl rfl (by decide +kernel) ⟨by first | (simp only [aw_rm]; omega) | simp only [aw_rm] | omega, by first | (simp only [aw_rm]; omega) | simp only [aw_rm] | omega⟩) rfl (Nat.le_of_ble_eq_true rfl) ⟨Nat.zero_le _, Nat.zero_le _⟩ rfl dM_behind_93 ?_
        show aW _ _ _ _ _ _ _ _ _ _ _ _ _ _ _ _ _ _ _ _ _ [.int (fm_canOf ((K (fm_behW M V i be th st su (fm_behM i be th st su) (V.1 0)) th (1 : Int32) (0 : Int32)).1)), .int ((fm_canOf be) &&& (-2 : Int32))]
        refine aw_ior (pc := 96) F dM_behind_96 ?_
        refine aw_iload (pc := 97) (i := 6) (x := (fm_behM i be th st su)) F dM_behind_97 rfl ?_
        refine aw_if_eq (pc := 99) F 110 dM_behind_99 (by decide) (fun c_99 => ?_) (fun c_99 => ?_)
        · skip
          refine aw_iload_n (pc := 110) (i := 2) (x := be) F dM_behind_110 rfl rfl ?_
          refine aw_goS (pc := 111) (As := [.int be]) (rest := [.int (((fm_canOf be) &&& (-2 : Int32)) ||| (fm_canOf ((K (fm_behW M V i be th st su (fm_behM i be th st su) (V.1 0)) th (1 : Int32) (0 : Int32)).1)))]) F zC_ok Zs (tM_mustOf  T M Y (v1w ((K (fm_behW M V i be th st su (fm_behM i be th st su) (V.1 0)) th (1 : Int32) (0 : Int32)).2) 0 (V.1 0)) be) (va_cwS 1 F.1.2.2.2.2 (gi_S wd_825 wd_826 wd_67 wd_827) rfl rfl rfl (by decide +kernel) ⟨by first | (simp only [aw_rm]; omega) | simp only [aw_rm] | omega, by first | (simp only [aw_rm]; omega) | simp only [aw_rm] | omega⟩) rfl (Nat.le_of_ble_eq_true rfl) ⟨Nat.zero_le _, Nat.zero_le _⟩ rfl dM_behind_111 ?_
          show aW _ _ _ _ _ _ _ _ _ _ _ _ _ _ _ _ _ _ _ _ _ [.int (fm_mustOf be), .int (((fm_canOf be) &&& (-2 : Int32)) ||| (fm_canOf ((K (fm_behW M V i be th st su (fm_behM i be th st su) (V.1 0)) th (1 : Int32) (0 : Int32)).1)))]
          refine aw_goS (pc := 114) (As := [.int (((fm_canOf be) &&& (-2 : Int32)) ||| (fm_canOf ((K (fm_behW M V i be th st su (fm_behM i be th st su) (V.1 0)) th (1 : Int32) (0 : Int32)).1))), .int (fm_mustOf be)]) (rest := []) F zC_ok Zs (tM_outcome  T M Y (v1w ((K (fm_behW M V i be th st su (fm_behM i be th st su) (V.1 0)) th (1 : Int32) (0 : Int32)).2) 0 (V.1 0)) (((fm_canOf be) &&& (-2 : Int32)) ||| (fm_canOf ((K (fm_behW M V i be th st su (fm_behM i be th st su) (V.1 0)) th (1 : Int32) (0 : Int32)).1))) (fm_mustOf be)) (va_cwS 2 F.1.2.2.2.2 (gi_S wd_799 wd_800 wd_67 wd_801) rfl rfl rfl (by decide +kernel) ⟨by first | (simp only [aw_rm]; omega) | simp only [aw_rm] | omega, by first | (simp only [aw_rm]; omega) | simp only [aw_rm] | omega⟩) rfl (Nat.le_of_ble_eq_true rfl) ⟨Nat.zero_le _, Nat.zero_le _⟩ rfl dM_behind_114 ?_
          show aW _ _ _ _ _ _ _ _ _ _ _ _ _ _ _ _ _ _ _ _ _ [.int (fm_outcome (((fm_canOf be) &&& (-2 : Int32)) ||| (fm_canOf ((K (fm_behW M V i be th st su (fm_behM i be th st su) (V.1 0)) th (1 : Int32) (0 : Int32)).1))) (fm_mustOf be))]
          exact aw_iret (pc := 117) F hr hlk dM_behind_117 (by rw [fm_behind, if_neg c_20, if_neg c_60, if_pos c_65, if_pos c_99]) (by rw [fm_behind, if_neg c_20, if_neg c_60, if_pos c_65, if_pos c_99])
        · skip
          refine aw_iload (pc := 102) (i := 8) (x := ((K (fm_behW M V i be th st su (fm_behM i be th st su) (V.1 0)) th (1 : Int32) (0 : Int32)).1)) F dM_behind_102 rfl ?_
          refine aw_goS (pc := 104) (As := [.int ((K (fm_behW M V i be th st su (fm_behM i be th st su) (V.1 0)) th (1 : Int32) (0 : Int32)).1)]) (rest := [.int (((fm_canOf be) &&& (-2 : Int32)) ||| (fm_canOf ((K (fm_behW M V i be th st su (fm_behM i be th st su) (V.1 0)) th (1 : Int32) (0 : Int32)).1)))]) F zC_ok Zs (tM_mustOf  T M Y (v1w ((K (fm_behW M V i be th st su (fm_behM i be th st su) (V.1 0)) th (1 : Int32) (0 : Int32)).2) 0 (V.1 0)) ((K (fm_behW M V i be th st su (fm_behM i be th st su) (V.1 0)) th (1 : Int32) (0 : Int32)).1)) (va_cwS 1 F.1.2.2.2.2 (gi_S wd_825 wd_826 wd_67 wd_827) rfl rfl rfl (by decide +kernel) ⟨by first | (simp only [aw_rm]; omega) | simp only [aw_rm] | omega, by first | (simp only [aw_rm]; omega) | simp only [aw_rm] | omega⟩) rfl (Nat.le_of_ble_eq_true rfl) ⟨Nat.zero_le _, Nat.zero_le _⟩ rfl dM_behind_104 ?_
          show aW _ _ _ _ _ _ _ _ _ _ _ _ _ _ _ _ _ _ _ _ _ [.int (fm_mustOf ((K (fm_behW M V i be th st su (fm_behM i be th st su) (V.1 0)) th (1 : Int32) (0 : Int32)).1)), .int (((fm_canOf be) &&& (-2 : Int32)) ||| (fm_canOf ((K (fm_behW M V i be th st su (fm_behM i be th st su) (V.1 0)) th (1 : Int32) (0 : Int32)).1)))]
          refine aw_goto (pc := 107) F 114 dM_behind_107 (by decide) ?_
          refine aw_goS (pc := 114) (As := [.int (((fm_canOf be) &&& (-2 : Int32)) ||| (fm_canOf ((K (fm_behW M V i be th st su (fm_behM i be th st su) (V.1 0)) th (1 : Int32) (0 : Int32)).1))), .int (fm_mustOf ((K (fm_behW M V i be th st su (fm_behM i be th st su) (V.1 0)) th (1 : Int32) (0 : Int32)).1))]) (rest := []) F zC_ok Zs (tM_outcome  T M Y (v1w ((K (fm_behW M V i be th st su (fm_behM i be th st su) (V.1 0)) th (1 : Int32) (0 : Int32)).2) 0 (V.1 0)) (((fm_canOf be) &&& (-2 : Int32)) ||| (fm_canOf ((K (fm_behW M V i be th st su (fm_behM i be th st su) (V.1 0)) th (1 : Int32) (0 : Int32)).1))) (fm_mustOf ((K (fm_behW M V i be th st su (fm_behM i be th st su) (V.1 0)) th (1 : Int32) (0 : Int32)).1))) (va_cwS 2 F.1.2.2.2.2 (gi_S wd_799 wd_800 wd_67 wd_801) rfl rfl rfl (by decide +kernel) ⟨by first | (simp only [aw_rm]; omega) | simp only [aw_rm] | omega, by first | (simp only [aw_rm]; omega) | simp only [aw_rm] | omega⟩) rfl (Nat.le_of_ble_eq_true rfl) ⟨Nat.zero_le _, Nat.zero_le _⟩ rfl dM_behind_114 ?_
          show aW _ _ _ _ _ _ _ _ _ _ _ _ _ _ _ _ _ _ _ _ _ [.int (fm_outcome (((fm_canOf be) &&& (-2 : Int32)) ||| (fm_canOf ((K (fm_behW M V i be th st su (fm_behM i be th st su) (V.1 0)) th (1 : Int32) (0 : Int32)).1))) (fm_mustOf ((K (fm_behW M V i be th st su (fm_behM i be th st su) (V.1 0)) th (1 : Int32) (0 : Int32)).1)))]
          exact aw_iret (pc := 117) F hr hlk dM_behind_117 (by rw [fm_behind, if_neg c_20, if_neg c_60, if_pos c_65, if_neg c_99]) (by rw [fm_behind, if_neg c_20, if_neg c_60, if_pos c_65, if_neg c_99])
      · skip
        refine aw_iconst (pc := 68) (v := 1) F dM_behind_68 (by decide) ?_
        refine aw_goto (pc := 69) F 73 dM_behind_69 (by decide) ?_
        refine aw_goV (pc := 73) (As := [.int th, .int (1 : Int32), .int (1 : Int32)]) (rest := []) F zC_ok Zs 13 hM_at13 rfl (HK (fm_behW M V i be th st su (fm_behM i be th st su) (V.1 0)) th (1 : Int32) (1 : Int32) hc1 (behW_v hw hi hv)) (cwV 3 F.1.2.2.2.2 (gi_V wd_791 wd_793 wd_51 wd_67 wd_794) rfl rfl rfl (by decide +kernel) ⟨by first | (simp only [aw_rm]; omega) | simp only [aw_rm] | omega, by first | (simp only [aw_rm]; omega) | simp only [aw_rm] | omega⟩) rfl (Nat.le_of_ble_eq_true rfl) ⟨Nat.zero_le _, Nat.zero_le _⟩ rfl dM_behind_73 ?_
        show aW _ _ _ _ _ _ _ _ _ _ _ _ _ _ _ _ _ _ _ _ _ [.int ((K (fm_behW M V i be th st su (fm_behM i be th st su) (V.1 0)) th (1 : Int32) (1 : Int32)).1)]
        refine aw_istore (pc := 76) (i := 8) (L' := [some (.ref (ad 13)), some (.int i), some (.int be), some (.int th), some (.int st), some (.int su), some (.int (fm_behM i be th st su)), some (.int (V.1 0)), some (.int ((K (fm_behW M V i be th st su (fm_behM i be th st su) (V.1 0)) th (1 : Int32) (1 : Int32)).1))]) F dM_behind_76 (by decide) rfl ?_
        refine aw_aload_n (pc := 78) (i := 0) (x := ad 13) F dM_behind_78 rfl rfl ?_
        refine aw_iload (pc := 79) (i := 7) (x := (V.1 0)) F dM_behind_79 rfl ?_
        refine aw_put (pc := 81) (hp' := (hC ad cI S P X ++ (hM ad cI cZ T M Y (v1w ((K (fm_behW M V i be th st su (fm_behM i be th st su) (V.1 0)) th (1 : Int32) (1 : Int32)).2) 0 (V.1 0)) ++ tl))) F 13 hM_at13 rfl 27 (by decide) (fun w h => mw (iw_M w h)) tyM tyM_ok nmM (mw wd_676) (ty := .int) rfl (by decide +kernel) rfl rfl (Nat.le_of_ble_eq_true rfl) hM_st13_27 dM_behind_81 ?_
        refine aw_iload_n (pc := 84) (i := 2) (x := be) F dM_behind_84 rfl rfl ?_
        refine aw_goS (pc := 85) (As := [.int be]) (rest := []) F zC_ok Zs (tM_canOf  T M Y (v1w ((K (fm_behW M V i be th st su (fm_behM i be th st su) (V.1 0)) th (1 : Int32) (1 : Int32)).2) 0 (V.1 0)) be) (va_cwS 1 F.1.2.2.2.2 (gi_S wd_814 wd_815 wd_67 wd_816) rfl rfl rfl (by decide +kernel) ⟨by first | (simp only [aw_rm]; omega) | simp only [aw_rm] | omega, by first | (simp only [aw_rm]; omega) | simp only [aw_rm] | omega⟩) rfl (Nat.le_of_ble_eq_true rfl) ⟨Nat.zero_le _, Nat.zero_le _⟩ rfl dM_behind_85 ?_
        show aW _ _ _ _ _ _ _ _ _ _ _ _ _ _ _ _ _ _ _ _ _ [.int (fm_canOf be)]
        refine aw_bipush (pc := 88) (v := -2) F dM_behind_88 (by decide) ?_
        refine aw_iand (pc := 90) F dM_behind_90 ?_
        refine aw_iload (pc := 91) (i := 8) (x := ((K (fm_behW M V i be th st su (fm_behM i be th st su) (V.1 0)) th (1 : Int32) (1 : Int32)).1)) F dM_behind_91 rfl ?_
        refine aw_goS (pc := 93) (As := [.int ((K (fm_behW M V i be th st su (fm_behM i be th st su) (V.1 0)) th (1 : Int32) (1 : Int32)).1)]) (rest := [.int ((fm_canOf be) &&& (-2 : Int32))]) F zC_ok Zs (tM_canOf  T M Y (v1w ((K (fm_behW M V i be th st su (fm_behM i be th st su) (V.1 0)) th (1 : Int32) (1 : Int32)).2) 0 (V.1 0)) ((K (fm_behW M V i be th st su (fm_behM i be th st su) (V.1 0)) th (1 : Int32) (1 : Int32)).1)) (va_cwS 1 F.1.2.2.2.2 (gi_S wd_814 wd_815 wd_67 wd_816) rfl rfl rfl (by decide +kernel) ⟨by first | (simp only [aw_rm]; omega) | simp only [aw_rm] | omega, by first | (simp only [aw_rm]; omega) | simp only [aw_rm] | omega⟩) rfl (Nat.le_of_ble_eq_true rfl) ⟨Nat.zero_le _, Nat.zero_le _⟩ rfl dM_behind_93 ?_
        show aW _ _ _ _ _ _ _ _ _ _ _ _ _ _ _ _ _ _ _ _ _ [.int (fm_canOf ((K (fm_behW M V i be th st su (fm_behM i be th st su) (V.1 0)) th (1 : Int32) (1 : Int32)).1)), .int ((fm_canOf be) &&& (-2 : Int32))]
        refine aw_ior (pc := 96) F dM_behind_96 ?_
        refine aw_iload (pc := 97) (i := 6) (x := (fm_behM i be th st su)) F dM_behind_97 rfl ?_
        refine aw_if_eq (pc := 99) F 110 dM_behind_99 (by decide) (fun c_99 => ?_) (fun c_99 => ?_)
        · skip
          refine aw_iload_n (pc := 110) (i := 2) (x := be) F dM_behind_110 rfl rfl ?_
          refine aw_goS (pc := 111) (As := [.int be]) (rest := [.int (((fm_canOf be) &&& (-2 : Int32)) ||| (fm_canOf ((K (fm_behW M V i be th st su (fm_behM i be th st su) (V.1 0)) th (1 : Int32) (1 : Int32)).1)))]) F zC_ok Zs (tM_mustOf  T M Y (v1w ((K (fm_behW M V i be th st su (fm_behM i be th st su) (V.1 0)) th (1 : Int32) (1 : Int32)).2) 0 (V.1 0)) be) (va_cwS 1 F.1.2.2.2.2 (gi_S wd_825 wd_826 wd_67 wd_827) rfl rfl rfl (by decide +kernel) ⟨by first | (simp only [aw_rm]; omega) | simp only [aw_rm] | omega, by first | (simp only [aw_rm]; omega) | simp only [aw_rm] | omega⟩) rfl (Nat.le_of_ble_eq_true rfl) ⟨Nat.zero_le _, Nat.zero_le _⟩ rfl dM_behind_111 ?_
          show aW _ _ _ _ _ _ _ _ _ _ _ _ _ _ _ _ _ _ _ _ _ [.int (fm_mustOf be), .int (((fm_canOf be) &&& (-2 : Int32)) ||| (fm_canOf ((K (fm_behW M V i be th st su (fm_behM i be th st su) (V.1 0)) th (1 : Int32) (1 : Int32)).1)))]
          refine aw_goS (pc := 114) (As := [.int (((fm_canOf be) &&& (-2 : Int32)) ||| (fm_canOf ((K (fm_behW M V i be th st su (fm_behM i be th st su) (V.1 0)) th (1 : Int32) (1 : Int32)).1))), .int (fm_mustOf be)]) (rest := []) F zC_ok Zs (tM_outcome  T M Y (v1w ((K (fm_behW M V i be th st su (fm_behM i be th st su) (V.1 0)) th (1 : Int32) (1 : Int32)).2) 0 (V.1 0)) (((fm_canOf be) &&& (-2 : Int32)) ||| (fm_canOf ((K (fm_behW M V i be th st su (fm_behM i be th st su) (V.1 0)) th (1 : Int32) (1 : Int32)).1))) (fm_mustOf be)) (va_cwS 2 F.1.2.2.2.2 (gi_S wd_799 wd_800 wd_67 wd_801) rfl rfl rfl (by decide +kernel) ⟨by first | (simp only [aw_rm]; omega) | simp only [aw_rm] | omega, by first | (simp only [aw_rm]; omega) | simp only [aw_rm] | omega⟩) rfl (Nat.le_of_ble_eq_true rfl) ⟨Nat.zero_le _, Nat.zero_le _⟩ rfl dM_behind_114 ?_
          show aW _ _ _ _ _ _ _ _ _ _ _ _ _ _ _ _ _ _ _ _ _ [.int (fm_outcome (((fm_canOf be) &&& (-2 : Int32)) ||| (fm_canOf ((K (fm_behW M V i be th st su (fm_behM i be th st su) (V.1 0)) th (1 : Int32) (1 : Int32)).1))) (fm_mustOf be))]
          exact aw_iret (pc := 117) F hr hlk dM_behind_117 (by rw [fm_behind, if_neg c_20, if_neg c_60, if_neg c_65, if_pos c_99]) (by rw [fm_behind, if_neg c_20, if_neg c_60, if_neg c_65, if_pos c_99])
        · skip
          refine aw_iload (pc := 102) (i := 8) (x := ((K (fm_behW M V i be th st su (fm_behM i be th st su) (V.1 0)) th (1 : Int32) (1 : Int32)).1)) F dM_behind_102 rfl ?_
          refine aw_goS (pc := 104) (As := [.int ((K (fm_behW M V i be th st su (fm_behM i be th st su) (V.1 0)) th (1 : Int32) (1 : Int32)).1)]) (rest := [.int (((fm_canOf be) &&& (-2 : Int32)) ||| (fm_canOf ((K (fm_behW M V i be th st su (fm_behM i be th st su) (V.1 0)) th (1 : Int32) (1 : Int32)).1)))]) F zC_ok Zs (tM_mustOf  T M Y (v1w ((K (fm_behW M V i be th st su (fm_behM i be th st su) (V.1 0)) th (1 : Int32) (1 : Int32)).2) 0 (V.1 0)) ((K (fm_behW M V i be th st su (fm_behM i be th st su) (V.1 0)) th (1 : Int32) (1 : Int32)).1)) (va_cwS 1 F.1.2.2.2.2 (gi_S wd_825 wd_826 wd_67 wd_827) rfl rfl rfl (by decide +kernel) ⟨by first | (simp only [aw_rm]; omega) | simp only [aw_rm] | omega, by first | (simp only [aw_rm]; omega) | simp only [aw_rm] | omega⟩) rfl (Nat.le_of_ble_eq_true rfl) ⟨Nat.zero_le _, Nat.zero_le _⟩ rfl dM_behind_104 ?_
          show aW _ _ _ _ _ _ _ _ _ _ _ _ _ _ _ _ _ _ _ _ _ [.int (fm_mustOf ((K (fm_behW M V i be th st su (fm_behM i be th st su) (V.1 0)) th (1 : Int32) (1 : Int32)).1)), .int (((fm_canOf be) &&& (-2 : Int32)) ||| (fm_canOf ((K (fm_behW M V i be th st su (fm_behM i be th st su) (V.1 0)) th (1 : Int32) (1 : Int32)).1)))]
          refine aw_goto (pc := 107) F 114 dM_behind_107 (by decide) ?_
          refine aw_goS (pc := 114) (As := [.int (((fm_canOf be) &&& (-2 : Int32)) ||| (fm_canOf ((K (fm_behW M V i be th st su (fm_behM i be th st su) (V.1 0)) th (1 : Int32) (1 : Int32)).1))), .int (fm_mustOf ((K (fm_behW M V i be th st su (fm_behM i be th st su) (V.1 0)) th (1 : Int32) (1 : Int32)).1))]) (rest := []) F zC_ok Zs (tM_outcome  T M Y (v1w ((K (fm_behW M V i be th st su (fm_behM i be th st su) (V.1 0)) th (1 : Int32) (1 : Int32)).2) 0 (V.1 0)) (((fm_canOf be) &&& (-2 : Int32)) ||| (fm_canOf ((K (fm_behW M V i be th st su (fm_behM i be th st su) (V.1 0)) th (1 : Int32) (1 : Int32)).1))) (fm_mustOf ((K (fm_behW M V i be th st su (fm_behM i be th st su) (V.1 0)) th (1 : Int32) (1 : Int32)).1))) (va_cwS 2 F.1.2.2.2.2 (gi_S wd_799 wd_800 wd_67 wd_801) rfl rfl rfl (by decide +kernel) ⟨by first | (simp only [aw_rm]; omega) | simp only [aw_rm] | omega, by first | (simp only [aw_rm]; omega) | simp only [aw_rm] | omega⟩) rfl (Nat.le_of_ble_eq_true rfl) ⟨Nat.zero_le _, Nat.zero_le _⟩ rfl dM_behind_114 ?_
          show aW _ _ _ _ _ _ _ _ _ _ _ _ _ _ _ _ _ _ _ _ _ [.int (fm_outcome (((fm_canOf be) &&& (-2 : Int32)) ||| (fm_canOf ((K (fm_behW M V i be th st su (fm_behM i be th st su) (V.1 0)) th (1 : Int32) (1 : Int32)).1))) (fm_mustOf ((K (fm_behW M V i be th st su (fm_behM i be th st su) (V.1 0)) th (1 : Int32) (1 : Int32)).1)))]
          exact aw_iret (pc := 117) F hr hlk dM_behind_117 (by rw [fm_behind, if_neg c_20, if_neg c_60, if_neg c_65, if_neg c_99]) (by rw [fm_behind, if_neg c_20, if_neg c_60, if_neg c_65, if_neg c_99])
  · skip
    refine aw_iload_n (pc := 23) (i := 2) (x := be) F dM_behind_23 rfl rfl ?_
    exact aw_iret (pc := 24) F hr hlk dM_behind_24 (by rw [fm_behind, if_pos c_20]) (by rw [fm_behind, if_pos c_20])
theorem side_v {K : kmT} {Cn : Int32 → Prop} {M : mT} {Y : yT} {V : vT} {i st su : Int32} (HV : ∀ (V : vT) (a b c : Int32), Cn a → vI V → vI (K V a b c).2) (hc : Cn i) (hv : vI V) : vI (fm_side K M Y V i st su).2 := by
  unfold fm_side
  repeat' split
  all_goals first | exact hv | exact HV _ _ _ _ hc hv
def fm_parK (i : Int32) (st : Int32) (su : Int32) (a : Int32) (b : Int32) : Int32 :=
  if (fm_mustOf a) = (-1 : Int32) then (0 : Int32) else if (fm_mustOf b) = (-1 : Int32) then (0 : Int32) else (1 : Int32)
set_option maxRecDepth 100000 in
set_option maxHeartbeats 4000000 in
theorem tM_parallel_X28 {l : Launch} {D : va_G} {A : Nat → Prop} {ad : Nat → Nat} {tP : Nat} {cI cZ : ClassId} {S : kT} {P : pT} {X : xT} {tl : List va_E} {tyr : List (ClassId × FieldType)} {d : Nat} {p : Program} {e : Env} {s : State} {m : MethodId} {args : Array Value} {below : List Frame} {meth : Method} {c : Code} {Q : State → Prop} (F : aw_F p s m c args cM_parallel 7 (Cond.code yM_parallel cM_parallel 7 (some .int) :: aw_big) yM_parallel.cls D vwCl ((cI, .int) :: (cZ, .boolean) :: tyr)) (Zs : zC A tP s) :
    ∀ (T : Int32) (M : mT) (Y : yT) (V : vT) (i : Int32) (st : Int32) (su : Int32) (a : Int32) (b : Int32)  (hd : 6 ≤ d), aW p l e (aw_rm (d + 2)) s m args below meth c 0 0 Q D vwCl A ad 7 (hC ad cI S P X ++ (hM ad cI cZ T M Y V ++ tl)) [some (.ref (ad 13)), some (.int i), some (.int st), some (.int su), some (.int a), some (.int b), some (.int (fm_parK i st su a b))] 53 [] → aW p l e (aw_rm (d + 2)) s m args below meth c 0 0 Q D vwCl A ad 7 (hC ad cI S P X ++ (hM ad cI cZ T M Y V ++ tl)) [some (.ref (ad 13)), some (.int i), some (.int st), some (.int su), some (.int a), some (.int b), none] 28 [] := by
  intro T M Y V i st su a b hd kq
  refine aw_iload (pc := 28) (i := 4) (x := a) F dM_parallel_28 rfl ?_
  refine aw_goS (pc := 30) (As := [.int a]) (rest := []) F zC_ok Zs (tM_mustOf  T M Y V a) (va_cwS 1 F.1.2.2.2.2 (gi_S wd_825 wd_826 wd_67 wd_827) rfl rfl rfl (by decide +kernel) ⟨by first | (simp only [aw_rm]; omega) | simp only [aw_rm] | omega, by first | (simp only [aw_rm]; omega) | simp only [aw_rm] | omega⟩) rfl (Nat.le_of_ble_eq_true rfl) ⟨Nat.zero_le _, Nat.zero_le _⟩ rfl dM_parallel_30 ?_
  show aW _ _ _ _ _ _ _ _ _ _ _ _ _ _ _ _ _ _ _ _ _ [.int (fm_mustOf a)]
  refine aw_iconst (pc := 33) (v := -1) F dM_parallel_33 (by decide) ?_
  refine aw_icmp_eq (pc := 34) F 50 dM_parallel_34 (by decide) (fun c_34 => ?_) (fun c_34 => ?_)
  · skip
    refine aw_iconst (pc := 50) (v := 0) F dM_parallel_50 (by decide) ?_
    refine aw_istore (pc := 51) (i := 6) (L' := [some (.ref (ad 13)), some (.int i), some (.int st), some (.int su), some (.int a), some (.int b), some (.int (0 : Int32))]) F dM_parallel_51 (by decide) rfl ?_
    rw [show (fm_parK i st su a b) = (0 : Int32) from by rw [fm_parK, if_pos c_34]] at kq
    exact kq
  · skip
    refine aw_iload (pc := 37) (i := 5) (x := b) F dM_parallel_37 rfl ?_
    refine aw_goS (pc := 39) (As := [.int b]) (rest := []) F zC_ok Zs (tM_mustOf  T M Y V b) (va_cwS 1 F.1.2.2.2.2 (gi_S wd_825 wd_826 wd_67 wd_827) rfl rfl rfl (by decide +kernel) ⟨by first | (simp only [aw_rm]; omega) | simp only [aw_rm] | omega, by first | (simp only [aw_rm]; omega) | simp only [aw_rm] | omega⟩) rfl (Nat.le_of_ble_eq_true rfl) ⟨Nat.zero_le _, Nat.zero_le _⟩ rfl dM_parallel_39 ?_
    show aW _ _ _ _ _ _ _ _ _ _ _ _ _ _ _ _ _ _ _ _ _ [.int (fm_mustOf b)]
    refine aw_iconst (pc := 42) (v := -1) F dM_parallel_42 (by decide) ?_
    refine aw_icmp_eq (pc := 43) F 50 dM_parallel_43 (by decide) (fun c_43 => ?_) (fun c_43 => ?_)
    · skip
      refine aw_iconst (pc := 50) (v := 0) F dM_parallel_50 (by decide) ?_
      refine aw_istore (pc := 51) (i := 6) (L' := [some (.ref (ad 13)), some (.int i), some (.int st), some (.int su), some (.int a), some (.int b), some (.int (0 : Int32))]) F dM_parallel_51 (by decide) rfl ?_
      rw [show (fm_parK i st su a b) = (0 : Int32) from by rw [fm_parK, if_neg c_34, if_pos c_43]] at kq
      exact kq
    · skip
      refine aw_iconst (pc := 46) (v := 1) F dM_parallel_46 (by decide) ?_
      refine aw_goto (pc := 47) F 51 dM_parallel_47 (by decide) ?_
      refine aw_istore (pc := 51) (i := 6) (L' := [some (.ref (ad 13)), some (.int i), some (.int st), some (.int su), some (.int a), some (.int b), some (.int (1 : Int32))]) F dM_parallel_51 (by decide) rfl ?_
      rw [show (fm_parK i st su a b) = (1 : Int32) from by rw [fm_parK, if_neg c_34, if_neg c_43]] at kq
      exact kq
def fm_parallel (K : kmT) (M : mT) (Y : yT) (V : vT) (i : Int32) (st : Int32) (su : Int32) : Int32 × vT :=
  if (fm_parK i st su ((fm_side K M Y V ((M.2 2) i.toNatClampNeg) st su).1) ((fm_side K M Y ((fm_side K M Y V ((M.2 2) i.toNatClampNeg) st su).2) ((M.2 3) i.toNatClampNeg) st su).1)) = 0 then
    ((fm_outcome (fm_pairs (fm_canOf ((fm_side K M Y V ((M.2 2) i.toNatClampNeg) st su).1)) (fm_canOf ((fm_side K M Y ((fm_side K M Y V ((M.2 2) i.toNatClampNeg) st su).2) ((M.2 3) i.toNatClampNeg) st su).1))) (-1 : Int32)), ((fm_side K M Y ((fm_side K M Y V ((M.2 2) i.toNatClampNeg) st su).2) ((M.2 3) i.toNatClampNeg) st su).2))
  else
    if (fm_mustOf ((fm_side K M Y V ((M.2 2) i.toNatClampNeg) st su).1)) ≤ (fm_mustOf ((fm_side K M Y ((fm_side K M Y V ((M.2 2) i.toNatClampNeg) st su).2) ((M.2 3) i.toNatClampNeg) st su).1)) then
      ((fm_outcome (fm_pairs (fm_canOf ((fm_side K M Y V ((M.2 2) i.toNatClampNeg) st su).1)) (fm_canOf ((fm_side K M Y ((fm_side K M Y V ((M.2 2) i.toNatClampNeg) st su).2) ((M.2 3) i.toNatClampNeg) st su).1))) (fm_mustOf ((fm_side K M Y ((fm_side K M Y V ((M.2 2) i.toNatClampNeg) st su).2) ((M.2 3) i.toNatClampNeg) st su).1))), ((fm_side K M Y ((fm_side K M Y V ((M.2 2) i.toNatClampNeg) st su).2) ((M.2 3) i.toNatClampNeg) st su).2))
    else
      ((fm_outcome (fm_pairs (fm_canOf ((fm_side K M Y V ((M.2 2) i.toNatClampNeg) st su).1)) (fm_canOf ((fm_side K M Y ((fm_side K M Y V ((M.2 2) i.toNatClampNeg) st su).2) ((M.2 3) i.toNatClampNeg) st su).1))) (fm_mustOf ((fm_side K M Y V ((M.2 2) i.toNatClampNeg) st su).1))), ((fm_side K M Y ((fm_side K M Y V ((M.2 2) i.toNatClampNeg) st su).2) ((M.2 3) i.toNatClampNeg) st su).2))
set_option maxRecDepth 100000 in
set_option maxHeartbeats 4000000 in
theorem tM_parallel {l : Launch} {D : va_G} {A : Nat → Prop} {ad : Nat → Nat} {tP : Nat} {cI cZ : ClassId} {S : kT} {P : pT} {X : xT} {tl : List va_E} {tyr : List (ClassId × FieldType)} {d : Nat} {K : kmT} {Cn : Int32 → Prop} (T : Int32) (M : mT) (Y : yT) (V : vT) (i : Int32) (st : Int32) (su : Int32) (hd : 6 ≤ d) (hw : mW M) (HC : ∀ a, Cn a → mIx M a) (HV : ∀ (V : vT) (a b c : Int32), Cn a → vI V → vI (K V a b c).2) (HK : ∀ (V : vT) (a b c : Int32), Cn a → vI V → aw_M l yM_run (Cond.code yM_run cM_run 4 (some .int) :: aw_big) d D vwCl ((cI, .int) :: (cZ, .boolean) :: tyr) A ad (zC A tP) [.ref (ad 13), .int a, .int b, .int c] (hC ad cI S P X ++ (hM ad cI cZ T M Y V ++ tl)) (some (.int (K V a b c).1)) (hC ad cI S P X ++ (hM ad cI cZ T M Y (K V a b c).2 ++ tl))) (hi : mIx M i) (hc1 : Cn ((M.2 2) i.toNatClampNeg)) (hc2 : Cn ((M.2 3) i.toNatClampNeg)) (hv : vI V) : aw_M l yM_parallel (Cond.code yM_parallel cM_parallel 7 (some .int) :: aw_big) (d + 2) D vwCl ((cI, .int) :: (cZ, .boolean) :: tyr) A ad (zC A tP) [.ref (ad 13), .int i, .int st, .int su] (hC ad cI S P X ++ (hM ad cI cZ T M Y V ++ tl)) (some (.int ((fm_parallel K M Y V i st su).1))) (hC ad cI S P X ++ (hM ad cI cZ T M Y ((fm_parallel K M Y V i st su).2) ++ tl)) := by
  refine aw_met cM_parallel 7 (some .int) [some (.ref (ad 13)), some (.int i), some (.int st), some (.int su), none, none, none] (by decide) rfl (Nat.le_of_ble_eq_true rfl) rfl ?_
  intro p e s m args below meth c F Zs hr hlk
  refine aw_aload_n (pc := 0) (i := 0) (x := ad 13) F dM_parallel_0 rfl rfl ?_
  refine aw_aload_n (pc := 1) (i := 0) (x := ad 13) F dM_parallel_1 rfl rfl ?_
  refine aw_get (pc := 2) (v := .ref (ad 16)) F 13 hM_at13 rfl 7 (by decide) (fun w h => mw (iw_M w h)) (mw wd_656) rfl dM_parallel_2 ?_
  refine aw_iload_n (pc := 5) (i := 1) (x := i) F dM_parallel_5 rfl rfl ?_
  refine aw_iald (pc := 6) F 16 0 hM_at16 rfl (ix_in hw hi) dM_parallel_6 ?_
  refine aw_iload_n (pc := 7) (i := 2) (x := st) F dM_parallel_7 rfl rfl ?_
  refine aw_iload_n (pc := 8) (i := 3) (x := su) F dM_parallel_8 rfl rfl ?_
  refine aw_goV (pc := 9) (As := [.int ((M.2 2) i.toNatClampNeg), .int st, .int su]) (rest := []) F zC_ok Zs 13 hM_at13 rfl (tM_side  T M Y V ((M.2 2) i.toNatClampNeg) st su hd hw HC HV HK hc1 hv) (cwV 3 F.1.2.2.2.2 (gi_V wd_832 wd_834 wd_59 wd_67 wd_835) rfl rfl rfl (by decide +kernel) ⟨by first | (simp only [aw_rm]; omega) | simp only [aw_rm] | omega, by first | (simp only [aw_rm]; omega) | simp only [aw_rm] | omega⟩) rfl (Nat.le_of_ble_eq_true rfl) ⟨Nat.zero_le _, Nat.zero_le _⟩ rfl dM_parallel_9 ?_
  show aW _ _ _ _ _ _ _ _ _ _ _ _ _ _ _ _ _ _ _ _ _ [.int ((fm_side K M Y V ((M.2 2) i.toNatClampNeg) st su).1)]
  refine aw_istore (pc := 12) (i := 4) (L' := [some (.ref (ad 13)), some (.int i), some (.int st), some (.int su), some (.int ((fm_side K M Y V ((M.2 2) i.toNatClampNeg) st su).1)), none, none]) F dM_parallel_12 (by decide) rfl ?_
  refine aw_aload_n (pc := 14) (i := 0) (x := ad 13) F dM_parallel_14 rfl rfl ?_
  refine aw_aload_n (pc := 15) (i := 0) (x := ad 13) F dM_parallel_15 rfl rfl ?_
  refine aw_get (pc := 16) (v := .ref (ad 17)) F 13 hM_at13 rfl 8 (by decide) (fun w h => mw (iw_M w h)) (mw wd_657) rfl dM_parallel_16 ?_
  refine aw_iload_n (pc := 19) (i := 1) (x := i) F dM_parallel_19 rfl rfl ?_
  refine aw_iald (pc := 20) F 17 0 hM_at17 rfl (ix_in hw hi) dM_parallel_20 ?_
  refine aw_iload_n (pc := 21) (i := 2) (x := st) F dM_parallel_21 rfl rfl ?_
  refine aw_iload_n (pc := 22) (i := 3) (x := su) F dM_parallel_22 rfl rfl ?_
  refine aw_goV (pc := 23) (As := [.int ((M.2 3) i.toNatClampNeg), .int st, .int su]) (rest := []) F zC_ok Zs 13 hM_at13 rfl (tM_side  T M Y ((fm_side K M Y V ((M.2 2) i.toNatClampNeg) st su).2) ((M.2 3) i.toNatClampNeg) st su hd hw HC HV HK hc2 (side_v HV hc1 hv)) (cwV 3 F.1.2.2.2.2 (gi_V wd_832 wd_834 wd_59 wd_67 wd_835) rfl rfl rfl (by decide +kernel) ⟨by first | (simp only [aw_rm]; omega) | simp only [aw_rm] | omega, by first | (simp only [aw_rm]; omega) | simp only [aw_rm] | omega⟩) rfl (Nat.le_of_ble_eq_true rfl) ⟨Nat.zero_le _, Nat.zero_le _⟩ rfl dM_parallel_23 ?_
  show aW _ _ _ _ _ _ _ _ _ _ _ _ _ _ _ _ _ _ _ _ _ [.int ((fm_side K M Y ((fm_side K M Y V ((M.2 2) i.toNatClampNeg) st su).2) ((M.2 3) i.toNatClampNeg) st su).1)]
  refine aw_istore (pc := 26) (i := 5) (L' := [some (.ref (ad 13)), some (.int i), some (.int st), some (.int su), some (.int ((fm_side K M Y V ((M.2 2) i.toNatClampNeg) st su).1)), some (.int ((fm_side K M Y ((fm_side K M Y V ((M.2 2) i.toNatClampNeg) st su).2) ((M.2 3) i.toNatClampNeg) st su).1)), none]) F dM_parallel_26 (by decide) rfl ?_
  refine tM_parallel_X28  F Zs  T M Y ((fm_side K M Y ((fm_side K M Y V ((M.2 2) i.toNatClampNeg) st su).2) ((M.2 3) i.toNatClampNeg) st su).2) i st su ((fm_side K M Y V ((M.2 2) i.toNatClampNeg) st su).1) ((fm_side K M Y ((fm_side K M Y V ((M.2 2) i.toNatClampNeg) st su).2) ((M.2 3) i.toNatClampNeg) st su).1)  hd ?_
  refine aw_iload (pc := 53) (i := 4) (x := ((fm_side K M Y V ((M.2 2) i.toNatClampNeg) st su).1)) F dM_parallel_53 rfl ?_
  refine aw_goS (pc := 55) (As := [.int ((fm_side K M Y V ((M.2 2) i.toNatClampNeg) st su).1)]) (rest := []) F zC_ok Zs (tM_canOf  T M Y ((fm_side K M Y ((fm_side K M Y V ((M.2 2) i.toNatClampNeg) st su).2) ((M.2 3) i.toNatClampNeg) st su).2) ((fm_side K M Y V ((M.2 2) i.toNatClampNeg) st su).1)) (va_cwS 1 F.1.2.2.2.2 (gi_S wd_814 wd_815 wd_67 wd_816) rfl rfl rfl (by decide +kernel) ⟨by first | (simp only [aw_rm]; omega) | simp only [aw_rm] | omega, by first | (simp only [aw_rm]; omega) | simp only [aw_rm] | omega⟩) rfl (Nat.le_of_ble_eq_true rfl) ⟨Nat.zero_le _, Nat.zero_le _⟩ rfl dM_parallel_55 ?_
  show aW _ _ _ _ _ _ _ _ _ _ _ _ _ _ _ _ _ _ _ _ _ [.int (fm_canOf ((fm_side K M Y V ((M.2 2) i.toNatClampNeg) st su).1))]
  refine aw_iload (pc := 58) (i := 5) (x := ((fm_side K M Y ((fm_side K M Y V ((M.2 2) i.toNatClampNeg) st su).2) ((M.2 3) i.toNatClampNeg) st su).1)) F dM_parallel_58 rfl ?_
  refine aw_goS (pc := 60) (As := [.int ((fm_side K M Y ((fm_side K M Y V ((M.2 2) i.toNatClampNeg) st su).2) ((M.2 3) i.toNatClampNeg) st su).1)]) (rest := [.int (fm_canOf ((fm_side K M Y V ((M.2 2) i.toNatClampNeg) st su).1))]) F zC_ok Zs (tM_canOf  T M Y ((fm_side K M Y ((fm_side K M Y V ((M.2 2) i.toNatClampNeg) st su).2) ((M.2 3) i.toNatClampNeg) st su).2) ((fm_side K M Y ((fm_side K M Y V ((M.2 2) i.toNatClampNeg) st su).2) ((M.2 3) i.toNatClampNeg) st su).1)) (va_cwS 1 F.1.2.2.2.2 (gi_S wd_814 wd_815 wd_67 wd_816) rfl rfl rfl (by decide +kernel) ⟨by first | (simp only [aw_rm]; omega) | simp only [aw_rm] | omega, by first | (simp only [aw_rm]; omega) | simp only [aw_rm] | omega⟩) rfl (Nat.le_of_ble_eq_true rfl) ⟨Nat.zero_le _, Nat.zero_le _⟩ rfl dM_parallel_60 ?_
  show aW _ _ _ _ _ _ _ _ _ _ _ _ _ _ _ _ _ _ _ _ _ [.int (fm_canOf ((fm_side K M Y ((fm_side K M Y V ((M.2 2) i.toNatClampNeg) st su).2) ((M.2 3) i.toNatClampNeg) st su).1)), .int (fm_canOf ((fm_side K M Y V ((M.2 2) i.toNatClampNeg) st su).1))]
  refine aw_goS (pc := 63) (As := [.int (fm_canOf ((fm_side K M Y V ((M.2 2) i.toNatClampNeg) st su).1)), .int (fm_canOf ((fm_side K M Y ((fm_side K M Y V ((M.2 2) i.toNatClampNeg) st su).2) ((M.2 3) i.toNatClampNeg) st su).1))]) (rest := []) F zC_ok Zs (tM_pairs  T M Y ((fm_side K M Y ((fm_side K M Y V ((M.2 2) i.toNatClampNeg) st su).2) ((M.2 3) i.toNatClampNeg) st su).2) (fm_canOf ((fm_side K M Y V ((M.2 2) i.toNatClampNeg) st su).1)) (fm_canOf ((fm_side K M Y ((fm_side K M Y V ((M.2 2) i.toNatClampNeg) st su).2) ((M.2 3) i.toNatClampNeg) st su).1))) (va_cwS 2 F.1.2.2.2.2 (gi_S wd_773 wd_774 wd_67 wd_775) rfl rfl rfl (by decide +kernel) ⟨by first | (simp only [aw_rm]; omega) | simp only [aw_rm] | omega, by first | (simp only [aw_rm]; omega) | simp only [aw_rm] | omega⟩) rfl (Nat.le_of_ble_eq_true rfl) ⟨Nat.zero_le _, Nat.zero_le _⟩ rfl dM_parallel_63 ?_
  show aW _ _ _ _ _ _ _ _ _ _ _ _ _ _ _ _ _ _ _ _ _ [.int (fm_pairs (fm_canOf ((fm_side K M Y V ((M.2 2) i.toNatClampNeg) st su).1)) (fm_canOf ((fm_side K M Y ((fm_side K M Y V ((M.2 2) i.toNatClampNeg) st su).2) ((M.2 3) i.toNatClampNeg) st su).1)))]
  refine aw_iload (pc := 66) (i := 6) (x := (fm_parK i st su ((fm_side K M Y V ((M.2 2) i.toNatClampNeg) st su).1) ((fm_side K M Y ((fm_side K M Y V ((M.2 2) i.toNatClampNeg) st su).2) ((M.2 3) i.toNatClampNeg) st su).1))) F dM_parallel_66 rfl ?_
  refine aw_if_eq (pc := 68) F 100 dM_parallel_68 (by decide) (fun c_68 => ?_) (fun c_68 => ?_)
  · skip
    refine aw_iconst (pc := 100) (v := -1) F dM_parallel_100 (by decide) ?_
    refine aw_goS (pc := 101) (As := [.int (fm_pairs (fm_canOf ((fm_side K M Y V ((M.2 2) i.toNatClampNeg) st su).1)) (fm_canOf ((fm_side K M Y ((fm_side K M Y V ((M.2 2) i.toNatClampNeg) st su).2) ((M.2 3) i.toNatClampNeg) st su).1))), .int (-1 : Int32)]) (rest := []) F zC_ok Zs (tM_outcome  T M Y ((fm_side K M Y ((fm_side K M Y V ((M.2 2) i.toNatClampNeg) st su).2) ((M.2 3) i.toNatClampNeg) st su).2) (fm_pairs (fm_canOf ((fm_side K M Y V ((M.2 2) i.toNatClampNeg) st su).1)) (fm_canOf ((fm_side K M Y ((fm_side K M Y V ((M.2 2) i.toNatClampNeg) st su).2) ((M.2 3) i.toNatClampNeg) st su).1))) (-1 : Int32)) (va_cwS 2 F.1.2.2.2.2 (gi_S wd_799 wd_800 wd_67 wd_801) rfl rfl rfl (by decide +kernel) ⟨by first | (simp only [aw_rm]; omega) | simp only [aw_rm] | omega, by first | (simp only [aw_rm]; omega) | simp only [aw_rm] | omega⟩) rfl (Nat.le_of_ble_eq_true rfl) ⟨Nat.zero_le _, Nat.zero_le _⟩ rfl dM_parallel_101 ?_
    show aW _ _ _ _ _ _ _ _ _ _ _ _ _ _ _ _ _ _ _ _ _ [.int (fm_outcome (fm_pairs (fm_canOf ((fm_side K M Y V ((M.2 2) i.toNatClampNeg) st su).1)) (fm_canOf ((fm_side K M Y ((fm_side K M Y V ((M.2 2) i.toNatClampNeg) st su).2) ((M.2 3) i.toNatClampNeg) st su).1))) (-1 : Int32))]
    exact aw_iret (pc := 104) F hr hlk dM_parallel_104 (by rw [fm_parallel, if_pos c_68]) (by rw [fm_parallel, if_pos c_68])
  · skip
    refine aw_iload (pc := 71) (i := 4) (x := ((fm_side K M Y V ((M.2 2) i.toNatClampNeg) st su).1)) F dM_parallel_71 rfl ?_
    refine aw_goS (pc := 73) (As := [.int ((fm_side K M Y V ((M.2 2) i.toNatClampNeg) st su).1)]) (rest := [.int (fm_pairs (fm_canOf ((fm_side K M Y V ((M.2 2) i.toNatClampNeg) st su).1)) (fm_canOf ((fm_side K M Y ((fm_side K M Y V ((M.2 2) i.toNatClampNeg) st su).2) ((M.2 3) i.toNatClampNeg) st su).1)))]) F zC_ok Zs (tM_mustOf  T M Y ((fm_side K M Y ((fm_side K M Y V ((M.2 2) i.toNatClampNeg) st su).2) ((M.2 3) i.toNatClampNeg) st su).2) ((fm_side K M Y V ((M.2 2) i.toNatClampNeg) st su).1)) (va_cwS 1 F.1.2.2.2.2 (gi_S wd_825 wd_826 wd_67 wd_827) rfl rfl rfl (by decide +kernel) ⟨by first | (simp only [aw_rm]; omega) | simp only [aw_rm] | omega, by first | (simp only [aw_rm]; omega) | simp only [aw_rm] | omega⟩) rfl (Nat.le_of_ble_eq_true rfl) ⟨Nat.zero_le _, Nat.zero_le _⟩ rfl dM_parallel_73 ?_
    show aW _ _ _ _ _ _ _ _ _ _ _ _ _ _ _ _ _ _ _ _ _ [.int (fm_mustOf ((fm_side K M Y V ((M.2 2) i.toNatClampNeg) st su).1)), .int (fm_pairs (fm_canOf ((fm_side K M Y V ((M.2 2) i.toNatClampNeg) st su).1)) (fm_canOf ((fm_side K M Y ((fm_side K M Y V ((M.2 2) i.toNatClampNeg) st su).2) ((M.2 3) i.toNatClampNeg) st su).1)))]
    refine aw_iload (pc := 76) (i := 5) (x := ((fm_side K M Y ((fm_side K M Y V ((M.2 2) i.toNatClampNeg) st su).2) ((M.2 3) i.toNatClampNeg) st su).1)) F dM_parallel_76 rfl ?_
    refine aw_goS (pc := 78) (As := [.int ((fm_side K M Y ((fm_side K M Y V ((M.2 2) i.toNatClampNeg) st su).2) ((M.2 3) i.toNatClampNeg) st su).1)]) (rest := [.int (fm_mustOf ((fm_side K M Y V ((M.2 2) i.toNatClampNeg) st su).1)), .int (fm_pairs (fm_canOf ((fm_side K M Y V ((M.2 2) i.toNatClampNeg) st su).1)) (fm_canOf ((fm_side K M Y ((fm_side K M Y V ((M.2 2) i.toNatClampNeg) st su).2) ((M.2 3) i.toNatClampNeg) st su).1)))]) F zC_ok Zs (tM_mustOf  T M Y ((fm_side K M Y ((fm_side K M Y V ((M.2 2) i.toNatClampNeg) st su).2) ((M.2 3) i.toNatClampNeg) st su).2) ((fm_side K M Y ((fm_side K M Y V ((M.2 2) i.toNatClampNeg) st su).2) ((M.2 3) i.toNatClampNeg) st su).1)) (va_cwS 1 F.1.2.2.2.2 (gi_S wd_825 wd_826 wd_67 wd_827) rfl rfl rfl (by decide +kernel) ⟨by first | (simp only [aw_rm]; omega) | simp only [aw_rm] | omega, by first | (simp only [aw_rm]; omega) | simp only [aw_rm] | omega⟩) rfl (Nat.le_of_ble_eq_true rfl) ⟨Nat.zero_le _, Nat.zero_le _⟩ rfl dM_parallel_78 ?_
    show aW _ _ _ _ _ _ _ _ _ _ _ _ _ _ _ _ _ _ _ _ _ [.int (fm_mustOf ((fm_side K M Y ((fm_side K M Y V ((M.2 2) i.toNatClampNeg) st su).2) ((M.2 3) i.toNatClampNeg) st su).1)), .int (fm_mustOf ((fm_side K M Y V ((M.2 2) i.toNatClampNeg) st su).1)), .int (fm_pairs (fm_canOf ((fm_side K M Y V ((M.2 2) i.toNatClampNeg) st su).1)) (fm_canOf ((fm_side K M Y ((fm_side K M Y V ((M.2 2) i.toNatClampNeg) st su).2) ((M.2 3) i.toNatClampNeg) st su).1)))]
    refine aw_icmp_le (pc := 81) F 92 dM_parallel_81 (by decide) (fun c_81 => ?_) (fun c_81 => ?_)
    · skip
      refine aw_iload (pc := 92) (i := 5) (x := ((fm_side K M Y ((fm_side K M Y V ((M.2 2) i.toNatClampNeg) st su).2) ((M.2 3) i.toNatClampNeg) st su).1)) F dM_parallel_92 rfl ?_
      refine aw_goS (pc := 94) (As := [.int ((fm_side K M Y ((fm_side K M Y V ((M.2 2) i.toNatClampNeg) st su).2) ((M.2 3) i.toNatClampNeg) st su).1)]) (rest := [.int (fm_pairs (fm_canOf ((fm_side K M Y V ((M.2 2) i.toNatClampNeg) st su).1)) (fm_canOf ((fm_side K M Y ((fm_side K M Y V ((M.2 2) i.toNatClampNeg) st su).2) ((M.2 3) i.toNatClampNeg) st su).1)))]) F zC_ok Zs (tM_mustOf  T M Y ((fm_side K M Y ((fm_side K M Y V ((M.2 2) i.toNatClampNeg) st su).2) ((M.2 3) i.toNatClampNeg) st su).2) ((fm_side K M Y ((fm_side K M Y V ((M.2 2) i.toNatClampNeg) st su).2) ((M.2 3) i.toNatClampNeg) st su).1)) (va_cwS 1 F.1.2.2.2.2 (gi_S wd_825 wd_826 wd_67 wd_827) rfl rfl rfl (by decide +kernel) ⟨by first | (simp only [aw_rm]; omega) | simp only [aw_rm] | omega, by first | (simp only [aw_rm]; omega) | simp only [aw_rm] | omega⟩) rfl (Nat.le_of_ble_eq_true rfl) ⟨Nat.zero_le _, Nat.zero_le _⟩ rfl dM_parallel_94 ?_
      show aW _ _ _ _ _ _ _ _ _ _ _ _ _ _ _ _ _ _ _ _ _ [.int (fm_mustOf ((fm_side K M Y ((fm_side K M Y V ((M.2 2) i.toNatClampNeg) st su).2) ((M.2 3) i.toNatClampNeg) st su).1)), .int (fm_pairs (fm_canOf ((fm_side K M Y V ((M.2 2) i.toNatClampNeg) st su).1)) (fm_canOf ((fm_side K M Y ((fm_side K M Y V ((M.2 2) i.toNatClampNeg) st su).2) ((M.2 3) i.toNatClampNeg) st su).1)))]
      refine aw_goto (pc := 97) F 101 dM_parallel_97 (by decide) ?_
      refine aw_goS (pc := 101) (As := [.int (fm_pairs (fm_canOf ((fm_side K M Y V ((M.2 2) i.toNatClampNeg) st su).1)) (fm_canOf ((fm_side K M Y ((fm_side K M Y V ((M.2 2) i.toNatClampNeg) st su).2) ((M.2 3) i.toNatClampNeg) st su).1))), .int (fm_mustOf ((fm_side K M Y ((fm_side K M Y V ((M.2 2) i.toNatClampNeg) st su).2) ((M.2 3) i.toNatClampNeg) st su).1))]) (rest := []) F zC_ok Zs (tM_outcome  T M Y ((fm_side K M Y ((fm_side K M Y V ((M.2 2) i.toNatClampNeg) st su).2) ((M.2 3) i.toNatClampNeg) st su).2) (fm_pairs (fm_canOf ((fm_side K M Y V ((M.2 2) i.toNatClampNeg) st su).1)) (fm_canOf ((fm_side K M Y ((fm_side K M Y V ((M.2 2) i.toNatClampNeg) st su).2) ((M.2 3) i.toNatClampNeg) st su).1))) (fm_mustOf ((fm_side K M Y ((fm_side K M Y V ((M.2 2) i.toNatClampNeg) st su).2) ((M.2 3) i.toNatClampNeg) st su).1))) (va_cwS 2 F.1.2.2.2.2 (gi_S wd_799 wd_800 wd_67 wd_801) rfl rfl rfl (by decide +kernel) ⟨by first | (simp only [aw_rm]; omega) | simp only [aw_rm] | omega, by first | (simp only [aw_rm]; omega) | simp only [aw_rm] | omega⟩) rfl (Nat.le_of_ble_eq_true rfl) ⟨Nat.zero_le _, Nat.zero_le _⟩ rfl dM_parallel_101 ?_
      show aW _ _ _ _ _ _ _ _ _ _ _ _ _ _ _ _ _ _ _ _ _ [.int (fm_outcome (fm_pairs (fm_canOf ((fm_side K M Y V ((M.2 2) i.toNatClampNeg) st su).1)) (fm_canOf ((fm_side K M Y ((fm_side K M Y V ((M.2 2) i.toNatClampNeg) st su).2) ((M.2 3) i.toNatClampNeg) st su).1))) (fm_mustOf ((fm_side K M Y ((fm_side K M Y V ((M.2 2) i.toNatClampNeg) st su).2) ((M.2 3) i.toNatClampNeg) st su).1)))]
      exact aw_iret (pc := 104) F hr hlk dM_parallel_104 (by rw [fm_parallel, if_neg c_68, if_pos c_81]) (by rw [fm_parallel, if_neg c_68, if_pos c_81])
    · skip
      refine aw_iload (pc := 84) (i := 4) (x := ((fm_side K M Y V ((M.2 2) i.toNatClampNeg) st su).1)) F dM_parallel_84 rfl ?_
      refine aw_goS (pc := 86) (As := [.int ((fm_side K M Y V ((M.2 2) i.toNatClampNeg) st su).1)]) (rest := [.int (fm_pairs (fm_canOf ((fm_side K M Y V ((M.2 2) i.toNatClampNeg) st su).1)) (fm_canOf ((fm_side K M Y ((fm_side K M Y V ((M.2 2) i.toNatClampNeg) st su).2) ((M.2 3) i.toNatClampNeg) st su).1)))]) F zC_ok Zs (tM_mustOf  T M Y ((fm_side K M Y ((fm_side K M Y V ((M.2 2) i.toNatClampNeg) st su).2) ((M.2 3) i.toNatClampNeg) st su).2) ((fm_side K M Y V ((M.2 2) i.toNatClampNeg) st su).1)) (va_cwS 1 F.1.2.2.2.2 (gi_S wd_825 wd_826 wd_67 wd_827) rfl rfl rfl (by decide +kernel) ⟨by first | (simp only [aw_rm]; omega) | simp only [aw_rm] | omega, by first | (simp only [aw_rm]; omega) | simp only [aw_rm] | omega⟩) rfl (Nat.le_of_ble_eq_true rfl) ⟨Nat.zero_le _, Nat.zero_le _⟩ rfl dM_parallel_86 ?_
      show aW _ _ _ _ _ _ _ _ _ _ _ _ _ _ _ _ _ _ _ _ _ [.int (fm_mustOf ((fm_side K M Y V ((M.2 2) i.toNatClampNeg) st su).1)), .int (fm_pairs (fm_canOf ((fm_side K M Y V ((M.2 2) i.toNatClampNeg) st su).1)) (fm_canOf ((fm_side K M Y ((fm_side K M Y V ((M.2 2) i.toNatClampNeg) st su).2) ((M.2 3) i.toNatClampNeg) st su).1)))]
      refine aw_goto (pc := 89) F 101 dM_parallel_89 (by decide) ?_
      refine aw_goS (pc := 101) (As := [.int (fm_pairs (fm_canOf ((fm_side K M Y V ((M.2 2) i.toNatClampNeg) st su).1)) (fm_canOf ((fm_side K M Y ((fm_side K M Y V ((M.2 2) i.toNatClampNeg) st su).2) ((M.2 3) i.toNatClampNeg) st su).1))), .int (fm_mustOf ((fm_side K M Y V ((M.2 2) i.toNatClampNeg) st su).1))]) (rest := []) F zC_ok Zs (tM_outcome  T M Y ((fm_side K M Y ((fm_side K M Y V ((M.2 2) i.toNatClampNeg) st su).2) ((M.2 3) i.toNatClampNeg) st su).2) (fm_pairs (fm_canOf ((fm_side K M Y V ((M.2 2) i.toNatClampNeg) st su).1)) (fm_canOf ((fm_side K M Y ((fm_side K M Y V ((M.2 2) i.toNatClampNeg) st su).2) ((M.2 3) i.toNatClampNeg) st su).1))) (fm_mustOf ((fm_side K M Y V ((M.2 2) i.toNatClampNeg) st su).1))) (va_cwS 2 F.1.2.2.2.2 (gi_S wd_799 wd_800 wd_67 wd_801) rfl rfl rfl (by decide +kernel) ⟨by first | (simp only [aw_rm]; omega) | simp only [aw_rm] | omega, by first | (simp only [aw_rm]; omega) | simp only [aw_rm] | omega⟩) rfl (Nat.le_of_ble_eq_true rfl) ⟨Nat.zero_le _, Nat.zero_le _⟩ rfl dM_parallel_101 ?_
      show aW _ _ _ _ _ _ _ _ _ _ _ _ _ _ _ _ _ _ _ _ _ [.int (fm_outcome (fm_pairs (fm_canOf ((fm_side K M Y V ((M.2 2) i.toNatClampNeg) st su).1)) (fm_canOf ((fm_side K M Y ((fm_side K M Y V ((M.2 2) i.toNatClampNeg) st su).2) ((M.2 3) i.toNatClampNeg) st su).1))) (fm_mustOf ((fm_side K M Y V ((M.2 2) i.toNatClampNeg) st su).1)))]
      exact aw_iret (pc := 104) F hr hlk dM_parallel_104 (by rw [fm_parallel, if_neg c_68, if_neg c_81]) (by rw [fm_parallel, if_neg c_68, if_neg c_81])
def fm_trpL : Nat → mT → vT → Int32 → Int32 → Int32 → Int32 → Int32 × vT
  | 0, M, V, i, a, mc, k => (k, V)
  | n + 1, M, V, i, a, mc, k =>
      if ((M.2 4) i.toNatClampNeg) ≤ k then
      (k, V)
    else
      if mc = (2 : Int32) then
        if ((M.2 8) k.toNatClampNeg) = (-1 : Int32) then
          (fm_trpL n M V i a mc (k + (1 : Int32)))
        else
          (fm_trpL n M (v2w V 0 ((M.2 8) k.toNatClampNeg).toNatClampNeg (vp_nar .boolean (0 : Int32))) i a mc (k + (1 : Int32)))
      else
        (k, V)
set_option maxRecDepth 100000 in
set_option maxHeartbeats 4000000 in
theorem tM_trap_X24 {l : Launch} {D : va_G} {A : Nat → Prop} {ad : Nat → Nat} {tP : Nat} {cI cZ : ClassId} {S : kT} {P : pT} {X : xT} {tl : List va_E} {tyr : List (ClassId × FieldType)} {p : Program} {e : Env} {R : Room} {s : State} {m : MethodId} {args : Array Value} {below : List Frame} {meth : Method} {c : Code} {Q : State → Prop} (F : aw_F p s m c args cM_trap 7 (Cond.code yM_trap cM_trap 7 (some .int) :: aw_big) yM_trap.cls D vwCl ((cI, .int) :: (cZ, .boolean) :: tyr)) (Zs : zC A tP s) :
    ∀ (n : Nat) (T : Int32) (M : mT) (Y : yT) (V : vT) (i : Int32) (a : Int32) (mc : Int32) (k : Int32) (hw : mW M) (hi : mIx M i) (h1 : 0 ≤ k.toInt) (h2 : k.toInt ≤ 120) (hm : 120 < k.toInt + n), aW p l e R s m args below meth c 0 0 Q D vwCl A ad 7 (hC ad cI S P X ++ (hM ad cI cZ T M Y ((fm_trpL n M V i a mc k).2) ++ tl)) [some (.ref (ad 13)), some (.int i), none, none, some (.int a), some (.int mc), some (.int ((fm_trpL n M V i a mc k).1))] 71 [] → aW p l e R s m args below meth c 0 0 Q D vwCl A ad 7 (hC ad cI S P X ++ (hM ad cI cZ T M Y V ++ tl)) [some (.ref (ad 13)), some (.int i), none, none, some (.int a), some (.int mc), some (.int k)] 24 [] := by
  intro n
  induction n with
  | zero =>
    intro T M Y V i a mc k hw hi h1 h2 hm kq
    exfalso; omega
  | succ n ih =>
    intro T M Y V i a mc k hw hi h1 h2 hm kq
    refine aw_iload (pc := 24) (i := 6) (x := k) F dM_trap_24 rfl ?_
    refine aw_aload_n (pc := 26) (i := 0) (x := ad 13) F dM_trap_26 rfl rfl ?_
    refine aw_get (pc := 27) (v := .ref (ad 18)) F 13 hM_at13 rfl 9 (by decide) (fun w h => mw (iw_M w h)) (mw wd_658) rfl dM_trap_27 ?_
    refine aw_iload_n (pc := 30) (i := 1) (x := i) F dM_trap_30 rfl rfl ?_
    refine aw_iald (pc := 31) F 18 0 hM_at18 rfl (ix_in hw hi) dM_trap_31 ?_
    refine aw_icmp_ge (pc := 32) F 71 dM_trap_32 (by decide) (fun c_32 => ?_) (fun c_32 => ?_)
    · skip
      rw [show (fm_trpL (n + 1) M V i a mc k) = (k, V) from by rw [fm_trpL, if_pos c_32]] at kq
      exact kq
    · skip
      refine aw_iload (pc := 35) (i := 5) (x := mc) F dM_trap_35 rfl ?_
      refine aw_iconst (pc := 37) (v := 2) F dM_trap_37 (by decide) ?_
      refine aw_icmp_ne (pc := 38) F 71 dM_trap_38 (by decide) (fun c_38 => ?_) (fun c_38 => ?_)
      · skip
        rw [show (fm_trpL (n + 1) M V i a mc k) = (k, V) from by rw [fm_trpL, if_neg c_32, if_neg c_38]] at kq
        exact kq
      · skip
        refine aw_aload_n (pc := 41) (i := 0) (x := ad 13) F dM_trap_41 rfl rfl ?_
        refine aw_get (pc := 42) (v := .ref (ad 22)) F 13 hM_at13 rfl 13 (by decide) (fun w h => mw (iw_M w h)) (mw wd_662) rfl dM_trap_42 ?_
        refine aw_iload (pc := 45) (i := 6) (x := k) F dM_trap_45 rfl ?_
        refine aw_iald (pc := 47) F 22 0 hM_at22 rfl (ix_in hw (hk_in hw hi h1 c_32)) dM_trap_47 ?_
        refine aw_iconst (pc := 48) (v := -1) F dM_trap_48 (by decide) ?_
        refine aw_icmp_eq (pc := 49) F 65 dM_trap_49 (by decide) (fun c_49 => ?_) (fun c_49 => ?_)
        · skip
          refine aw_iinc (pc := 65) (x := k) (v := k + (1 : Int32)) (L' := [some (.ref (ad 13)), some (.int i), none, none, some (.int a), some (.int mc), some (.int (k + (1 : Int32)))]) F dM_trap_65 rfl rfl (by decide) rfl ?_
          refine aw_goto (pc := 68) F 24 dM_trap_68 (by decide) ?_
          rw [show (fm_trpL (n + 1) M V i a mc k) = (fm_trpL n M V i a mc (k + (1 : Int32))) from by rw [fm_trpL, if_neg c_32, if_pos c_38, if_pos c_49]] at kq
          exact ih T M Y V i a mc (k + (1 : Int32)) hw hi (by have a := mI_up hw (hk_in hw hi h1 c_32); omega) (by have a := mI_up hw (hk_in hw hi h1 c_32); omega) (by have a := mI_up hw (hk_in hw hi h1 c_32); omega) kq
        · skip
          refine aw_aload_n (pc := 52) (i := 0) (x := ad 13) F dM_trap_52 rfl rfl ?_
          refine aw_get (pc := 53) (v := .ref (ad 28)) F 13 hM_at13 rfl 21 (by decide) (fun w h => mw (iw_M w h)) (mw wd_670) rfl dM_trap_53 ?_
          refine aw_aload_n (pc := 56) (i := 0) (x := ad 13) F dM_trap_56 rfl rfl ?_
          refine aw_get (pc := 57) (v := .ref (ad 22)) F 13 hM_at13 rfl 13 (by decide) (fun w h => mw (iw_M w h)) (mw wd_662) rfl dM_trap_57 ?_
          refine aw_iload (pc := 60) (i := 6) (x := k) F dM_trap_60 rfl ?_
          refine aw_iald (pc := 62) F 22 0 hM_at22 rfl (ix_in hw (hk_in hw hi h1 c_32)) dM_trap_62 ?_
          refine aw_iconst (pc := 63) (v := 0) F dM_trap_63 (by decide) ?_
          refine aw_zast (pc := 64) (hp' := (hC ad cI S P X ++ (hM ad cI cZ T M Y (v2w V 0 ((M.2 8) k.toNatClampNeg).toNatClampNeg (vp_nar .boolean (0 : Int32))) ++ tl))) F 28 1 hM_at28 rfl (hk_pa hw (hk_in hw hi h1 c_32) c_49) hM_st28 dM_trap_64 ?_
          refine aw_iinc (pc := 65) (x := k) (v := k + (1 : Int32)) (L' := [some (.ref (ad 13)), some (.int i), none, none, some (.int a), some (.int mc), some (.int (k + (1 : Int32)))]) F dM_trap_65 rfl rfl (by decide) rfl ?_
          refine aw_goto (pc := 68) F 24 dM_trap_68 (by decide) ?_
          rw [show (fm_trpL (n + 1) M V i a mc k) = (fm_trpL n M (v2w V 0 ((M.2 8) k.toNatClampNeg).toNatClampNeg (vp_nar .boolean (0 : Int32))) i a mc (k + (1 : Int32))) from by rw [fm_trpL, if_neg c_32, if_pos c_38, if_neg c_49]] at kq
          exact ih T M Y (v2w V 0 ((M.2 8) k.toNatClampNeg).toNatClampNeg (vp_nar .boolean (0 : Int32))) i a mc (k + (1 : Int32)) hw hi (by have a := mI_up hw (hk_in hw hi h1 c_32); omega) (by have a := mI_up hw (hk_in hw hi h1 c_32); omega) (by have a := mI_up hw (hk_in hw hi h1 c_32); omega) kq
def fm_trap (K : kmT) (M : mT) (V : vT) (i : Int32) (st : Int32) (su : Int32) : Int32 × vT :=
  if (fm_mustOf ((K V ((M.2 2) i.toNatClampNeg) st su).1)) = (2 : Int32) then
    ((fm_outcome (fm_caught (fm_canOf ((K V ((M.2 2) i.toNatClampNeg) st su).1))) (0 : Int32)), ((fm_trpL 121 M ((K V ((M.2 2) i.toNatClampNeg) st su).2) i ((K V ((M.2 2) i.toNatClampNeg) st su).1) (fm_mustOf ((K V ((M.2 2) i.toNatClampNeg) st su).1)) i).2))
  else
    if (fm_mustOf ((K V ((M.2 2) i.toNatClampNeg) st su).1)) ≤ (2 : Int32) then
      ((fm_outcome (fm_caught (fm_canOf ((K V ((M.2 2) i.toNatClampNeg) st su).1))) (fm_mustOf ((K V ((M.2 2) i.toNatClampNeg) st su).1))), ((fm_trpL 121 M ((K V ((M.2 2) i.toNatClampNeg) st su).2) i ((K V ((M.2 2) i.toNatClampNeg) st su).1) (fm_mustOf ((K V ((M.2 2) i.toNatClampNeg) st su).1)) i).2))
    else
      ((fm_outcome (fm_caught (fm_canOf ((K V ((M.2 2) i.toNatClampNeg) st su).1))) ((fm_mustOf ((K V ((M.2 2) i.toNatClampNeg) st su).1)) - (1 : Int32))), ((fm_trpL 121 M ((K V ((M.2 2) i.toNatClampNeg) st su).2) i ((K V ((M.2 2) i.toNatClampNeg) st su).1) (fm_mustOf ((K V ((M.2 2) i.toNatClampNeg) st su).1)) i).2))
set_option maxRecDepth 100000 in
set_option maxHeartbeats 4000000 in
theorem tM_trap {l : Launch} {D : va_G} {A : Nat → Prop} {ad : Nat → Nat} {tP : Nat} {cI cZ : ClassId} {S : kT} {P : pT} {X : xT} {tl : List va_E} {tyr : List (ClassId × FieldType)} {d : Nat} {K : kmT} {Cn : Int32 → Prop} (T : Int32) (M : mT) (Y : yT) (V : vT) (i : Int32) (st : Int32) (su : Int32) (hd : 6 ≤ d) (hw : mW M) (HC : ∀ a, Cn a → mIx M a) (HV : ∀ (V : vT) (a b c : Int32), Cn a → vI V → vI (K V a b c).2) (HK : ∀ (V : vT) (a b c : Int32), Cn a → vI V → aw_M l yM_run (Cond.code yM_run cM_run 4 (some .int) :: aw_big) d D vwCl ((cI, .int) :: (cZ, .boolean) :: tyr) A ad (zC A tP) [.ref (ad 13), .int a, .int b, .int c] (hC ad cI S P X ++ (hM ad cI cZ T M Y V ++ tl)) (some (.int (K V a b c).1)) (hC ad cI S P X ++ (hM ad cI cZ T M Y (K V a b c).2 ++ tl))) (hi : mIx M i) (hc1 : Cn ((M.2 2) i.toNatClampNeg)) (hv : vI V) : aw_M l yM_trap (Cond.code yM_trap cM_trap 7 (some .int) :: aw_big) (d + 1) D vwCl ((cI, .int) :: (cZ, .boolean) :: tyr) A ad (zC A tP) [.ref (ad 13), .int i, .int st, .int su] (hC ad cI S P X ++ (hM ad cI cZ T M Y V ++ tl)) (some (.int ((fm_trap K M V i st su).1))) (hC ad cI S P X ++ (hM ad cI cZ T M Y ((fm_trap K M V i st su).2) ++ tl)) := by
  refine aw_met cM_trap 7 (some .int) [some (.ref (ad 13)), some (.int i), some (.int st), some (.int su), none, none, none] (by decide) rfl (Nat.le_of_ble_eq_true rfl) rfl ?_
  intro p e s m args below meth c F Zs hr hlk
  refine aw_aload_n (pc := 0) (i := 0) (x := ad 13) F dM_trap_0 rfl rfl ?_
  refine aw_aload_n (pc := 1) (i := 0) (x := ad 13) F dM_trap_1 rfl rfl ?_
  refine aw_get (pc := 2) (v := .ref (ad 16)) F 13 hM_at13 rfl 7 (by decide) (fun w h => mw (iw_M w h)) (mw wd_656) rfl dM_trap_2 ?_
  refine aw_iload_n (pc := 5) (i := 1) (x := i) F dM_trap_5 rfl rfl ?_
  refine aw_iald (pc := 6) F 16 0 hM_at16 rfl (ix_in hw hi) dM_trap_6 ?_
  refine aw_iload_n (pc := 7) (i := 2) (x := st) F dM_trap_7 rfl rfl ?_
  refine aw_iload_n (pc := 8) (i := 3) (x := su) F dM_trap_8 rfl rfl ?_
  refine aw_goV (pc := 9) (As := [.int ((M.2 2) i.toNatClampNeg), .int st, .int su]) (rest := []) F zC_ok Zs 13 hM_at13 rfl (HK V ((M.2 2) i.toNatClampNeg) st su hc1 hv) (cwV 3 F.1.2.2.2.2 (gi_V wd_791 wd_793 wd_51 wd_67 wd_794) rfl rfl rfl (by decide +kernel) ⟨by first | (simp only [aw_rm]; omega) | simp only [aw_rm] | omega, by first | (simp only [aw_rm]; omega) | simp only [aw_rm] | omega⟩) rfl (Nat.le_of_ble_eq_true rfl) ⟨Nat.zero_le _, Nat.zero_le _⟩ rfl dM_trap_9 ?_
  show aW _ _ _ _ _ _ _ _ _ _ _ _ _ _ _ _ _ _ _ _ _ [.int ((K V ((M.2 2) i.toNatClampNeg) st su).1)]
  refine aw_istore (pc := 12) (i := 4) (L' := [some (.ref (ad 13)), some (.int i), some (.int st), some (.int su), some (.int ((K V ((M.2 2) i.toNatClampNeg) st su).1)), none, none]) F dM_trap_12 (by decide) rfl ?_
  refine aw_iload (pc := 14) (i := 4) (x := ((K V ((M.2 2) i.toNatClampNeg) st su).1)) F dM_trap_14 rfl ?_
  refine aw_goS (pc := 16) (As := [.int ((K V ((M.2 2) i.toNatClampNeg) st su).1)]) (rest := []) F zC_ok Zs (tM_mustOf  T M Y ((K V ((M.2 2) i.toNatClampNeg) st su).2) ((K V ((M.2 2) i.toNatClampNeg) st su).1)) (va_cwS 1 F.1.2.2.2.2 (gi_S wd_825 wd_826 wd_67 wd_827) rfl rfl rfl (by decide +kernel) ⟨by first | (simp only [aw_rm]; omega) | simp only [aw_rm] | omega, by first | (simp only [aw_rm]; omega) | simp only [aw_rm] | omega⟩) rfl (Nat.le_of_ble_eq_true rfl) ⟨Nat.zero_le _, Nat.zero_le _⟩ rfl dM_trap_16 ?_
  show aW _ _ _ _ _ _ _ _ _ _ _ _ _ _ _ _ _ _ _ _ _ [.int (fm_mustOf ((K V ((M.2 2) i.toNatClampNeg) st su).1))]
  refine aw_istore (pc := 19) (i := 5) (L' := [some (.ref (ad 13)), some (.int i), some (.int st), some (.int su), some (.int ((K V ((M.2 2) i.toNatClampNeg) st su).1)), some (.int (fm_mustOf ((K V ((M.2 2) i.toNatClampNeg) st su).1))), none]) F dM_trap_19 (by decide) rfl ?_
  refine aw_iload_n (pc := 21) (i := 1) (x := i) F dM_trap_21 rfl rfl ?_
  refine aw_istore (pc := 22) (i := 6) (L' := [some (.ref (ad 13)), some (.int i), some (.int st), some (.int su), some (.int ((K V ((M.2 2) i.toNatClampNeg) st su).1)), some (.int (fm_mustOf ((K V ((M.2 2) i.toNatClampNeg) st su).1))), some (.int i)]) F dM_trap_22 (by decide) rfl ?_
  refine aw_less (L' := [some (.ref (ad 13)), some (.int i), none, none, some (.int ((K V ((M.2 2) i.toNatClampNeg) st su).1)), some (.int (fm_mustOf ((K V ((M.2 2) i.toNatClampNeg) st su).1))), some (.int i)]) (fun i v h => by match i, h with | 0, h => exact h | 1, h => exact h | 2, h => cases h | 3, h => cases h | 4, h => exact h | 5, h => exact h | 6, h => exact h | _ + 7, h => cases h) ?_
  refine tM_trap_X24  F Zs 121 T M Y ((K V ((M.2 2) i.toNatClampNeg) st su).2) i ((K V ((M.2 2) i.toNatClampNeg) st su).1) (fm_mustOf ((K V ((M.2 2) i.toNatClampNeg) st su).1)) i hw hi hi.1 (by have a := hi.2; have b := hw.1.2; omega) (by have a := hi.1; omega) ?_
  refine aw_iload (pc := 71) (i := 4) (x := ((K V ((M.2 2) i.toNatClampNeg) st su).1)) F dM_trap_71 rfl ?_
  refine aw_goS (pc := 73) (As := [.int ((K V ((M.2 2) i.toNatClampNeg) st su).1)]) (rest := []) F zC_ok Zs (tM_canOf  T M Y ((fm_trpL 121 M ((K V ((M.2 2) i.toNatClampNeg) st su).2) i ((K V ((M.2 2) i.toNatClampNeg) st su).1) (fm_mustOf ((K V ((M.2 2) i.toNatClampNeg) st su).1)) i).2) ((K V ((M.2 2) i.toNatClampNeg) st su).1)) (va_cwS 1 F.1.2.2.2.2 (gi_S wd_814 wd_815 wd_67 wd_816) rfl rfl rfl (by decide +kernel) ⟨by first | (simp only [aw_rm]; omega) | simp only [aw_rm] | omega, by first | (simp only [aw_rm]; omega) | simp only [aw_rm] | omega⟩) rfl (Nat.le_of_ble_eq_true rfl) ⟨Nat.zero_le _, Nat.zero_le _⟩ rfl dM_trap_73 ?_
  show aW _ _ _ _ _ _ _ _ _ _ _ _ _ _ _ _ _ _ _ _ _ [.int (fm_canOf ((K V ((M.2 2) i.toNatClampNeg) st su).1))]
  refine aw_goS (pc := 76) (As := [.int (fm_canOf ((K V ((M.2 2) i.toNatClampNeg) st su).1))]) (rest := []) F zC_ok Zs (tM_caught  T M Y ((fm_trpL 121 M ((K V ((M.2 2) i.toNatClampNeg) st su).2) i ((K V ((M.2 2) i.toNatClampNeg) st su).1) (fm_mustOf ((K V ((M.2 2) i.toNatClampNeg) st su).1)) i).2) (fm_canOf ((K V ((M.2 2) i.toNatClampNeg) st su).1))) (va_cwS 1 F.1.2.2.2.2 (gi_S wd_776 wd_777 wd_67 wd_778) rfl rfl rfl (by decide +kernel) ⟨by first | (simp only [aw_rm]; omega) | simp only [aw_rm] | omega, by first | (simp only [aw_rm]; omega) | simp only [aw_rm] | omega⟩) rfl (Nat.le_of_ble_eq_true rfl) ⟨Nat.zero_le _, Nat.zero_le _⟩ rfl dM_trap_76 ?_
  show aW _ _ _ _ _ _ _ _ _ _ _ _ _ _ _ _ _ _ _ _ _ [.int (fm_caught (fm_canOf ((K V ((M.2 2) i.toNatClampNeg) st su).1)))]
  refine aw_iload (pc := 79) (i := 5) (x := (fm_mustOf ((K V ((M.2 2) i.toNatClampNeg) st su).1))) F dM_trap_79 rfl ?_
  refine aw_iconst (pc := 81) (v := 2) F dM_trap_81 (by decide) ?_
  refine aw_icmp_ne (pc := 82) F 89 dM_trap_82 (by decide) (fun c_82 => ?_) (fun c_82 => ?_)
  · skip
    refine aw_iload (pc := 89) (i := 5) (x := (fm_mustOf ((K V ((M.2 2) i.toNatClampNeg) st su).1))) F dM_trap_89 rfl ?_
    refine aw_iconst (pc := 91) (v := 2) F dM_trap_91 (by decide) ?_
    refine aw_icmp_le (pc := 92) F 102 dM_trap_92 (by decide) (fun c_92 => ?_) (fun c_92 => ?_)
    · skip
      refine aw_iload (pc := 102) (i := 5) (x := (fm_mustOf ((K V ((M.2 2) i.toNatClampNeg) st su).1))) F dM_trap_102 rfl ?_
      refine aw_goS (pc := 104) (As := [.int (fm_caught (fm_canOf ((K V ((M.2 2) i.toNatClampNeg) st su).1))), .int (fm_mustOf ((K V ((M.2 2) i.toNatClampNeg) st su).1))]) (rest := []) F zC_ok Zs (tM_outcome  T M Y ((fm_trpL 121 M ((K V ((M.2 2) i.toNatClampNeg) st su).2) i ((K V ((M.2 2) i.toNatClampNeg) st su).1) (fm_mustOf ((K V ((M.2 2) i.toNatClampNeg) st su).1)) i).2) (fm_caught (fm_canOf ((K V ((M.2 2) i.toNatClampNeg) st su).1))) (fm_mustOf ((K V ((M.2 2) i.toNatClampNeg) st su).1))) (va_cwS 2 F.1.2.2.2.2 (gi_S wd_799 wd_800 wd_67 wd_801) rfl rfl rfl (by decide +kernel) ⟨by first | (simp only [aw_rm]; omega) | simp only [aw_rm] | omega, by first | (simp only [aw_rm]; omega) | simp only [aw_rm] | omega⟩) rfl (Nat.le_of_ble_eq_true rfl) ⟨Nat.zero_le _, Nat.zero_le _⟩ rfl dM_trap_104 ?_
      show aW _ _ _ _ _ _ _ _ _ _ _ _ _ _ _ _ _ _ _ _ _ [.int (fm_outcome (fm_caught (fm_canOf ((K V ((M.2 2) i.toNatClampNeg) st su).1))) (fm_mustOf ((K V ((M.2 2) i.toNatClampNeg) st su).1)))]
      exact aw_iret (pc := 107) F hr hlk dM_trap_107 (by rw [fm_trap, if_neg c_82, if_pos c_92]) (by rw [fm_trap, if_neg c_82, if_pos c_92])
    · skip
      refine aw_iload (pc := 95) (i := 5) (x := (fm_mustOf ((K V ((M.2 2) i.toNatClampNeg) st su).1))) F dM_trap_95 rfl ?_
      refine aw_iconst (pc := 97) (v := 1) F dM_trap_97 (by decide) ?_
      refine aw_isub (pc := 98) F dM_trap_98 ?_
      refine aw_goto (pc := 99) F 104 dM_trap_99 (by decide) ?_
      refine aw_goS (pc := 104) (As := [.int (fm_caught (fm_canOf ((K V ((M.2 2) i.toNatClampNeg) st su).1))), .int ((fm_mustOf ((K V ((M.2 2) i.toNatClampNeg) st su).1)) - (1 : Int32))]) (rest := []) F zC_ok Zs (tM_outcome  T M Y ((fm_trpL 121 M ((K V ((M.2 2) i.toNatClampNeg) st su).2) i ((K V ((M.2 2) i.toNatClampNeg) st su).1) (fm_mustOf ((K V ((M.2 2) i.toNatClampNeg) st su).1)) i).2) (fm_caught (fm_canOf ((K V ((M.2 2) i.toNatClampNeg) st su).1))) ((fm_mustOf ((K V ((M.2 2) i.toNatClampNeg) st su).1)) - (1 : Int32))) (va_cwS 2 F.1.2.2.2.2 (gi_S wd_799 wd_800 wd_67 wd_801) rfl rfl rfl (by decide +kernel) ⟨by first | (simp only [aw_rm]; omega) | simp only [aw_rm] | omega, by first | (simp only [aw_rm]; omega) | simp only [aw_rm] | omega⟩) rfl (Nat.le_of_ble_eq_true rfl) ⟨Nat.zero_le _, Nat.zero_le _⟩ rfl dM_trap_104 ?_
      show aW _ _ _ _ _ _ _ _ _ _ _ _ _ _ _ _ _ _ _ _ _ [.int (fm_outcome (fm_caught (fm_canOf ((K V ((M.2 2) i.toNatClampNeg) st su).1))) ((fm_mustOf ((K V ((M.2 2) i.toNatClampNeg) st su).1)) - (1 : Int32)))]
      exact aw_iret (pc := 107) F hr hlk dM_trap_107 (by rw [fm_trap, if_neg c_82, if_neg c_92]) (by rw [fm_trap, if_neg c_82, if_neg c_92])
  · skip
    refine aw_iconst (pc := 85) (v := 0) F dM_trap_85 (by decide) ?_
    refine aw_goto (pc := 86) F 104 dM_trap_86 (by decide) ?_
    refine aw_goS (pc := 104) (As := [.int (fm_caught (fm_canOf ((K V ((M.2 2) i.toNatClampNeg) st su).1))), .int (0 : Int32)]) (rest := []) F zC_ok Zs (tM_outcome  T M Y ((fm_trpL 121 M ((K V ((M.2 2) i.toNatClampNeg) st su).2) i ((K V ((M.2 2) i.toNatClampNeg) st su).1) (fm_mustOf ((K V ((M.2 2) i.toNatClampNeg) st su).1)) i).2) (fm_caught (fm_canOf ((K V ((M.2 2) i.toNatClampNeg) st su).1))) (0 : Int32)) (va_cwS 2 F.1.2.2.2.2 (gi_S wd_799 wd_800 wd_67 wd_801) rfl rfl rfl (by decide +kernel) ⟨by first | (simp only [aw_rm]; omega) | simp only [aw_rm] | omega, by first | (simp only [aw_rm]; omega) | simp only [aw_rm] | omega⟩) rfl (Nat.le_of_ble_eq_true rfl) ⟨Nat.zero_le _, Nat.zero_le _⟩ rfl dM_trap_104 ?_
    show aW _ _ _ _ _ _ _ _ _ _ _ _ _ _ _ _ _ _ _ _ _ [.int (fm_outcome (fm_caught (fm_canOf ((K V ((M.2 2) i.toNatClampNeg) st su).1))) (0 : Int32))]
    exact aw_iret (pc := 107) F hr hlk dM_trap_107 (by rw [fm_trap, if_pos c_82]) (by rw [fm_trap, if_pos c_82])
def fm_locM (V : vT) (i : Int32) (st : Int32) (su : Int32) (kp : Int32) : Int32 :=
  if st = 0 then
    (((16 : Int32) + ((27 : Int32) * i)) + (26 : Int32))
  else
    (((16 : Int32) + ((27 : Int32) * i)) + (V.1 0))
set_option maxRecDepth 100000 in
set_option maxHeartbeats 4000000 in
theorem tM_local_X13 {l : Launch} {D : va_G} {A : Nat → Prop} {ad : Nat → Nat} {tP : Nat} {cI cZ : ClassId} {S : kT} {P : pT} {X : xT} {tl : List va_E} {tyr : List (ClassId × FieldType)} {p : Program} {e : Env} {R : Room} {s : State} {m : MethodId} {args : Array Value} {below : List Frame} {meth : Method} {c : Code} {Q : State → Prop} (F : aw_F p s m c args cM_local 7 (Cond.code yM_local cM_local 7 (some .int) :: aw_big) yM_local.cls D vwCl ((cI, .int) :: (cZ, .boolean) :: tyr)) (Zs : zC A tP s) :
    ∀ (T : Int32) (M : mT) (Y : yT) (V : vT) (i : Int32) (st : Int32) (su : Int32) (kp : Int32)  , aW p l e R s m args below meth c 0 0 Q D vwCl A ad 7 (hC ad cI S P X ++ (hM ad cI cZ T M Y V ++ tl)) [some (.ref (ad 13)), some (.int i), some (.int st), some (.int su), some (.int kp), some (.int (fm_locM V i st su kp)), none] 36 [] → aW p l e R s m args below meth c 0 0 Q D vwCl A ad 7 (hC ad cI S P X ++ (hM ad cI cZ T M Y V ++ tl)) [some (.ref (ad 13)), some (.int i), some (.int st), some (.int su), some (.int kp), none, none] 13 [] := by
  intro T M Y V i st su kp kq
  refine aw_bipush (pc := 13) (v := 16) F dM_local_13 (by decide) ?_
  refine aw_bipush (pc := 15) (v := 27) F dM_local_15 (by decide) ?_
  refine aw_iload_n (pc := 17) (i := 1) (x := i) F dM_local_17 rfl rfl ?_
  refine aw_imul (pc := 18) F dM_local_18 ?_
  refine aw_iadd (pc := 19) F dM_local_19 ?_
  refine aw_iload_n (pc := 20) (i := 2) (x := st) F dM_local_20 rfl rfl ?_
  refine aw_if_eq (pc := 21) F 31 dM_local_21 (by decide) (fun c_21 => ?_) (fun c_21 => ?_)
  · skip
    refine aw_bipush (pc := 31) (v := 26) F dM_local_31 (by decide) ?_
    refine aw_iadd (pc := 33) F dM_local_33 ?_
    refine aw_istore (pc := 34) (i := 5) (L' := [some (.ref (ad 13)), some (.int i), some (.int st), some (.int su), some (.int kp), some (.int (((16 : Int32) + ((27 : Int32) * i)) + (26 : Int32))), none]) F dM_local_34 (by decide) rfl ?_
    rw [show (fm_locM V i st su kp) = (((16 : Int32) + ((27 : Int32) * i)) + (26 : Int32)) from by rw [fm_locM, if_pos c_21]] at kq
    exact kq
  · skip
    refine aw_aload_n (pc := 24) (i := 0) (x := ad 13) F dM_local_24 rfl rfl ?_
    refine aw_get (pc := 25) (v := .int (V.1 0)) F 13 hM_at13 rfl 27 (by decide) (fun w h => mw (iw_M w h)) (mw wd_676) rfl dM_local_25 ?_
    refine aw_goto (pc := 28) F 33 dM_local_28 (by decide) ?_
    refine aw_iadd (pc := 33) F dM_local_33 ?_
    refine aw_istore (pc := 34) (i := 5) (L' := [some (.ref (ad 13)), some (.int i), some (.int st), some (.int su), some (.int kp), some (.int (((16 : Int32) + ((27 : Int32) * i)) + (V.1 0))), none]) F dM_local_34 (by decide) rfl ?_
    rw [show (fm_locM V i st su kp) = (((16 : Int32) + ((27 : Int32) * i)) + (V.1 0)) from by rw [fm_locM, if_neg c_21]] at kq
    exact kq
def fm_locD (Y : yT) (V : vT) (i : Int32) (st : Int32) (su : Int32) (kp : Int32) (mi : Int32) : vT :=
  if (V.1 1) = 0 then
    if su = 0 then
      (v1w V 1 (0 : Int32))
    else
      if ((Y.2 2) mi.toNatClampNeg) = (2 : Int32) then (v1w V 1 (1 : Int32)) else (v1w V 1 (0 : Int32))
  else
    (v1w V 1 (1 : Int32))
set_option maxRecDepth 100000 in
set_option maxHeartbeats 4000000 in
theorem tM_local_X49 {l : Launch} {D : va_G} {A : Nat → Prop} {ad : Nat → Nat} {tP : Nat} {cI cZ : ClassId} {S : kT} {P : pT} {X : xT} {tl : List va_E} {tyr : List (ClassId × FieldType)} {p : Program} {e : Env} {R : Room} {s : State} {m : MethodId} {args : Array Value} {below : List Frame} {meth : Method} {c : Code} {Q : State → Prop} (F : aw_F p s m c args cM_local 7 (Cond.code yM_local cM_local 7 (some .int) :: aw_big) yM_local.cls D vwCl ((cI, .int) :: (cZ, .boolean) :: tyr)) (Zs : zC A tP s) :
    ∀ (T : Int32) (M : mT) (Y : yT) (V : vT) (i : Int32) (st : Int32) (su : Int32) (kp : Int32) (mi : Int32)  (hmi : vp_in mi 3256), aW p l e R s m args below meth c 0 0 Q D vwCl A ad 7 (hC ad cI S P X ++ (hM ad cI cZ T M Y (fm_locD Y V i st su kp mi) ++ tl)) [some (.ref (ad 13)), some (.int i), some (.int st), some (.int su), some (.int kp), some (.int mi), none] 80 [] → aW p l e R s m args below meth c 0 0 Q D vwCl A ad 7 (hC ad cI S P X ++ (hM ad cI cZ T M Y V ++ tl)) [some (.ref (ad 13)), some (.int i), some (.int st), some (.int su), some (.int kp), some (.int mi), none] 49 [] := by
  intro T M Y V i st su kp mi hmi kq
  refine aw_aload_n (pc := 49) (i := 0) (x := ad 13) F dM_local_49 rfl rfl ?_
  refine aw_aload_n (pc := 50) (i := 0) (x := ad 13) F dM_local_50 rfl rfl ?_
  refine aw_get (pc := 51) (v := .int (V.1 1)) F 13 hM_at13 rfl 28 (by decide) (fun w h => mw (iw_M w h)) (mw wd_677) rfl dM_local_51 ?_
  refine aw_if_ne (pc := 54) F 72 dM_local_54 (by decide) (fun c_54 => ?_) (fun c_54 => ?_)
  · skip
    refine aw_iconst (pc := 72) (v := 1) F dM_local_72 (by decide) ?_
    refine aw_goto (pc := 73) F 77 dM_local_73 (by decide) ?_
    refine aw_put (pc := 77) (hp' := (hC ad cI S P X ++ (hM ad cI cZ T M Y (v1w V 1 (1 : Int32)) ++ tl))) F 13 hM_at13 rfl 28 (by decide) (fun w h => mw (iw_M w h)) tyM tyM_ok nmM (mw wd_677) (ty := .boolean) rfl (by decide +kernel) rfl rfl (Nat.le_of_ble_eq_true rfl) hM_st13_28 dM_local_77 ?_
    rw [show (fm_locD Y V i st su kp mi) = (v1w V 1 (1 : Int32)) from by rw [fm_locD, if_neg c_54]] at kq
    exact kq
  · skip
    refine aw_iload_n (pc := 57) (i := 3) (x := su) F dM_local_57 rfl rfl ?_
    refine aw_if_eq (pc := 58) F 76 dM_local_58 (by decide) (fun c_58 => ?_) (fun c_58 => ?_)
    · skip
      refine aw_iconst (pc := 76) (v := 0) F dM_local_76 (by decide) ?_
      refine aw_put (pc := 77) (hp' := (hC ad cI S P X ++ (hM ad cI cZ T M Y (v1w V 1 (0 : Int32)) ++ tl))) F 13 hM_at13 rfl 28 (by decide) (fun w h => mw (iw_M w h)) tyM tyM_ok nmM (mw wd_677) (ty := .boolean) rfl (by decide +kernel) rfl rfl (Nat.le_of_ble_eq_true rfl) hM_st13_28 dM_local_77 ?_
      rw [show (fm_locD Y V i st su kp mi) = (v1w V 1 (0 : Int32)) from by rw [fm_locD, if_pos c_54, if_pos c_58]] at kq
      exact kq
    · skip
      refine aw_aload_n (pc := 61) (i := 0) (x := ad 13) F dM_local_61 rfl rfl ?_
      refine aw_get (pc := 62) (v := .ref (ad 27)) F 13 hM_at13 rfl 23 (by decide) (fun w h => mw (iw_M w h)) (mw wd_672) rfl dM_local_62 ?_
      refine aw_iload (pc := 65) (i := 5) (x := mi) F dM_local_65 rfl ?_
      refine aw_iald (pc := 67) F 27 0 hM_at27 rfl hmi dM_local_67 ?_
      refine aw_iconst (pc := 68) (v := 2) F dM_local_68 (by decide) ?_
      refine aw_icmp_ne (pc := 69) F 76 dM_local_69 (by decide) (fun c_69 => ?_) (fun c_69 => ?_)
      · skip
        refine aw_iconst (pc := 76) (v := 0) F dM_local_76 (by decide) ?_
        refine aw_put (pc := 77) (hp' := (hC ad cI S P X ++ (hM ad cI cZ T M Y (v1w V 1 (0 : Int32)) ++ tl))) F 13 hM_at13 rfl 28 (by decide) (fun w h => mw (iw_M w h)) tyM tyM_ok nmM (mw wd_677) (ty := .boolean) rfl (by decide +kernel) rfl rfl (Nat.le_of_ble_eq_true rfl) hM_st13_28 dM_local_77 ?_
        rw [show (fm_locD Y V i st su kp mi) = (v1w V 1 (0 : Int32)) from by rw [fm_locD, if_pos c_54, if_neg c_58, if_neg c_69]] at kq
        exact kq
      · skip
        refine aw_iconst (pc := 72) (v := 1) F dM_local_72 (by decide) ?_
        refine aw_goto (pc := 73) F 77 dM_local_73 (by decide) ?_
        refine aw_put (pc := 77) (hp' := (hC ad cI S P X ++ (hM ad cI cZ T M Y (v1w V 1 (1 : Int32)) ++ tl))) F 13 hM_at13 rfl 28 (by decide) (fun w h => mw (iw_M w h)) tyM tyM_ok nmM (mw wd_677) (ty := .boolean) rfl (by decide +kernel) rfl rfl (Nat.le_of_ble_eq_true rfl) hM_st13_28 dM_local_77 ?_
        rw [show (fm_locD Y V i st su kp mi) = (v1w V 1 (1 : Int32)) from by rw [fm_locD, if_pos c_54, if_neg c_58, if_pos c_69]] at kq
        exact kq
theorem mine_in {M : mT} {V : vT} {i st su kp : Int32} (hw : mW M) (hi : mIx M i) (hv : vI V) : vp_in (fm_locM V i st su kp) 3256 := by
  have a := hi.1
  have b := hi.2
  have c := hw.1.2
  have d := hv.2
  have e27 : (27 : Int32).toInt = 27 := rfl
  have e16 : (16 : Int32).toInt = 16 := rfl
  have e26 : (26 : Int32).toInt = 26 := rfl
  have em : ((27 : Int32) * i).toInt = 27 * i.toInt := by
    rw [Int32.toInt_mul, e27]
    exact Int.bmod_eq_of_le_mul_two (by omega) (by omega)
  have ea : ((16 : Int32) + (27 : Int32) * i).toInt = 16 + 27 * i.toInt := by
    rw [i_add] <;> rw [e16, em] <;> omega
  rw [vp_in_iff]
  unfold fm_locM
  split
  · rw [i_add] <;> rw [ea, e26] <;> omega
  · rw [i_add] <;> rw [ea] <;> omega
theorem meant_v {V : vT} {a b : Int32} (hv : vI V) (hb : vp_in b 3256) : vI (v2w V 3 a.toNatClampNeg b) := by
  refine ⟨fun s hs => ?_, hv.2.1, hv.2.2⟩
  show vp_in (if s = a.toNatClampNeg then b else V.2 3 s) 3256
  split
  · exact hb
  · exact hv.1 s hs
theorem locD_v {Y : yT} {V : vT} {i st su kp mi : Int32} (hv : vI V) : vI (fm_locD Y V i st su kp mi) := by
  unfold fm_locD
  repeat' split
  all_goals exact hv
def fm_local (K : kmT) (M : mT) (Y : yT) (V : vT) (i : Int32) (st : Int32) (su : Int32) : Int32 × vT :=
  (((K (fm_locD Y (v2w V 3 ((M.2 1) i.toNatClampNeg).toNatClampNeg (fm_locM V i st su ((V.2 3) ((M.2 1) i.toNatClampNeg).toNatClampNeg))) i st su ((V.2 3) ((M.2 1) i.toNatClampNeg).toNatClampNeg) (fm_locM V i st su ((V.2 3) ((M.2 1) i.toNatClampNeg).toNatClampNeg))) ((M.2 2) i.toNatClampNeg) st su).1), (v2w ((K (fm_locD Y (v2w V 3 ((M.2 1) i.toNatClampNeg).toNatClampNeg (fm_locM V i st su ((V.2 3) ((M.2 1) i.toNatClampNeg).toNatClampNeg))) i st su ((V.2 3) ((M.2 1) i.toNatClampNeg).toNatClampNeg) (fm_locM V i st su ((V.2 3) ((M.2 1) i.toNatClampNeg).toNatClampNeg))) ((M.2 2) i.toNatClampNeg) st su).2) 3 ((M.2 1) i.toNatClampNeg).toNatClampNeg ((V.2 3) ((M.2 1) i.toNatClampNeg).toNatClampNeg)))
set_option maxRecDepth 100000 in
set_option maxHeartbeats 4000000 in
theorem tM_local {l : Launch} {D : va_G} {A : Nat → Prop} {ad : Nat → Nat} {tP : Nat} {cI cZ : ClassId} {S : kT} {P : pT} {X : xT} {tl : List va_E} {tyr : List (ClassId × FieldType)} {d : Nat} {K : kmT} {Cn : Int32 → Prop} (T : Int32) (M : mT) (Y : yT) (V : vT) (i : Int32) (st : Int32) (su : Int32) (hd : 6 ≤ d) (hw : mW M) (HC : ∀ a, Cn a → mIx M a) (HV : ∀ (V : vT) (a b c : Int32), Cn a → vI V → vI (K V a b c).2) (HK : ∀ (V : vT) (a b c : Int32), Cn a → vI V → aw_M l yM_run (Cond.code yM_run cM_run 4 (some .int) :: aw_big) d D vwCl ((cI, .int) :: (cZ, .boolean) :: tyr) A ad (zC A tP) [.ref (ad 13), .int a, .int b, .int c] (hC ad cI S P X ++ (hM ad cI cZ T M Y V ++ tl)) (some (.int (K V a b c).1)) (hC ad cI S P X ++ (hM ad cI cZ T M Y (K V a b c).2 ++ tl))) (hi : mIx M i) (hx : vp_in ((M.2 1) i.toNatClampNeg) 16) (hc1 : Cn ((M.2 2) i.toNatClampNeg)) (hv : vI V) : aw_M l yM_local (Cond.code yM_local cM_local 7 (some .int) :: aw_big) (d + 1) D vwCl ((cI, .int) :: (cZ, .boolean) :: tyr) A ad (zC A tP) [.ref (ad 13), .int i, .int st, .int su] (hC ad cI S P X ++ (hM ad cI cZ T M Y V ++ tl)) (some (.int ((fm_local K M Y V i st su).1))) (hC ad cI S P X ++ (hM ad cI cZ T M Y ((fm_local K M Y V i st su).2) ++ tl)) := by
  refine aw_met cM_local 7 (some .int) [some (.ref (ad 13)), some (.int i), some (.int st), some (.int su), none, none, none] (by decide) rfl (Nat.le_of_ble_eq_true rfl) rfl ?_
  intro p e s m args below meth c F Zs hr hlk
  refine aw_aload_n (pc := 0) (i := 0) (x := ad 13) F dM_local_0 rfl rfl ?_
  refine aw_get (pc := 1) (v := .ref (ad 31)) F 13 hM_at13 rfl 26 (by decide) (fun w h => mw (iw_M w h)) (mw wd_675) rfl dM_local_1 ?_
  refine aw_aload_n (pc := 4) (i := 0) (x := ad 13) F dM_local_4 rfl rfl ?_
  refine aw_get (pc := 5) (v := .ref (ad 15)) F 13 hM_at13 rfl 6 (by decide) (fun w h => mw (iw_M w h)) (mw wd_655) rfl dM_local_5 ?_
  refine aw_iload_n (pc := 8) (i := 1) (x := i) F dM_local_8 rfl rfl ?_
  refine aw_iald (pc := 9) F 15 0 hM_at15 rfl (ix_in hw hi) dM_local_9 ?_
  refine aw_iald (pc := 10) F 31 0 hM_at31 rfl hx dM_local_10 ?_
  refine aw_istore (pc := 11) (i := 4) (L' := [some (.ref (ad 13)), some (.int i), some (.int st), some (.int su), some (.int ((V.2 3) ((M.2 1) i.toNatClampNeg).toNatClampNeg)), none, none]) F dM_local_11 (by decide) rfl ?_
  refine tM_local_X13  F Zs  T M Y V i st su ((V.2 3) ((M.2 1) i.toNatClampNeg).toNatClampNeg)   ?_
  refine aw_aload_n (pc := 36) (i := 0) (x := ad 13) F dM_local_36 rfl rfl ?_
  refine aw_get (pc := 37) (v := .ref (ad 31)) F 13 hM_at13 rfl 26 (by decide) (fun w h => mw (iw_M w h)) (mw wd_675) rfl dM_local_37 ?_
  refine aw_aload_n (pc := 40) (i := 0) (x := ad 13) F dM_local_40 rfl rfl ?_
  refine aw_get (pc := 41) (v := .ref (ad 15)) F 13 hM_at13 rfl 6 (by decide) (fun w h => mw (iw_M w h)) (mw wd_655) rfl dM_local_41 ?_
  refine aw_iload_n (pc := 44) (i := 1) (x := i) F dM_local_44 rfl rfl ?_
  refine aw_iald (pc := 45) F 15 0 hM_at15 rfl (ix_in hw hi) dM_local_45 ?_
  refine aw_iload (pc := 46) (i := 5) (x := (fm_locM V i st su ((V.2 3) ((M.2 1) i.toNatClampNeg).toNatClampNeg))) F dM_local_46 rfl ?_
  refine aw_iast (pc := 48) (hp' := (hC ad cI S P X ++ (hM ad cI cZ T M Y (v2w V 3 ((M.2 1) i.toNatClampNeg).toNatClampNeg (fm_locM V i st su ((V.2 3) ((M.2 1) i.toNatClampNeg).toNatClampNeg))) ++ tl))) F 31 0 hM_at31 rfl hx hM_st31 dM_local_48 ?_
  refine tM_local_X49  F Zs  T M Y (v2w V 3 ((M.2 1) i.toNatClampNeg).toNatClampNeg (fm_locM V i st su ((V.2 3) ((M.2 1) i.toNatClampNeg).toNatClampNeg))) i st su ((V.2 3) ((M.2 1) i.toNatClampNeg).toNatClampNeg) (fm_locM V i st su ((V.2 3) ((M.2 1) i.toNatClampNeg).toNatClampNeg))  (mine_in hw hi hv) ?_
  refine aw_aload_n (pc := 80) (i := 0) (x := ad 13) F dM_local_80 rfl rfl ?_
  refine aw_aload_n (pc := 81) (i := 0) (x := ad 13) F dM_local_81 rfl rfl ?_
  refine aw_get (pc := 82) (v := .ref (ad 16)) F 13 hM_at13 rfl 7 (by decide) (fun w h => mw (iw_M w h)) (mw wd_656) rfl dM_local_82 ?_
  refine aw_iload_n (pc := 85) (i := 1) (x := i) F dM_local_85 rfl rfl ?_
  refine aw_iald (pc := 86) F 16 0 hM_at16 rfl (ix_in hw hi) dM_local_86 ?_
  refine aw_iload_n (pc := 87) (i := 2) (x := st) F dM_local_87 rfl rfl ?_
  refine aw_iload_n (pc := 88) (i := 3) (x := su) F dM_local_88 rfl rfl ?_
  refine aw_goV (pc := 89) (As := [.int ((M.2 2) i.toNatClampNeg), .int st, .int su]) (rest := []) F zC_ok Zs 13 hM_at13 rfl (HK (fm_locD Y (v2w V 3 ((M.2 1) i.toNatClampNeg).toNatClampNeg (fm_locM V i st su ((V.2 3) ((M.2 1) i.toNatClampNeg).toNatClampNeg))) i st su ((V.2 3) ((M.2 1) i.toNatClampNeg).toNatClampNeg) (fm_locM V i st su ((V.2 3) ((M.2 1) i.toNatClampNeg).toNatClampNeg))) ((M.2 2) i.toNatClampNeg) st su hc1 (locD_v (meant_v hv (mine_in hw hi hv)))) (cwV 3 F.1.2.2.2.2 (gi_V wd_791 wd_793 wd_51 wd_67 wd_794) rfl rfl rfl (by decide +kernel) ⟨by first | (simp only [aw_rm]; omega) | simp only [aw_rm] | omega, by first | (simp only [aw_rm]; omega) | simp only [aw_rm] | omega⟩) rfl (Nat.le_of_ble_eq_true rfl) ⟨Nat.zero_le _, Nat.zero_le _⟩ rfl dM_local_89 ?_
  show aW _ _ _ _ _ _ _ _ _ _ _ _ _ _ _ _ _ _ _ _ _ [.int ((K (fm_locD Y (v2w V 3 ((M.2 1) i.toNatClampNeg).toNatClampNeg (fm_locM V i st su ((V.2 3) ((M.2 1) i.toNatClampNeg).toNatClampNeg))) i st su ((V.2 3) ((M.2 1) i.toNatClampNeg).toNatClampNeg) (fm_locM V i st su ((V.2 3) ((M.2 1) i.toNatClampNeg).toNatClampNeg))) ((M.2 2) i.toNatClampNeg) st su).1)]
  refine aw_istore (pc := 92) (i := 6) (L' := [some (.ref (ad 13)), some (.int i), some (.int st), some (.int su), some (.int ((V.2 3) ((M.2 1) i.toNatClampNeg).toNatClampNeg)), some (.int (fm_locM V i st su ((V.2 3) ((M.2 1) i.toNatClampNeg).toNatClampNeg))), some (.int ((K (fm_locD Y (v2w V 3 ((M.2 1) i.toNatClampNeg).toNatClampNeg (fm_locM V i st su ((V.2 3) ((M.2 1) i.toNatClampNeg).toNatClampNeg))) i st su ((V.2 3) ((M.2 1) i.toNatClampNeg).toNatClampNeg) (fm_locM V i st su ((V.2 3) ((M.2 1) i.toNatClampNeg).toNatClampNeg))) ((M.2 2) i.toNatClampNeg) st su).1))]) F dM_local_92 (by decide) rfl ?_
  refine aw_aload_n (pc := 94) (i := 0) (x := ad 13) F dM_local_94 rfl rfl ?_
  refine aw_get (pc := 95) (v := .ref (ad 31)) F 13 hM_at13 rfl 26 (by decide) (fun w h => mw (iw_M w h)) (mw wd_675) rfl dM_local_95 ?_
  refine aw_aload_n (pc := 98) (i := 0) (x := ad 13) F dM_local_98 rfl rfl ?_
  refine aw_get (pc := 99) (v := .ref (ad 15)) F 13 hM_at13 rfl 6 (by decide) (fun w h => mw (iw_M w h)) (mw wd_655) rfl dM_local_99 ?_
  refine aw_iload_n (pc := 102) (i := 1) (x := i) F dM_local_102 rfl rfl ?_
  refine aw_iald (pc := 103) F 15 0 hM_at15 rfl (ix_in hw hi) dM_local_103 ?_
  refine aw_iload (pc := 104) (i := 4) (x := (V.2 3) ((M.2 1) i.toNatClampNeg).toNatClampNeg) F dM_local_104 rfl ?_
  refine aw_iast (pc := 106) (hp' := (hC ad cI S P X ++ (hM ad cI cZ T M Y (v2w ((K (fm_locD Y (v2w V 3 ((M.2 1) i.toNatClampNeg).toNatClampNeg (fm_locM V i st su ((V.2 3) ((M.2 1) i.toNatClampNeg).toNatClampNeg))) i st su ((V.2 3) ((M.2 1) i.toNatClampNeg).toNatClampNeg) (fm_locM V i st su ((V.2 3) ((M.2 1) i.toNatClampNeg).toNatClampNeg))) ((M.2 2) i.toNatClampNeg) st su).2) 3 ((M.2 1) i.toNatClampNeg).toNatClampNeg ((V.2 3) ((M.2 1) i.toNatClampNeg).toNatClampNeg)) ++ tl))) F 31 0 hM_at31 rfl hx hM_st31 dM_local_106 ?_
  refine aw_iload (pc := 107) (i := 6) (x := ((K (fm_locD Y (v2w V 3 ((M.2 1) i.toNatClampNeg).toNatClampNeg (fm_locM V i st su ((V.2 3) ((M.2 1) i.toNatClampNeg).toNatClampNeg))) i st su ((V.2 3) ((M.2 1) i.toNatClampNeg).toNatClampNeg) (fm_locM V i st su ((V.2 3) ((M.2 1) i.toNatClampNeg).toNatClampNeg))) ((M.2 2) i.toNatClampNeg) st su).1)) F dM_local_107 rfl ?_
  exact aw_iret (pc := 109) F hr hlk dM_local_109 (by first | rfl | (unfold fm_local; rfl)) (by first | rfl | (unfold fm_local; rfl))
theorem so_10 {M : mT} {i : Int32} (h : mR M i) (h0 : ¬ (M.2 0) i.toNatClampNeg = (0 : Int32)) (h1 : ¬ (M.2 0) i.toNatClampNeg = (1 : Int32)) (h2 : ¬ (M.2 0) i.toNatClampNeg = (2 : Int32)) (h3 : ¬ (M.2 0) i.toNatClampNeg = (3 : Int32)) (h4 : ¬ (M.2 0) i.toNatClampNeg = (4 : Int32)) (h5 : ¬ (M.2 0) i.toNatClampNeg = (5 : Int32)) (h6 : ¬ (M.2 0) i.toNatClampNeg = (6 : Int32)) (h7 : ¬ (M.2 0) i.toNatClampNeg = (7 : Int32)) (h8 : ¬ (M.2 0) i.toNatClampNeg = (8 : Int32)) (h9 : ¬ (M.2 0) i.toNatClampNeg = (9 : Int32)) : (M.2 0) i.toNatClampNeg = (10 : Int32) := by
  have r := h.2.2.2.2.2.2.2.2.2.2.2
  have a0 := aw_ne h0 (a := 0) rfl
  have a1 := aw_ne h1 (a := 1) rfl
  have a2 := aw_ne h2 (a := 2) rfl
  have a3 := aw_ne h3 (a := 3) rfl
  have a4 := aw_ne h4 (a := 4) rfl
  have a5 := aw_ne h5 (a := 5) rfl
  have a6 := aw_ne h6 (a := 6) rfl
  have a7 := aw_ne h7 (a := 7) rfl
  have a8 := aw_ne h8 (a := 8) rfl
  have a9 := aw_ne h9 (a := 9) rfl
  apply Int32.toInt_inj.mp
  have e : (10 : Int32).toInt = 10 := rfl
  omega
def fm_run1 (K : kmT) (M : mT) (Y : yT) (V : vT) (i : Int32) (st : Int32) (su : Int32) : Int32 × vT :=
  if ((M.2 0) i.toNatClampNeg) = (0 : Int32) then (((fm_simple M V i su).1), ((fm_simple M V i su).2))
  else if ((M.2 0) i.toNatClampNeg) = (1 : Int32) then if st = 0 then
      if su = 0 then
        ((fm_outcome (1 : Int32) (-1 : Int32)), V)
      else
        ((fm_outcome (1 : Int32) (0 : Int32)), V)
    else
      (((fm_simple M V i su).1), ((fm_simple M V i su).2))
  else if ((M.2 0) i.toNatClampNeg) = (2 : Int32) then (((fm_simple M V i su).1), ((fm_simple M V i su).2))
  else if ((M.2 0) i.toNatClampNeg) = (3 : Int32) then (((fm_simple M V i su).1), ((fm_simple M V i su).2))
  else if ((M.2 0) i.toNatClampNeg) = (4 : Int32) then (((fm_present K M Y V i st su).1), ((fm_present K M Y V i st su).2))
  else if ((M.2 0) i.toNatClampNeg) = (5 : Int32) then (((fm_suspend K M Y V i st su).1), ((fm_suspend K M Y V i st su).2))
  else if ((M.2 0) i.toNatClampNeg) = (6 : Int32) then if st = 0 then
      if (fm_has M Y ((M.2 2) i.toNatClampNeg)) = 0 then
        (((K V ((M.2 3) i.toNatClampNeg) (0 : Int32) su).1), ((K V ((M.2 3) i.toNatClampNeg) (0 : Int32) su).2))
      else
        (((fm_behind K M ((K V ((M.2 2) i.toNatClampNeg) st su).2) i ((K V ((M.2 2) i.toNatClampNeg) st su).1) ((M.2 3) i.toNatClampNeg) st su).1), ((fm_behind K M ((K V ((M.2 2) i.toNatClampNeg) st su).2) i ((K V ((M.2 2) i.toNatClampNeg) st su).1) ((M.2 3) i.toNatClampNeg) st su).2))
    else
      (((fm_behind K M ((K V ((M.2 2) i.toNatClampNeg) st su).2) i ((K V ((M.2 2) i.toNatClampNeg) st su).1) ((M.2 3) i.toNatClampNeg) st su).1), ((fm_behind K M ((K V ((M.2 2) i.toNatClampNeg) st su).2) i ((K V ((M.2 2) i.toNatClampNeg) st su).1) ((M.2 3) i.toNatClampNeg) st su).2))
  else if ((M.2 0) i.toNatClampNeg) = (7 : Int32) then (((fm_parallel K M Y V i st su).1), ((fm_parallel K M Y V i st su).2))
  else if ((M.2 0) i.toNatClampNeg) = (8 : Int32) then if st = 0 then
      (((fm_behind K M ((K V ((M.2 2) i.toNatClampNeg) (0 : Int32) su).2) i ((K V ((M.2 2) i.toNatClampNeg) (0 : Int32) su).1) ((M.2 2) i.toNatClampNeg) (0 : Int32) su).1), ((fm_behind K M ((K V ((M.2 2) i.toNatClampNeg) (0 : Int32) su).2) i ((K V ((M.2 2) i.toNatClampNeg) (0 : Int32) su).1) ((M.2 2) i.toNatClampNeg) (0 : Int32) su).2))
    else
      (((K V ((M.2 2) i.toNatClampNeg) (1 : Int32) su).1), ((K V ((M.2 2) i.toNatClampNeg) (1 : Int32) su).2))
  else if ((M.2 0) i.toNatClampNeg) = (9 : Int32) then (((fm_trap K M V i st su).1), ((fm_trap K M V i st su).2))
  else (((fm_local K M Y V i st su).1), ((fm_local K M Y V i st su).2))
set_option maxRecDepth 100000 in
set_option maxHeartbeats 4000000 in
theorem tM_run {l : Launch} {D : va_G} {A : Nat → Prop} {ad : Nat → Nat} {tP : Nat} {cI cZ : ClassId} {S : kT} {P : pT} {X : xT} {tl : List va_E} {tyr : List (ClassId × FieldType)} {d : Nat} {K : kmT} {Cn : Int32 → Prop} (T : Int32) (M : mT) (Y : yT) (V : vT) (i : Int32) (st : Int32) (su : Int32) (hd : 6 ≤ d) (hw : mW M) (HC : ∀ a, Cn a → mIx M a) (HV : ∀ (V : vT) (a b c : Int32), Cn a → vI V → vI (K V a b c).2) (HK : ∀ (V : vT) (a b c : Int32), Cn a → vI V → aw_M l yM_run (Cond.code yM_run cM_run 4 (some .int) :: aw_big) d D vwCl ((cI, .int) :: (cZ, .boolean) :: tyr) A ad (zC A tP) [.ref (ad 13), .int a, .int b, .int c] (hC ad cI S P X ++ (hM ad cI cZ T M Y V ++ tl)) (some (.int (K V a b c).1)) (hC ad cI S P X ++ (hM ad cI cZ T M Y (K V a b c).2 ++ tl))) (hi : mIx M i) (hk1 : ¬ (M.2 0) i.toNatClampNeg = (0 : Int32) → ¬ (M.2 0) i.toNatClampNeg = (1 : Int32) → ¬ (M.2 0) i.toNatClampNeg = (2 : Int32) → ¬ (M.2 0) i.toNatClampNeg = (3 : Int32) → Cn ((M.2 2) i.toNatClampNeg)) (hk2 : (M.2 0) i.toNatClampNeg = (4 : Int32) ∨ (M.2 0) i.toNatClampNeg = (6 : Int32) ∨ (M.2 0) i.toNatClampNeg = (7 : Int32) → Cn ((M.2 3) i.toNatClampNeg)) (hv : vI V) : aw_M l yM_run (Cond.code yM_run cM_run 4 (some .int) :: aw_big) (d + 3) D vwCl ((cI, .int) :: (cZ, .boolean) :: tyr) A ad (zC A tP) [.ref (ad 13), .int i, .int st, .int su] (hC ad cI S P X ++ (hM ad cI cZ T M Y V ++ tl)) (some (.int ((fm_run1 K M Y V i st su).1))) (hC ad cI S P X ++ (hM ad cI cZ T M Y ((fm_run1 K M Y V i st su).2) ++ tl)) := by
  refine aw_met cM_run 4 (some .int) [some (.ref (ad 13)), some (.int i), some (.int st), some (.int su)] (by decide) rfl (Nat.le_of_ble_eq_true rfl) rfl ?_
  intro p e s m args below meth c F Zs hr hlk
  refine aw_aload_n (pc := 0) (i := 0) (x := ad 13) F dM_run_0 rfl rfl ?_
  refine aw_get (pc := 1) (v := .ref (ad 14)) F 13 hM_at13 rfl 5 (by decide) (fun w h => mw (iw_M w h)) (mw wd_654) rfl dM_run_1 ?_
  refine aw_iload_n (pc := 4) (i := 1) (x := i) F dM_run_4 rfl rfl ?_
  refine aw_iald (pc := 5) F 14 0 hM_at14 rfl (ix_in hw hi) dM_run_5 ?_
  by_cases s_6_0 : ((M.2 0) i.toNatClampNeg) = (0 : Int32)
  · refine aw_tableIn (pc := 6) F 60 dM_run_6 (by rw [s_6_0]; decide) (by rw [s_6_0]; decide) (off := 54) (by rw [s_6_0]; rfl) (by decide) ?_
    refine aw_aload_n (pc := 60) (i := 0) (x := ad 13) F dM_run_60 rfl rfl ?_
    refine aw_iload_n (pc := 61) (i := 1) (x := i) F dM_run_61 rfl rfl ?_
    refine aw_iload_n (pc := 62) (i := 3) (x := su) F dM_run_62 rfl rfl ?_
    refine aw_goV (pc := 63) (As := [.int i, .int su]) (rest := []) F zC_ok Zs 13 hM_at13 rfl (tM_simple  T M Y V i su hw hi hv) (cwV 2 F.1.2.2.2.2 (gi_V wd_795 wd_797 wd_52 wd_67 wd_798) rfl rfl rfl (by decide +kernel) ⟨by first | (simp only [aw_rm]; omega) | simp only [aw_rm] | omega, by first | (simp only [aw_rm]; omega) | simp only [aw_rm] | omega⟩) rfl (Nat.le_of_ble_eq_true rfl) ⟨Nat.zero_le _, Nat.zero_le _⟩ rfl dM_run_63 ?_
    show aW _ _ _ _ _ _ _ _ _ _ _ _ _ _ _ _ _ _ _ _ _ [.int ((fm_simple M V i su).1)]
    exact aw_iret (pc := 66) F hr hlk dM_run_66 (by rw [fm_run1, if_pos s_6_0]) (by rw [fm_run1, if_pos s_6_0])
  by_cases s_6_1 : ((M.2 0) i.toNatClampNeg) = (1 : Int32)
  · refine aw_tableIn (pc := 6) F 67 dM_run_6 (by rw [s_6_1]; decide) (by rw [s_6_1]; decide) (off := 61) (by rw [s_6_1]; rfl) (by decide) ?_
    refine aw_iload_n (pc := 67) (i := 2) (x := st) F dM_run_67 rfl rfl ?_
    refine aw_if_eq (pc := 68) F 80 dM_run_68 (by decide) (fun c_68 => ?_) (fun c_68 => ?_)
    · skip
      refine aw_iconst (pc := 80) (v := 1) F dM_run_80 (by decide) ?_
      refine aw_iload_n (pc := 81) (i := 3) (x := su) F dM_run_81 rfl rfl ?_
      refine aw_if_eq (pc := 82) F 89 dM_run_82 (by decide) (fun c_82 => ?_) (fun c_82 => ?_)
      · skip
        refine aw_iconst (pc := 89) (v := -1) F dM_run_89 (by decide) ?_
        refine aw_goS (pc := 90) (As := [.int (1 : Int32), .int (-1 : Int32)]) (rest := []) F zC_ok Zs (tM_outcome  T M Y V (1 : Int32) (-1 : Int32)) (va_cwS 2 F.1.2.2.2.2 (gi_S wd_799 wd_800 wd_67 wd_801) rfl rfl rfl (by decide +kernel) ⟨by first | (simp only [aw_rm]; omega) | simp only [aw_rm] | omega, by first | (simp only [aw_rm]; omega) | simp only [aw_rm] | omega⟩) rfl (Nat.le_of_ble_eq_true rfl) ⟨Nat.zero_le _, Nat.zero_le _⟩ rfl dM_run_90 ?_
        show aW _ _ _ _ _ _ _ _ _ _ _ _ _ _ _ _ _ _ _ _ _ [.int (fm_outcome (1 : Int32) (-1 : Int32))]
        exact aw_iret (pc := 93) F hr hlk dM_run_93 (by rw [fm_run1, if_neg s_6_0, if_pos s_6_1, if_pos c_68, if_pos c_82]) (by rw [fm_run1, if_neg s_6_0, if_pos s_6_1, if_pos c_68, if_pos c_82])
      · skip
        refine aw_iconst (pc := 85) (v := 0) F dM_run_85 (by decide) ?_
        refine aw_goto (pc := 86) F 90 dM_run_86 (by decide) ?_
        refine aw_goS (pc := 90) (As := [.int (1 : Int32), .int (0 : Int32)]) (rest := []) F zC_ok Zs (tM_outcome  T M Y V (1 : Int32) (0 : Int32)) (va_cwS 2 F.1.2.2.2.2 (gi_S wd_799 wd_800 wd_67 wd_801) rfl rfl rfl (by decide +kernel) ⟨by first | (simp only [aw_rm]; omega) | simp only [aw_rm] | omega, by first | (simp only [aw_rm]; omega) | simp only [aw_rm] | omega⟩) rfl (Nat.le_of_ble_eq_true rfl) ⟨Nat.zero_le _, Nat.zero_le _⟩ rfl dM_run_90 ?_
        show aW _ _ _ _ _ _ _ _ _ _ _ _ _ _ _ _ _ _ _ _ _ [.int (fm_outcome (1 : Int32) (0 : Int32))]
        exact aw_iret (pc := 93) F hr hlk dM_run_93 (by rw [fm_run1, if_neg s_6_0, if_pos s_6_1, if_pos c_68, if_neg c_82]) (by rw [fm_run1, if_neg s_6_0, if_pos s_6_1, if_pos c_68, if_neg c_82])
    · skip
      refine aw_aload_n (pc := 71) (i := 0) (x := ad 13) F dM_run_71 rfl rfl ?_
      refine aw_iload_n (pc := 72) (i := 1) (x := i) F dM_run_72 rfl rfl ?_
      refine aw_iload_n (pc := 73) (i := 3) (x := su) F dM_run_73 rfl rfl ?_
      refine aw_goV (pc := 74) (As := [.int i, .int su]) (rest := []) F zC_ok Zs 13 hM_at13 rfl (tM_simple  T M Y V i su hw hi hv) (cwV 2 F.1.2.2.2.2 (gi_V wd_795 wd_797 wd_52 wd_67 wd_798) rfl rfl rfl (by decide +kernel) ⟨by first | (simp only [aw_rm]; omega) | simp only [aw_rm] | omega, by first | (simp only [aw_rm]; omega) | simp only [aw_rm] | omega⟩) rfl (Nat.le_of_ble_eq_true rfl) ⟨Nat.zero_le _, Nat.zero_le _⟩ rfl dM_run_74 ?_
      show aW _ _ _ _ _ _ _ _ _ _ _ _ _ _ _ _ _ _ _ _ _ [.int ((fm_simple M V i su).1)]
      refine aw_goto (pc := 77) F 93 dM_run_77 (by decide) ?_
      exact aw_iret (pc := 93) F hr hlk dM_run_93 (by rw [fm_run1, if_neg s_6_0, if_pos s_6_1, if_neg c_68]) (by rw [fm_run1, if_neg s_6_0, if_pos s_6_1, if_neg c_68])
  by_cases s_6_2 : ((M.2 0) i.toNatClampNeg) = (2 : Int32)
  · refine aw_tableIn (pc := 6) F 60 dM_run_6 (by rw [s_6_2]; decide) (by rw [s_6_2]; decide) (off := 54) (by rw [s_6_2]; rfl) (by decide) ?_
    refine aw_aload_n (pc := 60) (i := 0) (x := ad 13) F dM_run_60 rfl rfl ?_
    refine aw_iload_n (pc := 61) (i := 1) (x := i) F dM_run_61 rfl rfl ?_
    refine aw_iload_n (pc := 62) (i := 3) (x := su) F dM_run_62 rfl rfl ?_
    refine aw_goV (pc := 63) (As := [.int i, .int su]) (rest := []) F zC_ok Zs 13 hM_at13 rfl (tM_simple  T M Y V i su hw hi hv) (cwV 2 F.1.2.2.2.2 (gi_V wd_795 wd_797 wd_52 wd_67 wd_798) rfl rfl rfl (by decide +kernel) ⟨by first | (simp only [aw_rm]; omega) | simp only [aw_rm] | omega, by first | (simp only [aw_rm]; omega) | simp only [aw_rm] | omega⟩) rfl (Nat.le_of_ble_eq_true rfl) ⟨Nat.zero_le _, Nat.zero_le _⟩ rfl dM_run_63 ?_
    show aW _ _ _ _ _ _ _ _ _ _ _ _ _ _ _ _ _ _ _ _ _ [.int ((fm_simple M V i su).1)]
    exact aw_iret (pc := 66) F hr hlk dM_run_66 (by rw [fm_run1, if_neg s_6_0, if_neg s_6_1, if_pos s_6_2]) (by rw [fm_run1, if_neg s_6_0, if_neg s_6_1, if_pos s_6_2])
  by_cases s_6_3 : ((M.2 0) i.toNatClampNeg) = (3 : Int32)
  · refine aw_tableIn (pc := 6) F 60 dM_run_6 (by rw [s_6_3]; decide) (by rw [s_6_3]; decide) (off := 54) (by rw [s_6_3]; rfl) (by decide) ?_
    refine aw_aload_n (pc := 60) (i := 0) (x := ad 13) F dM_run_60 rfl rfl ?_
    refine aw_iload_n (pc := 61) (i := 1) (x := i) F dM_run_61 rfl rfl ?_
    refine aw_iload_n (pc := 62) (i := 3) (x := su) F dM_run_62 rfl rfl ?_
    refine aw_goV (pc := 63) (As := [.int i, .int su]) (rest := []) F zC_ok Zs 13 hM_at13 rfl (tM_simple  T M Y V i su hw hi hv) (cwV 2 F.1.2.2.2.2 (gi_V wd_795 wd_797 wd_52 wd_67 wd_798) rfl rfl rfl (by decide +kernel) ⟨by first | (simp only [aw_rm]; omega) | simp only [aw_rm] | omega, by first | (simp only [aw_rm]; omega) | simp only [aw_rm] | omega⟩) rfl (Nat.le_of_ble_eq_true rfl) ⟨Nat.zero_le _, Nat.zero_le _⟩ rfl dM_run_63 ?_
    show aW _ _ _ _ _ _ _ _ _ _ _ _ _ _ _ _ _ _ _ _ _ [.int ((fm_simple M V i su).1)]
    exact aw_iret (pc := 66) F hr hlk dM_run_66 (by rw [fm_run1, if_neg s_6_0, if_neg s_6_1, if_neg s_6_2, if_pos s_6_3]) (by rw [fm_run1, if_neg s_6_0, if_neg s_6_1, if_neg s_6_2, if_pos s_6_3])
  by_cases s_6_4 : ((M.2 0) i.toNatClampNeg) = (4 : Int32)
  · refine aw_tableIn (pc := 6) F 94 dM_run_6 (by rw [s_6_4]; decide) (by rw [s_6_4]; decide) (off := 88) (by rw [s_6_4]; rfl) (by decide) ?_
    refine aw_aload_n (pc := 94) (i := 0) (x := ad 13) F dM_run_94 rfl rfl ?_
    refine aw_iload_n (pc := 95) (i := 1) (x := i) F dM_run_95 rfl rfl ?_
    refine aw_iload_n (pc := 96) (i := 2) (x := st) F dM_run_96 rfl rfl ?_
    refine aw_iload_n (pc := 97) (i := 3) (x := su) F dM_run_97 rfl rfl ?_
    refine aw_goV (pc := 98) (As := [.int i, .int st, .int su]) (rest := []) F zC_ok Zs 13 hM_at13 rfl (tM_present  T M Y V i st su hd hw HC HV HK hi (hk1 s_6_0 s_6_1 s_6_2 s_6_3) (hk2 (Or.inl s_6_4)) ((hw.2 i hi).2.2.2.2.2.2.2.1 (Or.inl s_6_4)) hv) (cwV 3 F.1.2.2.2.2 (gi_V wd_802 wd_804 wd_53 wd_67 wd_805) rfl rfl rfl (by decide +kernel) ⟨by first | (simp only [aw_rm]; omega) | simp only [aw_rm] | omega, by first | (simp only [aw_rm]; omega) | simp only [aw_rm] | omega⟩) rfl (Nat.le_of_ble_eq_true rfl) ⟨Nat.zero_le _, Nat.zero_le _⟩ rfl dM_run_98 ?_
    show aW _ _ _ _ _ _ _ _ _ _ _ _ _ _ _ _ _ _ _ _ _ [.int ((fm_present K M Y V i st su).1)]
    exact aw_iret (pc := 101) F hr hlk dM_run_101 (by rw [fm_run1, if_neg s_6_0, if_neg s_6_1, if_neg s_6_2, if_neg s_6_3, if_pos s_6_4]) (by rw [fm_run1, if_neg s_6_0, if_neg s_6_1, if_neg s_6_2, if_neg s_6_3, if_pos s_6_4])
  by_cases s_6_5 : ((M.2 0) i.toNatClampNeg) = (5 : Int32)
  · refine aw_tableIn (pc := 6) F 102 dM_run_6 (by rw [s_6_5]; decide) (by rw [s_6_5]; decide) (off := 96) (by rw [s_6_5]; rfl) (by decide) ?_
    refine aw_aload_n (pc := 102) (i := 0) (x := ad 13) F dM_run_102 rfl rfl ?_
    refine aw_iload_n (pc := 103) (i := 1) (x := i) F dM_run_103 rfl rfl ?_
    refine aw_iload_n (pc := 104) (i := 2) (x := st) F dM_run_104 rfl rfl ?_
    refine aw_iload_n (pc := 105) (i := 3) (x := su) F dM_run_105 rfl rfl ?_
    refine aw_goV (pc := 106) (As := [.int i, .int st, .int su]) (rest := []) F zC_ok Zs 13 hM_at13 rfl (tM_suspend  T M Y V i st su hd hw HC HV HK hi (hk1 s_6_0 s_6_1 s_6_2 s_6_3) ((hw.2 i hi).2.2.2.2.2.2.2.1 (Or.inr s_6_5)) hv) (cwV 3 F.1.2.2.2.2 (gi_V wd_817 wd_819 wd_56 wd_67 wd_820) rfl rfl rfl (by decide +kernel) ⟨by first | (simp only [aw_rm]; omega) | simp only [aw_rm] | omega, by first | (simp only [aw_rm]; omega) | simp only [aw_rm] | omega⟩) rfl (Nat.le_of_ble_eq_true rfl) ⟨Nat.zero_le _, Nat.zero_le _⟩ rfl dM_run_106 ?_
    show aW _ _ _ _ _ _ _ _ _ _ _ _ _ _ _ _ _ _ _ _ _ [.int ((fm_suspend K M Y V i st su).1)]
    exact aw_iret (pc := 109) F hr hlk dM_run_109 (by rw [fm_run1, if_neg s_6_0, if_neg s_6_1, if_neg s_6_2, if_neg s_6_3, if_neg s_6_4, if_pos s_6_5]) (by rw [fm_run1, if_neg s_6_0, if_neg s_6_1, if_neg s_6_2, if_neg s_6_3, if_neg s_6_4, if_pos s_6_5])
  by_cases s_6_6 : ((M.2 0) i.toNatClampNeg) = (6 : Int32)
  · refine aw_tableIn (pc := 6) F 110 dM_run_6 (by rw [s_6_6]; decide) (by rw [s_6_6]; decide) (off := 104) (by rw [s_6_6]; rfl) (by decide) ?_
    refine aw_iload_n (pc := 110) (i := 2) (x := st) F dM_run_110 rfl rfl ?_
    refine aw_if_ne (pc := 111) F 127 dM_run_111 (by decide) (fun c_111 => ?_) (fun c_111 => ?_)
    · skip
      refine aw_aload_n (pc := 127) (i := 0) (x := ad 13) F dM_run_127 rfl rfl ?_
      refine aw_iload_n (pc := 128) (i := 1) (x := i) F dM_run_128 rfl rfl ?_
      refine aw_aload_n (pc := 129) (i := 0) (x := ad 13) F dM_run_129 rfl rfl ?_
      refine aw_aload_n (pc := 130) (i := 0) (x := ad 13) F dM_run_130 rfl rfl ?_
      refine aw_get (pc := 131) (v := .ref (ad 16)) F 13 hM_at13 rfl 7 (by decide) (fun w h => mw (iw_M w h)) (mw wd_656) rfl dM_run_131 ?_
      refine aw_iload_n (pc := 134) (i := 1) (x := i) F dM_run_134 rfl rfl ?_
      refine aw_iald (pc := 135) F 16 0 hM_at16 rfl (ix_in hw hi) dM_run_135 ?_
      refine aw_iload_n (pc := 136) (i := 2) (x := st) F dM_run_136 rfl rfl ?_
      refine aw_iload_n (pc := 137) (i := 3) (x := su) F dM_run_137 rfl rfl ?_
      refine aw_goV (pc := 138) (As := [.int ((M.2 2) i.toNatClampNeg), .int st, .int su]) (rest := [.int i, .ref (ad 13)]) F zC_ok Zs 13 hM_at13 rfl (HK V ((M.2 2) i.toNatClampNeg) st su (hk1 s_6_0 s_6_1 s_6_2 s_6_3) hv) (cwV 3 F.1.2.2.2.2 (gi_V wd_791 wd_793 wd_51 wd_67 wd_794) rfl rfl rfl (by decide +kernel) ⟨by first | (simp only [aw_rm]; omega) | simp only [aw_rm] | omega, by first | (simp only [aw_rm]; omega) | simp only [aw_rm] | omega⟩) rfl (Nat.le_of_ble_eq_true rfl) ⟨Nat.zero_le _, Nat.zero_le _⟩ rfl dM_run_138 ?_
      show aW _ _ _ _ _ _ _ _ _ _ _ _ _ _ _ _ _ _ _ _ _ [.int ((K V ((M.2 2) i.toNatClampNeg) st su).1), .int i, .ref (ad 13)]
      refine aw_aload_n (pc := 141) (i := 0) (x := ad 13) F dM_run_141 rfl rfl ?_
      refine aw_get (pc := 142) (v := .ref (ad 17)) F 13 hM_at13 rfl 8 (by decide) (fun w h => mw (iw_M w h)) (mw wd_657) rfl dM_run_142 ?_
      refine aw_iload_n (pc := 145) (i := 1) (x := i) F dM_run_145 rfl rfl ?_
      refine aw_iald (pc := 146) F 17 0 hM_at17 rfl (ix_in hw hi) dM_run_146 ?_
      refine aw_iload_n (pc := 147) (i := 2) (x := st) F dM_run_147 rfl rfl ?_
      refine aw_iload_n (pc := 148) (i := 3) (x := su) F dM_run_148 rfl rfl ?_
      refine aw_goV (pc := 149) (As := [.int i, .int ((K V ((M.2 2) i.toNatClampNeg) st su).1), .int ((M.2 3) i.toNatClampNeg), .int st, .int su]) (rest := []) F zC_ok Zs 13 hM_at13 rfl (tM_behind  T M Y ((K V ((M.2 2) i.toNatClampNeg) st su).2) i ((K V ((M.2 2) i.toNatClampNeg) st su).1) ((M.2 3) i.toNatClampNeg) st su hd hw HC HV HK hi (hk2 (Or.inr (Or.inl s_6_6))) (HV _ _ _ _ (hk1 s_6_0 s_6_1 s_6_2 s_6_3) hv)) (cwV 5 F.1.2.2.2.2 (gi_V wd_821 wd_823 wd_57 wd_67 wd_824) rfl rfl rfl (by decide +kernel) ⟨by first | (simp only [aw_rm]; omega) | simp only [aw_rm] | omega, by first | (simp only [aw_rm]; omega) | simp only [aw_rm] | omega⟩) rfl (Nat.le_of_ble_eq_true rfl) ⟨Nat.zero_le _, Nat.zero_le _⟩ rfl dM_run_149 ?_
      show aW _ _ _ _ _ _ _ _ _ _ _ _ _ _ _ _ _ _ _ _ _ [.int ((fm_behind K M ((K V ((M.2 2) i.toNatClampNeg) st su).2) i ((K V ((M.2 2) i.toNatClampNeg) st su).1) ((M.2 3) i.toNatClampNeg) st su).1)]
      refine aw_goto (pc := 152) F 167 dM_run_152 (by decide) ?_
      exact aw_iret (pc := 167) F hr hlk dM_run_167 (by rw [fm_run1, if_neg s_6_0, if_neg s_6_1, if_neg s_6_2, if_neg s_6_3, if_neg s_6_4, if_neg s_6_5, if_pos s_6_6, if_neg c_111]) (by rw [fm_run1, if_neg s_6_0, if_neg s_6_1, if_neg s_6_2, if_neg s_6_3, if_neg s_6_4, if_neg s_6_5, if_pos s_6_6, if_neg c_111])
    · skip
      refine aw_aload_n (pc := 114) (i := 0) (x := ad 13) F dM_run_114 rfl rfl ?_
      refine aw_aload_n (pc := 115) (i := 0) (x := ad 13) F dM_run_115 rfl rfl ?_
      refine aw_get (pc := 116) (v := .ref (ad 16)) F 13 hM_at13 rfl 7 (by decide) (fun w h => mw (iw_M w h)) (mw wd_656) rfl dM_run_116 ?_
      refine aw_iload_n (pc := 119) (i := 1) (x := i) F dM_run_119 rfl rfl ?_
      refine aw_iald (pc := 120) F 16 0 hM_at16 rfl (ix_in hw hi) dM_run_120 ?_
      refine aw_goV (pc := 121) (As := [.int ((M.2 2) i.toNatClampNeg)]) (rest := []) F zC_ok Zs 13 hM_at13 rfl (tM_has  T M Y V ((M.2 2) i.toNatClampNeg) hw (HC _ (hk1 s_6_0 s_6_1 s_6_2 s_6_3))) (cwV 1 F.1.2.2.2.2 (gi_V wd_806 wd_808 wd_54 wd_67 wd_809) rfl rfl rfl (by decide +kernel) ⟨by first | (simp only [aw_rm]; omega) | simp only [aw_rm] | omega, by first | (simp only [aw_rm]; omega) | simp only [aw_rm] | omega⟩) rfl (Nat.le_of_ble_eq_true rfl) ⟨Nat.zero_le _, Nat.zero_le _⟩ rfl dM_run_121 ?_
      show aW _ _ _ _ _ _ _ _ _ _ _ _ _ _ _ _ _ _ _ _ _ [.int (fm_has M Y ((M.2 2) i.toNatClampNeg))]
      refine aw_if_eq (pc := 124) F 155 dM_run_124 (by decide) (fun c_124 => ?_) (fun c_124 => ?_)
      · skip
        refine aw_aload_n (pc := 155) (i := 0) (x := ad 13) F dM_run_155 rfl rfl ?_
        refine aw_aload_n (pc := 156) (i := 0) (x := ad 13) F dM_run_156 rfl rfl ?_
        refine aw_get (pc := 157) (v := .ref (ad 17)) F 13 hM_at13 rfl 8 (by decide) (fun w h => mw (iw_M w h)) (mw wd_657) rfl dM_run_157 ?_
        refine aw_iload_n (pc := 160) (i := 1) (x := i) F dM_run_160 rfl rfl ?_
        refine aw_iald (pc := 161) F 17 0 hM_at17 rfl (ix_in hw hi) dM_run_161 ?_
        refine aw_iconst (pc := 162) (v := 0) F dM_run_162 (by decide) ?_
        refine aw_iload_n (pc := 163) (i := 3) (x := su) F dM_run_163 rfl rfl ?_
        refine aw_goV (pc := 164) (As := [.int ((M.2 3) i.toNatClampNeg), .int (0 : Int32), .int su]) (rest := []) F zC_ok Zs 13 hM_at13 rfl (HK V ((M.2 3) i.toNatClampNeg) (0 : Int32) su (hk2 (Or.inr (Or.inl s_6_6))) hv) (cwV 3 F.1.2.2.2.2 (gi_V wd_791 wd_793 wd_51 wd_67 wd_794) rfl rfl rfl (by decide +kernel) ⟨by first | (simp only [aw_rm]; omega) | simp only [aw_rm] | omega, by first | (simp only [aw_rm]; omega) | simp only [aw_rm] | omega⟩) rfl (Nat.le_of_ble_eq_true rfl) ⟨Nat.zero_le _, Nat.zero_le _⟩ rfl dM_run_164 ?_
        show aW _ _ _ _ _ _ _ _ _ _ _ _ _ _ _ _ _ _ _ _ _ [.int ((K V ((M.2 3) i.toNatClampNeg) (0 : Int32) su).1)]
        exact aw_iret (pc := 167) F hr hlk dM_run_167 (by rw [fm_run1, if_neg s_6_0, if_neg s_6_1, if_neg s_6_2, if_neg s_6_3, if_neg s_6_4, if_neg s_6_5, if_pos s_6_6, if_pos c_111, if_pos c_124]) (by rw [fm_run1, if_neg s_6_0, if_neg s_6_1, if_neg s_6_2, if_neg s_6_3, if_neg s_6_4, if_neg s_6_5, if_pos s_6_6, if_pos c_111, if_pos c_124])
      · skip
        refine aw_aload_n (pc := 127) (i := 0) (x := ad 13) F dM_run_127 rfl rfl ?_
        refine aw_iload_n (pc := 128) (i := 1) (x := i) F dM_run_128 rfl rfl ?_
        refine aw_aload_n (pc := 129) (i := 0) (x := ad 13) F dM_run_129 rfl rfl ?_
        refine aw_aload_n (pc := 130) (i := 0) (x := ad 13) F dM_run_130 rfl rfl ?_
        refine aw_get (pc := 131) (v := .ref (ad 16)) F 13 hM_at13 rfl 7 (by decide) (fun w h => mw (iw_M w h)) (mw wd_656) rfl dM_run_131 ?_
        refine aw_iload_n (pc := 134) (i := 1) (x := i) F dM_run_134 rfl rfl ?_
        refine aw_iald (pc := 135) F 16 0 hM_at16 rfl (ix_in hw hi) dM_run_135 ?_
        refine aw_iload_n (pc := 136) (i := 2) (x := st) F dM_run_136 rfl rfl ?_
        refine aw_iload_n (pc := 137) (i := 3) (x := su) F dM_run_137 rfl rfl ?_
        refine aw_goV (pc := 138) (As := [.int ((M.2 2) i.toNatClampNeg), .int st, .int su]) (rest := [.int i, .ref (ad 13)]) F zC_ok Zs 13 hM_at13 rfl (HK V ((M.2 2) i.toNatClampNeg) st su (hk1 s_6_0 s_6_1 s_6_2 s_6_3) hv) (cwV 3 F.1.2.2.2.2 (gi_V wd_791 wd_793 wd_51 wd_67 wd_794) rfl rfl rfl (by decide +kernel) ⟨by first | (simp only [aw_rm]; omega) | simp only [aw_rm] | omega, by first | (simp only [aw_rm]; omega) | simp only [aw_rm] | omega⟩) rfl (Nat.le_of_ble_eq_true rfl) ⟨Nat.zero_le _, Nat.zero_le _⟩ rfl dM_run_138 ?_
        show aW _ _ _ _ _ _ _ _ _ _ _ _ _ _ _ _ _ _ _ _ _ [.int ((K V ((M.2 2) i.toNatClampNeg) st su).1), .int i, .ref (ad 13)]
        refine aw_aload_n (pc := 141) (i := 0) (x := ad 13) F dM_run_141 rfl rfl ?_
        refine aw_get (pc := 142) (v := .ref (ad 17)) F 13 hM_at13 rfl 8 (by decide) (fun w h => mw (iw_M w h)) (mw wd_657) rfl dM_run_142 ?_
        refine aw_iload_n (pc := 145) (i := 1) (x := i) F dM_run_145 rfl rfl ?_
        refine aw_iald (pc := 146) F 17 0 hM_at17 rfl (ix_in hw hi) dM_run_146 ?_
        refine aw_iload_n (pc := 147) (i := 2) (x := st) F dM_run_147 rfl rfl ?_
        refine aw_iload_n (pc := 148) (i := 3) (x := su) F dM_run_148 rfl rfl ?_
        refine aw_goV (pc := 149) (As := [.int i, .int ((K V ((M.2 2) i.toNatClampNeg) st su).1), .int ((M.2 3) i.toNatClampNeg), .int st, .int su]) (rest := []) F zC_ok Zs 13 hM_at13 rfl (tM_behind  T M Y ((K V ((M.2 2) i.toNatClampNeg) st su).2) i ((K V ((M.2 2) i.toNatClampNeg) st su).1) ((M.2 3) i.toNatClampNeg) st su hd hw HC HV HK hi (hk2 (Or.inr (Or.inl s_6_6))) (HV _ _ _ _ (hk1 s_6_0 s_6_1 s_6_2 s_6_3) hv)) (cwV 5 F.1.2.2.2.2 (gi_V wd_821 wd_823 wd_57 wd_67 wd_824) rfl rfl rfl (by decide +kernel) ⟨by first | (simp only [aw_rm]; omega) | simp only [aw_rm] | omega, by first | (simp only [aw_rm]; omega) | simp only [aw_rm] | omega⟩) rfl (Nat.le_of_ble_eq_true rfl) ⟨Nat.zero_le _, Nat.zero_le _⟩ rfl dM_run_149 ?_
        show aW _ _ _ _ _ _ _ _ _ _ _ _ _ _ _ _ _ _ _ _ _ [.int ((fm_behind K M ((K V ((M.2 2) i.toNatClampNeg) st su).2) i ((K V ((M.2 2) i.toNatClampNeg) st su).1) ((M.2 3) i.toNatClampNeg) st su).1)]
        refine aw_goto (pc := 152) F 167 dM_run_152 (by decide) ?_
        exact aw_iret (pc := 167) F hr hlk dM_run_167 (by rw [fm_run1, if_neg s_6_0, if_neg s_6_1, if_neg s_6_2, if_neg s_6_3, if_neg s_6_4, if_neg s_6_5, if_pos s_6_6, if_pos c_111, if_neg c_124]) (by rw [fm_run1, if_neg s_6_0, if_neg s_6_1, if_neg s_6_2, if_neg s_6_3, if_neg s_6_4, if_neg s_6_5, if_pos s_6_6, if_pos c_111, if_neg c_124])
  by_cases s_6_7 : ((M.2 0) i.toNatClampNeg) = (7 : Int32)
  · refine aw_tableIn (pc := 6) F 168 dM_run_6 (by rw [s_6_7]; decide) (by rw [s_6_7]; decide) (off := 162) (by rw [s_6_7]; rfl) (by decide) ?_
    refine aw_aload_n (pc := 168) (i := 0) (x := ad 13) F dM_run_168 rfl rfl ?_
    refine aw_iload_n (pc := 169) (i := 1) (x := i) F dM_run_169 rfl rfl ?_
    refine aw_iload_n (pc := 170) (i := 2) (x := st) F dM_run_170 rfl rfl ?_
    refine aw_iload_n (pc := 171) (i := 3) (x := su) F dM_run_171 rfl rfl ?_
    refine aw_goV (pc := 172) (As := [.int i, .int st, .int su]) (rest := []) F zC_ok Zs 13 hM_at13 rfl (tM_parallel  T M Y V i st su hd hw HC HV HK hi (hk1 s_6_0 s_6_1 s_6_2 s_6_3) (hk2 (Or.inr (Or.inr s_6_7))) hv) (cwV 3 F.1.2.2.2.2 (gi_V wd_828 wd_830 wd_58 wd_67 wd_831) rfl rfl rfl (by decide +kernel) ⟨by first | (simp only [aw_rm]; omega) | simp only [aw_rm] | omega, by first | (simp only [aw_rm]; omega) | simp only [aw_rm] | omega⟩) rfl (Nat.le_of_ble_eq_true rfl) ⟨Nat.zero_le _, Nat.zero_le _⟩ rfl dM_run_172 ?_
    show aW _ _ _ _ _ _ _ _ _ _ _ _ _ _ _ _ _ _ _ _ _ [.int ((fm_parallel K M Y V i st su).1)]
    exact aw_iret (pc := 175) F hr hlk dM_run_175 (by rw [fm_run1, if_neg s_6_0, if_neg s_6_1, if_neg s_6_2, if_neg s_6_3, if_neg s_6_4, if_neg s_6_5, if_neg s_6_6, if_pos s_6_7]) (by rw [fm_run1, if_neg s_6_0, if_neg s_6_1, if_neg s_6_2, if_neg s_6_3, if_neg s_6_4, if_neg s_6_5, if_neg s_6_6, if_pos s_6_7])
  by_cases s_6_8 : ((M.2 0) i.toNatClampNeg) = (8 : Int32)
  · refine aw_tableIn (pc := 6) F 176 dM_run_6 (by rw [s_6_8]; decide) (by rw [s_6_8]; decide) (off := 170) (by rw [s_6_8]; rfl) (by decide) ?_
    refine aw_iload_n (pc := 176) (i := 2) (x := st) F dM_run_176 rfl rfl ?_
    refine aw_if_eq (pc := 177) F 195 dM_run_177 (by decide) (fun c_177 => ?_) (fun c_177 => ?_)
    · skip
      refine aw_aload_n (pc := 195) (i := 0) (x := ad 13) F dM_run_195 rfl rfl ?_
      refine aw_iload_n (pc := 196) (i := 1) (x := i) F dM_run_196 rfl rfl ?_
      refine aw_aload_n (pc := 197) (i := 0) (x := ad 13) F dM_run_197 rfl rfl ?_
      refine aw_aload_n (pc := 198) (i := 0) (x := ad 13) F dM_run_198 rfl rfl ?_
      refine aw_get (pc := 199) (v := .ref (ad 16)) F 13 hM_at13 rfl 7 (by decide) (fun w h => mw (iw_M w h)) (mw wd_656) rfl dM_run_199 ?_
      refine aw_iload_n (pc := 202) (i := 1) (x := i) F dM_run_202 rfl rfl ?_
      refine aw_iald (pc := 203) F 16 0 hM_at16 rfl (ix_in hw hi) dM_run_203 ?_
      refine aw_iconst (pc := 204) (v := 0) F dM_run_204 (by decide) ?_
      refine aw_iload_n (pc := 205) (i := 3) (x := su) F dM_run_205 rfl rfl ?_
      refine aw_goV (pc := 206) (As := [.int ((M.2 2) i.toNatClampNeg), .int (0 : Int32), .int su]) (rest := [.int i, .ref (ad 13)]) F zC_ok Zs 13 hM_at13 rfl (HK V ((M.2 2) i.toNatClampNeg) (0 : Int32) su (hk1 s_6_0 s_6_1 s_6_2 s_6_3) hv) (cwV 3 F.1.2.2.2.2 (gi_V wd_791 wd_793 wd_51 wd_67 wd_794) rfl rfl rfl (by decide +kernel) ⟨by first | (simp only [aw_rm]; omega) | simp only [aw_rm] | omega, by first | (simp only [aw_rm]; omega) | simp only [aw_rm] | omega⟩) rfl (Nat.le_of_ble_eq_true rfl) ⟨Nat.zero_le _, Nat.zero_le _⟩ rfl dM_run_206 ?_
      show aW _ _ _ _ _ _ _ _ _ _ _ _ _ _ _ _ _ _ _ _ _ [.int ((K V ((M.2 2) i.toNatClampNeg) (0 : Int32) su).1), .int i, .ref (ad 13)]
      refine aw_aload_n (pc := 209) (i := 0) (x := ad 13) F dM_run_209 rfl rfl ?_
      refine aw_get (pc := 210) (v := .ref (ad 16)) F 13 hM_at13 rfl 7 (by decide) (fun w h => mw (iw_M w h)) (mw wd_656) rfl dM_run_210 ?_
      refine aw_iload_n (pc := 213) (i := 1) (x := i) F dM_run_213 rfl rfl ?_
      refine aw_iald (pc := 214) F 16 0 hM_at16 rfl (ix_in hw hi) dM_run_214 ?_
      refine aw_iconst (pc := 215) (v := 0) F dM_run_215 (by decide) ?_
      refine aw_iload_n (pc := 216) (i := 3) (x := su) F dM_run_216 rfl rfl ?_
      refine aw_goV (pc := 217) (As := [.int i, .int ((K V ((M.2 2) i.toNatClampNeg) (0 : Int32) su).1), .int ((M.2 2) i.toNatClampNeg), .int (0 : Int32), .int su]) (rest := []) F zC_ok Zs 13 hM_at13 rfl (tM_behind  T M Y ((K V ((M.2 2) i.toNatClampNeg) (0 : Int32) su).2) i ((K V ((M.2 2) i.toNatClampNeg) (0 : Int32) su).1) ((M.2 2) i.toNatClampNeg) (0 : Int32) su hd hw HC HV HK hi (hk1 s_6_0 s_6_1 s_6_2 s_6_3) (HV _ _ _ _ (hk1 s_6_0 s_6_1 s_6_2 s_6_3) hv)) (cwV 5 F.1.2.2.2.2 (gi_V wd_821 wd_823 wd_57 wd_67 wd_824) rfl rfl rfl (by decide +kernel) ⟨by first | (simp only [aw_rm]; omega) | simp only [aw_rm] | omega, by first | (simp only [aw_rm]; omega) | simp only [aw_rm] | omega⟩) rfl (Nat.le_of_ble_eq_true rfl) ⟨Nat.zero_le _, Nat.zero_le _⟩ rfl dM_run_217 ?_
      show aW _ _ _ _ _ _ _ _ _ _ _ _ _ _ _ _ _ _ _ _ _ [.int ((fm_behind K M ((K V ((M.2 2) i.toNatClampNeg) (0 : Int32) su).2) i ((K V ((M.2 2) i.toNatClampNeg) (0 : Int32) su).1) ((M.2 2) i.toNatClampNeg) (0 : Int32) su).1)]
      exact aw_iret (pc := 220) F hr hlk dM_run_220 (by rw [fm_run1, if_neg s_6_0, if_neg s_6_1, if_neg s_6_2, if_neg s_6_3, if_neg s_6_4, if_neg s_6_5, if_neg s_6_6, if_neg s_6_7, if_pos s_6_8, if_pos c_177]) (by rw [fm_run1, if_neg s_6_0, if_neg s_6_1, if_neg s_6_2, if_neg s_6_3, if_neg s_6_4, if_neg s_6_5, if_neg s_6_6, if_neg s_6_7, if_pos s_6_8, if_pos c_177])
    · skip
      refine aw_aload_n (pc := 180) (i := 0) (x := ad 13) F dM_run_180 rfl rfl ?_
      refine aw_aload_n (pc := 181) (i := 0) (x := ad 13) F dM_run_181 rfl rfl ?_
      refine aw_get (pc := 182) (v := .ref (ad 16)) F 13 hM_at13 rfl 7 (by decide) (fun w h => mw (iw_M w h)) (mw wd_656) rfl dM_run_182 ?_
      refine aw_iload_n (pc := 185) (i := 1) (x := i) F dM_run_185 rfl rfl ?_
      refine aw_iald (pc := 186) F 16 0 hM_at16 rfl (ix_in hw hi) dM_run_186 ?_
      refine aw_iconst (pc := 187) (v := 1) F dM_run_187 (by decide) ?_
      refine aw_iload_n (pc := 188) (i := 3) (x := su) F dM_run_188 rfl rfl ?_
      refine aw_goV (pc := 189) (As := [.int ((M.2 2) i.toNatClampNeg), .int (1 : Int32), .int su]) (rest := []) F zC_ok Zs 13 hM_at13 rfl (HK V ((M.2 2) i.toNatClampNeg) (1 : Int32) su (hk1 s_6_0 s_6_1 s_6_2 s_6_3) hv) (cwV 3 F.1.2.2.2.2 (gi_V wd_791 wd_793 wd_51 wd_67 wd_794) rfl rfl rfl (by decide +kernel) ⟨by first | (simp only [aw_rm]; omega) | simp only [aw_rm] | omega, by first | (simp only [aw_rm]; omega) | simp only [aw_rm] | omega⟩) rfl (Nat.le_of_ble_eq_true rfl) ⟨Nat.zero_le _, Nat.zero_le _⟩ rfl dM_run_189 ?_
      show aW _ _ _ _ _ _ _ _ _ _ _ _ _ _ _ _ _ _ _ _ _ [.int ((K V ((M.2 2) i.toNatClampNeg) (1 : Int32) su).1)]
      refine aw_goto (pc := 192) F 220 dM_run_192 (by decide) ?_
      exact aw_iret (pc := 220) F hr hlk dM_run_220 (by rw [fm_run1, if_neg s_6_0, if_neg s_6_1, if_neg s_6_2, if_neg s_6_3, if_neg s_6_4, if_neg s_6_5, if_neg s_6_6, if_neg s_6_7, if_pos s_6_8, if_neg c_177]) (by rw [fm_run1, if_neg s_6_0, if_neg s_6_1, if_neg s_6_2, if_neg s_6_3, if_neg s_6_4, if_neg s_6_5, if_neg s_6_6, if_neg s_6_7, if_pos s_6_8, if_neg c_177])
  by_cases s_6_9 : ((M.2 0) i.toNatClampNeg) = (9 : Int32)
  · refine aw_tableIn (pc := 6) F 221 dM_run_6 (by rw [s_6_9]; decide) (by rw [s_6_9]; decide) (off := 215) (by rw [s_6_9]; rfl) (by decide) ?_
    refine aw_aload_n (pc := 221) (i := 0) (x := ad 13) F dM_run_221 rfl rfl ?_
    refine aw_iload_n (pc := 222) (i := 1) (x := i) F dM_run_222 rfl rfl ?_
    refine aw_iload_n (pc := 223) (i := 2) (x := st) F dM_run_223 rfl rfl ?_
    refine aw_iload_n (pc := 224) (i := 3) (x := su) F dM_run_224 rfl rfl ?_
    refine aw_goV (pc := 225) (As := [.int i, .int st, .int su]) (rest := []) F zC_ok Zs 13 hM_at13 rfl (tM_trap  T M Y V i st su hd hw HC HV HK hi (hk1 s_6_0 s_6_1 s_6_2 s_6_3) hv) (cwV 3 F.1.2.2.2.2 (gi_V wd_836 wd_838 wd_60 wd_67 wd_839) rfl rfl rfl (by decide +kernel) ⟨by first | (simp only [aw_rm]; omega) | simp only [aw_rm] | omega, by first | (simp only [aw_rm]; omega) | simp only [aw_rm] | omega⟩) rfl (Nat.le_of_ble_eq_true rfl) ⟨Nat.zero_le _, Nat.zero_le _⟩ rfl dM_run_225 ?_
    show aW _ _ _ _ _ _ _ _ _ _ _ _ _ _ _ _ _ _ _ _ _ [.int ((fm_trap K M V i st su).1)]
    exact aw_iret (pc := 228) F hr hlk dM_run_228 (by rw [fm_run1, if_neg s_6_0, if_neg s_6_1, if_neg s_6_2, if_neg s_6_3, if_neg s_6_4, if_neg s_6_5, if_neg s_6_6, if_neg s_6_7, if_neg s_6_8, if_pos s_6_9]) (by rw [fm_run1, if_neg s_6_0, if_neg s_6_1, if_neg s_6_2, if_neg s_6_3, if_neg s_6_4, if_neg s_6_5, if_neg s_6_6, if_neg s_6_7, if_neg s_6_8, if_pos s_6_9])
  refine aw_tableOut (pc := 6) F 229 dM_run_6 (by have := aw_ne s_6_0 (a := 0) (by decide); have := aw_ne s_6_1 (a := 1) (by decide); have := aw_ne s_6_2 (a := 2) (by decide); have := aw_ne s_6_3 (a := 3) (by decide); have := aw_ne s_6_4 (a := 4) (by decide); have := aw_ne s_6_5 (a := 5) (by decide); have := aw_ne s_6_6 (a := 6) (by decide); have := aw_ne s_6_7 (a := 7) (by decide); have := aw_ne s_6_8 (a := 8) (by decide); have := aw_ne s_6_9 (a := 9) (by decide); omega) (by decide) ?_
  refine aw_aload_n (pc := 229) (i := 0) (x := ad 13) F dM_run_229 rfl rfl ?_
  refine aw_iload_n (pc := 230) (i := 1) (x := i) F dM_run_230 rfl rfl ?_
  refine aw_iload_n (pc := 231) (i := 2) (x := st) F dM_run_231 rfl rfl ?_
  refine aw_iload_n (pc := 232) (i := 3) (x := su) F dM_run_232 rfl rfl ?_
  refine aw_goV (pc := 233) (As := [.int i, .int st, .int su]) (rest := []) F zC_ok Zs 13 hM_at13 rfl (tM_local  T M Y V i st su hd hw HC HV HK hi ((hw.2 i hi).2.2.2.2.2.2.1 (so_10 (hw.2 i hi) s_6_0 s_6_1 s_6_2 s_6_3 s_6_4 s_6_5 s_6_6 s_6_7 s_6_8 s_6_9)) (hk1 s_6_0 s_6_1 s_6_2 s_6_3) hv) (cwV 3 F.1.2.2.2.2 (gi_V wd_840 wd_842 wd_61 wd_67 wd_843) rfl rfl rfl (by decide +kernel) ⟨by first | (simp only [aw_rm]; omega) | simp only [aw_rm] | omega, by first | (simp only [aw_rm]; omega) | simp only [aw_rm] | omega⟩) rfl (Nat.le_of_ble_eq_true rfl) ⟨Nat.zero_le _, Nat.zero_le _⟩ rfl dM_run_233 ?_
  show aW _ _ _ _ _ _ _ _ _ _ _ _ _ _ _ _ _ _ _ _ _ [.int ((fm_local K M Y V i st su).1)]
  exact aw_iret (pc := 236) F hr hlk dM_run_236 (by rw [fm_run1, if_neg s_6_0, if_neg s_6_1, if_neg s_6_2, if_neg s_6_3, if_neg s_6_4, if_neg s_6_5, if_neg s_6_6, if_neg s_6_7, if_neg s_6_8, if_neg s_6_9]) (by rw [fm_run1, if_neg s_6_0, if_neg s_6_1, if_neg s_6_2, if_neg s_6_3, if_neg s_6_4, if_neg s_6_5, if_neg s_6_6, if_neg s_6_7, if_neg s_6_8, if_neg s_6_9])
