def fm_codes1 (K : Int32 → Int32) (M : mT) (i : Int32) : Int32 :=
  if ((M.2 2) i.toNatClampNeg) = (-1 : Int32) then
    if ((M.2 3) i.toNatClampNeg) = (-1 : Int32) then
      if ((M.2 0) i.toNatClampNeg) = (0 : Int32) then (1 : Int32)
      else if ((M.2 0) i.toNatClampNeg) = (1 : Int32) then (2 : Int32)
      else if ((M.2 0) i.toNatClampNeg) = (2 : Int32) then (1 : Int32)
      else if ((M.2 0) i.toNatClampNeg) = (3 : Int32) then ((4 : Int32) <<< (((M.2 1) i.toNatClampNeg) &&& 31))
      else if ((M.2 0) i.toNatClampNeg) = (4 : Int32) then ((0 : Int32) ||| (0 : Int32))
      else if ((M.2 0) i.toNatClampNeg) = (5 : Int32) then (0 : Int32)
      else if ((M.2 0) i.toNatClampNeg) = (6 : Int32) then if ((0 : Int32) &&& (1 : Int32)) = 0 then (0 : Int32) else (((0 : Int32) &&& (-2 : Int32)) ||| (0 : Int32))
      else if ((M.2 0) i.toNatClampNeg) = (7 : Int32) then (fm_pairs (0 : Int32) (0 : Int32))
      else if ((M.2 0) i.toNatClampNeg) = (8 : Int32) then ((0 : Int32) &&& (-2 : Int32))
      else if ((M.2 0) i.toNatClampNeg) = (9 : Int32) then (fm_caught (0 : Int32))
      else (0 : Int32)
    else
      if ((M.2 0) i.toNatClampNeg) = (0 : Int32) then (1 : Int32)
      else if ((M.2 0) i.toNatClampNeg) = (1 : Int32) then (2 : Int32)
      else if ((M.2 0) i.toNatClampNeg) = (2 : Int32) then (1 : Int32)
      else if ((M.2 0) i.toNatClampNeg) = (3 : Int32) then ((4 : Int32) <<< (((M.2 1) i.toNatClampNeg) &&& 31))
      else if ((M.2 0) i.toNatClampNeg) = (4 : Int32) then ((0 : Int32) ||| (K ((M.2 3) i.toNatClampNeg)))
      else if ((M.2 0) i.toNatClampNeg) = (5 : Int32) then (0 : Int32)
      else if ((M.2 0) i.toNatClampNeg) = (6 : Int32) then if ((0 : Int32) &&& (1 : Int32)) = 0 then (0 : Int32) else (((0 : Int32) &&& (-2 : Int32)) ||| (K ((M.2 3) i.toNatClampNeg)))
      else if ((M.2 0) i.toNatClampNeg) = (7 : Int32) then (fm_pairs (0 : Int32) (K ((M.2 3) i.toNatClampNeg)))
      else if ((M.2 0) i.toNatClampNeg) = (8 : Int32) then ((0 : Int32) &&& (-2 : Int32))
      else if ((M.2 0) i.toNatClampNeg) = (9 : Int32) then (fm_caught (0 : Int32))
      else (0 : Int32)
  else
    if ((M.2 3) i.toNatClampNeg) = (-1 : Int32) then
      if ((M.2 0) i.toNatClampNeg) = (0 : Int32) then (1 : Int32)
      else if ((M.2 0) i.toNatClampNeg) = (1 : Int32) then (2 : Int32)
      else if ((M.2 0) i.toNatClampNeg) = (2 : Int32) then (1 : Int32)
      else if ((M.2 0) i.toNatClampNeg) = (3 : Int32) then ((4 : Int32) <<< (((M.2 1) i.toNatClampNeg) &&& 31))
      else if ((M.2 0) i.toNatClampNeg) = (4 : Int32) then ((K ((M.2 2) i.toNatClampNeg)) ||| (0 : Int32))
      else if ((M.2 0) i.toNatClampNeg) = (5 : Int32) then (K ((M.2 2) i.toNatClampNeg))
      else if ((M.2 0) i.toNatClampNeg) = (6 : Int32) then if ((K ((M.2 2) i.toNatClampNeg)) &&& (1 : Int32)) = 0 then
          (K ((M.2 2) i.toNatClampNeg))
        else
          (((K ((M.2 2) i.toNatClampNeg)) &&& (-2 : Int32)) ||| (0 : Int32))
      else if ((M.2 0) i.toNatClampNeg) = (7 : Int32) then (fm_pairs (K ((M.2 2) i.toNatClampNeg)) (0 : Int32))
      else if ((M.2 0) i.toNatClampNeg) = (8 : Int32) then ((K ((M.2 2) i.toNatClampNeg)) &&& (-2 : Int32))
      else if ((M.2 0) i.toNatClampNeg) = (9 : Int32) then (fm_caught (K ((M.2 2) i.toNatClampNeg)))
      else (K ((M.2 2) i.toNatClampNeg))
    else
      if ((M.2 0) i.toNatClampNeg) = (0 : Int32) then (1 : Int32)
      else if ((M.2 0) i.toNatClampNeg) = (1 : Int32) then (2 : Int32)
      else if ((M.2 0) i.toNatClampNeg) = (2 : Int32) then (1 : Int32)
      else if ((M.2 0) i.toNatClampNeg) = (3 : Int32) then ((4 : Int32) <<< (((M.2 1) i.toNatClampNeg) &&& 31))
      else if ((M.2 0) i.toNatClampNeg) = (4 : Int32) then ((K ((M.2 2) i.toNatClampNeg)) ||| (K ((M.2 3) i.toNatClampNeg)))
      else if ((M.2 0) i.toNatClampNeg) = (5 : Int32) then (K ((M.2 2) i.toNatClampNeg))
      else if ((M.2 0) i.toNatClampNeg) = (6 : Int32) then if ((K ((M.2 2) i.toNatClampNeg)) &&& (1 : Int32)) = 0 then
          (K ((M.2 2) i.toNatClampNeg))
        else
          (((K ((M.2 2) i.toNatClampNeg)) &&& (-2 : Int32)) ||| (K ((M.2 3) i.toNatClampNeg)))
      else if ((M.2 0) i.toNatClampNeg) = (7 : Int32) then (fm_pairs (K ((M.2 2) i.toNatClampNeg)) (K ((M.2 3) i.toNatClampNeg)))
      else if ((M.2 0) i.toNatClampNeg) = (8 : Int32) then ((K ((M.2 2) i.toNatClampNeg)) &&& (-2 : Int32))
      else if ((M.2 0) i.toNatClampNeg) = (9 : Int32) then (fm_caught (K ((M.2 2) i.toNatClampNeg)))
      else (K ((M.2 2) i.toNatClampNeg))
set_option maxRecDepth 100000 in
set_option maxHeartbeats 4000000 in
theorem tM_codes {l : Launch} {D : va_G} {A : Nat → Prop} {ad : Nat → Nat} {tP : Nat} {cI cZ : ClassId} {S : kT} {P : pT} {X : xT} {tl : List va_E} {tyr : List (ClassId × FieldType)} {d : Nat} {K : Int32 → Int32} {Cn : Int32 → Prop} (T : Int32) (M : mT) (Y : yT) (V : vT) (i : Int32) (hd : 6 ≤ d) (hw : mW M) (HK : ∀ (a : Int32), Cn a → aw_M l yM_codes (Cond.code yM_codes cM_codes 4 (some .int) :: aw_big) d D vwCl ((cI, .int) :: (cZ, .boolean) :: tyr) A ad (zC A tP) [.ref (ad 13), .int a] (hC ad cI S P X ++ (hM ad cI cZ T M Y V ++ tl)) (some (.int (K a))) (hC ad cI S P X ++ (hM ad cI cZ T M Y V ++ tl))) (hi : mIx M i) (hc1 : ¬ (M.2 2) i.toNatClampNeg = (-1 : Int32) → Cn ((M.2 2) i.toNatClampNeg)) (hc2 : ¬ (M.2 3) i.toNatClampNeg = (-1 : Int32) → Cn ((M.2 3) i.toNatClampNeg)) : aw_M l yM_codes (Cond.code yM_codes cM_codes 4 (some .int) :: aw_big) (d + 1) D vwCl ((cI, .int) :: (cZ, .boolean) :: tyr) A ad (zC A tP) [.ref (ad 13), .int i] (hC ad cI S P X ++ (hM ad cI cZ T M Y V ++ tl)) (some (.int (fm_codes1 K M i))) (hC ad cI S P X ++ (hM ad cI cZ T M Y V ++ tl)) := by
  refine aw_met cM_codes 4 (some .int) [some (.ref (ad 13)), some (.int i), none, none] (by decide) rfl (Nat.le_of_ble_eq_true rfl) rfl ?_
  intro p e s m args below meth c F Zs hr hlk
  refine aw_aload_n (pc := 0) (i := 0) (x := ad 13) F dM_codes_0 rfl rfl ?_
  refine aw_get (pc := 1) (v := .ref (ad 16)) F 13 hM_at13 rfl 7 (by decide) (fun w h => mw (iw_M w h)) (mw wd_656) rfl dM_codes_1 ?_
  refine aw_iload_n (pc := 4) (i := 1) (x := i) F dM_codes_4 rfl rfl ?_
  refine aw_iald (pc := 5) F 16 0 hM_at16 rfl (ix_in hw hi) dM_codes_5 ?_
  refine aw_iconst (pc := 6) (v := -1) F dM_codes_6 (by decide) ?_
  refine aw_icmp_ne (pc := 7) F 14 dM_codes_7 (by decide) (fun c_7 => ?_) (fun c_7 => ?_)
  · skip
    refine aw_aload_n (pc := 14) (i := 0) (x := ad 13) F dM_codes_14 rfl rfl ?_
    refine aw_aload_n (pc := 15) (i := 0) (x := ad 13) F dM_codes_15 rfl rfl ?_
    refine aw_get (pc := 16) (v := .ref (ad 16)) F 13 hM_at13 rfl 7 (by decide) (fun w h => mw (iw_M w h)) (mw wd_656) rfl dM_codes_16 ?_
    refine aw_iload_n (pc := 19) (i := 1) (x := i) F dM_codes_19 rfl rfl ?_
    refine aw_iald (pc := 20) F 16 0 hM_at16 rfl (ix_in hw hi) dM_codes_20 ?_
    refine aw_goV (pc := 21) (As := [.int ((M.2 2) i.toNatClampNeg)]) (rest := []) F zC_ok Zs 13 hM_at13 rfl (HK ((M.2 2) i.toNatClampNeg) (hc1 c_7)) (cwV 1 F.1.2.2.2.2 (gi_V wd_769 wd_771 wd_49 wd_67 wd_772) rfl rfl rfl (by decide +kernel) ⟨by first | (simp only [aw_rm]; omega) | simp only [aw_rm] | omega, by first | (simp only [aw_rm]; omega) | simp only [aw_rm] | omega⟩) rfl (Nat.le_of_ble_eq_true rfl) ⟨Nat.zero_le _, Nat.zero_le _⟩ rfl dM_codes_21 ?_
    show aW _ _ _ _ _ _ _ _ _ _ _ _ _ _ _ _ _ _ _ _ _ [.int (K ((M.2 2) i.toNatClampNeg))]
    refine aw_istore_n (pc := 24) (i := 2) (L' := [some (.ref (ad 13)), some (.int i), some (.int (K ((M.2 2) i.toNatClampNeg))), none]) F dM_codes_24 rfl (by decide) rfl ?_
    refine aw_aload_n (pc := 25) (i := 0) (x := ad 13) F dM_codes_25 rfl rfl ?_
    refine aw_get (pc := 26) (v := .ref (ad 17)) F 13 hM_at13 rfl 8 (by decide) (fun w h => mw (iw_M w h)) (mw wd_657) rfl dM_codes_26 ?_
    refine aw_iload_n (pc := 29) (i := 1) (x := i) F dM_codes_29 rfl rfl ?_
    refine aw_iald (pc := 30) F 17 0 hM_at17 rfl (ix_in hw hi) dM_codes_30 ?_
    refine aw_iconst (pc := 31) (v := -1) F dM_codes_31 (by decide) ?_
    refine aw_icmp_ne (pc := 32) F 39 dM_codes_32 (by decide) (fun c_32 => ?_) (fun c_32 => ?_)
    · skip
      refine aw_aload_n (pc := 39) (i := 0) (x := ad 13) F dM_codes_39 rfl rfl ?_
      refine aw_aload_n (pc := 40) (i := 0) (x := ad 13) F dM_codes_40 rfl rfl ?_
      refine aw_get (pc := 41) (v := .ref (ad 17)) F 13 hM_at13 rfl 8 (by decide) (fun w h => mw (iw_M w h)) (mw wd_657) rfl dM_codes_41 ?_
      refine aw_iload_n (pc := 44) (i := 1) (x := i) F dM_codes_44 rfl rfl ?_
      refine aw_iald (pc := 45) F 17 0 hM_at17 rfl (ix_in hw hi) dM_codes_45 ?_
      refine aw_goV (pc := 46) (As := [.int ((M.2 3) i.toNatClampNeg)]) (rest := []) F zC_ok Zs 13 hM_at13 rfl (HK ((M.2 3) i.toNatClampNeg) (hc2 c_32)) (cwV 1 F.1.2.2.2.2 (gi_V wd_769 wd_771 wd_49 wd_67 wd_772) rfl rfl rfl (by decide +kernel) ⟨by first | (simp only [aw_rm]; omega) | simp only [aw_rm] | omega, by first | (simp only [aw_rm]; omega) | simp only [aw_rm] | omega⟩) rfl (Nat.le_of_ble_eq_true rfl) ⟨Nat.zero_le _, Nat.zero_le _⟩ rfl dM_codes_46 ?_
      show aW _ _ _ _ _ _ _ _ _ _ _ _ _ _ _ _ _ _ _ _ _ [.int (K ((M.2 3) i.toNatClampNeg))]
      refine aw_istore_n (pc := 49) (i := 3) (L' := [some (.ref (ad 13)), some (.int i), some (.int (K ((M.2 2) i.toNatClampNeg))), some (.int (K ((M.2 3) i.toNatClampNeg)))]) F dM_codes_49 rfl (by decide) rfl ?_
      refine aw_aload_n (pc := 50) (i := 0) (x := ad 13) F dM_codes_50 rfl rfl ?_
      refine aw_get (pc := 51) (v := .ref (ad 14)) F 13 hM_at13 rfl 5 (by decide) (fun w h => mw (iw_M w h)) (mw wd_654) rfl dM_codes_51 ?_
      refine aw_iload_n (pc := 54) (i := 1) (x := i) F dM_codes_54 rfl rfl ?_
      refine aw_iald (pc := 55) F 14 0 hM_at14 rfl (ix_in hw hi) dM_codes_55 ?_
      by_cases s_56_0 : ((M.2 0) i.toNatClampNeg) = (0 : Int32)
      · refine aw_tableIn (pc := 56) F 112 dM_codes_56 (by rw [s_56_0]; decide) (by rw [s_56_0]; decide) (off := 56) (by rw [s_56_0]; rfl) (by decide) ?_
        refine aw_iconst (pc := 112) (v := 1) F dM_codes_112 (by decide) ?_
        exact aw_iret (pc := 113) F hr hlk dM_codes_113 (by rw [fm_codes1, if_neg c_7, if_neg c_32, if_pos s_56_0]) rfl
      by_cases s_56_1 : ((M.2 0) i.toNatClampNeg) = (1 : Int32)
      · refine aw_tableIn (pc := 56) F 114 dM_codes_56 (by rw [s_56_1]; decide) (by rw [s_56_1]; decide) (off := 58) (by rw [s_56_1]; rfl) (by decide) ?_
        refine aw_iconst (pc := 114) (v := 2) F dM_codes_114 (by decide) ?_
        exact aw_iret (pc := 115) F hr hlk dM_codes_115 (by rw [fm_codes1, if_neg c_7, if_neg c_32, if_neg s_56_0, if_pos s_56_1]) rfl
      by_cases s_56_2 : ((M.2 0) i.toNatClampNeg) = (2 : Int32)
      · refine aw_tableIn (pc := 56) F 112 dM_codes_56 (by rw [s_56_2]; decide) (by rw [s_56_2]; decide) (off := 56) (by rw [s_56_2]; rfl) (by decide) ?_
        refine aw_iconst (pc := 112) (v := 1) F dM_codes_112 (by decide) ?_
        exact aw_iret (pc := 113) F hr hlk dM_codes_113 (by rw [fm_codes1, if_neg c_7, if_neg c_32, if_neg s_56_0, if_neg s_56_1, if_pos s_56_2]) rfl
      by_cases s_56_3 : ((M.2 0) i.toNatClampNeg) = (3 : Int32)
      · refine aw_tableIn (pc := 56) F 116 dM_codes_56 (by rw [s_56_3]; decide) (by rw [s_56_3]; decide) (off := 60) (by rw [s_56_3]; rfl) (by decide) ?_
        refine aw_iconst (pc := 116) (v := 4) F dM_codes_116 (by decide) ?_
        refine aw_aload_n (pc := 117) (i := 0) (x := ad 13) F dM_codes_117 rfl rfl ?_
        refine aw_get (pc := 118) (v := .ref (ad 15)) F 13 hM_at13 rfl 6 (by decide) (fun w h => mw (iw_M w h)) (mw wd_655) rfl dM_codes_118 ?_
        refine aw_iload_n (pc := 121) (i := 1) (x := i) F dM_codes_121 rfl rfl ?_
        refine aw_iald (pc := 122) F 15 0 hM_at15 rfl (ix_in hw hi) dM_codes_122 ?_
        refine aw_ishl (pc := 123) F dM_codes_123 ?_
        exact aw_iret (pc := 124) F hr hlk dM_codes_124 (by rw [fm_codes1, if_neg c_7, if_neg c_32, if_neg s_56_0, if_neg s_56_1, if_neg s_56_2, if_pos s_56_3]) rfl
      by_cases s_56_4 : ((M.2 0) i.toNatClampNeg) = (4 : Int32)
      · refine aw_tableIn (pc := 56) F 125 dM_codes_56 (by rw [s_56_4]; decide) (by rw [s_56_4]; decide) (off := 69) (by rw [s_56_4]; rfl) (by decide) ?_
        refine aw_iload_n (pc := 125) (i := 2) (x := (K ((M.2 2) i.toNatClampNeg))) F dM_codes_125 rfl rfl ?_
        refine aw_iload_n (pc := 126) (i := 3) (x := (K ((M.2 3) i.toNatClampNeg))) F dM_codes_126 rfl rfl ?_
        refine aw_ior (pc := 127) F dM_codes_127 ?_
        exact aw_iret (pc := 128) F hr hlk dM_codes_128 (by rw [fm_codes1, if_neg c_7, if_neg c_32, if_neg s_56_0, if_neg s_56_1, if_neg s_56_2, if_neg s_56_3, if_pos s_56_4]) rfl
      by_cases s_56_5 : ((M.2 0) i.toNatClampNeg) = (5 : Int32)
      · refine aw_tableIn (pc := 56) F 162 dM_codes_56 (by rw [s_56_5]; decide) (by rw [s_56_5]; decide) (off := 106) (by rw [s_56_5]; rfl) (by decide) ?_
        refine aw_iload_n (pc := 162) (i := 2) (x := (K ((M.2 2) i.toNatClampNeg))) F dM_codes_162 rfl rfl ?_
        exact aw_iret (pc := 163) F hr hlk dM_codes_163 (by rw [fm_codes1, if_neg c_7, if_neg c_32, if_neg s_56_0, if_neg s_56_1, if_neg s_56_2, if_neg s_56_3, if_neg s_56_4, if_pos s_56_5]) rfl
      by_cases s_56_6 : ((M.2 0) i.toNatClampNeg) = (6 : Int32)
      · refine aw_tableIn (pc := 56) F 129 dM_codes_56 (by rw [s_56_6]; decide) (by rw [s_56_6]; decide) (off := 73) (by rw [s_56_6]; rfl) (by decide) ?_
        refine aw_iload_n (pc := 129) (i := 2) (x := (K ((M.2 2) i.toNatClampNeg))) F dM_codes_129 rfl rfl ?_
        refine aw_iconst (pc := 130) (v := 1) F dM_codes_130 (by decide) ?_
        refine aw_iand (pc := 131) F dM_codes_131 ?_
        refine aw_if_ne (pc := 132) F 139 dM_codes_132 (by decide) (fun c_132 => ?_) (fun c_132 => ?_)
        · skip
          refine aw_iload_n (pc := 139) (i := 2) (x := (K ((M.2 2) i.toNatClampNeg))) F dM_codes_139 rfl rfl ?_
          refine aw_bipush (pc := 140) (v := -2) F dM_codes_140 (by decide) ?_
          refine aw_iand (pc := 142) F dM_codes_142 ?_
          refine aw_iload_n (pc := 143) (i := 3) (x := (K ((M.2 3) i.toNatClampNeg))) F dM_codes_143 rfl rfl ?_
          refine aw_ior (pc := 144) F dM_codes_144 ?_
          exact aw_iret (pc := 145) F hr hlk dM_codes_145 (by rw [fm_codes1, if_neg c_7, if_neg c_32, if_neg s_56_0, if_neg s_56_1, if_neg s_56_2, if_neg s_56_3, if_neg s_56_4, if_neg s_56_5, if_pos s_56_6, if_neg c_132]) rfl
        · skip
          refine aw_iload_n (pc := 135) (i := 2) (x := (K ((M.2 2) i.toNatClampNeg))) F dM_codes_135 rfl rfl ?_
          refine aw_goto (pc := 136) F 145 dM_codes_136 (by decide) ?_
          exact aw_iret (pc := 145) F hr hlk dM_codes_145 (by rw [fm_codes1, if_neg c_7, if_neg c_32, if_neg s_56_0, if_neg s_56_1, if_neg s_56_2, if_neg s_56_3, if_neg s_56_4, if_neg s_56_5, if_pos s_56_6, if_pos c_132]) rfl
      by_cases s_56_7 : ((M.2 0) i.toNatClampNeg) = (7 : Int32)
      · refine aw_tableIn (pc := 56) F 146 dM_codes_56 (by rw [s_56_7]; decide) (by rw [s_56_7]; decide) (off := 90) (by rw [s_56_7]; rfl) (by decide) ?_
        refine aw_iload_n (pc := 146) (i := 2) (x := (K ((M.2 2) i.toNatClampNeg))) F dM_codes_146 rfl rfl ?_
        refine aw_iload_n (pc := 147) (i := 3) (x := (K ((M.2 3) i.toNatClampNeg))) F dM_codes_147 rfl rfl ?_
        refine aw_goS (pc := 148) (As := [.int (K ((M.2 2) i.toNatClampNeg)), .int (K ((M.2 3) i.toNatClampNeg))]) (rest := []) F zC_ok Zs (tM_pairs  T M Y V (K ((M.2 2) i.toNatClampNeg)) (K ((M.2 3) i.toNatClampNeg))) (va_cwS 2 F.1.2.2.2.2 (gi_S wd_773 wd_774 wd_67 wd_775) rfl rfl rfl (by decide +kernel) ⟨by first | (simp only [aw_rm]; omega) | simp only [aw_rm] | omega, by first | (simp only [aw_rm]; omega) | simp only [aw_rm] | omega⟩) rfl (Nat.le_of_ble_eq_true rfl) ⟨Nat.zero_le _, Nat.zero_le _⟩ rfl dM_codes_148 ?_
        show aW _ _ _ _ _ _ _ _ _ _ _ _ _ _ _ _ _ _ _ _ _ [.int (fm_pairs (K ((M.2 2) i.toNatClampNeg)) (K ((M.2 3) i.toNatClampNeg)))]
        exact aw_iret (pc := 151) F hr hlk dM_codes_151 (by rw [fm_codes1, if_neg c_7, if_neg c_32, if_neg s_56_0, if_neg s_56_1, if_neg s_56_2, if_neg s_56_3, if_neg s_56_4, if_neg s_56_5, if_neg s_56_6, if_pos s_56_7]) rfl
      by_cases s_56_8 : ((M.2 0) i.toNatClampNeg) = (8 : Int32)
      · refine aw_tableIn (pc := 56) F 152 dM_codes_56 (by rw [s_56_8]; decide) (by rw [s_56_8]; decide) (off := 96) (by rw [s_56_8]; rfl) (by decide) ?_
        refine aw_iload_n (pc := 152) (i := 2) (x := (K ((M.2 2) i.toNatClampNeg))) F dM_codes_152 rfl rfl ?_
        refine aw_bipush (pc := 153) (v := -2) F dM_codes_153 (by decide) ?_
        refine aw_iand (pc := 155) F dM_codes_155 ?_
        exact aw_iret (pc := 156) F hr hlk dM_codes_156 (by rw [fm_codes1, if_neg c_7, if_neg c_32, if_neg s_56_0, if_neg s_56_1, if_neg s_56_2, if_neg s_56_3, if_neg s_56_4, if_neg s_56_5, if_neg s_56_6, if_neg s_56_7, if_pos s_56_8]) rfl
      by_cases s_56_9 : ((M.2 0) i.toNatClampNeg) = (9 : Int32)
      · refine aw_tableIn (pc := 56) F 157 dM_codes_56 (by rw [s_56_9]; decide) (by rw [s_56_9]; decide) (off := 101) (by rw [s_56_9]; rfl) (by decide) ?_
        refine aw_iload_n (pc := 157) (i := 2) (x := (K ((M.2 2) i.toNatClampNeg))) F dM_codes_157 rfl rfl ?_
        refine aw_goS (pc := 158) (As := [.int (K ((M.2 2) i.toNatClampNeg))]) (rest := []) F zC_ok Zs (tM_caught  T M Y V (K ((M.2 2) i.toNatClampNeg))) (va_cwS 1 F.1.2.2.2.2 (gi_S wd_776 wd_777 wd_67 wd_778) rfl rfl rfl (by decide +kernel) ⟨by first | (simp only [aw_rm]; omega) | simp only [aw_rm] | omega, by first | (simp only [aw_rm]; omega) | simp only [aw_rm] | omega⟩) rfl (Nat.le_of_ble_eq_true rfl) ⟨Nat.zero_le _, Nat.zero_le _⟩ rfl dM_codes_158 ?_
        show aW _ _ _ _ _ _ _ _ _ _ _ _ _ _ _ _ _ _ _ _ _ [.int (fm_caught (K ((M.2 2) i.toNatClampNeg)))]
        exact aw_iret (pc := 161) F hr hlk dM_codes_161 (by rw [fm_codes1, if_neg c_7, if_neg c_32, if_neg s_56_0, if_neg s_56_1, if_neg s_56_2, if_neg s_56_3, if_neg s_56_4, if_neg s_56_5, if_neg s_56_6, if_neg s_56_7, if_neg s_56_8, if_pos s_56_9]) rfl
      refine aw_tableOut (pc := 56) F 162 dM_codes_56 (by have := aw_ne s_56_0 (a := 0) (by decide); have := aw_ne s_56_1 (a := 1) (by decide); have := aw_ne s_56_2 (a := 2) (by decide); have := aw_ne s_56_3 (a := 3) (by decide); have := aw_ne s_56_4 (a := 4) (by decide); have := aw_ne s_56_5 (a := 5) (by decide); have := aw_ne s_56_6 (a := 6) (by decide); have := aw_ne s_56_7 (a := 7) (by decide); have := aw_ne s_56_8 (a := 8) (by decide); have := aw_ne s_56_9 (a := 9) (by decide); omega) (by decide) ?_
      refine aw_iload_n (pc := 162) (i := 2) (x := (K ((M.2 2) i.toNatClampNeg))) F dM_codes_162 rfl rfl ?_
      exact aw_iret (pc := 163) F hr hlk dM_codes_163 (by rw [fm_codes1, if_neg c_7, if_neg c_32, if_neg s_56_0, if_neg s_56_1, if_neg s_56_2, if_neg s_56_3, if_neg s_56_4, if_neg s_56_5, if_neg s_56_6, if_neg s_56_7, if_neg s_56_8, if_neg s_56_9]) rfl
    · skip
      refine aw_iconst (pc := 35) (v := 0) F dM_codes_35 (by decide) ?_
      refine aw_goto (pc := 36) F 49 dM_codes_36 (by decide) ?_
      refine aw_istore_n (pc := 49) (i := 3) (L' := [some (.ref (ad 13)), some (.int i), some (.int (K ((M.2 2) i.toNatClampNeg))), some (.int (0 : Int32))]) F dM_codes_49 rfl (by decide) rfl ?_
      refine aw_aload_n (pc := 50) (i := 0) (x := ad 13) F dM_codes_50 rfl rfl ?_
      refine aw_get (pc := 51) (v := .ref (ad 14)) F 13 hM_at13 rfl 5 (by decide) (fun w h => mw (iw_M w h)) (mw wd_654) rfl dM_codes_51 ?_
      refine aw_iload_n (pc := 54) (i := 1) (x := i) F dM_codes_54 rfl rfl ?_
      refine aw_iald (pc := 55) F 14 0 hM_at14 rfl (ix_in hw hi) dM_codes_55 ?_
      by_cases s_56_0 : ((M.2 0) i.toNatClampNeg) = (0 : Int32)
      · refine aw_tableIn (pc := 56) F 112 dM_codes_56 (by rw [s_56_0]; decide) (by rw [s_56_0]; decide) (off := 56) (by rw [s_56_0]; rfl) (by decide) ?_
        refine aw_iconst (pc := 112) (v := 1) F dM_codes_112 (by decide) ?_
        exact aw_iret (pc := 113) F hr hlk dM_codes_113 (by rw [fm_codes1, if_neg c_7, if_pos c_32, if_pos s_56_0]) rfl
      by_cases s_56_1 : ((M.2 0) i.toNatClampNeg) = (1 : Int32)
      · refine aw_tableIn (pc := 56) F 114 dM_codes_56 (by rw [s_56_1]; decide) (by rw [s_56_1]; decide) (off := 58) (by rw [s_56_1]; rfl) (by decide) ?_
        refine aw_iconst (pc := 114) (v := 2) F dM_codes_114 (by decide) ?_
        exact aw_iret (pc := 115) F hr hlk dM_codes_115 (by rw [fm_codes1, if_neg c_7, if_pos c_32, if_neg s_56_0, if_pos s_56_1]) rfl
      by_cases s_56_2 : ((M.2 0) i.toNatClampNeg) = (2 : Int32)
      · refine aw_tableIn (pc := 56) F 112 dM_codes_56 (by rw [s_56_2]; decide) (by rw [s_56_2]; decide) (off := 56) (by rw [s_56_2]; rfl) (by decide) ?_
        refine aw_iconst (pc := 112) (v := 1) F dM_codes_112 (by decide) ?_
        exact aw_iret (pc := 113) F hr hlk dM_codes_113 (by rw [fm_codes1, if_neg c_7, if_pos c_32, if_neg s_56_0, if_neg s_56_1, if_pos s_56_2]) rfl
      by_cases s_56_3 : ((M.2 0) i.toNatClampNeg) = (3 : Int32)
      · refine aw_tableIn (pc := 56) F 116 dM_codes_56 (by rw [s_56_3]; decide) (by rw [s_56_3]; decide) (off := 60) (by rw [s_56_3]; rfl) (by decide) ?_
        refine aw_iconst (pc := 116) (v := 4) F dM_codes_116 (by decide) ?_
        refine aw_aload_n (pc := 117) (i := 0) (x := ad 13) F dM_codes_117 rfl rfl ?_
        refine aw_get (pc := 118) (v := .ref (ad 15)) F 13 hM_at13 rfl 6 (by decide) (fun w h => mw (iw_M w h)) (mw wd_655) rfl dM_codes_118 ?_
        refine aw_iload_n (pc := 121) (i := 1) (x := i) F dM_codes_121 rfl rfl ?_
        refine aw_iald (pc := 122) F 15 0 hM_at15 rfl (ix_in hw hi) dM_codes_122 ?_
        refine aw_ishl (pc := 123) F dM_codes_123 ?_
        exact aw_iret (pc := 124) F hr hlk dM_codes_124 (by rw [fm_codes1, if_neg c_7, if_pos c_32, if_neg s_56_0, if_neg s_56_1, if_neg s_56_2, if_pos s_56_3]) rfl
      by_cases s_56_4 : ((M.2 0) i.toNatClampNeg) = (4 : Int32)
      · refine aw_tableIn (pc := 56) F 125 dM_codes_56 (by rw [s_56_4]; decide) (by rw [s_56_4]; decide) (off := 69) (by rw [s_56_4]; rfl) (by decide) ?_
        refine aw_iload_n (pc := 125) (i := 2) (x := (K ((M.2 2) i.toNatClampNeg))) F dM_codes_125 rfl rfl ?_
        refine aw_iload_n (pc := 126) (i := 3) (x := (0 : Int32)) F dM_codes_126 rfl rfl ?_
        refine aw_ior (pc := 127) F dM_codes_127 ?_
        exact aw_iret (pc := 128) F hr hlk dM_codes_128 (by rw [fm_codes1, if_neg c_7, if_pos c_32, if_neg s_56_0, if_neg s_56_1, if_neg s_56_2, if_neg s_56_3, if_pos s_56_4]) rfl
      by_cases s_56_5 : ((M.2 0) i.toNatClampNeg) = (5 : Int32)
      · refine aw_tableIn (pc := 56) F 162 dM_codes_56 (by rw [s_56_5]; decide) (by rw [s_56_5]; decide) (off := 106) (by rw [s_56_5]; rfl) (by decide) ?_
        refine aw_iload_n (pc := 162) (i := 2) (x := (K ((M.2 2) i.toNatClampNeg))) F dM_codes_162 rfl rfl ?_
        exact aw_iret (pc := 163) F hr hlk dM_codes_163 (by rw [fm_codes1, if_neg c_7, if_pos c_32, if_neg s_56_0, if_neg s_56_1, if_neg s_56_2, if_neg s_56_3, if_neg s_56_4, if_pos s_56_5]) rfl
      by_cases s_56_6 : ((M.2 0) i.toNatClampNeg) = (6 : Int32)
      · refine aw_tableIn (pc := 56) F 129 dM_codes_56 (by rw [s_56_6]; decide) (by rw [s_56_6]; decide) (off := 73) (by rw [s_56_6]; rfl) (by decide) ?_
        refine aw_iload_n (pc := 129) (i := 2) (x := (K ((M.2 2) i.toNatClampNeg))) F dM_codes_129 rfl rfl ?_
        refine aw_iconst (pc := 130) (v := 1) F dM_codes_130 (by decide) ?_
        refine aw_iand (pc := 131) F dM_codes_131 ?_
        refine aw_if_ne (pc := 132) F 139 dM_codes_132 (by decide) (fun c_132 => ?_) (fun c_132 => ?_)
        · skip
          refine aw_iload_n (pc := 139) (i := 2) (x := (K ((M.2 2) i.toNatClampNeg))) F dM_codes_139 rfl rfl ?_
          refine aw_bipush (pc := 140) (v := -2) F dM_codes_140 (by decide) ?_
          refine aw_iand (pc := 142) F dM_codes_142 ?_
          refine aw_iload_n (pc := 143) (i := 3) (x := (0 : Int32)) F dM_codes_143 rfl rfl ?_
          refine aw_ior (pc := 144) F dM_codes_144 ?_
          exact aw_iret (pc := 145) F hr hlk dM_codes_145 (by rw [fm_codes1, if_neg c_7, if_pos c_32, if_neg s_56_0, if_neg s_56_1, if_neg s_56_2, if_neg s_56_3, if_neg s_56_4, if_neg s_56_5, if_pos s_56_6, if_neg c_132]) rfl
        · skip
          refine aw_iload_n (pc := 135) (i := 2) (x := (K ((M.2 2) i.toNatClampNeg))) F dM_codes_135 rfl rfl ?_
          refine aw_goto (pc := 136) F 145 dM_codes_136 (by decide) ?_
          exact aw_iret (pc := 145) F hr hlk dM_codes_145 (by rw [fm_codes1, if_neg c_7, if_pos c_32, if_neg s_56_0, if_neg s_56_1, if_neg s_56_2, if_neg s_56_3, if_neg s_56_4, if_neg s_56_5, if_pos s_56_6, if_pos c_132]) rfl
      by_cases s_56_7 : ((M.2 0) i.toNatClampNeg) = (7 : Int32)
      · refine aw_tableIn (pc := 56) F 146 dM_codes_56 (by rw [s_56_7]; decide) (by rw [s_56_7]; decide) (off := 90) (by rw [s_56_7]; rfl) (by decide) ?_
        refine aw_iload_n (pc := 146) (i := 2) (x := (K ((M.2 2) i.toNatClampNeg))) F dM_codes_146 rfl rfl ?_
        refine aw_iload_n (pc := 147) (i := 3) (x := (0 : Int32)) F dM_codes_147 rfl rfl ?_
        refine aw_goS (pc := 148) (As := [.int (K ((M.2 2) i.toNatClampNeg)), .int (0 : Int32)]) (rest := []) F zC_ok Zs (tM_pairs  T M Y V (K ((M.2 2) i.toNatClampNeg)) (0 : Int32)) (va_cwS 2 F.1.2.2.2.2 (gi_S wd_773 wd_774 wd_67 wd_775) rfl rfl rfl (by decide +kernel) ⟨by first | (simp only [aw_rm]; omega) | simp only [aw_rm] | omega, by first | (simp only [aw_rm]; omega) | simp only [aw_rm] | omega⟩) rfl (Nat.le_of_ble_eq_true rfl) ⟨Nat.zero_le _, Nat.zero_le _⟩ rfl dM_codes_148 ?_
        show aW _ _ _ _ _ _ _ _ _ _ _ _ _ _ _ _ _ _ _ _ _ [.int (fm_pairs (K ((M.2 2) i.toNatClampNeg)) (0 : Int32))]
        exact aw_iret (pc := 151) F hr hlk dM_codes_151 (by rw [fm_codes1, if_neg c_7, if_pos c_32, if_neg s_56_0, if_neg s_56_1, if_neg s_56_2, if_neg s_56_3, if_neg s_56_4, if_neg s_56_5, if_neg s_56_6, if_pos s_56_7]) rfl
      by_cases s_56_8 : ((M.2 0) i.toNatClampNeg) = (8 : Int32)
      · refine aw_tableIn (pc := 56) F 152 dM_codes_56 (by rw [s_56_8]; decide) (by rw [s_56_8]; decide) (off := 96) (by rw [s_56_8]; rfl) (by decide) ?_
        refine aw_iload_n (pc := 152) (i := 2) (x := (K ((M.2 2) i.toNatClampNeg))) F dM_codes_152 rfl rfl ?_
        refine aw_bipush (pc := 153) (v := -2) F dM_codes_153 (by decide) ?_
        refine aw_iand (pc := 155) F dM_codes_155 ?_
        exact aw_iret (pc := 156) F hr hlk dM_codes_156 (by rw [fm_codes1, if_neg c_7, if_pos c_32, if_neg s_56_0, if_neg s_56_1, if_neg s_56_2, if_neg s_56_3, if_neg s_56_4, if_neg s_56_5, if_neg s_56_6, if_neg s_56_7, if_pos s_56_8]) rfl
      by_cases s_56_9 : ((M.2 0) i.toNatClampNeg) = (9 : Int32)
      · refine aw_tableIn (pc := 56) F 157 dM_codes_56 (by rw [s_56_9]; decide) (by rw [s_56_9]; decide) (off := 101) (by rw [s_56_9]; rfl) (by decide) ?_
        refine aw_iload_n (pc := 157) (i := 2) (x := (K ((M.2 2) i.toNatClampNeg))) F dM_codes_157 rfl rfl ?_
        refine aw_goS (pc := 158) (As := [.int (K ((M.2 2) i.toNatClampNeg))]) (rest := []) F zC_ok Zs (tM_caught  T M Y V (K ((M.2 2) i.toNatClampNeg))) (va_cwS 1 F.1.2.2.2.2 (gi_S wd_776 wd_777 wd_67 wd_778) rfl rfl rfl (by decide +kernel) ⟨by first | (simp only [aw_rm]; omega) | simp only [aw_rm] | omega, by first | (simp only [aw_rm]; omega) | simp only [aw_rm] | omega⟩) rfl (Nat.le_of_ble_eq_true rfl) ⟨Nat.zero_le _, Nat.zero_le _⟩ rfl dM_codes_158 ?_
        show aW _ _ _ _ _ _ _ _ _ _ _ _ _ _ _ _ _ _ _ _ _ [.int (fm_caught (K ((M.2 2) i.toNatClampNeg)))]
        exact aw_iret (pc := 161) F hr hlk dM_codes_161 (by rw [fm_codes1, if_neg c_7, if_pos c_32, if_neg s_56_0, if_neg s_56_1, if_neg s_56_2, if_neg s_56_3, if_neg s_56_4, if_neg s_56_5, if_neg s_56_6, if_neg s_56_7, if_neg s_56_8, if_pos s_56_9]) rfl
      refine aw_tableOut (pc := 56) F 162 dM_codes_56 (by have := aw_ne s_56_0 (a := 0) (by decide); have := aw_ne s_56_1 (a := 1) (by decide); have := aw_ne s_56_2 (a := 2) (by decide); have := aw_ne s_56_3 (a := 3) (by decide); have := aw_ne s_56_4 (a := 4) (by decide); have := aw_ne s_56_5 (a := 5) (by decide); have := aw_ne s_56_6 (a := 6) (by decide); have := aw_ne s_56_7 (a := 7) (by decide); have := aw_ne s_56_8 (a := 8) (by decide); have := aw_ne s_56_9 (a := 9) (by decide); omega) (by decide) ?_
      refine aw_iload_n (pc := 162) (i := 2) (x := (K ((M.2 2) i.toNatClampNeg))) F dM_codes_162 rfl rfl ?_
      exact aw_iret (pc := 163) F hr hlk dM_codes_163 (by rw [fm_codes1, if_neg c_7, if_pos c_32, if_neg s_56_0, if_neg s_56_1, if_neg s_56_2, if_neg s_56_3, if_neg s_56_4, if_neg s_56_5, if_neg s_56_6, if_neg s_56_7, if_neg s_56_8, if_neg s_56_9]) rfl
  · skip
    refine aw_iconst (pc := 10) (v := 0) F dM_codes_10 (by decide) ?_
    refine aw_goto (pc := 11) F 24 dM_codes_11 (by decide) ?_
    refine aw_istore_n (pc := 24) (i := 2) (L' := [some (.ref (ad 13)), some (.int i), some (.int (0 : Int32)), none]) F dM_codes_24 rfl (by decide) rfl ?_
    refine aw_aload_n (pc := 25) (i := 0) (x := ad 13) F dM_codes_25 rfl rfl ?_
    refine aw_get (pc := 26) (v := .ref (ad 17)) F 13 hM_at13 rfl 8 (by decide) (fun w h => mw (iw_M w h)) (mw wd_657) rfl dM_codes_26 ?_
    refine aw_iload_n (pc := 29) (i := 1) (x := i) F dM_codes_29 rfl rfl ?_
    refine aw_iald (pc := 30) F 17 0 hM_at17 rfl (ix_in hw hi) dM_codes_30 ?_
    refine aw_iconst (pc := 31) (v := -1) F dM_codes_31 (by decide) ?_
    refine aw_icmp_ne (pc := 32) F 39 dM_codes_32 (by decide) (fun c_32 => ?_) (fun c_32 => ?_)
    · skip
      refine aw_aload_n (pc := 39) (i := 0) (x := ad 13) F dM_codes_39 rfl rfl ?_
      refine aw_aload_n (pc := 40) (i := 0) (x := ad 13) F dM_codes_40 rfl rfl ?_
      refine aw_get (pc := 41) (v := .ref (ad 17)) F 13 hM_at13 rfl 8 (by decide) (fun w h => mw (iw_M w h)) (mw wd_657) rfl dM_codes_41 ?_
      refine aw_iload_n (pc := 44) (i := 1) (x := i) F dM_codes_44 rfl rfl ?_
      refine aw_iald (pc := 45) F 17 0 hM_at17 rfl (ix_in hw hi) dM_codes_45 ?_
      refine aw_goV (pc := 46) (As := [.int ((M.2 3) i.toNatClampNeg)]) (rest := []) F zC_ok Zs 13 hM_at13 rfl (HK ((M.2 3) i.toNatClampNeg) (hc2 c_32)) (cwV 1 F.1.2.2.2.2 (gi_V wd_769 wd_771 wd_49 wd_67 wd_772) rfl rfl rfl (by decide +kernel) ⟨by first | (simp only [aw_rm]; omega) | simp only [aw_rm] | omega, by first | (simp only [aw_rm]; omega) | simp only [aw_rm] | omega⟩) rfl (Nat.le_of_ble_eq_true rfl) ⟨Nat.zero_le _, Nat.zero_le _⟩ rfl dM_codes_46 ?_
      show aW _ _ _ _ _ _ _ _ _ _ _ _ _ _ _ _ _ _ _ _ _ [.int (K ((M.2 3) i.toNatClampNeg))]
      refine aw_istore_n (pc := 49) (i := 3) (L' := [some (.ref (ad 13)), some (.int i), some (.int (0 : Int32)), some (.int (K ((M.2 3) i.toNatClampNeg)))]) F dM_codes_49 rfl (by decide) rfl ?_
      refine aw_aload_n (pc := 50) (i := 0) (x := ad 13) F dM_codes_50 rfl rfl ?_
      refine aw_get (pc := 51) (v := .ref (ad 14)) F 13 hM_at13 rfl 5 (by decide) (fun w h => mw (iw_M w h)) (mw wd_654) rfl dM_codes_51 ?_
      refine aw_iload_n (pc := 54) (i := 1) (x := i) F dM_codes_54 rfl rfl ?_
      refine aw_iald (pc := 55) F 14 0 hM_at14 rfl (ix_in hw hi) dM_codes_55 ?_
      by_cases s_56_0 : ((M.2 0) i.toNatClampNeg) = (0 : Int32)
      · refine aw_tableIn (pc := 56) F 112 dM_codes_56 (by rw [s_56_0]; decide) (by rw [s_56_0]; decide) (off := 56) (by rw [s_56_0]; rfl) (by decide) ?_
        refine aw_iconst (pc := 112) (v := 1) F dM_codes_112 (by decide) ?_
        exact aw_iret (pc := 113) F hr hlk dM_codes_113 (by rw [fm_codes1, if_pos c_7, if_neg c_32, if_pos s_56_0]) rfl
      by_cases s_56_1 : ((M.2 0) i.toNatClampNeg) = (1 : Int32)
      · refine aw_tableIn (pc := 56) F 114 dM_codes_56 (by rw [s_56_1]; decide) (by rw [s_56_1]; decide) (off := 58) (by rw [s_56_1]; rfl) (by decide) ?_
        refine aw_iconst (pc := 114) (v := 2) F dM_codes_114 (by decide) ?_
        exact aw_iret (pc := 115) F hr hlk dM_codes_115 (by rw [fm_codes1, if_pos c_7, if_neg c_32, if_neg s_56_0, if_pos s_56_1]) rfl
      by_cases s_56_2 : ((M.2 0) i.toNatClampNeg) = (2 : Int32)
      · refine aw_tableIn (pc := 56) F 112 dM_codes_56 (by rw [s_56_2]; decide) (by rw [s_56_2]; decide) (off := 56) (by rw [s_56_2]; rfl) (by decide) ?_
        refine aw_iconst (pc := 112) (v := 1) F dM_codes_112 (by decide) ?_
        exact aw_iret (pc := 113) F hr hlk dM_codes_113 (by rw [fm_codes1, if_pos c_7, if_neg c_32, if_neg s_56_0, if_neg s_56_1, if_pos s_56_2]) rfl
      by_cases s_56_3 : ((M.2 0) i.toNatClampNeg) = (3 : Int32)
      · refine aw_tableIn (pc := 56) F 116 dM_codes_56 (by rw [s_56_3]; decide) (by rw [s_56_3]; decide) (off := 60) (by rw [s_56_3]; rfl) (by decide) ?_
        refine aw_iconst (pc := 116) (v := 4) F dM_codes_116 (by decide) ?_
        refine aw_aload_n (pc := 117) (i := 0) (x := ad 13) F dM_codes_117 rfl rfl ?_
        refine aw_get (pc := 118) (v := .ref (ad 15)) F 13 hM_at13 rfl 6 (by decide) (fun w h => mw (iw_M w h)) (mw wd_655) rfl dM_codes_118 ?_
        refine aw_iload_n (pc := 121) (i := 1) (x := i) F dM_codes_121 rfl rfl ?_
        refine aw_iald (pc := 122) F 15 0 hM_at15 rfl (ix_in hw hi) dM_codes_122 ?_
        refine aw_ishl (pc := 123) F dM_codes_123 ?_
        exact aw_iret (pc := 124) F hr hlk dM_codes_124 (by rw [fm_codes1, if_pos c_7, if_neg c_32, if_neg s_56_0, if_neg s_56_1, if_neg s_56_2, if_pos s_56_3]) rfl
      by_cases s_56_4 : ((M.2 0) i.toNatClampNeg) = (4 : Int32)
      · refine aw_tableIn (pc := 56) F 125 dM_codes_56 (by rw [s_56_4]; decide) (by rw [s_56_4]; decide) (off := 69) (by rw [s_56_4]; rfl) (by decide) ?_
        refine aw_iload_n (pc := 125) (i := 2) (x := (0 : Int32)) F dM_codes_125 rfl rfl ?_
        refine aw_iload_n (pc := 126) (i := 3) (x := (K ((M.2 3) i.toNatClampNeg))) F dM_codes_126 rfl rfl ?_
        refine aw_ior (pc := 127) F dM_codes_127 ?_
        exact aw_iret (pc := 128) F hr hlk dM_codes_128 (by rw [fm_codes1, if_pos c_7, if_neg c_32, if_neg s_56_0, if_neg s_56_1, if_neg s_56_2, if_neg s_56_3, if_pos s_56_4]) rfl
      by_cases s_56_5 : ((M.2 0) i.toNatClampNeg) = (5 : Int32)
      · refine aw_tableIn (pc := 56) F 162 dM_codes_56 (by rw [s_56_5]; decide) (by rw [s_56_5]; decide) (off := 106) (by rw [s_56_5]; rfl) (by decide) ?_
        refine aw_iload_n (pc := 162) (i := 2) (x := (0 : Int32)) F dM_codes_162 rfl rfl ?_
        exact aw_iret (pc := 163) F hr hlk dM_codes_163 (by rw [fm_codes1, if_pos c_7, if_neg c_32, if_neg s_56_0, if_neg s_56_1, if_neg s_56_2, if_neg s_56_3, if_neg s_56_4, if_pos s_56_5]) rfl
      by_cases s_56_6 : ((M.2 0) i.toNatClampNeg) = (6 : Int32)
      · refine aw_tableIn (pc := 56) F 129 dM_codes_56 (by rw [s_56_6]; decide) (by rw [s_56_6]; decide) (off := 73) (by rw [s_56_6]; rfl) (by decide) ?_
        refine aw_iload_n (pc := 129) (i := 2) (x := (0 : Int32)) F dM_codes_129 rfl rfl ?_
        refine aw_iconst (pc := 130) (v := 1) F dM_codes_130 (by decide) ?_
        refine aw_iand (pc := 131) F dM_codes_131 ?_
        refine aw_if_ne (pc := 132) F 139 dM_codes_132 (by decide) (fun c_132 => ?_) (fun c_132 => ?_)
        · skip
          refine aw_iload_n (pc := 139) (i := 2) (x := (0 : Int32)) F dM_codes_139 rfl rfl ?_
          refine aw_bipush (pc := 140) (v := -2) F dM_codes_140 (by decide) ?_
          refine aw_iand (pc := 142) F dM_codes_142 ?_
          refine aw_iload_n (pc := 143) (i := 3) (x := (K ((M.2 3) i.toNatClampNeg))) F dM_codes_143 rfl rfl ?_
          refine aw_ior (pc := 144) F dM_codes_144 ?_
          exact aw_iret (pc := 145) F hr hlk dM_codes_145 (by rw [fm_codes1, if_pos c_7, if_neg c_32, if_neg s_56_0, if_neg s_56_1, if_neg s_56_2, if_neg s_56_3, if_neg s_56_4, if_neg s_56_5, if_pos s_56_6, if_neg c_132]) rfl
        · skip
          refine aw_iload_n (pc := 135) (i := 2) (x := (0 : Int32)) F dM_codes_135 rfl rfl ?_
          refine aw_goto (pc := 136) F 145 dM_codes_136 (by decide) ?_
          exact aw_iret (pc := 145) F hr hlk dM_codes_145 (by rw [fm_codes1, if_pos c_7, if_neg c_32, if_neg s_56_0, if_neg s_56_1, if_neg s_56_2, if_neg s_56_3, if_neg s_56_4, if_neg s_56_5, if_pos s_56_6, if_pos c_132]) rfl
      by_cases s_56_7 : ((M.2 0) i.toNatClampNeg) = (7 : Int32)
      · refine aw_tableIn (pc := 56) F 146 dM_codes_56 (by rw [s_56_7]; decide) (by rw [s_56_7]; decide) (off := 90) (by rw [s_56_7]; rfl) (by decide) ?_
        refine aw_iload_n (pc := 146) (i := 2) (x := (0 : Int32)) F dM_codes_146 rfl rfl ?_
        refine aw_iload_n (pc := 147) (i := 3) (x := (K ((M.2 3) i.toNatClampNeg))) F dM_codes_147 rfl rfl ?_
        refine aw_goS (pc := 148) (As := [.int (0 : Int32), .int (K ((M.2 3) i.toNatClampNeg))]) (rest := []) F zC_ok Zs (tM_pairs  T M Y V (0 : Int32) (K ((M.2 3) i.toNatClampNeg))) (va_cwS 2 F.1.2.2.2.2 (gi_S wd_773 wd_774 wd_67 wd_775) rfl rfl rfl (by decide +kernel) ⟨by first | (simp only [aw_rm]; omega) | simp only [aw_rm] | omega, by first | (simp only [aw_rm]; omega) | simp only [aw_rm] | omega⟩) rfl (Nat.le_of_ble_eq_true rfl) ⟨Nat.zero_le _, Nat.zero_le _⟩ rfl dM_codes_148 ?_
        show aW _ _ _ _ _ _ _ _ _ _ _ _ _ _ _ _ _ _ _ _ _ [.int (fm_pairs (0 : Int32) (K ((M.2 3) i.toNatClampNeg)))]
        exact aw_iret (pc := 151) F hr hlk dM_codes_151 (by rw [fm_codes1, if_pos c_7, if_neg c_32, if_neg s_56_0, if_neg s_56_1, if_neg s_56_2, if_neg s_56_3, if_neg s_56_4, if_neg s_56_5, if_neg s_56_6, if_pos s_56_7]) rfl
      by_cases s_56_8 : ((M.2 0) i.toNatClampNeg) = (8 : Int32)
      · refine aw_tableIn (pc := 56) F 152 dM_codes_56 (by rw [s_56_8]; decide) (by rw [s_56_8]; decide) (off := 96) (by rw [s_56_8]; rfl) (by decide) ?_
        refine aw_iload_n (pc := 152) (i := 2) (x := (0 : Int32)) F dM_codes_152 rfl rfl ?_
        refine aw_bipush (pc := 153) (v := -2) F dM_codes_153 (by decide) ?_
        refine aw_iand (pc := 155) F dM_codes_155 ?_
        exact aw_iret (pc := 156) F hr hlk dM_codes_156 (by rw [fm_codes1, if_pos c_7, if_neg c_32, if_neg s_56_0, if_neg s_56_1, if_neg s_56_2, if_neg s_56_3, if_neg s_56_4, if_neg s_56_5, if_neg s_56_6, if_neg s_56_7, if_pos s_56_8]) rfl
      by_cases s_56_9 : ((M.2 0) i.toNatClampNeg) = (9 : Int32)
      · refine aw_tableIn (pc := 56) F 157 dM_codes_56 (by rw [s_56_9]; decide) (by rw [s_56_9]; decide) (off := 101) (by rw [s_56_9]; rfl) (by decide) ?_
        refine aw_iload_n (pc := 157) (i := 2) (x := (0 : Int32)) F dM_codes_157 rfl rfl ?_
        refine aw_goS (pc := 158) (As := [.int (0 : Int32)]) (rest := []) F zC_ok Zs (tM_caught  T M Y V (0 : Int32)) (va_cwS 1 F.1.2.2.2.2 (gi_S wd_776 wd_777 wd_67 wd_778) rfl rfl rfl (by decide +kernel) ⟨by first | (simp only [aw_rm]; omega) | simp only [aw_rm] | omega, by first | (simp only [aw_rm]; omega) | simp only [aw_rm] | omega⟩) rfl (Nat.le_of_ble_eq_true rfl) ⟨Nat.zero_le _, Nat.zero_le _⟩ rfl dM_codes_158 ?_
        show aW _ _ _ _ _ _ _ _ _ _ _ _ _ _ _ _ _ _ _ _ _ [.int (fm_caught (0 : Int32))]
        exact aw_iret (pc := 161) F hr hlk dM_codes_161 (by rw [fm_codes1, if_pos c_7, if_neg c_32, if_neg s_56_0, if_neg s_56_1, if_neg s_56_2, if_neg s_56_3, if_neg s_56_4, if_neg s_56_5, if_neg s_56_6, if_neg s_56_7, if_neg s_56_8, if_pos s_56_9]) rfl
      refine aw_tableOut (pc := 56) F 162 dM_codes_56 (by have := aw_ne s_56_0 (a := 0) (by decide); have := aw_ne s_56_1 (a := 1) (by decide); have := aw_ne s_56_2 (a := 2) (by decide); have := aw_ne s_56_3 (a := 3) (by decide); have := aw_ne s_56_4 (a := 4) (by decide); have := aw_ne s_56_5 (a := 5) (by decide); have := aw_ne s_56_6 (a := 6) (by decide); have := aw_ne s_56_7 (a := 7) (by decide); have := aw_ne s_56_8 (a := 8) (by decide); have := aw_ne s_56_9 (a := 9) (by decide); omega) (by decide) ?_
      refine aw_iload_n (pc := 162) (i := 2) (x := (0 : Int32)) F dM_codes_162 rfl rfl ?_
      exact aw_iret (pc := 163) F hr hlk dM_codes_163 (by rw [fm_codes1, if_pos c_7, if_neg c_32, if_neg s_56_0, if_neg s_56_1, if_neg s_56_2, if_neg s_56_3, if_neg s_56_4, if_neg s_56_5, if_neg s_56_6, if_neg s_56_7, if_neg s_56_8, if_neg s_56_9]) rfl
    · skip
      refine aw_iconst (pc := 35) (v := 0) F dM_codes_35 (by decide) ?_
      refine aw_goto (pc := 36) F 49 dM_codes_36 (by decide) ?_
      refine aw_istore_n (pc := 49) (i := 3) (L' := [some (.ref (ad 13)), some (.int i), some (.int (0 : Int32)), some (.int (0 : Int32))]) F dM_codes_49 rfl (by decide) rfl ?_
      refine aw_aload_n (pc := 50) (i := 0) (x := ad 13) F dM_codes_50 rfl rfl ?_
      refine aw_get (pc := 51) (v := .ref (ad 14)) F 13 hM_at13 rfl 5 (by decide) (fun w h => mw (iw_M w h)) (mw wd_654) rfl dM_codes_51 ?_
      refine aw_iload_n (pc := 54) (i := 1) (x := i) F dM_codes_54 rfl rfl ?_
      refine aw_iald (pc := 55) F 14 0 hM_at14 rfl (ix_in hw hi) dM_codes_55 ?_
      by_cases s_56_0 : ((M.2 0) i.toNatClampNeg) = (0 : Int32)
      · refine aw_tableIn (pc := 56) F 112 dM_codes_56 (by rw [s_56_0]; decide) (by rw [s_56_0]; decide) (off := 56) (by rw [s_56_0]; rfl) (by decide) ?_
        refine aw_iconst (pc := 112) (v := 1) F dM_codes_112 (by decide) ?_
        exact aw_iret (pc := 113) F hr hlk dM_codes_113 (by rw [fm_codes1, if_pos c_7, if_pos c_32, if_pos s_56_0]) rfl
      by_cases s_56_1 : ((M.2 0) i.toNatClampNeg) = (1 : Int32)
      · refine aw_tableIn (pc := 56) F 114 dM_codes_56 (by rw [s_56_1]; decide) (by rw [s_56_1]; decide) (off := 58) (by rw [s_56_1]; rfl) (by decide) ?_
        refine aw_iconst (pc := 114) (v := 2) F dM_codes_114 (by decide) ?_
        exact aw_iret (pc := 115) F hr hlk dM_codes_115 (by rw [fm_codes1, if_pos c_7, if_pos c_32, if_neg s_56_0, if_pos s_56_1]) rfl
      by_cases s_56_2 : ((M.2 0) i.toNatClampNeg) = (2 : Int32)
      · refine aw_tableIn (pc := 56) F 112 dM_codes_56 (by rw [s_56_2]; decide) (by rw [s_56_2]; decide) (off := 56) (by rw [s_56_2]; rfl) (by decide) ?_
        refine aw_iconst (pc := 112) (v := 1) F dM_codes_112 (by decide) ?_
        exact aw_iret (pc := 113) F hr hlk dM_codes_113 (by rw [fm_codes1, if_pos c_7, if_pos c_32, if_neg s_56_0, if_neg s_56_1, if_pos s_56_2]) rfl
      by_cases s_56_3 : ((M.2 0) i.toNatClampNeg) = (3 : Int32)
      · refine aw_tableIn (pc := 56) F 116 dM_codes_56 (by rw [s_56_3]; decide) (by rw [s_56_3]; decide) (off := 60) (by rw [s_56_3]; rfl) (by decide) ?_
        refine aw_iconst (pc := 116) (v := 4) F dM_codes_116 (by decide) ?_
        refine aw_aload_n (pc := 117) (i := 0) (x := ad 13) F dM_codes_117 rfl rfl ?_
        refine aw_get (pc := 118) (v := .ref (ad 15)) F 13 hM_at13 rfl 6 (by decide) (fun w h => mw (iw_M w h)) (mw wd_655) rfl dM_codes_118 ?_
        refine aw_iload_n (pc := 121) (i := 1) (x := i) F dM_codes_121 rfl rfl ?_
        refine aw_iald (pc := 122) F 15 0 hM_at15 rfl (ix_in hw hi) dM_codes_122 ?_
        refine aw_ishl (pc := 123) F dM_codes_123 ?_
        exact aw_iret (pc := 124) F hr hlk dM_codes_124 (by rw [fm_codes1, if_pos c_7, if_pos c_32, if_neg s_56_0, if_neg s_56_1, if_neg s_56_2, if_pos s_56_3]) rfl
      by_cases s_56_4 : ((M.2 0) i.toNatClampNeg) = (4 : Int32)
      · refine aw_tableIn (pc := 56) F 125 dM_codes_56 (by rw [s_56_4]; decide) (by rw [s_56_4]; decide) (off := 69) (by rw [s_56_4]; rfl) (by decide) ?_
        refine aw_iload_n (pc := 125) (i := 2) (x := (0 : Int32)) F dM_codes_125 rfl rfl ?_
        refine aw_iload_n (pc := 126) (i := 3) (x := (0 : Int32)) F dM_codes_126 rfl rfl ?_
        refine aw_ior (pc := 127) F dM_codes_127 ?_
        exact aw_iret (pc := 128) F hr hlk dM_codes_128 (by rw [fm_codes1, if_pos c_7, if_pos c_32, if_neg s_56_0, if_neg s_56_1, if_neg s_56_2, if_neg s_56_3, if_pos s_56_4]) rfl
      by_cases s_56_5 : ((M.2 0) i.toNatClampNeg) = (5 : Int32)
      · refine aw_tableIn (pc := 56) F 162 dM_codes_56 (by rw [s_56_5]; decide) (by rw [s_56_5]; decide) (off := 106) (by rw [s_56_5]; rfl) (by decide) ?_
        refine aw_iload_n (pc := 162) (i := 2) (x := (0 : Int32)) F dM_codes_162 rfl rfl ?_
        exact aw_iret (pc := 163) F hr hlk dM_codes_163 (by rw [fm_codes1, if_pos c_7, if_pos c_32, if_neg s_56_0, if_neg s_56_1, if_neg s_56_2, if_neg s_56_3, if_neg s_56_4, if_pos s_56_5]) rfl
      by_cases s_56_6 : ((M.2 0) i.toNatClampNeg) = (6 : Int32)
      · refine aw_tableIn (pc := 56) F 129 dM_codes_56 (by rw [s_56_6]; decide) (by rw [s_56_6]; decide) (off := 73) (by rw [s_56_6]; rfl) (by decide) ?_
        refine aw_iload_n (pc := 129) (i := 2) (x := (0 : Int32)) F dM_codes_129 rfl rfl ?_
        refine aw_iconst (pc := 130) (v := 1) F dM_codes_130 (by decide) ?_
        refine aw_iand (pc := 131) F dM_codes_131 ?_
        refine aw_if_ne (pc := 132) F 139 dM_codes_132 (by decide) (fun c_132 => ?_) (fun c_132 => ?_)
        · skip
          refine aw_iload_n (pc := 139) (i := 2) (x := (0 : Int32)) F dM_codes_139 rfl rfl ?_
          refine aw_bipush (pc := 140) (v := -2) F dM_codes_140 (by decide) ?_
          refine aw_iand (pc := 142) F dM_codes_142 ?_
          refine aw_iload_n (pc := 143) (i := 3) (x := (0 : Int32)) F dM_codes_143 rfl rfl ?_
          refine aw_ior (pc := 144) F dM_codes_144 ?_
          exact aw_iret (pc := 145) F hr hlk dM_codes_145 (by rw [fm_codes1, if_pos c_7, if_pos c_32, if_neg s_56_0, if_neg s_56_1, if_neg s_56_2, if_neg s_56_3, if_neg s_56_4, if_neg s_56_5, if_pos s_56_6, if_neg c_132]) rfl
        · skip
          refine aw_iload_n (pc := 135) (i := 2) (x := (0 : Int32)) F dM_codes_135 rfl rfl ?_
          refine aw_goto (pc := 136) F 145 dM_codes_136 (by decide) ?_
          exact aw_iret (pc := 145) F hr hlk dM_codes_145 (by rw [fm_codes1, if_pos c_7, if_pos c_32, if_neg s_56_0, if_neg s_56_1, if_neg s_56_2, if_neg s_56_3, if_neg s_56_4, if_neg s_56_5, if_pos s_56_6, if_pos c_132]) rfl
      by_cases s_56_7 : ((M.2 0) i.toNatClampNeg) = (7 : Int32)
      · refine aw_tableIn (pc := 56) F 146 dM_codes_56 (by rw [s_56_7]; decide) (by rw [s_56_7]; decide) (off := 90) (by rw [s_56_7]; rfl) (by decide) ?_
        refine aw_iload_n (pc := 146) (i := 2) (x := (0 : Int32)) F dM_codes_146 rfl rfl ?_
        refine aw_iload_n (pc := 147) (i := 3) (x := (0 : Int32)) F dM_codes_147 rfl rfl ?_
        refine aw_goS (pc := 148) (As := [.int (0 : Int32), .int (0 : Int32)]) (rest := []) F zC_ok Zs (tM_pairs  T M Y V (0 : Int32) (0 : Int32)) (va_cwS 2 F.1.2.2.2.2 (gi_S wd_773 wd_774 wd_67 wd_775) rfl rfl rfl (by decide +kernel) ⟨by first | (simp only [aw_rm]; omega) | simp only [aw_rm] | omega, by first | (simp only [aw_rm]; omega) | simp only [aw_rm] | omega⟩) rfl (Nat.le_of_ble_eq_true rfl) ⟨Nat.zero_le _, Nat.zero_le _⟩ rfl dM_codes_148 ?_
        show aW _ _ _ _ _ _ _ _ _ _ _ _ _ _ _ _ _ _ _ _ _ [.int (fm_pairs (0 : Int32) (0 : Int32))]
        exact aw_iret (pc := 151) F hr hlk dM_codes_151 (by rw [fm_codes1, if_pos c_7, if_pos c_32, if_neg s_56_0, if_neg s_56_1, if_neg s_56_2, if_neg s_56_3, if_neg s_56_4, if_neg s_56_5, if_neg s_56_6, if_pos s_56_7]) rfl
      by_cases s_56_8 : ((M.2 0) i.toNatClampNeg) = (8 : Int32)
      · refine aw_tableIn (pc := 56) F 152 dM_codes_56 (by rw [s_56_8]; decide) (by rw [s_56_8]; decide) (off := 96) (by rw [s_56_8]; rfl) (by decide) ?_
        refine aw_iload_n (pc := 152) (i := 2) (x := (0 : Int32)) F dM_codes_152 rfl rfl ?_
        refine aw_bipush (pc := 153) (v := -2) F dM_codes_153 (by decide) ?_
        refine aw_iand (pc := 155) F dM_codes_155 ?_
        exact aw_iret (pc := 156) F hr hlk dM_codes_156 (by rw [fm_codes1, if_pos c_7, if_pos c_32, if_neg s_56_0, if_neg s_56_1, if_neg s_56_2, if_neg s_56_3, if_neg s_56_4, if_neg s_56_5, if_neg s_56_6, if_neg s_56_7, if_pos s_56_8]) rfl
      by_cases s_56_9 : ((M.2 0) i.toNatClampNeg) = (9 : Int32)
      · refine aw_tableIn (pc := 56) F 157 dM_codes_56 (by rw [s_56_9]; decide) (by rw [s_56_9]; decide) (off := 101) (by rw [s_56_9]; rfl) (by decide) ?_
        refine aw_iload_n (pc := 157) (i := 2) (x := (0 : Int32)) F dM_codes_157 rfl rfl ?_
        refine aw_goS (pc := 158) (As := [.int (0 : Int32)]) (rest := []) F zC_ok Zs (tM_caught  T M Y V (0 : Int32)) (va_cwS 1 F.1.2.2.2.2 (gi_S wd_776 wd_777 wd_67 wd_778) rfl rfl rfl (by decide +kernel) ⟨by first | (simp only [aw_rm]; omega) | simp only [aw_rm] | omega, by first | (simp only [aw_rm]; omega) | simp only [aw_rm] | omega⟩) rfl (Nat.le_of_ble_eq_true rfl) ⟨Nat.zero_le _, Nat.zero_le _⟩ rfl dM_codes_158 ?_
        show aW _ _ _ _ _ _ _ _ _ _ _ _ _ _ _ _ _ _ _ _ _ [.int (fm_caught (0 : Int32))]
        exact aw_iret (pc := 161) F hr hlk dM_codes_161 (by rw [fm_codes1, if_pos c_7, if_pos c_32, if_neg s_56_0, if_neg s_56_1, if_neg s_56_2, if_neg s_56_3, if_neg s_56_4, if_neg s_56_5, if_neg s_56_6, if_neg s_56_7, if_neg s_56_8, if_pos s_56_9]) rfl
      refine aw_tableOut (pc := 56) F 162 dM_codes_56 (by have := aw_ne s_56_0 (a := 0) (by decide); have := aw_ne s_56_1 (a := 1) (by decide); have := aw_ne s_56_2 (a := 2) (by decide); have := aw_ne s_56_3 (a := 3) (by decide); have := aw_ne s_56_4 (a := 4) (by decide); have := aw_ne s_56_5 (a := 5) (by decide); have := aw_ne s_56_6 (a := 6) (by decide); have := aw_ne s_56_7 (a := 7) (by decide); have := aw_ne s_56_8 (a := 8) (by decide); have := aw_ne s_56_9 (a := 9) (by decide); omega) (by decide) ?_
      refine aw_iload_n (pc := 162) (i := 2) (x := (0 : Int32)) F dM_codes_162 rfl rfl ?_
      exact aw_iret (pc := 163) F hr hlk dM_codes_163 (by rw [fm_codes1, if_pos c_7, if_pos c_32, if_neg s_56_0, if_neg s_56_1, if_neg s_56_2, if_neg s_56_3, if_neg s_56_4, if_neg s_56_5, if_neg s_56_6, if_neg s_56_7, if_neg s_56_8, if_neg s_56_9]) rfl
def fm_codes : Nat → mT → Int32 → Int32
  | 0, _, _ => 0
  | n + 1, M, i => fm_codes1 (fm_codes n M) M i
def fm_cd : Nat → Nat
  | 0 => 6
  | n + 1 => fm_cd n + 1
theorem fm_cd6 (n : Nat) : 6 ≤ fm_cd n := by
  induction n with
  | zero => exact Nat.le_refl 6
  | succ n ih => exact Nat.le_trans ih (Nat.le_add_right _ 1)
theorem tM_codesN {l : Launch} {D : va_G} {A : Nat → Prop} {ad : Nat → Nat} {tP : Nat} {cI cZ : ClassId} {S : kT} {P : pT} {X : xT} {tl : List va_E} {tyr : List (ClassId × FieldType)} (T : Int32) (M : mT) (Y : yT) (V : vT) (hw : mW M) : ∀ (n : Nat) (a : Int32), mC M n a → aw_M l yM_codes (Cond.code yM_codes cM_codes 4 (some .int) :: aw_big) (fm_cd n) D vwCl ((cI, .int) :: (cZ, .boolean) :: tyr) A ad (zC A tP) [.ref (ad 13), .int a] (hC ad cI S P X ++ (hM ad cI cZ T M Y V ++ tl)) (some (.int (fm_codes n M a))) (hC ad cI S P X ++ (hM ad cI cZ T M Y V ++ tl)) := by
  intro n
  induction n with
  | zero =>
    intro a h
    have h1 := h.1.2
    have h2 := h.2
    exfalso
    omega
  | succ n ih =>
    intro a h
    refine tM_codes T M Y V a (fm_cd6 n) hw (K := fm_codes n M) (Cn := mC M n) ih h.1 (fun q => ?_) (fun q => ?_)
    · have r := (hw.2 a h.1).1.resolve_left q
      exact ⟨r.1, by have := r.2; have := h.2; omega⟩
    · have r := (hw.2 a h.1).2.1.resolve_left q
      exact ⟨r.1, by have := r.2; have := h.2; omega⟩
theorem mC_big {M : mT} {a : Int32} (hw : mW M) (h : mIx M a) : mC M 121 a := ⟨h, by have := hw.1.2; have := h.1; omega⟩
def fm_startF (T : Int32) (M : mT) : Int32 × Int32 :=
  if (M.1 3) ≤ 0 then
    (((fm_fails T (0 : Int32) (0 : Int32)).1), ((fm_fails T (0 : Int32) (0 : Int32)).2))
  else
    (((fm_fails T (1 : Int32) (0 : Int32)).1), ((fm_fails T (1 : Int32) (0 : Int32)).2))
set_option maxRecDepth 100000 in
set_option maxHeartbeats 4000000 in
theorem tM_start_X0 {l : Launch} {D : va_G} {A : Nat → Prop} {ad : Nat → Nat} {tP : Nat} {cI cZ : ClassId} {S : kT} {P : pT} {X : xT} {tl : List va_E} {tyr : List (ClassId × FieldType)} {p : Program} {e : Env} {s : State} {m : MethodId} {args : Array Value} {below : List Frame} {meth : Method} {c : Code} {Q : State → Prop} (F : aw_F p s m c args cM_start 3 (Cond.code yM_start cM_start 3 (some .int) :: aw_big) yM_start.cls D vwCl ((cI, .int) :: (cZ, .boolean) :: tyr)) (Zs : zC A tP s) :
    ∀ (T : Int32) (M : mT) (Y : yT) (V : vT)   , aW p l e (aw_rm 128) s m args below meth c 0 0 Q D vwCl A ad 3 (hC ad cI S P X ++ (hM ad cI cZ ((fm_startF T M).2) M Y V ++ tl)) [some (.ref (ad 13)), none, none] 17 [.int ((fm_startF T M).1)] → aW p l e (aw_rm 128) s m args below meth c 0 0 Q D vwCl A ad 3 (hC ad cI S P X ++ (hM ad cI cZ T M Y V ++ tl)) [some (.ref (ad 13)), none, none] 0 [] := by
  intro T M Y V kq
  refine aw_aload_n (pc := 0) (i := 0) (x := ad 13) F dM_start_0 rfl rfl ?_
  refine aw_aload_n (pc := 1) (i := 0) (x := ad 13) F dM_start_1 rfl rfl ?_
  refine aw_get (pc := 2) (v := .int (M.1 3)) F 13 hM_at13 rfl 4 (by decide) (fun w h => mw (iw_M w h)) (mw wd_653) rfl dM_start_2 ?_
  refine aw_if_le (pc := 5) F 12 dM_start_5 (by decide) (fun c_5 => ?_) (fun c_5 => ?_)
  · skip
    refine aw_iconst (pc := 12) (v := 0) F dM_start_12 (by decide) ?_
    refine aw_iconst (pc := 13) (v := 0) F dM_start_13 (by decide) ?_
    refine aw_goV (pc := 14) (As := [.int (0 : Int32), .int (0 : Int32)]) (rest := []) F zC_ok Zs 13 hM_at13 rfl (tM_fails  T M Y V (0 : Int32) (0 : Int32)) (cwV 2 F.1.2.2.2.2 (gi_V wd_754 wd_756 wd_47 wd_67 wd_757) rfl rfl rfl (by decide +kernel) ⟨Nat.le_of_ble_eq_true rfl, Nat.le_of_ble_eq_true rfl⟩) rfl (Nat.le_of_ble_eq_true rfl) ⟨Nat.zero_le _, Nat.zero_le _⟩ rfl dM_start_14 ?_
    show aW _ _ _ _ _ _ _ _ _ _ _ _ _ _ _ _ _ _ _ _ _ [.int ((fm_fails T (0 : Int32) (0 : Int32)).1)]
    rw [show (fm_startF T M) = (((fm_fails T (0 : Int32) (0 : Int32)).1), ((fm_fails T (0 : Int32) (0 : Int32)).2)) from by rw [fm_startF, if_pos c_5]] at kq
    exact kq
  · skip
    refine aw_iconst (pc := 8) (v := 1) F dM_start_8 (by decide) ?_
    refine aw_goto (pc := 9) F 13 dM_start_9 (by decide) ?_
    refine aw_iconst (pc := 13) (v := 0) F dM_start_13 (by decide) ?_
    refine aw_goV (pc := 14) (As := [.int (1 : Int32), .int (0 : Int32)]) (rest := []) F zC_ok Zs 13 hM_at13 rfl (tM_fails  T M Y V (1 : Int32) (0 : Int32)) (cwV 2 F.1.2.2.2.2 (gi_V wd_754 wd_756 wd_47 wd_67 wd_757) rfl rfl rfl (by decide +kernel) ⟨Nat.le_of_ble_eq_true rfl, Nat.le_of_ble_eq_true rfl⟩) rfl (Nat.le_of_ble_eq_true rfl) ⟨Nat.zero_le _, Nat.zero_le _⟩ rfl dM_start_14 ?_
    show aW _ _ _ _ _ _ _ _ _ _ _ _ _ _ _ _ _ _ _ _ _ [.int ((fm_fails T (1 : Int32) (0 : Int32)).1)]
    rw [show (fm_startF T M) = (((fm_fails T (1 : Int32) (0 : Int32)).1), ((fm_fails T (1 : Int32) (0 : Int32)).2)) from by rw [fm_startF, if_neg c_5]] at kq
    exact kq
def fm_startL : Nat → Int32 → mT → yT → Int32 → Int32 → Int32 × Int32 × yT
  | 0, T, M, Y, lo, ix => (0, T, Y)
  | n + 1, T, M, Y, lo, ix =>
      if (M.1 0) ≤ ix then
      ((0 : Int32), T, (y1w (y1w Y 0 (1 : Int32)) 2 (1 : Int32)))
    else
      if ((M.2 0) ix.toNatClampNeg) = (8 : Int32) then
        if ((fm_codes 121 M ((M.2 2) ix.toNatClampNeg)) &&& (1 : Int32)) = (1 : Int32) then
          (lo + (1 : Int32), T, Y)
        else
          (fm_startL n T M Y (lo + (1 : Int32)) (ix + (1 : Int32)))
      else
        (fm_startL n T M Y lo (ix + (1 : Int32)))
set_option maxRecDepth 100000 in
set_option maxHeartbeats 4000000 in
theorem tM_start_L31 {l : Launch} {D : va_G} {A : Nat → Prop} {ad : Nat → Nat} {tP : Nat} {cI cZ : ClassId} {S : kT} {P : pT} {X : xT} {tl : List va_E} {tyr : List (ClassId × FieldType)} {p : Program} {e : Env} {s : State} {m : MethodId} {args : Array Value} {below : List Frame} {meth : Method} {c : Code} (F : aw_F p s m c args cM_start 3 (Cond.code yM_start cM_start 3 (some .int) :: aw_big) yM_start.cls D vwCl ((cI, .int) :: (cZ, .boolean) :: tyr)) (Zs : zC A tP s) (hr : meth.sig.returnType = (some .int)) (hlk : meth.locks = false) :
    ∀ (n : Nat) (T : Int32) (M : mT) (Y : yT) (V : vT)  (lo : Int32) (ix : Int32) (hw : mW M) (h1 : 0 ≤ ix.toInt) (h2 : ix.toInt ≤ 120) (hm : 120 < ix.toInt + n), aW p l e (aw_rm 128) s m args below meth c 0 0 (MQ below (aw_Q D vwCl A ad (some (.int ((fm_startL n T M Y lo ix).1))) (hC ad cI S P X ++ (hM ad cI cZ ((fm_startL n T M Y lo ix).2.1) M ((fm_startL n T M Y lo ix).2.2) V ++ tl))) args s 0 0 A) D vwCl A ad 3 (hC ad cI S P X ++ (hM ad cI cZ T M Y V ++ tl)) [some (.ref (ad 13)), some (.int lo), some (.int ix)] 31 [] := by
  intro n
  induction n with
  | zero =>
    intro T M Y V lo ix hw h1 h2 hm
    exfalso; omega
  | succ n ih =>
    intro T M Y V lo ix hw h1 h2 hm
    refine aw_iload_n (pc := 31) (i := 2) (x := ix) F dM_start_31 rfl rfl ?_
    refine aw_aload_n (pc := 32) (i := 0) (x := ad 13) F dM_start_32 rfl rfl ?_
    refine aw_get (pc := 33) (v := .int (M.1 0)) F 13 hM_at13 rfl 1 (by decide) (fun w h => mw (iw_M w h)) (mw wd_650) rfl dM_start_33 ?_
    refine aw_icmp_ge (pc := 36) F 80 dM_start_36 (by decide) (fun c_36 => ?_) (fun c_36 => ?_)
    · skip
      refine aw_aload_n (pc := 80) (i := 0) (x := ad 13) F dM_start_80 rfl rfl ?_
      refine aw_iconst (pc := 81) (v := 1) F dM_start_81 (by decide) ?_
      refine aw_put (pc := 82) (hp' := (hC ad cI S P X ++ (hM ad cI cZ T M (y1w Y 0 (1 : Int32)) V ++ tl))) F 13 hM_at13 rfl 17 (by decide) (fun w h => mw (iw_M w h)) tyM tyM_ok nmM (mw wd_666) (ty := .int) rfl (by decide +kernel) rfl rfl (Nat.le_of_ble_eq_true rfl) hM_st13_17 dM_start_82 ?_
      refine aw_aload_n (pc := 85) (i := 0) (x := ad 13) F dM_start_85 rfl rfl ?_
      refine aw_iconst (pc := 86) (v := 1) F dM_start_86 (by decide) ?_
      refine aw_put (pc := 87) (hp' := (hC ad cI S P X ++ (hM ad cI cZ T M (y1w (y1w Y 0 (1 : Int32)) 2 (1 : Int32)) V ++ tl))) F 13 hM_at13 rfl 19 (by decide) (fun w h => mw (iw_M w h)) tyM tyM_ok nmM (mw wd_668) (ty := .boolean) rfl (by decide +kernel) rfl rfl (Nat.le_of_ble_eq_true rfl) hM_st13_19 dM_start_87 ?_
      refine aw_iconst (pc := 90) (v := 0) F dM_start_90 (by decide) ?_
      exact aw_iret (pc := 91) F hr hlk dM_start_91 (by rw [fm_startL, if_pos c_36]) (by rw [fm_startL, if_pos c_36])
    · skip
      refine aw_aload_n (pc := 39) (i := 0) (x := ad 13) F dM_start_39 rfl rfl ?_
      refine aw_get (pc := 40) (v := .ref (ad 14)) F 13 hM_at13 rfl 5 (by decide) (fun w h => mw (iw_M w h)) (mw wd_654) rfl dM_start_40 ?_
      refine aw_iload_n (pc := 43) (i := 2) (x := ix) F dM_start_43 rfl rfl ?_
      refine aw_iald (pc := 44) F 14 0 hM_at14 rfl (ix_in hw ⟨h1, i_lt c_36⟩) dM_start_44 ?_
      refine aw_bipush (pc := 45) (v := 8) F dM_start_45 (by decide) ?_
      refine aw_icmp_eq (pc := 47) F 53 dM_start_47 (by decide) (fun c_47 => ?_) (fun c_47 => ?_)
      · skip
        refine aw_iinc (pc := 53) (x := lo) (v := lo + (1 : Int32)) (L' := [some (.ref (ad 13)), some (.int (lo + (1 : Int32))), some (.int ix)]) F dM_start_53 rfl rfl (by decide) rfl ?_
        refine aw_aload_n (pc := 56) (i := 0) (x := ad 13) F dM_start_56 rfl rfl ?_
        refine aw_aload_n (pc := 57) (i := 0) (x := ad 13) F dM_start_57 rfl rfl ?_
        refine aw_get (pc := 58) (v := .ref (ad 16)) F 13 hM_at13 rfl 7 (by decide) (fun w h => mw (iw_M w h)) (mw wd_656) rfl dM_start_58 ?_
        refine aw_iload_n (pc := 61) (i := 2) (x := ix) F dM_start_61 rfl rfl ?_
        refine aw_iald (pc := 62) F 16 0 hM_at16 rfl (ix_in hw ⟨h1, i_lt c_36⟩) dM_start_62 ?_
        refine aw_goV (pc := 63) (As := [.int ((M.2 2) ix.toNatClampNeg)]) (rest := []) F zC_ok Zs 13 hM_at13 rfl (tM_codesN T M Y V hw 121 ((M.2 2) ix.toNatClampNeg) (mC_big hw ((hw.2 ix ⟨h1, i_lt c_36⟩).1.resolve_left ((hw.2 ix ⟨h1, i_lt c_36⟩).2.2.2.2.2.2.2.2.2.1 (by rw [c_47]; decide) (by rw [c_47]; decide) (by rw [c_47]; decide) (by rw [c_47]; decide))).1)) (cwV 1 F.1.2.2.2.2 (gi_V wd_769 wd_771 wd_49 wd_67 wd_772) rfl rfl rfl (by decide +kernel) ⟨Nat.le_of_ble_eq_true rfl, Nat.le_of_ble_eq_true rfl⟩) rfl (Nat.le_of_ble_eq_true rfl) ⟨Nat.zero_le _, Nat.zero_le _⟩ rfl dM_start_63 ?_
        show aW _ _ _ _ _ _ _ _ _ _ _ _ _ _ _ _ _ _ _ _ _ [.int (fm_codes 121 M ((M.2 2) ix.toNatClampNeg))]
        refine aw_iconst (pc := 66) (v := 1) F dM_start_66 (by decide) ?_
        refine aw_iand (pc := 67) F dM_start_67 ?_
        refine aw_iconst (pc := 68) (v := 1) F dM_start_68 (by decide) ?_
        refine aw_icmp_ne (pc := 69) F 74 dM_start_69 (by decide) (fun c_69 => ?_) (fun c_69 => ?_)
        · skip
          refine aw_iinc (pc := 74) (x := ix) (v := ix + (1 : Int32)) (L' := [some (.ref (ad 13)), some (.int (lo + (1 : Int32))), some (.int (ix + (1 : Int32)))]) F dM_start_74 rfl rfl (by decide) rfl ?_
          refine aw_goto (pc := 77) F 31 dM_start_77 (by decide) ?_
          rw [show (fm_startL (n + 1) T M Y lo ix) = (fm_startL n T M Y (lo + (1 : Int32)) (ix + (1 : Int32))) from by rw [fm_startL, if_neg c_36, if_pos c_47, if_neg c_69]]
          exact ih T M Y V  (lo + (1 : Int32)) (ix + (1 : Int32)) hw (by have a := mI_up hw ⟨h1, i_lt c_36⟩; omega) (by have a := mI_up hw ⟨h1, i_lt c_36⟩; omega) (by have a := mI_up hw ⟨h1, i_lt c_36⟩; omega)
        · skip
          refine aw_iload_n (pc := 72) (i := 1) (x := lo + (1 : Int32)) F dM_start_72 rfl rfl ?_
          exact aw_iret (pc := 73) F hr hlk dM_start_73 (by rw [fm_startL, if_neg c_36, if_pos c_47, if_pos c_69]) (by rw [fm_startL, if_neg c_36, if_pos c_47, if_pos c_69])
      · skip
        refine aw_goto (pc := 50) F 74 dM_start_50 (by decide) ?_
        refine aw_iinc (pc := 74) (x := ix) (v := ix + (1 : Int32)) (L' := [some (.ref (ad 13)), some (.int lo), some (.int (ix + (1 : Int32)))]) F dM_start_74 rfl rfl (by decide) rfl ?_
        refine aw_goto (pc := 77) F 31 dM_start_77 (by decide) ?_
        rw [show (fm_startL (n + 1) T M Y lo ix) = (fm_startL n T M Y lo (ix + (1 : Int32))) from by rw [fm_startL, if_neg c_36, if_neg c_47]]
        exact ih T M Y V  lo (ix + (1 : Int32)) hw (by have a := mI_up hw ⟨h1, i_lt c_36⟩; omega) (by have a := mI_up hw ⟨h1, i_lt c_36⟩; omega) (by have a := mI_up hw ⟨h1, i_lt c_36⟩; omega)
def fm_start  (T : Int32) (M : mT) (Y : yT)  : Int32 × Int32 × yT :=
  if ((fm_startF T M).1) = 0 then
    (fm_startL 121 ((fm_startF T M).2) M (fm_rest Y (0 : Int32)) (0 : Int32) (0 : Int32))
  else
    ((0 : Int32), ((fm_startF T M).2), Y)
set_option maxRecDepth 100000 in
set_option maxHeartbeats 4000000 in
theorem tM_start {l : Launch} {D : va_G} {A : Nat → Prop} {ad : Nat → Nat} {tP : Nat} {cI cZ : ClassId} {S : kT} {P : pT} {X : xT} {tl : List va_E} {tyr : List (ClassId × FieldType)} (T : Int32) (M : mT) (Y : yT) (V : vT)  (hw : (fm_startF T M).1 = 0 → mW M) : aw_M l yM_start (Cond.code yM_start cM_start 3 (some .int) :: aw_big) 128 D vwCl ((cI, .int) :: (cZ, .boolean) :: tyr) A ad (zC A tP) [.ref (ad 13)] (hC ad cI S P X ++ (hM ad cI cZ T M Y V ++ tl)) (some (.int ((fm_start T M Y).1))) (hC ad cI S P X ++ (hM ad cI cZ ((fm_start T M Y).2.1) M ((fm_start T M Y).2.2) V ++ tl)) := by
  refine aw_met cM_start 3 (some .int) [some (.ref (ad 13)), none, none] (by decide) rfl (Nat.le_of_ble_eq_true rfl) rfl ?_
  intro p e s m args below meth c F Zs hr hlk
  refine tM_start_X0  F Zs  T M Y V    ?_
  refine aw_if_eq (pc := 17) F 22 dM_start_17 (by decide) (fun c_17 => ?_) (fun c_17 => ?_)
  · skip
    refine aw_aload_n (pc := 22) (i := 0) (x := ad 13) F dM_start_22 rfl rfl ?_
    refine aw_iconst (pc := 23) (v := 0) F dM_start_23 (by decide) ?_
    refine aw_goV (pc := 24) (As := [.int (0 : Int32)]) (rest := []) F zC_ok Zs 13 hM_at13 rfl (tM_rest  ((fm_startF T M).2) M Y V (0 : Int32)) (cwV 1 F.1.2.2.2.2 (gi_V wd_765 wd_767 wd_48 wd_67 wd_768) rfl rfl rfl (by decide +kernel) ⟨Nat.le_of_ble_eq_true rfl, Nat.le_of_ble_eq_true rfl⟩) rfl (Nat.le_of_ble_eq_true rfl) ⟨Nat.zero_le _, Nat.zero_le _⟩ rfl dM_start_24 ?_
    show aW _ _ _ _ _ _ _ _ _ _ _ _ _ _ _ _ _ _ _ _ _ []
    refine aw_iconst (pc := 27) (v := 0) F dM_start_27 (by decide) ?_
    refine aw_istore_n (pc := 28) (i := 1) (L' := [some (.ref (ad 13)), some (.int (0 : Int32)), none]) F dM_start_28 rfl (by decide) rfl ?_
    refine aw_iconst (pc := 29) (v := 0) F dM_start_29 (by decide) ?_
    refine aw_istore_n (pc := 30) (i := 2) (L' := [some (.ref (ad 13)), some (.int (0 : Int32)), some (.int (0 : Int32))]) F dM_start_30 rfl (by decide) rfl ?_
    rw [show (fm_start T M Y) = (fm_startL 121 ((fm_startF T M).2) M (fm_rest Y (0 : Int32)) (0 : Int32) (0 : Int32)) from by rw [fm_start, if_pos c_17]]
    exact tM_start_L31  F Zs hr hlk 121 ((fm_startF T M).2) M (fm_rest Y (0 : Int32)) V  (0 : Int32) (0 : Int32) (hw c_17) (by rw [i_0]; omega) (by rw [i_0]; omega) (by rw [i_0]; omega)
  · skip
    refine aw_iconst (pc := 20) (v := 0) F dM_start_20 (by decide) ?_
    exact aw_iret (pc := 21) F hr hlk dM_start_21 (by rw [fm_start, if_neg c_17]) (by rw [fm_start, if_neg c_17])
