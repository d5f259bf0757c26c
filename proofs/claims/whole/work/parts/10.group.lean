abbrev krT : Type := xT → Int32 → Int32 → Int32 → Int64 × xT
def fr_andThen (K : krT) (X : xT) (w : Int64) (at_ : Int32) (rk : Int32) : Int64 × xT :=
  if (fo_canEndWithZero w) = 0 then
    (w, X)
  else
    ((fo_withoutZero w) ||| ((K X at_ rk (fo_mustEndWithZero w)).1), ((K X at_ rk (fo_mustEndWithZero w)).2))
set_option maxRecDepth 100000 in
set_option maxHeartbeats 4000000 in
theorem tX_andThen {l : Launch} {D : va_G} {A : Nat → Prop} {ad : Nat → Nat} {tP : Nat} {cI : ClassId} {tl : List va_E} {tyr : List (ClassId × FieldType)} {d : Nat} {K : krT} {Cn : Int32 → Prop} (S : kT) (P : pT) (X : xT) (w : Int64) (at_ : Int32) (rk : Int32) (hd : 6 ≤ d) (HK : ∀ (X : xT) (a r b : Int32), Cn a → aw_M l yX_run (Cond.code yX_run cX_run 4 (some .long) :: aw_big) d D vwCl ((cI, .int) :: tyr) A ad (zC A tP) [.ref (ad 11), .int a, .int r, .int b] (hC ad cI S P X ++ tl) (some (.long (K X a r b).1)) (hC ad cI S P (K X a r b).2 ++ tl)) (hc1 : Cn at_) : aw_M l yX_andThen (Cond.code yX_andThen cX_andThen 5 (some .long) :: aw_big) (d + 1) D vwCl ((cI, .int) :: tyr) A ad (zC A tP) [.ref (ad 11), .long w, .int at_, .int rk] (hC ad cI S P X ++ tl) (some (.long ((fr_andThen K X w at_ rk).1))) (hC ad cI S P ((fr_andThen K X w at_ rk).2) ++ tl) := by
  refine aw_met cX_andThen 5 (some .long) [some (.ref (ad 11)), some (.long w), none, some (.int at_), some (.int rk)] (by decide) rfl (Nat.le_of_ble_eq_true rfl) rfl ?_
  intro p e s m args below meth c F Zs hr hlk
  refine aw_lload_n (pc := 0) (i := 1) (x := w) F dX_andThen_0 rfl rfl ?_
  refine aw_goSN (pc := 1) (As := [.long w]) (rest := []) F zC_ok Zs (tO_canEndWithZero  S P X w) ⟨va_cnB 1 F.1.2.2.2.2 (gi_0 wd_548) rfl rfl rfl (nw_m Zs nl_546) (F.1.2.2.2.2 _ (mw wd_75)) (by decide +kernel) ⟨by first | (simp only [aw_rm]; omega) | simp only [aw_rm] | omega, by first | (simp only [aw_rm]; omega) | simp only [aw_rm] | omega⟩, F.1.2.2.2.2 _ (mw wd_547), trivial⟩ rfl (Nat.le_of_ble_eq_true rfl) ⟨Nat.zero_le _, Nat.zero_le _⟩ rfl dX_andThen_1 ?_
  show aW _ _ _ _ _ _ _ _ _ _ _ _ _ _ _ _ _ _ _ _ _ [.int (fo_canEndWithZero w)]
  refine aw_if_ne (pc := 4) F 9 dX_andThen_4 (by decide) (fun c_4 => ?_) (fun c_4 => ?_)
  · skip
    refine aw_lload_n (pc := 9) (i := 1) (x := w) F dX_andThen_9 rfl rfl ?_
    refine aw_goSN (pc := 10) (As := [.long w]) (rest := []) F zC_ok Zs (tO_withoutZero  S P X w) ⟨va_cnB 1 F.1.2.2.2.2 (gi_0 wd_552) rfl rfl rfl (nw_m Zs nl_550) (F.1.2.2.2.2 _ (mw wd_75)) (by decide +kernel) ⟨by first | (simp only [aw_rm]; omega) | simp only [aw_rm] | omega, by first | (simp only [aw_rm]; omega) | simp only [aw_rm] | omega⟩, F.1.2.2.2.2 _ (mw wd_551), trivial⟩ rfl (Nat.le_of_ble_eq_true rfl) ⟨Nat.zero_le _, Nat.zero_le _⟩ rfl dX_andThen_10 ?_
    show aW _ _ _ _ _ _ _ _ _ _ _ _ _ _ _ _ _ _ _ _ _ [.long (fo_withoutZero w)]
    refine aw_aload_n (pc := 13) (i := 0) (x := ad 11) F dX_andThen_13 rfl rfl ?_
    refine aw_iload_n (pc := 14) (i := 3) (x := at_) F dX_andThen_14 rfl rfl ?_
    refine aw_iload (pc := 15) (i := 4) (x := rk) F dX_andThen_15 rfl ?_
    refine aw_lload_n (pc := 17) (i := 1) (x := w) F dX_andThen_17 rfl rfl ?_
    refine aw_goSN (pc := 18) (As := [.long w]) (rest := [.int rk, .int at_, .ref (ad 11), .long (fo_withoutZero w)]) F zC_ok Zs (tO_mustEndWithZero  S P X w) ⟨va_cnB 1 F.1.2.2.2.2 (gi_0 wd_556) rfl rfl rfl (nw_m Zs nl_554) (F.1.2.2.2.2 _ (mw wd_75)) (by decide +kernel) ⟨by first | (simp only [aw_rm]; omega) | simp only [aw_rm] | omega, by first | (simp only [aw_rm]; omega) | simp only [aw_rm] | omega⟩, F.1.2.2.2.2 _ (mw wd_555), trivial⟩ rfl (Nat.le_of_ble_eq_true rfl) ⟨Nat.zero_le _, Nat.zero_le _⟩ rfl dX_andThen_18 ?_
    show aW _ _ _ _ _ _ _ _ _ _ _ _ _ _ _ _ _ _ _ _ _ [.int (fo_mustEndWithZero w), .int rk, .int at_, .ref (ad 11), .long (fo_withoutZero w)]
    refine aw_goV (pc := 21) (As := [.int at_, .int rk, .int (fo_mustEndWithZero w)]) (rest := [.long (fo_withoutZero w)]) F zC_ok Zs 11 hC_at11 rfl (HK X at_ rk (fo_mustEndWithZero w) hc1) (cwV 3 F.1.2.2.2.2 (gi_V wd_443 wd_445 wd_24 wd_66 wd_446) rfl rfl rfl (by decide +kernel) ⟨by first | (simp only [aw_rm]; omega) | simp only [aw_rm] | omega, by first | (simp only [aw_rm]; omega) | simp only [aw_rm] | omega⟩) rfl (Nat.le_of_ble_eq_true rfl) ⟨Nat.zero_le _, Nat.zero_le _⟩ rfl dX_andThen_21 ?_
    show aW _ _ _ _ _ _ _ _ _ _ _ _ _ _ _ _ _ _ _ _ _ [.long ((K X at_ rk (fo_mustEndWithZero w)).1), .long (fo_withoutZero w)]
    refine aw_lor (pc := 24) F dX_andThen_24 ?_
    exact aw_lret (pc := 25) F hr hlk dX_andThen_25 (by rw [fr_andThen, if_neg c_4]) (by rw [fr_andThen, if_neg c_4])
  · skip
    refine aw_lload_n (pc := 7) (i := 1) (x := w) F dX_andThen_7 rfl rfl ?_
    exact aw_lret (pc := 8) F hr hlk dX_andThen_8 (by rw [fr_andThen, if_pos c_4]) (by rw [fr_andThen, if_pos c_4])
def fr_beginPresent (K : krT) (P : pT) (X : xT) (at_ : Int32) (rk : Int32) (b : Int32) : Int64 × xT :=
  if (fr_tested X (fp_operandOf P at_)) = (0 : Int32) then (((K X (fp_secondOf P at_) rk b).1), ((K X (fp_secondOf P at_) rk b).2))
  else if (fr_tested X (fp_operandOf P at_)) = (1 : Int32) then (((K X (at_ + (1 : Int32)) rk b).1), ((K X (at_ + (1 : Int32)) rk b).2))
  else (((K X (at_ + (1 : Int32)) rk (0 : Int32)).1) ||| ((K ((K X (at_ + (1 : Int32)) rk (0 : Int32)).2) (fp_secondOf P at_) rk (0 : Int32)).1), ((K ((K X (at_ + (1 : Int32)) rk (0 : Int32)).2) (fp_secondOf P at_) rk (0 : Int32)).2))
set_option maxRecDepth 100000 in
set_option maxHeartbeats 4000000 in
theorem tX_beginPresent {l : Launch} {D : va_G} {A : Nat → Prop} {ad : Nat → Nat} {tP : Nat} {cI : ClassId} {tl : List va_E} {tyr : List (ClassId × FieldType)} {d : Nat} {K : krT} {Cn : Int32 → Prop} (S : kT) (P : pT) (X : xT) (at_ : Int32) (rk : Int32) (b : Int32) (hS : pS P) (hd : 6 ≤ d) (HK : ∀ (X : xT) (a r b : Int32), Cn a → aw_M l yX_run (Cond.code yX_run cX_run 4 (some .long) :: aw_big) d D vwCl ((cI, .int) :: tyr) A ad (zC A tP) [.ref (ad 11), .int a, .int r, .int b] (hC ad cI S P X ++ tl) (some (.long (K X a r b).1)) (hC ad cI S P (K X a r b).2 ++ tl)) (hc1 : Cn (at_ + (1 : Int32))) (hc2 : Cn (fp_secondOf P at_)) : aw_M l yX_beginPresent (Cond.code yX_beginPresent cX_beginPresent 6 (some .long) :: aw_big) (d + 1) D vwCl ((cI, .int) :: tyr) A ad (zC A tP) [.ref (ad 11), .int at_, .int rk, .int b] (hC ad cI S P X ++ tl) (some (.long ((fr_beginPresent K P X at_ rk b).1))) (hC ad cI S P ((fr_beginPresent K P X at_ rk b).2) ++ tl) := by
  refine aw_met cX_beginPresent 6 (some .long) [some (.ref (ad 11)), some (.int at_), some (.int rk), some (.int b), none, none] (by decide) rfl (Nat.le_of_ble_eq_true rfl) rfl ?_
  intro p e s m args below meth c F Zs hr hlk
  refine aw_iload_n (pc := 0) (i := 1) (x := at_) F dX_beginPresent_0 rfl rfl ?_
  refine aw_iconst (pc := 1) (v := 1) F dX_beginPresent_1 (by decide) ?_
  refine aw_iadd (pc := 2) F dX_beginPresent_2 ?_
  refine aw_istore (pc := 3) (i := 4) (L' := [some (.ref (ad 11)), some (.int at_), some (.int rk), some (.int b), some (.int (at_ + (1 : Int32))), none]) F dX_beginPresent_3 (by decide) rfl ?_
  refine aw_aload_n (pc := 5) (i := 0) (x := ad 11) F dX_beginPresent_5 rfl rfl ?_
  refine aw_get (pc := 6) (v := .ref (ad 1)) F 11 hC_at11 rfl 0 (by decide) (fun w h => mw (iw_X w h)) (mw wd_151) rfl dX_beginPresent_6 ?_
  refine aw_iload_n (pc := 9) (i := 1) (x := at_) F dX_beginPresent_9 rfl rfl ?_
  refine aw_goVN (pc := 10) (As := [.int at_]) (rest := []) F zC_ok Zs 1 hC_at1 rfl (tG_secondOf  S P X at_ hS) ⟨va_cnB 1 F.1.2.2.2.2 (gi_0 wd_398) rfl rfl rfl (nw_m Zs nl_521) (F.1.2.2.2.2 _ (mw wd_65)) (by decide +kernel) ⟨by first | (simp only [aw_rm]; omega) | simp only [aw_rm] | omega, by first | (simp only [aw_rm]; omega) | simp only [aw_rm] | omega⟩, F.1.2.2.2.2 _ (mw wd_397), F.1.2.2.2.2 _ (mw wd_20)⟩ rfl (Nat.le_of_ble_eq_true rfl) ⟨Nat.zero_le _, Nat.zero_le _⟩ rfl dX_beginPresent_10 ?_
  show aW _ _ _ _ _ _ _ _ _ _ _ _ _ _ _ _ _ _ _ _ _ [.int (fp_secondOf P at_)]
  refine aw_istore (pc := 13) (i := 5) (L' := [some (.ref (ad 11)), some (.int at_), some (.int rk), some (.int b), some (.int (at_ + (1 : Int32))), some (.int (fp_secondOf P at_))]) F dX_beginPresent_13 (by decide) rfl ?_
  refine aw_aload_n (pc := 15) (i := 0) (x := ad 11) F dX_beginPresent_15 rfl rfl ?_
  refine aw_aload_n (pc := 16) (i := 0) (x := ad 11) F dX_beginPresent_16 rfl rfl ?_
  refine aw_get (pc := 17) (v := .ref (ad 1)) F 11 hC_at11 rfl 0 (by decide) (fun w h => mw (iw_X w h)) (mw wd_151) rfl dX_beginPresent_17 ?_
  refine aw_iload_n (pc := 20) (i := 1) (x := at_) F dX_beginPresent_20 rfl rfl ?_
  refine aw_goVN (pc := 21) (As := [.int at_]) (rest := [.ref (ad 11)]) F zC_ok Zs 1 hC_at1 rfl (tG_operandOf  S P X at_ hS) ⟨va_cnB 1 F.1.2.2.2.2 (gi_0 wd_402) rfl rfl rfl (nw_m Zs nl_488) (F.1.2.2.2.2 _ (mw wd_65)) (by decide +kernel) ⟨by first | (simp only [aw_rm]; omega) | simp only [aw_rm] | omega, by first | (simp only [aw_rm]; omega) | simp only [aw_rm] | omega⟩, F.1.2.2.2.2 _ (mw wd_401), F.1.2.2.2.2 _ (mw wd_21)⟩ rfl (Nat.le_of_ble_eq_true rfl) ⟨Nat.zero_le _, Nat.zero_le _⟩ rfl dX_beginPresent_21 ?_
  show aW _ _ _ _ _ _ _ _ _ _ _ _ _ _ _ _ _ _ _ _ _ [.int (fp_operandOf P at_), .ref (ad 11)]
  refine aw_goV (pc := 24) (As := [.int (fp_operandOf P at_)]) (rest := []) F zC_ok Zs 11 hC_at11 rfl (tX_tested  S P X (fp_operandOf P at_)) (cwV 1 F.1.2.2.2.2 (gi_V wd_530 wd_532 wd_36 wd_66 wd_533) rfl rfl rfl (by decide +kernel) ⟨by first | (simp only [aw_rm]; omega) | simp only [aw_rm] | omega, by first | (simp only [aw_rm]; omega) | simp only [aw_rm] | omega⟩) rfl (Nat.le_of_ble_eq_true rfl) ⟨Nat.zero_le _, Nat.zero_le _⟩ rfl dX_beginPresent_24 ?_
  show aW _ _ _ _ _ _ _ _ _ _ _ _ _ _ _ _ _ _ _ _ _ [.int (fr_tested X (fp_operandOf P at_))]
  by_cases s_27_0 : (fr_tested X (fp_operandOf P at_)) = (0 : Int32)
  · refine aw_lookup (pc := 27) F 61 dX_beginPresent_27 (by decide) (off := 34) (by rw [s_27_0]; decide) (by decide) ?_
    refine aw_aload_n (pc := 61) (i := 0) (x := ad 11) F dX_beginPresent_61 rfl rfl ?_
    refine aw_iload (pc := 62) (i := 5) (x := (fp_secondOf P at_)) F dX_beginPresent_62 rfl ?_
    refine aw_iload_n (pc := 64) (i := 2) (x := rk) F dX_beginPresent_64 rfl rfl ?_
    refine aw_iload_n (pc := 65) (i := 3) (x := b) F dX_beginPresent_65 rfl rfl ?_
    refine aw_goV (pc := 66) (As := [.int (fp_secondOf P at_), .int rk, .int b]) (rest := []) F zC_ok Zs 11 hC_at11 rfl (HK X (fp_secondOf P at_) rk b hc2) (cwV 3 F.1.2.2.2.2 (gi_V wd_443 wd_445 wd_24 wd_66 wd_446) rfl rfl rfl (by decide +kernel) ⟨by first | (simp only [aw_rm]; omega) | simp only [aw_rm] | omega, by first | (simp only [aw_rm]; omega) | simp only [aw_rm] | omega⟩) rfl (Nat.le_of_ble_eq_true rfl) ⟨Nat.zero_le _, Nat.zero_le _⟩ rfl dX_beginPresent_66 ?_
    show aW _ _ _ _ _ _ _ _ _ _ _ _ _ _ _ _ _ _ _ _ _ [.long ((K X (fp_secondOf P at_) rk b).1)]
    exact aw_lret (pc := 69) F hr hlk dX_beginPresent_69 (by rw [fr_beginPresent, if_pos s_27_0]) (by rw [fr_beginPresent, if_pos s_27_0])
  by_cases s_27_1 : (fr_tested X (fp_operandOf P at_)) = (1 : Int32)
  · refine aw_lookup (pc := 27) F 52 dX_beginPresent_27 (by decide) (off := 25) (by rw [s_27_1]; decide) (by decide) ?_
    refine aw_aload_n (pc := 52) (i := 0) (x := ad 11) F dX_beginPresent_52 rfl rfl ?_
    refine aw_iload (pc := 53) (i := 4) (x := at_ + (1 : Int32)) F dX_beginPresent_53 rfl ?_
    refine aw_iload_n (pc := 55) (i := 2) (x := rk) F dX_beginPresent_55 rfl rfl ?_
    refine aw_iload_n (pc := 56) (i := 3) (x := b) F dX_beginPresent_56 rfl rfl ?_
    refine aw_goV (pc := 57) (As := [.int (at_ + (1 : Int32)), .int rk, .int b]) (rest := []) F zC_ok Zs 11 hC_at11 rfl (HK X (at_ + (1 : Int32)) rk b hc1) (cwV 3 F.1.2.2.2.2 (gi_V wd_443 wd_445 wd_24 wd_66 wd_446) rfl rfl rfl (by decide +kernel) ⟨by first | (simp only [aw_rm]; omega) | simp only [aw_rm] | omega, by first | (simp only [aw_rm]; omega) | simp only [aw_rm] | omega⟩) rfl (Nat.le_of_ble_eq_true rfl) ⟨Nat.zero_le _, Nat.zero_le _⟩ rfl dX_beginPresent_57 ?_
    show aW _ _ _ _ _ _ _ _ _ _ _ _ _ _ _ _ _ _ _ _ _ [.long ((K X (at_ + (1 : Int32)) rk b).1)]
    exact aw_lret (pc := 60) F hr hlk dX_beginPresent_60 (by rw [fr_beginPresent, if_neg s_27_0, if_pos s_27_1]) (by rw [fr_beginPresent, if_neg s_27_0, if_pos s_27_1])
  refine aw_lookup (pc := 27) F 70 dX_beginPresent_27 (by decide) (off := 43) (by show Op.lookupswitch.offset [(0, 34), (1, 25)] 43 _ = _; rw [lv_osw s_27_0 (by decide), lv_osw s_27_1 (by decide)]; rfl) (by decide) ?_
  refine aw_aload_n (pc := 70) (i := 0) (x := ad 11) F dX_beginPresent_70 rfl rfl ?_
  refine aw_iload (pc := 71) (i := 4) (x := at_ + (1 : Int32)) F dX_beginPresent_71 rfl ?_
  refine aw_iload_n (pc := 73) (i := 2) (x := rk) F dX_beginPresent_73 rfl rfl ?_
  refine aw_iconst (pc := 74) (v := 0) F dX_beginPresent_74 (by decide) ?_
  refine aw_goV (pc := 75) (As := [.int (at_ + (1 : Int32)), .int rk, .int (0 : Int32)]) (rest := []) F zC_ok Zs 11 hC_at11 rfl (HK X (at_ + (1 : Int32)) rk (0 : Int32) hc1) (cwV 3 F.1.2.2.2.2 (gi_V wd_443 wd_445 wd_24 wd_66 wd_446) rfl rfl rfl (by decide +kernel) ⟨by first | (simp only [aw_rm]; omega) | simp only [aw_rm] | omega, by first | (simp only [aw_rm]; omega) | simp only [aw_rm] | omega⟩) rfl (Nat.le_of_ble_eq_true rfl) ⟨Nat.zero_le _, Nat.zero_le _⟩ rfl dX_beginPresent_75 ?_
  show aW _ _ _ _ _ _ _ _ _ _ _ _ _ _ _ _ _ _ _ _ _ [.long ((K X (at_ + (1 : Int32)) rk (0 : Int32)).1)]
  refine aw_aload_n (pc := 78) (i := 0) (x := ad 11) F dX_beginPresent_78 rfl rfl ?_
  refine aw_iload (pc := 79) (i := 5) (x := (fp_secondOf P at_)) F dX_beginPresent_79 rfl ?_
  refine aw_iload_n (pc := 81) (i := 2) (x := rk) F dX_beginPresent_81 rfl rfl ?_
  refine aw_iconst (pc := 82) (v := 0) F dX_beginPresent_82 (by decide) ?_
  refine aw_goV (pc := 83) (As := [.int (fp_secondOf P at_), .int rk, .int (0 : Int32)]) (rest := [.long ((K X (at_ + (1 : Int32)) rk (0 : Int32)).1)]) F zC_ok Zs 11 hC_at11 rfl (HK ((K X (at_ + (1 : Int32)) rk (0 : Int32)).2) (fp_secondOf P at_) rk (0 : Int32) hc2) (cwV 3 F.1.2.2.2.2 (gi_V wd_443 wd_445 wd_24 wd_66 wd_446) rfl rfl rfl (by decide +kernel) ⟨by first | (simp only [aw_rm]; omega) | simp only [aw_rm] | omega, by first | (simp only [aw_rm]; omega) | simp only [aw_rm] | omega⟩) rfl (Nat.le_of_ble_eq_true rfl) ⟨Nat.zero_le _, Nat.zero_le _⟩ rfl dX_beginPresent_83 ?_
  show aW _ _ _ _ _ _ _ _ _ _ _ _ _ _ _ _ _ _ _ _ _ [.long ((K ((K X (at_ + (1 : Int32)) rk (0 : Int32)).2) (fp_secondOf P at_) rk (0 : Int32)).1), .long ((K X (at_ + (1 : Int32)) rk (0 : Int32)).1)]
  refine aw_lor (pc := 86) F dX_beginPresent_86 ?_
  exact aw_lret (pc := 87) F hr hlk dX_beginPresent_87 (by rw [fr_beginPresent, if_neg s_27_0, if_neg s_27_1]) (by rw [fr_beginPresent, if_neg s_27_0, if_neg s_27_1])
def fr_begin (K : krT) (P : pT) (X : xT) (at_ : Int32) (rk : Int32) (b : Int32) : Int64 × xT :=
  if (fp_sortOf P at_) = (1 : Int32) then ((fo_of (0 : Int32) (2 : Int32) b), (xw X 1 ((X.1 1) ||| (fp_pausesIn P at_))))
  else if (fp_sortOf P at_) = (2 : Int32) then ((fo_of ((1 : Int32) <<< ((fp_operandOf P at_) &&& 31)) (1 : Int32) b), X)
  else if (fp_sortOf P at_) = (3 : Int32) then ((fo_of (0 : Int32) (fc_ofExit (fp_operandOf P at_)) b), X)
  else if (fp_sortOf P at_) = (4 : Int32) then (((fr_beginPresent K P X at_ rk b).1), ((fr_beginPresent K P X at_ rk b).2))
  else if (fp_sortOf P at_) = (5 : Int32) then (((K X (at_ + (1 : Int32)) rk b).1), ((K X (at_ + (1 : Int32)) rk b).2))
  else if (fp_sortOf P at_) = (6 : Int32) then (((fr_andThen K ((K X (at_ + (1 : Int32)) rk b).2) ((K X (at_ + (1 : Int32)) rk b).1) (fp_secondOf P at_) rk).1), ((fr_andThen K ((K X (at_ + (1 : Int32)) rk b).2) ((K X (at_ + (1 : Int32)) rk b).1) (fp_secondOf P at_) rk).2))
  else if (fp_sortOf P at_) = (7 : Int32) then ((fo_inParallel ((K X (at_ + (1 : Int32)) rk b).1) ((K ((K X (at_ + (1 : Int32)) rk b).2) (fp_secondOf P at_) rk b).1)), ((K ((K X (at_ + (1 : Int32)) rk b).2) (fp_secondOf P at_) rk b).2))
  else if (fp_sortOf P at_) = (8 : Int32) then (((K X (at_ + (1 : Int32)) rk b).1), ((K X (at_ + (1 : Int32)) rk b).2))
  else ((fo_of (0 : Int32) (1 : Int32) b), X)
set_option maxRecDepth 100000 in
set_option maxHeartbeats 4000000 in
theorem tX_begin {l : Launch} {D : va_G} {A : Nat → Prop} {ad : Nat → Nat} {tP : Nat} {cI : ClassId} {tl : List va_E} {tyr : List (ClassId × FieldType)} {d : Nat} {K : krT} {Cn : Int32 → Prop} (S : kT) (P : pT) (X : xT) (at_ : Int32) (rk : Int32) (b : Int32) (hS : pS P) (hd : 6 ≤ d) (HK : ∀ (X : xT) (a r b : Int32), Cn a → aw_M l yX_run (Cond.code yX_run cX_run 4 (some .long) :: aw_big) d D vwCl ((cI, .int) :: tyr) A ad (zC A tP) [.ref (ad 11), .int a, .int r, .int b] (hC ad cI S P X ++ tl) (some (.long (K X a r b).1)) (hC ad cI S P (K X a r b).2 ++ tl)) (hc1 : 4 ≤ (fp_sortOf P at_).toInt → Cn (at_ + (1 : Int32))) (hc2 : 4 ≤ (fp_sortOf P at_).toInt → Cn (fp_secondOf P at_)) : aw_M l yX_begin (Cond.code yX_begin cX_begin 5 (some .long) :: aw_big) (d + 2) D vwCl ((cI, .int) :: tyr) A ad (zC A tP) [.ref (ad 11), .int at_, .int rk, .int b] (hC ad cI S P X ++ tl) (some (.long ((fr_begin K P X at_ rk b).1))) (hC ad cI S P ((fr_begin K P X at_ rk b).2) ++ tl) := by
  refine aw_met cX_begin 5 (some .long) [some (.ref (ad 11)), some (.int at_), some (.int rk), some (.int b), none] (by decide) rfl (Nat.le_of_ble_eq_true rfl) rfl ?_
  intro p e s m args below meth c F Zs hr hlk
  refine aw_aload_n (pc := 0) (i := 0) (x := ad 11) F dX_begin_0 rfl rfl ?_
  refine aw_get (pc := 1) (v := .ref (ad 1)) F 11 hC_at11 rfl 0 (by decide) (fun w h => mw (iw_X w h)) (mw wd_151) rfl dX_begin_1 ?_
  refine aw_iload_n (pc := 4) (i := 1) (x := at_) F dX_begin_4 rfl rfl ?_
  refine aw_goVN (pc := 5) (As := [.int at_]) (rest := []) F zC_ok Zs 1 hC_at1 rfl (tG_operandOf  S P X at_ hS) ⟨va_cnB 1 F.1.2.2.2.2 (gi_0 wd_402) rfl rfl rfl (nw_m Zs nl_488) (F.1.2.2.2.2 _ (mw wd_65)) (by decide +kernel) ⟨by first | (simp only [aw_rm]; omega) | simp only [aw_rm] | omega, by first | (simp only [aw_rm]; omega) | simp only [aw_rm] | omega⟩, F.1.2.2.2.2 _ (mw wd_401), F.1.2.2.2.2 _ (mw wd_21)⟩ rfl (Nat.le_of_ble_eq_true rfl) ⟨Nat.zero_le _, Nat.zero_le _⟩ rfl dX_begin_5 ?_
  show aW _ _ _ _ _ _ _ _ _ _ _ _ _ _ _ _ _ _ _ _ _ [.int (fp_operandOf P at_)]
  refine aw_istore (pc := 8) (i := 4) (L' := [some (.ref (ad 11)), some (.int at_), some (.int rk), some (.int b), some (.int (fp_operandOf P at_))]) F dX_begin_8 (by decide) rfl ?_
  refine aw_aload_n (pc := 10) (i := 0) (x := ad 11) F dX_begin_10 rfl rfl ?_
  refine aw_get (pc := 11) (v := .ref (ad 1)) F 11 hC_at11 rfl 0 (by decide) (fun w h => mw (iw_X w h)) (mw wd_151) rfl dX_begin_11 ?_
  refine aw_iload_n (pc := 14) (i := 1) (x := at_) F dX_begin_14 rfl rfl ?_
  refine aw_goVN (pc := 15) (As := [.int at_]) (rest := []) F zC_ok Zs 1 hC_at1 rfl (tG_sortOf  S P X at_ hS) ⟨va_cnB 1 F.1.2.2.2.2 (gi_0 wd_320) rfl rfl rfl (nw_m Zs nl_447) (F.1.2.2.2.2 _ (mw wd_65)) (by decide +kernel) ⟨by first | (simp only [aw_rm]; omega) | simp only [aw_rm] | omega, by first | (simp only [aw_rm]; omega) | simp only [aw_rm] | omega⟩, F.1.2.2.2.2 _ (mw wd_319), F.1.2.2.2.2 _ (mw wd_7)⟩ rfl (Nat.le_of_ble_eq_true rfl) ⟨Nat.zero_le _, Nat.zero_le _⟩ rfl dX_begin_15 ?_
  show aW _ _ _ _ _ _ _ _ _ _ _ _ _ _ _ _ _ _ _ _ _ [.int (fp_sortOf P at_)]
  by_cases s_18_1 : (fp_sortOf P at_) = (1 : Int32)
  · refine aw_tableIn (pc := 18) F 64 dX_begin_18 (by rw [s_18_1]; decide) (by rw [s_18_1]; decide) (off := 46) (by rw [s_18_1]; rfl) (by decide) ?_
    refine aw_aload_n (pc := 64) (i := 0) (x := ad 11) F dX_begin_64 rfl rfl ?_
    refine aw_dup (pc := 65) F dX_begin_65 rfl ?_
    refine aw_get (pc := 66) (v := .int (X.1 1)) F 11 hC_at11 rfl 3 (by decide) (fun w h => mw (iw_X w h)) (mw wd_155) rfl dX_begin_66 ?_
    refine aw_aload_n (pc := 69) (i := 0) (x := ad 11) F dX_begin_69 rfl rfl ?_
    refine aw_get (pc := 70) (v := .ref (ad 1)) F 11 hC_at11 rfl 0 (by decide) (fun w h => mw (iw_X w h)) (mw wd_151) rfl dX_begin_70 ?_
    refine aw_iload_n (pc := 73) (i := 1) (x := at_) F dX_begin_73 rfl rfl ?_
    refine aw_goVN (pc := 74) (As := [.int at_]) (rest := [.int (X.1 1), .ref (ad 11)]) F zC_ok Zs 1 hC_at1 rfl (tG_pausesIn  S P X at_ hS) ⟨va_cnB 1 F.1.2.2.2.2 (gi_0 wd_461) rfl rfl rfl (nw_m Zs nl_458) (F.1.2.2.2.2 _ (mw wd_65)) (by decide +kernel) ⟨by first | (simp only [aw_rm]; omega) | simp only [aw_rm] | omega, by first | (simp only [aw_rm]; omega) | simp only [aw_rm] | omega⟩, F.1.2.2.2.2 _ (mw wd_460), F.1.2.2.2.2 _ (mw wd_26)⟩ rfl (Nat.le_of_ble_eq_true rfl) ⟨Nat.zero_le _, Nat.zero_le _⟩ rfl dX_begin_74 ?_
    show aW _ _ _ _ _ _ _ _ _ _ _ _ _ _ _ _ _ _ _ _ _ [.int (fp_pausesIn P at_), .int (X.1 1), .ref (ad 11)]
    refine aw_ior (pc := 77) F dX_begin_77 ?_
    refine aw_put (pc := 78) (hp' := (hC ad cI S P (xw X 1 ((X.1 1) ||| (fp_pausesIn P at_))) ++ tl)) F 11 hC_at11 rfl 3 (by decide) (fun w h => mw (iw_X w h)) tyX tyX_ok nmX (mw wd_155) (ty := .int) rfl (by decide +kernel) rfl rfl (Nat.le_of_ble_eq_true rfl) hC_st11_3 dX_begin_78 ?_
    refine aw_iconst (pc := 81) (v := 0) F dX_begin_81 (by decide) ?_
    refine aw_iconst (pc := 82) (v := 2) F dX_begin_82 (by decide) ?_
    refine aw_iload_n (pc := 83) (i := 3) (x := b) F dX_begin_83 rfl rfl ?_
    refine aw_goSN (pc := 84) (As := [.int (0 : Int32), .int (2 : Int32), .int b]) (rest := []) F zC_ok Zs (tO_of  S P (xw X 1 ((X.1 1) ||| (fp_pausesIn P at_))) (0 : Int32) (2 : Int32) b) ⟨va_cnB 3 F.1.2.2.2.2 (gi_0 wd_540) rfl rfl rfl (nw_m Zs nl_538) (F.1.2.2.2.2 _ (mw wd_75)) (by decide +kernel) ⟨by first | (simp only [aw_rm]; omega) | simp only [aw_rm] | omega, by first | (simp only [aw_rm]; omega) | simp only [aw_rm] | omega⟩, F.1.2.2.2.2 _ (mw wd_539), trivial⟩ rfl (Nat.le_of_ble_eq_true rfl) ⟨Nat.zero_le _, Nat.zero_le _⟩ rfl dX_begin_84 ?_
    show aW _ _ _ _ _ _ _ _ _ _ _ _ _ _ _ _ _ _ _ _ _ [.long (fo_of (0 : Int32) (2 : Int32) b)]
    exact aw_lret (pc := 87) F hr hlk dX_begin_87 (by rw [fr_begin, if_pos s_18_1]) (by rw [fr_begin, if_pos s_18_1])
  by_cases s_18_2 : (fp_sortOf P at_) = (2 : Int32)
  · refine aw_tableIn (pc := 18) F 88 dX_begin_18 (by rw [s_18_2]; decide) (by rw [s_18_2]; decide) (off := 70) (by rw [s_18_2]; rfl) (by decide) ?_
    refine aw_iconst (pc := 88) (v := 1) F dX_begin_88 (by decide) ?_
    refine aw_iload (pc := 89) (i := 4) (x := (fp_operandOf P at_)) F dX_begin_89 rfl ?_
    refine aw_ishl (pc := 91) F dX_begin_91 ?_
    refine aw_iconst (pc := 92) (v := 1) F dX_begin_92 (by decide) ?_
    refine aw_iload_n (pc := 93) (i := 3) (x := b) F dX_begin_93 rfl rfl ?_
    refine aw_goSN (pc := 94) (As := [.int ((1 : Int32) <<< ((fp_operandOf P at_) &&& 31)), .int (1 : Int32), .int b]) (rest := []) F zC_ok Zs (tO_of  S P X ((1 : Int32) <<< ((fp_operandOf P at_) &&& 31)) (1 : Int32) b) ⟨va_cnB 3 F.1.2.2.2.2 (gi_0 wd_540) rfl rfl rfl (nw_m Zs nl_538) (F.1.2.2.2.2 _ (mw wd_75)) (by decide +kernel) ⟨by first | (simp only [aw_rm]; omega) | simp only [aw_rm] | omega, by first | (simp only [aw_rm]; omega) | simp only [aw_rm] | omega⟩, F.1.2.2.2.2 _ (mw wd_539), trivial⟩ rfl (Nat.le_of_ble_eq_true rfl) ⟨Nat.zero_le _, Nat.zero_le _⟩ rfl dX_begin_94 ?_
    show aW _ _ _ _ _ _ _ _ _ _ _ _ _ _ _ _ _ _ _ _ _ [.long (fo_of ((1 : Int32) <<< ((fp_operandOf P at_) &&& 31)) (1 : Int32) b)]
    exact aw_lret (pc := 97) F hr hlk dX_begin_97 (by rw [fr_begin, if_neg s_18_1, if_pos s_18_2]) (by rw [fr_begin, if_neg s_18_1, if_pos s_18_2])
  by_cases s_18_3 : (fp_sortOf P at_) = (3 : Int32)
  · refine aw_tableIn (pc := 18) F 98 dX_begin_18 (by rw [s_18_3]; decide) (by rw [s_18_3]; decide) (off := 80) (by rw [s_18_3]; rfl) (by decide) ?_
    refine aw_iconst (pc := 98) (v := 0) F dX_begin_98 (by decide) ?_
    refine aw_iload (pc := 99) (i := 4) (x := (fp_operandOf P at_)) F dX_begin_99 rfl ?_
    refine aw_goSN (pc := 101) (As := [.int (fp_operandOf P at_)]) (rest := [.int (0 : Int32)]) F zC_ok Zs (tC_ofExit  S P X (fp_operandOf P at_)) ⟨va_cnB 1 F.1.2.2.2.2 (gi_0 wd_405) rfl rfl rfl (nw_m Zs nl_573) (F.1.2.2.2.2 _ (mw wd_73)) (by decide +kernel) ⟨by first | (simp only [aw_rm]; omega) | simp only [aw_rm] | omega, by first | (simp only [aw_rm]; omega) | simp only [aw_rm] | omega⟩, F.1.2.2.2.2 _ (mw wd_404), trivial⟩ rfl (Nat.le_of_ble_eq_true rfl) ⟨Nat.zero_le _, Nat.zero_le _⟩ rfl dX_begin_101 ?_
    show aW _ _ _ _ _ _ _ _ _ _ _ _ _ _ _ _ _ _ _ _ _ [.int (fc_ofExit (fp_operandOf P at_)), .int (0 : Int32)]
    refine aw_iload_n (pc := 104) (i := 3) (x := b) F dX_begin_104 rfl rfl ?_
    refine aw_goSN (pc := 105) (As := [.int (0 : Int32), .int (fc_ofExit (fp_operandOf P at_)), .int b]) (rest := []) F zC_ok Zs (tO_of  S P X (0 : Int32) (fc_ofExit (fp_operandOf P at_)) b) ⟨va_cnB 3 F.1.2.2.2.2 (gi_0 wd_540) rfl rfl rfl (nw_m Zs nl_538) (F.1.2.2.2.2 _ (mw wd_75)) (by decide +kernel) ⟨by first | (simp only [aw_rm]; omega) | simp only [aw_rm] | omega, by first | (simp only [aw_rm]; omega) | simp only [aw_rm] | omega⟩, F.1.2.2.2.2 _ (mw wd_539), trivial⟩ rfl (Nat.le_of_ble_eq_true rfl) ⟨Nat.zero_le _, Nat.zero_le _⟩ rfl dX_begin_105 ?_
    show aW _ _ _ _ _ _ _ _ _ _ _ _ _ _ _ _ _ _ _ _ _ [.long (fo_of (0 : Int32) (fc_ofExit (fp_operandOf P at_)) b)]
    exact aw_lret (pc := 108) F hr hlk dX_begin_108 (by rw [fr_begin, if_neg s_18_1, if_neg s_18_2, if_pos s_18_3]) (by rw [fr_begin, if_neg s_18_1, if_neg s_18_2, if_pos s_18_3])
  by_cases s_18_4 : (fp_sortOf P at_) = (4 : Int32)
  · refine aw_tableIn (pc := 18) F 109 dX_begin_18 (by rw [s_18_4]; decide) (by rw [s_18_4]; decide) (off := 91) (by rw [s_18_4]; rfl) (by decide) ?_
    refine aw_aload_n (pc := 109) (i := 0) (x := ad 11) F dX_begin_109 rfl rfl ?_
    refine aw_iload_n (pc := 110) (i := 1) (x := at_) F dX_begin_110 rfl rfl ?_
    refine aw_iload_n (pc := 111) (i := 2) (x := rk) F dX_begin_111 rfl rfl ?_
    refine aw_iload_n (pc := 112) (i := 3) (x := b) F dX_begin_112 rfl rfl ?_
    refine aw_goV (pc := 113) (As := [.int at_, .int rk, .int b]) (rest := []) F zC_ok Zs 11 hC_at11 rfl (tX_beginPresent  S P X at_ rk b hS hd HK (hc1 (by rw [s_18_4]; decide)) (hc2 (by rw [s_18_4]; decide))) (cwV 3 F.1.2.2.2.2 (gi_V wd_574 wd_576 wd_40 wd_66 wd_577) rfl rfl rfl (by decide +kernel) ⟨by first | (simp only [aw_rm]; omega) | simp only [aw_rm] | omega, by first | (simp only [aw_rm]; omega) | simp only [aw_rm] | omega⟩) rfl (Nat.le_of_ble_eq_true rfl) ⟨Nat.zero_le _, Nat.zero_le _⟩ rfl dX_begin_113 ?_
    show aW _ _ _ _ _ _ _ _ _ _ _ _ _ _ _ _ _ _ _ _ _ [.long ((fr_beginPresent K P X at_ rk b).1)]
    exact aw_lret (pc := 116) F hr hlk dX_begin_116 (by rw [fr_begin, if_neg s_18_1, if_neg s_18_2, if_neg s_18_3, if_pos s_18_4]) (by rw [fr_begin, if_neg s_18_1, if_neg s_18_2, if_neg s_18_3, if_pos s_18_4])
  by_cases s_18_5 : (fp_sortOf P at_) = (5 : Int32)
  · refine aw_tableIn (pc := 18) F 117 dX_begin_18 (by rw [s_18_5]; decide) (by rw [s_18_5]; decide) (off := 99) (by rw [s_18_5]; rfl) (by decide) ?_
    refine aw_aload_n (pc := 117) (i := 0) (x := ad 11) F dX_begin_117 rfl rfl ?_
    refine aw_iload_n (pc := 118) (i := 1) (x := at_) F dX_begin_118 rfl rfl ?_
    refine aw_iconst (pc := 119) (v := 1) F dX_begin_119 (by decide) ?_
    refine aw_iadd (pc := 120) F dX_begin_120 ?_
    refine aw_iload_n (pc := 121) (i := 2) (x := rk) F dX_begin_121 rfl rfl ?_
    refine aw_iload_n (pc := 122) (i := 3) (x := b) F dX_begin_122 rfl rfl ?_
    refine aw_goV (pc := 123) (As := [.int (at_ + (1 : Int32)), .int rk, .int b]) (rest := []) F zC_ok Zs 11 hC_at11 rfl (HK X (at_ + (1 : Int32)) rk b (hc1 (by rw [s_18_5]; decide))) (cwV 3 F.1.2.2.2.2 (gi_V wd_443 wd_445 wd_24 wd_66 wd_446) rfl rfl rfl (by decide +kernel) ⟨by first | (simp only [aw_rm]; omega) | simp only [aw_rm] | omega, by first | (simp only [aw_rm]; omega) | simp only [aw_rm] | omega⟩) rfl (Nat.le_of_ble_eq_true rfl) ⟨Nat.zero_le _, Nat.zero_le _⟩ rfl dX_begin_123 ?_
    show aW _ _ _ _ _ _ _ _ _ _ _ _ _ _ _ _ _ _ _ _ _ [.long ((K X (at_ + (1 : Int32)) rk b).1)]
    exact aw_lret (pc := 126) F hr hlk dX_begin_126 (by rw [fr_begin, if_neg s_18_1, if_neg s_18_2, if_neg s_18_3, if_neg s_18_4, if_pos s_18_5]) (by rw [fr_begin, if_neg s_18_1, if_neg s_18_2, if_neg s_18_3, if_neg s_18_4, if_pos s_18_5])
  by_cases s_18_6 : (fp_sortOf P at_) = (6 : Int32)
  · refine aw_tableIn (pc := 18) F 127 dX_begin_18 (by rw [s_18_6]; decide) (by rw [s_18_6]; decide) (off := 109) (by rw [s_18_6]; rfl) (by decide) ?_
    refine aw_aload_n (pc := 127) (i := 0) (x := ad 11) F dX_begin_127 rfl rfl ?_
    refine aw_aload_n (pc := 128) (i := 0) (x := ad 11) F dX_begin_128 rfl rfl ?_
    refine aw_iload_n (pc := 129) (i := 1) (x := at_) F dX_begin_129 rfl rfl ?_
    refine aw_iconst (pc := 130) (v := 1) F dX_begin_130 (by decide) ?_
    refine aw_iadd (pc := 131) F dX_begin_131 ?_
    refine aw_iload_n (pc := 132) (i := 2) (x := rk) F dX_begin_132 rfl rfl ?_
    refine aw_iload_n (pc := 133) (i := 3) (x := b) F dX_begin_133 rfl rfl ?_
    refine aw_goV (pc := 134) (As := [.int (at_ + (1 : Int32)), .int rk, .int b]) (rest := [.ref (ad 11)]) F zC_ok Zs 11 hC_at11 rfl (HK X (at_ + (1 : Int32)) rk b (hc1 (by rw [s_18_6]; decide))) (cwV 3 F.1.2.2.2.2 (gi_V wd_443 wd_445 wd_24 wd_66 wd_446) rfl rfl rfl (by decide +kernel) ⟨by first | (simp only [aw_rm]; omega) | simp only [aw_rm] | omega, by first | (simp only [aw_rm]; omega) | simp only [aw_rm] | omega⟩) rfl (Nat.le_of_ble_eq_true rfl) ⟨Nat.zero_le _, Nat.zero_le _⟩ rfl dX_begin_134 ?_
    show aW _ _ _ _ _ _ _ _ _ _ _ _ _ _ _ _ _ _ _ _ _ [.long ((K X (at_ + (1 : Int32)) rk b).1), .ref (ad 11)]
    refine aw_aload_n (pc := 137) (i := 0) (x := ad 11) F dX_begin_137 rfl rfl ?_
    refine aw_get (pc := 138) (v := .ref (ad 1)) F 11 hC_at11 rfl 0 (by decide) (fun w h => mw (iw_X w h)) (mw wd_151) rfl dX_begin_138 ?_
    refine aw_iload_n (pc := 141) (i := 1) (x := at_) F dX_begin_141 rfl rfl ?_
    refine aw_goVN (pc := 142) (As := [.int at_]) (rest := [.long ((K X (at_ + (1 : Int32)) rk b).1), .ref (ad 11)]) F zC_ok Zs 1 hC_at1 rfl (tG_secondOf  S P ((K X (at_ + (1 : Int32)) rk b).2) at_ hS) ⟨va_cnB 1 F.1.2.2.2.2 (gi_0 wd_398) rfl rfl rfl (nw_m Zs nl_521) (F.1.2.2.2.2 _ (mw wd_65)) (by decide +kernel) ⟨by first | (simp only [aw_rm]; omega) | simp only [aw_rm] | omega, by first | (simp only [aw_rm]; omega) | simp only [aw_rm] | omega⟩, F.1.2.2.2.2 _ (mw wd_397), F.1.2.2.2.2 _ (mw wd_20)⟩ rfl (Nat.le_of_ble_eq_true rfl) ⟨Nat.zero_le _, Nat.zero_le _⟩ rfl dX_begin_142 ?_
    show aW _ _ _ _ _ _ _ _ _ _ _ _ _ _ _ _ _ _ _ _ _ [.int (fp_secondOf P at_), .long ((K X (at_ + (1 : Int32)) rk b).1), .ref (ad 11)]
    refine aw_iload_n (pc := 145) (i := 2) (x := rk) F dX_begin_145 rfl rfl ?_
    refine aw_goV (pc := 146) (As := [.long ((K X (at_ + (1 : Int32)) rk b).1), .int (fp_secondOf P at_), .int rk]) (rest := []) F zC_ok Zs 11 hC_at11 rfl (tX_andThen  S P ((K X (at_ + (1 : Int32)) rk b).2) ((K X (at_ + (1 : Int32)) rk b).1) (fp_secondOf P at_) rk hd HK (hc2 (by rw [s_18_6]; decide))) (cwV 3 F.1.2.2.2.2 (gi_V wd_542 wd_544 wd_37 wd_66 wd_545) rfl rfl rfl (by decide +kernel) ⟨by first | (simp only [aw_rm]; omega) | simp only [aw_rm] | omega, by first | (simp only [aw_rm]; omega) | simp only [aw_rm] | omega⟩) rfl (Nat.le_of_ble_eq_true rfl) ⟨Nat.zero_le _, Nat.zero_le _⟩ rfl dX_begin_146 ?_
    show aW _ _ _ _ _ _ _ _ _ _ _ _ _ _ _ _ _ _ _ _ _ [.long ((fr_andThen K ((K X (at_ + (1 : Int32)) rk b).2) ((K X (at_ + (1 : Int32)) rk b).1) (fp_secondOf P at_) rk).1)]
    exact aw_lret (pc := 149) F hr hlk dX_begin_149 (by rw [fr_begin, if_neg s_18_1, if_neg s_18_2, if_neg s_18_3, if_neg s_18_4, if_neg s_18_5, if_pos s_18_6]) (by rw [fr_begin, if_neg s_18_1, if_neg s_18_2, if_neg s_18_3, if_neg s_18_4, if_neg s_18_5, if_pos s_18_6])
  by_cases s_18_7 : (fp_sortOf P at_) = (7 : Int32)
  · refine aw_tableIn (pc := 18) F 150 dX_begin_18 (by rw [s_18_7]; decide) (by rw [s_18_7]; decide) (off := 132) (by rw [s_18_7]; rfl) (by decide) ?_
    refine aw_aload_n (pc := 150) (i := 0) (x := ad 11) F dX_begin_150 rfl rfl ?_
    refine aw_iload_n (pc := 151) (i := 1) (x := at_) F dX_begin_151 rfl rfl ?_
    refine aw_iconst (pc := 152) (v := 1) F dX_begin_152 (by decide) ?_
    refine aw_iadd (pc := 153) F dX_begin_153 ?_
    refine aw_iload_n (pc := 154) (i := 2) (x := rk) F dX_begin_154 rfl rfl ?_
    refine aw_iload_n (pc := 155) (i := 3) (x := b) F dX_begin_155 rfl rfl ?_
    refine aw_goV (pc := 156) (As := [.int (at_ + (1 : Int32)), .int rk, .int b]) (rest := []) F zC_ok Zs 11 hC_at11 rfl (HK X (at_ + (1 : Int32)) rk b (hc1 (by rw [s_18_7]; decide))) (cwV 3 F.1.2.2.2.2 (gi_V wd_443 wd_445 wd_24 wd_66 wd_446) rfl rfl rfl (by decide +kernel) ⟨by first | (simp only [aw_rm]; omega) | simp only [aw_rm] | omega, by first | (simp only [aw_rm]; omega) | simp only [aw_rm] | omega⟩) rfl (Nat.le_of_ble_eq_true rfl) ⟨Nat.zero_le _, Nat.zero_le _⟩ rfl dX_begin_156 ?_
    show aW _ _ _ _ _ _ _ _ _ _ _ _ _ _ _ _ _ _ _ _ _ [.long ((K X (at_ + (1 : Int32)) rk b).1)]
    refine aw_aload_n (pc := 159) (i := 0) (x := ad 11) F dX_begin_159 rfl rfl ?_
    refine aw_aload_n (pc := 160) (i := 0) (x := ad 11) F dX_begin_160 rfl rfl ?_
    refine aw_get (pc := 161) (v := .ref (ad 1)) F 11 hC_at11 rfl 0 (by decide) (fun w h => mw (iw_X w h)) (mw wd_151) rfl dX_begin_161 ?_
    refine aw_iload_n (pc := 164) (i := 1) (x := at_) F dX_begin_164 rfl rfl ?_
    refine aw_goVN (pc := 165) (As := [.int at_]) (rest := [.ref (ad 11), .long ((K X (at_ + (1 : Int32)) rk b).1)]) F zC_ok Zs 1 hC_at1 rfl (tG_secondOf  S P ((K X (at_ + (1 : Int32)) rk b).2) at_ hS) ⟨va_cnB 1 F.1.2.2.2.2 (gi_0 wd_398) rfl rfl rfl (nw_m Zs nl_521) (F.1.2.2.2.2 _ (mw wd_65)) (by decide +kernel) ⟨by first | (simp only [aw_rm]; omega) | simp only [aw_rm] | omega, by first | (simp only [aw_rm]; omega) | simp only [aw_rm] | omega⟩, F.1.2.2.2.2 _ (mw wd_397), F.1.2.2.2.2 _ (mw wd_20)⟩ rfl (Nat.le_of_ble_eq_true rfl) ⟨Nat.zero_le _, Nat.zero_le _⟩ rfl dX_begin_165 ?_
    show aW _ _ _ _ _ _ _ _ _ _ _ _ _ _ _ _ _ _ _ _ _ [.int (fp_secondOf P at_), .ref (ad 11), .long ((K X (at_ + (1 : Int32)) rk b).1)]
    refine aw_iload_n (pc := 168) (i := 2) (x := rk) F dX_begin_168 rfl rfl ?_
    refine aw_iload_n (pc := 169) (i := 3) (x := b) F dX_begin_169 rfl rfl ?_
    refine aw_goV (pc := 170) (As := [.int (fp_secondOf P at_), .int rk, .int b]) (rest := [.long ((K X (at_ + (1 : Int32)) rk b).1)]) F zC_ok Zs 11 hC_at11 rfl (HK ((K X (at_ + (1 : Int32)) rk b).2) (fp_secondOf P at_) rk b (hc2 (by rw [s_18_7]; decide))) (cwV 3 F.1.2.2.2.2 (gi_V wd_443 wd_445 wd_24 wd_66 wd_446) rfl rfl rfl (by decide +kernel) ⟨by first | (simp only [aw_rm]; omega) | simp only [aw_rm] | omega, by first | (simp only [aw_rm]; omega) | simp only [aw_rm] | omega⟩) rfl (Nat.le_of_ble_eq_true rfl) ⟨Nat.zero_le _, Nat.zero_le _⟩ rfl dX_begin_170 ?_
    show aW _ _ _ _ _ _ _ _ _ _ _ _ _ _ _ _ _ _ _ _ _ [.long ((K ((K X (at_ + (1 : Int32)) rk b).2) (fp_secondOf P at_) rk b).1), .long ((K X (at_ + (1 : Int32)) rk b).1)]
    refine aw_goSN (pc := 173) (As := [.long ((K X (at_ + (1 : Int32)) rk b).1), .long ((K ((K X (at_ + (1 : Int32)) rk b).2) (fp_secondOf P at_) rk b).1)]) (rest := []) F zC_ok Zs (tO_inParallel  S P ((K ((K X (at_ + (1 : Int32)) rk b).2) (fp_secondOf P at_) rk b).2) ((K X (at_ + (1 : Int32)) rk b).1) ((K ((K X (at_ + (1 : Int32)) rk b).2) (fp_secondOf P at_) rk b).1)) ⟨va_cnB 2 F.1.2.2.2.2 (gi_0 wd_564) rfl rfl rfl (nw_m Zs nl_562) (F.1.2.2.2.2 _ (mw wd_75)) (by decide +kernel) ⟨by first | (simp only [aw_rm]; omega) | simp only [aw_rm] | omega, by first | (simp only [aw_rm]; omega) | simp only [aw_rm] | omega⟩, F.1.2.2.2.2 _ (mw wd_563), trivial⟩ rfl (Nat.le_of_ble_eq_true rfl) ⟨Nat.zero_le _, Nat.zero_le _⟩ rfl dX_begin_173 ?_
    show aW _ _ _ _ _ _ _ _ _ _ _ _ _ _ _ _ _ _ _ _ _ [.long (fo_inParallel ((K X (at_ + (1 : Int32)) rk b).1) ((K ((K X (at_ + (1 : Int32)) rk b).2) (fp_secondOf P at_) rk b).1))]
    exact aw_lret (pc := 176) F hr hlk dX_begin_176 (by rw [fr_begin, if_neg s_18_1, if_neg s_18_2, if_neg s_18_3, if_neg s_18_4, if_neg s_18_5, if_neg s_18_6, if_pos s_18_7]) (by rw [fr_begin, if_neg s_18_1, if_neg s_18_2, if_neg s_18_3, if_neg s_18_4, if_neg s_18_5, if_neg s_18_6, if_pos s_18_7])
  by_cases s_18_8 : (fp_sortOf P at_) = (8 : Int32)
  · refine aw_tableIn (pc := 18) F 117 dX_begin_18 (by rw [s_18_8]; decide) (by rw [s_18_8]; decide) (off := 99) (by rw [s_18_8]; rfl) (by decide) ?_
    refine aw_aload_n (pc := 117) (i := 0) (x := ad 11) F dX_begin_117 rfl rfl ?_
    refine aw_iload_n (pc := 118) (i := 1) (x := at_) F dX_begin_118 rfl rfl ?_
    refine aw_iconst (pc := 119) (v := 1) F dX_begin_119 (by decide) ?_
    refine aw_iadd (pc := 120) F dX_begin_120 ?_
    refine aw_iload_n (pc := 121) (i := 2) (x := rk) F dX_begin_121 rfl rfl ?_
    refine aw_iload_n (pc := 122) (i := 3) (x := b) F dX_begin_122 rfl rfl ?_
    refine aw_goV (pc := 123) (As := [.int (at_ + (1 : Int32)), .int rk, .int b]) (rest := []) F zC_ok Zs 11 hC_at11 rfl (HK X (at_ + (1 : Int32)) rk b (hc1 (by rw [s_18_8]; decide))) (cwV 3 F.1.2.2.2.2 (gi_V wd_443 wd_445 wd_24 wd_66 wd_446) rfl rfl rfl (by decide +kernel) ⟨by first | (simp only [aw_rm]; omega) | simp only [aw_rm] | omega, by first | (simp only [aw_rm]; omega) | simp only [aw_rm] | omega⟩) rfl (Nat.le_of_ble_eq_true rfl) ⟨Nat.zero_le _, Nat.zero_le _⟩ rfl dX_begin_123 ?_
    show aW _ _ _ _ _ _ _ _ _ _ _ _ _ _ _ _ _ _ _ _ _ [.long ((K X (at_ + (1 : Int32)) rk b).1)]
    exact aw_lret (pc := 126) F hr hlk dX_begin_126 (by rw [fr_begin, if_neg s_18_1, if_neg s_18_2, if_neg s_18_3, if_neg s_18_4, if_neg s_18_5, if_neg s_18_6, if_neg s_18_7, if_pos s_18_8]) (by rw [fr_begin, if_neg s_18_1, if_neg s_18_2, if_neg s_18_3, if_neg s_18_4, if_neg s_18_5, if_neg s_18_6, if_neg s_18_7, if_pos s_18_8])
  refine aw_tableOut (pc := 18) F 177 dX_begin_18 (by have := aw_ne s_18_1 (a := 1) (by decide); have := aw_ne s_18_2 (a := 2) (by decide); have := aw_ne s_18_3 (a := 3) (by decide); have := aw_ne s_18_4 (a := 4) (by decide); have := aw_ne s_18_5 (a := 5) (by decide); have := aw_ne s_18_6 (a := 6) (by decide); have := aw_ne s_18_7 (a := 7) (by decide); have := aw_ne s_18_8 (a := 8) (by decide); omega) (by decide) ?_
  refine aw_iconst (pc := 177) (v := 0) F dX_begin_177 (by decide) ?_
  refine aw_iconst (pc := 178) (v := 1) F dX_begin_178 (by decide) ?_
  refine aw_iload_n (pc := 179) (i := 3) (x := b) F dX_begin_179 rfl rfl ?_
  refine aw_goSN (pc := 180) (As := [.int (0 : Int32), .int (1 : Int32), .int b]) (rest := []) F zC_ok Zs (tO_of  S P X (0 : Int32) (1 : Int32) b) ⟨va_cnB 3 F.1.2.2.2.2 (gi_0 wd_540) rfl rfl rfl (nw_m Zs nl_538) (F.1.2.2.2.2 _ (mw wd_75)) (by decide +kernel) ⟨by first | (simp only [aw_rm]; omega) | simp only [aw_rm] | omega, by first | (simp only [aw_rm]; omega) | simp only [aw_rm] | omega⟩, F.1.2.2.2.2 _ (mw wd_539), trivial⟩ rfl (Nat.le_of_ble_eq_true rfl) ⟨Nat.zero_le _, Nat.zero_le _⟩ rfl dX_begin_180 ?_
  show aW _ _ _ _ _ _ _ _ _ _ _ _ _ _ _ _ _ _ _ _ _ [.long (fo_of (0 : Int32) (1 : Int32) b)]
  exact aw_lret (pc := 183) F hr hlk dX_begin_183 (by rw [fr_begin, if_neg s_18_1, if_neg s_18_2, if_neg s_18_3, if_neg s_18_4, if_neg s_18_5, if_neg s_18_6, if_neg s_18_7, if_neg s_18_8]) (by rw [fr_begin, if_neg s_18_1, if_neg s_18_2, if_neg s_18_3, if_neg s_18_4, if_neg s_18_5, if_neg s_18_6, if_neg s_18_7, if_neg s_18_8])
def fr_resumeBranch (K : krT) (P : pT) (X : xT) (at_ : Int32) (b : Int32) : Int64 × xT :=
  if (fr_isSelectedIn P X at_) = 0 then
    ((fo_of (0 : Int32) (1 : Int32) b), X)
  else
    (((K X at_ (0 : Int32) b).1), ((K X at_ (0 : Int32) b).2))
set_option maxRecDepth 100000 in
set_option maxHeartbeats 4000000 in
theorem tX_resumeBranch {l : Launch} {D : va_G} {A : Nat → Prop} {ad : Nat → Nat} {tP : Nat} {cI : ClassId} {tl : List va_E} {tyr : List (ClassId × FieldType)} {d : Nat} {K : krT} {Cn : Int32 → Prop} (S : kT) (P : pT) (X : xT) (at_ : Int32) (b : Int32) (hS : pS P) (hd : 6 ≤ d) (HK : ∀ (X : xT) (a r b : Int32), Cn a → aw_M l yX_run (Cond.code yX_run cX_run 4 (some .long) :: aw_big) d D vwCl ((cI, .int) :: tyr) A ad (zC A tP) [.ref (ad 11), .int a, .int r, .int b] (hC ad cI S P X ++ tl) (some (.long (K X a r b).1)) (hC ad cI S P (K X a r b).2 ++ tl)) (hc1 : Cn at_) : aw_M l yX_resumeBranch (Cond.code yX_resumeBranch cX_resumeBranch 3 (some .long) :: aw_big) (d + 1) D vwCl ((cI, .int) :: tyr) A ad (zC A tP) [.ref (ad 11), .int at_, .int b] (hC ad cI S P X ++ tl) (some (.long ((fr_resumeBranch K P X at_ b).1))) (hC ad cI S P ((fr_resumeBranch K P X at_ b).2) ++ tl) := by
  refine aw_met cX_resumeBranch 3 (some .long) [some (.ref (ad 11)), some (.int at_), some (.int b)] (by decide) rfl (Nat.le_of_ble_eq_true rfl) rfl ?_
  intro p e s m args below meth c F Zs hr hlk
  refine aw_aload_n (pc := 0) (i := 0) (x := ad 11) F dX_resumeBranch_0 rfl rfl ?_
  refine aw_iload_n (pc := 1) (i := 1) (x := at_) F dX_resumeBranch_1 rfl rfl ?_
  refine aw_goV (pc := 2) (As := [.int at_]) (rest := []) F zC_ok Zs 11 hC_at11 rfl (tX_isSelectedIn  S P X at_ hS) (cwV 1 F.1.2.2.2.2 (gi_V wd_522 wd_524 wd_34 wd_66 wd_525) rfl rfl rfl (by decide +kernel) ⟨by first | (simp only [aw_rm]; omega) | simp only [aw_rm] | omega, by first | (simp only [aw_rm]; omega) | simp only [aw_rm] | omega⟩) rfl (Nat.le_of_ble_eq_true rfl) ⟨Nat.zero_le _, Nat.zero_le _⟩ rfl dX_resumeBranch_2 ?_
  show aW _ _ _ _ _ _ _ _ _ _ _ _ _ _ _ _ _ _ _ _ _ [.int (fr_isSelectedIn P X at_)]
  refine aw_if_eq (pc := 5) F 18 dX_resumeBranch_5 (by decide) (fun c_5 => ?_) (fun c_5 => ?_)
  · skip
    refine aw_iconst (pc := 18) (v := 0) F dX_resumeBranch_18 (by decide) ?_
    refine aw_iconst (pc := 19) (v := 1) F dX_resumeBranch_19 (by decide) ?_
    refine aw_iload_n (pc := 20) (i := 2) (x := b) F dX_resumeBranch_20 rfl rfl ?_
    refine aw_goSN (pc := 21) (As := [.int (0 : Int32), .int (1 : Int32), .int b]) (rest := []) F zC_ok Zs (tO_of  S P X (0 : Int32) (1 : Int32) b) ⟨va_cnB 3 F.1.2.2.2.2 (gi_0 wd_540) rfl rfl rfl (nw_m Zs nl_538) (F.1.2.2.2.2 _ (mw wd_75)) (by decide +kernel) ⟨by first | (simp only [aw_rm]; omega) | simp only [aw_rm] | omega, by first | (simp only [aw_rm]; omega) | simp only [aw_rm] | omega⟩, F.1.2.2.2.2 _ (mw wd_539), trivial⟩ rfl (Nat.le_of_ble_eq_true rfl) ⟨Nat.zero_le _, Nat.zero_le _⟩ rfl dX_resumeBranch_21 ?_
    show aW _ _ _ _ _ _ _ _ _ _ _ _ _ _ _ _ _ _ _ _ _ [.long (fo_of (0 : Int32) (1 : Int32) b)]
    exact aw_lret (pc := 24) F hr hlk dX_resumeBranch_24 (by rw [fr_resumeBranch, if_pos c_5]) (by rw [fr_resumeBranch, if_pos c_5])
  · skip
    refine aw_aload_n (pc := 8) (i := 0) (x := ad 11) F dX_resumeBranch_8 rfl rfl ?_
    refine aw_iload_n (pc := 9) (i := 1) (x := at_) F dX_resumeBranch_9 rfl rfl ?_
    refine aw_iconst (pc := 10) (v := 0) F dX_resumeBranch_10 (by decide) ?_
    refine aw_iload_n (pc := 11) (i := 2) (x := b) F dX_resumeBranch_11 rfl rfl ?_
    refine aw_goV (pc := 12) (As := [.int at_, .int (0 : Int32), .int b]) (rest := []) F zC_ok Zs 11 hC_at11 rfl (HK X at_ (0 : Int32) b hc1) (cwV 3 F.1.2.2.2.2 (gi_V wd_443 wd_445 wd_24 wd_66 wd_446) rfl rfl rfl (by decide +kernel) ⟨by first | (simp only [aw_rm]; omega) | simp only [aw_rm] | omega, by first | (simp only [aw_rm]; omega) | simp only [aw_rm] | omega⟩) rfl (Nat.le_of_ble_eq_true rfl) ⟨Nat.zero_le _, Nat.zero_le _⟩ rfl dX_resumeBranch_12 ?_
    show aW _ _ _ _ _ _ _ _ _ _ _ _ _ _ _ _ _ _ _ _ _ [.long ((K X at_ (0 : Int32) b).1)]
    refine aw_goto (pc := 15) F 24 dX_resumeBranch_15 (by decide) ?_
    exact aw_lret (pc := 24) F hr hlk dX_resumeBranch_24 (by rw [fr_resumeBranch, if_neg c_5]) (by rw [fr_resumeBranch, if_neg c_5])
def fr_resumeSuspend (K : krT) (P : pT) (X : xT) (at_ : Int32) (b : Int32) : Int64 × xT :=
  if (fr_tested X (fp_operandOf P at_)) = (0 : Int32) then (((K X (at_ + (1 : Int32)) (0 : Int32) b).1), ((K X (at_ + (1 : Int32)) (0 : Int32) b).2))
  else if (fr_tested X (fp_operandOf P at_)) = (1 : Int32) then ((fo_of (0 : Int32) (2 : Int32) b), (xw X 1 ((X.1 1) ||| ((X.1 0) &&& (fp_pausesIn P at_)))))
  else (((K X (at_ + (1 : Int32)) (0 : Int32) (0 : Int32)).1) ||| (fo_of (0 : Int32) (2 : Int32) (0 : Int32)), ((K X (at_ + (1 : Int32)) (0 : Int32) (0 : Int32)).2))
set_option maxRecDepth 100000 in
set_option maxHeartbeats 4000000 in
theorem tX_resumeSuspend {l : Launch} {D : va_G} {A : Nat → Prop} {ad : Nat → Nat} {tP : Nat} {cI : ClassId} {tl : List va_E} {tyr : List (ClassId × FieldType)} {d : Nat} {K : krT} {Cn : Int32 → Prop} (S : kT) (P : pT) (X : xT) (at_ : Int32) (b : Int32) (hS : pS P) (hd : 6 ≤ d) (HK : ∀ (X : xT) (a r b : Int32), Cn a → aw_M l yX_run (Cond.code yX_run cX_run 4 (some .long) :: aw_big) d D vwCl ((cI, .int) :: tyr) A ad (zC A tP) [.ref (ad 11), .int a, .int r, .int b] (hC ad cI S P X ++ tl) (some (.long (K X a r b).1)) (hC ad cI S P (K X a r b).2 ++ tl)) (hc1 : Cn (at_ + (1 : Int32))) : aw_M l yX_resumeSuspend (Cond.code yX_resumeSuspend cX_resumeSuspend 3 (some .long) :: aw_big) (d + 1) D vwCl ((cI, .int) :: tyr) A ad (zC A tP) [.ref (ad 11), .int at_, .int b] (hC ad cI S P X ++ tl) (some (.long ((fr_resumeSuspend K P X at_ b).1))) (hC ad cI S P ((fr_resumeSuspend K P X at_ b).2) ++ tl) := by
  refine aw_met cX_resumeSuspend 3 (some .long) [some (.ref (ad 11)), some (.int at_), some (.int b)] (by decide) rfl (Nat.le_of_ble_eq_true rfl) rfl ?_
  intro p e s m args below meth c F Zs hr hlk
  refine aw_aload_n (pc := 0) (i := 0) (x := ad 11) F dX_resumeSuspend_0 rfl rfl ?_
  refine aw_aload_n (pc := 1) (i := 0) (x := ad 11) F dX_resumeSuspend_1 rfl rfl ?_
  refine aw_get (pc := 2) (v := .ref (ad 1)) F 11 hC_at11 rfl 0 (by decide) (fun w h => mw (iw_X w h)) (mw wd_151) rfl dX_resumeSuspend_2 ?_
  refine aw_iload_n (pc := 5) (i := 1) (x := at_) F dX_resumeSuspend_5 rfl rfl ?_
  refine aw_goVN (pc := 6) (As := [.int at_]) (rest := [.ref (ad 11)]) F zC_ok Zs 1 hC_at1 rfl (tG_operandOf  S P X at_ hS) ⟨va_cnB 1 F.1.2.2.2.2 (gi_0 wd_402) rfl rfl rfl (nw_m Zs nl_488) (F.1.2.2.2.2 _ (mw wd_65)) (by decide +kernel) ⟨by first | (simp only [aw_rm]; omega) | simp only [aw_rm] | omega, by first | (simp only [aw_rm]; omega) | simp only [aw_rm] | omega⟩, F.1.2.2.2.2 _ (mw wd_401), F.1.2.2.2.2 _ (mw wd_21)⟩ rfl (Nat.le_of_ble_eq_true rfl) ⟨Nat.zero_le _, Nat.zero_le _⟩ rfl dX_resumeSuspend_6 ?_
  show aW _ _ _ _ _ _ _ _ _ _ _ _ _ _ _ _ _ _ _ _ _ [.int (fp_operandOf P at_), .ref (ad 11)]
  refine aw_goV (pc := 9) (As := [.int (fp_operandOf P at_)]) (rest := []) F zC_ok Zs 11 hC_at11 rfl (tX_tested  S P X (fp_operandOf P at_)) (cwV 1 F.1.2.2.2.2 (gi_V wd_530 wd_532 wd_36 wd_66 wd_533) rfl rfl rfl (by decide +kernel) ⟨by first | (simp only [aw_rm]; omega) | simp only [aw_rm] | omega, by first | (simp only [aw_rm]; omega) | simp only [aw_rm] | omega⟩) rfl (Nat.le_of_ble_eq_true rfl) ⟨Nat.zero_le _, Nat.zero_le _⟩ rfl dX_resumeSuspend_9 ?_
  show aW _ _ _ _ _ _ _ _ _ _ _ _ _ _ _ _ _ _ _ _ _ [.int (fr_tested X (fp_operandOf P at_))]
  by_cases s_12_0 : (fr_tested X (fp_operandOf P at_)) = (0 : Int32)
  · refine aw_lookup (pc := 12) F 69 dX_resumeSuspend_12 (by decide) (off := 57) (by rw [s_12_0]; decide) (by decide) ?_
    refine aw_aload_n (pc := 69) (i := 0) (x := ad 11) F dX_resumeSuspend_69 rfl rfl ?_
    refine aw_iload_n (pc := 70) (i := 1) (x := at_) F dX_resumeSuspend_70 rfl rfl ?_
    refine aw_iconst (pc := 71) (v := 1) F dX_resumeSuspend_71 (by decide) ?_
    refine aw_iadd (pc := 72) F dX_resumeSuspend_72 ?_
    refine aw_iconst (pc := 73) (v := 0) F dX_resumeSuspend_73 (by decide) ?_
    refine aw_iload_n (pc := 74) (i := 2) (x := b) F dX_resumeSuspend_74 rfl rfl ?_
    refine aw_goV (pc := 75) (As := [.int (at_ + (1 : Int32)), .int (0 : Int32), .int b]) (rest := []) F zC_ok Zs 11 hC_at11 rfl (HK X (at_ + (1 : Int32)) (0 : Int32) b hc1) (cwV 3 F.1.2.2.2.2 (gi_V wd_443 wd_445 wd_24 wd_66 wd_446) rfl rfl rfl (by decide +kernel) ⟨by first | (simp only [aw_rm]; omega) | simp only [aw_rm] | omega, by first | (simp only [aw_rm]; omega) | simp only [aw_rm] | omega⟩) rfl (Nat.le_of_ble_eq_true rfl) ⟨Nat.zero_le _, Nat.zero_le _⟩ rfl dX_resumeSuspend_75 ?_
    show aW _ _ _ _ _ _ _ _ _ _ _ _ _ _ _ _ _ _ _ _ _ [.long ((K X (at_ + (1 : Int32)) (0 : Int32) b).1)]
    exact aw_lret (pc := 78) F hr hlk dX_resumeSuspend_78 (by rw [fr_resumeSuspend, if_pos s_12_0]) (by rw [fr_resumeSuspend, if_pos s_12_0])
  by_cases s_12_1 : (fr_tested X (fp_operandOf P at_)) = (1 : Int32)
  · refine aw_lookup (pc := 12) F 40 dX_resumeSuspend_12 (by decide) (off := 28) (by rw [s_12_1]; decide) (by decide) ?_
    refine aw_aload_n (pc := 40) (i := 0) (x := ad 11) F dX_resumeSuspend_40 rfl rfl ?_
    refine aw_dup (pc := 41) F dX_resumeSuspend_41 rfl ?_
    refine aw_get (pc := 42) (v := .int (X.1 1)) F 11 hC_at11 rfl 3 (by decide) (fun w h => mw (iw_X w h)) (mw wd_155) rfl dX_resumeSuspend_42 ?_
    refine aw_aload_n (pc := 45) (i := 0) (x := ad 11) F dX_resumeSuspend_45 rfl rfl ?_
    refine aw_get (pc := 46) (v := .int (X.1 0)) F 11 hC_at11 rfl 2 (by decide) (fun w h => mw (iw_X w h)) (mw wd_153) rfl dX_resumeSuspend_46 ?_
    refine aw_aload_n (pc := 49) (i := 0) (x := ad 11) F dX_resumeSuspend_49 rfl rfl ?_
    refine aw_get (pc := 50) (v := .ref (ad 1)) F 11 hC_at11 rfl 0 (by decide) (fun w h => mw (iw_X w h)) (mw wd_151) rfl dX_resumeSuspend_50 ?_
    refine aw_iload_n (pc := 53) (i := 1) (x := at_) F dX_resumeSuspend_53 rfl rfl ?_
    refine aw_goVN (pc := 54) (As := [.int at_]) (rest := [.int (X.1 0), .int (X.1 1), .ref (ad 11)]) F zC_ok Zs 1 hC_at1 rfl (tG_pausesIn  S P X at_ hS) ⟨va_cnB 1 F.1.2.2.2.2 (gi_0 wd_461) rfl rfl rfl (nw_m Zs nl_458) (F.1.2.2.2.2 _ (mw wd_65)) (by decide +kernel) ⟨by first | (simp only [aw_rm]; omega) | simp only [aw_rm] | omega, by first | (simp only [aw_rm]; omega) | simp only [aw_rm] | omega⟩, F.1.2.2.2.2 _ (mw wd_460), F.1.2.2.2.2 _ (mw wd_26)⟩ rfl (Nat.le_of_ble_eq_true rfl) ⟨Nat.zero_le _, Nat.zero_le _⟩ rfl dX_resumeSuspend_54 ?_
    show aW _ _ _ _ _ _ _ _ _ _ _ _ _ _ _ _ _ _ _ _ _ [.int (fp_pausesIn P at_), .int (X.1 0), .int (X.1 1), .ref (ad 11)]
    refine aw_iand (pc := 57) F dX_resumeSuspend_57 ?_
    refine aw_ior (pc := 58) F dX_resumeSuspend_58 ?_
    refine aw_put (pc := 59) (hp' := (hC ad cI S P (xw X 1 ((X.1 1) ||| ((X.1 0) &&& (fp_pausesIn P at_)))) ++ tl)) F 11 hC_at11 rfl 3 (by decide) (fun w h => mw (iw_X w h)) tyX tyX_ok nmX (mw wd_155) (ty := .int) rfl (by decide +kernel) rfl rfl (Nat.le_of_ble_eq_true rfl) hC_st11_3 dX_resumeSuspend_59 ?_
    refine aw_iconst (pc := 62) (v := 0) F dX_resumeSuspend_62 (by decide) ?_
    refine aw_iconst (pc := 63) (v := 2) F dX_resumeSuspend_63 (by decide) ?_
    refine aw_iload_n (pc := 64) (i := 2) (x := b) F dX_resumeSuspend_64 rfl rfl ?_
    refine aw_goSN (pc := 65) (As := [.int (0 : Int32), .int (2 : Int32), .int b]) (rest := []) F zC_ok Zs (tO_of  S P (xw X 1 ((X.1 1) ||| ((X.1 0) &&& (fp_pausesIn P at_)))) (0 : Int32) (2 : Int32) b) ⟨va_cnB 3 F.1.2.2.2.2 (gi_0 wd_540) rfl rfl rfl (nw_m Zs nl_538) (F.1.2.2.2.2 _ (mw wd_75)) (by decide +kernel) ⟨by first | (simp only [aw_rm]; omega) | simp only [aw_rm] | omega, by first | (simp only [aw_rm]; omega) | simp only [aw_rm] | omega⟩, F.1.2.2.2.2 _ (mw wd_539), trivial⟩ rfl (Nat.le_of_ble_eq_true rfl) ⟨Nat.zero_le _, Nat.zero_le _⟩ rfl dX_resumeSuspend_65 ?_
    show aW _ _ _ _ _ _ _ _ _ _ _ _ _ _ _ _ _ _ _ _ _ [.long (fo_of (0 : Int32) (2 : Int32) b)]
    exact aw_lret (pc := 68) F hr hlk dX_resumeSuspend_68 (by rw [fr_resumeSuspend, if_neg s_12_0, if_pos s_12_1]) (by rw [fr_resumeSuspend, if_neg s_12_0, if_pos s_12_1])
  refine aw_lookup (pc := 12) F 79 dX_resumeSuspend_12 (by decide) (off := 67) (by show Op.lookupswitch.offset [(0, 57), (1, 28)] 67 _ = _; rw [lv_osw s_12_0 (by decide), lv_osw s_12_1 (by decide)]; rfl) (by decide) ?_
  refine aw_aload_n (pc := 79) (i := 0) (x := ad 11) F dX_resumeSuspend_79 rfl rfl ?_
  refine aw_iload_n (pc := 80) (i := 1) (x := at_) F dX_resumeSuspend_80 rfl rfl ?_
  refine aw_iconst (pc := 81) (v := 1) F dX_resumeSuspend_81 (by decide) ?_
  refine aw_iadd (pc := 82) F dX_resumeSuspend_82 ?_
  refine aw_iconst (pc := 83) (v := 0) F dX_resumeSuspend_83 (by decide) ?_
  refine aw_iconst (pc := 84) (v := 0) F dX_resumeSuspend_84 (by decide) ?_
  refine aw_goV (pc := 85) (As := [.int (at_ + (1 : Int32)), .int (0 : Int32), .int (0 : Int32)]) (rest := []) F zC_ok Zs 11 hC_at11 rfl (HK X (at_ + (1 : Int32)) (0 : Int32) (0 : Int32) hc1) (cwV 3 F.1.2.2.2.2 (gi_V wd_443 wd_445 wd_24 wd_66 wd_446) rfl rfl rfl (by decide +kernel) ⟨by first | (simp only [aw_rm]; omega) | simp only [aw_rm] | omega, by first | (simp only [aw_rm]; omega) | simp only [aw_rm] | omega⟩) rfl (Nat.le_of_ble_eq_true rfl) ⟨Nat.zero_le _, Nat.zero_le _⟩ rfl dX_resumeSuspend_85 ?_
  show aW _ _ _ _ _ _ _ _ _ _ _ _ _ _ _ _ _ _ _ _ _ [.long ((K X (at_ + (1 : Int32)) (0 : Int32) (0 : Int32)).1)]
  refine aw_iconst (pc := 88) (v := 0) F dX_resumeSuspend_88 (by decide) ?_
  refine aw_iconst (pc := 89) (v := 2) F dX_resumeSuspend_89 (by decide) ?_
  refine aw_iconst (pc := 90) (v := 0) F dX_resumeSuspend_90 (by decide) ?_
  refine aw_goSN (pc := 91) (As := [.int (0 : Int32), .int (2 : Int32), .int (0 : Int32)]) (rest := [.long ((K X (at_ + (1 : Int32)) (0 : Int32) (0 : Int32)).1)]) F zC_ok Zs (tO_of  S P ((K X (at_ + (1 : Int32)) (0 : Int32) (0 : Int32)).2) (0 : Int32) (2 : Int32) (0 : Int32)) ⟨va_cnB 3 F.1.2.2.2.2 (gi_0 wd_540) rfl rfl rfl (nw_m Zs nl_538) (F.1.2.2.2.2 _ (mw wd_75)) (by decide +kernel) ⟨by first | (simp only [aw_rm]; omega) | simp only [aw_rm] | omega, by first | (simp only [aw_rm]; omega) | simp only [aw_rm] | omega⟩, F.1.2.2.2.2 _ (mw wd_539), trivial⟩ rfl (Nat.le_of_ble_eq_true rfl) ⟨Nat.zero_le _, Nat.zero_le _⟩ rfl dX_resumeSuspend_91 ?_
  show aW _ _ _ _ _ _ _ _ _ _ _ _ _ _ _ _ _ _ _ _ _ [.long (fo_of (0 : Int32) (2 : Int32) (0 : Int32)), .long ((K X (at_ + (1 : Int32)) (0 : Int32) (0 : Int32)).1)]
  refine aw_lor (pc := 94) F dX_resumeSuspend_94 ?_
  exact aw_lret (pc := 95) F hr hlk dX_resumeSuspend_95 (by rw [fr_resumeSuspend, if_neg s_12_0, if_neg s_12_1]) (by rw [fr_resumeSuspend, if_neg s_12_0, if_neg s_12_1])
def fr_resume (K : krT) (P : pT) (X : xT) (at_ : Int32) (b : Int32) : Int64 × xT :=
  if (fp_sortOf P at_) = (4 : Int32) then if (fr_isSelectedIn P X (at_ + (1 : Int32))) = 0 then
      (((K X (fp_secondOf P at_) (0 : Int32) b).1), ((K X (fp_secondOf P at_) (0 : Int32) b).2))
    else
      (((K X (at_ + (1 : Int32)) (0 : Int32) b).1), ((K X (at_ + (1 : Int32)) (0 : Int32) b).2))
  else if (fp_sortOf P at_) = (5 : Int32) then (((fr_resumeSuspend K P X at_ b).1), ((fr_resumeSuspend K P X at_ b).2))
  else if (fp_sortOf P at_) = (6 : Int32) then if (fr_isSelectedIn P X (at_ + (1 : Int32))) = 0 then
      (((K X (fp_secondOf P at_) (0 : Int32) b).1), ((K X (fp_secondOf P at_) (0 : Int32) b).2))
    else
      (((fr_andThen K ((K X (at_ + (1 : Int32)) (0 : Int32) b).2) ((K X (at_ + (1 : Int32)) (0 : Int32) b).1) (fp_secondOf P at_) (fp_weightOf P at_)).1), ((fr_andThen K ((K X (at_ + (1 : Int32)) (0 : Int32) b).2) ((K X (at_ + (1 : Int32)) (0 : Int32) b).1) (fp_secondOf P at_) (fp_weightOf P at_)).2))
  else if (fp_sortOf P at_) = (7 : Int32) then ((fo_inParallel ((fr_resumeBranch K P X (at_ + (1 : Int32)) b).1) ((fr_resumeBranch K P ((fr_resumeBranch K P X (at_ + (1 : Int32)) b).2) (fp_secondOf P at_) b).1)), ((fr_resumeBranch K P ((fr_resumeBranch K P X (at_ + (1 : Int32)) b).2) (fp_secondOf P at_) b).2))
  else if (fp_sortOf P at_) = (8 : Int32) then (((fr_andThen K ((K X (at_ + (1 : Int32)) (0 : Int32) b).2) ((K X (at_ + (1 : Int32)) (0 : Int32) b).1) (at_ + (1 : Int32)) (fp_weightOf P at_)).1), ((fr_andThen K ((K X (at_ + (1 : Int32)) (0 : Int32) b).2) ((K X (at_ + (1 : Int32)) (0 : Int32) b).1) (at_ + (1 : Int32)) (fp_weightOf P at_)).2))
  else ((fo_of (0 : Int32) (1 : Int32) b), X)
set_option maxRecDepth 100000 in
set_option maxHeartbeats 4000000 in
theorem tX_resume {l : Launch} {D : va_G} {A : Nat → Prop} {ad : Nat → Nat} {tP : Nat} {cI : ClassId} {tl : List va_E} {tyr : List (ClassId × FieldType)} {d : Nat} {K : krT} {Cn : Int32 → Prop} (S : kT) (P : pT) (X : xT) (at_ : Int32) (b : Int32) (hS : pS P) (hd : 6 ≤ d) (HK : ∀ (X : xT) (a r b : Int32), Cn a → aw_M l yX_run (Cond.code yX_run cX_run 4 (some .long) :: aw_big) d D vwCl ((cI, .int) :: tyr) A ad (zC A tP) [.ref (ad 11), .int a, .int r, .int b] (hC ad cI S P X ++ tl) (some (.long (K X a r b).1)) (hC ad cI S P (K X a r b).2 ++ tl)) (hc1 : 4 ≤ (fp_sortOf P at_).toInt → Cn (at_ + (1 : Int32))) (hc2 : 4 ≤ (fp_sortOf P at_).toInt → Cn (fp_secondOf P at_)) : aw_M l yX_resume (Cond.code yX_resume cX_resume 5 (some .long) :: aw_big) (d + 2) D vwCl ((cI, .int) :: tyr) A ad (zC A tP) [.ref (ad 11), .int at_, .int b] (hC ad cI S P X ++ tl) (some (.long ((fr_resume K P X at_ b).1))) (hC ad cI S P ((fr_resume K P X at_ b).2) ++ tl) := by
  refine aw_met cX_resume 5 (some .long) [some (.ref (ad 11)), some (.int at_), some (.int b), none, none] (by decide) rfl (Nat.le_of_ble_eq_true rfl) rfl ?_
  intro p e s m args below meth c F Zs hr hlk
  refine aw_iload_n (pc := 0) (i := 1) (x := at_) F dX_resume_0 rfl rfl ?_
  refine aw_iconst (pc := 1) (v := 1) F dX_resume_1 (by decide) ?_
  refine aw_iadd (pc := 2) F dX_resume_2 ?_
  refine aw_istore_n (pc := 3) (i := 3) (L' := [some (.ref (ad 11)), some (.int at_), some (.int b), some (.int (at_ + (1 : Int32))), none]) F dX_resume_3 rfl (by decide) rfl ?_
  refine aw_aload_n (pc := 4) (i := 0) (x := ad 11) F dX_resume_4 rfl rfl ?_
  refine aw_get (pc := 5) (v := .ref (ad 1)) F 11 hC_at11 rfl 0 (by decide) (fun w h => mw (iw_X w h)) (mw wd_151) rfl dX_resume_5 ?_
  refine aw_iload_n (pc := 8) (i := 1) (x := at_) F dX_resume_8 rfl rfl ?_
  refine aw_goVN (pc := 9) (As := [.int at_]) (rest := []) F zC_ok Zs 1 hC_at1 rfl (tG_secondOf  S P X at_ hS) ⟨va_cnB 1 F.1.2.2.2.2 (gi_0 wd_398) rfl rfl rfl (nw_m Zs nl_521) (F.1.2.2.2.2 _ (mw wd_65)) (by decide +kernel) ⟨by first | (simp only [aw_rm]; omega) | simp only [aw_rm] | omega, by first | (simp only [aw_rm]; omega) | simp only [aw_rm] | omega⟩, F.1.2.2.2.2 _ (mw wd_397), F.1.2.2.2.2 _ (mw wd_20)⟩ rfl (Nat.le_of_ble_eq_true rfl) ⟨Nat.zero_le _, Nat.zero_le _⟩ rfl dX_resume_9 ?_
  show aW _ _ _ _ _ _ _ _ _ _ _ _ _ _ _ _ _ _ _ _ _ [.int (fp_secondOf P at_)]
  refine aw_istore (pc := 12) (i := 4) (L' := [some (.ref (ad 11)), some (.int at_), some (.int b), some (.int (at_ + (1 : Int32))), some (.int (fp_secondOf P at_))]) F dX_resume_12 (by decide) rfl ?_
  refine aw_aload_n (pc := 14) (i := 0) (x := ad 11) F dX_resume_14 rfl rfl ?_
  refine aw_get (pc := 15) (v := .ref (ad 1)) F 11 hC_at11 rfl 0 (by decide) (fun w h => mw (iw_X w h)) (mw wd_151) rfl dX_resume_15 ?_
  refine aw_iload_n (pc := 18) (i := 1) (x := at_) F dX_resume_18 rfl rfl ?_
  refine aw_goVN (pc := 19) (As := [.int at_]) (rest := []) F zC_ok Zs 1 hC_at1 rfl (tG_sortOf  S P X at_ hS) ⟨va_cnB 1 F.1.2.2.2.2 (gi_0 wd_320) rfl rfl rfl (nw_m Zs nl_447) (F.1.2.2.2.2 _ (mw wd_65)) (by decide +kernel) ⟨by first | (simp only [aw_rm]; omega) | simp only [aw_rm] | omega, by first | (simp only [aw_rm]; omega) | simp only [aw_rm] | omega⟩, F.1.2.2.2.2 _ (mw wd_319), F.1.2.2.2.2 _ (mw wd_7)⟩ rfl (Nat.le_of_ble_eq_true rfl) ⟨Nat.zero_le _, Nat.zero_le _⟩ rfl dX_resume_19 ?_
  show aW _ _ _ _ _ _ _ _ _ _ _ _ _ _ _ _ _ _ _ _ _ [.int (fp_sortOf P at_)]
  by_cases s_22_4 : (fp_sortOf P at_) = (4 : Int32)
  · refine aw_tableIn (pc := 22) F 56 dX_resume_22 (by rw [s_22_4]; decide) (by rw [s_22_4]; decide) (off := 34) (by rw [s_22_4]; rfl) (by decide) ?_
    refine aw_aload_n (pc := 56) (i := 0) (x := ad 11) F dX_resume_56 rfl rfl ?_
    refine aw_aload_n (pc := 57) (i := 0) (x := ad 11) F dX_resume_57 rfl rfl ?_
    refine aw_iload_n (pc := 58) (i := 3) (x := at_ + (1 : Int32)) F dX_resume_58 rfl rfl ?_
    refine aw_goV (pc := 59) (As := [.int (at_ + (1 : Int32))]) (rest := [.ref (ad 11)]) F zC_ok Zs 11 hC_at11 rfl (tX_isSelectedIn  S P X (at_ + (1 : Int32)) hS) (cwV 1 F.1.2.2.2.2 (gi_V wd_522 wd_524 wd_34 wd_66 wd_525) rfl rfl rfl (by decide +kernel) ⟨by first | (simp only [aw_rm]; omega) | simp only [aw_rm] | omega, by first | (simp only [aw_rm]; omega) | simp only [aw_rm] | omega⟩) rfl (Nat.le_of_ble_eq_true rfl) ⟨Nat.zero_le _, Nat.zero_le _⟩ rfl dX_resume_59 ?_
    show aW _ _ _ _ _ _ _ _ _ _ _ _ _ _ _ _ _ _ _ _ _ [.int (fr_isSelectedIn P X (at_ + (1 : Int32))), .ref (ad 11)]
    refine aw_if_eq (pc := 62) F 69 dX_resume_62 (by decide) (fun c_62 => ?_) (fun c_62 => ?_)
    · skip
      refine aw_iload (pc := 69) (i := 4) (x := (fp_secondOf P at_)) F dX_resume_69 rfl ?_
      refine aw_iconst (pc := 71) (v := 0) F dX_resume_71 (by decide) ?_
      refine aw_iload_n (pc := 72) (i := 2) (x := b) F dX_resume_72 rfl rfl ?_
      refine aw_goV (pc := 73) (As := [.int (fp_secondOf P at_), .int (0 : Int32), .int b]) (rest := []) F zC_ok Zs 11 hC_at11 rfl (HK X (fp_secondOf P at_) (0 : Int32) b (by first | exact hc1 (by rw [s_22_4]; decide) | exact hc2 (by rw [s_22_4]; decide))) (cwV 3 F.1.2.2.2.2 (gi_V wd_443 wd_445 wd_24 wd_66 wd_446) rfl rfl rfl (by decide +kernel) ⟨by first | (simp only [aw_rm]; omega) | simp only [aw_rm] | omega, by first | (simp only [aw_rm]; omega) | simp only [aw_rm] | omega⟩) rfl (Nat.le_of_ble_eq_true rfl) ⟨Nat.zero_le _, Nat.zero_le _⟩ rfl dX_resume_73 ?_
      show aW _ _ _ _ _ _ _ _ _ _ _ _ _ _ _ _ _ _ _ _ _ [.long ((K X (fp_secondOf P at_) (0 : Int32) b).1)]
      exact aw_lret (pc := 76) F hr hlk dX_resume_76 (by rw [fr_resume, if_pos s_22_4, if_pos c_62]) (by rw [fr_resume, if_pos s_22_4, if_pos c_62])
    · skip
      refine aw_iload_n (pc := 65) (i := 3) (x := at_ + (1 : Int32)) F dX_resume_65 rfl rfl ?_
      refine aw_goto (pc := 66) F 71 dX_resume_66 (by decide) ?_
      refine aw_iconst (pc := 71) (v := 0) F dX_resume_71 (by decide) ?_
      refine aw_iload_n (pc := 72) (i := 2) (x := b) F dX_resume_72 rfl rfl ?_
      refine aw_goV (pc := 73) (As := [.int (at_ + (1 : Int32)), .int (0 : Int32), .int b]) (rest := []) F zC_ok Zs 11 hC_at11 rfl (HK X (at_ + (1 : Int32)) (0 : Int32) b (by first | exact hc1 (by rw [s_22_4]; decide) | exact hc2 (by rw [s_22_4]; decide))) (cwV 3 F.1.2.2.2.2 (gi_V wd_443 wd_445 wd_24 wd_66 wd_446) rfl rfl rfl (by decide +kernel) ⟨by first | (simp only [aw_rm]; omega) | simp only [aw_rm] | omega, by first | (simp only [aw_rm]; omega) | simp only [aw_rm] | omega⟩) rfl (Nat.le_of_ble_eq_true rfl) ⟨Nat.zero_le _, Nat.zero_le _⟩ rfl dX_resume_73 ?_
      show aW _ _ _ _ _ _ _ _ _ _ _ _ _ _ _ _ _ _ _ _ _ [.long ((K X (at_ + (1 : Int32)) (0 : Int32) b).1)]
      exact aw_lret (pc := 76) F hr hlk dX_resume_76 (by rw [fr_resume, if_pos s_22_4, if_neg c_62]) (by rw [fr_resume, if_pos s_22_4, if_neg c_62])
  by_cases s_22_5 : (fp_sortOf P at_) = (5 : Int32)
  · refine aw_tableIn (pc := 22) F 77 dX_resume_22 (by rw [s_22_5]; decide) (by rw [s_22_5]; decide) (off := 55) (by rw [s_22_5]; rfl) (by decide) ?_
    refine aw_aload_n (pc := 77) (i := 0) (x := ad 11) F dX_resume_77 rfl rfl ?_
    refine aw_iload_n (pc := 78) (i := 1) (x := at_) F dX_resume_78 rfl rfl ?_
    refine aw_iload_n (pc := 79) (i := 2) (x := b) F dX_resume_79 rfl rfl ?_
    refine aw_goV (pc := 80) (As := [.int at_, .int b]) (rest := []) F zC_ok Zs 11 hC_at11 rfl (tX_resumeSuspend  S P X at_ b hS hd HK (hc1 (by rw [s_22_5]; decide))) (cwV 2 F.1.2.2.2.2 (gi_V wd_526 wd_528 wd_35 wd_66 wd_529) rfl rfl rfl (by decide +kernel) ⟨by first | (simp only [aw_rm]; omega) | simp only [aw_rm] | omega, by first | (simp only [aw_rm]; omega) | simp only [aw_rm] | omega⟩) rfl (Nat.le_of_ble_eq_true rfl) ⟨Nat.zero_le _, Nat.zero_le _⟩ rfl dX_resume_80 ?_
    show aW _ _ _ _ _ _ _ _ _ _ _ _ _ _ _ _ _ _ _ _ _ [.long ((fr_resumeSuspend K P X at_ b).1)]
    exact aw_lret (pc := 83) F hr hlk dX_resume_83 (by rw [fr_resume, if_neg s_22_4, if_pos s_22_5]) (by rw [fr_resume, if_neg s_22_4, if_pos s_22_5])
  by_cases s_22_6 : (fp_sortOf P at_) = (6 : Int32)
  · refine aw_tableIn (pc := 22) F 84 dX_resume_22 (by rw [s_22_6]; decide) (by rw [s_22_6]; decide) (off := 62) (by rw [s_22_6]; rfl) (by decide) ?_
    refine aw_aload_n (pc := 84) (i := 0) (x := ad 11) F dX_resume_84 rfl rfl ?_
    refine aw_iload_n (pc := 85) (i := 3) (x := at_ + (1 : Int32)) F dX_resume_85 rfl rfl ?_
    refine aw_goV (pc := 86) (As := [.int (at_ + (1 : Int32))]) (rest := []) F zC_ok Zs 11 hC_at11 rfl (tX_isSelectedIn  S P X (at_ + (1 : Int32)) hS) (cwV 1 F.1.2.2.2.2 (gi_V wd_522 wd_524 wd_34 wd_66 wd_525) rfl rfl rfl (by decide +kernel) ⟨by first | (simp only [aw_rm]; omega) | simp only [aw_rm] | omega, by first | (simp only [aw_rm]; omega) | simp only [aw_rm] | omega⟩) rfl (Nat.le_of_ble_eq_true rfl) ⟨Nat.zero_le _, Nat.zero_le _⟩ rfl dX_resume_86 ?_
    show aW _ _ _ _ _ _ _ _ _ _ _ _ _ _ _ _ _ _ _ _ _ [.int (fr_isSelectedIn P X (at_ + (1 : Int32)))]
    refine aw_if_eq (pc := 89) F 116 dX_resume_89 (by decide) (fun c_89 => ?_) (fun c_89 => ?_)
    · skip
      refine aw_aload_n (pc := 116) (i := 0) (x := ad 11) F dX_resume_116 rfl rfl ?_
      refine aw_iload (pc := 117) (i := 4) (x := (fp_secondOf P at_)) F dX_resume_117 rfl ?_
      refine aw_iconst (pc := 119) (v := 0) F dX_resume_119 (by decide) ?_
      refine aw_iload_n (pc := 120) (i := 2) (x := b) F dX_resume_120 rfl rfl ?_
      refine aw_goV (pc := 121) (As := [.int (fp_secondOf P at_), .int (0 : Int32), .int b]) (rest := []) F zC_ok Zs 11 hC_at11 rfl (HK X (fp_secondOf P at_) (0 : Int32) b (hc2 (by rw [s_22_6]; decide))) (cwV 3 F.1.2.2.2.2 (gi_V wd_443 wd_445 wd_24 wd_66 wd_446) rfl rfl rfl (by decide +kernel) ⟨by first | (simp only [aw_rm]; omega) | simp only [aw_rm] | omega, by first | (simp only [aw_rm]; omega) | simp only [aw_rm] | omega⟩) rfl (Nat.le_of_ble_eq_true rfl) ⟨Nat.zero_le _, Nat.zero_le _⟩ rfl dX_resume_121 ?_
      show aW _ _ _ _ _ _ _ _ _ _ _ _ _ _ _ _ _ _ _ _ _ [.long ((K X (fp_secondOf P at_) (0 : Int32) b).1)]
      exact aw_lret (pc := 124) F hr hlk dX_resume_124 (by rw [fr_resume, if_neg s_22_4, if_neg s_22_5, if_pos s_22_6, if_pos c_89]) (by rw [fr_resume, if_neg s_22_4, if_neg s_22_5, if_pos s_22_6, if_pos c_89])
    · skip
      refine aw_aload_n (pc := 92) (i := 0) (x := ad 11) F dX_resume_92 rfl rfl ?_
      refine aw_aload_n (pc := 93) (i := 0) (x := ad 11) F dX_resume_93 rfl rfl ?_
      refine aw_iload_n (pc := 94) (i := 3) (x := at_ + (1 : Int32)) F dX_resume_94 rfl rfl ?_
      refine aw_iconst (pc := 95) (v := 0) F dX_resume_95 (by decide) ?_
      refine aw_iload_n (pc := 96) (i := 2) (x := b) F dX_resume_96 rfl rfl ?_
      refine aw_goV (pc := 97) (As := [.int (at_ + (1 : Int32)), .int (0 : Int32), .int b]) (rest := [.ref (ad 11)]) F zC_ok Zs 11 hC_at11 rfl (HK X (at_ + (1 : Int32)) (0 : Int32) b (hc1 (by rw [s_22_6]; decide))) (cwV 3 F.1.2.2.2.2 (gi_V wd_443 wd_445 wd_24 wd_66 wd_446) rfl rfl rfl (by decide +kernel) ⟨by first | (simp only [aw_rm]; omega) | simp only [aw_rm] | omega, by first | (simp only [aw_rm]; omega) | simp only [aw_rm] | omega⟩) rfl (Nat.le_of_ble_eq_true rfl) ⟨Nat.zero_le _, Nat.zero_le _⟩ rfl dX_resume_97 ?_
      show aW _ _ _ _ _ _ _ _ _ _ _ _ _ _ _ _ _ _ _ _ _ [.long ((K X (at_ + (1 : Int32)) (0 : Int32) b).1), .ref (ad 11)]
      refine aw_iload (pc := 100) (i := 4) (x := (fp_secondOf P at_)) F dX_resume_100 rfl ?_
      refine aw_aload_n (pc := 102) (i := 0) (x := ad 11) F dX_resume_102 rfl rfl ?_
      refine aw_get (pc := 103) (v := .ref (ad 1)) F 11 hC_at11 rfl 0 (by decide) (fun w h => mw (iw_X w h)) (mw wd_151) rfl dX_resume_103 ?_
      refine aw_iload_n (pc := 106) (i := 1) (x := at_) F dX_resume_106 rfl rfl ?_
      refine aw_goVN (pc := 107) (As := [.int at_]) (rest := [.int (fp_secondOf P at_), .long ((K X (at_ + (1 : Int32)) (0 : Int32) b).1), .ref (ad 11)]) F zC_ok Zs 1 hC_at1 rfl (tG_weightOf  S P ((K X (at_ + (1 : Int32)) (0 : Int32) b).2) at_ hS) ⟨va_cnB 1 F.1.2.2.2.2 (gi_0 wd_352) rfl rfl rfl (nw_m Zs nl_541) (F.1.2.2.2.2 _ (mw wd_65)) (by decide +kernel) ⟨by first | (simp only [aw_rm]; omega) | simp only [aw_rm] | omega, by first | (simp only [aw_rm]; omega) | simp only [aw_rm] | omega⟩, F.1.2.2.2.2 _ (mw wd_351), F.1.2.2.2.2 _ (mw wd_11)⟩ rfl (Nat.le_of_ble_eq_true rfl) ⟨Nat.zero_le _, Nat.zero_le _⟩ rfl dX_resume_107 ?_
      show aW _ _ _ _ _ _ _ _ _ _ _ _ _ _ _ _ _ _ _ _ _ [.int (fp_weightOf P at_), .int (fp_secondOf P at_), .long ((K X (at_ + (1 : Int32)) (0 : Int32) b).1), .ref (ad 11)]
      refine aw_goV (pc := 110) (As := [.long ((K X (at_ + (1 : Int32)) (0 : Int32) b).1), .int (fp_secondOf P at_), .int (fp_weightOf P at_)]) (rest := []) F zC_ok Zs 11 hC_at11 rfl (tX_andThen  S P ((K X (at_ + (1 : Int32)) (0 : Int32) b).2) ((K X (at_ + (1 : Int32)) (0 : Int32) b).1) (fp_secondOf P at_) (fp_weightOf P at_) hd HK (hc2 (by rw [s_22_6]; decide))) (cwV 3 F.1.2.2.2.2 (gi_V wd_542 wd_544 wd_37 wd_66 wd_545) rfl rfl rfl (by decide +kernel) ⟨by first | (simp only [aw_rm]; omega) | simp only [aw_rm] | omega, by first | (simp only [aw_rm]; omega) | simp only [aw_rm] | omega⟩) rfl (Nat.le_of_ble_eq_true rfl) ⟨Nat.zero_le _, Nat.zero_le _⟩ rfl dX_resume_110 ?_
      show aW _ _ _ _ _ _ _ _ _ _ _ _ _ _ _ _ _ _ _ _ _ [.long ((fr_andThen K ((K X (at_ + (1 : Int32)) (0 : Int32) b).2) ((K X (at_ + (1 : Int32)) (0 : Int32) b).1) (fp_secondOf P at_) (fp_weightOf P at_)).1)]
      refine aw_goto (pc := 113) F 124 dX_resume_113 (by decide) ?_
      exact aw_lret (pc := 124) F hr hlk dX_resume_124 (by rw [fr_resume, if_neg s_22_4, if_neg s_22_5, if_pos s_22_6, if_neg c_89]) (by rw [fr_resume, if_neg s_22_4, if_neg s_22_5, if_pos s_22_6, if_neg c_89])
  by_cases s_22_7 : (fp_sortOf P at_) = (7 : Int32)
  · refine aw_tableIn (pc := 22) F 125 dX_resume_22 (by rw [s_22_7]; decide) (by rw [s_22_7]; decide) (off := 103) (by rw [s_22_7]; rfl) (by decide) ?_
    refine aw_aload_n (pc := 125) (i := 0) (x := ad 11) F dX_resume_125 rfl rfl ?_
    refine aw_iload_n (pc := 126) (i := 3) (x := at_ + (1 : Int32)) F dX_resume_126 rfl rfl ?_
    refine aw_iload_n (pc := 127) (i := 2) (x := b) F dX_resume_127 rfl rfl ?_
    refine aw_goV (pc := 128) (As := [.int (at_ + (1 : Int32)), .int b]) (rest := []) F zC_ok Zs 11 hC_at11 rfl (tX_resumeBranch  S P X (at_ + (1 : Int32)) b hS hd HK (hc1 (by rw [s_22_7]; decide))) (cwV 2 F.1.2.2.2.2 (gi_V wd_558 wd_560 wd_38 wd_66 wd_561) rfl rfl rfl (by decide +kernel) ⟨by first | (simp only [aw_rm]; omega) | simp only [aw_rm] | omega, by first | (simp only [aw_rm]; omega) | simp only [aw_rm] | omega⟩) rfl (Nat.le_of_ble_eq_true rfl) ⟨Nat.zero_le _, Nat.zero_le _⟩ rfl dX_resume_128 ?_
    show aW _ _ _ _ _ _ _ _ _ _ _ _ _ _ _ _ _ _ _ _ _ [.long ((fr_resumeBranch K P X (at_ + (1 : Int32)) b).1)]
    refine aw_aload_n (pc := 131) (i := 0) (x := ad 11) F dX_resume_131 rfl rfl ?_
    refine aw_iload (pc := 132) (i := 4) (x := (fp_secondOf P at_)) F dX_resume_132 rfl ?_
    refine aw_iload_n (pc := 134) (i := 2) (x := b) F dX_resume_134 rfl rfl ?_
    refine aw_goV (pc := 135) (As := [.int (fp_secondOf P at_), .int b]) (rest := [.long ((fr_resumeBranch K P X (at_ + (1 : Int32)) b).1)]) F zC_ok Zs 11 hC_at11 rfl (tX_resumeBranch  S P ((fr_resumeBranch K P X (at_ + (1 : Int32)) b).2) (fp_secondOf P at_) b hS hd HK (hc2 (by rw [s_22_7]; decide))) (cwV 2 F.1.2.2.2.2 (gi_V wd_558 wd_560 wd_38 wd_66 wd_561) rfl rfl rfl (by decide +kernel) ⟨by first | (simp only [aw_rm]; omega) | simp only [aw_rm] | omega, by first | (simp only [aw_rm]; omega) | simp only [aw_rm] | omega⟩) rfl (Nat.le_of_ble_eq_true rfl) ⟨Nat.zero_le _, Nat.zero_le _⟩ rfl dX_resume_135 ?_
    show aW _ _ _ _ _ _ _ _ _ _ _ _ _ _ _ _ _ _ _ _ _ [.long ((fr_resumeBranch K P ((fr_resumeBranch K P X (at_ + (1 : Int32)) b).2) (fp_secondOf P at_) b).1), .long ((fr_resumeBranch K P X (at_ + (1 : Int32)) b).1)]
    refine aw_goSN (pc := 138) (As := [.long ((fr_resumeBranch K P X (at_ + (1 : Int32)) b).1), .long ((fr_resumeBranch K P ((fr_resumeBranch K P X (at_ + (1 : Int32)) b).2) (fp_secondOf P at_) b).1)]) (rest := []) F zC_ok Zs (tO_inParallel  S P ((fr_resumeBranch K P ((fr_resumeBranch K P X (at_ + (1 : Int32)) b).2) (fp_secondOf P at_) b).2) ((fr_resumeBranch K P X (at_ + (1 : Int32)) b).1) ((fr_resumeBranch K P ((fr_resumeBranch K P X (at_ + (1 : Int32)) b).2) (fp_secondOf P at_) b).1)) ⟨va_cnB 2 F.1.2.2.2.2 (gi_0 wd_564) rfl rfl rfl (nw_m Zs nl_562) (F.1.2.2.2.2 _ (mw wd_75)) (by decide +kernel) ⟨by first | (simp only [aw_rm]; omega) | simp only [aw_rm] | omega, by first | (simp only [aw_rm]; omega) | simp only [aw_rm] | omega⟩, F.1.2.2.2.2 _ (mw wd_563), trivial⟩ rfl (Nat.le_of_ble_eq_true rfl) ⟨Nat.zero_le _, Nat.zero_le _⟩ rfl dX_resume_138 ?_
    show aW _ _ _ _ _ _ _ _ _ _ _ _ _ _ _ _ _ _ _ _ _ [.long (fo_inParallel ((fr_resumeBranch K P X (at_ + (1 : Int32)) b).1) ((fr_resumeBranch K P ((fr_resumeBranch K P X (at_ + (1 : Int32)) b).2) (fp_secondOf P at_) b).1))]
    exact aw_lret (pc := 141) F hr hlk dX_resume_141 (by rw [fr_resume, if_neg s_22_4, if_neg s_22_5, if_neg s_22_6, if_pos s_22_7]) (by rw [fr_resume, if_neg s_22_4, if_neg s_22_5, if_neg s_22_6, if_pos s_22_7])
  by_cases s_22_8 : (fp_sortOf P at_) = (8 : Int32)
  · refine aw_tableIn (pc := 22) F 142 dX_resume_22 (by rw [s_22_8]; decide) (by rw [s_22_8]; decide) (off := 120) (by rw [s_22_8]; rfl) (by decide) ?_
    refine aw_aload_n (pc := 142) (i := 0) (x := ad 11) F dX_resume_142 rfl rfl ?_
    refine aw_aload_n (pc := 143) (i := 0) (x := ad 11) F dX_resume_143 rfl rfl ?_
    refine aw_iload_n (pc := 144) (i := 3) (x := at_ + (1 : Int32)) F dX_resume_144 rfl rfl ?_
    refine aw_iconst (pc := 145) (v := 0) F dX_resume_145 (by decide) ?_
    refine aw_iload_n (pc := 146) (i := 2) (x := b) F dX_resume_146 rfl rfl ?_
    refine aw_goV (pc := 147) (As := [.int (at_ + (1 : Int32)), .int (0 : Int32), .int b]) (rest := [.ref (ad 11)]) F zC_ok Zs 11 hC_at11 rfl (HK X (at_ + (1 : Int32)) (0 : Int32) b (hc1 (by rw [s_22_8]; decide))) (cwV 3 F.1.2.2.2.2 (gi_V wd_443 wd_445 wd_24 wd_66 wd_446) rfl rfl rfl (by decide +kernel) ⟨by first | (simp only [aw_rm]; omega) | simp only [aw_rm] | omega, by first | (simp only [aw_rm]; omega) | simp only [aw_rm] | omega⟩) rfl (Nat.le_of_ble_eq_true rfl) ⟨Nat.zero_le _, Nat.zero_le _⟩ rfl dX_resume_147 ?_
    show aW _ _ _ _ _ _ _ _ _ _ _ _ _ _ _ _ _ _ _ _ _ [.long ((K X (at_ + (1 : Int32)) (0 : Int32) b).1), .ref (ad 11)]
    refine aw_iload_n (pc := 150) (i := 3) (x := at_ + (1 : Int32)) F dX_resume_150 rfl rfl ?_
    refine aw_aload_n (pc := 151) (i := 0) (x := ad 11) F dX_resume_151 rfl rfl ?_
    refine aw_get (pc := 152) (v := .ref (ad 1)) F 11 hC_at11 rfl 0 (by decide) (fun w h => mw (iw_X w h)) (mw wd_151) rfl dX_resume_152 ?_
    refine aw_iload_n (pc := 155) (i := 1) (x := at_) F dX_resume_155 rfl rfl ?_
    refine aw_goVN (pc := 156) (As := [.int at_]) (rest := [.int (at_ + (1 : Int32)), .long ((K X (at_ + (1 : Int32)) (0 : Int32) b).1), .ref (ad 11)]) F zC_ok Zs 1 hC_at1 rfl (tG_weightOf  S P ((K X (at_ + (1 : Int32)) (0 : Int32) b).2) at_ hS) ⟨va_cnB 1 F.1.2.2.2.2 (gi_0 wd_352) rfl rfl rfl (nw_m Zs nl_541) (F.1.2.2.2.2 _ (mw wd_65)) (by decide +kernel) ⟨by first | (simp only [aw_rm]; omega) | simp only [aw_rm] | omega, by first | (simp only [aw_rm]; omega) | simp only [aw_rm] | omega⟩, F.1.2.2.2.2 _ (mw wd_351), F.1.2.2.2.2 _ (mw wd_11)⟩ rfl (Nat.le_of_ble_eq_true rfl) ⟨Nat.zero_le _, Nat.zero_le _⟩ rfl dX_resume_156 ?_
    show aW _ _ _ _ _ _ _ _ _ _ _ _ _ _ _ _ _ _ _ _ _ [.int (fp_weightOf P at_), .int (at_ + (1 : Int32)), .long ((K X (at_ + (1 : Int32)) (0 : Int32) b).1), .ref (ad 11)]
    refine aw_goV (pc := 159) (As := [.long ((K X (at_ + (1 : Int32)) (0 : Int32) b).1), .int (at_ + (1 : Int32)), .int (fp_weightOf P at_)]) (rest := []) F zC_ok Zs 11 hC_at11 rfl (tX_andThen  S P ((K X (at_ + (1 : Int32)) (0 : Int32) b).2) ((K X (at_ + (1 : Int32)) (0 : Int32) b).1) (at_ + (1 : Int32)) (fp_weightOf P at_) hd HK (hc1 (by rw [s_22_8]; decide))) (cwV 3 F.1.2.2.2.2 (gi_V wd_542 wd_544 wd_37 wd_66 wd_545) rfl rfl rfl (by decide +kernel) ⟨by first | (simp only [aw_rm]; omega) | simp only [aw_rm] | omega, by first | (simp only [aw_rm]; omega) | simp only [aw_rm] | omega⟩) rfl (Nat.le_of_ble_eq_true rfl) ⟨Nat.zero_le _, Nat.zero_le _⟩ rfl dX_resume_159 ?_
    show aW _ _ _ _ _ _ _ _ _ _ _ _ _ _ _ _ _ _ _ _ _ [.long ((fr_andThen K ((K X (at_ + (1 : Int32)) (0 : Int32) b).2) ((K X (at_ + (1 : Int32)) (0 : Int32) b).1) (at_ + (1 : Int32)) (fp_weightOf P at_)).1)]
    exact aw_lret (pc := 162) F hr hlk dX_resume_162 (by rw [fr_resume, if_neg s_22_4, if_neg s_22_5, if_neg s_22_6, if_neg s_22_7, if_pos s_22_8]) (by rw [fr_resume, if_neg s_22_4, if_neg s_22_5, if_neg s_22_6, if_neg s_22_7, if_pos s_22_8])
  refine aw_tableOut (pc := 22) F 163 dX_resume_22 (by have := aw_ne s_22_4 (a := 4) (by decide); have := aw_ne s_22_5 (a := 5) (by decide); have := aw_ne s_22_6 (a := 6) (by decide); have := aw_ne s_22_7 (a := 7) (by decide); have := aw_ne s_22_8 (a := 8) (by decide); omega) (by decide) ?_
  refine aw_iconst (pc := 163) (v := 0) F dX_resume_163 (by decide) ?_
  refine aw_iconst (pc := 164) (v := 1) F dX_resume_164 (by decide) ?_
  refine aw_iload_n (pc := 165) (i := 2) (x := b) F dX_resume_165 rfl rfl ?_
  refine aw_goSN (pc := 166) (As := [.int (0 : Int32), .int (1 : Int32), .int b]) (rest := []) F zC_ok Zs (tO_of  S P X (0 : Int32) (1 : Int32) b) ⟨va_cnB 3 F.1.2.2.2.2 (gi_0 wd_540) rfl rfl rfl (nw_m Zs nl_538) (F.1.2.2.2.2 _ (mw wd_75)) (by decide +kernel) ⟨by first | (simp only [aw_rm]; omega) | simp only [aw_rm] | omega, by first | (simp only [aw_rm]; omega) | simp only [aw_rm] | omega⟩, F.1.2.2.2.2 _ (mw wd_539), trivial⟩ rfl (Nat.le_of_ble_eq_true rfl) ⟨Nat.zero_le _, Nat.zero_le _⟩ rfl dX_resume_166 ?_
  show aW _ _ _ _ _ _ _ _ _ _ _ _ _ _ _ _ _ _ _ _ _ [.long (fo_of (0 : Int32) (1 : Int32) b)]
  exact aw_lret (pc := 169) F hr hlk dX_resume_169 (by rw [fr_resume, if_neg s_22_4, if_neg s_22_5, if_neg s_22_6, if_neg s_22_7, if_neg s_22_8]) (by rw [fr_resume, if_neg s_22_4, if_neg s_22_5, if_neg s_22_6, if_neg s_22_7, if_neg s_22_8])
def fr_runTrap (K : krT) (P : pT) (X : xT) (at_ : Int32) (rk : Int32) (b : Int32) : Int64 × xT :=
  if (fo_codesIn (fo_must ((K X (at_ + (1 : Int32)) rk b).1))) = (4 : Int32) then
    ((fo_outsideTrap ((K X (at_ + (1 : Int32)) rk b).1)), (xw ((K X (at_ + (1 : Int32)) rk b).2) 1 ((((K X (at_ + (1 : Int32)) rk b).2).1 1) &&& ((fp_pausesIn P at_) ^^^ (-1 : Int32)))))
  else
    ((fo_outsideTrap ((K X (at_ + (1 : Int32)) rk b).1)), ((K X (at_ + (1 : Int32)) rk b).2))
set_option maxRecDepth 100000 in
set_option maxHeartbeats 4000000 in
theorem tX_runTrap {l : Launch} {D : va_G} {A : Nat → Prop} {ad : Nat → Nat} {tP : Nat} {cI : ClassId} {tl : List va_E} {tyr : List (ClassId × FieldType)} {d : Nat} {K : krT} {Cn : Int32 → Prop} (S : kT) (P : pT) (X : xT) (at_ : Int32) (rk : Int32) (b : Int32) (hS : pS P) (hd : 6 ≤ d) (HK : ∀ (X : xT) (a r b : Int32), Cn a → aw_M l yX_run (Cond.code yX_run cX_run 4 (some .long) :: aw_big) d D vwCl ((cI, .int) :: tyr) A ad (zC A tP) [.ref (ad 11), .int a, .int r, .int b] (hC ad cI S P X ++ tl) (some (.long (K X a r b).1)) (hC ad cI S P (K X a r b).2 ++ tl)) (hc1 : Cn (at_ + (1 : Int32))) : aw_M l yX_runTrap (Cond.code yX_runTrap cX_runTrap 6 (some .long) :: aw_big) (d + 1) D vwCl ((cI, .int) :: tyr) A ad (zC A tP) [.ref (ad 11), .int at_, .int rk, .int b] (hC ad cI S P X ++ tl) (some (.long ((fr_runTrap K P X at_ rk b).1))) (hC ad cI S P ((fr_runTrap K P X at_ rk b).2) ++ tl) := by
  refine aw_met cX_runTrap 6 (some .long) [some (.ref (ad 11)), some (.int at_), some (.int rk), some (.int b), none, none] (by decide) rfl (Nat.le_of_ble_eq_true rfl) rfl ?_
  intro p e s m args below meth c F Zs hr hlk
  refine aw_aload_n (pc := 0) (i := 0) (x := ad 11) F dX_runTrap_0 rfl rfl ?_
  refine aw_iload_n (pc := 1) (i := 1) (x := at_) F dX_runTrap_1 rfl rfl ?_
  refine aw_iconst (pc := 2) (v := 1) F dX_runTrap_2 (by decide) ?_
  refine aw_iadd (pc := 3) F dX_runTrap_3 ?_
  refine aw_iload_n (pc := 4) (i := 2) (x := rk) F dX_runTrap_4 rfl rfl ?_
  refine aw_iload_n (pc := 5) (i := 3) (x := b) F dX_runTrap_5 rfl rfl ?_
  refine aw_goV (pc := 6) (As := [.int (at_ + (1 : Int32)), .int rk, .int b]) (rest := []) F zC_ok Zs 11 hC_at11 rfl (HK X (at_ + (1 : Int32)) rk b hc1) (cwV 3 F.1.2.2.2.2 (gi_V wd_443 wd_445 wd_24 wd_66 wd_446) rfl rfl rfl (by decide +kernel) ⟨by first | (simp only [aw_rm]; omega) | simp only [aw_rm] | omega, by first | (simp only [aw_rm]; omega) | simp only [aw_rm] | omega⟩) rfl (Nat.le_of_ble_eq_true rfl) ⟨Nat.zero_le _, Nat.zero_le _⟩ rfl dX_runTrap_6 ?_
  show aW _ _ _ _ _ _ _ _ _ _ _ _ _ _ _ _ _ _ _ _ _ [.long ((K X (at_ + (1 : Int32)) rk b).1)]
  refine aw_lstore (pc := 9) (i := 4) (L' := [some (.ref (ad 11)), some (.int at_), some (.int rk), some (.int b), some (.long ((K X (at_ + (1 : Int32)) rk b).1)), none]) F dX_runTrap_9 (by decide) rfl ?_
  refine aw_lload (pc := 11) (i := 4) (x := ((K X (at_ + (1 : Int32)) rk b).1)) F dX_runTrap_11 rfl ?_
  refine aw_goSN (pc := 13) (As := [.long ((K X (at_ + (1 : Int32)) rk b).1)]) (rest := []) F zC_ok Zs (tO_must  S P ((K X (at_ + (1 : Int32)) rk b).2) ((K X (at_ + (1 : Int32)) rk b).1)) ⟨va_cnB 1 F.1.2.2.2.2 (gi_0 wd_454) rfl rfl rfl (nw_m Zs nl_452) (F.1.2.2.2.2 _ (mw wd_75)) (by decide +kernel) ⟨by first | (simp only [aw_rm]; omega) | simp only [aw_rm] | omega, by first | (simp only [aw_rm]; omega) | simp only [aw_rm] | omega⟩, F.1.2.2.2.2 _ (mw wd_453), trivial⟩ rfl (Nat.le_of_ble_eq_true rfl) ⟨Nat.zero_le _, Nat.zero_le _⟩ rfl dX_runTrap_13 ?_
  show aW _ _ _ _ _ _ _ _ _ _ _ _ _ _ _ _ _ _ _ _ _ [.int (fo_must ((K X (at_ + (1 : Int32)) rk b).1))]
  refine aw_goSN (pc := 16) (As := [.int (fo_must ((K X (at_ + (1 : Int32)) rk b).1))]) (rest := []) F zC_ok Zs (tO_codesIn  S P ((K X (at_ + (1 : Int32)) rk b).2) (fo_must ((K X (at_ + (1 : Int32)) rk b).1))) ⟨va_cnB 1 F.1.2.2.2.2 (gi_0 wd_457) rfl rfl rfl (nw_m Zs nl_455) (F.1.2.2.2.2 _ (mw wd_75)) (by decide +kernel) ⟨by first | (simp only [aw_rm]; omega) | simp only [aw_rm] | omega, by first | (simp only [aw_rm]; omega) | simp only [aw_rm] | omega⟩, F.1.2.2.2.2 _ (mw wd_456), trivial⟩ rfl (Nat.le_of_ble_eq_true rfl) ⟨Nat.zero_le _, Nat.zero_le _⟩ rfl dX_runTrap_16 ?_
  show aW _ _ _ _ _ _ _ _ _ _ _ _ _ _ _ _ _ _ _ _ _ [.int (fo_codesIn (fo_must ((K X (at_ + (1 : Int32)) rk b).1)))]
  refine aw_iconst (pc := 19) (v := 4) F dX_runTrap_19 (by decide) ?_
  refine aw_icmp_ne (pc := 20) F 42 dX_runTrap_20 (by decide) (fun c_20 => ?_) (fun c_20 => ?_)
  · skip
    refine aw_lload (pc := 42) (i := 4) (x := ((K X (at_ + (1 : Int32)) rk b).1)) F dX_runTrap_42 rfl ?_
    refine aw_goSN (pc := 44) (As := [.long ((K X (at_ + (1 : Int32)) rk b).1)]) (rest := []) F zC_ok Zs (tO_outsideTrap  S P ((K X (at_ + (1 : Int32)) rk b).2) ((K X (at_ + (1 : Int32)) rk b).1)) ⟨va_cnB 1 F.1.2.2.2.2 (gi_0 wd_464) rfl rfl rfl (nw_m Zs nl_462) (F.1.2.2.2.2 _ (mw wd_75)) (by decide +kernel) ⟨by first | (simp only [aw_rm]; omega) | simp only [aw_rm] | omega, by first | (simp only [aw_rm]; omega) | simp only [aw_rm] | omega⟩, F.1.2.2.2.2 _ (mw wd_463), trivial⟩ rfl (Nat.le_of_ble_eq_true rfl) ⟨Nat.zero_le _, Nat.zero_le _⟩ rfl dX_runTrap_44 ?_
    show aW _ _ _ _ _ _ _ _ _ _ _ _ _ _ _ _ _ _ _ _ _ [.long (fo_outsideTrap ((K X (at_ + (1 : Int32)) rk b).1))]
    exact aw_lret (pc := 47) F hr hlk dX_runTrap_47 (by rw [fr_runTrap, if_neg c_20]) (by rw [fr_runTrap, if_neg c_20])
  · skip
    refine aw_aload_n (pc := 23) (i := 0) (x := ad 11) F dX_runTrap_23 rfl rfl ?_
    refine aw_dup (pc := 24) F dX_runTrap_24 rfl ?_
    refine aw_get (pc := 25) (v := .int (((K X (at_ + (1 : Int32)) rk b).2).1 1)) F 11 hC_at11 rfl 3 (by decide) (fun w h => mw (iw_X w h)) (mw wd_155) rfl dX_runTrap_25 ?_
    refine aw_aload_n (pc := 28) (i := 0) (x := ad 11) F dX_runTrap_28 rfl rfl ?_
    refine aw_get (pc := 29) (v := .ref (ad 1)) F 11 hC_at11 rfl 0 (by decide) (fun w h => mw (iw_X w h)) (mw wd_151) rfl dX_runTrap_29 ?_
    refine aw_iload_n (pc := 32) (i := 1) (x := at_) F dX_runTrap_32 rfl rfl ?_
    refine aw_goVN (pc := 33) (As := [.int at_]) (rest := [.int (((K X (at_ + (1 : Int32)) rk b).2).1 1), .ref (ad 11)]) F zC_ok Zs 1 hC_at1 rfl (tG_pausesIn  S P ((K X (at_ + (1 : Int32)) rk b).2) at_ hS) ⟨va_cnB 1 F.1.2.2.2.2 (gi_0 wd_461) rfl rfl rfl (nw_m Zs nl_458) (F.1.2.2.2.2 _ (mw wd_65)) (by decide +kernel) ⟨by first | (simp only [aw_rm]; omega) | simp only [aw_rm] | omega, by first | (simp only [aw_rm]; omega) | simp only [aw_rm] | omega⟩, F.1.2.2.2.2 _ (mw wd_460), F.1.2.2.2.2 _ (mw wd_26)⟩ rfl (Nat.le_of_ble_eq_true rfl) ⟨Nat.zero_le _, Nat.zero_le _⟩ rfl dX_runTrap_33 ?_
    show aW _ _ _ _ _ _ _ _ _ _ _ _ _ _ _ _ _ _ _ _ _ [.int (fp_pausesIn P at_), .int (((K X (at_ + (1 : Int32)) rk b).2).1 1), .ref (ad 11)]
    refine aw_iconst (pc := 36) (v := -1) F dX_runTrap_36 (by decide) ?_
    refine aw_ixor (pc := 37) F dX_runTrap_37 ?_
    refine aw_iand (pc := 38) F dX_runTrap_38 ?_
    refine aw_put (pc := 39) (hp' := (hC ad cI S P (xw ((K X (at_ + (1 : Int32)) rk b).2) 1 ((((K X (at_ + (1 : Int32)) rk b).2).1 1) &&& ((fp_pausesIn P at_) ^^^ (-1 : Int32)))) ++ tl)) F 11 hC_at11 rfl 3 (by decide) (fun w h => mw (iw_X w h)) tyX tyX_ok nmX (mw wd_155) (ty := .int) rfl (by decide +kernel) rfl rfl (Nat.le_of_ble_eq_true rfl) hC_st11_3 dX_runTrap_39 ?_
    refine aw_lload (pc := 42) (i := 4) (x := ((K X (at_ + (1 : Int32)) rk b).1)) F dX_runTrap_42 rfl ?_
    refine aw_goSN (pc := 44) (As := [.long ((K X (at_ + (1 : Int32)) rk b).1)]) (rest := []) F zC_ok Zs (tO_outsideTrap  S P (xw ((K X (at_ + (1 : Int32)) rk b).2) 1 ((((K X (at_ + (1 : Int32)) rk b).2).1 1) &&& ((fp_pausesIn P at_) ^^^ (-1 : Int32)))) ((K X (at_ + (1 : Int32)) rk b).1)) ⟨va_cnB 1 F.1.2.2.2.2 (gi_0 wd_464) rfl rfl rfl (nw_m Zs nl_462) (F.1.2.2.2.2 _ (mw wd_75)) (by decide +kernel) ⟨by first | (simp only [aw_rm]; omega) | simp only [aw_rm] | omega, by first | (simp only [aw_rm]; omega) | simp only [aw_rm] | omega⟩, F.1.2.2.2.2 _ (mw wd_463), trivial⟩ rfl (Nat.le_of_ble_eq_true rfl) ⟨Nat.zero_le _, Nat.zero_le _⟩ rfl dX_runTrap_44 ?_
    show aW _ _ _ _ _ _ _ _ _ _ _ _ _ _ _ _ _ _ _ _ _ [.long (fo_outsideTrap ((K X (at_ + (1 : Int32)) rk b).1))]
    exact aw_lret (pc := 47) F hr hlk dX_runTrap_47 (by rw [fr_runTrap, if_pos c_20]) (by rw [fr_runTrap, if_pos c_20])
def fr_runWithStatus (K : krT) (P : pT) (X : xT) (at_ : Int32) (rk : Int32) (b : Int32) : Int64 × xT :=
  if (fr_statusAt X ((fp_weightBefore P at_) + rk)) = (2 : Int32) then
    if (fr_statusAt X ((fp_weightBefore P at_) + rk)) = (1 : Int32) then
      (((K (xw (xw X 3 ((X.1 3) &&& (((1 : Int32) <<< ((fp_operandOf P at_) &&& 31)) ^^^ (-1 : Int32)))) 4 (((xw X 3 ((X.1 3) &&& (((1 : Int32) <<< ((fp_operandOf P at_) &&& 31)) ^^^ (-1 : Int32)))).1 4) ||| ((1 : Int32) <<< ((fp_operandOf P at_) &&& 31)))) (at_ + (1 : Int32)) rk b).1), ((K (xw (xw X 3 ((X.1 3) &&& (((1 : Int32) <<< ((fp_operandOf P at_) &&& 31)) ^^^ (-1 : Int32)))) 4 (((xw X 3 ((X.1 3) &&& (((1 : Int32) <<< ((fp_operandOf P at_) &&& 31)) ^^^ (-1 : Int32)))).1 4) ||| ((1 : Int32) <<< ((fp_operandOf P at_) &&& 31)))) (at_ + (1 : Int32)) rk b).2))
    else
      (((K (xw (xw X 3 ((X.1 3) &&& (((1 : Int32) <<< ((fp_operandOf P at_) &&& 31)) ^^^ (-1 : Int32)))) 4 (((xw X 3 ((X.1 3) &&& (((1 : Int32) <<< ((fp_operandOf P at_) &&& 31)) ^^^ (-1 : Int32)))).1 4) &&& (((1 : Int32) <<< ((fp_operandOf P at_) &&& 31)) ^^^ (-1 : Int32)))) (at_ + (1 : Int32)) rk b).1), ((K (xw (xw X 3 ((X.1 3) &&& (((1 : Int32) <<< ((fp_operandOf P at_) &&& 31)) ^^^ (-1 : Int32)))) 4 (((xw X 3 ((X.1 3) &&& (((1 : Int32) <<< ((fp_operandOf P at_) &&& 31)) ^^^ (-1 : Int32)))).1 4) &&& (((1 : Int32) <<< ((fp_operandOf P at_) &&& 31)) ^^^ (-1 : Int32)))) (at_ + (1 : Int32)) rk b).2))
  else
    if (fr_statusAt X ((fp_weightBefore P at_) + rk)) = (1 : Int32) then
      (((K (xw (xw X 3 ((X.1 3) ||| ((1 : Int32) <<< ((fp_operandOf P at_) &&& 31)))) 4 (((xw X 3 ((X.1 3) ||| ((1 : Int32) <<< ((fp_operandOf P at_) &&& 31)))).1 4) ||| ((1 : Int32) <<< ((fp_operandOf P at_) &&& 31)))) (at_ + (1 : Int32)) rk b).1), ((K (xw (xw X 3 ((X.1 3) ||| ((1 : Int32) <<< ((fp_operandOf P at_) &&& 31)))) 4 (((xw X 3 ((X.1 3) ||| ((1 : Int32) <<< ((fp_operandOf P at_) &&& 31)))).1 4) ||| ((1 : Int32) <<< ((fp_operandOf P at_) &&& 31)))) (at_ + (1 : Int32)) rk b).2))
    else
      (((K (xw (xw X 3 ((X.1 3) ||| ((1 : Int32) <<< ((fp_operandOf P at_) &&& 31)))) 4 (((xw X 3 ((X.1 3) ||| ((1 : Int32) <<< ((fp_operandOf P at_) &&& 31)))).1 4) &&& (((1 : Int32) <<< ((fp_operandOf P at_) &&& 31)) ^^^ (-1 : Int32)))) (at_ + (1 : Int32)) rk b).1), ((K (xw (xw X 3 ((X.1 3) ||| ((1 : Int32) <<< ((fp_operandOf P at_) &&& 31)))) 4 (((xw X 3 ((X.1 3) ||| ((1 : Int32) <<< ((fp_operandOf P at_) &&& 31)))).1 4) &&& (((1 : Int32) <<< ((fp_operandOf P at_) &&& 31)) ^^^ (-1 : Int32)))) (at_ + (1 : Int32)) rk b).2))
set_option maxRecDepth 100000 in
set_option maxHeartbeats 4000000 in
theorem tX_runWithStatus {l : Launch} {D : va_G} {A : Nat → Prop} {ad : Nat → Nat} {tP : Nat} {cI : ClassId} {tl : List va_E} {tyr : List (ClassId × FieldType)} {d : Nat} {K : krT} {Cn : Int32 → Prop} (S : kT) (P : pT) (X : xT) (at_ : Int32) (rk : Int32) (b : Int32) (hS : pS P) (hd : 6 ≤ d) (HK : ∀ (X : xT) (a r b : Int32), Cn a → aw_M l yX_run (Cond.code yX_run cX_run 4 (some .long) :: aw_big) d D vwCl ((cI, .int) :: tyr) A ad (zC A tP) [.ref (ad 11), .int a, .int r, .int b] (hC ad cI S P X ++ tl) (some (.long (K X a r b).1)) (hC ad cI S P (K X a r b).2 ++ tl)) (hc1 : Cn (at_ + (1 : Int32))) : aw_M l yX_runWithStatus (Cond.code yX_runWithStatus cX_runWithStatus 6 (some .long) :: aw_big) (d + 1) D vwCl ((cI, .int) :: tyr) A ad (zC A tP) [.ref (ad 11), .int at_, .int rk, .int b] (hC ad cI S P X ++ tl) (some (.long ((fr_runWithStatus K P X at_ rk b).1))) (hC ad cI S P ((fr_runWithStatus K P X at_ rk b).2) ++ tl) := by
  refine aw_met cX_runWithStatus 6 (some .long) [some (.ref (ad 11)), some (.int at_), some (.int rk), some (.int b), none, none] (by decide) rfl (Nat.le_of_ble_eq_true rfl) rfl ?_
  intro p e s m args below meth c F Zs hr hlk
  refine aw_iconst (pc := 0) (v := 1) F dX_runWithStatus_0 (by decide) ?_
  refine aw_aload_n (pc := 1) (i := 0) (x := ad 11) F dX_runWithStatus_1 rfl rfl ?_
  refine aw_get (pc := 2) (v := .ref (ad 1)) F 11 hC_at11 rfl 0 (by decide) (fun w h => mw (iw_X w h)) (mw wd_151) rfl dX_runWithStatus_2 ?_
  refine aw_iload_n (pc := 5) (i := 1) (x := at_) F dX_runWithStatus_5 rfl rfl ?_
  refine aw_goVN (pc := 6) (As := [.int at_]) (rest := [.int (1 : Int32)]) F zC_ok Zs 1 hC_at1 rfl (tG_operandOf  S P X at_ hS) ⟨va_cnB 1 F.1.2.2.2.2 (gi_0 wd_402) rfl rfl rfl (nw_m Zs nl_488) (F.1.2.2.2.2 _ (mw wd_65)) (by decide +kernel) ⟨by first | (simp only [aw_rm]; omega) | simp only [aw_rm] | omega, by first | (simp only [aw_rm]; omega) | simp only [aw_rm] | omega⟩, F.1.2.2.2.2 _ (mw wd_401), F.1.2.2.2.2 _ (mw wd_21)⟩ rfl (Nat.le_of_ble_eq_true rfl) ⟨Nat.zero_le _, Nat.zero_le _⟩ rfl dX_runWithStatus_6 ?_
  show aW _ _ _ _ _ _ _ _ _ _ _ _ _ _ _ _ _ _ _ _ _ [.int (fp_operandOf P at_), .int (1 : Int32)]
  refine aw_ishl (pc := 9) F dX_runWithStatus_9 ?_
  refine aw_istore (pc := 10) (i := 4) (L' := [some (.ref (ad 11)), some (.int at_), some (.int rk), some (.int b), some (.int ((1 : Int32) <<< ((fp_operandOf P at_) &&& 31))), none]) F dX_runWithStatus_10 (by decide) rfl ?_
  refine aw_aload_n (pc := 12) (i := 0) (x := ad 11) F dX_runWithStatus_12 rfl rfl ?_
  refine aw_aload_n (pc := 13) (i := 0) (x := ad 11) F dX_runWithStatus_13 rfl rfl ?_
  refine aw_get (pc := 14) (v := .ref (ad 1)) F 11 hC_at11 rfl 0 (by decide) (fun w h => mw (iw_X w h)) (mw wd_151) rfl dX_runWithStatus_14 ?_
  refine aw_iload_n (pc := 17) (i := 1) (x := at_) F dX_runWithStatus_17 rfl rfl ?_
  refine aw_goVN (pc := 18) (As := [.int at_]) (rest := [.ref (ad 11)]) F zC_ok Zs 1 hC_at1 rfl (tG_weightBefore  S P X at_ hS) ⟨va_cnB 1 F.1.2.2.2.2 (gi_0 wd_492) rfl rfl rfl (nw_m Zs nl_489) (F.1.2.2.2.2 _ (mw wd_65)) (by decide +kernel) ⟨by first | (simp only [aw_rm]; omega) | simp only [aw_rm] | omega, by first | (simp only [aw_rm]; omega) | simp only [aw_rm] | omega⟩, F.1.2.2.2.2 _ (mw wd_491), F.1.2.2.2.2 _ (mw wd_28)⟩ rfl (Nat.le_of_ble_eq_true rfl) ⟨Nat.zero_le _, Nat.zero_le _⟩ rfl dX_runWithStatus_18 ?_
  show aW _ _ _ _ _ _ _ _ _ _ _ _ _ _ _ _ _ _ _ _ _ [.int (fp_weightBefore P at_), .ref (ad 11)]
  refine aw_iload_n (pc := 21) (i := 2) (x := rk) F dX_runWithStatus_21 rfl rfl ?_
  refine aw_iadd (pc := 22) F dX_runWithStatus_22 ?_
  refine aw_goV (pc := 23) (As := [.int ((fp_weightBefore P at_) + rk)]) (rest := []) F zC_ok Zs 11 hC_at11 rfl (tX_statusAt  S P X ((fp_weightBefore P at_) + rk)) (cwV 1 F.1.2.2.2.2 (gi_V wd_497 wd_499 wd_30 wd_66 wd_500) rfl rfl rfl (by decide +kernel) ⟨by first | (simp only [aw_rm]; omega) | simp only [aw_rm] | omega, by first | (simp only [aw_rm]; omega) | simp only [aw_rm] | omega⟩) rfl (Nat.le_of_ble_eq_true rfl) ⟨Nat.zero_le _, Nat.zero_le _⟩ rfl dX_runWithStatus_23 ?_
  show aW _ _ _ _ _ _ _ _ _ _ _ _ _ _ _ _ _ _ _ _ _ [.int (fr_statusAt X ((fp_weightBefore P at_) + rk))]
  refine aw_istore (pc := 26) (i := 5) (L' := [some (.ref (ad 11)), some (.int at_), some (.int rk), some (.int b), some (.int ((1 : Int32) <<< ((fp_operandOf P at_) &&& 31))), some (.int (fr_statusAt X ((fp_weightBefore P at_) + rk)))]) F dX_runWithStatus_26 (by decide) rfl ?_
  refine aw_aload_n (pc := 28) (i := 0) (x := ad 11) F dX_runWithStatus_28 rfl rfl ?_
  refine aw_iload (pc := 29) (i := 5) (x := (fr_statusAt X ((fp_weightBefore P at_) + rk))) F dX_runWithStatus_29 rfl ?_
  refine aw_iconst (pc := 31) (v := 2) F dX_runWithStatus_31 (by decide) ?_
  refine aw_icmp_ne (pc := 32) F 47 dX_runWithStatus_32 (by decide) (fun c_32 => ?_) (fun c_32 => ?_)
  · skip
    refine aw_aload_n (pc := 47) (i := 0) (x := ad 11) F dX_runWithStatus_47 rfl rfl ?_
    refine aw_get (pc := 48) (v := .int (X.1 3)) F 11 hC_at11 rfl 5 (by decide) (fun w h => mw (iw_X w h)) (mw wd_157) rfl dX_runWithStatus_48 ?_
    refine aw_iload (pc := 51) (i := 4) (x := (1 : Int32) <<< ((fp_operandOf P at_) &&& 31)) F dX_runWithStatus_51 rfl ?_
    refine aw_ior (pc := 53) F dX_runWithStatus_53 ?_
    refine aw_put (pc := 54) (hp' := (hC ad cI S P (xw X 3 ((X.1 3) ||| ((1 : Int32) <<< ((fp_operandOf P at_) &&& 31)))) ++ tl)) F 11 hC_at11 rfl 5 (by decide) (fun w h => mw (iw_X w h)) tyX tyX_ok nmX (mw wd_157) (ty := .int) rfl (by decide +kernel) rfl rfl (Nat.le_of_ble_eq_true rfl) hC_st11_5 dX_runWithStatus_54 ?_
    refine aw_aload_n (pc := 57) (i := 0) (x := ad 11) F dX_runWithStatus_57 rfl rfl ?_
    refine aw_iload (pc := 58) (i := 5) (x := (fr_statusAt X ((fp_weightBefore P at_) + rk))) F dX_runWithStatus_58 rfl ?_
    refine aw_iconst (pc := 60) (v := 1) F dX_runWithStatus_60 (by decide) ?_
    refine aw_icmp_ne (pc := 61) F 74 dX_runWithStatus_61 (by decide) (fun c_61 => ?_) (fun c_61 => ?_)
    · skip
      refine aw_aload_n (pc := 74) (i := 0) (x := ad 11) F dX_runWithStatus_74 rfl rfl ?_
      refine aw_get (pc := 75) (v := .int ((xw X 3 ((X.1 3) ||| ((1 : Int32) <<< ((fp_operandOf P at_) &&& 31)))).1 4)) F 11 hC_at11 rfl 6 (by decide) (fun w h => mw (iw_X w h)) (mw wd_159) rfl dX_runWithStatus_75 ?_
      refine aw_iload (pc := 78) (i := 4) (x := (1 : Int32) <<< ((fp_operandOf P at_) &&& 31)) F dX_runWithStatus_78 rfl ?_
      refine aw_iconst (pc := 80) (v := -1) F dX_runWithStatus_80 (by decide) ?_
      refine aw_ixor (pc := 81) F dX_runWithStatus_81 ?_
      refine aw_iand (pc := 82) F dX_runWithStatus_82 ?_
      refine aw_put (pc := 83) (hp' := (hC ad cI S P (xw (xw X 3 ((X.1 3) ||| ((1 : Int32) <<< ((fp_operandOf P at_) &&& 31)))) 4 (((xw X 3 ((X.1 3) ||| ((1 : Int32) <<< ((fp_operandOf P at_) &&& 31)))).1 4) &&& (((1 : Int32) <<< ((fp_operandOf P at_) &&& 31)) ^^^ (-1 : Int32)))) ++ tl)) F 11 hC_at11 rfl 6 (by decide) (fun w h => mw (iw_X w h)) tyX tyX_ok nmX (mw wd_159) (ty := .int) rfl (by decide +kernel) rfl rfl (Nat.le_of_ble_eq_true rfl) hC_st11_6 dX_runWithStatus_83 ?_
      refine aw_aload_n (pc := 86) (i := 0) (x := ad 11) F dX_runWithStatus_86 rfl rfl ?_
      refine aw_iload_n (pc := 87) (i := 1) (x := at_) F dX_runWithStatus_87 rfl rfl ?_
      refine aw_iconst (pc := 88) (v := 1) F dX_runWithStatus_88 (by decide) ?_
      refine aw_iadd (pc := 89) F dX_runWithStatus_89 ?_
      refine aw_iload_n (pc := 90) (i := 2) (x := rk) F dX_runWithStatus_90 rfl rfl ?_
      refine aw_iload_n (pc := 91) (i := 3) (x := b) F dX_runWithStatus_91 rfl rfl ?_
      refine aw_goV (pc := 92) (As := [.int (at_ + (1 : Int32)), .int rk, .int b]) (rest := []) F zC_ok Zs 11 hC_at11 rfl (HK (xw (xw X 3 ((X.1 3) ||| ((1 : Int32) <<< ((fp_operandOf P at_) &&& 31)))) 4 (((xw X 3 ((X.1 3) ||| ((1 : Int32) <<< ((fp_operandOf P at_) &&& 31)))).1 4) &&& (((1 : Int32) <<< ((fp_operandOf P at_) &&& 31)) ^^^ (-1 : Int32)))) (at_ + (1 : Int32)) rk b hc1) (cwV 3 F.1.2.2.2.2 (gi_V wd_443 wd_445 wd_24 wd_66 wd_446) rfl rfl rfl (by decide +kernel) ⟨by first | (simp only [aw_rm]; omega) | simp only [aw_rm] | omega, by first | (simp only [aw_rm]; omega) | simp only [aw_rm] | omega⟩) rfl (Nat.le_of_ble_eq_true rfl) ⟨Nat.zero_le _, Nat.zero_le _⟩ rfl dX_runWithStatus_92 ?_
      show aW _ _ _ _ _ _ _ _ _ _ _ _ _ _ _ _ _ _ _ _ _ [.long ((K (xw (xw X 3 ((X.1 3) ||| ((1 : Int32) <<< ((fp_operandOf P at_) &&& 31)))) 4 (((xw X 3 ((X.1 3) ||| ((1 : Int32) <<< ((fp_operandOf P at_) &&& 31)))).1 4) &&& (((1 : Int32) <<< ((fp_operandOf P at_) &&& 31)) ^^^ (-1 : Int32)))) (at_ + (1 : Int32)) rk b).1)]
      exact aw_lret (pc := 95) F hr hlk dX_runWithStatus_95 (by rw [fr_runWithStatus, if_neg c_32, if_neg c_61]) (by rw [fr_runWithStatus, if_neg c_32, if_neg c_61])
    · skip
      refine aw_aload_n (pc := 64) (i := 0) (x := ad 11) F dX_runWithStatus_64 rfl rfl ?_
      refine aw_get (pc := 65) (v := .int ((xw X 3 ((X.1 3) ||| ((1 : Int32) <<< ((fp_operandOf P at_) &&& 31)))).1 4)) F 11 hC_at11 rfl 6 (by decide) (fun w h => mw (iw_X w h)) (mw wd_159) rfl dX_runWithStatus_65 ?_
      refine aw_iload (pc := 68) (i := 4) (x := (1 : Int32) <<< ((fp_operandOf P at_) &&& 31)) F dX_runWithStatus_68 rfl ?_
      refine aw_ior (pc := 70) F dX_runWithStatus_70 ?_
      refine aw_goto (pc := 71) F 83 dX_runWithStatus_71 (by decide) ?_
      refine aw_put (pc := 83) (hp' := (hC ad cI S P (xw (xw X 3 ((X.1 3) ||| ((1 : Int32) <<< ((fp_operandOf P at_) &&& 31)))) 4 (((xw X 3 ((X.1 3) ||| ((1 : Int32) <<< ((fp_operandOf P at_) &&& 31)))).1 4) ||| ((1 : Int32) <<< ((fp_operandOf P at_) &&& 31)))) ++ tl)) F 11 hC_at11 rfl 6 (by decide) (fun w h => mw (iw_X w h)) tyX tyX_ok nmX (mw wd_159) (ty := .int) rfl (by decide +kernel) rfl rfl (Nat.le_of_ble_eq_true rfl) hC_st11_6 dX_runWithStatus_83 ?_
      refine aw_aload_n (pc := 86) (i := 0) (x := ad 11) F dX_runWithStatus_86 rfl rfl ?_
      refine aw_iload_n (pc := 87) (i := 1) (x := at_) F dX_runWithStatus_87 rfl rfl ?_
      refine aw_iconst (pc := 88) (v := 1) F dX_runWithStatus_88 (by decide) ?_
      refine aw_iadd (pc := 89) F dX_runWithStatus_89 ?_
      refine aw_iload_n (pc := 90) (i := 2) (x := rk) F dX_runWithStatus_90 rfl rfl ?_
      refine aw_iload_n (pc := 91) (i := 3) (x := b) F dX_runWithStatus_91 rfl rfl ?_
      refine aw_goV (pc := 92) (As := [.int (at_ + (1 : Int32)), .int rk, .int b]) (rest := []) F zC_ok Zs 11 hC_at11 rfl (HK (xw (xw X 3 ((X.1 3) ||| ((1 : Int32) <<< ((fp_operandOf P at_) &&& 31)))) 4 (((xw X 3 ((X.1 3) ||| ((1 : Int32) <<< ((fp_operandOf P at_) &&& 31)))).1 4) ||| ((1 : Int32) <<< ((fp_operandOf P at_) &&& 31)))) (at_ + (1 : Int32)) rk b hc1) (cwV 3 F.1.2.2.2.2 (gi_V wd_443 wd_445 wd_24 wd_66 wd_446) rfl rfl rfl (by decide +kernel) ⟨by first | (simp only [aw_rm]; omega) | simp only [aw_rm] | omega, by first | (simp only [aw_rm]; omega) | simp only [aw_rm] | omega⟩) rfl (Nat.le_of_ble_eq_true rfl) ⟨Nat.zero_le _, Nat.zero_le _⟩ rfl dX_runWithStatus_92 ?_
      show aW _ _ _ _ _ _ _ _ _ _ _ _ _ _ _ _ _ _ _ _ _ [.long ((K (xw (xw X 3 ((X.1 3) ||| ((1 : Int32) <<< ((fp_operandOf P at_) &&& 31)))) 4 (((xw X 3 ((X.1 3) ||| ((1 : Int32) <<< ((fp_operandOf P at_) &&& 31)))).1 4) ||| ((1 : Int32) <<< ((fp_operandOf P at_) &&& 31)))) (at_ + (1 : Int32)) rk b).1)]
      exact aw_lret (pc := 95) F hr hlk dX_runWithStatus_95 (by rw [fr_runWithStatus, if_neg c_32, if_pos c_61]) (by rw [fr_runWithStatus, if_neg c_32, if_pos c_61])
  · skip
    refine aw_aload_n (pc := 35) (i := 0) (x := ad 11) F dX_runWithStatus_35 rfl rfl ?_
    refine aw_get (pc := 36) (v := .int (X.1 3)) F 11 hC_at11 rfl 5 (by decide) (fun w h => mw (iw_X w h)) (mw wd_157) rfl dX_runWithStatus_36 ?_
    refine aw_iload (pc := 39) (i := 4) (x := (1 : Int32) <<< ((fp_operandOf P at_) &&& 31)) F dX_runWithStatus_39 rfl ?_
    refine aw_iconst (pc := 41) (v := -1) F dX_runWithStatus_41 (by decide) ?_
    refine aw_ixor (pc := 42) F dX_runWithStatus_42 ?_
    refine aw_iand (pc := 43) F dX_runWithStatus_43 ?_
    refine aw_goto (pc := 44) F 54 dX_runWithStatus_44 (by decide) ?_
    refine aw_put (pc := 54) (hp' := (hC ad cI S P (xw X 3 ((X.1 3) &&& (((1 : Int32) <<< ((fp_operandOf P at_) &&& 31)) ^^^ (-1 : Int32)))) ++ tl)) F 11 hC_at11 rfl 5 (by decide) (fun w h => mw (iw_X w h)) tyX tyX_ok nmX (mw wd_157) (ty := .int) rfl (by decide +kernel) rfl rfl (Nat.le_of_ble_eq_true rfl) hC_st11_5 dX_runWithStatus_54 ?_
    refine aw_aload_n (pc := 57) (i := 0) (x := ad 11) F dX_runWithStatus_57 rfl rfl ?_
    refine aw_iload (pc := 58) (i := 5) (x := (fr_statusAt X ((fp_weightBefore P at_) + rk))) F dX_runWithStatus_58 rfl ?_
    refine aw_iconst (pc := 60) (v := 1) F dX_runWithStatus_60 (by decide) ?_
    refine aw_icmp_ne (pc := 61) F 74 dX_runWithStatus_61 (by decide) (fun c_61 => ?_) (fun c_61 => ?_)
    · skip
      refine aw_aload_n (pc := 74) (i := 0) (x := ad 11) F dX_runWithStatus_74 rfl rfl ?_
      refine aw_get (pc := 75) (v := .int ((xw X 3 ((X.1 3) &&& (((1 : Int32) <<< ((fp_operandOf P at_) &&& 31)) ^^^ (-1 : Int32)))).1 4)) F 11 hC_at11 rfl 6 (by decide) (fun w h => mw (iw_X w h)) (mw wd_159) rfl dX_runWithStatus_75 ?_
      refine aw_iload (pc := 78) (i := 4) (x := (1 : Int32) <<< ((fp_operandOf P at_) &&& 31)) F dX_runWithStatus_78 rfl ?_
      refine aw_iconst (pc := 80) (v := -1) F dX_runWithStatus_80 (by decide) ?_
      refine aw_ixor (pc := 81) F dX_runWithStatus_81 ?_
      refine aw_iand (pc := 82) F dX_runWithStatus_82 ?_
      refine aw_put (pc := 83) (hp' := (hC ad cI S P (xw (xw X 3 ((X.1 3) &&& (((1 : Int32) <<< ((fp_operandOf P at_) &&& 31)) ^^^ (-1 : Int32)))) 4 (((xw X 3 ((X.1 3) &&& (((1 : Int32) <<< ((fp_operandOf P at_) &&& 31)) ^^^ (-1 : Int32)))).1 4) &&& (((1 : Int32) <<< ((fp_operandOf P at_) &&& 31)) ^^^ (-1 : Int32)))) ++ tl)) F 11 hC_at11 rfl 6 (by decide) (fun w h => mw (iw_X w h)) tyX tyX_ok nmX (mw wd_159) (ty := .int) rfl (by decide +kernel) rfl rfl (Nat.le_of_ble_eq_true rfl) hC_st11_6 dX_runWithStatus_83 ?_
      refine aw_aload_n (pc := 86) (i := 0) (x := ad 11) F dX_runWithStatus_86 rfl rfl ?_
      refine aw_iload_n (pc := 87) (i := 1) (x := at_) F dX_runWithStatus_87 rfl rfl ?_
      refine aw_iconst (pc := 88) (v := 1) F dX_runWithStatus_88 (by decide) ?_
      refine aw_iadd (pc := 89) F dX_runWithStatus_89 ?_
      refine aw_iload_n (pc := 90) (i := 2) (x := rk) F dX_runWithStatus_90 rfl rfl ?_
      refine aw_iload_n (pc := 91) (i := 3) (x := b) F dX_runWithStatus_91 rfl rfl ?_
      refine aw_goV (pc := 92) (As := [.int (at_ + (1 : Int32)), .int rk, .int b]) (rest := []) F zC_ok Zs 11 hC_at11 rfl (HK (xw (xw X 3 ((X.1 3) &&& (((1 : Int32) <<< ((fp_operandOf P at_) &&& 31)) ^^^ (-1 : Int32)))) 4 (((xw X 3 ((X.1 3) &&& (((1 : Int32) <<< ((fp_operandOf P at_) &&& 31)) ^^^ (-1 : Int32)))).1 4) &&& (((1 : Int32) <<< ((fp_operandOf P at_) &&& 31)) ^^^ (-1 : Int32)))) (at_ + (1 : Int32)) rk b hc1) (cwV 3 F.1.2.2.2.2 (gi_V wd_443 wd_445 wd_24 wd_66 wd_446) rfl rfl rfl (by decide +kernel) ⟨by first | (simp only [aw_rm]; omega) | simp only [aw_rm] | omega, by first | (simp only [aw_rm]; omega) | simp only [aw_rm] | omega⟩) rfl (Nat.le_of_ble_eq_true rfl) ⟨Nat.zero_le _, Nat.zero_le _⟩ rfl dX_runWithStatus_92 ?_
      show aW _ _ _ _ _ _ _ _ _ _ _ _ _ _ _ _ _ _ _ _ _ [.long ((K (xw (xw X 3 ((X.1 3) &&& (((1 : Int32) <<< ((fp_operandOf P at_) &&& 31)) ^^^ (-1 : Int32)))) 4 (((xw X 3 ((X.1 3) &&& (((1 : Int32) <<< ((fp_operandOf P at_) &&& 31)) ^^^ (-1 : Int32)))).1 4) &&& (((1 : Int32) <<< ((fp_operandOf P at_) &&& 31)) ^^^ (-1 : Int32)))) (at_ + (1 : Int32)) rk b).1)]
      exact aw_lret (pc := 95) F hr hlk dX_runWithStatus_95 (by rw [fr_runWithStatus, if_pos c_32, if_neg c_61]) (by rw [fr_runWithStatus, if_pos c_32, if_neg c_61])
    · skip
      refine aw_aload_n (pc := 64) (i := 0) (x := ad 11) F dX_runWithStatus_64 rfl rfl ?_
      refine aw_get (pc := 65) (v := .int ((xw X 3 ((X.1 3) &&& (((1 : Int32) <<< ((fp_operandOf P at_) &&& 31)) ^^^ (-1 : Int32)))).1 4)) F 11 hC_at11 rfl 6 (by decide) (fun w h => mw (iw_X w h)) (mw wd_159) rfl dX_runWithStatus_65 ?_
      refine aw_iload (pc := 68) (i := 4) (x := (1 : Int32) <<< ((fp_operandOf P at_) &&& 31)) F dX_runWithStatus_68 rfl ?_
      refine aw_ior (pc := 70) F dX_runWithStatus_70 ?_
      refine aw_goto (pc := 71) F 83 dX_runWithStatus_71 (by decide) ?_
      refine aw_put (pc := 83) (hp' := (hC ad cI S P (xw (xw X 3 ((X.1 3) &&& (((1 : Int32) <<< ((fp_operandOf P at_) &&& 31)) ^^^ (-1 : Int32)))) 4 (((xw X 3 ((X.1 3) &&& (((1 : Int32) <<< ((fp_operandOf P at_) &&& 31)) ^^^ (-1 : Int32)))).1 4) ||| ((1 : Int32) <<< ((fp_operandOf P at_) &&& 31)))) ++ tl)) F 11 hC_at11 rfl 6 (by decide) (fun w h => mw (iw_X w h)) tyX tyX_ok nmX (mw wd_159) (ty := .int) rfl (by decide +kernel) rfl rfl (Nat.le_of_ble_eq_true rfl) hC_st11_6 dX_runWithStatus_83 ?_
      refine aw_aload_n (pc := 86) (i := 0) (x := ad 11) F dX_runWithStatus_86 rfl rfl ?_
      refine aw_iload_n (pc := 87) (i := 1) (x := at_) F dX_runWithStatus_87 rfl rfl ?_
      refine aw_iconst (pc := 88) (v := 1) F dX_runWithStatus_88 (by decide) ?_
      refine aw_iadd (pc := 89) F dX_runWithStatus_89 ?_
      refine aw_iload_n (pc := 90) (i := 2) (x := rk) F dX_runWithStatus_90 rfl rfl ?_
      refine aw_iload_n (pc := 91) (i := 3) (x := b) F dX_runWithStatus_91 rfl rfl ?_
      refine aw_goV (pc := 92) (As := [.int (at_ + (1 : Int32)), .int rk, .int b]) (rest := []) F zC_ok Zs 11 hC_at11 rfl (HK (xw (xw X 3 ((X.1 3) &&& (((1 : Int32) <<< ((fp_operandOf P at_) &&& 31)) ^^^ (-1 : Int32)))) 4 (((xw X 3 ((X.1 3) &&& (((1 : Int32) <<< ((fp_operandOf P at_) &&& 31)) ^^^ (-1 : Int32)))).1 4) ||| ((1 : Int32) <<< ((fp_operandOf P at_) &&& 31)))) (at_ + (1 : Int32)) rk b hc1) (cwV 3 F.1.2.2.2.2 (gi_V wd_443 wd_445 wd_24 wd_66 wd_446) rfl rfl rfl (by decide +kernel) ⟨by first | (simp only [aw_rm]; omega) | simp only [aw_rm] | omega, by first | (simp only [aw_rm]; omega) | simp only [aw_rm] | omega⟩) rfl (Nat.le_of_ble_eq_true rfl) ⟨Nat.zero_le _, Nat.zero_le _⟩ rfl dX_runWithStatus_92 ?_
      show aW _ _ _ _ _ _ _ _ _ _ _ _ _ _ _ _ _ _ _ _ _ [.long ((K (xw (xw X 3 ((X.1 3) &&& (((1 : Int32) <<< ((fp_operandOf P at_) &&& 31)) ^^^ (-1 : Int32)))) 4 (((xw X 3 ((X.1 3) &&& (((1 : Int32) <<< ((fp_operandOf P at_) &&& 31)) ^^^ (-1 : Int32)))).1 4) ||| ((1 : Int32) <<< ((fp_operandOf P at_) &&& 31)))) (at_ + (1 : Int32)) rk b).1)]
      exact aw_lret (pc := 95) F hr hlk dX_runWithStatus_95 (by rw [fr_runWithStatus, if_pos c_32, if_pos c_61]) (by rw [fr_runWithStatus, if_pos c_32, if_pos c_61])
def fr_runLocal (K : krT) (P : pT) (X : xT) (at_ : Int32) (rk : Int32) (b : Int32) : Int64 × xT :=
  if (fr_statusAt ((fr_runWithStatus K P X at_ rk b).2) ((fp_weightBefore P at_) + rk)) = (2 : Int32) then
    if ((fr_learnLocal ((fr_runWithStatus K P X at_ rk b).2) ((fp_weightBefore P at_) + rk) (fp_operandOf P at_) ((fr_runWithStatus K P X at_ rk b).1)).1) = 0 then
      ((fo_withoutSignal ((fr_runWithStatus K P X at_ rk b).1) (fp_operandOf P at_)), (xw (xw ((fr_learnLocal ((fr_runWithStatus K P X at_ rk b).2) ((fp_weightBefore P at_) + rk) (fp_operandOf P at_) ((fr_runWithStatus K P X at_ rk b).1)).2) 3 (X.1 3)) 4 (X.1 4)))
    else
      ((fo_withoutSignal ((fr_runWithStatus K P ((fr_learnLocal ((fr_runWithStatus K P X at_ rk b).2) ((fp_weightBefore P at_) + rk) (fp_operandOf P at_) ((fr_runWithStatus K P X at_ rk b).1)).2) at_ rk b).1) (fp_operandOf P at_)), (xw (xw ((fr_runWithStatus K P ((fr_learnLocal ((fr_runWithStatus K P X at_ rk b).2) ((fp_weightBefore P at_) + rk) (fp_operandOf P at_) ((fr_runWithStatus K P X at_ rk b).1)).2) at_ rk b).2) 3 (X.1 3)) 4 (X.1 4)))
  else
    ((fo_withoutSignal ((fr_runWithStatus K P X at_ rk b).1) (fp_operandOf P at_)), (xw (xw ((fr_runWithStatus K P X at_ rk b).2) 3 (X.1 3)) 4 (X.1 4)))
set_option maxRecDepth 100000 in
set_option maxHeartbeats 4000000 in
theorem tX_runLocal {l : Launch} {D : va_G} {A : Nat → Prop} {ad : Nat → Nat} {tP : Nat} {cI : ClassId} {tl : List va_E} {tyr : List (ClassId × FieldType)} {d : Nat} {K : krT} {Cn : Int32 → Prop} (S : kT) (P : pT) (X : xT) (at_ : Int32) (rk : Int32) (b : Int32) (hS : pS P) (hd : 6 ≤ d) (HK : ∀ (X : xT) (a r b : Int32), Cn a → aw_M l yX_run (Cond.code yX_run cX_run 4 (some .long) :: aw_big) d D vwCl ((cI, .int) :: tyr) A ad (zC A tP) [.ref (ad 11), .int a, .int r, .int b] (hC ad cI S P X ++ tl) (some (.long (K X a r b).1)) (hC ad cI S P (K X a r b).2 ++ tl)) (hc1 : Cn (at_ + (1 : Int32))) : aw_M l yX_runLocal (Cond.code yX_runLocal cX_runLocal 10 (some .long) :: aw_big) (d + 2) D vwCl ((cI, .int) :: tyr) A ad (zC A tP) [.ref (ad 11), .int at_, .int rk, .int b] (hC ad cI S P X ++ tl) (some (.long ((fr_runLocal K P X at_ rk b).1))) (hC ad cI S P ((fr_runLocal K P X at_ rk b).2) ++ tl) := by
  refine aw_met cX_runLocal 10 (some .long) [some (.ref (ad 11)), some (.int at_), some (.int rk), some (.int b), none, none, none, none, none, none] (by decide) rfl (Nat.le_of_ble_eq_true rfl) rfl ?_
  intro p e s m args below meth c F Zs hr hlk
  refine aw_aload_n (pc := 0) (i := 0) (x := ad 11) F dX_runLocal_0 rfl rfl ?_
  refine aw_get (pc := 1) (v := .ref (ad 1)) F 11 hC_at11 rfl 0 (by decide) (fun w h => mw (iw_X w h)) (mw wd_151) rfl dX_runLocal_1 ?_
  refine aw_iload_n (pc := 4) (i := 1) (x := at_) F dX_runLocal_4 rfl rfl ?_
  refine aw_goVN (pc := 5) (As := [.int at_]) (rest := []) F zC_ok Zs 1 hC_at1 rfl (tG_operandOf  S P X at_ hS) ⟨va_cnB 1 F.1.2.2.2.2 (gi_0 wd_402) rfl rfl rfl (nw_m Zs nl_488) (F.1.2.2.2.2 _ (mw wd_65)) (by decide +kernel) ⟨by first | (simp only [aw_rm]; omega) | simp only [aw_rm] | omega, by first | (simp only [aw_rm]; omega) | simp only [aw_rm] | omega⟩, F.1.2.2.2.2 _ (mw wd_401), F.1.2.2.2.2 _ (mw wd_21)⟩ rfl (Nat.le_of_ble_eq_true rfl) ⟨Nat.zero_le _, Nat.zero_le _⟩ rfl dX_runLocal_5 ?_
  show aW _ _ _ _ _ _ _ _ _ _ _ _ _ _ _ _ _ _ _ _ _ [.int (fp_operandOf P at_)]
  refine aw_istore (pc := 8) (i := 4) (L' := [some (.ref (ad 11)), some (.int at_), some (.int rk), some (.int b), some (.int (fp_operandOf P at_)), none, none, none, none, none]) F dX_runLocal_8 (by decide) rfl ?_
  refine aw_aload_n (pc := 10) (i := 0) (x := ad 11) F dX_runLocal_10 rfl rfl ?_
  refine aw_get (pc := 11) (v := .ref (ad 1)) F 11 hC_at11 rfl 0 (by decide) (fun w h => mw (iw_X w h)) (mw wd_151) rfl dX_runLocal_11 ?_
  refine aw_iload_n (pc := 14) (i := 1) (x := at_) F dX_runLocal_14 rfl rfl ?_
  refine aw_goVN (pc := 15) (As := [.int at_]) (rest := []) F zC_ok Zs 1 hC_at1 rfl (tG_weightBefore  S P X at_ hS) ⟨va_cnB 1 F.1.2.2.2.2 (gi_0 wd_492) rfl rfl rfl (nw_m Zs nl_489) (F.1.2.2.2.2 _ (mw wd_65)) (by decide +kernel) ⟨by first | (simp only [aw_rm]; omega) | simp only [aw_rm] | omega, by first | (simp only [aw_rm]; omega) | simp only [aw_rm] | omega⟩, F.1.2.2.2.2 _ (mw wd_491), F.1.2.2.2.2 _ (mw wd_28)⟩ rfl (Nat.le_of_ble_eq_true rfl) ⟨Nat.zero_le _, Nat.zero_le _⟩ rfl dX_runLocal_15 ?_
  show aW _ _ _ _ _ _ _ _ _ _ _ _ _ _ _ _ _ _ _ _ _ [.int (fp_weightBefore P at_)]
  refine aw_iload_n (pc := 18) (i := 2) (x := rk) F dX_runLocal_18 rfl rfl ?_
  refine aw_iadd (pc := 19) F dX_runLocal_19 ?_
  refine aw_istore (pc := 20) (i := 5) (L' := [some (.ref (ad 11)), some (.int at_), some (.int rk), some (.int b), some (.int (fp_operandOf P at_)), some (.int ((fp_weightBefore P at_) + rk)), none, none, none, none]) F dX_runLocal_20 (by decide) rfl ?_
  refine aw_aload_n (pc := 22) (i := 0) (x := ad 11) F dX_runLocal_22 rfl rfl ?_
  refine aw_get (pc := 23) (v := .int (X.1 3)) F 11 hC_at11 rfl 5 (by decide) (fun w h => mw (iw_X w h)) (mw wd_157) rfl dX_runLocal_23 ?_
  refine aw_istore (pc := 26) (i := 6) (L' := [some (.ref (ad 11)), some (.int at_), some (.int rk), some (.int b), some (.int (fp_operandOf P at_)), some (.int ((fp_weightBefore P at_) + rk)), some (.int (X.1 3)), none, none, none]) F dX_runLocal_26 (by decide) rfl ?_
  refine aw_aload_n (pc := 28) (i := 0) (x := ad 11) F dX_runLocal_28 rfl rfl ?_
  refine aw_get (pc := 29) (v := .int (X.1 4)) F 11 hC_at11 rfl 6 (by decide) (fun w h => mw (iw_X w h)) (mw wd_159) rfl dX_runLocal_29 ?_
  refine aw_istore (pc := 32) (i := 7) (L' := [some (.ref (ad 11)), some (.int at_), some (.int rk), some (.int b), some (.int (fp_operandOf P at_)), some (.int ((fp_weightBefore P at_) + rk)), some (.int (X.1 3)), some (.int (X.1 4)), none, none]) F dX_runLocal_32 (by decide) rfl ?_
  refine aw_aload_n (pc := 34) (i := 0) (x := ad 11) F dX_runLocal_34 rfl rfl ?_
  refine aw_iload_n (pc := 35) (i := 1) (x := at_) F dX_runLocal_35 rfl rfl ?_
  refine aw_iload_n (pc := 36) (i := 2) (x := rk) F dX_runLocal_36 rfl rfl ?_
  refine aw_iload_n (pc := 37) (i := 3) (x := b) F dX_runLocal_37 rfl rfl ?_
  refine aw_goV (pc := 38) (As := [.int at_, .int rk, .int b]) (rest := []) F zC_ok Zs 11 hC_at11 rfl (tX_runWithStatus  S P X at_ rk b hS hd HK hc1) (cwV 3 F.1.2.2.2.2 (gi_V wd_493 wd_495 wd_29 wd_66 wd_496) rfl rfl rfl (by decide +kernel) ⟨by first | (simp only [aw_rm]; omega) | simp only [aw_rm] | omega, by first | (simp only [aw_rm]; omega) | simp only [aw_rm] | omega⟩) rfl (Nat.le_of_ble_eq_true rfl) ⟨Nat.zero_le _, Nat.zero_le _⟩ rfl dX_runLocal_38 ?_
  show aW _ _ _ _ _ _ _ _ _ _ _ _ _ _ _ _ _ _ _ _ _ [.long ((fr_runWithStatus K P X at_ rk b).1)]
  refine aw_lstore (pc := 41) (i := 8) (L' := [some (.ref (ad 11)), some (.int at_), some (.int rk), some (.int b), some (.int (fp_operandOf P at_)), some (.int ((fp_weightBefore P at_) + rk)), some (.int (X.1 3)), some (.int (X.1 4)), some (.long ((fr_runWithStatus K P X at_ rk b).1)), none]) F dX_runLocal_41 (by decide) rfl ?_
  refine aw_aload_n (pc := 43) (i := 0) (x := ad 11) F dX_runLocal_43 rfl rfl ?_
  refine aw_iload (pc := 44) (i := 5) (x := (fp_weightBefore P at_) + rk) F dX_runLocal_44 rfl ?_
  refine aw_goV (pc := 46) (As := [.int ((fp_weightBefore P at_) + rk)]) (rest := []) F zC_ok Zs 11 hC_at11 rfl (tX_statusAt  S P ((fr_runWithStatus K P X at_ rk b).2) ((fp_weightBefore P at_) + rk)) (cwV 1 F.1.2.2.2.2 (gi_V wd_497 wd_499 wd_30 wd_66 wd_500) rfl rfl rfl (by decide +kernel) ⟨by first | (simp only [aw_rm]; omega) | simp only [aw_rm] | omega, by first | (simp only [aw_rm]; omega) | simp only [aw_rm] | omega⟩) rfl (Nat.le_of_ble_eq_true rfl) ⟨Nat.zero_le _, Nat.zero_le _⟩ rfl dX_runLocal_46 ?_
  show aW _ _ _ _ _ _ _ _ _ _ _ _ _ _ _ _ _ _ _ _ _ [.int (fr_statusAt ((fr_runWithStatus K P X at_ rk b).2) ((fp_weightBefore P at_) + rk))]
  refine aw_iconst (pc := 49) (v := 2) F dX_runLocal_49 (by decide) ?_
  refine aw_icmp_ne (pc := 50) F 75 dX_runLocal_50 (by decide) (fun c_50 => ?_) (fun c_50 => ?_)
  · skip
    refine aw_aload_n (pc := 75) (i := 0) (x := ad 11) F dX_runLocal_75 rfl rfl ?_
    refine aw_iload (pc := 76) (i := 6) (x := (X.1 3)) F dX_runLocal_76 rfl ?_
    refine aw_put (pc := 78) (hp' := (hC ad cI S P (xw ((fr_runWithStatus K P X at_ rk b).2) 3 (X.1 3)) ++ tl)) F 11 hC_at11 rfl 5 (by decide) (fun w h => mw (iw_X w h)) tyX tyX_ok nmX (mw wd_157) (ty := .int) rfl (by decide +kernel) rfl rfl (Nat.le_of_ble_eq_true rfl) hC_st11_5 dX_runLocal_78 ?_
    refine aw_aload_n (pc := 81) (i := 0) (x := ad 11) F dX_runLocal_81 rfl rfl ?_
    refine aw_iload (pc := 82) (i := 7) (x := (X.1 4)) F dX_runLocal_82 rfl ?_
    refine aw_put (pc := 84) (hp' := (hC ad cI S P (xw (xw ((fr_runWithStatus K P X at_ rk b).2) 3 (X.1 3)) 4 (X.1 4)) ++ tl)) F 11 hC_at11 rfl 6 (by decide) (fun w h => mw (iw_X w h)) tyX tyX_ok nmX (mw wd_159) (ty := .int) rfl (by decide +kernel) rfl rfl (Nat.le_of_ble_eq_true rfl) hC_st11_6 dX_runLocal_84 ?_
    refine aw_lload (pc := 87) (i := 8) (x := ((fr_runWithStatus K P X at_ rk b).1)) F dX_runLocal_87 rfl ?_
    refine aw_iload (pc := 89) (i := 4) (x := (fp_operandOf P at_)) F dX_runLocal_89 rfl ?_
    refine aw_goSN (pc := 91) (As := [.long ((fr_runWithStatus K P X at_ rk b).1), .int (fp_operandOf P at_)]) (rest := []) F zC_ok Zs (tO_withoutSignal  S P (xw (xw ((fr_runWithStatus K P X at_ rk b).2) 3 (X.1 3)) 4 (X.1 4)) ((fr_runWithStatus K P X at_ rk b).1) (fp_operandOf P at_)) ⟨va_cnB 2 F.1.2.2.2.2 (gi_0 wd_515) rfl rfl rfl (nw_m Zs nl_513) (F.1.2.2.2.2 _ (mw wd_75)) (by decide +kernel) ⟨by first | (simp only [aw_rm]; omega) | simp only [aw_rm] | omega, by first | (simp only [aw_rm]; omega) | simp only [aw_rm] | omega⟩, F.1.2.2.2.2 _ (mw wd_514), trivial⟩ rfl (Nat.le_of_ble_eq_true rfl) ⟨Nat.zero_le _, Nat.zero_le _⟩ rfl dX_runLocal_91 ?_
    show aW _ _ _ _ _ _ _ _ _ _ _ _ _ _ _ _ _ _ _ _ _ [.long (fo_withoutSignal ((fr_runWithStatus K P X at_ rk b).1) (fp_operandOf P at_))]
    exact aw_lret (pc := 94) F hr hlk dX_runLocal_94 (by rw [fr_runLocal, if_neg c_50]) (by rw [fr_runLocal, if_neg c_50])
  · skip
    refine aw_aload_n (pc := 53) (i := 0) (x := ad 11) F dX_runLocal_53 rfl rfl ?_
    refine aw_iload (pc := 54) (i := 5) (x := (fp_weightBefore P at_) + rk) F dX_runLocal_54 rfl ?_
    refine aw_iload (pc := 56) (i := 4) (x := (fp_operandOf P at_)) F dX_runLocal_56 rfl ?_
    refine aw_lload (pc := 58) (i := 8) (x := ((fr_runWithStatus K P X at_ rk b).1)) F dX_runLocal_58 rfl ?_
    refine aw_goV (pc := 60) (As := [.int ((fp_weightBefore P at_) + rk), .int (fp_operandOf P at_), .long ((fr_runWithStatus K P X at_ rk b).1)]) (rest := []) F zC_ok Zs 11 hC_at11 rfl (tX_learnLocal  S P ((fr_runWithStatus K P X at_ rk b).2) ((fp_weightBefore P at_) + rk) (fp_operandOf P at_) ((fr_runWithStatus K P X at_ rk b).1)) (cwV 3 F.1.2.2.2.2 (gi_V wd_501 wd_503 wd_31 wd_66 wd_504) rfl rfl rfl (by decide +kernel) ⟨by first | (simp only [aw_rm]; omega) | simp only [aw_rm] | omega, by first | (simp only [aw_rm]; omega) | simp only [aw_rm] | omega⟩) rfl (Nat.le_of_ble_eq_true rfl) ⟨Nat.zero_le _, Nat.zero_le _⟩ rfl dX_runLocal_60 ?_
    show aW _ _ _ _ _ _ _ _ _ _ _ _ _ _ _ _ _ _ _ _ _ [.int ((fr_learnLocal ((fr_runWithStatus K P X at_ rk b).2) ((fp_weightBefore P at_) + rk) (fp_operandOf P at_) ((fr_runWithStatus K P X at_ rk b).1)).1)]
    refine aw_if_eq (pc := 63) F 75 dX_runLocal_63 (by decide) (fun c_63 => ?_) (fun c_63 => ?_)
    · skip
      refine aw_aload_n (pc := 75) (i := 0) (x := ad 11) F dX_runLocal_75 rfl rfl ?_
      refine aw_iload (pc := 76) (i := 6) (x := (X.1 3)) F dX_runLocal_76 rfl ?_
      refine aw_put (pc := 78) (hp' := (hC ad cI S P (xw ((fr_learnLocal ((fr_runWithStatus K P X at_ rk b).2) ((fp_weightBefore P at_) + rk) (fp_operandOf P at_) ((fr_runWithStatus K P X at_ rk b).1)).2) 3 (X.1 3)) ++ tl)) F 11 hC_at11 rfl 5 (by decide) (fun w h => mw (iw_X w h)) tyX tyX_ok nmX (mw wd_157) (ty := .int) rfl (by decide +kernel) rfl rfl (Nat.le_of_ble_eq_true rfl) hC_st11_5 dX_runLocal_78 ?_
      refine aw_aload_n (pc := 81) (i := 0) (x := ad 11) F dX_runLocal_81 rfl rfl ?_
      refine aw_iload (pc := 82) (i := 7) (x := (X.1 4)) F dX_runLocal_82 rfl ?_
      refine aw_put (pc := 84) (hp' := (hC ad cI S P (xw (xw ((fr_learnLocal ((fr_runWithStatus K P X at_ rk b).2) ((fp_weightBefore P at_) + rk) (fp_operandOf P at_) ((fr_runWithStatus K P X at_ rk b).1)).2) 3 (X.1 3)) 4 (X.1 4)) ++ tl)) F 11 hC_at11 rfl 6 (by decide) (fun w h => mw (iw_X w h)) tyX tyX_ok nmX (mw wd_159) (ty := .int) rfl (by decide +kernel) rfl rfl (Nat.le_of_ble_eq_true rfl) hC_st11_6 dX_runLocal_84 ?_
      refine aw_lload (pc := 87) (i := 8) (x := ((fr_runWithStatus K P X at_ rk b).1)) F dX_runLocal_87 rfl ?_
      refine aw_iload (pc := 89) (i := 4) (x := (fp_operandOf P at_)) F dX_runLocal_89 rfl ?_
      refine aw_goSN (pc := 91) (As := [.long ((fr_runWithStatus K P X at_ rk b).1), .int (fp_operandOf P at_)]) (rest := []) F zC_ok Zs (tO_withoutSignal  S P (xw (xw ((fr_learnLocal ((fr_runWithStatus K P X at_ rk b).2) ((fp_weightBefore P at_) + rk) (fp_operandOf P at_) ((fr_runWithStatus K P X at_ rk b).1)).2) 3 (X.1 3)) 4 (X.1 4)) ((fr_runWithStatus K P X at_ rk b).1) (fp_operandOf P at_)) ⟨va_cnB 2 F.1.2.2.2.2 (gi_0 wd_515) rfl rfl rfl (nw_m Zs nl_513) (F.1.2.2.2.2 _ (mw wd_75)) (by decide +kernel) ⟨by first | (simp only [aw_rm]; omega) | simp only [aw_rm] | omega, by first | (simp only [aw_rm]; omega) | simp only [aw_rm] | omega⟩, F.1.2.2.2.2 _ (mw wd_514), trivial⟩ rfl (Nat.le_of_ble_eq_true rfl) ⟨Nat.zero_le _, Nat.zero_le _⟩ rfl dX_runLocal_91 ?_
      show aW _ _ _ _ _ _ _ _ _ _ _ _ _ _ _ _ _ _ _ _ _ [.long (fo_withoutSignal ((fr_runWithStatus K P X at_ rk b).1) (fp_operandOf P at_))]
      exact aw_lret (pc := 94) F hr hlk dX_runLocal_94 (by rw [fr_runLocal, if_pos c_50, if_pos c_63]) (by rw [fr_runLocal, if_pos c_50, if_pos c_63])
    · skip
      refine aw_aload_n (pc := 66) (i := 0) (x := ad 11) F dX_runLocal_66 rfl rfl ?_
      refine aw_iload_n (pc := 67) (i := 1) (x := at_) F dX_runLocal_67 rfl rfl ?_
      refine aw_iload_n (pc := 68) (i := 2) (x := rk) F dX_runLocal_68 rfl rfl ?_
      refine aw_iload_n (pc := 69) (i := 3) (x := b) F dX_runLocal_69 rfl rfl ?_
      refine aw_goV (pc := 70) (As := [.int at_, .int rk, .int b]) (rest := []) F zC_ok Zs 11 hC_at11 rfl (tX_runWithStatus  S P ((fr_learnLocal ((fr_runWithStatus K P X at_ rk b).2) ((fp_weightBefore P at_) + rk) (fp_operandOf P at_) ((fr_runWithStatus K P X at_ rk b).1)).2) at_ rk b hS hd HK hc1) (cwV 3 F.1.2.2.2.2 (gi_V wd_493 wd_495 wd_29 wd_66 wd_496) rfl rfl rfl (by decide +kernel) ⟨by first | (simp only [aw_rm]; omega) | simp only [aw_rm] | omega, by first | (simp only [aw_rm]; omega) | simp only [aw_rm] | omega⟩) rfl (Nat.le_of_ble_eq_true rfl) ⟨Nat.zero_le _, Nat.zero_le _⟩ rfl dX_runLocal_70 ?_
      show aW _ _ _ _ _ _ _ _ _ _ _ _ _ _ _ _ _ _ _ _ _ [.long ((fr_runWithStatus K P ((fr_learnLocal ((fr_runWithStatus K P X at_ rk b).2) ((fp_weightBefore P at_) + rk) (fp_operandOf P at_) ((fr_runWithStatus K P X at_ rk b).1)).2) at_ rk b).1)]
      refine aw_lstore (pc := 73) (i := 8) (L' := [some (.ref (ad 11)), some (.int at_), some (.int rk), some (.int b), some (.int (fp_operandOf P at_)), some (.int ((fp_weightBefore P at_) + rk)), some (.int (X.1 3)), some (.int (X.1 4)), some (.long ((fr_runWithStatus K P ((fr_learnLocal ((fr_runWithStatus K P X at_ rk b).2) ((fp_weightBefore P at_) + rk) (fp_operandOf P at_) ((fr_runWithStatus K P X at_ rk b).1)).2) at_ rk b).1)), none]) F dX_runLocal_73 (by decide) rfl ?_
      refine aw_aload_n (pc := 75) (i := 0) (x := ad 11) F dX_runLocal_75 rfl rfl ?_
      refine aw_iload (pc := 76) (i := 6) (x := (X.1 3)) F dX_runLocal_76 rfl ?_
      refine aw_put (pc := 78) (hp' := (hC ad cI S P (xw ((fr_runWithStatus K P ((fr_learnLocal ((fr_runWithStatus K P X at_ rk b).2) ((fp_weightBefore P at_) + rk) (fp_operandOf P at_) ((fr_runWithStatus K P X at_ rk b).1)).2) at_ rk b).2) 3 (X.1 3)) ++ tl)) F 11 hC_at11 rfl 5 (by decide) (fun w h => mw (iw_X w h)) tyX tyX_ok nmX (mw wd_157) (ty := .int) rfl (by decide +kernel) rfl rfl (Nat.le_of_ble_eq_true rfl) hC_st11_5 dX_runLocal_78 ?_
      refine aw_aload_n (pc := 81) (i := 0) (x := ad 11) F dX_runLocal_81 rfl rfl ?_
      refine aw_iload (pc := 82) (i := 7) (x := (X.1 4)) F dX_runLocal_82 rfl ?_
      refine aw_put (pc := 84) (hp' := (hC ad cI S P (xw (xw ((fr_runWithStatus K P ((fr_learnLocal ((fr_runWithStatus K P X at_ rk b).2) ((fp_weightBefore P at_) + rk) (fp_operandOf P at_) ((fr_runWithStatus K P X at_ rk b).1)).2) at_ rk b).2) 3 (X.1 3)) 4 (X.1 4)) ++ tl)) F 11 hC_at11 rfl 6 (by decide) (fun w h => mw (iw_X w h)) tyX tyX_ok nmX (mw wd_159) (ty := .int) rfl (by decide +kernel) rfl rfl (Nat.le_of_ble_eq_true rfl) hC_st11_6 dX_runLocal_84 ?_
      refine aw_lload (pc := 87) (i := 8) (x := ((fr_runWithStatus K P ((fr_learnLocal ((fr_runWithStatus K P X at_ rk b).2) ((fp_weightBefore P at_) + rk) (fp_operandOf P at_) ((fr_runWithStatus K P X at_ rk b).1)).2) at_ rk b).1)) F dX_runLocal_87 rfl ?_
      refine aw_iload (pc := 89) (i := 4) (x := (fp_operandOf P at_)) F dX_runLocal_89 rfl ?_
      refine aw_goSN (pc := 91) (As := [.long ((fr_runWithStatus K P ((fr_learnLocal ((fr_runWithStatus K P X at_ rk b).2) ((fp_weightBefore P at_) + rk) (fp_operandOf P at_) ((fr_runWithStatus K P X at_ rk b).1)).2) at_ rk b).1), .int (fp_operandOf P at_)]) (rest := []) F zC_ok Zs (tO_withoutSignal  S P (xw (xw ((fr_runWithStatus K P ((fr_learnLocal ((fr_runWithStatus K P X at_ rk b).2) ((fp_weightBefore P at_) + rk) (fp_operandOf P at_) ((fr_runWithStatus K P X at_ rk b).1)).2) at_ rk b).2) 3 (X.1 3)) 4 (X.1 4)) ((fr_runWithStatus K P ((fr_learnLocal ((fr_runWithStatus K P X at_ rk b).2) ((fp_weightBefore P at_) + rk) (fp_operandOf P at_) ((fr_runWithStatus K P X at_ rk b).1)).2) at_ rk b).1) (fp_operandOf P at_)) ⟨va_cnB 2 F.1.2.2.2.2 (gi_0 wd_515) rfl rfl rfl (nw_m Zs nl_513) (F.1.2.2.2.2 _ (mw wd_75)) (by decide +kernel) ⟨by first | (simp only [aw_rm]; omega) | simp only [aw_rm] | omega, by first | (simp only [aw_rm]; omega) | simp only [aw_rm] | omega⟩, F.1.2.2.2.2 _ (mw wd_514), trivial⟩ rfl (Nat.le_of_ble_eq_true rfl) ⟨Nat.zero_le _, Nat.zero_le _⟩ rfl dX_runLocal_91 ?_
      show aW _ _ _ _ _ _ _ _ _ _ _ _ _ _ _ _ _ _ _ _ _ [.long (fo_withoutSignal ((fr_runWithStatus K P ((fr_learnLocal ((fr_runWithStatus K P X at_ rk b).2) ((fp_weightBefore P at_) + rk) (fp_operandOf P at_) ((fr_runWithStatus K P X at_ rk b).1)).2) at_ rk b).1) (fp_operandOf P at_))]
      exact aw_lret (pc := 94) F hr hlk dX_runLocal_94 (by rw [fr_runLocal, if_pos c_50, if_neg c_63]) (by rw [fr_runLocal, if_pos c_50, if_neg c_63])
def fr_run1 (K : krT) (P : pT) (X : xT) (at_ : Int32) (rk : Int32) (b : Int32) : Int64 × xT :=
  if (fp_sortOf P at_) = (9 : Int32) then (((fr_runTrap K P X at_ rk b).1), ((fr_runTrap K P X at_ rk b).2))
  else if (fp_sortOf P at_) = (10 : Int32) then (((fr_runLocal K P X at_ rk b).1), ((fr_runLocal K P X at_ rk b).2))
  else if rk = 0 then
    if (X.1 2) = 0 then
      (((fr_begin K P X at_ rk b).1), ((fr_begin K P X at_ rk b).2))
    else
      (((fr_resume K P X at_ b).1), ((fr_resume K P X at_ b).2))
  else
    (((fr_begin K P X at_ rk b).1), ((fr_begin K P X at_ rk b).2))
set_option maxRecDepth 100000 in
set_option maxHeartbeats 4000000 in
theorem tX_run {l : Launch} {D : va_G} {A : Nat → Prop} {ad : Nat → Nat} {tP : Nat} {cI : ClassId} {tl : List va_E} {tyr : List (ClassId × FieldType)} {d : Nat} {K : krT} {Cn : Int32 → Prop} (S : kT) (P : pT) (X : xT) (at_ : Int32) (rk : Int32) (b : Int32) (hS : pS P) (hd : 6 ≤ d) (HK : ∀ (X : xT) (a r b : Int32), Cn a → aw_M l yX_run (Cond.code yX_run cX_run 4 (some .long) :: aw_big) d D vwCl ((cI, .int) :: tyr) A ad (zC A tP) [.ref (ad 11), .int a, .int r, .int b] (hC ad cI S P X ++ tl) (some (.long (K X a r b).1)) (hC ad cI S P (K X a r b).2 ++ tl)) (hc1 : 4 ≤ (fp_sortOf P at_).toInt → Cn (at_ + (1 : Int32))) (hc2 : 4 ≤ (fp_sortOf P at_).toInt → Cn (fp_secondOf P at_)) : aw_M l yX_run (Cond.code yX_run cX_run 4 (some .long) :: aw_big) (d + 3) D vwCl ((cI, .int) :: tyr) A ad (zC A tP) [.ref (ad 11), .int at_, .int rk, .int b] (hC ad cI S P X ++ tl) (some (.long ((fr_run1 K P X at_ rk b).1))) (hC ad cI S P ((fr_run1 K P X at_ rk b).2) ++ tl) := by
  refine aw_met cX_run 4 (some .long) [some (.ref (ad 11)), some (.int at_), some (.int rk), some (.int b)] (by decide) rfl (Nat.le_of_ble_eq_true rfl) rfl ?_
  intro p e s m args below meth c F Zs hr hlk
  refine aw_aload_n (pc := 0) (i := 0) (x := ad 11) F dX_run_0 rfl rfl ?_
  refine aw_get (pc := 1) (v := .ref (ad 1)) F 11 hC_at11 rfl 0 (by decide) (fun w h => mw (iw_X w h)) (mw wd_151) rfl dX_run_1 ?_
  refine aw_iload_n (pc := 4) (i := 1) (x := at_) F dX_run_4 rfl rfl ?_
  refine aw_goVN (pc := 5) (As := [.int at_]) (rest := []) F zC_ok Zs 1 hC_at1 rfl (tG_sortOf  S P X at_ hS) ⟨va_cnB 1 F.1.2.2.2.2 (gi_0 wd_320) rfl rfl rfl (nw_m Zs nl_447) (F.1.2.2.2.2 _ (mw wd_65)) (by decide +kernel) ⟨by first | (simp only [aw_rm]; omega) | simp only [aw_rm] | omega, by first | (simp only [aw_rm]; omega) | simp only [aw_rm] | omega⟩, F.1.2.2.2.2 _ (mw wd_319), F.1.2.2.2.2 _ (mw wd_7)⟩ rfl (Nat.le_of_ble_eq_true rfl) ⟨Nat.zero_le _, Nat.zero_le _⟩ rfl dX_run_5 ?_
  show aW _ _ _ _ _ _ _ _ _ _ _ _ _ _ _ _ _ _ _ _ _ [.int (fp_sortOf P at_)]
  by_cases s_8_9 : (fp_sortOf P at_) = (9 : Int32)
  · refine aw_lookup (pc := 8) F 36 dX_run_8 (by decide) (off := 28) (by rw [s_8_9]; decide) (by decide) ?_
    refine aw_aload_n (pc := 36) (i := 0) (x := ad 11) F dX_run_36 rfl rfl ?_
    refine aw_iload_n (pc := 37) (i := 1) (x := at_) F dX_run_37 rfl rfl ?_
    refine aw_iload_n (pc := 38) (i := 2) (x := rk) F dX_run_38 rfl rfl ?_
    refine aw_iload_n (pc := 39) (i := 3) (x := b) F dX_run_39 rfl rfl ?_
    refine aw_goV (pc := 40) (As := [.int at_, .int rk, .int b]) (rest := []) F zC_ok Zs 11 hC_at11 rfl (tX_runTrap  S P X at_ rk b hS hd HK (hc1 (by rw [s_8_9]; decide))) (cwV 3 F.1.2.2.2.2 (gi_V wd_448 wd_450 wd_25 wd_66 wd_451) rfl rfl rfl (by decide +kernel) ⟨by first | (simp only [aw_rm]; omega) | simp only [aw_rm] | omega, by first | (simp only [aw_rm]; omega) | simp only [aw_rm] | omega⟩) rfl (Nat.le_of_ble_eq_true rfl) ⟨Nat.zero_le _, Nat.zero_le _⟩ rfl dX_run_40 ?_
    show aW _ _ _ _ _ _ _ _ _ _ _ _ _ _ _ _ _ _ _ _ _ [.long ((fr_runTrap K P X at_ rk b).1)]
    exact aw_lret (pc := 43) F hr hlk dX_run_43 (by rw [fr_run1, if_pos s_8_9]) (by rw [fr_run1, if_pos s_8_9])
  by_cases s_8_10 : (fp_sortOf P at_) = (10 : Int32)
  · refine aw_lookup (pc := 8) F 44 dX_run_8 (by decide) (off := 36) (by rw [s_8_10]; decide) (by decide) ?_
    refine aw_aload_n (pc := 44) (i := 0) (x := ad 11) F dX_run_44 rfl rfl ?_
    refine aw_iload_n (pc := 45) (i := 1) (x := at_) F dX_run_45 rfl rfl ?_
    refine aw_iload_n (pc := 46) (i := 2) (x := rk) F dX_run_46 rfl rfl ?_
    refine aw_iload_n (pc := 47) (i := 3) (x := b) F dX_run_47 rfl rfl ?_
    refine aw_goV (pc := 48) (As := [.int at_, .int rk, .int b]) (rest := []) F zC_ok Zs 11 hC_at11 rfl (tX_runLocal  S P X at_ rk b hS hd HK (hc1 (by rw [s_8_10]; decide))) (cwV 3 F.1.2.2.2.2 (gi_V wd_484 wd_486 wd_27 wd_66 wd_487) rfl rfl rfl (by decide +kernel) ⟨by first | (simp only [aw_rm]; omega) | simp only [aw_rm] | omega, by first | (simp only [aw_rm]; omega) | simp only [aw_rm] | omega⟩) rfl (Nat.le_of_ble_eq_true rfl) ⟨Nat.zero_le _, Nat.zero_le _⟩ rfl dX_run_48 ?_
    show aW _ _ _ _ _ _ _ _ _ _ _ _ _ _ _ _ _ _ _ _ _ [.long ((fr_runLocal K P X at_ rk b).1)]
    exact aw_lret (pc := 51) F hr hlk dX_run_51 (by rw [fr_run1, if_neg s_8_9, if_pos s_8_10]) (by rw [fr_run1, if_neg s_8_9, if_pos s_8_10])
  refine aw_lookup (pc := 8) F 52 dX_run_8 (by decide) (off := 44) (by show Op.lookupswitch.offset [(9, 28), (10, 36)] 44 _ = _; rw [lv_osw s_8_9 (by decide), lv_osw s_8_10 (by decide)]; rfl) (by decide) ?_
  refine aw_iload_n (pc := 52) (i := 2) (x := rk) F dX_run_52 rfl rfl ?_
  refine aw_if_ne (pc := 53) F 72 dX_run_53 (by decide) (fun c_53 => ?_) (fun c_53 => ?_)
  · skip
    refine aw_aload_n (pc := 72) (i := 0) (x := ad 11) F dX_run_72 rfl rfl ?_
    refine aw_iload_n (pc := 73) (i := 1) (x := at_) F dX_run_73 rfl rfl ?_
    refine aw_iload_n (pc := 74) (i := 2) (x := rk) F dX_run_74 rfl rfl ?_
    refine aw_iload_n (pc := 75) (i := 3) (x := b) F dX_run_75 rfl rfl ?_
    refine aw_goV (pc := 76) (As := [.int at_, .int rk, .int b]) (rest := []) F zC_ok Zs 11 hC_at11 rfl (tX_begin  S P X at_ rk b hS hd HK hc1 hc2) (cwV 3 F.1.2.2.2.2 (gi_V wd_569 wd_571 wd_39 wd_66 wd_572) rfl rfl rfl (by decide +kernel) ⟨by first | (simp only [aw_rm]; omega) | simp only [aw_rm] | omega, by first | (simp only [aw_rm]; omega) | simp only [aw_rm] | omega⟩) rfl (Nat.le_of_ble_eq_true rfl) ⟨Nat.zero_le _, Nat.zero_le _⟩ rfl dX_run_76 ?_
    show aW _ _ _ _ _ _ _ _ _ _ _ _ _ _ _ _ _ _ _ _ _ [.long ((fr_begin K P X at_ rk b).1)]
    exact aw_lret (pc := 79) F hr hlk dX_run_79 (by rw [fr_run1, if_neg s_8_9, if_neg s_8_10, if_neg c_53]) (by rw [fr_run1, if_neg s_8_9, if_neg s_8_10, if_neg c_53])
  · skip
    refine aw_aload_n (pc := 56) (i := 0) (x := ad 11) F dX_run_56 rfl rfl ?_
    refine aw_get (pc := 57) (v := .int (X.1 2)) F 11 hC_at11 rfl 4 (by decide) (fun w h => mw (iw_X w h)) (mw wd_156) rfl dX_run_57 ?_
    refine aw_if_eq (pc := 60) F 72 dX_run_60 (by decide) (fun c_60 => ?_) (fun c_60 => ?_)
    · skip
      refine aw_aload_n (pc := 72) (i := 0) (x := ad 11) F dX_run_72 rfl rfl ?_
      refine aw_iload_n (pc := 73) (i := 1) (x := at_) F dX_run_73 rfl rfl ?_
      refine aw_iload_n (pc := 74) (i := 2) (x := rk) F dX_run_74 rfl rfl ?_
      refine aw_iload_n (pc := 75) (i := 3) (x := b) F dX_run_75 rfl rfl ?_
      refine aw_goV (pc := 76) (As := [.int at_, .int rk, .int b]) (rest := []) F zC_ok Zs 11 hC_at11 rfl (tX_begin  S P X at_ rk b hS hd HK hc1 hc2) (cwV 3 F.1.2.2.2.2 (gi_V wd_569 wd_571 wd_39 wd_66 wd_572) rfl rfl rfl (by decide +kernel) ⟨by first | (simp only [aw_rm]; omega) | simp only [aw_rm] | omega, by first | (simp only [aw_rm]; omega) | simp only [aw_rm] | omega⟩) rfl (Nat.le_of_ble_eq_true rfl) ⟨Nat.zero_le _, Nat.zero_le _⟩ rfl dX_run_76 ?_
      show aW _ _ _ _ _ _ _ _ _ _ _ _ _ _ _ _ _ _ _ _ _ [.long ((fr_begin K P X at_ rk b).1)]
      exact aw_lret (pc := 79) F hr hlk dX_run_79 (by rw [fr_run1, if_neg s_8_9, if_neg s_8_10, if_pos c_53, if_pos c_60]) (by rw [fr_run1, if_neg s_8_9, if_neg s_8_10, if_pos c_53, if_pos c_60])
    · skip
      refine aw_aload_n (pc := 63) (i := 0) (x := ad 11) F dX_run_63 rfl rfl ?_
      refine aw_iload_n (pc := 64) (i := 1) (x := at_) F dX_run_64 rfl rfl ?_
      refine aw_iload_n (pc := 65) (i := 3) (x := b) F dX_run_65 rfl rfl ?_
      refine aw_goV (pc := 66) (As := [.int at_, .int b]) (rest := []) F zC_ok Zs 11 hC_at11 rfl (tX_resume  S P X at_ b hS hd HK hc1 hc2) (cwV 2 F.1.2.2.2.2 (gi_V wd_517 wd_519 wd_33 wd_66 wd_520) rfl rfl rfl (by decide +kernel) ⟨by first | (simp only [aw_rm]; omega) | simp only [aw_rm] | omega, by first | (simp only [aw_rm]; omega) | simp only [aw_rm] | omega⟩) rfl (Nat.le_of_ble_eq_true rfl) ⟨Nat.zero_le _, Nat.zero_le _⟩ rfl dX_run_66 ?_
      show aW _ _ _ _ _ _ _ _ _ _ _ _ _ _ _ _ _ _ _ _ _ [.long ((fr_resume K P X at_ b).1)]
      refine aw_goto (pc := 69) F 79 dX_run_69 (by decide) ?_
      exact aw_lret (pc := 79) F hr hlk dX_run_79 (by rw [fr_run1, if_neg s_8_9, if_neg s_8_10, if_pos c_53, if_neg c_60]) (by rw [fr_run1, if_neg s_8_9, if_neg s_8_10, if_pos c_53, if_neg c_60])
def fr_run : Nat → pT → krT
  | 0, _ => fun X _ _ _ => (0, X)
  | n + 1, P => fun X a r b => fr_run1 (fr_run n P) P X a r b
def fr_d : Nat → Nat
  | 0 => 6
  | n + 1 => fr_d n + 3
theorem fr_d6 (n : Nat) : 6 ≤ fr_d n := by
  induction n with
  | zero => exact Nat.le_refl 6
  | succ n ih => exact Nat.le_trans ih (Nat.le_add_right _ 3)
/-- every statement that has others has them behind it -/
def pW (P : pT) : Prop := ∀ a : Int32, 0 ≤ a.toInt → a.toInt < (P.1 1).toInt → 4 ≤ (fp_sortOf P a).toInt → a.toInt + 1 < (P.1 1).toInt ∧ a.toInt < (fp_secondOf P a).toInt ∧ (fp_secondOf P a).toInt < (P.1 1).toInt
def pC (P : pT) (n : Nat) (a : Int32) : Prop := 0 ≤ a.toInt ∧ a.toInt < (P.1 1).toInt ∧ (P.1 1).toInt ≤ a.toInt + n
theorem pC_1 {P : pT} {n : Nat} {a : Int32} (hW : pW P) (h : pC P (n + 1) a) (h4 : 4 ≤ (fp_sortOf P a).toInt) : pC P n (a + (1 : Int32)) := by
  obtain ⟨h0, h1, h2⟩ := h
  obtain ⟨q1, q2, q3⟩ := hW a h0 h1 h4
  have e := i_up h1
  refine ⟨?_, ?_, ?_⟩ <;> rw [e] <;> omega
theorem pC_2 {P : pT} {n : Nat} {a : Int32} (hW : pW P) (h : pC P (n + 1) a) (h4 : 4 ≤ (fp_sortOf P a).toInt) : pC P n (fp_secondOf P a) := by
  obtain ⟨h0, h1, h2⟩ := h
  obtain ⟨q1, q2, q3⟩ := hW a h0 h1 h4
  refine ⟨?_, ?_, ?_⟩ <;> omega
theorem tX_runN {l : Launch} {D : va_G} {A : Nat → Prop} {ad : Nat → Nat} {tP : Nat} {cI : ClassId} {tl : List va_E} {tyr : List (ClassId × FieldType)} (S : kT) (P : pT) (hS : pS P) (hW : pW P) : ∀ (n : Nat) (X : xT) (a r b : Int32), pC P n a → aw_M l yX_run (Cond.code yX_run cX_run 4 (some .long) :: aw_big) (fr_d n) D vwCl ((cI, .int) :: tyr) A ad (zC A tP) [.ref (ad 11), .int a, .int r, .int b] (hC ad cI S P X ++ tl) (some (.long (fr_run n P X a r b).1)) (hC ad cI S P (fr_run n P X a r b).2 ++ tl) := by
  intro n
  induction n with
  | zero =>
    intro X a r b h
    obtain ⟨h0, h1, h2⟩ := h
    exfalso
    omega
  | succ n ih =>
    intro X a r b h
    exact tX_run S P X a r b hS (fr_d6 n) (K := fr_run n P) (Cn := pC P n) ih (fun q => pC_1 hW h q) (fun q => pC_2 hW h q)
