def pS (P : pT) : Prop := 0 ≤ (P.1 1).toInt ∧ (P.1 1).toInt ≤ 120
def pL (P : pT) : Prop := 0 ≤ (P.1 0).toInt ∧ (P.1 0).toInt ≤ 24
def pO (P : pT) : Prop := ∀ j : Nat, (j : Int) < (P.1 0).toInt → vp_in (P.2 7 j) 120
theorem i_lt {x y : Int32} (h : ¬ y ≤ x) : x.toInt < y.toInt := by
  rw [Int32.le_iff_toInt_le] at h
  omega
theorem i_le {x y : Int32} (h : y ≤ x) : y.toInt ≤ x.toInt := Int32.le_iff_toInt_le.mp h
theorem i_nlt {x y : Int32} (h : ¬ x < y) : y.toInt ≤ x.toInt := by
  rw [Int32.lt_iff_toInt_lt] at h
  omega
theorem i_add {x y : Int32} (h1 : -2147483648 ≤ x.toInt + y.toInt) (h2 : x.toInt + y.toInt ≤ 2147483647) : (x + y).toInt = x.toInt + y.toInt := by
  rw [Int32.toInt_add]
  exact Int.bmod_eq_of_le_mul_two (by omega) (by omega)
theorem i_sub {x y : Int32} (h1 : -2147483648 ≤ x.toInt - y.toInt) (h2 : x.toInt - y.toInt ≤ 2147483647) : (x - y).toInt = x.toInt - y.toInt := by
  rw [Int32.toInt_sub]
  exact Int.bmod_eq_of_le_mul_two (by omega) (by omega)
theorem i_bd (x : Int32) : -2147483648 ≤ x.toInt ∧ x.toInt ≤ 2147483647 := ⟨Int32.le_toInt x, by have := Int32.toInt_lt x; omega⟩
theorem i_1 : (1 : Int32).toInt = 1 := rfl
theorem i_0 : (0 : Int32).toInt = 0 := rfl
theorem i_up {x y : Int32} (h : x.toInt < y.toInt) : (x + 1).toInt = x.toInt + 1 := by
  have a := i_bd x
  have b := i_bd y
  rw [i_add] <;> rw [i_1] <;> omega
theorem i_dn {x y : Int32} (h : y.toInt < x.toInt) : (x - 1).toInt = x.toInt - 1 := by
  have a := i_bd x
  have b := i_bd y
  rw [i_sub] <;> rw [i_1] <;> omega
theorem i_nat {x : Int32} (h : 0 ≤ x.toInt) : (x.toNatClampNeg : Int) = x.toInt := by
  show (x.toInt.toNat : Int) = x.toInt
  omega
theorem inr_has {P : pT} {x : Int32} (hP : pS P) (h : ¬ fp_has P x = 0) : vp_in x 120 := by
  rw [vp_in_iff]
  by_cases a : x < 0
  · rw [fp_has, if_pos a] at h
    exact absurd rfl h
  · by_cases b : (P.1 1) ≤ x
    · rw [fp_has, if_neg a, if_pos b] at h
      exact absurd rfl h
    · have c := i_lt b
      have d := i_nlt a
      rw [i_0] at d
      have e := hP.2
      omega
theorem inr_lv {P : pT} {x : Int32} (hL : pL P) (h0 : 0 ≤ x.toInt) (h : x.toInt < (P.1 0).toInt) : vp_in x 24 := by
  rw [vp_in_iff]
  have := hL.2
  omega
theorem inr_o {P : pT} {x : Int32} (hO : pO P) (h0 : 0 ≤ x.toInt) (h : x.toInt < (P.1 0).toInt) : vp_in (P.2 7 x.toNatClampNeg) 120 := hO _ (by rw [i_nat h0]; exact h)
theorem lv_top {P : pT} (hL : pL P) (h : 0 < (P.1 0).toInt) : 0 ≤ ((P.1 0) - 1).toInt ∧ ((P.1 0) - 1).toInt < (P.1 0).toInt := by
  have := i_dn (x := P.1 0) (y := 0) h
  omega
theorem inr_top {P : pT} (hL : pL P) (h : 0 < (P.1 0).toInt) : vp_in ((P.1 0) - 1) 24 := inr_lv hL (lv_top hL h).1 (lv_top hL h).2
theorem inr_otop {P : pT} (hL : pL P) (hO : pO P) (h : 0 < (P.1 0).toInt) : vp_in (P.2 7 ((P.1 0) - 1).toNatClampNeg) 120 := inr_o hO (lv_top hL h).1 (lv_top hL h).2
theorem lv_ne {P : pT} (hL : pL P) (h : ¬ (P.1 0) = 0) : 0 < (P.1 0).toInt := by
  have a := hL.1
  rcases Int.lt_or_eq_of_le a with b | b
  · exact b
  · exact absurd (Int32.toInt_inj.mp (by rw [← b]; rfl)) h
theorem lv_nle {x : Int32} (h : ¬ x ≤ 0) : 0 < x.toInt := i_lt h
theorem inr_ps {P : pT} (hS : pS P) (h : (P.1 1).toInt < 120) : vp_in (P.1 1) 120 := by
  rw [vp_in_iff]
  have := hS.1
  omega
def fp_sortOf  (P : pT) (at_ : Int32) : Int32 :=
  if (fp_has P at_) = 0 then (0 : Int32) else ((P.2 0) at_.toNatClampNeg)
set_option maxRecDepth 100000 in
set_option maxHeartbeats 4000000 in
theorem tG_sortOf {l : Launch} {D : va_G} {A : Nat → Prop} {ad : Nat → Nat} {tP : Nat} {cI : ClassId} {tl : List va_E} {tyr : List (ClassId × FieldType)} (S : kT) (P : pT) (X : xT) (at_ : Int32) (hS : pS P) : aw_M l yG_sortOf (Cond.code yG_sortOf cG_sortOf 2 (some .int) :: aw_big) 1 D vwCl ((cI, .int) :: tyr) A ad (zC A tP) [.ref (ad 1), .int at_] (hC ad cI S P X ++ tl) (some (.int (fp_sortOf P at_))) (hC ad cI S P X ++ tl) := by
  refine aw_met cG_sortOf 2 (some .int) [some (.ref (ad 1)), some (.int at_)] (by decide) rfl (Nat.le_of_ble_eq_true rfl) rfl ?_
  intro p e s m args below meth c F Zs hr hlk
  refine aw_aload_n (pc := 0) (i := 0) (x := ad 1) F dG_sortOf_0 rfl rfl ?_
  refine aw_iload_n (pc := 1) (i := 1) (x := at_) F dG_sortOf_1 rfl rfl ?_
  refine aw_goV (pc := 2) (As := [.int at_]) (rest := []) F zC_ok Zs 1 hC_at1 rfl (tG_has  S P X at_) (cwV 1 F.1.2.2.2.2 (gi_V wd_321 wd_323 wd_8 wd_65 wd_324) rfl rfl rfl (by decide +kernel) ⟨Nat.le_of_ble_eq_true rfl, Nat.le_of_ble_eq_true rfl⟩) rfl (Nat.le_of_ble_eq_true rfl) ⟨Nat.zero_le _, Nat.zero_le _⟩ rfl dG_sortOf_2 ?_
  show aW _ _ _ _ _ _ _ _ _ _ _ _ _ _ _ _ _ _ _ _ _ [.int (fp_has P at_)]
  refine aw_if_eq (pc := 5) F 17 dG_sortOf_5 (by decide) (fun c_5 => ?_) (fun c_5 => ?_)
  · skip
    refine aw_iconst (pc := 17) (v := 0) F dG_sortOf_17 (by decide) ?_
    exact aw_iret (pc := 18) F hr hlk dG_sortOf_18 (by rw [fp_sortOf, if_pos c_5]) rfl
  · skip
    refine aw_aload_n (pc := 8) (i := 0) (x := ad 1) F dG_sortOf_8 rfl rfl ?_
    refine aw_get (pc := 9) (v := .ref (ad 2)) F 1 hC_at1 rfl 0 (by decide) (fun w h => mw (iw_G w h)) (mw wd_92) rfl dG_sortOf_9 ?_
    refine aw_iload_n (pc := 12) (i := 1) (x := at_) F dG_sortOf_12 rfl rfl ?_
    refine aw_iald (pc := 13) F 2 0 hC_at2 rfl (inr_has hS c_5) dG_sortOf_13 ?_
    refine aw_goto (pc := 14) F 18 dG_sortOf_14 (by decide) ?_
    exact aw_iret (pc := 18) F hr hlk dG_sortOf_18 (by rw [fp_sortOf, if_neg c_5]) rfl
def fp_operandOf  (P : pT) (at_ : Int32) : Int32 :=
  if (fp_has P at_) = 0 then (0 : Int32) else ((P.2 1) at_.toNatClampNeg)
set_option maxRecDepth 100000 in
set_option maxHeartbeats 4000000 in
theorem tG_operandOf {l : Launch} {D : va_G} {A : Nat → Prop} {ad : Nat → Nat} {tP : Nat} {cI : ClassId} {tl : List va_E} {tyr : List (ClassId × FieldType)} (S : kT) (P : pT) (X : xT) (at_ : Int32) (hS : pS P) : aw_M l yG_operandOf (Cond.code yG_operandOf cG_operandOf 2 (some .int) :: aw_big) 1 D vwCl ((cI, .int) :: tyr) A ad (zC A tP) [.ref (ad 1), .int at_] (hC ad cI S P X ++ tl) (some (.int (fp_operandOf P at_))) (hC ad cI S P X ++ tl) := by
  refine aw_met cG_operandOf 2 (some .int) [some (.ref (ad 1)), some (.int at_)] (by decide) rfl (Nat.le_of_ble_eq_true rfl) rfl ?_
  intro p e s m args below meth c F Zs hr hlk
  refine aw_aload_n (pc := 0) (i := 0) (x := ad 1) F dG_operandOf_0 rfl rfl ?_
  refine aw_iload_n (pc := 1) (i := 1) (x := at_) F dG_operandOf_1 rfl rfl ?_
  refine aw_goV (pc := 2) (As := [.int at_]) (rest := []) F zC_ok Zs 1 hC_at1 rfl (tG_has  S P X at_) (cwV 1 F.1.2.2.2.2 (gi_V wd_321 wd_323 wd_8 wd_65 wd_324) rfl rfl rfl (by decide +kernel) ⟨Nat.le_of_ble_eq_true rfl, Nat.le_of_ble_eq_true rfl⟩) rfl (Nat.le_of_ble_eq_true rfl) ⟨Nat.zero_le _, Nat.zero_le _⟩ rfl dG_operandOf_2 ?_
  show aW _ _ _ _ _ _ _ _ _ _ _ _ _ _ _ _ _ _ _ _ _ [.int (fp_has P at_)]
  refine aw_if_eq (pc := 5) F 17 dG_operandOf_5 (by decide) (fun c_5 => ?_) (fun c_5 => ?_)
  · skip
    refine aw_iconst (pc := 17) (v := 0) F dG_operandOf_17 (by decide) ?_
    exact aw_iret (pc := 18) F hr hlk dG_operandOf_18 (by rw [fp_operandOf, if_pos c_5]) rfl
  · skip
    refine aw_aload_n (pc := 8) (i := 0) (x := ad 1) F dG_operandOf_8 rfl rfl ?_
    refine aw_get (pc := 9) (v := .ref (ad 3)) F 1 hC_at1 rfl 1 (by decide) (fun w h => mw (iw_G w h)) (mw wd_93) rfl dG_operandOf_9 ?_
    refine aw_iload_n (pc := 12) (i := 1) (x := at_) F dG_operandOf_12 rfl rfl ?_
    refine aw_iald (pc := 13) F 3 0 hC_at3 rfl (inr_has hS c_5) dG_operandOf_13 ?_
    refine aw_goto (pc := 14) F 18 dG_operandOf_14 (by decide) ?_
    exact aw_iret (pc := 18) F hr hlk dG_operandOf_18 (by rw [fp_operandOf, if_neg c_5]) rfl
def fp_secondOf  (P : pT) (at_ : Int32) : Int32 :=
  if (fp_has P at_) = 0 then (-1 : Int32) else ((P.2 2) at_.toNatClampNeg)
set_option maxRecDepth 100000 in
set_option maxHeartbeats 4000000 in
theorem tG_secondOf {l : Launch} {D : va_G} {A : Nat → Prop} {ad : Nat → Nat} {tP : Nat} {cI : ClassId} {tl : List va_E} {tyr : List (ClassId × FieldType)} (S : kT) (P : pT) (X : xT) (at_ : Int32) (hS : pS P) : aw_M l yG_secondOf (Cond.code yG_secondOf cG_secondOf 2 (some .int) :: aw_big) 1 D vwCl ((cI, .int) :: tyr) A ad (zC A tP) [.ref (ad 1), .int at_] (hC ad cI S P X ++ tl) (some (.int (fp_secondOf P at_))) (hC ad cI S P X ++ tl) := by
  refine aw_met cG_secondOf 2 (some .int) [some (.ref (ad 1)), some (.int at_)] (by decide) rfl (Nat.le_of_ble_eq_true rfl) rfl ?_
  intro p e s m args below meth c F Zs hr hlk
  refine aw_aload_n (pc := 0) (i := 0) (x := ad 1) F dG_secondOf_0 rfl rfl ?_
  refine aw_iload_n (pc := 1) (i := 1) (x := at_) F dG_secondOf_1 rfl rfl ?_
  refine aw_goV (pc := 2) (As := [.int at_]) (rest := []) F zC_ok Zs 1 hC_at1 rfl (tG_has  S P X at_) (cwV 1 F.1.2.2.2.2 (gi_V wd_321 wd_323 wd_8 wd_65 wd_324) rfl rfl rfl (by decide +kernel) ⟨Nat.le_of_ble_eq_true rfl, Nat.le_of_ble_eq_true rfl⟩) rfl (Nat.le_of_ble_eq_true rfl) ⟨Nat.zero_le _, Nat.zero_le _⟩ rfl dG_secondOf_2 ?_
  show aW _ _ _ _ _ _ _ _ _ _ _ _ _ _ _ _ _ _ _ _ _ [.int (fp_has P at_)]
  refine aw_if_eq (pc := 5) F 17 dG_secondOf_5 (by decide) (fun c_5 => ?_) (fun c_5 => ?_)
  · skip
    refine aw_iconst (pc := 17) (v := -1) F dG_secondOf_17 (by decide) ?_
    exact aw_iret (pc := 18) F hr hlk dG_secondOf_18 (by rw [fp_secondOf, if_pos c_5]) rfl
  · skip
    refine aw_aload_n (pc := 8) (i := 0) (x := ad 1) F dG_secondOf_8 rfl rfl ?_
    refine aw_get (pc := 9) (v := .ref (ad 4)) F 1 hC_at1 rfl 2 (by decide) (fun w h => mw (iw_G w h)) (mw wd_94) rfl dG_secondOf_9 ?_
    refine aw_iload_n (pc := 12) (i := 1) (x := at_) F dG_secondOf_12 rfl rfl ?_
    refine aw_iald (pc := 13) F 4 0 hC_at4 rfl (inr_has hS c_5) dG_secondOf_13 ?_
    refine aw_goto (pc := 14) F 18 dG_secondOf_14 (by decide) ?_
    exact aw_iret (pc := 18) F hr hlk dG_secondOf_18 (by rw [fp_secondOf, if_neg c_5]) rfl
def fp_weightOf  (P : pT) (at_ : Int32) : Int32 :=
  if (fp_has P at_) = 0 then (0 : Int32) else ((P.2 3) at_.toNatClampNeg)
set_option maxRecDepth 100000 in
set_option maxHeartbeats 4000000 in
theorem tG_weightOf {l : Launch} {D : va_G} {A : Nat → Prop} {ad : Nat → Nat} {tP : Nat} {cI : ClassId} {tl : List va_E} {tyr : List (ClassId × FieldType)} (S : kT) (P : pT) (X : xT) (at_ : Int32) (hS : pS P) : aw_M l yG_weightOf (Cond.code yG_weightOf cG_weightOf 2 (some .int) :: aw_big) 1 D vwCl ((cI, .int) :: tyr) A ad (zC A tP) [.ref (ad 1), .int at_] (hC ad cI S P X ++ tl) (some (.int (fp_weightOf P at_))) (hC ad cI S P X ++ tl) := by
  refine aw_met cG_weightOf 2 (some .int) [some (.ref (ad 1)), some (.int at_)] (by decide) rfl (Nat.le_of_ble_eq_true rfl) rfl ?_
  intro p e s m args below meth c F Zs hr hlk
  refine aw_aload_n (pc := 0) (i := 0) (x := ad 1) F dG_weightOf_0 rfl rfl ?_
  refine aw_iload_n (pc := 1) (i := 1) (x := at_) F dG_weightOf_1 rfl rfl ?_
  refine aw_goV (pc := 2) (As := [.int at_]) (rest := []) F zC_ok Zs 1 hC_at1 rfl (tG_has  S P X at_) (cwV 1 F.1.2.2.2.2 (gi_V wd_321 wd_323 wd_8 wd_65 wd_324) rfl rfl rfl (by decide +kernel) ⟨Nat.le_of_ble_eq_true rfl, Nat.le_of_ble_eq_true rfl⟩) rfl (Nat.le_of_ble_eq_true rfl) ⟨Nat.zero_le _, Nat.zero_le _⟩ rfl dG_weightOf_2 ?_
  show aW _ _ _ _ _ _ _ _ _ _ _ _ _ _ _ _ _ _ _ _ _ [.int (fp_has P at_)]
  refine aw_if_eq (pc := 5) F 17 dG_weightOf_5 (by decide) (fun c_5 => ?_) (fun c_5 => ?_)
  · skip
    refine aw_iconst (pc := 17) (v := 0) F dG_weightOf_17 (by decide) ?_
    exact aw_iret (pc := 18) F hr hlk dG_weightOf_18 (by rw [fp_weightOf, if_pos c_5]) rfl
  · skip
    refine aw_aload_n (pc := 8) (i := 0) (x := ad 1) F dG_weightOf_8 rfl rfl ?_
    refine aw_get (pc := 9) (v := .ref (ad 5)) F 1 hC_at1 rfl 3 (by decide) (fun w h => mw (iw_G w h)) (mw wd_95) rfl dG_weightOf_9 ?_
    refine aw_iload_n (pc := 12) (i := 1) (x := at_) F dG_weightOf_12 rfl rfl ?_
    refine aw_iald (pc := 13) F 5 0 hC_at5 rfl (inr_has hS c_5) dG_weightOf_13 ?_
    refine aw_goto (pc := 14) F 18 dG_weightOf_14 (by decide) ?_
    exact aw_iret (pc := 18) F hr hlk dG_weightOf_18 (by rw [fp_weightOf, if_neg c_5]) rfl
def fp_weightBefore  (P : pT) (at_ : Int32) : Int32 :=
  if (fp_has P at_) = 0 then (0 : Int32) else ((P.2 4) at_.toNatClampNeg)
set_option maxRecDepth 100000 in
set_option maxHeartbeats 4000000 in
theorem tG_weightBefore {l : Launch} {D : va_G} {A : Nat → Prop} {ad : Nat → Nat} {tP : Nat} {cI : ClassId} {tl : List va_E} {tyr : List (ClassId × FieldType)} (S : kT) (P : pT) (X : xT) (at_ : Int32) (hS : pS P) : aw_M l yG_weightBefore (Cond.code yG_weightBefore cG_weightBefore 2 (some .int) :: aw_big) 1 D vwCl ((cI, .int) :: tyr) A ad (zC A tP) [.ref (ad 1), .int at_] (hC ad cI S P X ++ tl) (some (.int (fp_weightBefore P at_))) (hC ad cI S P X ++ tl) := by
  refine aw_met cG_weightBefore 2 (some .int) [some (.ref (ad 1)), some (.int at_)] (by decide) rfl (Nat.le_of_ble_eq_true rfl) rfl ?_
  intro p e s m args below meth c F Zs hr hlk
  refine aw_aload_n (pc := 0) (i := 0) (x := ad 1) F dG_weightBefore_0 rfl rfl ?_
  refine aw_iload_n (pc := 1) (i := 1) (x := at_) F dG_weightBefore_1 rfl rfl ?_
  refine aw_goV (pc := 2) (As := [.int at_]) (rest := []) F zC_ok Zs 1 hC_at1 rfl (tG_has  S P X at_) (cwV 1 F.1.2.2.2.2 (gi_V wd_321 wd_323 wd_8 wd_65 wd_324) rfl rfl rfl (by decide +kernel) ⟨Nat.le_of_ble_eq_true rfl, Nat.le_of_ble_eq_true rfl⟩) rfl (Nat.le_of_ble_eq_true rfl) ⟨Nat.zero_le _, Nat.zero_le _⟩ rfl dG_weightBefore_2 ?_
  show aW _ _ _ _ _ _ _ _ _ _ _ _ _ _ _ _ _ _ _ _ _ [.int (fp_has P at_)]
  refine aw_if_eq (pc := 5) F 17 dG_weightBefore_5 (by decide) (fun c_5 => ?_) (fun c_5 => ?_)
  · skip
    refine aw_iconst (pc := 17) (v := 0) F dG_weightBefore_17 (by decide) ?_
    exact aw_iret (pc := 18) F hr hlk dG_weightBefore_18 (by rw [fp_weightBefore, if_pos c_5]) rfl
  · skip
    refine aw_aload_n (pc := 8) (i := 0) (x := ad 1) F dG_weightBefore_8 rfl rfl ?_
    refine aw_get (pc := 9) (v := .ref (ad 6)) F 1 hC_at1 rfl 4 (by decide) (fun w h => mw (iw_G w h)) (mw wd_96) rfl dG_weightBefore_9 ?_
    refine aw_iload_n (pc := 12) (i := 1) (x := at_) F dG_weightBefore_12 rfl rfl ?_
    refine aw_iald (pc := 13) F 6 0 hC_at6 rfl (inr_has hS c_5) dG_weightBefore_13 ?_
    refine aw_goto (pc := 14) F 18 dG_weightBefore_14 (by decide) ?_
    exact aw_iret (pc := 18) F hr hlk dG_weightBefore_18 (by rw [fp_weightBefore, if_neg c_5]) rfl
def fp_pausesIn  (P : pT) (at_ : Int32) : Int32 :=
  if (fp_has P at_) = 0 then (0 : Int32) else ((P.2 5) at_.toNatClampNeg)
set_option maxRecDepth 100000 in
set_option maxHeartbeats 4000000 in
theorem tG_pausesIn {l : Launch} {D : va_G} {A : Nat → Prop} {ad : Nat → Nat} {tP : Nat} {cI : ClassId} {tl : List va_E} {tyr : List (ClassId × FieldType)} (S : kT) (P : pT) (X : xT) (at_ : Int32) (hS : pS P) : aw_M l yG_pausesIn (Cond.code yG_pausesIn cG_pausesIn 2 (some .int) :: aw_big) 1 D vwCl ((cI, .int) :: tyr) A ad (zC A tP) [.ref (ad 1), .int at_] (hC ad cI S P X ++ tl) (some (.int (fp_pausesIn P at_))) (hC ad cI S P X ++ tl) := by
  refine aw_met cG_pausesIn 2 (some .int) [some (.ref (ad 1)), some (.int at_)] (by decide) rfl (Nat.le_of_ble_eq_true rfl) rfl ?_
  intro p e s m args below meth c F Zs hr hlk
  refine aw_aload_n (pc := 0) (i := 0) (x := ad 1) F dG_pausesIn_0 rfl rfl ?_
  refine aw_iload_n (pc := 1) (i := 1) (x := at_) F dG_pausesIn_1 rfl rfl ?_
  refine aw_goV (pc := 2) (As := [.int at_]) (rest := []) F zC_ok Zs 1 hC_at1 rfl (tG_has  S P X at_) (cwV 1 F.1.2.2.2.2 (gi_V wd_321 wd_323 wd_8 wd_65 wd_324) rfl rfl rfl (by decide +kernel) ⟨Nat.le_of_ble_eq_true rfl, Nat.le_of_ble_eq_true rfl⟩) rfl (Nat.le_of_ble_eq_true rfl) ⟨Nat.zero_le _, Nat.zero_le _⟩ rfl dG_pausesIn_2 ?_
  show aW _ _ _ _ _ _ _ _ _ _ _ _ _ _ _ _ _ _ _ _ _ [.int (fp_has P at_)]
  refine aw_if_eq (pc := 5) F 17 dG_pausesIn_5 (by decide) (fun c_5 => ?_) (fun c_5 => ?_)
  · skip
    refine aw_iconst (pc := 17) (v := 0) F dG_pausesIn_17 (by decide) ?_
    exact aw_iret (pc := 18) F hr hlk dG_pausesIn_18 (by rw [fp_pausesIn, if_pos c_5]) rfl
  · skip
    refine aw_aload_n (pc := 8) (i := 0) (x := ad 1) F dG_pausesIn_8 rfl rfl ?_
    refine aw_get (pc := 9) (v := .ref (ad 7)) F 1 hC_at1 rfl 5 (by decide) (fun w h => mw (iw_G w h)) (mw wd_97) rfl dG_pausesIn_9 ?_
    refine aw_iload_n (pc := 12) (i := 1) (x := at_) F dG_pausesIn_12 rfl rfl ?_
    refine aw_iald (pc := 13) F 7 0 hC_at7 rfl (inr_has hS c_5) dG_pausesIn_13 ?_
    refine aw_goto (pc := 14) F 18 dG_pausesIn_14 (by decide) ?_
    exact aw_iret (pc := 18) F hr hlk dG_pausesIn_18 (by rw [fp_pausesIn, if_neg c_5]) rfl
def fp_startCodesOf  (P : pT) (at_ : Int32) : Int32 :=
  if (fp_has P at_) = 0 then (0 : Int32) else ((P.2 6) at_.toNatClampNeg)
set_option maxRecDepth 100000 in
set_option maxHeartbeats 4000000 in
theorem tG_startCodesOf {l : Launch} {D : va_G} {A : Nat → Prop} {ad : Nat → Nat} {tP : Nat} {cI : ClassId} {tl : List va_E} {tyr : List (ClassId × FieldType)} (S : kT) (P : pT) (X : xT) (at_ : Int32) (hS : pS P) : aw_M l yG_startCodesOf (Cond.code yG_startCodesOf cG_startCodesOf 2 (some .int) :: aw_big) 1 D vwCl ((cI, .int) :: tyr) A ad (zC A tP) [.ref (ad 1), .int at_] (hC ad cI S P X ++ tl) (some (.int (fp_startCodesOf P at_))) (hC ad cI S P X ++ tl) := by
  refine aw_met cG_startCodesOf 2 (some .int) [some (.ref (ad 1)), some (.int at_)] (by decide) rfl (Nat.le_of_ble_eq_true rfl) rfl ?_
  intro p e s m args below meth c F Zs hr hlk
  refine aw_aload_n (pc := 0) (i := 0) (x := ad 1) F dG_startCodesOf_0 rfl rfl ?_
  refine aw_iload_n (pc := 1) (i := 1) (x := at_) F dG_startCodesOf_1 rfl rfl ?_
  refine aw_goV (pc := 2) (As := [.int at_]) (rest := []) F zC_ok Zs 1 hC_at1 rfl (tG_has  S P X at_) (cwV 1 F.1.2.2.2.2 (gi_V wd_321 wd_323 wd_8 wd_65 wd_324) rfl rfl rfl (by decide +kernel) ⟨Nat.le_of_ble_eq_true rfl, Nat.le_of_ble_eq_true rfl⟩) rfl (Nat.le_of_ble_eq_true rfl) ⟨Nat.zero_le _, Nat.zero_le _⟩ rfl dG_startCodesOf_2 ?_
  show aW _ _ _ _ _ _ _ _ _ _ _ _ _ _ _ _ _ _ _ _ _ [.int (fp_has P at_)]
  refine aw_if_eq (pc := 5) F 17 dG_startCodesOf_5 (by decide) (fun c_5 => ?_) (fun c_5 => ?_)
  · skip
    refine aw_iconst (pc := 17) (v := 0) F dG_startCodesOf_17 (by decide) ?_
    exact aw_iret (pc := 18) F hr hlk dG_startCodesOf_18 (by rw [fp_startCodesOf, if_pos c_5]) rfl
  · skip
    refine aw_aload_n (pc := 8) (i := 0) (x := ad 1) F dG_startCodesOf_8 rfl rfl ?_
    refine aw_get (pc := 9) (v := .ref (ad 8)) F 1 hC_at1 rfl 6 (by decide) (fun w h => mw (iw_G w h)) (mw wd_98) rfl dG_startCodesOf_9 ?_
    refine aw_iload_n (pc := 12) (i := 1) (x := at_) F dG_startCodesOf_12 rfl rfl ?_
    refine aw_iald (pc := 13) F 8 0 hC_at8 rfl (inr_has hS c_5) dG_startCodesOf_13 ?_
    refine aw_goto (pc := 14) F 18 dG_startCodesOf_14 (by decide) ?_
    exact aw_iret (pc := 18) F hr hlk dG_startCodesOf_18 (by rw [fp_startCodesOf, if_neg c_5]) rfl
def fp_trapsL : Nat → pT → Int32 → Int32 → Int32
  | 0, P, tr, lv => 0
  | n + 1, P, tr, lv =>
      if (P.1 0) ≤ lv then
      tr
    else
      if (fp_sortOf P ((P.2 7) lv.toNatClampNeg)) = (9 : Int32) then
        (fp_trapsL n P (tr + (1 : Int32)) (lv + (1 : Int32)))
      else
        (fp_trapsL n P tr (lv + (1 : Int32)))
set_option maxRecDepth 100000 in
set_option maxHeartbeats 4000000 in
theorem tG_trapsAround_L4 {l : Launch} {D : va_G} {A : Nat → Prop} {ad : Nat → Nat} {tP : Nat} {cI : ClassId} {tl : List va_E} {tyr : List (ClassId × FieldType)} {p : Program} {e : Env} {s : State} {m : MethodId} {args : Array Value} {below : List Frame} {meth : Method} {c : Code} (F : aw_F p s m c args cG_trapsAround 3 (Cond.code yG_trapsAround cG_trapsAround 3 (some .int) :: aw_big) yG_trapsAround.cls D vwCl ((cI, .int) :: tyr)) (Zs : zC A tP s) (hr : meth.sig.returnType = (some .int)) (hlk : meth.locks = false) :
    ∀ (n : Nat) (S : kT) (P : pT) (X : xT)  (tr : Int32) (lv : Int32) (hS : pS P) (hL : pL P) (h0 : 0 ≤ lv.toInt) (h1 : lv.toInt ≤ (P.1 0).toInt) (hm : (P.1 0).toInt < lv.toInt + n), aW p l e (aw_rm 2) s m args below meth c 0 0 (MQ below (aw_Q D vwCl A ad (some (.int (fp_trapsL n P tr lv))) (hC ad cI S P X ++ tl)) args s 0 0 A) D vwCl A ad 3 (hC ad cI S P X ++ tl) [some (.ref (ad 1)), some (.int tr), some (.int lv)] 4 [] := by
  intro n
  induction n with
  | zero =>
    intro S P X tr lv hS hL h0 h1 hm
    exfalso; omega
  | succ n ih =>
    intro S P X tr lv hS hL h0 h1 hm
    refine aw_iload_n (pc := 4) (i := 2) (x := lv) F dG_trapsAround_4 rfl rfl ?_
    refine aw_aload_n (pc := 5) (i := 0) (x := ad 1) F dG_trapsAround_5 rfl rfl ?_
    refine aw_get (pc := 6) (v := .int (P.1 0)) F 1 hC_at1 rfl 9 (by decide) (fun w h => mw (iw_G w h)) (mw wd_101) rfl dG_trapsAround_6 ?_
    refine aw_icmp_ge (pc := 9) F 36 dG_trapsAround_9 (by decide) (fun c_9 => ?_) (fun c_9 => ?_)
    · skip
      refine aw_iload_n (pc := 36) (i := 1) (x := tr) F dG_trapsAround_36 rfl rfl ?_
      exact aw_iret (pc := 37) F hr hlk dG_trapsAround_37 (by rw [fp_trapsL, if_pos c_9]) rfl
    · skip
      refine aw_aload_n (pc := 12) (i := 0) (x := ad 1) F dG_trapsAround_12 rfl rfl ?_
      refine aw_aload_n (pc := 13) (i := 0) (x := ad 1) F dG_trapsAround_13 rfl rfl ?_
      refine aw_get (pc := 14) (v := .ref (ad 9)) F 1 hC_at1 rfl 7 (by decide) (fun w h => mw (iw_G w h)) (mw wd_99) rfl dG_trapsAround_14 ?_
      refine aw_iload_n (pc := 17) (i := 2) (x := lv) F dG_trapsAround_17 rfl rfl ?_
      refine aw_iald (pc := 18) F 9 0 hC_at9 rfl (inr_lv hL h0 (i_lt c_9)) dG_trapsAround_18 ?_
      refine aw_goV (pc := 19) (As := [.int ((P.2 7) lv.toNatClampNeg)]) (rest := []) F zC_ok Zs 1 hC_at1 rfl (tG_sortOf  S P X ((P.2 7) lv.toNatClampNeg) hS) (cwV 1 F.1.2.2.2.2 (gi_V wd_317 wd_319 wd_7 wd_65 wd_320) rfl rfl rfl (by decide +kernel) ⟨Nat.le_of_ble_eq_true rfl, Nat.le_of_ble_eq_true rfl⟩) rfl (Nat.le_of_ble_eq_true rfl) ⟨Nat.zero_le _, Nat.zero_le _⟩ rfl dG_trapsAround_19 ?_
      show aW _ _ _ _ _ _ _ _ _ _ _ _ _ _ _ _ _ _ _ _ _ [.int (fp_sortOf P ((P.2 7) lv.toNatClampNeg))]
      refine aw_bipush (pc := 22) (v := 9) F dG_trapsAround_22 (by decide) ?_
      refine aw_icmp_ne (pc := 24) F 30 dG_trapsAround_24 (by decide) (fun c_24 => ?_) (fun c_24 => ?_)
      · skip
        refine aw_iinc (pc := 30) (x := lv) (v := lv + (1 : Int32)) (L' := [some (.ref (ad 1)), some (.int tr), some (.int (lv + (1 : Int32)))]) F dG_trapsAround_30 rfl rfl (by decide) rfl ?_
        refine aw_goto (pc := 33) F 4 dG_trapsAround_33 (by decide) ?_
        rw [show (fp_trapsL (n + 1) P tr lv) = (fp_trapsL n P tr (lv + (1 : Int32))) from by rw [fp_trapsL, if_neg c_9, if_neg c_24]]
        exact ih S P X  tr (lv + (1 : Int32)) hS hL (by have a := i_up (i_lt c_9); omega) (by have a := i_up (i_lt c_9); have b := i_lt c_9; omega) (by have a := i_up (i_lt c_9); omega)
      · skip
        refine aw_iinc (pc := 27) (x := tr) (v := tr + (1 : Int32)) (L' := [some (.ref (ad 1)), some (.int (tr + (1 : Int32))), some (.int lv)]) F dG_trapsAround_27 rfl rfl (by decide) rfl ?_
        refine aw_iinc (pc := 30) (x := lv) (v := lv + (1 : Int32)) (L' := [some (.ref (ad 1)), some (.int (tr + (1 : Int32))), some (.int (lv + (1 : Int32)))]) F dG_trapsAround_30 rfl rfl (by decide) rfl ?_
        refine aw_goto (pc := 33) F 4 dG_trapsAround_33 (by decide) ?_
        rw [show (fp_trapsL (n + 1) P tr lv) = (fp_trapsL n P (tr + (1 : Int32)) (lv + (1 : Int32))) from by rw [fp_trapsL, if_neg c_9, if_pos c_24]]
        exact ih S P X  (tr + (1 : Int32)) (lv + (1 : Int32)) hS hL (by have a := i_up (i_lt c_9); omega) (by have a := i_up (i_lt c_9); have b := i_lt c_9; omega) (by have a := i_up (i_lt c_9); omega)
def fp_trapsAround  (P : pT)  : Int32 :=
  (fp_trapsL 25 P (0 : Int32) (0 : Int32))
set_option maxRecDepth 100000 in
set_option maxHeartbeats 4000000 in
theorem tG_trapsAround {l : Launch} {D : va_G} {A : Nat → Prop} {ad : Nat → Nat} {tP : Nat} {cI : ClassId} {tl : List va_E} {tyr : List (ClassId × FieldType)} (S : kT) (P : pT) (X : xT)  (hS : pS P) (hL : pL P) : aw_M l yG_trapsAround (Cond.code yG_trapsAround cG_trapsAround 3 (some .int) :: aw_big) 2 D vwCl ((cI, .int) :: tyr) A ad (zC A tP) [.ref (ad 1)] (hC ad cI S P X ++ tl) (some (.int (fp_trapsAround P))) (hC ad cI S P X ++ tl) := by
  refine aw_met cG_trapsAround 3 (some .int) [some (.ref (ad 1)), none, none] (by decide) rfl (Nat.le_of_ble_eq_true rfl) rfl ?_
  intro p e s m args below meth c F Zs hr hlk
  refine aw_iconst (pc := 0) (v := 0) F dG_trapsAround_0 (by decide) ?_
  refine aw_istore_n (pc := 1) (i := 1) (L' := [some (.ref (ad 1)), some (.int (0 : Int32)), none]) F dG_trapsAround_1 rfl (by decide) rfl ?_
  refine aw_iconst (pc := 2) (v := 0) F dG_trapsAround_2 (by decide) ?_
  refine aw_istore_n (pc := 3) (i := 2) (L' := [some (.ref (ad 1)), some (.int (0 : Int32)), some (.int (0 : Int32))]) F dG_trapsAround_3 rfl (by decide) rfl ?_
  rw [show (fp_trapsAround P) = (fp_trapsL 25 P (0 : Int32) (0 : Int32)) from by rw [fp_trapsAround]]
  exact tG_trapsAround_L4  F Zs hr hlk 25 S P X  (0 : Int32) (0 : Int32) hS hL (by rw [i_0]; omega) (by rw [i_0]; exact hL.1) (by rw [i_0]; have := hL.2; omega)
def fp_nextWeight  (P : pT)  : Int32 :=
  if (P.1 0) = 0 then
    (1 : Int32)
  else
    if (fp_sortOf P ((P.2 7) ((P.1 0) - (1 : Int32)).toNatClampNeg)) = (6 : Int32) then
      if ((P.2 8) ((P.1 0) - (1 : Int32)).toNatClampNeg) = (1 : Int32) then
        if (fp_sortOf P ((P.2 7) ((P.1 0) - (1 : Int32)).toNatClampNeg)) = (8 : Int32) then
          ((fp_weightOf P ((P.2 7) ((P.1 0) - (1 : Int32)).toNatClampNeg)) + (1 : Int32))
        else
          if (1 : Int32) = 0 then
            ((fp_weightOf P ((P.2 7) ((P.1 0) - (1 : Int32)).toNatClampNeg)) + (0 : Int32))
          else
            ((fp_weightOf P ((P.2 7) ((P.1 0) - (1 : Int32)).toNatClampNeg)) + (1 : Int32))
      else
        if (fp_sortOf P ((P.2 7) ((P.1 0) - (1 : Int32)).toNatClampNeg)) = (8 : Int32) then
          ((fp_weightOf P ((P.2 7) ((P.1 0) - (1 : Int32)).toNatClampNeg)) + (1 : Int32))
        else
          if (0 : Int32) = 0 then
            ((fp_weightOf P ((P.2 7) ((P.1 0) - (1 : Int32)).toNatClampNeg)) + (0 : Int32))
          else
            ((fp_weightOf P ((P.2 7) ((P.1 0) - (1 : Int32)).toNatClampNeg)) + (1 : Int32))
    else
      if (fp_sortOf P ((P.2 7) ((P.1 0) - (1 : Int32)).toNatClampNeg)) = (8 : Int32) then
        ((fp_weightOf P ((P.2 7) ((P.1 0) - (1 : Int32)).toNatClampNeg)) + (1 : Int32))
      else
        if (0 : Int32) = 0 then
          ((fp_weightOf P ((P.2 7) ((P.1 0) - (1 : Int32)).toNatClampNeg)) + (0 : Int32))
        else
          ((fp_weightOf P ((P.2 7) ((P.1 0) - (1 : Int32)).toNatClampNeg)) + (1 : Int32))
set_option maxRecDepth 100000 in
set_option maxHeartbeats 4000000 in
theorem tG_nextWeight {l : Launch} {D : va_G} {A : Nat → Prop} {ad : Nat → Nat} {tP : Nat} {cI : ClassId} {tl : List va_E} {tyr : List (ClassId × FieldType)} (S : kT) (P : pT) (X : xT)  (hS : pS P) (hL : pL P) : aw_M l yG_nextWeight (Cond.code yG_nextWeight cG_nextWeight 4 (some .int) :: aw_big) 2 D vwCl ((cI, .int) :: tyr) A ad (zC A tP) [.ref (ad 1)] (hC ad cI S P X ++ tl) (some (.int (fp_nextWeight P))) (hC ad cI S P X ++ tl) := by
  refine aw_met cG_nextWeight 4 (some .int) [some (.ref (ad 1)), none, none, none] (by decide) rfl (Nat.le_of_ble_eq_true rfl) rfl ?_
  intro p e s m args below meth c F Zs hr hlk
  refine aw_aload_n (pc := 0) (i := 0) (x := ad 1) F dG_nextWeight_0 rfl rfl ?_
  refine aw_get (pc := 1) (v := .int (P.1 0)) F 1 hC_at1 rfl 9 (by decide) (fun w h => mw (iw_G w h)) (mw wd_101) rfl dG_nextWeight_1 ?_
  refine aw_if_ne (pc := 4) F 9 dG_nextWeight_4 (by decide) (fun c_4 => ?_) (fun c_4 => ?_)
  · skip
    refine aw_aload_n (pc := 9) (i := 0) (x := ad 1) F dG_nextWeight_9 rfl rfl ?_
    refine aw_get (pc := 10) (v := .ref (ad 9)) F 1 hC_at1 rfl 7 (by decide) (fun w h => mw (iw_G w h)) (mw wd_99) rfl dG_nextWeight_10 ?_
    refine aw_aload_n (pc := 13) (i := 0) (x := ad 1) F dG_nextWeight_13 rfl rfl ?_
    refine aw_get (pc := 14) (v := .int (P.1 0)) F 1 hC_at1 rfl 9 (by decide) (fun w h => mw (iw_G w h)) (mw wd_101) rfl dG_nextWeight_14 ?_
    refine aw_iconst (pc := 17) (v := 1) F dG_nextWeight_17 (by decide) ?_
    refine aw_isub (pc := 18) F dG_nextWeight_18 ?_
    refine aw_iald (pc := 19) F 9 0 hC_at9 rfl (inr_top hL (lv_ne hL c_4)) dG_nextWeight_19 ?_
    refine aw_istore_n (pc := 20) (i := 1) (L' := [some (.ref (ad 1)), some (.int ((P.2 7) ((P.1 0) - (1 : Int32)).toNatClampNeg)), none, none]) F dG_nextWeight_20 rfl (by decide) rfl ?_
    refine aw_aload_n (pc := 21) (i := 0) (x := ad 1) F dG_nextWeight_21 rfl rfl ?_
    refine aw_iload_n (pc := 22) (i := 1) (x := (P.2 7) ((P.1 0) - (1 : Int32)).toNatClampNeg) F dG_nextWeight_22 rfl rfl ?_
    refine aw_goV (pc := 23) (As := [.int ((P.2 7) ((P.1 0) - (1 : Int32)).toNatClampNeg)]) (rest := []) F zC_ok Zs 1 hC_at1 rfl (tG_sortOf  S P X ((P.2 7) ((P.1 0) - (1 : Int32)).toNatClampNeg) hS) (cwV 1 F.1.2.2.2.2 (gi_V wd_317 wd_319 wd_7 wd_65 wd_320) rfl rfl rfl (by decide +kernel) ⟨Nat.le_of_ble_eq_true rfl, Nat.le_of_ble_eq_true rfl⟩) rfl (Nat.le_of_ble_eq_true rfl) ⟨Nat.zero_le _, Nat.zero_le _⟩ rfl dG_nextWeight_23 ?_
    show aW _ _ _ _ _ _ _ _ _ _ _ _ _ _ _ _ _ _ _ _ _ [.int (fp_sortOf P ((P.2 7) ((P.1 0) - (1 : Int32)).toNatClampNeg))]
    refine aw_istore_n (pc := 26) (i := 2) (L' := [some (.ref (ad 1)), some (.int ((P.2 7) ((P.1 0) - (1 : Int32)).toNatClampNeg)), some (.int (fp_sortOf P ((P.2 7) ((P.1 0) - (1 : Int32)).toNatClampNeg))), none]) F dG_nextWeight_26 rfl (by decide) rfl ?_
    refine aw_iload_n (pc := 27) (i := 2) (x := (fp_sortOf P ((P.2 7) ((P.1 0) - (1 : Int32)).toNatClampNeg))) F dG_nextWeight_27 rfl rfl ?_
    refine aw_bipush (pc := 28) (v := 6) F dG_nextWeight_28 (by decide) ?_
    refine aw_icmp_ne (pc := 30) F 52 dG_nextWeight_30 (by decide) (fun c_30 => ?_) (fun c_30 => ?_)
    · skip
      refine aw_iconst (pc := 52) (v := 0) F dG_nextWeight_52 (by decide) ?_
      refine aw_istore_n (pc := 53) (i := 3) (L' := [some (.ref (ad 1)), some (.int ((P.2 7) ((P.1 0) - (1 : Int32)).toNatClampNeg)), some (.int (fp_sortOf P ((P.2 7) ((P.1 0) - (1 : Int32)).toNatClampNeg))), some (.int (0 : Int32))]) F dG_nextWeight_53 rfl (by decide) rfl ?_
      refine aw_aload_n (pc := 54) (i := 0) (x := ad 1) F dG_nextWeight_54 rfl rfl ?_
      refine aw_iload_n (pc := 55) (i := 1) (x := (P.2 7) ((P.1 0) - (1 : Int32)).toNatClampNeg) F dG_nextWeight_55 rfl rfl ?_
      refine aw_goV (pc := 56) (As := [.int ((P.2 7) ((P.1 0) - (1 : Int32)).toNatClampNeg)]) (rest := []) F zC_ok Zs 1 hC_at1 rfl (tG_weightOf  S P X ((P.2 7) ((P.1 0) - (1 : Int32)).toNatClampNeg) hS) (cwV 1 F.1.2.2.2.2 (gi_V wd_349 wd_351 wd_11 wd_65 wd_352) rfl rfl rfl (by decide +kernel) ⟨Nat.le_of_ble_eq_true rfl, Nat.le_of_ble_eq_true rfl⟩) rfl (Nat.le_of_ble_eq_true rfl) ⟨Nat.zero_le _, Nat.zero_le _⟩ rfl dG_nextWeight_56 ?_
      show aW _ _ _ _ _ _ _ _ _ _ _ _ _ _ _ _ _ _ _ _ _ [.int (fp_weightOf P ((P.2 7) ((P.1 0) - (1 : Int32)).toNatClampNeg))]
      refine aw_iload_n (pc := 59) (i := 2) (x := (fp_sortOf P ((P.2 7) ((P.1 0) - (1 : Int32)).toNatClampNeg))) F dG_nextWeight_59 rfl rfl ?_
      refine aw_bipush (pc := 60) (v := 8) F dG_nextWeight_60 (by decide) ?_
      refine aw_icmp_eq (pc := 62) F 69 dG_nextWeight_62 (by decide) (fun c_62 => ?_) (fun c_62 => ?_)
      · skip
        refine aw_iconst (pc := 69) (v := 1) F dG_nextWeight_69 (by decide) ?_
        refine aw_goto (pc := 70) F 74 dG_nextWeight_70 (by decide) ?_
        refine aw_iadd (pc := 74) F dG_nextWeight_74 ?_
        exact aw_iret (pc := 75) F hr hlk dG_nextWeight_75 (by rw [fp_nextWeight, if_neg c_4, if_neg c_30, if_pos c_62]) rfl
      · skip
        refine aw_iload_n (pc := 65) (i := 3) (x := (0 : Int32)) F dG_nextWeight_65 rfl rfl ?_
        refine aw_if_eq (pc := 66) F 73 dG_nextWeight_66 (by decide) (fun c_66 => ?_) (fun c_66 => ?_)
        · skip
          refine aw_iconst (pc := 73) (v := 0) F dG_nextWeight_73 (by decide) ?_
          refine aw_iadd (pc := 74) F dG_nextWeight_74 ?_
          exact aw_iret (pc := 75) F hr hlk dG_nextWeight_75 (by rw [fp_nextWeight, if_neg c_4, if_neg c_30, if_neg c_62, if_pos c_66]) rfl
        · skip
          refine aw_iconst (pc := 69) (v := 1) F dG_nextWeight_69 (by decide) ?_
          refine aw_goto (pc := 70) F 74 dG_nextWeight_70 (by decide) ?_
          refine aw_iadd (pc := 74) F dG_nextWeight_74 ?_
          exact aw_iret (pc := 75) F hr hlk dG_nextWeight_75 (by rw [fp_nextWeight, if_neg c_4, if_neg c_30, if_neg c_62, if_neg c_66]) rfl
    · skip
      refine aw_aload_n (pc := 33) (i := 0) (x := ad 1) F dG_nextWeight_33 rfl rfl ?_
      refine aw_get (pc := 34) (v := .ref (ad 10)) F 1 hC_at1 rfl 8 (by decide) (fun w h => mw (iw_G w h)) (mw wd_100) rfl dG_nextWeight_34 ?_
      refine aw_aload_n (pc := 37) (i := 0) (x := ad 1) F dG_nextWeight_37 rfl rfl ?_
      refine aw_get (pc := 38) (v := .int (P.1 0)) F 1 hC_at1 rfl 9 (by decide) (fun w h => mw (iw_G w h)) (mw wd_101) rfl dG_nextWeight_38 ?_
      refine aw_iconst (pc := 41) (v := 1) F dG_nextWeight_41 (by decide) ?_
      refine aw_isub (pc := 42) F dG_nextWeight_42 ?_
      refine aw_iald (pc := 43) F 10 0 hC_at10 rfl (inr_top hL (lv_ne hL c_4)) dG_nextWeight_43 ?_
      refine aw_iconst (pc := 44) (v := 1) F dG_nextWeight_44 (by decide) ?_
      refine aw_icmp_ne (pc := 45) F 52 dG_nextWeight_45 (by decide) (fun c_45 => ?_) (fun c_45 => ?_)
      · skip
        refine aw_iconst (pc := 52) (v := 0) F dG_nextWeight_52 (by decide) ?_
        refine aw_istore_n (pc := 53) (i := 3) (L' := [some (.ref (ad 1)), some (.int ((P.2 7) ((P.1 0) - (1 : Int32)).toNatClampNeg)), some (.int (fp_sortOf P ((P.2 7) ((P.1 0) - (1 : Int32)).toNatClampNeg))), some (.int (0 : Int32))]) F dG_nextWeight_53 rfl (by decide) rfl ?_
        refine aw_aload_n (pc := 54) (i := 0) (x := ad 1) F dG_nextWeight_54 rfl rfl ?_
        refine aw_iload_n (pc := 55) (i := 1) (x := (P.2 7) ((P.1 0) - (1 : Int32)).toNatClampNeg) F dG_nextWeight_55 rfl rfl ?_
        refine aw_goV (pc := 56) (As := [.int ((P.2 7) ((P.1 0) - (1 : Int32)).toNatClampNeg)]) (rest := []) F zC_ok Zs 1 hC_at1 rfl (tG_weightOf  S P X ((P.2 7) ((P.1 0) - (1 : Int32)).toNatClampNeg) hS) (cwV 1 F.1.2.2.2.2 (gi_V wd_349 wd_351 wd_11 wd_65 wd_352) rfl rfl rfl (by decide +kernel) ⟨Nat.le_of_ble_eq_true rfl, Nat.le_of_ble_eq_true rfl⟩) rfl (Nat.le_of_ble_eq_true rfl) ⟨Nat.zero_le _, Nat.zero_le _⟩ rfl dG_nextWeight_56 ?_
        show aW _ _ _ _ _ _ _ _ _ _ _ _ _ _ _ _ _ _ _ _ _ [.int (fp_weightOf P ((P.2 7) ((P.1 0) - (1 : Int32)).toNatClampNeg))]
        refine aw_iload_n (pc := 59) (i := 2) (x := (fp_sortOf P ((P.2 7) ((P.1 0) - (1 : Int32)).toNatClampNeg))) F dG_nextWeight_59 rfl rfl ?_
        refine aw_bipush (pc := 60) (v := 8) F dG_nextWeight_60 (by decide) ?_
        refine aw_icmp_eq (pc := 62) F 69 dG_nextWeight_62 (by decide) (fun c_62 => ?_) (fun c_62 => ?_)
        · skip
          refine aw_iconst (pc := 69) (v := 1) F dG_nextWeight_69 (by decide) ?_
          refine aw_goto (pc := 70) F 74 dG_nextWeight_70 (by decide) ?_
          refine aw_iadd (pc := 74) F dG_nextWeight_74 ?_
          exact aw_iret (pc := 75) F hr hlk dG_nextWeight_75 (by rw [fp_nextWeight, if_neg c_4, if_pos c_30, if_neg c_45, if_pos c_62]) rfl
        · skip
          refine aw_iload_n (pc := 65) (i := 3) (x := (0 : Int32)) F dG_nextWeight_65 rfl rfl ?_
          refine aw_if_eq (pc := 66) F 73 dG_nextWeight_66 (by decide) (fun c_66 => ?_) (fun c_66 => ?_)
          · skip
            refine aw_iconst (pc := 73) (v := 0) F dG_nextWeight_73 (by decide) ?_
            refine aw_iadd (pc := 74) F dG_nextWeight_74 ?_
            exact aw_iret (pc := 75) F hr hlk dG_nextWeight_75 (by rw [fp_nextWeight, if_neg c_4, if_pos c_30, if_neg c_45, if_neg c_62, if_pos c_66]) rfl
          · skip
            refine aw_iconst (pc := 69) (v := 1) F dG_nextWeight_69 (by decide) ?_
            refine aw_goto (pc := 70) F 74 dG_nextWeight_70 (by decide) ?_
            refine aw_iadd (pc := 74) F dG_nextWeight_74 ?_
            exact aw_iret (pc := 75) F hr hlk dG_nextWeight_75 (by rw [fp_nextWeight, if_neg c_4, if_pos c_30, if_neg c_45, if_neg c_62, if_neg c_66]) rfl
      · skip
        refine aw_iconst (pc := 48) (v := 1) F dG_nextWeight_48 (by decide) ?_
        refine aw_goto (pc := 49) F 53 dG_nextWeight_49 (by decide) ?_
        refine aw_istore_n (pc := 53) (i := 3) (L' := [some (.ref (ad 1)), some (.int ((P.2 7) ((P.1 0) - (1 : Int32)).toNatClampNeg)), some (.int (fp_sortOf P ((P.2 7) ((P.1 0) - (1 : Int32)).toNatClampNeg))), some (.int (1 : Int32))]) F dG_nextWeight_53 rfl (by decide) rfl ?_
        refine aw_aload_n (pc := 54) (i := 0) (x := ad 1) F dG_nextWeight_54 rfl rfl ?_
        refine aw_iload_n (pc := 55) (i := 1) (x := (P.2 7) ((P.1 0) - (1 : Int32)).toNatClampNeg) F dG_nextWeight_55 rfl rfl ?_
        refine aw_goV (pc := 56) (As := [.int ((P.2 7) ((P.1 0) - (1 : Int32)).toNatClampNeg)]) (rest := []) F zC_ok Zs 1 hC_at1 rfl (tG_weightOf  S P X ((P.2 7) ((P.1 0) - (1 : Int32)).toNatClampNeg) hS) (cwV 1 F.1.2.2.2.2 (gi_V wd_349 wd_351 wd_11 wd_65 wd_352) rfl rfl rfl (by decide +kernel) ⟨Nat.le_of_ble_eq_true rfl, Nat.le_of_ble_eq_true rfl⟩) rfl (Nat.le_of_ble_eq_true rfl) ⟨Nat.zero_le _, Nat.zero_le _⟩ rfl dG_nextWeight_56 ?_
        show aW _ _ _ _ _ _ _ _ _ _ _ _ _ _ _ _ _ _ _ _ _ [.int (fp_weightOf P ((P.2 7) ((P.1 0) - (1 : Int32)).toNatClampNeg))]
        refine aw_iload_n (pc := 59) (i := 2) (x := (fp_sortOf P ((P.2 7) ((P.1 0) - (1 : Int32)).toNatClampNeg))) F dG_nextWeight_59 rfl rfl ?_
        refine aw_bipush (pc := 60) (v := 8) F dG_nextWeight_60 (by decide) ?_
        refine aw_icmp_eq (pc := 62) F 69 dG_nextWeight_62 (by decide) (fun c_62 => ?_) (fun c_62 => ?_)
        · skip
          refine aw_iconst (pc := 69) (v := 1) F dG_nextWeight_69 (by decide) ?_
          refine aw_goto (pc := 70) F 74 dG_nextWeight_70 (by decide) ?_
          refine aw_iadd (pc := 74) F dG_nextWeight_74 ?_
          exact aw_iret (pc := 75) F hr hlk dG_nextWeight_75 (by rw [fp_nextWeight, if_neg c_4, if_pos c_30, if_pos c_45, if_pos c_62]) rfl
        · skip
          refine aw_iload_n (pc := 65) (i := 3) (x := (1 : Int32)) F dG_nextWeight_65 rfl rfl ?_
          refine aw_if_eq (pc := 66) F 73 dG_nextWeight_66 (by decide) (fun c_66 => ?_) (fun c_66 => ?_)
          · skip
            refine aw_iconst (pc := 73) (v := 0) F dG_nextWeight_73 (by decide) ?_
            refine aw_iadd (pc := 74) F dG_nextWeight_74 ?_
            exact aw_iret (pc := 75) F hr hlk dG_nextWeight_75 (by rw [fp_nextWeight, if_neg c_4, if_pos c_30, if_pos c_45, if_neg c_62, if_pos c_66]) rfl
          · skip
            refine aw_iconst (pc := 69) (v := 1) F dG_nextWeight_69 (by decide) ?_
            refine aw_goto (pc := 70) F 74 dG_nextWeight_70 (by decide) ?_
            refine aw_iadd (pc := 74) F dG_nextWeight_74 ?_
            exact aw_iret (pc := 75) F hr hlk dG_nextWeight_75 (by rw [fp_nextWeight, if_neg c_4, if_pos c_30, if_pos c_45, if_neg c_62, if_neg c_66]) rfl
  · skip
    refine aw_iconst (pc := 7) (v := 1) F dG_nextWeight_7 (by decide) ?_
    exact aw_iret (pc := 8) F hr hlk dG_nextWeight_8 (by rw [fp_nextWeight, if_pos c_4]) rfl
def fp_allows  (P : pT) (so : Int32) (x : Int32) : Int32 :=
  if so = (2 : Int32) then if x < (4 : Int32) then (0 : Int32) else if (16 : Int32) ≤ x then (0 : Int32) else (1 : Int32)
  else if so = (3 : Int32) then if x < 0 then (0 : Int32) else if (fp_trapsAround P) ≤ x then (0 : Int32) else (1 : Int32)
  else if so = (4 : Int32) then if x < (-16 : Int32) then (0 : Int32) else if (16 : Int32) ≤ x then (0 : Int32) else (1 : Int32)
  else if so = (5 : Int32) then if x < (-16 : Int32) then (0 : Int32) else if (16 : Int32) ≤ x then (0 : Int32) else (1 : Int32)
  else if so = (6 : Int32) then if so < 0 then
      (0 : Int32)
    else
      if (10 : Int32) < so then (0 : Int32) else if x = 0 then (1 : Int32) else (0 : Int32)
  else if so = (7 : Int32) then if so < 0 then
      (0 : Int32)
    else
      if (10 : Int32) < so then (0 : Int32) else if x = 0 then (1 : Int32) else (0 : Int32)
  else if so = (8 : Int32) then if so < 0 then
      (0 : Int32)
    else
      if (10 : Int32) < so then (0 : Int32) else if x = 0 then (1 : Int32) else (0 : Int32)
  else if so = (9 : Int32) then if so < 0 then
      (0 : Int32)
    else
      if (10 : Int32) < so then (0 : Int32) else if x = 0 then (1 : Int32) else (0 : Int32)
  else if so = (10 : Int32) then if x < (4 : Int32) then (0 : Int32) else if (16 : Int32) ≤ x then (0 : Int32) else (1 : Int32)
  else if so < 0 then
    (0 : Int32)
  else
    if (10 : Int32) < so then (0 : Int32) else if x = 0 then (1 : Int32) else (0 : Int32)
set_option maxRecDepth 100000 in
set_option maxHeartbeats 4000000 in
theorem tG_allows {l : Launch} {D : va_G} {A : Nat → Prop} {ad : Nat → Nat} {tP : Nat} {cI : ClassId} {tl : List va_E} {tyr : List (ClassId × FieldType)} (S : kT) (P : pT) (X : xT) (so : Int32) (x : Int32) (hS : pS P) (hL : pL P) : aw_M l yG_allows (Cond.code yG_allows cG_allows 3 (some .boolean) :: aw_big) 3 D vwCl ((cI, .int) :: tyr) A ad (zC A tP) [.ref (ad 1), .int so, .int x] (hC ad cI S P X ++ tl) (some (.int (fp_allows P so x))) (hC ad cI S P X ++ tl) := by
  refine aw_met cG_allows 3 (some .boolean) [some (.ref (ad 1)), some (.int so), some (.int x)] (by decide) rfl (Nat.le_of_ble_eq_true rfl) rfl ?_
  intro p e s m args below meth c F Zs hr hlk
  refine aw_iload_n (pc := 0) (i := 1) (x := so) F dG_allows_0 rfl rfl ?_
  by_cases s_1_2 : so = (2 : Int32)
  · refine aw_tableIn (pc := 1) F 52 dG_allows_1 (by rw [s_1_2]; decide) (by rw [s_1_2]; decide) (off := 51) (by rw [s_1_2]; rfl) (by decide) ?_
    refine aw_iload_n (pc := 52) (i := 2) (x := x) F dG_allows_52 rfl rfl ?_
    refine aw_iconst (pc := 53) (v := 4) F dG_allows_53 (by decide) ?_
    refine aw_icmp_lt (pc := 54) F 67 dG_allows_54 (by decide) (fun c_54 => ?_) (fun c_54 => ?_)
    · skip
      refine aw_iconst (pc := 67) (v := 0) F dG_allows_67 (by decide) ?_
      exact aw_zret (pc := 68) F hr hlk dG_allows_68 rfl (by rw [fp_allows, if_pos s_1_2, if_pos c_54]) rfl
    · skip
      refine aw_iload_n (pc := 57) (i := 2) (x := x) F dG_allows_57 rfl rfl ?_
      refine aw_bipush (pc := 58) (v := 16) F dG_allows_58 (by decide) ?_
      refine aw_icmp_ge (pc := 60) F 67 dG_allows_60 (by decide) (fun c_60 => ?_) (fun c_60 => ?_)
      · skip
        refine aw_iconst (pc := 67) (v := 0) F dG_allows_67 (by decide) ?_
        exact aw_zret (pc := 68) F hr hlk dG_allows_68 rfl (by rw [fp_allows, if_pos s_1_2, if_neg c_54, if_pos c_60]) rfl
      · skip
        refine aw_iconst (pc := 63) (v := 1) F dG_allows_63 (by decide) ?_
        refine aw_goto (pc := 64) F 68 dG_allows_64 (by decide) ?_
        exact aw_zret (pc := 68) F hr hlk dG_allows_68 rfl (by rw [fp_allows, if_pos s_1_2, if_neg c_54, if_neg c_60]) rfl
  by_cases s_1_3 : so = (3 : Int32)
  · refine aw_tableIn (pc := 1) F 69 dG_allows_1 (by rw [s_1_3]; decide) (by rw [s_1_3]; decide) (off := 68) (by rw [s_1_3]; rfl) (by decide) ?_
    refine aw_iload_n (pc := 69) (i := 2) (x := x) F dG_allows_69 rfl rfl ?_
    refine aw_if_lt (pc := 70) F 85 dG_allows_70 (by decide) (fun c_70 => ?_) (fun c_70 => ?_)
    · skip
      refine aw_iconst (pc := 85) (v := 0) F dG_allows_85 (by decide) ?_
      exact aw_zret (pc := 86) F hr hlk dG_allows_86 rfl (by rw [fp_allows, if_neg s_1_2, if_pos s_1_3, if_pos c_70]) rfl
    · skip
      refine aw_iload_n (pc := 73) (i := 2) (x := x) F dG_allows_73 rfl rfl ?_
      refine aw_aload_n (pc := 74) (i := 0) (x := ad 1) F dG_allows_74 rfl rfl ?_
      refine aw_goV (pc := 75) (As := []) (rest := [.int x]) F zC_ok Zs 1 hC_at1 rfl (tG_trapsAround  S P X  hS hL) (cwV 0 F.1.2.2.2.2 (gi_V wd_313 wd_315 wd_6 wd_65 wd_316) rfl rfl rfl (by decide +kernel) ⟨Nat.le_of_ble_eq_true rfl, Nat.le_of_ble_eq_true rfl⟩) rfl (Nat.le_of_ble_eq_true rfl) ⟨Nat.zero_le _, Nat.zero_le _⟩ rfl dG_allows_75 ?_
      show aW _ _ _ _ _ _ _ _ _ _ _ _ _ _ _ _ _ _ _ _ _ [.int (fp_trapsAround P), .int x]
      refine aw_icmp_ge (pc := 78) F 85 dG_allows_78 (by decide) (fun c_78 => ?_) (fun c_78 => ?_)
      · skip
        refine aw_iconst (pc := 85) (v := 0) F dG_allows_85 (by decide) ?_
        exact aw_zret (pc := 86) F hr hlk dG_allows_86 rfl (by rw [fp_allows, if_neg s_1_2, if_pos s_1_3, if_neg c_70, if_pos c_78]) rfl
      · skip
        refine aw_iconst (pc := 81) (v := 1) F dG_allows_81 (by decide) ?_
        refine aw_goto (pc := 82) F 86 dG_allows_82 (by decide) ?_
        exact aw_zret (pc := 86) F hr hlk dG_allows_86 rfl (by rw [fp_allows, if_neg s_1_2, if_pos s_1_3, if_neg c_70, if_neg c_78]) rfl
  by_cases s_1_4 : so = (4 : Int32)
  · refine aw_tableIn (pc := 1) F 87 dG_allows_1 (by rw [s_1_4]; decide) (by rw [s_1_4]; decide) (off := 86) (by rw [s_1_4]; rfl) (by decide) ?_
    refine aw_iload_n (pc := 87) (i := 2) (x := x) F dG_allows_87 rfl rfl ?_
    refine aw_bipush (pc := 88) (v := -16) F dG_allows_88 (by decide) ?_
    refine aw_icmp_lt (pc := 90) F 103 dG_allows_90 (by decide) (fun c_90 => ?_) (fun c_90 => ?_)
    · skip
      refine aw_iconst (pc := 103) (v := 0) F dG_allows_103 (by decide) ?_
      exact aw_zret (pc := 104) F hr hlk dG_allows_104 rfl (by rw [fp_allows, if_neg s_1_2, if_neg s_1_3, if_pos s_1_4, if_pos c_90]) rfl
    · skip
      refine aw_iload_n (pc := 93) (i := 2) (x := x) F dG_allows_93 rfl rfl ?_
      refine aw_bipush (pc := 94) (v := 16) F dG_allows_94 (by decide) ?_
      refine aw_icmp_ge (pc := 96) F 103 dG_allows_96 (by decide) (fun c_96 => ?_) (fun c_96 => ?_)
      · skip
        refine aw_iconst (pc := 103) (v := 0) F dG_allows_103 (by decide) ?_
        exact aw_zret (pc := 104) F hr hlk dG_allows_104 rfl (by rw [fp_allows, if_neg s_1_2, if_neg s_1_3, if_pos s_1_4, if_neg c_90, if_pos c_96]) rfl
      · skip
        refine aw_iconst (pc := 99) (v := 1) F dG_allows_99 (by decide) ?_
        refine aw_goto (pc := 100) F 104 dG_allows_100 (by decide) ?_
        exact aw_zret (pc := 104) F hr hlk dG_allows_104 rfl (by rw [fp_allows, if_neg s_1_2, if_neg s_1_3, if_pos s_1_4, if_neg c_90, if_neg c_96]) rfl
  by_cases s_1_5 : so = (5 : Int32)
  · refine aw_tableIn (pc := 1) F 87 dG_allows_1 (by rw [s_1_5]; decide) (by rw [s_1_5]; decide) (off := 86) (by rw [s_1_5]; rfl) (by decide) ?_
    refine aw_iload_n (pc := 87) (i := 2) (x := x) F dG_allows_87 rfl rfl ?_
    refine aw_bipush (pc := 88) (v := -16) F dG_allows_88 (by decide) ?_
    refine aw_icmp_lt (pc := 90) F 103 dG_allows_90 (by decide) (fun c_90 => ?_) (fun c_90 => ?_)
    · skip
      refine aw_iconst (pc := 103) (v := 0) F dG_allows_103 (by decide) ?_
      exact aw_zret (pc := 104) F hr hlk dG_allows_104 rfl (by rw [fp_allows, if_neg s_1_2, if_neg s_1_3, if_neg s_1_4, if_pos s_1_5, if_pos c_90]) rfl
    · skip
      refine aw_iload_n (pc := 93) (i := 2) (x := x) F dG_allows_93 rfl rfl ?_
      refine aw_bipush (pc := 94) (v := 16) F dG_allows_94 (by decide) ?_
      refine aw_icmp_ge (pc := 96) F 103 dG_allows_96 (by decide) (fun c_96 => ?_) (fun c_96 => ?_)
      · skip
        refine aw_iconst (pc := 103) (v := 0) F dG_allows_103 (by decide) ?_
        exact aw_zret (pc := 104) F hr hlk dG_allows_104 rfl (by rw [fp_allows, if_neg s_1_2, if_neg s_1_3, if_neg s_1_4, if_pos s_1_5, if_neg c_90, if_pos c_96]) rfl
      · skip
        refine aw_iconst (pc := 99) (v := 1) F dG_allows_99 (by decide) ?_
        refine aw_goto (pc := 100) F 104 dG_allows_100 (by decide) ?_
        exact aw_zret (pc := 104) F hr hlk dG_allows_104 rfl (by rw [fp_allows, if_neg s_1_2, if_neg s_1_3, if_neg s_1_4, if_pos s_1_5, if_neg c_90, if_neg c_96]) rfl
  by_cases s_1_6 : so = (6 : Int32)
  · refine aw_tableIn (pc := 1) F 105 dG_allows_1 (by rw [s_1_6]; decide) (by rw [s_1_6]; decide) (off := 104) (by rw [s_1_6]; rfl) (by decide) ?_
    refine aw_iload_n (pc := 105) (i := 1) (x := so) F dG_allows_105 rfl rfl ?_
    refine aw_if_lt (pc := 106) F 123 dG_allows_106 (by decide) (fun c_106 => ?_) (fun c_106 => ?_)
    · skip
      refine aw_iconst (pc := 123) (v := 0) F dG_allows_123 (by decide) ?_
      exact aw_zret (pc := 124) F hr hlk dG_allows_124 rfl (by rw [fp_allows, if_neg s_1_2, if_neg s_1_3, if_neg s_1_4, if_neg s_1_5, if_pos s_1_6, if_pos c_106]) rfl
    · skip
      refine aw_iload_n (pc := 109) (i := 1) (x := so) F dG_allows_109 rfl rfl ?_
      refine aw_bipush (pc := 110) (v := 10) F dG_allows_110 (by decide) ?_
      refine aw_icmp_gt (pc := 112) F 123 dG_allows_112 (by decide) (fun c_112 => ?_) (fun c_112 => ?_)
      · skip
        refine aw_iconst (pc := 123) (v := 0) F dG_allows_123 (by decide) ?_
        exact aw_zret (pc := 124) F hr hlk dG_allows_124 rfl (by rw [fp_allows, if_neg s_1_2, if_neg s_1_3, if_neg s_1_4, if_neg s_1_5, if_pos s_1_6, if_neg c_106, if_pos c_112]) rfl
      · skip
        refine aw_iload_n (pc := 115) (i := 2) (x := x) F dG_allows_115 rfl rfl ?_
        refine aw_if_ne (pc := 116) F 123 dG_allows_116 (by decide) (fun c_116 => ?_) (fun c_116 => ?_)
        · skip
          refine aw_iconst (pc := 123) (v := 0) F dG_allows_123 (by decide) ?_
          exact aw_zret (pc := 124) F hr hlk dG_allows_124 rfl (by rw [fp_allows, if_neg s_1_2, if_neg s_1_3, if_neg s_1_4, if_neg s_1_5, if_pos s_1_6, if_neg c_106, if_neg c_112, if_neg c_116]) rfl
        · skip
          refine aw_iconst (pc := 119) (v := 1) F dG_allows_119 (by decide) ?_
          refine aw_goto (pc := 120) F 124 dG_allows_120 (by decide) ?_
          exact aw_zret (pc := 124) F hr hlk dG_allows_124 rfl (by rw [fp_allows, if_neg s_1_2, if_neg s_1_3, if_neg s_1_4, if_neg s_1_5, if_pos s_1_6, if_neg c_106, if_neg c_112, if_pos c_116]) rfl
  by_cases s_1_7 : so = (7 : Int32)
  · refine aw_tableIn (pc := 1) F 105 dG_allows_1 (by rw [s_1_7]; decide) (by rw [s_1_7]; decide) (off := 104) (by rw [s_1_7]; rfl) (by decide) ?_
    refine aw_iload_n (pc := 105) (i := 1) (x := so) F dG_allows_105 rfl rfl ?_
    refine aw_if_lt (pc := 106) F 123 dG_allows_106 (by decide) (fun c_106 => ?_) (fun c_106 => ?_)
    · skip
      refine aw_iconst (pc := 123) (v := 0) F dG_allows_123 (by decide) ?_
      exact aw_zret (pc := 124) F hr hlk dG_allows_124 rfl (by rw [fp_allows, if_neg s_1_2, if_neg s_1_3, if_neg s_1_4, if_neg s_1_5, if_neg s_1_6, if_pos s_1_7, if_pos c_106]) rfl
    · skip
      refine aw_iload_n (pc := 109) (i := 1) (x := so) F dG_allows_109 rfl rfl ?_
      refine aw_bipush (pc := 110) (v := 10) F dG_allows_110 (by decide) ?_
      refine aw_icmp_gt (pc := 112) F 123 dG_allows_112 (by decide) (fun c_112 => ?_) (fun c_112 => ?_)
      · skip
        refine aw_iconst (pc := 123) (v := 0) F dG_allows_123 (by decide) ?_
        exact aw_zret (pc := 124) F hr hlk dG_allows_124 rfl (by rw [fp_allows, if_neg s_1_2, if_neg s_1_3, if_neg s_1_4, if_neg s_1_5, if_neg s_1_6, if_pos s_1_7, if_neg c_106, if_pos c_112]) rfl
      · skip
        refine aw_iload_n (pc := 115) (i := 2) (x := x) F dG_allows_115 rfl rfl ?_
        refine aw_if_ne (pc := 116) F 123 dG_allows_116 (by decide) (fun c_116 => ?_) (fun c_116 => ?_)
        · skip
          refine aw_iconst (pc := 123) (v := 0) F dG_allows_123 (by decide) ?_
          exact aw_zret (pc := 124) F hr hlk dG_allows_124 rfl (by rw [fp_allows, if_neg s_1_2, if_neg s_1_3, if_neg s_1_4, if_neg s_1_5, if_neg s_1_6, if_pos s_1_7, if_neg c_106, if_neg c_112, if_neg c_116]) rfl
        · skip
          refine aw_iconst (pc := 119) (v := 1) F dG_allows_119 (by decide) ?_
          refine aw_goto (pc := 120) F 124 dG_allows_120 (by decide) ?_
          exact aw_zret (pc := 124) F hr hlk dG_allows_124 rfl (by rw [fp_allows, if_neg s_1_2, if_neg s_1_3, if_neg s_1_4, if_neg s_1_5, if_neg s_1_6, if_pos s_1_7, if_neg c_106, if_neg c_112, if_pos c_116]) rfl
  by_cases s_1_8 : so = (8 : Int32)
  · refine aw_tableIn (pc := 1) F 105 dG_allows_1 (by rw [s_1_8]; decide) (by rw [s_1_8]; decide) (off := 104) (by rw [s_1_8]; rfl) (by decide) ?_
    refine aw_iload_n (pc := 105) (i := 1) (x := so) F dG_allows_105 rfl rfl ?_
    refine aw_if_lt (pc := 106) F 123 dG_allows_106 (by decide) (fun c_106 => ?_) (fun c_106 => ?_)
    · skip
      refine aw_iconst (pc := 123) (v := 0) F dG_allows_123 (by decide) ?_
      exact aw_zret (pc := 124) F hr hlk dG_allows_124 rfl (by rw [fp_allows, if_neg s_1_2, if_neg s_1_3, if_neg s_1_4, if_neg s_1_5, if_neg s_1_6, if_neg s_1_7, if_pos s_1_8, if_pos c_106]) rfl
    · skip
      refine aw_iload_n (pc := 109) (i := 1) (x := so) F dG_allows_109 rfl rfl ?_
      refine aw_bipush (pc := 110) (v := 10) F dG_allows_110 (by decide) ?_
      refine aw_icmp_gt (pc := 112) F 123 dG_allows_112 (by decide) (fun c_112 => ?_) (fun c_112 => ?_)
      · skip
        refine aw_iconst (pc := 123) (v := 0) F dG_allows_123 (by decide) ?_
        exact aw_zret (pc := 124) F hr hlk dG_allows_124 rfl (by rw [fp_allows, if_neg s_1_2, if_neg s_1_3, if_neg s_1_4, if_neg s_1_5, if_neg s_1_6, if_neg s_1_7, if_pos s_1_8, if_neg c_106, if_pos c_112]) rfl
      · skip
        refine aw_iload_n (pc := 115) (i := 2) (x := x) F dG_allows_115 rfl rfl ?_
        refine aw_if_ne (pc := 116) F 123 dG_allows_116 (by decide) (fun c_116 => ?_) (fun c_116 => ?_)
        · skip
          refine aw_iconst (pc := 123) (v := 0) F dG_allows_123 (by decide) ?_
          exact aw_zret (pc := 124) F hr hlk dG_allows_124 rfl (by rw [fp_allows, if_neg s_1_2, if_neg s_1_3, if_neg s_1_4, if_neg s_1_5, if_neg s_1_6, if_neg s_1_7, if_pos s_1_8, if_neg c_106, if_neg c_112, if_neg c_116]) rfl
        · skip
          refine aw_iconst (pc := 119) (v := 1) F dG_allows_119 (by decide) ?_
          refine aw_goto (pc := 120) F 124 dG_allows_120 (by decide) ?_
          exact aw_zret (pc := 124) F hr hlk dG_allows_124 rfl (by rw [fp_allows, if_neg s_1_2, if_neg s_1_3, if_neg s_1_4, if_neg s_1_5, if_neg s_1_6, if_neg s_1_7, if_pos s_1_8, if_neg c_106, if_neg c_112, if_pos c_116]) rfl
  by_cases s_1_9 : so = (9 : Int32)
  · refine aw_tableIn (pc := 1) F 105 dG_allows_1 (by rw [s_1_9]; decide) (by rw [s_1_9]; decide) (off := 104) (by rw [s_1_9]; rfl) (by decide) ?_
    refine aw_iload_n (pc := 105) (i := 1) (x := so) F dG_allows_105 rfl rfl ?_
    refine aw_if_lt (pc := 106) F 123 dG_allows_106 (by decide) (fun c_106 => ?_) (fun c_106 => ?_)
    · skip
      refine aw_iconst (pc := 123) (v := 0) F dG_allows_123 (by decide) ?_
      exact aw_zret (pc := 124) F hr hlk dG_allows_124 rfl (by rw [fp_allows, if_neg s_1_2, if_neg s_1_3, if_neg s_1_4, if_neg s_1_5, if_neg s_1_6, if_neg s_1_7, if_neg s_1_8, if_pos s_1_9, if_pos c_106]) rfl
    · skip
      refine aw_iload_n (pc := 109) (i := 1) (x := so) F dG_allows_109 rfl rfl ?_
      refine aw_bipush (pc := 110) (v := 10) F dG_allows_110 (by decide) ?_
      refine aw_icmp_gt (pc := 112) F 123 dG_allows_112 (by decide) (fun c_112 => ?_) (fun c_112 => ?_)
      · skip
        refine aw_iconst (pc := 123) (v := 0) F dG_allows_123 (by decide) ?_
        exact aw_zret (pc := 124) F hr hlk dG_allows_124 rfl (by rw [fp_allows, if_neg s_1_2, if_neg s_1_3, if_neg s_1_4, if_neg s_1_5, if_neg s_1_6, if_neg s_1_7, if_neg s_1_8, if_pos s_1_9, if_neg c_106, if_pos c_112]) rfl
      · skip
        refine aw_iload_n (pc := 115) (i := 2) (x := x) F dG_allows_115 rfl rfl ?_
        refine aw_if_ne (pc := 116) F 123 dG_allows_116 (by decide) (fun c_116 => ?_) (fun c_116 => ?_)
        · skip
          refine aw_iconst (pc := 123) (v := 0) F dG_allows_123 (by decide) ?_
          exact aw_zret (pc := 124) F hr hlk dG_allows_124 rfl (by rw [fp_allows, if_neg s_1_2, if_neg s_1_3, if_neg s_1_4, if_neg s_1_5, if_neg s_1_6, if_neg s_1_7, if_neg s_1_8, if_pos s_1_9, if_neg c_106, if_neg c_112, if_neg c_116]) rfl
        · skip
          refine aw_iconst (pc := 119) (v := 1) F dG_allows_119 (by decide) ?_
          refine aw_goto (pc := 120) F 124 dG_allows_120 (by decide) ?_
          exact aw_zret (pc := 124) F hr hlk dG_allows_124 rfl (by rw [fp_allows, if_neg s_1_2, if_neg s_1_3, if_neg s_1_4, if_neg s_1_5, if_neg s_1_6, if_neg s_1_7, if_neg s_1_8, if_pos s_1_9, if_neg c_106, if_neg c_112, if_pos c_116]) rfl
  by_cases s_1_10 : so = (10 : Int32)
  · refine aw_tableIn (pc := 1) F 52 dG_allows_1 (by rw [s_1_10]; decide) (by rw [s_1_10]; decide) (off := 51) (by rw [s_1_10]; rfl) (by decide) ?_
    refine aw_iload_n (pc := 52) (i := 2) (x := x) F dG_allows_52 rfl rfl ?_
    refine aw_iconst (pc := 53) (v := 4) F dG_allows_53 (by decide) ?_
    refine aw_icmp_lt (pc := 54) F 67 dG_allows_54 (by decide) (fun c_54 => ?_) (fun c_54 => ?_)
    · skip
      refine aw_iconst (pc := 67) (v := 0) F dG_allows_67 (by decide) ?_
      exact aw_zret (pc := 68) F hr hlk dG_allows_68 rfl (by rw [fp_allows, if_neg s_1_2, if_neg s_1_3, if_neg s_1_4, if_neg s_1_5, if_neg s_1_6, if_neg s_1_7, if_neg s_1_8, if_neg s_1_9, if_pos s_1_10, if_pos c_54]) rfl
    · skip
      refine aw_iload_n (pc := 57) (i := 2) (x := x) F dG_allows_57 rfl rfl ?_
      refine aw_bipush (pc := 58) (v := 16) F dG_allows_58 (by decide) ?_
      refine aw_icmp_ge (pc := 60) F 67 dG_allows_60 (by decide) (fun c_60 => ?_) (fun c_60 => ?_)
      · skip
        refine aw_iconst (pc := 67) (v := 0) F dG_allows_67 (by decide) ?_
        exact aw_zret (pc := 68) F hr hlk dG_allows_68 rfl (by rw [fp_allows, if_neg s_1_2, if_neg s_1_3, if_neg s_1_4, if_neg s_1_5, if_neg s_1_6, if_neg s_1_7, if_neg s_1_8, if_neg s_1_9, if_pos s_1_10, if_neg c_54, if_pos c_60]) rfl
      · skip
        refine aw_iconst (pc := 63) (v := 1) F dG_allows_63 (by decide) ?_
        refine aw_goto (pc := 64) F 68 dG_allows_64 (by decide) ?_
        exact aw_zret (pc := 68) F hr hlk dG_allows_68 rfl (by rw [fp_allows, if_neg s_1_2, if_neg s_1_3, if_neg s_1_4, if_neg s_1_5, if_neg s_1_6, if_neg s_1_7, if_neg s_1_8, if_neg s_1_9, if_pos s_1_10, if_neg c_54, if_neg c_60]) rfl
  refine aw_tableOut (pc := 1) F 105 dG_allows_1 (by have := aw_ne s_1_2 (a := 2) (by decide); have := aw_ne s_1_3 (a := 3) (by decide); have := aw_ne s_1_4 (a := 4) (by decide); have := aw_ne s_1_5 (a := 5) (by decide); have := aw_ne s_1_6 (a := 6) (by decide); have := aw_ne s_1_7 (a := 7) (by decide); have := aw_ne s_1_8 (a := 8) (by decide); have := aw_ne s_1_9 (a := 9) (by decide); have := aw_ne s_1_10 (a := 10) (by decide); omega) (by decide) ?_
  refine aw_iload_n (pc := 105) (i := 1) (x := so) F dG_allows_105 rfl rfl ?_
  refine aw_if_lt (pc := 106) F 123 dG_allows_106 (by decide) (fun c_106 => ?_) (fun c_106 => ?_)
  · skip
    refine aw_iconst (pc := 123) (v := 0) F dG_allows_123 (by decide) ?_
    exact aw_zret (pc := 124) F hr hlk dG_allows_124 rfl (by rw [fp_allows, if_neg s_1_2, if_neg s_1_3, if_neg s_1_4, if_neg s_1_5, if_neg s_1_6, if_neg s_1_7, if_neg s_1_8, if_neg s_1_9, if_neg s_1_10, if_pos c_106]) rfl
  · skip
    refine aw_iload_n (pc := 109) (i := 1) (x := so) F dG_allows_109 rfl rfl ?_
    refine aw_bipush (pc := 110) (v := 10) F dG_allows_110 (by decide) ?_
    refine aw_icmp_gt (pc := 112) F 123 dG_allows_112 (by decide) (fun c_112 => ?_) (fun c_112 => ?_)
    · skip
      refine aw_iconst (pc := 123) (v := 0) F dG_allows_123 (by decide) ?_
      exact aw_zret (pc := 124) F hr hlk dG_allows_124 rfl (by rw [fp_allows, if_neg s_1_2, if_neg s_1_3, if_neg s_1_4, if_neg s_1_5, if_neg s_1_6, if_neg s_1_7, if_neg s_1_8, if_neg s_1_9, if_neg s_1_10, if_neg c_106, if_pos c_112]) rfl
    · skip
      refine aw_iload_n (pc := 115) (i := 2) (x := x) F dG_allows_115 rfl rfl ?_
      refine aw_if_ne (pc := 116) F 123 dG_allows_116 (by decide) (fun c_116 => ?_) (fun c_116 => ?_)
      · skip
        refine aw_iconst (pc := 123) (v := 0) F dG_allows_123 (by decide) ?_
        exact aw_zret (pc := 124) F hr hlk dG_allows_124 rfl (by rw [fp_allows, if_neg s_1_2, if_neg s_1_3, if_neg s_1_4, if_neg s_1_5, if_neg s_1_6, if_neg s_1_7, if_neg s_1_8, if_neg s_1_9, if_neg s_1_10, if_neg c_106, if_neg c_112, if_neg c_116]) rfl
      · skip
        refine aw_iconst (pc := 119) (v := 1) F dG_allows_119 (by decide) ?_
        refine aw_goto (pc := 120) F 124 dG_allows_120 (by decide) ?_
        exact aw_zret (pc := 124) F hr hlk dG_allows_124 rfl (by rw [fp_allows, if_neg s_1_2, if_neg s_1_3, if_neg s_1_4, if_neg s_1_5, if_neg s_1_6, if_neg s_1_7, if_neg s_1_8, if_neg s_1_9, if_neg s_1_10, if_neg c_106, if_neg c_112, if_pos c_116]) rfl
def fp_hasRoomFor  (P : pT) (so : Int32) : Int32 :=
  if (120 : Int32) ≤ (P.1 1) then
    (0 : Int32)
  else
    if (24 : Int32) ≤ (P.1 0) then
      (0 : Int32)
    else
      if so = (1 : Int32) then
        if (32 : Int32) ≤ (P.1 3) then
          (0 : Int32)
        else
          if so = (9 : Int32) then
            if (5 : Int32) ≤ (fp_trapsAround P) then
              (0 : Int32)
            else
              if (360 : Int32) < ((P.1 5) + (fp_nextWeight P)) then (0 : Int32) else (1 : Int32)
          else
            if (360 : Int32) < ((P.1 5) + (fp_nextWeight P)) then (0 : Int32) else (1 : Int32)
      else
        if so = (9 : Int32) then
          if (5 : Int32) ≤ (fp_trapsAround P) then
            (0 : Int32)
          else
            if (360 : Int32) < ((P.1 5) + (fp_nextWeight P)) then (0 : Int32) else (1 : Int32)
        else
          if (360 : Int32) < ((P.1 5) + (fp_nextWeight P)) then (0 : Int32) else (1 : Int32)
set_option maxRecDepth 100000 in
set_option maxHeartbeats 4000000 in
theorem tG_hasRoomFor {l : Launch} {D : va_G} {A : Nat → Prop} {ad : Nat → Nat} {tP : Nat} {cI : ClassId} {tl : List va_E} {tyr : List (ClassId × FieldType)} (S : kT) (P : pT) (X : xT) (so : Int32) (hS : pS P) (hL : pL P) : aw_M l yG_hasRoomFor (Cond.code yG_hasRoomFor cG_hasRoomFor 2 (some .boolean) :: aw_big) 3 D vwCl ((cI, .int) :: tyr) A ad (zC A tP) [.ref (ad 1), .int so] (hC ad cI S P X ++ tl) (some (.int (fp_hasRoomFor P so))) (hC ad cI S P X ++ tl) := by
  refine aw_met cG_hasRoomFor 2 (some .boolean) [some (.ref (ad 1)), some (.int so)] (by decide) rfl (Nat.le_of_ble_eq_true rfl) rfl ?_
  intro p e s m args below meth c F Zs hr hlk
  refine aw_aload_n (pc := 0) (i := 0) (x := ad 1) F dG_hasRoomFor_0 rfl rfl ?_
  refine aw_get (pc := 1) (v := .int (P.1 1)) F 1 hC_at1 rfl 10 (by decide) (fun w h => mw (iw_G w h)) (mw wd_102) rfl dG_hasRoomFor_1 ?_
  refine aw_bipush (pc := 4) (v := 120) F dG_hasRoomFor_4 (by decide) ?_
  refine aw_icmp_ge (pc := 6) F 65 dG_hasRoomFor_6 (by decide) (fun c_6 => ?_) (fun c_6 => ?_)
  · skip
    refine aw_iconst (pc := 65) (v := 0) F dG_hasRoomFor_65 (by decide) ?_
    exact aw_zret (pc := 66) F hr hlk dG_hasRoomFor_66 rfl (by rw [fp_hasRoomFor, if_pos c_6]) rfl
  · skip
    refine aw_aload_n (pc := 9) (i := 0) (x := ad 1) F dG_hasRoomFor_9 rfl rfl ?_
    refine aw_get (pc := 10) (v := .int (P.1 0)) F 1 hC_at1 rfl 9 (by decide) (fun w h => mw (iw_G w h)) (mw wd_101) rfl dG_hasRoomFor_10 ?_
    refine aw_bipush (pc := 13) (v := 24) F dG_hasRoomFor_13 (by decide) ?_
    refine aw_icmp_ge (pc := 15) F 65 dG_hasRoomFor_15 (by decide) (fun c_15 => ?_) (fun c_15 => ?_)
    · skip
      refine aw_iconst (pc := 65) (v := 0) F dG_hasRoomFor_65 (by decide) ?_
      exact aw_zret (pc := 66) F hr hlk dG_hasRoomFor_66 rfl (by rw [fp_hasRoomFor, if_neg c_6, if_pos c_15]) rfl
    · skip
      refine aw_iload_n (pc := 18) (i := 1) (x := so) F dG_hasRoomFor_18 rfl rfl ?_
      refine aw_iconst (pc := 19) (v := 1) F dG_hasRoomFor_19 (by decide) ?_
      refine aw_icmp_ne (pc := 20) F 32 dG_hasRoomFor_20 (by decide) (fun c_20 => ?_) (fun c_20 => ?_)
      · skip
        refine aw_iload_n (pc := 32) (i := 1) (x := so) F dG_hasRoomFor_32 rfl rfl ?_
        refine aw_bipush (pc := 33) (v := 9) F dG_hasRoomFor_33 (by decide) ?_
        refine aw_icmp_ne (pc := 35) F 46 dG_hasRoomFor_35 (by decide) (fun c_35 => ?_) (fun c_35 => ?_)
        · skip
          refine aw_aload_n (pc := 46) (i := 0) (x := ad 1) F dG_hasRoomFor_46 rfl rfl ?_
          refine aw_get (pc := 47) (v := .int (P.1 5)) F 1 hC_at1 rfl 14 (by decide) (fun w h => mw (iw_G w h)) (mw wd_110) rfl dG_hasRoomFor_47 ?_
          refine aw_aload_n (pc := 50) (i := 0) (x := ad 1) F dG_hasRoomFor_50 rfl rfl ?_
          refine aw_goV (pc := 51) (As := []) (rest := [.int (P.1 5)]) F zC_ok Zs 1 hC_at1 rfl (tG_nextWeight  S P X  hS hL) (cwV 0 F.1.2.2.2.2 (gi_V wd_345 wd_347 wd_10 wd_65 wd_348) rfl rfl rfl (by decide +kernel) ⟨Nat.le_of_ble_eq_true rfl, Nat.le_of_ble_eq_true rfl⟩) rfl (Nat.le_of_ble_eq_true rfl) ⟨Nat.zero_le _, Nat.zero_le _⟩ rfl dG_hasRoomFor_51 ?_
          show aW _ _ _ _ _ _ _ _ _ _ _ _ _ _ _ _ _ _ _ _ _ [.int (fp_nextWeight P), .int (P.1 5)]
          refine aw_iadd (pc := 54) F dG_hasRoomFor_54 ?_
          refine aw_sipush (pc := 55) (v := 360) F dG_hasRoomFor_55 (by decide) ?_
          refine aw_icmp_gt (pc := 58) F 65 dG_hasRoomFor_58 (by decide) (fun c_58 => ?_) (fun c_58 => ?_)
          · skip
            refine aw_iconst (pc := 65) (v := 0) F dG_hasRoomFor_65 (by decide) ?_
            exact aw_zret (pc := 66) F hr hlk dG_hasRoomFor_66 rfl (by rw [fp_hasRoomFor, if_neg c_6, if_neg c_15, if_neg c_20, if_neg c_35, if_pos c_58]) rfl
          · skip
            refine aw_iconst (pc := 61) (v := 1) F dG_hasRoomFor_61 (by decide) ?_
            refine aw_goto (pc := 62) F 66 dG_hasRoomFor_62 (by decide) ?_
            exact aw_zret (pc := 66) F hr hlk dG_hasRoomFor_66 rfl (by rw [fp_hasRoomFor, if_neg c_6, if_neg c_15, if_neg c_20, if_neg c_35, if_neg c_58]) rfl
        · skip
          refine aw_aload_n (pc := 38) (i := 0) (x := ad 1) F dG_hasRoomFor_38 rfl rfl ?_
          refine aw_goV (pc := 39) (As := []) (rest := []) F zC_ok Zs 1 hC_at1 rfl (tG_trapsAround  S P X  hS hL) (cwV 0 F.1.2.2.2.2 (gi_V wd_313 wd_315 wd_6 wd_65 wd_316) rfl rfl rfl (by decide +kernel) ⟨Nat.le_of_ble_eq_true rfl, Nat.le_of_ble_eq_true rfl⟩) rfl (Nat.le_of_ble_eq_true rfl) ⟨Nat.zero_le _, Nat.zero_le _⟩ rfl dG_hasRoomFor_39 ?_
          show aW _ _ _ _ _ _ _ _ _ _ _ _ _ _ _ _ _ _ _ _ _ [.int (fp_trapsAround P)]
          refine aw_iconst (pc := 42) (v := 5) F dG_hasRoomFor_42 (by decide) ?_
          refine aw_icmp_ge (pc := 43) F 65 dG_hasRoomFor_43 (by decide) (fun c_43 => ?_) (fun c_43 => ?_)
          · skip
            refine aw_iconst (pc := 65) (v := 0) F dG_hasRoomFor_65 (by decide) ?_
            exact aw_zret (pc := 66) F hr hlk dG_hasRoomFor_66 rfl (by rw [fp_hasRoomFor, if_neg c_6, if_neg c_15, if_neg c_20, if_pos c_35, if_pos c_43]) rfl
          · skip
            refine aw_aload_n (pc := 46) (i := 0) (x := ad 1) F dG_hasRoomFor_46 rfl rfl ?_
            refine aw_get (pc := 47) (v := .int (P.1 5)) F 1 hC_at1 rfl 14 (by decide) (fun w h => mw (iw_G w h)) (mw wd_110) rfl dG_hasRoomFor_47 ?_
            refine aw_aload_n (pc := 50) (i := 0) (x := ad 1) F dG_hasRoomFor_50 rfl rfl ?_
            refine aw_goV (pc := 51) (As := []) (rest := [.int (P.1 5)]) F zC_ok Zs 1 hC_at1 rfl (tG_nextWeight  S P X  hS hL) (cwV 0 F.1.2.2.2.2 (gi_V wd_345 wd_347 wd_10 wd_65 wd_348) rfl rfl rfl (by decide +kernel) ⟨Nat.le_of_ble_eq_true rfl, Nat.le_of_ble_eq_true rfl⟩) rfl (Nat.le_of_ble_eq_true rfl) ⟨Nat.zero_le _, Nat.zero_le _⟩ rfl dG_hasRoomFor_51 ?_
            show aW _ _ _ _ _ _ _ _ _ _ _ _ _ _ _ _ _ _ _ _ _ [.int (fp_nextWeight P), .int (P.1 5)]
            refine aw_iadd (pc := 54) F dG_hasRoomFor_54 ?_
            refine aw_sipush (pc := 55) (v := 360) F dG_hasRoomFor_55 (by decide) ?_
            refine aw_icmp_gt (pc := 58) F 65 dG_hasRoomFor_58 (by decide) (fun c_58 => ?_) (fun c_58 => ?_)
            · skip
              refine aw_iconst (pc := 65) (v := 0) F dG_hasRoomFor_65 (by decide) ?_
              exact aw_zret (pc := 66) F hr hlk dG_hasRoomFor_66 rfl (by rw [fp_hasRoomFor, if_neg c_6, if_neg c_15, if_neg c_20, if_pos c_35, if_neg c_43, if_pos c_58]) rfl
            · skip
              refine aw_iconst (pc := 61) (v := 1) F dG_hasRoomFor_61 (by decide) ?_
              refine aw_goto (pc := 62) F 66 dG_hasRoomFor_62 (by decide) ?_
              exact aw_zret (pc := 66) F hr hlk dG_hasRoomFor_66 rfl (by rw [fp_hasRoomFor, if_neg c_6, if_neg c_15, if_neg c_20, if_pos c_35, if_neg c_43, if_neg c_58]) rfl
      · skip
        refine aw_aload_n (pc := 23) (i := 0) (x := ad 1) F dG_hasRoomFor_23 rfl rfl ?_
        refine aw_get (pc := 24) (v := .int (P.1 3)) F 1 hC_at1 rfl 12 (by decide) (fun w h => mw (iw_G w h)) (mw wd_106) rfl dG_hasRoomFor_24 ?_
        refine aw_bipush (pc := 27) (v := 32) F dG_hasRoomFor_27 (by decide) ?_
        refine aw_icmp_ge (pc := 29) F 65 dG_hasRoomFor_29 (by decide) (fun c_29 => ?_) (fun c_29 => ?_)
        · skip
          refine aw_iconst (pc := 65) (v := 0) F dG_hasRoomFor_65 (by decide) ?_
          exact aw_zret (pc := 66) F hr hlk dG_hasRoomFor_66 rfl (by rw [fp_hasRoomFor, if_neg c_6, if_neg c_15, if_pos c_20, if_pos c_29]) rfl
        · skip
          refine aw_iload_n (pc := 32) (i := 1) (x := so) F dG_hasRoomFor_32 rfl rfl ?_
          refine aw_bipush (pc := 33) (v := 9) F dG_hasRoomFor_33 (by decide) ?_
          refine aw_icmp_ne (pc := 35) F 46 dG_hasRoomFor_35 (by decide) (fun c_35 => ?_) (fun c_35 => ?_)
          · skip
            refine aw_aload_n (pc := 46) (i := 0) (x := ad 1) F dG_hasRoomFor_46 rfl rfl ?_
            refine aw_get (pc := 47) (v := .int (P.1 5)) F 1 hC_at1 rfl 14 (by decide) (fun w h => mw (iw_G w h)) (mw wd_110) rfl dG_hasRoomFor_47 ?_
            refine aw_aload_n (pc := 50) (i := 0) (x := ad 1) F dG_hasRoomFor_50 rfl rfl ?_
            refine aw_goV (pc := 51) (As := []) (rest := [.int (P.1 5)]) F zC_ok Zs 1 hC_at1 rfl (tG_nextWeight  S P X  hS hL) (cwV 0 F.1.2.2.2.2 (gi_V wd_345 wd_347 wd_10 wd_65 wd_348) rfl rfl rfl (by decide +kernel) ⟨Nat.le_of_ble_eq_true rfl, Nat.le_of_ble_eq_true rfl⟩) rfl (Nat.le_of_ble_eq_true rfl) ⟨Nat.zero_le _, Nat.zero_le _⟩ rfl dG_hasRoomFor_51 ?_
            show aW _ _ _ _ _ _ _ _ _ _ _ _ _ _ _ _ _ _ _ _ _ [.int (fp_nextWeight P), .int (P.1 5)]
            refine aw_iadd (pc := 54) F dG_hasRoomFor_54 ?_
            refine aw_sipush (pc := 55) (v := 360) F dG_hasRoomFor_55 (by decide) ?_
            refine aw_icmp_gt (pc := 58) F 65 dG_hasRoomFor_58 (by decide) (fun c_58 => ?_) (fun c_58 => ?_)
            · skip
              refine aw_iconst (pc := 65) (v := 0) F dG_hasRoomFor_65 (by decide) ?_
              exact aw_zret (pc := 66) F hr hlk dG_hasRoomFor_66 rfl (by rw [fp_hasRoomFor, if_neg c_6, if_neg c_15, if_pos c_20, if_neg c_29, if_neg c_35, if_pos c_58]) rfl
            · skip
              refine aw_iconst (pc := 61) (v := 1) F dG_hasRoomFor_61 (by decide) ?_
              refine aw_goto (pc := 62) F 66 dG_hasRoomFor_62 (by decide) ?_
              exact aw_zret (pc := 66) F hr hlk dG_hasRoomFor_66 rfl (by rw [fp_hasRoomFor, if_neg c_6, if_neg c_15, if_pos c_20, if_neg c_29, if_neg c_35, if_neg c_58]) rfl
          · skip
            refine aw_aload_n (pc := 38) (i := 0) (x := ad 1) F dG_hasRoomFor_38 rfl rfl ?_
            refine aw_goV (pc := 39) (As := []) (rest := []) F zC_ok Zs 1 hC_at1 rfl (tG_trapsAround  S P X  hS hL) (cwV 0 F.1.2.2.2.2 (gi_V wd_313 wd_315 wd_6 wd_65 wd_316) rfl rfl rfl (by decide +kernel) ⟨Nat.le_of_ble_eq_true rfl, Nat.le_of_ble_eq_true rfl⟩) rfl (Nat.le_of_ble_eq_true rfl) ⟨Nat.zero_le _, Nat.zero_le _⟩ rfl dG_hasRoomFor_39 ?_
            show aW _ _ _ _ _ _ _ _ _ _ _ _ _ _ _ _ _ _ _ _ _ [.int (fp_trapsAround P)]
            refine aw_iconst (pc := 42) (v := 5) F dG_hasRoomFor_42 (by decide) ?_
            refine aw_icmp_ge (pc := 43) F 65 dG_hasRoomFor_43 (by decide) (fun c_43 => ?_) (fun c_43 => ?_)
            · skip
              refine aw_iconst (pc := 65) (v := 0) F dG_hasRoomFor_65 (by decide) ?_
              exact aw_zret (pc := 66) F hr hlk dG_hasRoomFor_66 rfl (by rw [fp_hasRoomFor, if_neg c_6, if_neg c_15, if_pos c_20, if_neg c_29, if_pos c_35, if_pos c_43]) rfl
            · skip
              refine aw_aload_n (pc := 46) (i := 0) (x := ad 1) F dG_hasRoomFor_46 rfl rfl ?_
              refine aw_get (pc := 47) (v := .int (P.1 5)) F 1 hC_at1 rfl 14 (by decide) (fun w h => mw (iw_G w h)) (mw wd_110) rfl dG_hasRoomFor_47 ?_
              refine aw_aload_n (pc := 50) (i := 0) (x := ad 1) F dG_hasRoomFor_50 rfl rfl ?_
              refine aw_goV (pc := 51) (As := []) (rest := [.int (P.1 5)]) F zC_ok Zs 1 hC_at1 rfl (tG_nextWeight  S P X  hS hL) (cwV 0 F.1.2.2.2.2 (gi_V wd_345 wd_347 wd_10 wd_65 wd_348) rfl rfl rfl (by decide +kernel) ⟨Nat.le_of_ble_eq_true rfl, Nat.le_of_ble_eq_true rfl⟩) rfl (Nat.le_of_ble_eq_true rfl) ⟨Nat.zero_le _, Nat.zero_le _⟩ rfl dG_hasRoomFor_51 ?_
              show aW _ _ _ _ _ _ _ _ _ _ _ _ _ _ _ _ _ _ _ _ _ [.int (fp_nextWeight P), .int (P.1 5)]
              refine aw_iadd (pc := 54) F dG_hasRoomFor_54 ?_
              refine aw_sipush (pc := 55) (v := 360) F dG_hasRoomFor_55 (by decide) ?_
              refine aw_icmp_gt (pc := 58) F 65 dG_hasRoomFor_58 (by decide) (fun c_58 => ?_) (fun c_58 => ?_)
              · skip
                refine aw_iconst (pc := 65) (v := 0) F dG_hasRoomFor_65 (by decide) ?_
                exact aw_zret (pc := 66) F hr hlk dG_hasRoomFor_66 rfl (by rw [fp_hasRoomFor, if_neg c_6, if_neg c_15, if_pos c_20, if_neg c_29, if_pos c_35, if_neg c_43, if_pos c_58]) rfl
              · skip
                refine aw_iconst (pc := 61) (v := 1) F dG_hasRoomFor_61 (by decide) ?_
                refine aw_goto (pc := 62) F 66 dG_hasRoomFor_62 (by decide) ?_
                exact aw_zret (pc := 66) F hr hlk dG_hasRoomFor_66 rfl (by rw [fp_hasRoomFor, if_neg c_6, if_neg c_15, if_pos c_20, if_neg c_29, if_pos c_35, if_neg c_43, if_neg c_58]) rfl
def fp_forget  (P : pT)  : Int32 × pT :=
  ((P.1 1), (pw (pw (pw (pw (pw (pw P 0 (0 : Int32)) 1 (0 : Int32)) 2 (1 : Int32)) 3 (0 : Int32)) 4 (0 : Int32)) 5 (0 : Int32)))
set_option maxRecDepth 100000 in
set_option maxHeartbeats 4000000 in
theorem tG_forget {l : Launch} {D : va_G} {A : Nat → Prop} {ad : Nat → Nat} {tP : Nat} {cI : ClassId} {tl : List va_E} {tyr : List (ClassId × FieldType)} (S : kT) (P : pT) (X : xT)   : aw_M l yG_forget (Cond.code yG_forget cG_forget 2 (some .int) :: aw_big) 0 D vwCl ((cI, .int) :: tyr) A ad (zC A tP) [.ref (ad 1)] (hC ad cI S P X ++ tl) (some (.int ((fp_forget P).1))) (hC ad cI S ((fp_forget P).2) X ++ tl) := by
  refine aw_met cG_forget 2 (some .int) [some (.ref (ad 1)), none] (by decide) rfl (Nat.le_of_ble_eq_true rfl) rfl ?_
  intro p e s m args below meth c F Zs hr hlk
  refine aw_aload_n (pc := 0) (i := 0) (x := ad 1) F dG_forget_0 rfl rfl ?_
  refine aw_get (pc := 1) (v := .int (P.1 1)) F 1 hC_at1 rfl 10 (by decide) (fun w h => mw (iw_G w h)) (mw wd_102) rfl dG_forget_1 ?_
  refine aw_istore_n (pc := 4) (i := 1) (L' := [some (.ref (ad 1)), some (.int (P.1 1))]) F dG_forget_4 rfl (by decide) rfl ?_
  refine aw_aload_n (pc := 5) (i := 0) (x := ad 1) F dG_forget_5 rfl rfl ?_
  refine aw_iconst (pc := 6) (v := 0) F dG_forget_6 (by decide) ?_
  refine aw_put (pc := 7) (hp' := (hC ad cI S (pw P 0 (0 : Int32)) X ++ tl)) F 1 hC_at1 rfl 9 (by decide) (fun w h => mw (iw_G w h)) tyG tyG_ok nmG (mw wd_101) (ty := .int) rfl (by decide +kernel) rfl rfl (Nat.le_of_ble_eq_true rfl) hC_st1_9 dG_forget_7 ?_
  refine aw_aload_n (pc := 10) (i := 0) (x := ad 1) F dG_forget_10 rfl rfl ?_
  refine aw_iconst (pc := 11) (v := 0) F dG_forget_11 (by decide) ?_
  refine aw_put (pc := 12) (hp' := (hC ad cI S (pw (pw P 0 (0 : Int32)) 1 (0 : Int32)) X ++ tl)) F 1 hC_at1 rfl 10 (by decide) (fun w h => mw (iw_G w h)) tyG tyG_ok nmG (mw wd_102) (ty := .int) rfl (by decide +kernel) rfl rfl (Nat.le_of_ble_eq_true rfl) hC_st1_10 dG_forget_12 ?_
  refine aw_aload_n (pc := 15) (i := 0) (x := ad 1) F dG_forget_15 rfl rfl ?_
  refine aw_iconst (pc := 16) (v := 1) F dG_forget_16 (by decide) ?_
  refine aw_put (pc := 17) (hp' := (hC ad cI S (pw (pw (pw P 0 (0 : Int32)) 1 (0 : Int32)) 2 (1 : Int32)) X ++ tl)) F 1 hC_at1 rfl 11 (by decide) (fun w h => mw (iw_G w h)) tyG tyG_ok nmG (mw wd_104) (ty := .int) rfl (by decide +kernel) rfl rfl (Nat.le_of_ble_eq_true rfl) hC_st1_11 dG_forget_17 ?_
  refine aw_aload_n (pc := 20) (i := 0) (x := ad 1) F dG_forget_20 rfl rfl ?_
  refine aw_iconst (pc := 21) (v := 0) F dG_forget_21 (by decide) ?_
  refine aw_put (pc := 22) (hp' := (hC ad cI S (pw (pw (pw (pw P 0 (0 : Int32)) 1 (0 : Int32)) 2 (1 : Int32)) 3 (0 : Int32)) X ++ tl)) F 1 hC_at1 rfl 12 (by decide) (fun w h => mw (iw_G w h)) tyG tyG_ok nmG (mw wd_106) (ty := .int) rfl (by decide +kernel) rfl rfl (Nat.le_of_ble_eq_true rfl) hC_st1_12 dG_forget_22 ?_
  refine aw_aload_n (pc := 25) (i := 0) (x := ad 1) F dG_forget_25 rfl rfl ?_
  refine aw_iconst (pc := 26) (v := 0) F dG_forget_26 (by decide) ?_
  refine aw_put (pc := 27) (hp' := (hC ad cI S (pw (pw (pw (pw (pw P 0 (0 : Int32)) 1 (0 : Int32)) 2 (1 : Int32)) 3 (0 : Int32)) 4 (0 : Int32)) X ++ tl)) F 1 hC_at1 rfl 13 (by decide) (fun w h => mw (iw_G w h)) tyG tyG_ok nmG (mw wd_108) (ty := .int) rfl (by decide +kernel) rfl rfl (Nat.le_of_ble_eq_true rfl) hC_st1_13 dG_forget_27 ?_
  refine aw_aload_n (pc := 30) (i := 0) (x := ad 1) F dG_forget_30 rfl rfl ?_
  refine aw_iconst (pc := 31) (v := 0) F dG_forget_31 (by decide) ?_
  refine aw_put (pc := 32) (hp' := (hC ad cI S (pw (pw (pw (pw (pw (pw P 0 (0 : Int32)) 1 (0 : Int32)) 2 (1 : Int32)) 3 (0 : Int32)) 4 (0 : Int32)) 5 (0 : Int32)) X ++ tl)) F 1 hC_at1 rfl 14 (by decide) (fun w h => mw (iw_G w h)) tyG tyG_ok nmG (mw wd_110) (ty := .int) rfl (by decide +kernel) rfl rfl (Nat.le_of_ble_eq_true rfl) hC_st1_14 dG_forget_32 ?_
  refine aw_iload_n (pc := 35) (i := 1) (x := (P.1 1)) F dG_forget_35 rfl rfl ?_
  exact aw_iret (pc := 36) F hr hlk dG_forget_36 (by first | rfl | (unfold fp_forget; rfl)) (by first | rfl | (unfold fp_forget; rfl))
