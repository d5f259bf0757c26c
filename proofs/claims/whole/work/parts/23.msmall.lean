def mIx (M : mT) (i : Int32) : Prop := 0 ≤ i.toInt ∧ i.toInt < (M.1 0).toInt
/-- what a whole program of the reference keeps -/
def mR (M : mT) (i : Int32) : Prop :=
  (M.2 2 i.toNatClampNeg = (-1 : Int32) ∨ (mIx M (M.2 2 i.toNatClampNeg) ∧ i.toInt < (M.2 2 i.toNatClampNeg).toInt)) ∧
  (M.2 3 i.toNatClampNeg = (-1 : Int32) ∨ (mIx M (M.2 3 i.toNatClampNeg) ∧ i.toInt < (M.2 3 i.toNatClampNeg).toInt)) ∧
  (M.2 4 i.toNatClampNeg).toInt ≤ (M.1 0).toInt ∧
  (M.2 8 i.toNatClampNeg = (-1 : Int32) ∨ vp_in (M.2 8 i.toNatClampNeg) 32) ∧
  (M.2 0 i.toNatClampNeg = (1 : Int32) → vp_in (M.2 8 i.toNatClampNeg) 32) ∧
  (M.2 0 i.toNatClampNeg = (2 : Int32) → vp_in (M.2 1 i.toNatClampNeg) 16) ∧
  (M.2 0 i.toNatClampNeg = (10 : Int32) → vp_in (M.2 1 i.toNatClampNeg) 16) ∧
  ((M.2 0 i.toNatClampNeg = (4 : Int32) ∨ M.2 0 i.toNatClampNeg = (5 : Int32)) → -16 ≤ (M.2 1 i.toNatClampNeg).toInt ∧ (M.2 1 i.toNatClampNeg).toInt < 16) ∧
  (0 ≤ (M.2 5 i.toNatClampNeg).toInt ∧ (M.2 5 i.toNatClampNeg).toInt ≤ 24) ∧
  (¬ M.2 0 i.toNatClampNeg = (0 : Int32) → ¬ M.2 0 i.toNatClampNeg = (1 : Int32) → ¬ M.2 0 i.toNatClampNeg = (2 : Int32) → ¬ M.2 0 i.toNatClampNeg = (3 : Int32) → ¬ M.2 2 i.toNatClampNeg = (-1 : Int32)) ∧
  (M.2 0 i.toNatClampNeg = (4 : Int32) ∨ M.2 0 i.toNatClampNeg = (6 : Int32) ∨ M.2 0 i.toNatClampNeg = (7 : Int32) → ¬ M.2 3 i.toNatClampNeg = (-1 : Int32)) ∧
  (0 ≤ (M.2 0 i.toNatClampNeg).toInt ∧ (M.2 0 i.toNatClampNeg).toInt ≤ 10)
def mW (M : mT) : Prop := mS M ∧ ∀ i : Int32, mIx M i → mR M i
def vI (V : vT) : Prop := (∀ s : Nat, s < 16 → vp_in (V.2 3 s) 3256) ∧ 0 ≤ (V.1 0).toInt ∧ (V.1 0).toInt ≤ 25
theorem ix_in {M : mT} {i : Int32} (hw : mW M) (hi : mIx M i) : vp_in i 120 := by
  rw [vp_in_iff]
  have a := hi.1
  have b := hi.2
  have c := hw.1.2
  omega
theorem vI_at {V : vT} {a : Int32} (hv : vI V) (h : vp_in a 16) : vp_in (V.2 3 a.toNatClampNeg) 3256 := by
  rw [vp_in_iff] at h
  have := i_nat h.1
  exact hv.1 _ (by omega)
theorem te_p {t : Int32} (h : -16 ≤ t.toInt ∧ t.toInt < 16) (c : 0 ≤ t) : vp_in t 16 := by
  rw [vp_in_iff]
  have a := i_le c
  rw [i_0] at a
  omega
theorem te_n {t : Int32} (h : -16 ≤ t.toInt ∧ t.toInt < 16) (c : ¬ 0 ≤ t) : vp_in ((-1 : Int32) - t) 16 := by
  rw [vp_in_iff]
  have a := i_lt c
  rw [i_0] at a
  have m1 : (-1 : Int32).toInt = -1 := rfl
  have e := i_sub (x := (-1 : Int32)) (y := t) (by rw [m1]; omega) (by rw [m1]; omega)
  rw [m1] at e
  omega
theorem hk_in {M : mT} {i k : Int32} (hw : mW M) (hi : mIx M i) (h1 : 0 ≤ k.toInt) (c : ¬ (M.2 4) i.toNatClampNeg ≤ k) : mIx M k := by
  have a := i_lt c
  have b := (hw.2 i hi).2.2.1
  exact ⟨h1, by omega⟩
theorem hk_pa {M : mT} {k : Int32} (hw : mW M) (hk : mIx M k) (c : ¬ (M.2 8) k.toNatClampNeg = (-1 : Int32)) : vp_in ((M.2 8) k.toNatClampNeg) 32 := (hw.2 k hk).2.2.2.1.resolve_left c
theorem mI_up {M : mT} {k : Int32} (hw : mW M) (hk : mIx M k) : (k + (1 : Int32)).toInt = k.toInt + 1 ∧ k.toInt < 120 := by
  have a := hk.2
  have b := hw.1.2
  exact ⟨i_up a, by omega⟩
def fm_test  (Y : yT) (V : vT) (te : Int32) : Int32 :=
  if 0 ≤ te then
    if ((Y.2 2) ((V.2 3) te.toNatClampNeg).toNatClampNeg) = (2 : Int32) then
      ((Y.2 2) ((V.2 3) te.toNatClampNeg).toNatClampNeg)
    else
      if te < 0 then
        ((1 : Int32) - ((Y.2 2) ((V.2 3) te.toNatClampNeg).toNatClampNeg))
      else
        ((Y.2 2) ((V.2 3) te.toNatClampNeg).toNatClampNeg)
  else
    if ((Y.2 2) ((V.2 3) ((-1 : Int32) - te).toNatClampNeg).toNatClampNeg) = (2 : Int32) then
      ((Y.2 2) ((V.2 3) ((-1 : Int32) - te).toNatClampNeg).toNatClampNeg)
    else
      if te < 0 then
        ((1 : Int32) - ((Y.2 2) ((V.2 3) ((-1 : Int32) - te).toNatClampNeg).toNatClampNeg))
      else
        ((Y.2 2) ((V.2 3) ((-1 : Int32) - te).toNatClampNeg).toNatClampNeg)
set_option maxRecDepth 100000 in
set_option maxHeartbeats 4000000 in
theorem tM_test {l : Launch} {D : va_G} {A : Nat → Prop} {ad : Nat → Nat} {tP : Nat} {cI cZ : ClassId} {S : kT} {P : pT} {X : xT} {tl : List va_E} {tyr : List (ClassId × FieldType)} (T : Int32) (M : mT) (Y : yT) (V : vT) (te : Int32) (hv : vI V) (ht : -16 ≤ te.toInt ∧ te.toInt < 16) : aw_M l yM_test (Cond.code yM_test cM_test 3 (some .int) :: aw_big) 0 D vwCl ((cI, .int) :: (cZ, .boolean) :: tyr) A ad (zC A tP) [.ref (ad 13), .int te] (hC ad cI S P X ++ (hM ad cI cZ T M Y V ++ tl)) (some (.int (fm_test Y V te))) (hC ad cI S P X ++ (hM ad cI cZ T M Y V ++ tl)) := by
  refine aw_met cM_test 3 (some .int) [some (.ref (ad 13)), some (.int te), none] (by decide) rfl (Nat.le_of_ble_eq_true rfl) rfl ?_
  intro p e s m args below meth c F Zs hr hlk
  refine aw_aload_n (pc := 0) (i := 0) (x := ad 13) F dM_test_0 rfl rfl ?_
  refine aw_get (pc := 1) (v := .ref (ad 27)) F 13 hM_at13 rfl 23 (by decide) (fun w h => mw (iw_M w h)) (mw wd_672) rfl dM_test_1 ?_
  refine aw_aload_n (pc := 4) (i := 0) (x := ad 13) F dM_test_4 rfl rfl ?_
  refine aw_get (pc := 5) (v := .ref (ad 31)) F 13 hM_at13 rfl 26 (by decide) (fun w h => mw (iw_M w h)) (mw wd_675) rfl dM_test_5 ?_
  refine aw_iload_n (pc := 8) (i := 1) (x := te) F dM_test_8 rfl rfl ?_
  refine aw_if_ge (pc := 9) F 18 dM_test_9 (by decide) (fun c_9 => ?_) (fun c_9 => ?_)
  · skip
    refine aw_iload_n (pc := 18) (i := 1) (x := te) F dM_test_18 rfl rfl ?_
    refine aw_iald (pc := 19) F 31 0 hM_at31 rfl (te_p ht c_9) dM_test_19 ?_
    refine aw_iald (pc := 20) F 27 0 hM_at27 rfl (vI_at hv (te_p ht c_9)) dM_test_20 ?_
    refine aw_istore_n (pc := 21) (i := 2) (L' := [some (.ref (ad 13)), some (.int te), some (.int ((Y.2 2) ((V.2 3) te.toNatClampNeg).toNatClampNeg))]) F dM_test_21 rfl (by decide) rfl ?_
    refine aw_iload_n (pc := 22) (i := 2) (x := (Y.2 2) ((V.2 3) te.toNatClampNeg).toNatClampNeg) F dM_test_22 rfl rfl ?_
    refine aw_iconst (pc := 23) (v := 2) F dM_test_23 (by decide) ?_
    refine aw_icmp_eq (pc := 24) F 31 dM_test_24 (by decide) (fun c_24 => ?_) (fun c_24 => ?_)
    · skip
      refine aw_iload_n (pc := 31) (i := 2) (x := (Y.2 2) ((V.2 3) te.toNatClampNeg).toNatClampNeg) F dM_test_31 rfl rfl ?_
      refine aw_goto (pc := 32) F 38 dM_test_32 (by decide) ?_
      exact aw_iret (pc := 38) F hr hlk dM_test_38 (by rw [fm_test, if_pos c_9, if_pos c_24]) rfl
    · skip
      refine aw_iload_n (pc := 27) (i := 1) (x := te) F dM_test_27 rfl rfl ?_
      refine aw_if_lt (pc := 28) F 35 dM_test_28 (by decide) (fun c_28 => ?_) (fun c_28 => ?_)
      · skip
        refine aw_iconst (pc := 35) (v := 1) F dM_test_35 (by decide) ?_
        refine aw_iload_n (pc := 36) (i := 2) (x := (Y.2 2) ((V.2 3) te.toNatClampNeg).toNatClampNeg) F dM_test_36 rfl rfl ?_
        refine aw_isub (pc := 37) F dM_test_37 ?_
        exact aw_iret (pc := 38) F hr hlk dM_test_38 (by rw [fm_test, if_pos c_9, if_neg c_24, if_pos c_28]) rfl
      · skip
        refine aw_iload_n (pc := 31) (i := 2) (x := (Y.2 2) ((V.2 3) te.toNatClampNeg).toNatClampNeg) F dM_test_31 rfl rfl ?_
        refine aw_goto (pc := 32) F 38 dM_test_32 (by decide) ?_
        exact aw_iret (pc := 38) F hr hlk dM_test_38 (by rw [fm_test, if_pos c_9, if_neg c_24, if_neg c_28]) rfl
  · skip
    refine aw_iconst (pc := 12) (v := -1) F dM_test_12 (by decide) ?_
    refine aw_iload_n (pc := 13) (i := 1) (x := te) F dM_test_13 rfl rfl ?_
    refine aw_isub (pc := 14) F dM_test_14 ?_
    refine aw_goto (pc := 15) F 19 dM_test_15 (by decide) ?_
    refine aw_iald (pc := 19) F 31 0 hM_at31 rfl (te_n ht c_9) dM_test_19 ?_
    refine aw_iald (pc := 20) F 27 0 hM_at27 rfl (vI_at hv (te_n ht c_9)) dM_test_20 ?_
    refine aw_istore_n (pc := 21) (i := 2) (L' := [some (.ref (ad 13)), some (.int te), some (.int ((Y.2 2) ((V.2 3) ((-1 : Int32) - te).toNatClampNeg).toNatClampNeg))]) F dM_test_21 rfl (by decide) rfl ?_
    refine aw_iload_n (pc := 22) (i := 2) (x := (Y.2 2) ((V.2 3) ((-1 : Int32) - te).toNatClampNeg).toNatClampNeg) F dM_test_22 rfl rfl ?_
    refine aw_iconst (pc := 23) (v := 2) F dM_test_23 (by decide) ?_
    refine aw_icmp_eq (pc := 24) F 31 dM_test_24 (by decide) (fun c_24 => ?_) (fun c_24 => ?_)
    · skip
      refine aw_iload_n (pc := 31) (i := 2) (x := (Y.2 2) ((V.2 3) ((-1 : Int32) - te).toNatClampNeg).toNatClampNeg) F dM_test_31 rfl rfl ?_
      refine aw_goto (pc := 32) F 38 dM_test_32 (by decide) ?_
      exact aw_iret (pc := 38) F hr hlk dM_test_38 (by rw [fm_test, if_neg c_9, if_pos c_24]) rfl
    · skip
      refine aw_iload_n (pc := 27) (i := 1) (x := te) F dM_test_27 rfl rfl ?_
      refine aw_if_lt (pc := 28) F 35 dM_test_28 (by decide) (fun c_28 => ?_) (fun c_28 => ?_)
      · skip
        refine aw_iconst (pc := 35) (v := 1) F dM_test_35 (by decide) ?_
        refine aw_iload_n (pc := 36) (i := 2) (x := (Y.2 2) ((V.2 3) ((-1 : Int32) - te).toNatClampNeg).toNatClampNeg) F dM_test_36 rfl rfl ?_
        refine aw_isub (pc := 37) F dM_test_37 ?_
        exact aw_iret (pc := 38) F hr hlk dM_test_38 (by rw [fm_test, if_neg c_9, if_neg c_24, if_pos c_28]) rfl
      · skip
        refine aw_iload_n (pc := 31) (i := 2) (x := (Y.2 2) ((V.2 3) ((-1 : Int32) - te).toNatClampNeg).toNatClampNeg) F dM_test_31 rfl rfl ?_
        refine aw_goto (pc := 32) F 38 dM_test_32 (by decide) ?_
        exact aw_iret (pc := 38) F hr hlk dM_test_38 (by rw [fm_test, if_neg c_9, if_neg c_24, if_neg c_28]) rfl
def fm_hasL : Nat → mT → yT → Int32 → Int32 → Int32
  | 0, M, Y, i, k => 0
  | n + 1, M, Y, i, k =>
      if ((M.2 4) i.toNatClampNeg) ≤ k then
      (0 : Int32)
    else
      if ((M.2 8) k.toNatClampNeg) = (-1 : Int32) then
        (fm_hasL n M Y i (k + (1 : Int32)))
      else
        if ((Y.2 0) ((M.2 8) k.toNatClampNeg).toNatClampNeg) = 0 then (fm_hasL n M Y i (k + (1 : Int32))) else (1 : Int32)
set_option maxRecDepth 100000 in
set_option maxHeartbeats 4000000 in
theorem tM_has_L2 {l : Launch} {D : va_G} {A : Nat → Prop} {ad : Nat → Nat} {tP : Nat} {cI cZ : ClassId} {S : kT} {P : pT} {X : xT} {tl : List va_E} {tyr : List (ClassId × FieldType)} {p : Program} {e : Env} {s : State} {m : MethodId} {args : Array Value} {below : List Frame} {meth : Method} {c : Code} (F : aw_F p s m c args cM_has 3 (Cond.code yM_has cM_has 3 (some .boolean) :: aw_big) yM_has.cls D vwCl ((cI, .int) :: (cZ, .boolean) :: tyr)) (Zs : zC A tP s) (hr : meth.sig.returnType = (some .boolean)) (hlk : meth.locks = false) :
    ∀ (n : Nat) (T : Int32) (M : mT) (Y : yT) (V : vT) (i : Int32) (k : Int32) (hw : mW M) (hi : mIx M i) (h1 : 0 ≤ k.toInt) (h2 : k.toInt ≤ 120) (hm : 120 < k.toInt + n), aW p l e (aw_rm 0) s m args below meth c 0 0 (MQ below (aw_Q D vwCl A ad (some (.int (fm_hasL n M Y i k))) (hC ad cI S P X ++ (hM ad cI cZ T M Y V ++ tl))) args s 0 0 A) D vwCl A ad 3 (hC ad cI S P X ++ (hM ad cI cZ T M Y V ++ tl)) [some (.ref (ad 13)), some (.int i), some (.int k)] 2 [] := by
  intro n
  induction n with
  | zero =>
    intro T M Y V i k hw hi h1 h2 hm
    exfalso; omega
  | succ n ih =>
    intro T M Y V i k hw hi h1 h2 hm
    refine aw_iload_n (pc := 2) (i := 2) (x := k) F dM_has_2 rfl rfl ?_
    refine aw_aload_n (pc := 3) (i := 0) (x := ad 13) F dM_has_3 rfl rfl ?_
    refine aw_get (pc := 4) (v := .ref (ad 18)) F 13 hM_at13 rfl 9 (by decide) (fun w h => mw (iw_M w h)) (mw wd_658) rfl dM_has_4 ?_
    refine aw_iload_n (pc := 7) (i := 1) (x := i) F dM_has_7 rfl rfl ?_
    refine aw_iald (pc := 8) F 18 0 hM_at18 rfl (ix_in hw hi) dM_has_8 ?_
    refine aw_icmp_ge (pc := 9) F 44 dM_has_9 (by decide) (fun c_9 => ?_) (fun c_9 => ?_)
    · skip
      refine aw_iconst (pc := 44) (v := 0) F dM_has_44 (by decide) ?_
      exact aw_zret (pc := 45) F hr hlk dM_has_45 rfl (by rw [fm_hasL, if_pos c_9]) rfl
    · skip
      refine aw_aload_n (pc := 12) (i := 0) (x := ad 13) F dM_has_12 rfl rfl ?_
      refine aw_get (pc := 13) (v := .ref (ad 22)) F 13 hM_at13 rfl 13 (by decide) (fun w h => mw (iw_M w h)) (mw wd_662) rfl dM_has_13 ?_
      refine aw_iload_n (pc := 16) (i := 2) (x := k) F dM_has_16 rfl rfl ?_
      refine aw_iald (pc := 17) F 22 0 hM_at22 rfl (ix_in hw (hk_in hw hi h1 c_9)) dM_has_17 ?_
      refine aw_iconst (pc := 18) (v := -1) F dM_has_18 (by decide) ?_
      refine aw_icmp_eq (pc := 19) F 38 dM_has_19 (by decide) (fun c_19 => ?_) (fun c_19 => ?_)
      · skip
        refine aw_iinc (pc := 38) (x := k) (v := k + (1 : Int32)) (L' := [some (.ref (ad 13)), some (.int i), some (.int (k + (1 : Int32)))]) F dM_has_38 rfl rfl (by decide) rfl ?_
        refine aw_goto (pc := 41) F 2 dM_has_41 (by decide) ?_
        rw [show (fm_hasL (n + 1) M Y i k) = (fm_hasL n M Y i (k + (1 : Int32))) from by rw [fm_hasL, if_neg c_9, if_pos c_19]]
        exact ih T M Y V i (k + (1 : Int32)) hw hi (by have a := mI_up hw (hk_in hw hi h1 c_9); omega) (by have a := mI_up hw (hk_in hw hi h1 c_9); omega) (by have a := mI_up hw (hk_in hw hi h1 c_9); omega)
      · skip
        refine aw_aload_n (pc := 22) (i := 0) (x := ad 13) F dM_has_22 rfl rfl ?_
        refine aw_get (pc := 23) (v := .ref (ad 25)) F 13 hM_at13 rfl 20 (by decide) (fun w h => mw (iw_M w h)) (mw wd_669) rfl dM_has_23 ?_
        refine aw_aload_n (pc := 26) (i := 0) (x := ad 13) F dM_has_26 rfl rfl ?_
        refine aw_get (pc := 27) (v := .ref (ad 22)) F 13 hM_at13 rfl 13 (by decide) (fun w h => mw (iw_M w h)) (mw wd_662) rfl dM_has_27 ?_
        refine aw_iload_n (pc := 30) (i := 2) (x := k) F dM_has_30 rfl rfl ?_
        refine aw_iald (pc := 31) F 22 0 hM_at22 rfl (ix_in hw (hk_in hw hi h1 c_9)) dM_has_31 ?_
        refine aw_zald (pc := 32) F 25 1 hM_at25 rfl (hk_pa hw (hk_in hw hi h1 c_9) c_19) dM_has_32 ?_
        refine aw_if_eq (pc := 33) F 38 dM_has_33 (by decide) (fun c_33 => ?_) (fun c_33 => ?_)
        · skip
          refine aw_iinc (pc := 38) (x := k) (v := k + (1 : Int32)) (L' := [some (.ref (ad 13)), some (.int i), some (.int (k + (1 : Int32)))]) F dM_has_38 rfl rfl (by decide) rfl ?_
          refine aw_goto (pc := 41) F 2 dM_has_41 (by decide) ?_
          rw [show (fm_hasL (n + 1) M Y i k) = (fm_hasL n M Y i (k + (1 : Int32))) from by rw [fm_hasL, if_neg c_9, if_neg c_19, if_pos c_33]]
          exact ih T M Y V i (k + (1 : Int32)) hw hi (by have a := mI_up hw (hk_in hw hi h1 c_9); omega) (by have a := mI_up hw (hk_in hw hi h1 c_9); omega) (by have a := mI_up hw (hk_in hw hi h1 c_9); omega)
        · skip
          refine aw_iconst (pc := 36) (v := 1) F dM_has_36 (by decide) ?_
          exact aw_zret (pc := 37) F hr hlk dM_has_37 rfl (by rw [fm_hasL, if_neg c_9, if_neg c_19, if_neg c_33]) rfl
def fm_has  (M : mT) (Y : yT) (i : Int32) : Int32 :=
  (fm_hasL 121 M Y i i)
set_option maxRecDepth 100000 in
set_option maxHeartbeats 4000000 in
theorem tM_has {l : Launch} {D : va_G} {A : Nat → Prop} {ad : Nat → Nat} {tP : Nat} {cI cZ : ClassId} {S : kT} {P : pT} {X : xT} {tl : List va_E} {tyr : List (ClassId × FieldType)} (T : Int32) (M : mT) (Y : yT) (V : vT) (i : Int32) (hw : mW M) (hi : mIx M i) : aw_M l yM_has (Cond.code yM_has cM_has 3 (some .boolean) :: aw_big) 0 D vwCl ((cI, .int) :: (cZ, .boolean) :: tyr) A ad (zC A tP) [.ref (ad 13), .int i] (hC ad cI S P X ++ (hM ad cI cZ T M Y V ++ tl)) (some (.int (fm_has M Y i))) (hC ad cI S P X ++ (hM ad cI cZ T M Y V ++ tl)) := by
  refine aw_met cM_has 3 (some .boolean) [some (.ref (ad 13)), some (.int i), none] (by decide) rfl (Nat.le_of_ble_eq_true rfl) rfl ?_
  intro p e s m args below meth c F Zs hr hlk
  refine aw_iload_n (pc := 0) (i := 1) (x := i) F dM_has_0 rfl rfl ?_
  refine aw_istore_n (pc := 1) (i := 2) (L' := [some (.ref (ad 13)), some (.int i), some (.int i)]) F dM_has_1 rfl (by decide) rfl ?_
  rw [show (fm_has M Y i) = (fm_hasL 121 M Y i i) from by rw [fm_has]]
  exact tM_has_L2  F Zs hr hlk 121 T M Y V i i hw hi hi.1 (by have a := hi.2; have b := hw.1.2; omega) (by have a := hi.1; omega)
def fm_simC (M : mT) (i : Int32) (su : Int32) : Int32 :=
  if ((M.2 0) i.toNatClampNeg) = (1 : Int32) then
    (1 : Int32)
  else
    if ((M.2 0) i.toNatClampNeg) = (3 : Int32) then ((2 : Int32) + ((M.2 1) i.toNatClampNeg)) else (0 : Int32)
set_option maxRecDepth 100000 in
set_option maxHeartbeats 4000000 in
theorem tM_simple_X0 {l : Launch} {D : va_G} {A : Nat → Prop} {ad : Nat → Nat} {tP : Nat} {cI cZ : ClassId} {S : kT} {P : pT} {X : xT} {tl : List va_E} {tyr : List (ClassId × FieldType)} {p : Program} {e : Env} {R : Room} {s : State} {m : MethodId} {args : Array Value} {below : List Frame} {meth : Method} {c : Code} {Q : State → Prop} (F : aw_F p s m c args cM_simple 4 (Cond.code yM_simple cM_simple 4 (some .int) :: aw_big) yM_simple.cls D vwCl ((cI, .int) :: (cZ, .boolean) :: tyr)) (Zs : zC A tP s) :
    ∀ (T : Int32) (M : mT) (Y : yT) (V : vT) (i : Int32) (su : Int32)  (hw : mW M) (hi : mIx M i), aW p l e R s m args below meth c 0 0 Q D vwCl A ad 4 (hC ad cI S P X ++ (hM ad cI cZ T M Y V ++ tl)) [some (.ref (ad 13)), some (.int i), some (.int su), some (.int (fm_simC M i su))] 37 [] → aW p l e R s m args below meth c 0 0 Q D vwCl A ad 4 (hC ad cI S P X ++ (hM ad cI cZ T M Y V ++ tl)) [some (.ref (ad 13)), some (.int i), some (.int su), none] 0 [] := by
  intro T M Y V i su hw hi kq
  refine aw_aload_n (pc := 0) (i := 0) (x := ad 13) F dM_simple_0 rfl rfl ?_
  refine aw_get (pc := 1) (v := .ref (ad 14)) F 13 hM_at13 rfl 5 (by decide) (fun w h => mw (iw_M w h)) (mw wd_654) rfl dM_simple_1 ?_
  refine aw_iload_n (pc := 4) (i := 1) (x := i) F dM_simple_4 rfl rfl ?_
  refine aw_iald (pc := 5) F 14 0 hM_at14 rfl (ix_in hw hi) dM_simple_5 ?_
  refine aw_iconst (pc := 6) (v := 1) F dM_simple_6 (by decide) ?_
  refine aw_icmp_ne (pc := 7) F 14 dM_simple_7 (by decide) (fun c_7 => ?_) (fun c_7 => ?_)
  · skip
    refine aw_aload_n (pc := 14) (i := 0) (x := ad 13) F dM_simple_14 rfl rfl ?_
    refine aw_get (pc := 15) (v := .ref (ad 14)) F 13 hM_at13 rfl 5 (by decide) (fun w h => mw (iw_M w h)) (mw wd_654) rfl dM_simple_15 ?_
    refine aw_iload_n (pc := 18) (i := 1) (x := i) F dM_simple_18 rfl rfl ?_
    refine aw_iald (pc := 19) F 14 0 hM_at14 rfl (ix_in hw hi) dM_simple_19 ?_
    refine aw_iconst (pc := 20) (v := 3) F dM_simple_20 (by decide) ?_
    refine aw_icmp_ne (pc := 21) F 35 dM_simple_21 (by decide) (fun c_21 => ?_) (fun c_21 => ?_)
    · skip
      refine aw_iconst (pc := 35) (v := 0) F dM_simple_35 (by decide) ?_
      refine aw_istore_n (pc := 36) (i := 3) (L' := [some (.ref (ad 13)), some (.int i), some (.int su), some (.int (0 : Int32))]) F dM_simple_36 rfl (by decide) rfl ?_
      rw [show (fm_simC M i su) = (0 : Int32) from by rw [fm_simC, if_neg c_7, if_neg c_21]] at kq
      exact kq
    · skip
      refine aw_iconst (pc := 24) (v := 2) F dM_simple_24 (by decide) ?_
      refine aw_aload_n (pc := 25) (i := 0) (x := ad 13) F dM_simple_25 rfl rfl ?_
      refine aw_get (pc := 26) (v := .ref (ad 15)) F 13 hM_at13 rfl 6 (by decide) (fun w h => mw (iw_M w h)) (mw wd_655) rfl dM_simple_26 ?_
      refine aw_iload_n (pc := 29) (i := 1) (x := i) F dM_simple_29 rfl rfl ?_
      refine aw_iald (pc := 30) F 15 0 hM_at15 rfl (ix_in hw hi) dM_simple_30 ?_
      refine aw_iadd (pc := 31) F dM_simple_31 ?_
      refine aw_goto (pc := 32) F 36 dM_simple_32 (by decide) ?_
      refine aw_istore_n (pc := 36) (i := 3) (L' := [some (.ref (ad 13)), some (.int i), some (.int su), some (.int ((2 : Int32) + ((M.2 1) i.toNatClampNeg)))]) F dM_simple_36 rfl (by decide) rfl ?_
      rw [show (fm_simC M i su) = ((2 : Int32) + ((M.2 1) i.toNatClampNeg)) from by rw [fm_simC, if_neg c_7, if_pos c_21]] at kq
      exact kq
  · skip
    refine aw_iconst (pc := 10) (v := 1) F dM_simple_10 (by decide) ?_
    refine aw_goto (pc := 11) F 36 dM_simple_11 (by decide) ?_
    refine aw_istore_n (pc := 36) (i := 3) (L' := [some (.ref (ad 13)), some (.int i), some (.int su), some (.int (1 : Int32))]) F dM_simple_36 rfl (by decide) rfl ?_
    rw [show (fm_simC M i su) = (1 : Int32) from by rw [fm_simC, if_pos c_7]] at kq
    exact kq
def fm_simE (M : mT) (V : vT) (i : Int32) (su : Int32) (co : Int32) : vT :=
  if ((M.2 0) i.toNatClampNeg) = (2 : Int32) then
    if (((v2w V 2 ((V.2 3) ((M.2 1) i.toNatClampNeg).toNatClampNeg).toNatClampNeg (vp_nar .boolean (1 : Int32))).2 1) (((v2w V 2 ((V.2 3) ((M.2 1) i.toNatClampNeg).toNatClampNeg).toNatClampNeg (vp_nar .boolean (1 : Int32))).2 3) ((M.2 1) i.toNatClampNeg).toNatClampNeg).toNatClampNeg) = 0 then
      if su = 0 then
        (v2w (v2w V 2 ((V.2 3) ((M.2 1) i.toNatClampNeg).toNatClampNeg).toNatClampNeg (vp_nar .boolean (1 : Int32))) 1 (((v2w V 2 ((V.2 3) ((M.2 1) i.toNatClampNeg).toNatClampNeg).toNatClampNeg (vp_nar .boolean (1 : Int32))).2 3) ((M.2 1) i.toNatClampNeg).toNatClampNeg).toNatClampNeg (vp_nar .boolean (0 : Int32)))
      else
        (v2w (v2w V 2 ((V.2 3) ((M.2 1) i.toNatClampNeg).toNatClampNeg).toNatClampNeg (vp_nar .boolean (1 : Int32))) 1 (((v2w V 2 ((V.2 3) ((M.2 1) i.toNatClampNeg).toNatClampNeg).toNatClampNeg (vp_nar .boolean (1 : Int32))).2 3) ((M.2 1) i.toNatClampNeg).toNatClampNeg).toNatClampNeg (vp_nar .boolean (1 : Int32)))
    else
      (v2w (v2w V 2 ((V.2 3) ((M.2 1) i.toNatClampNeg).toNatClampNeg).toNatClampNeg (vp_nar .boolean (1 : Int32))) 1 (((v2w V 2 ((V.2 3) ((M.2 1) i.toNatClampNeg).toNatClampNeg).toNatClampNeg (vp_nar .boolean (1 : Int32))).2 3) ((M.2 1) i.toNatClampNeg).toNatClampNeg).toNatClampNeg (vp_nar .boolean (1 : Int32)))
  else
    V
set_option maxRecDepth 100000 in
set_option maxHeartbeats 4000000 in
theorem tM_simple_X37 {l : Launch} {D : va_G} {A : Nat → Prop} {ad : Nat → Nat} {tP : Nat} {cI cZ : ClassId} {S : kT} {P : pT} {X : xT} {tl : List va_E} {tyr : List (ClassId × FieldType)} {p : Program} {e : Env} {R : Room} {s : State} {m : MethodId} {args : Array Value} {below : List Frame} {meth : Method} {c : Code} {Q : State → Prop} (F : aw_F p s m c args cM_simple 4 (Cond.code yM_simple cM_simple 4 (some .int) :: aw_big) yM_simple.cls D vwCl ((cI, .int) :: (cZ, .boolean) :: tyr)) (Zs : zC A tP s) :
    ∀ (T : Int32) (M : mT) (Y : yT) (V : vT) (i : Int32) (su : Int32) (co : Int32)  (hw : mW M) (hi : mIx M i) (hv : vI V), aW p l e R s m args below meth c 0 0 Q D vwCl A ad 4 (hC ad cI S P X ++ (hM ad cI cZ T M Y (fm_simE M V i su co) ++ tl)) [some (.ref (ad 13)), some (.int i), some (.int su), some (.int co)] 108 [] → aW p l e R s m args below meth c 0 0 Q D vwCl A ad 4 (hC ad cI S P X ++ (hM ad cI cZ T M Y V ++ tl)) [some (.ref (ad 13)), some (.int i), some (.int su), some (.int co)] 37 [] := by
  intro T M Y V i su co hw hi hv kq
  refine aw_aload_n (pc := 37) (i := 0) (x := ad 13) F dM_simple_37 rfl rfl ?_
  refine aw_get (pc := 38) (v := .ref (ad 14)) F 13 hM_at13 rfl 5 (by decide) (fun w h => mw (iw_M w h)) (mw wd_654) rfl dM_simple_38 ?_
  refine aw_iload_n (pc := 41) (i := 1) (x := i) F dM_simple_41 rfl rfl ?_
  refine aw_iald (pc := 42) F 14 0 hM_at14 rfl (ix_in hw hi) dM_simple_42 ?_
  refine aw_iconst (pc := 43) (v := 2) F dM_simple_43 (by decide) ?_
  refine aw_icmp_ne (pc := 44) F 108 dM_simple_44 (by decide) (fun c_44 => ?_) (fun c_44 => ?_)
  · skip
    rw [show (fm_simE M V i su co) = V from by rw [fm_simE, if_neg c_44]] at kq
    exact kq
  · skip
    refine aw_aload_n (pc := 47) (i := 0) (x := ad 13) F dM_simple_47 rfl rfl ?_
    refine aw_get (pc := 48) (v := .ref (ad 30)) F 13 hM_at13 rfl 25 (by decide) (fun w h => mw (iw_M w h)) (mw wd_674) rfl dM_simple_48 ?_
    refine aw_aload_n (pc := 51) (i := 0) (x := ad 13) F dM_simple_51 rfl rfl ?_
    refine aw_get (pc := 52) (v := .ref (ad 31)) F 13 hM_at13 rfl 26 (by decide) (fun w h => mw (iw_M w h)) (mw wd_675) rfl dM_simple_52 ?_
    refine aw_aload_n (pc := 55) (i := 0) (x := ad 13) F dM_simple_55 rfl rfl ?_
    refine aw_get (pc := 56) (v := .ref (ad 15)) F 13 hM_at13 rfl 6 (by decide) (fun w h => mw (iw_M w h)) (mw wd_655) rfl dM_simple_56 ?_
    refine aw_iload_n (pc := 59) (i := 1) (x := i) F dM_simple_59 rfl rfl ?_
    refine aw_iald (pc := 60) F 15 0 hM_at15 rfl (ix_in hw hi) dM_simple_60 ?_
    refine aw_iald (pc := 61) F 31 0 hM_at31 rfl ((hw.2 i hi).2.2.2.2.2.1 c_44) dM_simple_61 ?_
    refine aw_iconst (pc := 62) (v := 1) F dM_simple_62 (by decide) ?_
    refine aw_zast (pc := 63) (hp' := (hC ad cI S P X ++ (hM ad cI cZ T M Y (v2w V 2 ((V.2 3) ((M.2 1) i.toNatClampNeg).toNatClampNeg).toNatClampNeg (vp_nar .boolean (1 : Int32))) ++ tl))) F 30 1 hM_at30 rfl (vI_at hv ((hw.2 i hi).2.2.2.2.2.1 c_44)) hM_st30 dM_simple_63 ?_
    refine aw_aload_n (pc := 64) (i := 0) (x := ad 13) F dM_simple_64 rfl rfl ?_
    refine aw_get (pc := 65) (v := .ref (ad 29)) F 13 hM_at13 rfl 24 (by decide) (fun w h => mw (iw_M w h)) (mw wd_673) rfl dM_simple_65 ?_
    refine aw_aload_n (pc := 68) (i := 0) (x := ad 13) F dM_simple_68 rfl rfl ?_
    refine aw_get (pc := 69) (v := .ref (ad 31)) F 13 hM_at13 rfl 26 (by decide) (fun w h => mw (iw_M w h)) (mw wd_675) rfl dM_simple_69 ?_
    refine aw_aload_n (pc := 72) (i := 0) (x := ad 13) F dM_simple_72 rfl rfl ?_
    refine aw_get (pc := 73) (v := .ref (ad 15)) F 13 hM_at13 rfl 6 (by decide) (fun w h => mw (iw_M w h)) (mw wd_655) rfl dM_simple_73 ?_
    refine aw_iload_n (pc := 76) (i := 1) (x := i) F dM_simple_76 rfl rfl ?_
    refine aw_iald (pc := 77) F 15 0 hM_at15 rfl (ix_in hw hi) dM_simple_77 ?_
    refine aw_iald (pc := 78) F 31 0 hM_at31 rfl ((hw.2 i hi).2.2.2.2.2.1 c_44) dM_simple_78 ?_
    refine aw_aload_n (pc := 79) (i := 0) (x := ad 13) F dM_simple_79 rfl rfl ?_
    refine aw_get (pc := 80) (v := .ref (ad 29)) F 13 hM_at13 rfl 24 (by decide) (fun w h => mw (iw_M w h)) (mw wd_673) rfl dM_simple_80 ?_
    refine aw_aload_n (pc := 83) (i := 0) (x := ad 13) F dM_simple_83 rfl rfl ?_
    refine aw_get (pc := 84) (v := .ref (ad 31)) F 13 hM_at13 rfl 26 (by decide) (fun w h => mw (iw_M w h)) (mw wd_675) rfl dM_simple_84 ?_
    refine aw_aload_n (pc := 87) (i := 0) (x := ad 13) F dM_simple_87 rfl rfl ?_
    refine aw_get (pc := 88) (v := .ref (ad 15)) F 13 hM_at13 rfl 6 (by decide) (fun w h => mw (iw_M w h)) (mw wd_655) rfl dM_simple_88 ?_
    refine aw_iload_n (pc := 91) (i := 1) (x := i) F dM_simple_91 rfl rfl ?_
    refine aw_iald (pc := 92) F 15 0 hM_at15 rfl (ix_in hw hi) dM_simple_92 ?_
    refine aw_iald (pc := 93) F 31 0 hM_at31 rfl ((hw.2 i hi).2.2.2.2.2.1 c_44) dM_simple_93 ?_
    refine aw_zald (pc := 94) F 29 1 hM_at29 rfl (vI_at hv ((hw.2 i hi).2.2.2.2.2.1 c_44)) dM_simple_94 ?_
    refine aw_if_ne (pc := 95) F 102 dM_simple_95 (by decide) (fun c_95 => ?_) (fun c_95 => ?_)
    · skip
      refine aw_iconst (pc := 102) (v := 1) F dM_simple_102 (by decide) ?_
      refine aw_goto (pc := 103) F 107 dM_simple_103 (by decide) ?_
      refine aw_zast (pc := 107) (hp' := (hC ad cI S P X ++ (hM ad cI cZ T M Y (v2w (v2w V 2 ((V.2 3) ((M.2 1) i.toNatClampNeg).toNatClampNeg).toNatClampNeg (vp_nar .boolean (1 : Int32))) 1 (((v2w V 2 ((V.2 3) ((M.2 1) i.toNatClampNeg).toNatClampNeg).toNatClampNeg (vp_nar .boolean (1 : Int32))).2 3) ((M.2 1) i.toNatClampNeg).toNatClampNeg).toNatClampNeg (vp_nar .boolean (1 : Int32))) ++ tl))) F 29 1 hM_at29 rfl (vI_at hv ((hw.2 i hi).2.2.2.2.2.1 c_44)) hM_st29 dM_simple_107 ?_
      rw [show (fm_simE M V i su co) = (v2w (v2w V 2 ((V.2 3) ((M.2 1) i.toNatClampNeg).toNatClampNeg).toNatClampNeg (vp_nar .boolean (1 : Int32))) 1 (((v2w V 2 ((V.2 3) ((M.2 1) i.toNatClampNeg).toNatClampNeg).toNatClampNeg (vp_nar .boolean (1 : Int32))).2 3) ((M.2 1) i.toNatClampNeg).toNatClampNeg).toNatClampNeg (vp_nar .boolean (1 : Int32))) from by rw [fm_simE, if_pos c_44, if_neg c_95]] at kq
      exact kq
    · skip
      refine aw_iload_n (pc := 98) (i := 2) (x := su) F dM_simple_98 rfl rfl ?_
      refine aw_if_eq (pc := 99) F 106 dM_simple_99 (by decide) (fun c_99 => ?_) (fun c_99 => ?_)
      · skip
        refine aw_iconst (pc := 106) (v := 0) F dM_simple_106 (by decide) ?_
        refine aw_zast (pc := 107) (hp' := (hC ad cI S P X ++ (hM ad cI cZ T M Y (v2w (v2w V 2 ((V.2 3) ((M.2 1) i.toNatClampNeg).toNatClampNeg).toNatClampNeg (vp_nar .boolean (1 : Int32))) 1 (((v2w V 2 ((V.2 3) ((M.2 1) i.toNatClampNeg).toNatClampNeg).toNatClampNeg (vp_nar .boolean (1 : Int32))).2 3) ((M.2 1) i.toNatClampNeg).toNatClampNeg).toNatClampNeg (vp_nar .boolean (0 : Int32))) ++ tl))) F 29 1 hM_at29 rfl (vI_at hv ((hw.2 i hi).2.2.2.2.2.1 c_44)) hM_st29 dM_simple_107 ?_
        rw [show (fm_simE M V i su co) = (v2w (v2w V 2 ((V.2 3) ((M.2 1) i.toNatClampNeg).toNatClampNeg).toNatClampNeg (vp_nar .boolean (1 : Int32))) 1 (((v2w V 2 ((V.2 3) ((M.2 1) i.toNatClampNeg).toNatClampNeg).toNatClampNeg (vp_nar .boolean (1 : Int32))).2 3) ((M.2 1) i.toNatClampNeg).toNatClampNeg).toNatClampNeg (vp_nar .boolean (0 : Int32))) from by rw [fm_simE, if_pos c_44, if_pos c_95, if_pos c_99]] at kq
        exact kq
      · skip
        refine aw_iconst (pc := 102) (v := 1) F dM_simple_102 (by decide) ?_
        refine aw_goto (pc := 103) F 107 dM_simple_103 (by decide) ?_
        refine aw_zast (pc := 107) (hp' := (hC ad cI S P X ++ (hM ad cI cZ T M Y (v2w (v2w V 2 ((V.2 3) ((M.2 1) i.toNatClampNeg).toNatClampNeg).toNatClampNeg (vp_nar .boolean (1 : Int32))) 1 (((v2w V 2 ((V.2 3) ((M.2 1) i.toNatClampNeg).toNatClampNeg).toNatClampNeg (vp_nar .boolean (1 : Int32))).2 3) ((M.2 1) i.toNatClampNeg).toNatClampNeg).toNatClampNeg (vp_nar .boolean (1 : Int32))) ++ tl))) F 29 1 hM_at29 rfl (vI_at hv ((hw.2 i hi).2.2.2.2.2.1 c_44)) hM_st29 dM_simple_107 ?_
        rw [show (fm_simE M V i su co) = (v2w (v2w V 2 ((V.2 3) ((M.2 1) i.toNatClampNeg).toNatClampNeg).toNatClampNeg (vp_nar .boolean (1 : Int32))) 1 (((v2w V 2 ((V.2 3) ((M.2 1) i.toNatClampNeg).toNatClampNeg).toNatClampNeg (vp_nar .boolean (1 : Int32))).2 3) ((M.2 1) i.toNatClampNeg).toNatClampNeg).toNatClampNeg (vp_nar .boolean (1 : Int32))) from by rw [fm_simE, if_pos c_44, if_pos c_95, if_neg c_99]] at kq
        exact kq
def fm_simP (M : mT) (V : vT) (i : Int32) (su : Int32) (co : Int32) : vT :=
  if ((M.2 0) i.toNatClampNeg) = (1 : Int32) then
    if su = 0 then
      V
    else
      (v2w V 0 ((M.2 8) i.toNatClampNeg).toNatClampNeg (vp_nar .boolean (1 : Int32)))
  else
    V
set_option maxRecDepth 100000 in
set_option maxHeartbeats 4000000 in
theorem tM_simple_X108 {l : Launch} {D : va_G} {A : Nat → Prop} {ad : Nat → Nat} {tP : Nat} {cI cZ : ClassId} {S : kT} {P : pT} {X : xT} {tl : List va_E} {tyr : List (ClassId × FieldType)} {p : Program} {e : Env} {R : Room} {s : State} {m : MethodId} {args : Array Value} {below : List Frame} {meth : Method} {c : Code} {Q : State → Prop} (F : aw_F p s m c args cM_simple 4 (Cond.code yM_simple cM_simple 4 (some .int) :: aw_big) yM_simple.cls D vwCl ((cI, .int) :: (cZ, .boolean) :: tyr)) (Zs : zC A tP s) :
    ∀ (T : Int32) (M : mT) (Y : yT) (V : vT) (i : Int32) (su : Int32) (co : Int32)  (hw : mW M) (hi : mIx M i), aW p l e R s m args below meth c 0 0 Q D vwCl A ad 4 (hC ad cI S P X ++ (hM ad cI cZ T M Y (fm_simP M V i su co) ++ tl)) [some (.ref (ad 13)), some (.int i), some (.int su), some (.int co)] 134 [] → aW p l e R s m args below meth c 0 0 Q D vwCl A ad 4 (hC ad cI S P X ++ (hM ad cI cZ T M Y V ++ tl)) [some (.ref (ad 13)), some (.int i), some (.int su), some (.int co)] 108 [] := by
  intro T M Y V i su co hw hi kq
  refine aw_aload_n (pc := 108) (i := 0) (x := ad 13) F dM_simple_108 rfl rfl ?_
  refine aw_get (pc := 109) (v := .ref (ad 14)) F 13 hM_at13 rfl 5 (by decide) (fun w h => mw (iw_M w h)) (mw wd_654) rfl dM_simple_109 ?_
  refine aw_iload_n (pc := 112) (i := 1) (x := i) F dM_simple_112 rfl rfl ?_
  refine aw_iald (pc := 113) F 14 0 hM_at14 rfl (ix_in hw hi) dM_simple_113 ?_
  refine aw_iconst (pc := 114) (v := 1) F dM_simple_114 (by decide) ?_
  refine aw_icmp_ne (pc := 115) F 134 dM_simple_115 (by decide) (fun c_115 => ?_) (fun c_115 => ?_)
  · skip
    rw [show (fm_simP M V i su co) = V from by rw [fm_simP, if_neg c_115]] at kq
    exact kq
  · skip
    refine aw_iload_n (pc := 118) (i := 2) (x := su) F dM_simple_118 rfl rfl ?_
    refine aw_if_eq (pc := 119) F 134 dM_simple_119 (by decide) (fun c_119 => ?_) (fun c_119 => ?_)
    · skip
      rw [show (fm_simP M V i su co) = V from by rw [fm_simP, if_pos c_115, if_pos c_119]] at kq
      exact kq
    · skip
      refine aw_aload_n (pc := 122) (i := 0) (x := ad 13) F dM_simple_122 rfl rfl ?_
      refine aw_get (pc := 123) (v := .ref (ad 28)) F 13 hM_at13 rfl 21 (by decide) (fun w h => mw (iw_M w h)) (mw wd_670) rfl dM_simple_123 ?_
      refine aw_aload_n (pc := 126) (i := 0) (x := ad 13) F dM_simple_126 rfl rfl ?_
      refine aw_get (pc := 127) (v := .ref (ad 22)) F 13 hM_at13 rfl 13 (by decide) (fun w h => mw (iw_M w h)) (mw wd_662) rfl dM_simple_127 ?_
      refine aw_iload_n (pc := 130) (i := 1) (x := i) F dM_simple_130 rfl rfl ?_
      refine aw_iald (pc := 131) F 22 0 hM_at22 rfl (ix_in hw hi) dM_simple_131 ?_
      refine aw_iconst (pc := 132) (v := 1) F dM_simple_132 (by decide) ?_
      refine aw_zast (pc := 133) (hp' := (hC ad cI S P X ++ (hM ad cI cZ T M Y (v2w V 0 ((M.2 8) i.toNatClampNeg).toNatClampNeg (vp_nar .boolean (1 : Int32))) ++ tl))) F 28 1 hM_at28 rfl ((hw.2 i hi).2.2.2.2.1 c_115) hM_st28 dM_simple_133 ?_
      rw [show (fm_simP M V i su co) = (v2w V 0 ((M.2 8) i.toNatClampNeg).toNatClampNeg (vp_nar .boolean (1 : Int32))) from by rw [fm_simP, if_pos c_115, if_neg c_119]] at kq
      exact kq
def fm_simple  (M : mT) (V : vT) (i : Int32) (su : Int32) : Int32 × vT :=
  if su = 0 then
    ((fm_outcome ((1 : Int32) <<< ((fm_simC M i su) &&& 31)) (-1 : Int32)), (fm_simP M (fm_simE M V i su (fm_simC M i su)) i su (fm_simC M i su)))
  else
    ((fm_outcome ((1 : Int32) <<< ((fm_simC M i su) &&& 31)) (fm_simC M i su)), (fm_simP M (fm_simE M V i su (fm_simC M i su)) i su (fm_simC M i su)))
set_option maxRecDepth 100000 in
set_option maxHeartbeats 4000000 in
theorem tM_simple {l : Launch} {D : va_G} {A : Nat → Prop} {ad : Nat → Nat} {tP : Nat} {cI cZ : ClassId} {S : kT} {P : pT} {X : xT} {tl : List va_E} {tyr : List (ClassId × FieldType)} (T : Int32) (M : mT) (Y : yT) (V : vT) (i : Int32) (su : Int32) (hw : mW M) (hi : mIx M i) (hv : vI V) : aw_M l yM_simple (Cond.code yM_simple cM_simple 4 (some .int) :: aw_big) 1 D vwCl ((cI, .int) :: (cZ, .boolean) :: tyr) A ad (zC A tP) [.ref (ad 13), .int i, .int su] (hC ad cI S P X ++ (hM ad cI cZ T M Y V ++ tl)) (some (.int ((fm_simple M V i su).1))) (hC ad cI S P X ++ (hM ad cI cZ T M Y ((fm_simple M V i su).2) ++ tl)) := by
  refine aw_met cM_simple 4 (some .int) [some (.ref (ad 13)), some (.int i), some (.int su), none] (by decide) rfl (Nat.le_of_ble_eq_true rfl) rfl ?_
  intro p e s m args below meth c F Zs hr hlk
  refine tM_simple_X0  F Zs  T M Y V i su  hw hi ?_
  refine tM_simple_X37  F Zs  T M Y V i su (fm_simC M i su)  hw hi hv ?_
  refine tM_simple_X108  F Zs  T M Y (fm_simE M V i su (fm_simC M i su)) i su (fm_simC M i su)  hw hi ?_
  refine aw_iconst (pc := 134) (v := 1) F dM_simple_134 (by decide) ?_
  refine aw_iload_n (pc := 135) (i := 3) (x := (fm_simC M i su)) F dM_simple_135 rfl rfl ?_
  refine aw_ishl (pc := 136) F dM_simple_136 ?_
  refine aw_iload_n (pc := 137) (i := 2) (x := su) F dM_simple_137 rfl rfl ?_
  refine aw_if_eq (pc := 138) F 145 dM_simple_138 (by decide) (fun c_138 => ?_) (fun c_138 => ?_)
  · skip
    refine aw_iconst (pc := 145) (v := -1) F dM_simple_145 (by decide) ?_
    refine aw_goS (pc := 146) (As := [.int ((1 : Int32) <<< ((fm_simC M i su) &&& 31)), .int (-1 : Int32)]) (rest := []) F zC_ok Zs (tM_outcome  T M Y (fm_simP M (fm_simE M V i su (fm_simC M i su)) i su (fm_simC M i su)) ((1 : Int32) <<< ((fm_simC M i su) &&& 31)) (-1 : Int32)) (va_cwS 2 F.1.2.2.2.2 (gi_S wd_799 wd_800 wd_67 wd_801) rfl rfl rfl (by decide +kernel) ⟨Nat.le_of_ble_eq_true rfl, Nat.le_of_ble_eq_true rfl⟩) rfl (Nat.le_of_ble_eq_true rfl) ⟨Nat.zero_le _, Nat.zero_le _⟩ rfl dM_simple_146 ?_
    show aW _ _ _ _ _ _ _ _ _ _ _ _ _ _ _ _ _ _ _ _ _ [.int (fm_outcome ((1 : Int32) <<< ((fm_simC M i su) &&& 31)) (-1 : Int32))]
    exact aw_iret (pc := 149) F hr hlk dM_simple_149 (by rw [fm_simple, if_pos c_138]) (by rw [fm_simple, if_pos c_138])
  · skip
    refine aw_iload_n (pc := 141) (i := 3) (x := (fm_simC M i su)) F dM_simple_141 rfl rfl ?_
    refine aw_goto (pc := 142) F 146 dM_simple_142 (by decide) ?_
    refine aw_goS (pc := 146) (As := [.int ((1 : Int32) <<< ((fm_simC M i su) &&& 31)), .int (fm_simC M i su)]) (rest := []) F zC_ok Zs (tM_outcome  T M Y (fm_simP M (fm_simE M V i su (fm_simC M i su)) i su (fm_simC M i su)) ((1 : Int32) <<< ((fm_simC M i su) &&& 31)) (fm_simC M i su)) (va_cwS 2 F.1.2.2.2.2 (gi_S wd_799 wd_800 wd_67 wd_801) rfl rfl rfl (by decide +kernel) ⟨Nat.le_of_ble_eq_true rfl, Nat.le_of_ble_eq_true rfl⟩) rfl (Nat.le_of_ble_eq_true rfl) ⟨Nat.zero_le _, Nat.zero_le _⟩ rfl dM_simple_146 ?_
    show aW _ _ _ _ _ _ _ _ _ _ _ _ _ _ _ _ _ _ _ _ _ [.int (fm_outcome ((1 : Int32) <<< ((fm_simC M i su) &&& 31)) (fm_simC M i su))]
    exact aw_iret (pc := 149) F hr hlk dM_simple_149 (by rw [fm_simple, if_neg c_138]) (by rw [fm_simple, if_neg c_138])
theorem fm_simple_v {M : mT} {V : vT} {i su : Int32} (hv : vI V) : vI (fm_simple M V i su).2 := by
  have a : ∀ co, vI (fm_simE M V i su co) := by
    intro co
    unfold fm_simE
    repeat' split
    all_goals exact hv
  have b : ∀ Q co, vI Q → vI (fm_simP M Q i su co) := by
    intro Q co h
    unfold fm_simP
    repeat' split
    all_goals exact h
  unfold fm_simple
  split <;> exact b _ (fm_simC M i su) (a (fm_simC M i su))
