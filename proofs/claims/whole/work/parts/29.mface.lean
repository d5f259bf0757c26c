def fm_insG (Y : yT) (inp : Int32) : Int32 :=
  if (Y.1 0) = (1 : Int32) then (1 : Int32) else (0 : Int32)
set_option maxRecDepth 100000 in
set_option maxHeartbeats 4000000 in
theorem tM_instant_X0 {l : Launch} {D : va_G} {A : Nat → Prop} {ad : Nat → Nat} {tP : Nat} {cI cZ : ClassId} {S : kT} {P : pT} {X : xT} {tl : List va_E} {tyr : List (ClassId × FieldType)} {p : Program} {e : Env} {s : State} {m : MethodId} {args : Array Value} {below : List Frame} {meth : Method} {c : Code} {Q : State → Prop} (F : aw_F p s m c args cM_instant 5 (Cond.code yM_instant cM_instant 5 (some .int) :: aw_big) yM_instant.cls D vwCl ((cI, .int) :: (cZ, .boolean) :: tyr)) (Zs : zC A tP s) :
    ∀ (T : Int32) (M : mT) (Y : yT) (V : vT) (inp : Int32)  , aW p l e (aw_rm 402) s m args below meth c 0 0 Q D vwCl A ad 5 (hC ad cI S P X ++ (hM ad cI cZ T M Y V ++ tl)) [some (.ref (ad 13)), some (.int inp), some (.int (fm_insG Y inp)), none, none] 14 [] → aW p l e (aw_rm 402) s m args below meth c 0 0 Q D vwCl A ad 5 (hC ad cI S P X ++ (hM ad cI cZ T M Y V ++ tl)) [some (.ref (ad 13)), some (.int inp), none, none, none] 0 [] := by
  intro T M Y V inp kq
  refine aw_aload_n (pc := 0) (i := 0) (x := ad 13) F dM_instant_0 rfl rfl ?_
  refine aw_get (pc := 1) (v := .int (Y.1 0)) F 13 hM_at13 rfl 17 (by decide) (fun w h => mw (iw_M w h)) (mw wd_666) rfl dM_instant_1 ?_
  refine aw_iconst (pc := 4) (v := 1) F dM_instant_4 (by decide) ?_
  refine aw_icmp_ne (pc := 5) F 12 dM_instant_5 (by decide) (fun c_5 => ?_) (fun c_5 => ?_)
  · skip
    refine aw_iconst (pc := 12) (v := 0) F dM_instant_12 (by decide) ?_
    refine aw_istore_n (pc := 13) (i := 2) (L' := [some (.ref (ad 13)), some (.int inp), some (.int (0 : Int32)), none, none]) F dM_instant_13 rfl (by decide) rfl ?_
    rw [show (fm_insG Y inp) = (0 : Int32) from by rw [fm_insG, if_neg c_5]] at kq
    exact kq
  · skip
    refine aw_iconst (pc := 8) (v := 1) F dM_instant_8 (by decide) ?_
    refine aw_goto (pc := 9) F 13 dM_instant_9 (by decide) ?_
    refine aw_istore_n (pc := 13) (i := 2) (L' := [some (.ref (ad 13)), some (.int inp), some (.int (1 : Int32)), none, none]) F dM_instant_13 rfl (by decide) rfl ?_
    rw [show (fm_insG Y inp) = (1 : Int32) from by rw [fm_insG, if_pos c_5]] at kq
    exact kq
def fm_insF (T : Int32) (inp : Int32) (go : Int32) : Int32 × Int32 :=
  if go = 0 then
    if go = 0 then
      (((fm_fails T (1 : Int32) (0 : Int32)).1), ((fm_fails T (1 : Int32) (0 : Int32)).2))
    else
      if inp < 0 then
        (((fm_fails T (1 : Int32) (1 : Int32)).1), ((fm_fails T (1 : Int32) (1 : Int32)).2))
      else
        if inp ≤ (15 : Int32) then
          (((fm_fails T (1 : Int32) (0 : Int32)).1), ((fm_fails T (1 : Int32) (0 : Int32)).2))
        else
          (((fm_fails T (1 : Int32) (1 : Int32)).1), ((fm_fails T (1 : Int32) (1 : Int32)).2))
  else
    if go = 0 then
      (((fm_fails T (0 : Int32) (0 : Int32)).1), ((fm_fails T (0 : Int32) (0 : Int32)).2))
    else
      if inp < 0 then
        (((fm_fails T (0 : Int32) (1 : Int32)).1), ((fm_fails T (0 : Int32) (1 : Int32)).2))
      else
        if inp ≤ (15 : Int32) then
          (((fm_fails T (0 : Int32) (0 : Int32)).1), ((fm_fails T (0 : Int32) (0 : Int32)).2))
        else
          (((fm_fails T (0 : Int32) (1 : Int32)).1), ((fm_fails T (0 : Int32) (1 : Int32)).2))
set_option maxRecDepth 100000 in
set_option maxHeartbeats 4000000 in
theorem tM_instant_X14 {l : Launch} {D : va_G} {A : Nat → Prop} {ad : Nat → Nat} {tP : Nat} {cI cZ : ClassId} {S : kT} {P : pT} {X : xT} {tl : List va_E} {tyr : List (ClassId × FieldType)} {p : Program} {e : Env} {s : State} {m : MethodId} {args : Array Value} {below : List Frame} {meth : Method} {c : Code} {Q : State → Prop} (F : aw_F p s m c args cM_instant 5 (Cond.code yM_instant cM_instant 5 (some .int) :: aw_big) yM_instant.cls D vwCl ((cI, .int) :: (cZ, .boolean) :: tyr)) (Zs : zC A tP s) :
    ∀ (T : Int32) (M : mT) (Y : yT) (V : vT) (inp : Int32) (go : Int32)  , aW p l e (aw_rm 402) s m args below meth c 0 0 Q D vwCl A ad 5 (hC ad cI S P X ++ (hM ad cI cZ ((fm_insF T inp go).2) M Y V ++ tl)) [some (.ref (ad 13)), some (.int inp), some (.int go), none, none] 46 [.int ((fm_insF T inp go).1)] → aW p l e (aw_rm 402) s m args below meth c 0 0 Q D vwCl A ad 5 (hC ad cI S P X ++ (hM ad cI cZ T M Y V ++ tl)) [some (.ref (ad 13)), some (.int inp), some (.int go), none, none] 14 [] := by
  intro T M Y V inp go kq
  refine aw_aload_n (pc := 14) (i := 0) (x := ad 13) F dM_instant_14 rfl rfl ?_
  refine aw_iload_n (pc := 15) (i := 2) (x := go) F dM_instant_15 rfl rfl ?_
  refine aw_if_ne (pc := 16) F 23 dM_instant_16 (by decide) (fun c_16 => ?_) (fun c_16 => ?_)
  · skip
    refine aw_iconst (pc := 23) (v := 0) F dM_instant_23 (by decide) ?_
    refine aw_iload_n (pc := 24) (i := 2) (x := go) F dM_instant_24 rfl rfl ?_
    refine aw_if_eq (pc := 25) F 42 dM_instant_25 (by decide) (fun c_25 => ?_) (fun c_25 => ?_)
    · skip
      refine aw_iconst (pc := 42) (v := 0) F dM_instant_42 (by decide) ?_
      refine aw_goV (pc := 43) (As := [.int (0 : Int32), .int (0 : Int32)]) (rest := []) F zC_ok Zs 13 hM_at13 rfl (tM_fails  T M Y V (0 : Int32) (0 : Int32)) (cwV 2 F.1.2.2.2.2 (gi_V wd_754 wd_756 wd_47 wd_67 wd_757) rfl rfl rfl (by decide +kernel) ⟨Nat.le_of_ble_eq_true rfl, Nat.le_of_ble_eq_true rfl⟩) rfl (Nat.le_of_ble_eq_true rfl) ⟨Nat.zero_le _, Nat.zero_le _⟩ rfl dM_instant_43 ?_
      show aW _ _ _ _ _ _ _ _ _ _ _ _ _ _ _ _ _ _ _ _ _ [.int ((fm_fails T (0 : Int32) (0 : Int32)).1)]
      rw [show (fm_insF T inp go) = (((fm_fails T (0 : Int32) (0 : Int32)).1), ((fm_fails T (0 : Int32) (0 : Int32)).2)) from by rw [fm_insF, if_neg c_16, if_pos c_25]] at kq
      exact kq
    · skip
      refine aw_iload_n (pc := 28) (i := 1) (x := inp) F dM_instant_28 rfl rfl ?_
      refine aw_if_lt (pc := 29) F 38 dM_instant_29 (by decide) (fun c_29 => ?_) (fun c_29 => ?_)
      · skip
        refine aw_iconst (pc := 38) (v := 1) F dM_instant_38 (by decide) ?_
        refine aw_goto (pc := 39) F 43 dM_instant_39 (by decide) ?_
        refine aw_goV (pc := 43) (As := [.int (0 : Int32), .int (1 : Int32)]) (rest := []) F zC_ok Zs 13 hM_at13 rfl (tM_fails  T M Y V (0 : Int32) (1 : Int32)) (cwV 2 F.1.2.2.2.2 (gi_V wd_754 wd_756 wd_47 wd_67 wd_757) rfl rfl rfl (by decide +kernel) ⟨Nat.le_of_ble_eq_true rfl, Nat.le_of_ble_eq_true rfl⟩) rfl (Nat.le_of_ble_eq_true rfl) ⟨Nat.zero_le _, Nat.zero_le _⟩ rfl dM_instant_43 ?_
        show aW _ _ _ _ _ _ _ _ _ _ _ _ _ _ _ _ _ _ _ _ _ [.int ((fm_fails T (0 : Int32) (1 : Int32)).1)]
        rw [show (fm_insF T inp go) = (((fm_fails T (0 : Int32) (1 : Int32)).1), ((fm_fails T (0 : Int32) (1 : Int32)).2)) from by rw [fm_insF, if_neg c_16, if_neg c_25, if_pos c_29]] at kq
        exact kq
      · skip
        refine aw_iload_n (pc := 32) (i := 1) (x := inp) F dM_instant_32 rfl rfl ?_
        refine aw_bipush (pc := 33) (v := 15) F dM_instant_33 (by decide) ?_
        refine aw_icmp_le (pc := 35) F 42 dM_instant_35 (by decide) (fun c_35 => ?_) (fun c_35 => ?_)
        · skip
          refine aw_iconst (pc := 42) (v := 0) F dM_instant_42 (by decide) ?_
          refine aw_goV (pc := 43) (As := [.int (0 : Int32), .int (0 : Int32)]) (rest := []) F zC_ok Zs 13 hM_at13 rfl (tM_fails  T M Y V (0 : Int32) (0 : Int32)) (cwV 2 F.1.2.2.2.2 (gi_V wd_754 wd_756 wd_47 wd_67 wd_757) rfl rfl rfl (by decide +kernel) ⟨Nat.le_of_ble_eq_true rfl, Nat.le_of_ble_eq_true rfl⟩) rfl (Nat.le_of_ble_eq_true rfl) ⟨Nat.zero_le _, Nat.zero_le _⟩ rfl dM_instant_43 ?_
          show aW _ _ _ _ _ _ _ _ _ _ _ _ _ _ _ _ _ _ _ _ _ [.int ((fm_fails T (0 : Int32) (0 : Int32)).1)]
          rw [show (fm_insF T inp go) = (((fm_fails T (0 : Int32) (0 : Int32)).1), ((fm_fails T (0 : Int32) (0 : Int32)).2)) from by rw [fm_insF, if_neg c_16, if_neg c_25, if_neg c_29, if_pos c_35]] at kq
          exact kq
        · skip
          refine aw_iconst (pc := 38) (v := 1) F dM_instant_38 (by decide) ?_
          refine aw_goto (pc := 39) F 43 dM_instant_39 (by decide) ?_
          refine aw_goV (pc := 43) (As := [.int (0 : Int32), .int (1 : Int32)]) (rest := []) F zC_ok Zs 13 hM_at13 rfl (tM_fails  T M Y V (0 : Int32) (1 : Int32)) (cwV 2 F.1.2.2.2.2 (gi_V wd_754 wd_756 wd_47 wd_67 wd_757) rfl rfl rfl (by decide +kernel) ⟨Nat.le_of_ble_eq_true rfl, Nat.le_of_ble_eq_true rfl⟩) rfl (Nat.le_of_ble_eq_true rfl) ⟨Nat.zero_le _, Nat.zero_le _⟩ rfl dM_instant_43 ?_
          show aW _ _ _ _ _ _ _ _ _ _ _ _ _ _ _ _ _ _ _ _ _ [.int ((fm_fails T (0 : Int32) (1 : Int32)).1)]
          rw [show (fm_insF T inp go) = (((fm_fails T (0 : Int32) (1 : Int32)).1), ((fm_fails T (0 : Int32) (1 : Int32)).2)) from by rw [fm_insF, if_neg c_16, if_neg c_25, if_neg c_29, if_neg c_35]] at kq
          exact kq
  · skip
    refine aw_iconst (pc := 19) (v := 1) F dM_instant_19 (by decide) ?_
    refine aw_goto (pc := 20) F 24 dM_instant_20 (by decide) ?_
    refine aw_iload_n (pc := 24) (i := 2) (x := go) F dM_instant_24 rfl rfl ?_
    refine aw_if_eq (pc := 25) F 42 dM_instant_25 (by decide) (fun c_25 => ?_) (fun c_25 => ?_)
    · skip
      refine aw_iconst (pc := 42) (v := 0) F dM_instant_42 (by decide) ?_
      refine aw_goV (pc := 43) (As := [.int (1 : Int32), .int (0 : Int32)]) (rest := []) F zC_ok Zs 13 hM_at13 rfl (tM_fails  T M Y V (1 : Int32) (0 : Int32)) (cwV 2 F.1.2.2.2.2 (gi_V wd_754 wd_756 wd_47 wd_67 wd_757) rfl rfl rfl (by decide +kernel) ⟨Nat.le_of_ble_eq_true rfl, Nat.le_of_ble_eq_true rfl⟩) rfl (Nat.le_of_ble_eq_true rfl) ⟨Nat.zero_le _, Nat.zero_le _⟩ rfl dM_instant_43 ?_
      show aW _ _ _ _ _ _ _ _ _ _ _ _ _ _ _ _ _ _ _ _ _ [.int ((fm_fails T (1 : Int32) (0 : Int32)).1)]
      rw [show (fm_insF T inp go) = (((fm_fails T (1 : Int32) (0 : Int32)).1), ((fm_fails T (1 : Int32) (0 : Int32)).2)) from by rw [fm_insF, if_pos c_16, if_pos c_25]] at kq
      exact kq
    · skip
      refine aw_iload_n (pc := 28) (i := 1) (x := inp) F dM_instant_28 rfl rfl ?_
      refine aw_if_lt (pc := 29) F 38 dM_instant_29 (by decide) (fun c_29 => ?_) (fun c_29 => ?_)
      · skip
        refine aw_iconst (pc := 38) (v := 1) F dM_instant_38 (by decide) ?_
        refine aw_goto (pc := 39) F 43 dM_instant_39 (by decide) ?_
        refine aw_goV (pc := 43) (As := [.int (1 : Int32), .int (1 : Int32)]) (rest := []) F zC_ok Zs 13 hM_at13 rfl (tM_fails  T M Y V (1 : Int32) (1 : Int32)) (cwV 2 F.1.2.2.2.2 (gi_V wd_754 wd_756 wd_47 wd_67 wd_757) rfl rfl rfl (by decide +kernel) ⟨Nat.le_of_ble_eq_true rfl, Nat.le_of_ble_eq_true rfl⟩) rfl (Nat.le_of_ble_eq_true rfl) ⟨Nat.zero_le _, Nat.zero_le _⟩ rfl dM_instant_43 ?_
        show aW _ _ _ _ _ _ _ _ _ _ _ _ _ _ _ _ _ _ _ _ _ [.int ((fm_fails T (1 : Int32) (1 : Int32)).1)]
        rw [show (fm_insF T inp go) = (((fm_fails T (1 : Int32) (1 : Int32)).1), ((fm_fails T (1 : Int32) (1 : Int32)).2)) from by rw [fm_insF, if_pos c_16, if_neg c_25, if_pos c_29]] at kq
        exact kq
      · skip
        refine aw_iload_n (pc := 32) (i := 1) (x := inp) F dM_instant_32 rfl rfl ?_
        refine aw_bipush (pc := 33) (v := 15) F dM_instant_33 (by decide) ?_
        refine aw_icmp_le (pc := 35) F 42 dM_instant_35 (by decide) (fun c_35 => ?_) (fun c_35 => ?_)
        · skip
          refine aw_iconst (pc := 42) (v := 0) F dM_instant_42 (by decide) ?_
          refine aw_goV (pc := 43) (As := [.int (1 : Int32), .int (0 : Int32)]) (rest := []) F zC_ok Zs 13 hM_at13 rfl (tM_fails  T M Y V (1 : Int32) (0 : Int32)) (cwV 2 F.1.2.2.2.2 (gi_V wd_754 wd_756 wd_47 wd_67 wd_757) rfl rfl rfl (by decide +kernel) ⟨Nat.le_of_ble_eq_true rfl, Nat.le_of_ble_eq_true rfl⟩) rfl (Nat.le_of_ble_eq_true rfl) ⟨Nat.zero_le _, Nat.zero_le _⟩ rfl dM_instant_43 ?_
          show aW _ _ _ _ _ _ _ _ _ _ _ _ _ _ _ _ _ _ _ _ _ [.int ((fm_fails T (1 : Int32) (0 : Int32)).1)]
          rw [show (fm_insF T inp go) = (((fm_fails T (1 : Int32) (0 : Int32)).1), ((fm_fails T (1 : Int32) (0 : Int32)).2)) from by rw [fm_insF, if_pos c_16, if_neg c_25, if_neg c_29, if_pos c_35]] at kq
          exact kq
        · skip
          refine aw_iconst (pc := 38) (v := 1) F dM_instant_38 (by decide) ?_
          refine aw_goto (pc := 39) F 43 dM_instant_39 (by decide) ?_
          refine aw_goV (pc := 43) (As := [.int (1 : Int32), .int (1 : Int32)]) (rest := []) F zC_ok Zs 13 hM_at13 rfl (tM_fails  T M Y V (1 : Int32) (1 : Int32)) (cwV 2 F.1.2.2.2.2 (gi_V wd_754 wd_756 wd_47 wd_67 wd_757) rfl rfl rfl (by decide +kernel) ⟨Nat.le_of_ble_eq_true rfl, Nat.le_of_ble_eq_true rfl⟩) rfl (Nat.le_of_ble_eq_true rfl) ⟨Nat.zero_le _, Nat.zero_le _⟩ rfl dM_instant_43 ?_
          show aW _ _ _ _ _ _ _ _ _ _ _ _ _ _ _ _ _ _ _ _ _ [.int ((fm_fails T (1 : Int32) (1 : Int32)).1)]
          rw [show (fm_insF T inp go) = (((fm_fails T (1 : Int32) (1 : Int32)).1), ((fm_fails T (1 : Int32) (1 : Int32)).2)) from by rw [fm_insF, if_pos c_16, if_neg c_25, if_neg c_29, if_neg c_35]] at kq
          exact kq
def fm_insS : Nat → yT → Int32 → Int32 → Int32 × yT
  | 0, Y, co, k => (k, Y)
  | n + 1, Y, co, k =>
      if (16 : Int32) ≤ k then
      (k, Y)
    else
      (fm_insS n (y2w Y 1 k.toNatClampNeg ((Y.2 2) k.toNatClampNeg)) co (k + (1 : Int32)))
set_option maxRecDepth 100000 in
set_option maxHeartbeats 4000000 in
theorem tM_instant_X60 {l : Launch} {D : va_G} {A : Nat → Prop} {ad : Nat → Nat} {tP : Nat} {cI cZ : ClassId} {S : kT} {P : pT} {X : xT} {tl : List va_E} {tyr : List (ClassId × FieldType)} {p : Program} {e : Env} {R : Room} {s : State} {m : MethodId} {args : Array Value} {below : List Frame} {meth : Method} {c : Code} {Q : State → Prop} (F : aw_F p s m c args cM_instant 5 (Cond.code yM_instant cM_instant 5 (some .int) :: aw_big) yM_instant.cls D vwCl ((cI, .int) :: (cZ, .boolean) :: tyr)) (Zs : zC A tP s) :
    ∀ (n : Nat) (T : Int32) (M : mT) (Y : yT) (V : vT) (co : Int32) (k : Int32) (h1 : 0 ≤ k.toInt) (h2 : k.toInt ≤ 16) (hm : 16 < k.toInt + n), aW p l e R s m args below meth c 0 0 Q D vwCl A ad 5 (hC ad cI S P X ++ (hM ad cI cZ T M ((fm_insS n Y co k).2) V ++ tl)) [some (.ref (ad 13)), none, none, some (.int co), some (.int ((fm_insS n Y co k).1))] 87 [] → aW p l e R s m args below meth c 0 0 Q D vwCl A ad 5 (hC ad cI S P X ++ (hM ad cI cZ T M Y V ++ tl)) [some (.ref (ad 13)), none, none, some (.int co), some (.int k)] 60 [] := by
  intro n
  induction n with
  | zero =>
    intro T M Y V co k h1 h2 hm kq
    exfalso; omega
  | succ n ih =>
    intro T M Y V co k h1 h2 hm kq
    refine aw_iload (pc := 60) (i := 4) (x := k) F dM_instant_60 rfl ?_
    refine aw_bipush (pc := 62) (v := 16) F dM_instant_62 (by decide) ?_
    refine aw_icmp_ge (pc := 64) F 87 dM_instant_64 (by decide) (fun c_64 => ?_) (fun c_64 => ?_)
    · skip
      rw [show (fm_insS (n + 1) Y co k) = (k, Y) from by rw [fm_insS, if_pos c_64]] at kq
      exact kq
    · skip
      refine aw_aload_n (pc := 67) (i := 0) (x := ad 13) F dM_instant_67 rfl rfl ?_
      refine aw_get (pc := 68) (v := .ref (ad 26)) F 13 hM_at13 rfl 22 (by decide) (fun w h => mw (iw_M w h)) (mw wd_671) rfl dM_instant_68 ?_
      refine aw_iload (pc := 71) (i := 4) (x := k) F dM_instant_71 rfl ?_
      refine aw_aload_n (pc := 73) (i := 0) (x := ad 13) F dM_instant_73 rfl rfl ?_
      refine aw_get (pc := 74) (v := .ref (ad 27)) F 13 hM_at13 rfl 23 (by decide) (fun w h => mw (iw_M w h)) (mw wd_672) rfl dM_instant_74 ?_
      refine aw_iload (pc := 77) (i := 4) (x := k) F dM_instant_77 rfl ?_
      refine aw_iald (pc := 79) F 27 0 hM_at27 rfl (vp_in_iff.mpr (by have a := i_lt c_64; have e : (16 : Int32).toInt = 16 := rfl; omega)) dM_instant_79 ?_
      refine aw_iast (pc := 80) (hp' := (hC ad cI S P X ++ (hM ad cI cZ T M (y2w Y 1 k.toNatClampNeg ((Y.2 2) k.toNatClampNeg)) V ++ tl))) F 26 0 hM_at26 rfl (vp_in_iff.mpr (by have a := i_lt c_64; have e : (16 : Int32).toInt = 16 := rfl; omega)) hM_st26 dM_instant_80 ?_
      refine aw_iinc (pc := 81) (x := k) (v := k + (1 : Int32)) (L' := [some (.ref (ad 13)), none, none, some (.int co), some (.int (k + (1 : Int32)))]) F dM_instant_81 rfl rfl (by decide) rfl ?_
      refine aw_goto (pc := 84) F 60 dM_instant_84 (by decide) ?_
      rw [show (fm_insS (n + 1) Y co k) = (fm_insS n (y2w Y 1 k.toNatClampNeg ((Y.2 2) k.toNatClampNeg)) co (k + (1 : Int32))) from by rw [fm_insS, if_neg c_64]] at kq
      exact ih T M (y2w Y 1 k.toNatClampNeg ((Y.2 2) k.toNatClampNeg)) V co (k + (1 : Int32)) (by have a := i_up (i_lt c_64); omega) (by have a := i_up (i_lt c_64); have b := i_lt c_64; have e : (16 : Int32).toInt = 16 := rfl; omega) (by have a := i_up (i_lt c_64); omega) kq
def fm_insK : Nat → yT → vT → Int32 → Int32 → Int32 × yT
  | 0, Y, V, co, k => (k, Y)
  | n + 1, Y, V, co, k =>
      if (32 : Int32) ≤ k then
      (k, Y)
    else
      if co = (1 : Int32) then
        if ((V.2 0) k.toNatClampNeg) = 0 then
          (fm_insK n (y2w Y 0 k.toNatClampNeg (vp_nar .boolean (0 : Int32))) V co (k + (1 : Int32)))
        else
          (fm_insK n (y2w Y 0 k.toNatClampNeg (vp_nar .boolean (1 : Int32))) V co (k + (1 : Int32)))
      else
        (fm_insK n (y2w Y 0 k.toNatClampNeg (vp_nar .boolean (0 : Int32))) V co (k + (1 : Int32)))
set_option maxRecDepth 100000 in
set_option maxHeartbeats 4000000 in
theorem tM_instant_X112 {l : Launch} {D : va_G} {A : Nat → Prop} {ad : Nat → Nat} {tP : Nat} {cI cZ : ClassId} {S : kT} {P : pT} {X : xT} {tl : List va_E} {tyr : List (ClassId × FieldType)} {p : Program} {e : Env} {R : Room} {s : State} {m : MethodId} {args : Array Value} {below : List Frame} {meth : Method} {c : Code} {Q : State → Prop} (F : aw_F p s m c args cM_instant 5 (Cond.code yM_instant cM_instant 5 (some .int) :: aw_big) yM_instant.cls D vwCl ((cI, .int) :: (cZ, .boolean) :: tyr)) (Zs : zC A tP s) :
    ∀ (n : Nat) (T : Int32) (M : mT) (Y : yT) (V : vT) (co : Int32) (k : Int32) (h1 : 0 ≤ k.toInt) (h2 : k.toInt ≤ 32) (hm : 32 < k.toInt + n), aW p l e R s m args below meth c 0 0 Q D vwCl A ad 5 (hC ad cI S P X ++ (hM ad cI cZ T M ((fm_insK n Y V co k).2) V ++ tl)) [some (.ref (ad 13)), none, none, some (.int co), some (.int ((fm_insK n Y V co k).1))] 152 [] → aW p l e R s m args below meth c 0 0 Q D vwCl A ad 5 (hC ad cI S P X ++ (hM ad cI cZ T M Y V ++ tl)) [some (.ref (ad 13)), none, none, some (.int co), some (.int k)] 112 [] := by
  intro n
  induction n with
  | zero =>
    intro T M Y V co k h1 h2 hm kq
    exfalso; omega
  | succ n ih =>
    intro T M Y V co k h1 h2 hm kq
    refine aw_iload (pc := 112) (i := 4) (x := k) F dM_instant_112 rfl ?_
    refine aw_bipush (pc := 114) (v := 32) F dM_instant_114 (by decide) ?_
    refine aw_icmp_ge (pc := 116) F 152 dM_instant_116 (by decide) (fun c_116 => ?_) (fun c_116 => ?_)
    · skip
      rw [show (fm_insK (n + 1) Y V co k) = (k, Y) from by rw [fm_insK, if_pos c_116]] at kq
      exact kq
    · skip
      refine aw_aload_n (pc := 119) (i := 0) (x := ad 13) F dM_instant_119 rfl rfl ?_
      refine aw_get (pc := 120) (v := .ref (ad 25)) F 13 hM_at13 rfl 20 (by decide) (fun w h => mw (iw_M w h)) (mw wd_669) rfl dM_instant_120 ?_
      refine aw_iload (pc := 123) (i := 4) (x := k) F dM_instant_123 rfl ?_
      refine aw_iload_n (pc := 125) (i := 3) (x := co) F dM_instant_125 rfl rfl ?_
      refine aw_iconst (pc := 126) (v := 1) F dM_instant_126 (by decide) ?_
      refine aw_icmp_ne (pc := 127) F 144 dM_instant_127 (by decide) (fun c_127 => ?_) (fun c_127 => ?_)
      · skip
        refine aw_iconst (pc := 144) (v := 0) F dM_instant_144 (by decide) ?_
        refine aw_zast (pc := 145) (hp' := (hC ad cI S P X ++ (hM ad cI cZ T M (y2w Y 0 k.toNatClampNeg (vp_nar .boolean (0 : Int32))) V ++ tl))) F 25 1 hM_at25 rfl (vp_in_iff.mpr (by have a := i_lt c_116; have e : (32 : Int32).toInt = 32 := rfl; omega)) hM_st25 dM_instant_145 ?_
        refine aw_iinc (pc := 146) (x := k) (v := k + (1 : Int32)) (L' := [some (.ref (ad 13)), none, none, some (.int co), some (.int (k + (1 : Int32)))]) F dM_instant_146 rfl rfl (by decide) rfl ?_
        refine aw_goto (pc := 149) F 112 dM_instant_149 (by decide) ?_
        rw [show (fm_insK (n + 1) Y V co k) = (fm_insK n (y2w Y 0 k.toNatClampNeg (vp_nar .boolean (0 : Int32))) V co (k + (1 : Int32))) from by rw [fm_insK, if_neg c_116, if_neg c_127]] at kq
        exact ih T M (y2w Y 0 k.toNatClampNeg (vp_nar .boolean (0 : Int32))) V co (k + (1 : Int32)) (by have a := i_up (i_lt c_116); omega) (by have a := i_up (i_lt c_116); have b := i_lt c_116; have e : (32 : Int32).toInt = 32 := rfl; omega) (by have a := i_up (i_lt c_116); omega) kq
      · skip
        refine aw_aload_n (pc := 130) (i := 0) (x := ad 13) F dM_instant_130 rfl rfl ?_
        refine aw_get (pc := 131) (v := .ref (ad 28)) F 13 hM_at13 rfl 21 (by decide) (fun w h => mw (iw_M w h)) (mw wd_670) rfl dM_instant_131 ?_
        refine aw_iload (pc := 134) (i := 4) (x := k) F dM_instant_134 rfl ?_
        refine aw_zald (pc := 136) F 28 1 hM_at28 rfl (vp_in_iff.mpr (by have a := i_lt c_116; have e : (32 : Int32).toInt = 32 := rfl; omega)) dM_instant_136 ?_
        refine aw_if_eq (pc := 137) F 144 dM_instant_137 (by decide) (fun c_137 => ?_) (fun c_137 => ?_)
        · skip
          refine aw_iconst (pc := 144) (v := 0) F dM_instant_144 (by decide) ?_
          refine aw_zast (pc := 145) (hp' := (hC ad cI S P X ++ (hM ad cI cZ T M (y2w Y 0 k.toNatClampNeg (vp_nar .boolean (0 : Int32))) V ++ tl))) F 25 1 hM_at25 rfl (vp_in_iff.mpr (by have a := i_lt c_116; have e : (32 : Int32).toInt = 32 := rfl; omega)) hM_st25 dM_instant_145 ?_
          refine aw_iinc (pc := 146) (x := k) (v := k + (1 : Int32)) (L' := [some (.ref (ad 13)), none, none, some (.int co), some (.int (k + (1 : Int32)))]) F dM_instant_146 rfl rfl (by decide) rfl ?_
          refine aw_goto (pc := 149) F 112 dM_instant_149 (by decide) ?_
          rw [show (fm_insK (n + 1) Y V co k) = (fm_insK n (y2w Y 0 k.toNatClampNeg (vp_nar .boolean (0 : Int32))) V co (k + (1 : Int32))) from by rw [fm_insK, if_neg c_116, if_pos c_127, if_pos c_137]] at kq
          exact ih T M (y2w Y 0 k.toNatClampNeg (vp_nar .boolean (0 : Int32))) V co (k + (1 : Int32)) (by have a := i_up (i_lt c_116); omega) (by have a := i_up (i_lt c_116); have b := i_lt c_116; have e : (32 : Int32).toInt = 32 := rfl; omega) (by have a := i_up (i_lt c_116); omega) kq
        · skip
          refine aw_iconst (pc := 140) (v := 1) F dM_instant_140 (by decide) ?_
          refine aw_goto (pc := 141) F 145 dM_instant_141 (by decide) ?_
          refine aw_zast (pc := 145) (hp' := (hC ad cI S P X ++ (hM ad cI cZ T M (y2w Y 0 k.toNatClampNeg (vp_nar .boolean (1 : Int32))) V ++ tl))) F 25 1 hM_at25 rfl (vp_in_iff.mpr (by have a := i_lt c_116; have e : (32 : Int32).toInt = 32 := rfl; omega)) hM_st25 dM_instant_145 ?_
          refine aw_iinc (pc := 146) (x := k) (v := k + (1 : Int32)) (L' := [some (.ref (ad 13)), none, none, some (.int co), some (.int (k + (1 : Int32)))]) F dM_instant_146 rfl rfl (by decide) rfl ?_
          refine aw_goto (pc := 149) F 112 dM_instant_149 (by decide) ?_
          rw [show (fm_insK (n + 1) Y V co k) = (fm_insK n (y2w Y 0 k.toNatClampNeg (vp_nar .boolean (1 : Int32))) V co (k + (1 : Int32))) from by rw [fm_insK, if_neg c_116, if_pos c_127, if_neg c_137]] at kq
          exact ih T M (y2w Y 0 k.toNatClampNeg (vp_nar .boolean (1 : Int32))) V co (k + (1 : Int32)) (by have a := i_up (i_lt c_116); omega) (by have a := i_up (i_lt c_116); have b := i_lt c_116; have e : (32 : Int32).toInt = 32 := rfl; omega) (by have a := i_up (i_lt c_116); omega) kq
def fm_instant  (T : Int32) (M : mT) (Y : yT) (V : vT) (inp : Int32) : Int32 × Int32 × yT × vT :=
  if ((fm_insF T inp (fm_insG Y inp)).1) = 0 then
    if ((fm_react M Y V inp).1) = (-1 : Int32) then
      ((2 : Int32), ((fm_insF T inp (fm_insG Y inp)).2), ((fm_insS 17 ((fm_react M Y V inp).2.1) ((fm_react M Y V inp).1) (0 : Int32)).2), ((fm_react M Y V inp).2.2))
    else
      if ((fm_react M Y V inp).1) = (1 : Int32) then
        if ((fm_react M Y V inp).1) = (1 : Int32) then
          ((0 : Int32), ((fm_insF T inp (fm_insG Y inp)).2), (y1w ((fm_insK 33 (y1w (y1w ((fm_insS 17 ((fm_react M Y V inp).2.1) ((fm_react M Y V inp).1) (0 : Int32)).2) 1 ((((fm_insS 17 ((fm_react M Y V inp).2.1) ((fm_react M Y V inp).1) (0 : Int32)).2).1 1) + (1 : Int32))) 2 (0 : Int32)) ((fm_react M Y V inp).2.2) ((fm_react M Y V inp).1) (0 : Int32)).2) 0 (1 : Int32)), ((fm_react M Y V inp).2.2))
        else
          ((1 : Int32), ((fm_insF T inp (fm_insG Y inp)).2), (y1w ((fm_insK 33 (y1w (y1w ((fm_insS 17 ((fm_react M Y V inp).2.1) ((fm_react M Y V inp).1) (0 : Int32)).2) 1 ((((fm_insS 17 ((fm_react M Y V inp).2.1) ((fm_react M Y V inp).1) (0 : Int32)).2).1 1) + (1 : Int32))) 2 (0 : Int32)) ((fm_react M Y V inp).2.2) ((fm_react M Y V inp).1) (0 : Int32)).2) 0 (1 : Int32)), ((fm_react M Y V inp).2.2))
      else
        if ((fm_react M Y V inp).1) = (1 : Int32) then
          ((0 : Int32), ((fm_insF T inp (fm_insG Y inp)).2), (y1w ((fm_insK 33 (y1w (y1w ((fm_insS 17 ((fm_react M Y V inp).2.1) ((fm_react M Y V inp).1) (0 : Int32)).2) 1 ((((fm_insS 17 ((fm_react M Y V inp).2.1) ((fm_react M Y V inp).1) (0 : Int32)).2).1 1) + (1 : Int32))) 2 (0 : Int32)) ((fm_react M Y V inp).2.2) ((fm_react M Y V inp).1) (0 : Int32)).2) 0 (2 : Int32)), ((fm_react M Y V inp).2.2))
        else
          ((1 : Int32), ((fm_insF T inp (fm_insG Y inp)).2), (y1w ((fm_insK 33 (y1w (y1w ((fm_insS 17 ((fm_react M Y V inp).2.1) ((fm_react M Y V inp).1) (0 : Int32)).2) 1 ((((fm_insS 17 ((fm_react M Y V inp).2.1) ((fm_react M Y V inp).1) (0 : Int32)).2).1 1) + (1 : Int32))) 2 (0 : Int32)) ((fm_react M Y V inp).2.2) ((fm_react M Y V inp).1) (0 : Int32)).2) 0 (2 : Int32)), ((fm_react M Y V inp).2.2))
  else
    ((0 : Int32), ((fm_insF T inp (fm_insG Y inp)).2), Y, V)
set_option maxRecDepth 100000 in
set_option maxHeartbeats 4000000 in
theorem tM_instant {l : Launch} {D : va_G} {A : Nat → Prop} {ad : Nat → Nat} {tP : Nat} {cI cZ : ClassId} {S : kT} {P : pT} {X : xT} {tl : List va_E} {tyr : List (ClassId × FieldType)} (T : Int32) (M : mT) (Y : yT) (V : vT) (inp : Int32) (hg : (fm_insF T inp (fm_insG Y inp)).1 = 0 → mW M ∧ 0 < (M.1 0).toInt) : aw_M l yM_instant (Cond.code yM_instant cM_instant 5 (some .int) :: aw_big) 402 D vwCl ((cI, .int) :: (cZ, .boolean) :: tyr) A ad (zC A tP) [.ref (ad 13), .int inp] (hC ad cI S P X ++ (hM ad cI cZ T M Y V ++ tl)) (some (.int ((fm_instant T M Y V inp).1))) (hC ad cI S P X ++ (hM ad cI cZ ((fm_instant T M Y V inp).2.1) M ((fm_instant T M Y V inp).2.2.1) ((fm_instant T M Y V inp).2.2.2) ++ tl)) := by
  refine aw_met cM_instant 5 (some .int) [some (.ref (ad 13)), some (.int inp), none, none, none] (by decide) rfl (Nat.le_of_ble_eq_true rfl) rfl ?_
  intro p e s m args below meth c F Zs hr hlk
  refine tM_instant_X0  F Zs  T M Y V inp   ?_
  refine tM_instant_X14  F Zs  T M Y V inp (fm_insG Y inp)   ?_
  refine aw_if_eq (pc := 46) F 51 dM_instant_46 (by decide) (fun c_46 => ?_) (fun c_46 => ?_)
  · skip
    refine aw_aload_n (pc := 51) (i := 0) (x := ad 13) F dM_instant_51 rfl rfl ?_
    refine aw_iload_n (pc := 52) (i := 1) (x := inp) F dM_instant_52 rfl rfl ?_
    refine aw_goV (pc := 53) (As := [.int inp]) (rest := []) F zC_ok Zs 13 hM_at13 rfl (tM_react  ((fm_insF T inp (fm_insG Y inp)).2) M Y V inp (hg c_46).1 (hg c_46).2) (cwV 1 F.1.2.2.2.2 (gi_V wd_787 wd_789 wd_50 wd_67 wd_790) rfl rfl rfl (by decide +kernel) ⟨Nat.le_of_ble_eq_true rfl, Nat.le_of_ble_eq_true rfl⟩) rfl (Nat.le_of_ble_eq_true rfl) ⟨Nat.zero_le _, Nat.zero_le _⟩ rfl dM_instant_53 ?_
    show aW _ _ _ _ _ _ _ _ _ _ _ _ _ _ _ _ _ _ _ _ _ [.int ((fm_react M Y V inp).1)]
    refine aw_istore_n (pc := 56) (i := 3) (L' := [some (.ref (ad 13)), some (.int inp), some (.int (fm_insG Y inp)), some (.int ((fm_react M Y V inp).1)), none]) F dM_instant_56 rfl (by decide) rfl ?_
    refine aw_iconst (pc := 57) (v := 0) F dM_instant_57 (by decide) ?_
    refine aw_istore (pc := 58) (i := 4) (L' := [some (.ref (ad 13)), some (.int inp), some (.int (fm_insG Y inp)), some (.int ((fm_react M Y V inp).1)), some (.int (0 : Int32))]) F dM_instant_58 (by decide) rfl ?_
    refine aw_less (L' := [some (.ref (ad 13)), none, none, some (.int ((fm_react M Y V inp).1)), some (.int (0 : Int32))]) (fun i v h => by match i, h with | 0, h => exact h | 1, h => cases h | 2, h => cases h | 3, h => exact h | 4, h => exact h | _ + 5, h => cases h) ?_
    refine tM_instant_X60  F Zs 17 ((fm_insF T inp (fm_insG Y inp)).2) M ((fm_react M Y V inp).2.1) ((fm_react M Y V inp).2.2) ((fm_react M Y V inp).1) (0 : Int32) (by decide) (by decide) (by decide) ?_
    refine aw_iload_n (pc := 87) (i := 3) (x := ((fm_react M Y V inp).1)) F dM_instant_87 rfl rfl ?_
    refine aw_iconst (pc := 88) (v := -1) F dM_instant_88 (by decide) ?_
    refine aw_icmp_ne (pc := 89) F 94 dM_instant_89 (by decide) (fun c_89 => ?_) (fun c_89 => ?_)
    · skip
      refine aw_aload_n (pc := 94) (i := 0) (x := ad 13) F dM_instant_94 rfl rfl ?_
      refine aw_dup (pc := 95) F dM_instant_95 rfl ?_
      refine aw_get (pc := 96) (v := .int (((fm_insS 17 ((fm_react M Y V inp).2.1) ((fm_react M Y V inp).1) (0 : Int32)).2).1 1)) F 13 hM_at13 rfl 18 (by decide) (fun w h => mw (iw_M w h)) (mw wd_667) rfl dM_instant_96 ?_
      refine aw_iconst (pc := 99) (v := 1) F dM_instant_99 (by decide) ?_
      refine aw_iadd (pc := 100) F dM_instant_100 ?_
      refine aw_put (pc := 101) (hp' := (hC ad cI S P X ++ (hM ad cI cZ ((fm_insF T inp (fm_insG Y inp)).2) M (y1w ((fm_insS 17 ((fm_react M Y V inp).2.1) ((fm_react M Y V inp).1) (0 : Int32)).2) 1 ((((fm_insS 17 ((fm_react M Y V inp).2.1) ((fm_react M Y V inp).1) (0 : Int32)).2).1 1) + (1 : Int32))) ((fm_react M Y V inp).2.2) ++ tl))) F 13 hM_at13 rfl 18 (by decide) (fun w h => mw (iw_M w h)) tyM tyM_ok nmM (mw wd_667) (ty := .int) rfl (by decide +kernel) rfl rfl (Nat.le_of_ble_eq_true rfl) hM_st13_18 dM_instant_101 ?_
      refine aw_aload_n (pc := 104) (i := 0) (x := ad 13) F dM_instant_104 rfl rfl ?_
      refine aw_iconst (pc := 105) (v := 0) F dM_instant_105 (by decide) ?_
      refine aw_put (pc := 106) (hp' := (hC ad cI S P X ++ (hM ad cI cZ ((fm_insF T inp (fm_insG Y inp)).2) M (y1w (y1w ((fm_insS 17 ((fm_react M Y V inp).2.1) ((fm_react M Y V inp).1) (0 : Int32)).2) 1 ((((fm_insS 17 ((fm_react M Y V inp).2.1) ((fm_react M Y V inp).1) (0 : Int32)).2).1 1) + (1 : Int32))) 2 (0 : Int32)) ((fm_react M Y V inp).2.2) ++ tl))) F 13 hM_at13 rfl 19 (by decide) (fun w h => mw (iw_M w h)) tyM tyM_ok nmM (mw wd_668) (ty := .boolean) rfl (by decide +kernel) rfl rfl (Nat.le_of_ble_eq_true rfl) hM_st13_19 dM_instant_106 ?_
      refine aw_iconst (pc := 109) (v := 0) F dM_instant_109 (by decide) ?_
      refine aw_istore (pc := 110) (i := 4) (L' := [some (.ref (ad 13)), none, none, some (.int ((fm_react M Y V inp).1)), some (.int (0 : Int32))]) F dM_instant_110 (by decide) rfl ?_
      refine tM_instant_X112  F Zs 33 ((fm_insF T inp (fm_insG Y inp)).2) M (y1w (y1w ((fm_insS 17 ((fm_react M Y V inp).2.1) ((fm_react M Y V inp).1) (0 : Int32)).2) 1 ((((fm_insS 17 ((fm_react M Y V inp).2.1) ((fm_react M Y V inp).1) (0 : Int32)).2).1 1) + (1 : Int32))) 2 (0 : Int32)) ((fm_react M Y V inp).2.2) ((fm_react M Y V inp).1) (0 : Int32) (by decide) (by decide) (by decide) ?_
      refine aw_aload_n (pc := 152) (i := 0) (x := ad 13) F dM_instant_152 rfl rfl ?_
      refine aw_iload_n (pc := 153) (i := 3) (x := ((fm_react M Y V inp).1)) F dM_instant_153 rfl rfl ?_
      refine aw_iconst (pc := 154) (v := 1) F dM_instant_154 (by decide) ?_
      refine aw_icmp_ne (pc := 155) F 162 dM_instant_155 (by decide) (fun c_155 => ?_) (fun c_155 => ?_)
      · skip
        refine aw_iconst (pc := 162) (v := 2) F dM_instant_162 (by decide) ?_
        refine aw_put (pc := 163) (hp' := (hC ad cI S P X ++ (hM ad cI cZ ((fm_insF T inp (fm_insG Y inp)).2) M (y1w ((fm_insK 33 (y1w (y1w ((fm_insS 17 ((fm_react M Y V inp).2.1) ((fm_react M Y V inp).1) (0 : Int32)).2) 1 ((((fm_insS 17 ((fm_react M Y V inp).2.1) ((fm_react M Y V inp).1) (0 : Int32)).2).1 1) + (1 : Int32))) 2 (0 : Int32)) ((fm_react M Y V inp).2.2) ((fm_react M Y V inp).1) (0 : Int32)).2) 0 (2 : Int32)) ((fm_react M Y V inp).2.2) ++ tl))) F 13 hM_at13 rfl 17 (by decide) (fun w h => mw (iw_M w h)) tyM tyM_ok nmM (mw wd_666) (ty := .int) rfl (by decide +kernel) rfl rfl (Nat.le_of_ble_eq_true rfl) hM_st13_17 dM_instant_163 ?_
        refine aw_iload_n (pc := 166) (i := 3) (x := ((fm_react M Y V inp).1)) F dM_instant_166 rfl rfl ?_
        refine aw_iconst (pc := 167) (v := 1) F dM_instant_167 (by decide) ?_
        refine aw_icmp_ne (pc := 168) F 175 dM_instant_168 (by decide) (fun c_168 => ?_) (fun c_168 => ?_)
        · skip
          refine aw_iconst (pc := 175) (v := 1) F dM_instant_175 (by decide) ?_
          exact aw_iret (pc := 176) F hr hlk dM_instant_176 (by rw [fm_instant, if_pos c_46, if_neg c_89, if_neg c_155, if_neg c_168]) (by rw [fm_instant, if_pos c_46, if_neg c_89, if_neg c_155, if_neg c_168])
        · skip
          refine aw_iconst (pc := 171) (v := 0) F dM_instant_171 (by decide) ?_
          refine aw_goto (pc := 172) F 176 dM_instant_172 (by decide) ?_
          exact aw_iret (pc := 176) F hr hlk dM_instant_176 (by rw [fm_instant, if_pos c_46, if_neg c_89, if_neg c_155, if_pos c_168]) (by rw [fm_instant, if_pos c_46, if_neg c_89, if_neg c_155, if_pos c_168])
      · skip
        refine aw_iconst (pc := 158) (v := 1) F dM_instant_158 (by decide) ?_
        refine aw_goto (pc := 159) F 163 dM_instant_159 (by decide) ?_
        refine aw_put (pc := 163) (hp' := (hC ad cI S P X ++ (hM ad cI cZ ((fm_insF T inp (fm_insG Y inp)).2) M (y1w ((fm_insK 33 (y1w (y1w ((fm_insS 17 ((fm_react M Y V inp).2.1) ((fm_react M Y V inp).1) (0 : Int32)).2) 1 ((((fm_insS 17 ((fm_react M Y V inp).2.1) ((fm_react M Y V inp).1) (0 : Int32)).2).1 1) + (1 : Int32))) 2 (0 : Int32)) ((fm_react M Y V inp).2.2) ((fm_react M Y V inp).1) (0 : Int32)).2) 0 (1 : Int32)) ((fm_react M Y V inp).2.2) ++ tl))) F 13 hM_at13 rfl 17 (by decide) (fun w h => mw (iw_M w h)) tyM tyM_ok nmM (mw wd_666) (ty := .int) rfl (by decide +kernel) rfl rfl (Nat.le_of_ble_eq_true rfl) hM_st13_17 dM_instant_163 ?_
        refine aw_iload_n (pc := 166) (i := 3) (x := ((fm_react M Y V inp).1)) F dM_instant_166 rfl rfl ?_
        refine aw_iconst (pc := 167) (v := 1) F dM_instant_167 (by decide) ?_
        refine aw_icmp_ne (pc := 168) F 175 dM_instant_168 (by decide) (fun c_168 => ?_) (fun c_168 => ?_)
        · skip
          refine aw_iconst (pc := 175) (v := 1) F dM_instant_175 (by decide) ?_
          exact aw_iret (pc := 176) F hr hlk dM_instant_176 (by rw [fm_instant, if_pos c_46, if_neg c_89, if_pos c_155, if_neg c_168]) (by rw [fm_instant, if_pos c_46, if_neg c_89, if_pos c_155, if_neg c_168])
        · skip
          refine aw_iconst (pc := 171) (v := 0) F dM_instant_171 (by decide) ?_
          refine aw_goto (pc := 172) F 176 dM_instant_172 (by decide) ?_
          exact aw_iret (pc := 176) F hr hlk dM_instant_176 (by rw [fm_instant, if_pos c_46, if_neg c_89, if_pos c_155, if_pos c_168]) (by rw [fm_instant, if_pos c_46, if_neg c_89, if_pos c_155, if_pos c_168])
    · skip
      refine aw_iconst (pc := 92) (v := 2) F dM_instant_92 (by decide) ?_
      exact aw_iret (pc := 93) F hr hlk dM_instant_93 (by rw [fm_instant, if_pos c_46, if_pos c_89]) (by rw [fm_instant, if_pos c_46, if_pos c_89])
  · skip
    refine aw_iconst (pc := 49) (v := 0) F dM_instant_49 (by decide) ?_
    exact aw_iret (pc := 50) F hr hlk dM_instant_50 (by rw [fm_instant, if_neg c_46]) (by rw [fm_instant, if_neg c_46])
theorem fails_0 {T a b : Int32} (h : (fm_fails T a b).1 = 0) : a = 0 ∧ b = 0 := by
  unfold fm_fails at h
  by_cases x : a = 0
  · rw [if_pos x] at h
    by_cases y : b = 0
    · exact ⟨x, y⟩
    · rw [if_neg y, if_neg (by decide)] at h
      exact absurd h (by decide)
  · rw [if_neg x, if_neg (by decide)] at h
    exact absurd h (by decide)
theorem sg_in {x : Int32} (a : ¬ x < 0) (b : x ≤ (15 : Int32)) : vp_in x 16 := by
  rw [vp_in_iff]
  have p := i_nlt a
  have q := i_le b
  rw [i_0] at p
  have e : (15 : Int32).toInt = 15 := rfl
  omega
theorem sg_in2 {x : Int32} (a : ¬ x < (4 : Int32)) (b : x ≤ (15 : Int32)) : vp_in x 3256 := by
  rw [vp_in_iff]
  have p := i_nlt a
  have q := i_le b
  have e4 : (4 : Int32).toInt = 4 := rfl
  have e : (15 : Int32).toInt = 15 := rfl
  omega
theorem pa_in {M : mT} {k : Int32} (hp : (M.1 1).toInt ≤ 32) (a : ¬ k < 0) (b : k < (M.1 1)) : vp_in k 32 := by
  rw [vp_in_iff]
  have p := i_nlt a
  have q := Int32.lt_iff_toInt_lt.mp b
  rw [i_0] at p
  omega
def fm_status  (T : Int32) (Y : yT) (sg : Int32) : Int32 × Int32 :=
  if sg < 0 then
    if ((fm_fails T (1 : Int32) (0 : Int32)).1) = 0 then
      ((Y.2 1) sg.toNatClampNeg, ((fm_fails T (1 : Int32) (0 : Int32)).2))
    else
      ((0 : Int32), ((fm_fails T (1 : Int32) (0 : Int32)).2))
  else
    if sg ≤ (15 : Int32) then
      if ((fm_fails T (0 : Int32) (0 : Int32)).1) = 0 then
        ((Y.2 1) sg.toNatClampNeg, ((fm_fails T (0 : Int32) (0 : Int32)).2))
      else
        ((0 : Int32), ((fm_fails T (0 : Int32) (0 : Int32)).2))
    else
      if ((fm_fails T (1 : Int32) (0 : Int32)).1) = 0 then
        ((Y.2 1) sg.toNatClampNeg, ((fm_fails T (1 : Int32) (0 : Int32)).2))
      else
        ((0 : Int32), ((fm_fails T (1 : Int32) (0 : Int32)).2))
set_option maxRecDepth 100000 in
set_option maxHeartbeats 4000000 in
theorem tM_status {l : Launch} {D : va_G} {A : Nat → Prop} {ad : Nat → Nat} {tP : Nat} {cI cZ : ClassId} {S : kT} {P : pT} {X : xT} {tl : List va_E} {tyr : List (ClassId × FieldType)} (T : Int32) (M : mT) (Y : yT) (V : vT) (sg : Int32)  : aw_M l yM_status (Cond.code yM_status cM_status 2 (some .int) :: aw_big) 1 D vwCl ((cI, .int) :: (cZ, .boolean) :: tyr) A ad (zC A tP) [.ref (ad 13), .int sg] (hC ad cI S P X ++ (hM ad cI cZ T M Y V ++ tl)) (some (.int ((fm_status T Y sg).1))) (hC ad cI S P X ++ (hM ad cI cZ ((fm_status T Y sg).2) M Y V ++ tl)) := by
  refine aw_met cM_status 2 (some .int) [some (.ref (ad 13)), some (.int sg)] (by decide) rfl (Nat.le_of_ble_eq_true rfl) rfl ?_
  intro p e s m args below meth c F Zs hr hlk
  refine aw_aload_n (pc := 0) (i := 0) (x := ad 13) F dM_status_0 rfl rfl ?_
  refine aw_iload_n (pc := 1) (i := 1) (x := sg) F dM_status_1 rfl rfl ?_
  refine aw_if_lt (pc := 2) F 11 dM_status_2 (by decide) (fun c_2 => ?_) (fun c_2 => ?_)
  · skip
    refine aw_iconst (pc := 11) (v := 1) F dM_status_11 (by decide) ?_
    refine aw_goto (pc := 12) F 16 dM_status_12 (by decide) ?_
    refine aw_iconst (pc := 16) (v := 0) F dM_status_16 (by decide) ?_
    refine aw_goV (pc := 17) (As := [.int (1 : Int32), .int (0 : Int32)]) (rest := []) F zC_ok Zs 13 hM_at13 rfl (tM_fails  T M Y V (1 : Int32) (0 : Int32)) (cwV 2 F.1.2.2.2.2 (gi_V wd_754 wd_756 wd_47 wd_67 wd_757) rfl rfl rfl (by decide +kernel) ⟨Nat.le_of_ble_eq_true rfl, Nat.le_of_ble_eq_true rfl⟩) rfl (Nat.le_of_ble_eq_true rfl) ⟨Nat.zero_le _, Nat.zero_le _⟩ rfl dM_status_17 ?_
    show aW _ _ _ _ _ _ _ _ _ _ _ _ _ _ _ _ _ _ _ _ _ [.int ((fm_fails T (1 : Int32) (0 : Int32)).1)]
    refine aw_if_eq (pc := 20) F 25 dM_status_20 (by decide) (fun c_20 => ?_) (fun c_20 => ?_)
    · skip
      refine aw_aload_n (pc := 25) (i := 0) (x := ad 13) F dM_status_25 rfl rfl ?_
      refine aw_get (pc := 26) (v := .ref (ad 26)) F 13 hM_at13 rfl 22 (by decide) (fun w h => mw (iw_M w h)) (mw wd_671) rfl dM_status_26 ?_
      refine aw_iload_n (pc := 29) (i := 1) (x := sg) F dM_status_29 rfl rfl ?_
      refine aw_iald (pc := 30) F 26 0 hM_at26 rfl (absurd (fails_0 c_20).1 (by decide)) dM_status_30 ?_
      exact aw_iret (pc := 31) F hr hlk dM_status_31 (by rw [fm_status, if_pos c_2, if_pos c_20]) (by rw [fm_status, if_pos c_2, if_pos c_20])
    · skip
      refine aw_iconst (pc := 23) (v := 0) F dM_status_23 (by decide) ?_
      exact aw_iret (pc := 24) F hr hlk dM_status_24 (by rw [fm_status, if_pos c_2, if_neg c_20]) (by rw [fm_status, if_pos c_2, if_neg c_20])
  · skip
    refine aw_iload_n (pc := 5) (i := 1) (x := sg) F dM_status_5 rfl rfl ?_
    refine aw_bipush (pc := 6) (v := 15) F dM_status_6 (by decide) ?_
    refine aw_icmp_le (pc := 8) F 15 dM_status_8 (by decide) (fun c_8 => ?_) (fun c_8 => ?_)
    · skip
      refine aw_iconst (pc := 15) (v := 0) F dM_status_15 (by decide) ?_
      refine aw_iconst (pc := 16) (v := 0) F dM_status_16 (by decide) ?_
      refine aw_goV (pc := 17) (As := [.int (0 : Int32), .int (0 : Int32)]) (rest := []) F zC_ok Zs 13 hM_at13 rfl (tM_fails  T M Y V (0 : Int32) (0 : Int32)) (cwV 2 F.1.2.2.2.2 (gi_V wd_754 wd_756 wd_47 wd_67 wd_757) rfl rfl rfl (by decide +kernel) ⟨Nat.le_of_ble_eq_true rfl, Nat.le_of_ble_eq_true rfl⟩) rfl (Nat.le_of_ble_eq_true rfl) ⟨Nat.zero_le _, Nat.zero_le _⟩ rfl dM_status_17 ?_
      show aW _ _ _ _ _ _ _ _ _ _ _ _ _ _ _ _ _ _ _ _ _ [.int ((fm_fails T (0 : Int32) (0 : Int32)).1)]
      refine aw_if_eq (pc := 20) F 25 dM_status_20 (by decide) (fun c_20 => ?_) (fun c_20 => ?_)
      · skip
        refine aw_aload_n (pc := 25) (i := 0) (x := ad 13) F dM_status_25 rfl rfl ?_
        refine aw_get (pc := 26) (v := .ref (ad 26)) F 13 hM_at13 rfl 22 (by decide) (fun w h => mw (iw_M w h)) (mw wd_671) rfl dM_status_26 ?_
        refine aw_iload_n (pc := 29) (i := 1) (x := sg) F dM_status_29 rfl rfl ?_
        refine aw_iald (pc := 30) F 26 0 hM_at26 rfl (sg_in c_2 c_8) dM_status_30 ?_
        exact aw_iret (pc := 31) F hr hlk dM_status_31 (by rw [fm_status, if_neg c_2, if_pos c_8, if_pos c_20]) (by rw [fm_status, if_neg c_2, if_pos c_8, if_pos c_20])
      · skip
        refine aw_iconst (pc := 23) (v := 0) F dM_status_23 (by decide) ?_
        exact aw_iret (pc := 24) F hr hlk dM_status_24 (by rw [fm_status, if_neg c_2, if_pos c_8, if_neg c_20]) (by rw [fm_status, if_neg c_2, if_pos c_8, if_neg c_20])
    · skip
      refine aw_iconst (pc := 11) (v := 1) F dM_status_11 (by decide) ?_
      refine aw_goto (pc := 12) F 16 dM_status_12 (by decide) ?_
      refine aw_iconst (pc := 16) (v := 0) F dM_status_16 (by decide) ?_
      refine aw_goV (pc := 17) (As := [.int (1 : Int32), .int (0 : Int32)]) (rest := []) F zC_ok Zs 13 hM_at13 rfl (tM_fails  T M Y V (1 : Int32) (0 : Int32)) (cwV 2 F.1.2.2.2.2 (gi_V wd_754 wd_756 wd_47 wd_67 wd_757) rfl rfl rfl (by decide +kernel) ⟨Nat.le_of_ble_eq_true rfl, Nat.le_of_ble_eq_true rfl⟩) rfl (Nat.le_of_ble_eq_true rfl) ⟨Nat.zero_le _, Nat.zero_le _⟩ rfl dM_status_17 ?_
      show aW _ _ _ _ _ _ _ _ _ _ _ _ _ _ _ _ _ _ _ _ _ [.int ((fm_fails T (1 : Int32) (0 : Int32)).1)]
      refine aw_if_eq (pc := 20) F 25 dM_status_20 (by decide) (fun c_20 => ?_) (fun c_20 => ?_)
      · skip
        refine aw_aload_n (pc := 25) (i := 0) (x := ad 13) F dM_status_25 rfl rfl ?_
        refine aw_get (pc := 26) (v := .ref (ad 26)) F 13 hM_at13 rfl 22 (by decide) (fun w h => mw (iw_M w h)) (mw wd_671) rfl dM_status_26 ?_
        refine aw_iload_n (pc := 29) (i := 1) (x := sg) F dM_status_29 rfl rfl ?_
        refine aw_iald (pc := 30) F 26 0 hM_at26 rfl (absurd (fails_0 c_20).1 (by decide)) dM_status_30 ?_
        exact aw_iret (pc := 31) F hr hlk dM_status_31 (by rw [fm_status, if_neg c_2, if_neg c_8, if_pos c_20]) (by rw [fm_status, if_neg c_2, if_neg c_8, if_pos c_20])
      · skip
        refine aw_iconst (pc := 23) (v := 0) F dM_status_23 (by decide) ?_
        exact aw_iret (pc := 24) F hr hlk dM_status_24 (by rw [fm_status, if_neg c_2, if_neg c_8, if_neg c_20]) (by rw [fm_status, if_neg c_2, if_neg c_8, if_neg c_20])
def fm_selected  (T : Int32) (M : mT) (Y : yT) (kk : Int32) : Int32 × Int32 :=
  if kk < 0 then
    if ((fm_fails T (1 : Int32) (0 : Int32)).1) = 0 then
      if ((Y.2 0) kk.toNatClampNeg) = 0 then
        ((0 : Int32), ((fm_fails T (1 : Int32) (0 : Int32)).2))
      else
        ((1 : Int32), ((fm_fails T (1 : Int32) (0 : Int32)).2))
    else
      ((0 : Int32), ((fm_fails T (1 : Int32) (0 : Int32)).2))
  else
    if kk < (M.1 1) then
      if ((fm_fails T (0 : Int32) (0 : Int32)).1) = 0 then
        if ((Y.2 0) kk.toNatClampNeg) = 0 then
          ((0 : Int32), ((fm_fails T (0 : Int32) (0 : Int32)).2))
        else
          ((1 : Int32), ((fm_fails T (0 : Int32) (0 : Int32)).2))
      else
        ((0 : Int32), ((fm_fails T (0 : Int32) (0 : Int32)).2))
    else
      if ((fm_fails T (1 : Int32) (0 : Int32)).1) = 0 then
        if ((Y.2 0) kk.toNatClampNeg) = 0 then
          ((0 : Int32), ((fm_fails T (1 : Int32) (0 : Int32)).2))
        else
          ((1 : Int32), ((fm_fails T (1 : Int32) (0 : Int32)).2))
      else
        ((0 : Int32), ((fm_fails T (1 : Int32) (0 : Int32)).2))
set_option maxRecDepth 100000 in
set_option maxHeartbeats 4000000 in
theorem tM_selected {l : Launch} {D : va_G} {A : Nat → Prop} {ad : Nat → Nat} {tP : Nat} {cI cZ : ClassId} {S : kT} {P : pT} {X : xT} {tl : List va_E} {tyr : List (ClassId × FieldType)} (T : Int32) (M : mT) (Y : yT) (V : vT) (kk : Int32) (hp : (M.1 1).toInt ≤ 32) : aw_M l yM_selected (Cond.code yM_selected cM_selected 2 (some .boolean) :: aw_big) 1 D vwCl ((cI, .int) :: (cZ, .boolean) :: tyr) A ad (zC A tP) [.ref (ad 13), .int kk] (hC ad cI S P X ++ (hM ad cI cZ T M Y V ++ tl)) (some (.int ((fm_selected T M Y kk).1))) (hC ad cI S P X ++ (hM ad cI cZ ((fm_selected T M Y kk).2) M Y V ++ tl)) := by
  refine aw_met cM_selected 2 (some .boolean) [some (.ref (ad 13)), some (.int kk)] (by decide) rfl (Nat.le_of_ble_eq_true rfl) rfl ?_
  intro p e s m args below meth c F Zs hr hlk
  refine aw_aload_n (pc := 0) (i := 0) (x := ad 13) F dM_selected_0 rfl rfl ?_
  refine aw_iload_n (pc := 1) (i := 1) (x := kk) F dM_selected_1 rfl rfl ?_
  refine aw_if_lt (pc := 2) F 13 dM_selected_2 (by decide) (fun c_2 => ?_) (fun c_2 => ?_)
  · skip
    refine aw_iconst (pc := 13) (v := 1) F dM_selected_13 (by decide) ?_
    refine aw_goto (pc := 14) F 18 dM_selected_14 (by decide) ?_
    refine aw_iconst (pc := 18) (v := 0) F dM_selected_18 (by decide) ?_
    refine aw_goV (pc := 19) (As := [.int (1 : Int32), .int (0 : Int32)]) (rest := []) F zC_ok Zs 13 hM_at13 rfl (tM_fails  T M Y V (1 : Int32) (0 : Int32)) (cwV 2 F.1.2.2.2.2 (gi_V wd_754 wd_756 wd_47 wd_67 wd_757) rfl rfl rfl (by decide +kernel) ⟨Nat.le_of_ble_eq_true rfl, Nat.le_of_ble_eq_true rfl⟩) rfl (Nat.le_of_ble_eq_true rfl) ⟨Nat.zero_le _, Nat.zero_le _⟩ rfl dM_selected_19 ?_
    show aW _ _ _ _ _ _ _ _ _ _ _ _ _ _ _ _ _ _ _ _ _ [.int ((fm_fails T (1 : Int32) (0 : Int32)).1)]
    refine aw_if_ne (pc := 22) F 38 dM_selected_22 (by decide) (fun c_22 => ?_) (fun c_22 => ?_)
    · skip
      refine aw_iconst (pc := 38) (v := 0) F dM_selected_38 (by decide) ?_
      exact aw_zret (pc := 39) F hr hlk dM_selected_39 rfl (by rw [fm_selected, if_pos c_2, if_neg c_22]) (by rw [fm_selected, if_pos c_2, if_neg c_22])
    · skip
      refine aw_aload_n (pc := 25) (i := 0) (x := ad 13) F dM_selected_25 rfl rfl ?_
      refine aw_get (pc := 26) (v := .ref (ad 25)) F 13 hM_at13 rfl 20 (by decide) (fun w h => mw (iw_M w h)) (mw wd_669) rfl dM_selected_26 ?_
      refine aw_iload_n (pc := 29) (i := 1) (x := kk) F dM_selected_29 rfl rfl ?_
      refine aw_zald (pc := 30) F 25 1 hM_at25 rfl (absurd (fails_0 c_22).1 (by decide)) dM_selected_30 ?_
      refine aw_if_eq (pc := 31) F 38 dM_selected_31 (by decide) (fun c_31 => ?_) (fun c_31 => ?_)
      · skip
        refine aw_iconst (pc := 38) (v := 0) F dM_selected_38 (by decide) ?_
        exact aw_zret (pc := 39) F hr hlk dM_selected_39 rfl (by rw [fm_selected, if_pos c_2, if_pos c_22, if_pos c_31]) (by rw [fm_selected, if_pos c_2, if_pos c_22, if_pos c_31])
      · skip
        refine aw_iconst (pc := 34) (v := 1) F dM_selected_34 (by decide) ?_
        refine aw_goto (pc := 35) F 39 dM_selected_35 (by decide) ?_
        exact aw_zret (pc := 39) F hr hlk dM_selected_39 rfl (by rw [fm_selected, if_pos c_2, if_pos c_22, if_neg c_31]) (by rw [fm_selected, if_pos c_2, if_pos c_22, if_neg c_31])
  · skip
    refine aw_iload_n (pc := 5) (i := 1) (x := kk) F dM_selected_5 rfl rfl ?_
    refine aw_aload_n (pc := 6) (i := 0) (x := ad 13) F dM_selected_6 rfl rfl ?_
    refine aw_get (pc := 7) (v := .int (M.1 1)) F 13 hM_at13 rfl 2 (by decide) (fun w h => mw (iw_M w h)) (mw wd_651) rfl dM_selected_7 ?_
    refine aw_icmp_lt (pc := 10) F 17 dM_selected_10 (by decide) (fun c_10 => ?_) (fun c_10 => ?_)
    · skip
      refine aw_iconst (pc := 17) (v := 0) F dM_selected_17 (by decide) ?_
      refine aw_iconst (pc := 18) (v := 0) F dM_selected_18 (by decide) ?_
      refine aw_goV (pc := 19) (As := [.int (0 : Int32), .int (0 : Int32)]) (rest := []) F zC_ok Zs 13 hM_at13 rfl (tM_fails  T M Y V (0 : Int32) (0 : Int32)) (cwV 2 F.1.2.2.2.2 (gi_V wd_754 wd_756 wd_47 wd_67 wd_757) rfl rfl rfl (by decide +kernel) ⟨Nat.le_of_ble_eq_true rfl, Nat.le_of_ble_eq_true rfl⟩) rfl (Nat.le_of_ble_eq_true rfl) ⟨Nat.zero_le _, Nat.zero_le _⟩ rfl dM_selected_19 ?_
      show aW _ _ _ _ _ _ _ _ _ _ _ _ _ _ _ _ _ _ _ _ _ [.int ((fm_fails T (0 : Int32) (0 : Int32)).1)]
      refine aw_if_ne (pc := 22) F 38 dM_selected_22 (by decide) (fun c_22 => ?_) (fun c_22 => ?_)
      · skip
        refine aw_iconst (pc := 38) (v := 0) F dM_selected_38 (by decide) ?_
        exact aw_zret (pc := 39) F hr hlk dM_selected_39 rfl (by rw [fm_selected, if_neg c_2, if_pos c_10, if_neg c_22]) (by rw [fm_selected, if_neg c_2, if_pos c_10, if_neg c_22])
      · skip
        refine aw_aload_n (pc := 25) (i := 0) (x := ad 13) F dM_selected_25 rfl rfl ?_
        refine aw_get (pc := 26) (v := .ref (ad 25)) F 13 hM_at13 rfl 20 (by decide) (fun w h => mw (iw_M w h)) (mw wd_669) rfl dM_selected_26 ?_
        refine aw_iload_n (pc := 29) (i := 1) (x := kk) F dM_selected_29 rfl rfl ?_
        refine aw_zald (pc := 30) F 25 1 hM_at25 rfl (pa_in hp c_2 c_10) dM_selected_30 ?_
        refine aw_if_eq (pc := 31) F 38 dM_selected_31 (by decide) (fun c_31 => ?_) (fun c_31 => ?_)
        · skip
          refine aw_iconst (pc := 38) (v := 0) F dM_selected_38 (by decide) ?_
          exact aw_zret (pc := 39) F hr hlk dM_selected_39 rfl (by rw [fm_selected, if_neg c_2, if_pos c_10, if_pos c_22, if_pos c_31]) (by rw [fm_selected, if_neg c_2, if_pos c_10, if_pos c_22, if_pos c_31])
        · skip
          refine aw_iconst (pc := 34) (v := 1) F dM_selected_34 (by decide) ?_
          refine aw_goto (pc := 35) F 39 dM_selected_35 (by decide) ?_
          exact aw_zret (pc := 39) F hr hlk dM_selected_39 rfl (by rw [fm_selected, if_neg c_2, if_pos c_10, if_pos c_22, if_neg c_31]) (by rw [fm_selected, if_neg c_2, if_pos c_10, if_pos c_22, if_neg c_31])
    · skip
      refine aw_iconst (pc := 13) (v := 1) F dM_selected_13 (by decide) ?_
      refine aw_goto (pc := 14) F 18 dM_selected_14 (by decide) ?_
      refine aw_iconst (pc := 18) (v := 0) F dM_selected_18 (by decide) ?_
      refine aw_goV (pc := 19) (As := [.int (1 : Int32), .int (0 : Int32)]) (rest := []) F zC_ok Zs 13 hM_at13 rfl (tM_fails  T M Y V (1 : Int32) (0 : Int32)) (cwV 2 F.1.2.2.2.2 (gi_V wd_754 wd_756 wd_47 wd_67 wd_757) rfl rfl rfl (by decide +kernel) ⟨Nat.le_of_ble_eq_true rfl, Nat.le_of_ble_eq_true rfl⟩) rfl (Nat.le_of_ble_eq_true rfl) ⟨Nat.zero_le _, Nat.zero_le _⟩ rfl dM_selected_19 ?_
      show aW _ _ _ _ _ _ _ _ _ _ _ _ _ _ _ _ _ _ _ _ _ [.int ((fm_fails T (1 : Int32) (0 : Int32)).1)]
      refine aw_if_ne (pc := 22) F 38 dM_selected_22 (by decide) (fun c_22 => ?_) (fun c_22 => ?_)
      · skip
        refine aw_iconst (pc := 38) (v := 0) F dM_selected_38 (by decide) ?_
        exact aw_zret (pc := 39) F hr hlk dM_selected_39 rfl (by rw [fm_selected, if_neg c_2, if_neg c_10, if_neg c_22]) (by rw [fm_selected, if_neg c_2, if_neg c_10, if_neg c_22])
      · skip
        refine aw_aload_n (pc := 25) (i := 0) (x := ad 13) F dM_selected_25 rfl rfl ?_
        refine aw_get (pc := 26) (v := .ref (ad 25)) F 13 hM_at13 rfl 20 (by decide) (fun w h => mw (iw_M w h)) (mw wd_669) rfl dM_selected_26 ?_
        refine aw_iload_n (pc := 29) (i := 1) (x := kk) F dM_selected_29 rfl rfl ?_
        refine aw_zald (pc := 30) F 25 1 hM_at25 rfl (absurd (fails_0 c_22).1 (by decide)) dM_selected_30 ?_
        refine aw_if_eq (pc := 31) F 38 dM_selected_31 (by decide) (fun c_31 => ?_) (fun c_31 => ?_)
        · skip
          refine aw_iconst (pc := 38) (v := 0) F dM_selected_38 (by decide) ?_
          exact aw_zret (pc := 39) F hr hlk dM_selected_39 rfl (by rw [fm_selected, if_neg c_2, if_neg c_10, if_pos c_22, if_pos c_31]) (by rw [fm_selected, if_neg c_2, if_neg c_10, if_pos c_22, if_pos c_31])
        · skip
          refine aw_iconst (pc := 34) (v := 1) F dM_selected_34 (by decide) ?_
          refine aw_goto (pc := 35) F 39 dM_selected_35 (by decide) ?_
          exact aw_zret (pc := 39) F hr hlk dM_selected_39 rfl (by rw [fm_selected, if_neg c_2, if_neg c_10, if_pos c_22, if_neg c_31]) (by rw [fm_selected, if_neg c_2, if_neg c_10, if_pos c_22, if_neg c_31])
def fm_reaF (T : Int32) (Y : yT) : Int32 × Int32 :=
  if (Y.1 0) = (1 : Int32) then
    (((fm_fails T (0 : Int32) (0 : Int32)).1), ((fm_fails T (0 : Int32) (0 : Int32)).2))
  else
    (((fm_fails T (1 : Int32) (0 : Int32)).1), ((fm_fails T (1 : Int32) (0 : Int32)).2))
set_option maxRecDepth 100000 in
set_option maxHeartbeats 4000000 in
theorem tM_reacts_X0 {l : Launch} {D : va_G} {A : Nat → Prop} {ad : Nat → Nat} {tP : Nat} {cI cZ : ClassId} {S : kT} {P : pT} {X : xT} {tl : List va_E} {tyr : List (ClassId × FieldType)} {p : Program} {e : Env} {s : State} {m : MethodId} {args : Array Value} {below : List Frame} {meth : Method} {c : Code} {Q : State → Prop} (F : aw_F p s m c args cM_reacts 3 (Cond.code yM_reacts cM_reacts 3 (some .int) :: aw_big) yM_reacts.cls D vwCl ((cI, .int) :: (cZ, .boolean) :: tyr)) (Zs : zC A tP s) :
    ∀ (T : Int32) (M : mT) (Y : yT) (V : vT)   , aW p l e (aw_rm 402) s m args below meth c 0 0 Q D vwCl A ad 3 (hC ad cI S P X ++ (hM ad cI cZ ((fm_reaF T Y).2) M Y V ++ tl)) [some (.ref (ad 13)), none, none] 18 [.int ((fm_reaF T Y).1)] → aW p l e (aw_rm 402) s m args below meth c 0 0 Q D vwCl A ad 3 (hC ad cI S P X ++ (hM ad cI cZ T M Y V ++ tl)) [some (.ref (ad 13)), none, none] 0 [] := by
  intro T M Y V kq
  refine aw_aload_n (pc := 0) (i := 0) (x := ad 13) F dM_reacts_0 rfl rfl ?_
  refine aw_aload_n (pc := 1) (i := 0) (x := ad 13) F dM_reacts_1 rfl rfl ?_
  refine aw_get (pc := 2) (v := .int (Y.1 0)) F 13 hM_at13 rfl 17 (by decide) (fun w h => mw (iw_M w h)) (mw wd_666) rfl dM_reacts_2 ?_
  refine aw_iconst (pc := 5) (v := 1) F dM_reacts_5 (by decide) ?_
  refine aw_icmp_eq (pc := 6) F 13 dM_reacts_6 (by decide) (fun c_6 => ?_) (fun c_6 => ?_)
  · skip
    refine aw_iconst (pc := 13) (v := 0) F dM_reacts_13 (by decide) ?_
    refine aw_iconst (pc := 14) (v := 0) F dM_reacts_14 (by decide) ?_
    refine aw_goV (pc := 15) (As := [.int (0 : Int32), .int (0 : Int32)]) (rest := []) F zC_ok Zs 13 hM_at13 rfl (tM_fails  T M Y V (0 : Int32) (0 : Int32)) (cwV 2 F.1.2.2.2.2 (gi_V wd_754 wd_756 wd_47 wd_67 wd_757) rfl rfl rfl (by decide +kernel) ⟨Nat.le_of_ble_eq_true rfl, Nat.le_of_ble_eq_true rfl⟩) rfl (Nat.le_of_ble_eq_true rfl) ⟨Nat.zero_le _, Nat.zero_le _⟩ rfl dM_reacts_15 ?_
    show aW _ _ _ _ _ _ _ _ _ _ _ _ _ _ _ _ _ _ _ _ _ [.int ((fm_fails T (0 : Int32) (0 : Int32)).1)]
    rw [show (fm_reaF T Y) = (((fm_fails T (0 : Int32) (0 : Int32)).1), ((fm_fails T (0 : Int32) (0 : Int32)).2)) from by rw [fm_reaF, if_pos c_6]] at kq
    exact kq
  · skip
    refine aw_iconst (pc := 9) (v := 1) F dM_reacts_9 (by decide) ?_
    refine aw_goto (pc := 10) F 14 dM_reacts_10 (by decide) ?_
    refine aw_iconst (pc := 14) (v := 0) F dM_reacts_14 (by decide) ?_
    refine aw_goV (pc := 15) (As := [.int (1 : Int32), .int (0 : Int32)]) (rest := []) F zC_ok Zs 13 hM_at13 rfl (tM_fails  T M Y V (1 : Int32) (0 : Int32)) (cwV 2 F.1.2.2.2.2 (gi_V wd_754 wd_756 wd_47 wd_67 wd_757) rfl rfl rfl (by decide +kernel) ⟨Nat.le_of_ble_eq_true rfl, Nat.le_of_ble_eq_true rfl⟩) rfl (Nat.le_of_ble_eq_true rfl) ⟨Nat.zero_le _, Nat.zero_le _⟩ rfl dM_reacts_15 ?_
    show aW _ _ _ _ _ _ _ _ _ _ _ _ _ _ _ _ _ _ _ _ _ [.int ((fm_fails T (1 : Int32) (0 : Int32)).1)]
    rw [show (fm_reaF T Y) = (((fm_fails T (1 : Int32) (0 : Int32)).1), ((fm_fails T (1 : Int32) (0 : Int32)).2)) from by rw [fm_reaF, if_neg c_6]] at kq
    exact kq
def fm_reaN : Nat → mT → yT → vT → Int32 → Int32 → Int32 × Int32 × yT × vT
  | 0, M, Y, V, fo, k => (fo, k, Y, V)
  | n + 1, M, Y, V, fo, k =>
      if (16 : Int32) ≤ k then
      (fo, k, Y, V)
    else
      if ((fm_react M Y V k).1) = (-1 : Int32) then
        (fm_reaN n M ((fm_react M Y V k).2.1) ((fm_react M Y V k).2.2) (fo + (0 : Int32)) (k + (1 : Int32)))
      else
        (fm_reaN n M ((fm_react M Y V k).2.1) ((fm_react M Y V k).2.2) (fo + (1 : Int32)) (k + (1 : Int32)))
set_option maxRecDepth 100000 in
set_option maxHeartbeats 4000000 in
theorem tM_reacts_X27 {l : Launch} {D : va_G} {A : Nat → Prop} {ad : Nat → Nat} {tP : Nat} {cI cZ : ClassId} {S : kT} {P : pT} {X : xT} {tl : List va_E} {tyr : List (ClassId × FieldType)} {p : Program} {e : Env} {s : State} {m : MethodId} {args : Array Value} {below : List Frame} {meth : Method} {c : Code} {Q : State → Prop} (F : aw_F p s m c args cM_reacts 3 (Cond.code yM_reacts cM_reacts 3 (some .int) :: aw_big) yM_reacts.cls D vwCl ((cI, .int) :: (cZ, .boolean) :: tyr)) (Zs : zC A tP s) :
    ∀ (n : Nat) (T : Int32) (M : mT) (Y : yT) (V : vT)  (fo : Int32) (k : Int32) (hw : mW M) (h0 : 0 < (M.1 0).toInt) (h1 : 0 ≤ k.toInt) (h2 : k.toInt ≤ 16) (hm : 16 < k.toInt + n), aW p l e (aw_rm 402) s m args below meth c 0 0 Q D vwCl A ad 3 (hC ad cI S P X ++ (hM ad cI cZ T M ((fm_reaN n M Y V fo k).2.2.1) ((fm_reaN n M Y V fo k).2.2.2) ++ tl)) [some (.ref (ad 13)), some (.int ((fm_reaN n M Y V fo k).1)), some (.int ((fm_reaN n M Y V fo k).2.1))] 56 [] → aW p l e (aw_rm 402) s m args below meth c 0 0 Q D vwCl A ad 3 (hC ad cI S P X ++ (hM ad cI cZ T M Y V ++ tl)) [some (.ref (ad 13)), some (.int fo), some (.int k)] 27 [] := by
  intro n
  induction n with
  | zero =>
    intro T M Y V fo k hw h0 h1 h2 hm kq
    exfalso; omega
  | succ n ih =>
    intro T M Y V fo k hw h0 h1 h2 hm kq
    refine aw_iload_n (pc := 27) (i := 2) (x := k) F dM_reacts_27 rfl rfl ?_
    refine aw_bipush (pc := 28) (v := 16) F dM_reacts_28 (by decide) ?_
    refine aw_icmp_ge (pc := 30) F 56 dM_reacts_30 (by decide) (fun c_30 => ?_) (fun c_30 => ?_)
    · skip
      rw [show (fm_reaN (n + 1) M Y V fo k) = (fo, k, Y, V) from by rw [fm_reaN, if_pos c_30]] at kq
      exact kq
    · skip
      refine aw_iload_n (pc := 33) (i := 1) (x := fo) F dM_reacts_33 rfl rfl ?_
      refine aw_aload_n (pc := 34) (i := 0) (x := ad 13) F dM_reacts_34 rfl rfl ?_
      refine aw_iload_n (pc := 35) (i := 2) (x := k) F dM_reacts_35 rfl rfl ?_
      refine aw_goV (pc := 36) (As := [.int k]) (rest := [.int fo]) F zC_ok Zs 13 hM_at13 rfl (tM_react  T M Y V k hw h0) (cwV 1 F.1.2.2.2.2 (gi_V wd_787 wd_789 wd_50 wd_67 wd_790) rfl rfl rfl (by decide +kernel) ⟨Nat.le_of_ble_eq_true rfl, Nat.le_of_ble_eq_true rfl⟩) rfl (Nat.le_of_ble_eq_true rfl) ⟨Nat.zero_le _, Nat.zero_le _⟩ rfl dM_reacts_36 ?_
      show aW _ _ _ _ _ _ _ _ _ _ _ _ _ _ _ _ _ _ _ _ _ [.int ((fm_react M Y V k).1), .int fo]
      refine aw_iconst (pc := 39) (v := -1) F dM_reacts_39 (by decide) ?_
      refine aw_icmp_ne (pc := 40) F 47 dM_reacts_40 (by decide) (fun c_40 => ?_) (fun c_40 => ?_)
      · skip
        refine aw_iconst (pc := 47) (v := 1) F dM_reacts_47 (by decide) ?_
        refine aw_iadd (pc := 48) F dM_reacts_48 ?_
        refine aw_istore_n (pc := 49) (i := 1) (L' := [some (.ref (ad 13)), some (.int (fo + (1 : Int32))), some (.int k)]) F dM_reacts_49 rfl (by decide) rfl ?_
        refine aw_iinc (pc := 50) (x := k) (v := k + (1 : Int32)) (L' := [some (.ref (ad 13)), some (.int (fo + (1 : Int32))), some (.int (k + (1 : Int32)))]) F dM_reacts_50 rfl rfl (by decide) rfl ?_
        refine aw_goto (pc := 53) F 27 dM_reacts_53 (by decide) ?_
        rw [show (fm_reaN (n + 1) M Y V fo k) = (fm_reaN n M ((fm_react M Y V k).2.1) ((fm_react M Y V k).2.2) (fo + (1 : Int32)) (k + (1 : Int32))) from by rw [fm_reaN, if_neg c_30, if_neg c_40]] at kq
        exact ih T M ((fm_react M Y V k).2.1) ((fm_react M Y V k).2.2)  (fo + (1 : Int32)) (k + (1 : Int32)) hw h0 (by have a := i_up (i_lt c_30); omega) (by have a := i_up (i_lt c_30); have b := i_lt c_30; have e : (16 : Int32).toInt = 16 := rfl; omega) (by have a := i_up (i_lt c_30); omega) kq
      · skip
        refine aw_iconst (pc := 43) (v := 0) F dM_reacts_43 (by decide) ?_
        refine aw_goto (pc := 44) F 48 dM_reacts_44 (by decide) ?_
        refine aw_iadd (pc := 48) F dM_reacts_48 ?_
        refine aw_istore_n (pc := 49) (i := 1) (L' := [some (.ref (ad 13)), some (.int (fo + (0 : Int32))), some (.int k)]) F dM_reacts_49 rfl (by decide) rfl ?_
        refine aw_iinc (pc := 50) (x := k) (v := k + (1 : Int32)) (L' := [some (.ref (ad 13)), some (.int (fo + (0 : Int32))), some (.int (k + (1 : Int32)))]) F dM_reacts_50 rfl rfl (by decide) rfl ?_
        refine aw_goto (pc := 53) F 27 dM_reacts_53 (by decide) ?_
        rw [show (fm_reaN (n + 1) M Y V fo k) = (fm_reaN n M ((fm_react M Y V k).2.1) ((fm_react M Y V k).2.2) (fo + (0 : Int32)) (k + (1 : Int32))) from by rw [fm_reaN, if_neg c_30, if_pos c_40]] at kq
        exact ih T M ((fm_react M Y V k).2.1) ((fm_react M Y V k).2.2)  (fo + (0 : Int32)) (k + (1 : Int32)) hw h0 (by have a := i_up (i_lt c_30); omega) (by have a := i_up (i_lt c_30); have b := i_lt c_30; have e : (16 : Int32).toInt = 16 := rfl; omega) (by have a := i_up (i_lt c_30); omega) kq
def fm_reacts  (T : Int32) (M : mT) (Y : yT) (V : vT)  : Int32 × Int32 × yT × vT :=
  if ((fm_reaF T Y).1) = 0 then
    (((fm_reaN 17 M Y V (0 : Int32) (0 : Int32)).1), ((fm_reaF T Y).2), ((fm_reaN 17 M Y V (0 : Int32) (0 : Int32)).2.2.1), ((fm_reaN 17 M Y V (0 : Int32) (0 : Int32)).2.2.2))
  else
    ((0 : Int32), ((fm_reaF T Y).2), Y, V)
set_option maxRecDepth 100000 in
set_option maxHeartbeats 4000000 in
theorem tM_reacts {l : Launch} {D : va_G} {A : Nat → Prop} {ad : Nat → Nat} {tP : Nat} {cI cZ : ClassId} {S : kT} {P : pT} {X : xT} {tl : List va_E} {tyr : List (ClassId × FieldType)} (T : Int32) (M : mT) (Y : yT) (V : vT)  (hg : (fm_reaF T Y).1 = 0 → mW M ∧ 0 < (M.1 0).toInt) : aw_M l yM_reacts (Cond.code yM_reacts cM_reacts 3 (some .int) :: aw_big) 402 D vwCl ((cI, .int) :: (cZ, .boolean) :: tyr) A ad (zC A tP) [.ref (ad 13)] (hC ad cI S P X ++ (hM ad cI cZ T M Y V ++ tl)) (some (.int ((fm_reacts T M Y V).1))) (hC ad cI S P X ++ (hM ad cI cZ ((fm_reacts T M Y V).2.1) M ((fm_reacts T M Y V).2.2.1) ((fm_reacts T M Y V).2.2.2) ++ tl)) := by
  refine aw_met cM_reacts 3 (some .int) [some (.ref (ad 13)), none, none] (by decide) rfl (Nat.le_of_ble_eq_true rfl) rfl ?_
  intro p e s m args below meth c F Zs hr hlk
  refine tM_reacts_X0  F Zs  T M Y V    ?_
  refine aw_if_eq (pc := 18) F 23 dM_reacts_18 (by decide) (fun c_18 => ?_) (fun c_18 => ?_)
  · skip
    refine aw_iconst (pc := 23) (v := 0) F dM_reacts_23 (by decide) ?_
    refine aw_istore_n (pc := 24) (i := 1) (L' := [some (.ref (ad 13)), some (.int (0 : Int32)), none]) F dM_reacts_24 rfl (by decide) rfl ?_
    refine aw_iconst (pc := 25) (v := 0) F dM_reacts_25 (by decide) ?_
    refine aw_istore_n (pc := 26) (i := 2) (L' := [some (.ref (ad 13)), some (.int (0 : Int32)), some (.int (0 : Int32))]) F dM_reacts_26 rfl (by decide) rfl ?_
    refine tM_reacts_X27  F Zs 17 ((fm_reaF T Y).2) M Y V  (0 : Int32) (0 : Int32) (hg c_18).1 (hg c_18).2 (by decide) (by decide) (by decide) ?_
    refine aw_iload_n (pc := 56) (i := 1) (x := ((fm_reaN 17 M Y V (0 : Int32) (0 : Int32)).1)) F dM_reacts_56 rfl rfl ?_
    exact aw_iret (pc := 57) F hr hlk dM_reacts_57 (by rw [fm_reacts, if_pos c_18]) (by rw [fm_reacts, if_pos c_18])
  · skip
    refine aw_iconst (pc := 21) (v := 0) F dM_reacts_21 (by decide) ?_
    exact aw_iret (pc := 22) F hr hlk dM_reacts_22 (by rw [fm_reacts, if_neg c_18]) (by rw [fm_reacts, if_neg c_18])
def fm_emiG (Y : yT) (sg : Int32) : Int32 :=
  if (Y.1 0) = (1 : Int32) then (1 : Int32) else (0 : Int32)
set_option maxRecDepth 100000 in
set_option maxHeartbeats 4000000 in
theorem tM_emits_X0 {l : Launch} {D : va_G} {A : Nat → Prop} {ad : Nat → Nat} {tP : Nat} {cI cZ : ClassId} {S : kT} {P : pT} {X : xT} {tl : List va_E} {tyr : List (ClassId × FieldType)} {p : Program} {e : Env} {s : State} {m : MethodId} {args : Array Value} {below : List Frame} {meth : Method} {c : Code} {Q : State → Prop} (F : aw_F p s m c args cM_emits 5 (Cond.code yM_emits cM_emits 5 (some .int) :: aw_big) yM_emits.cls D vwCl ((cI, .int) :: (cZ, .boolean) :: tyr)) (Zs : zC A tP s) :
    ∀ (T : Int32) (M : mT) (Y : yT) (V : vT) (sg : Int32)  , aW p l e (aw_rm 402) s m args below meth c 0 0 Q D vwCl A ad 5 (hC ad cI S P X ++ (hM ad cI cZ T M Y V ++ tl)) [some (.ref (ad 13)), some (.int sg), some (.int (fm_emiG Y sg)), none, none] 14 [] → aW p l e (aw_rm 402) s m args below meth c 0 0 Q D vwCl A ad 5 (hC ad cI S P X ++ (hM ad cI cZ T M Y V ++ tl)) [some (.ref (ad 13)), some (.int sg), none, none, none] 0 [] := by
  intro T M Y V sg kq
  refine aw_aload_n (pc := 0) (i := 0) (x := ad 13) F dM_emits_0 rfl rfl ?_
  refine aw_get (pc := 1) (v := .int (Y.1 0)) F 13 hM_at13 rfl 17 (by decide) (fun w h => mw (iw_M w h)) (mw wd_666) rfl dM_emits_1 ?_
  refine aw_iconst (pc := 4) (v := 1) F dM_emits_4 (by decide) ?_
  refine aw_icmp_ne (pc := 5) F 12 dM_emits_5 (by decide) (fun c_5 => ?_) (fun c_5 => ?_)
  · skip
    refine aw_iconst (pc := 12) (v := 0) F dM_emits_12 (by decide) ?_
    refine aw_istore_n (pc := 13) (i := 2) (L' := [some (.ref (ad 13)), some (.int sg), some (.int (0 : Int32)), none, none]) F dM_emits_13 rfl (by decide) rfl ?_
    rw [show (fm_emiG Y sg) = (0 : Int32) from by rw [fm_emiG, if_neg c_5]] at kq
    exact kq
  · skip
    refine aw_iconst (pc := 8) (v := 1) F dM_emits_8 (by decide) ?_
    refine aw_goto (pc := 9) F 13 dM_emits_9 (by decide) ?_
    refine aw_istore_n (pc := 13) (i := 2) (L' := [some (.ref (ad 13)), some (.int sg), some (.int (1 : Int32)), none, none]) F dM_emits_13 rfl (by decide) rfl ?_
    rw [show (fm_emiG Y sg) = (1 : Int32) from by rw [fm_emiG, if_pos c_5]] at kq
    exact kq
def fm_emiF (T : Int32) (sg : Int32) (go : Int32) : Int32 × Int32 :=
  if go = 0 then
    if go = 0 then
      (((fm_fails T (1 : Int32) (0 : Int32)).1), ((fm_fails T (1 : Int32) (0 : Int32)).2))
    else
      if sg < (4 : Int32) then
        (((fm_fails T (1 : Int32) (1 : Int32)).1), ((fm_fails T (1 : Int32) (1 : Int32)).2))
      else
        if sg ≤ (15 : Int32) then
          (((fm_fails T (1 : Int32) (0 : Int32)).1), ((fm_fails T (1 : Int32) (0 : Int32)).2))
        else
          (((fm_fails T (1 : Int32) (1 : Int32)).1), ((fm_fails T (1 : Int32) (1 : Int32)).2))
  else
    if go = 0 then
      (((fm_fails T (0 : Int32) (0 : Int32)).1), ((fm_fails T (0 : Int32) (0 : Int32)).2))
    else
      if sg < (4 : Int32) then
        (((fm_fails T (0 : Int32) (1 : Int32)).1), ((fm_fails T (0 : Int32) (1 : Int32)).2))
      else
        if sg ≤ (15 : Int32) then
          (((fm_fails T (0 : Int32) (0 : Int32)).1), ((fm_fails T (0 : Int32) (0 : Int32)).2))
        else
          (((fm_fails T (0 : Int32) (1 : Int32)).1), ((fm_fails T (0 : Int32) (1 : Int32)).2))
set_option maxRecDepth 100000 in
set_option maxHeartbeats 4000000 in
theorem tM_emits_X14 {l : Launch} {D : va_G} {A : Nat → Prop} {ad : Nat → Nat} {tP : Nat} {cI cZ : ClassId} {S : kT} {P : pT} {X : xT} {tl : List va_E} {tyr : List (ClassId × FieldType)} {p : Program} {e : Env} {s : State} {m : MethodId} {args : Array Value} {below : List Frame} {meth : Method} {c : Code} {Q : State → Prop} (F : aw_F p s m c args cM_emits 5 (Cond.code yM_emits cM_emits 5 (some .int) :: aw_big) yM_emits.cls D vwCl ((cI, .int) :: (cZ, .boolean) :: tyr)) (Zs : zC A tP s) :
    ∀ (T : Int32) (M : mT) (Y : yT) (V : vT) (sg : Int32) (go : Int32)  , aW p l e (aw_rm 402) s m args below meth c 0 0 Q D vwCl A ad 5 (hC ad cI S P X ++ (hM ad cI cZ ((fm_emiF T sg go).2) M Y V ++ tl)) [some (.ref (ad 13)), some (.int sg), some (.int go), none, none] 47 [.int ((fm_emiF T sg go).1)] → aW p l e (aw_rm 402) s m args below meth c 0 0 Q D vwCl A ad 5 (hC ad cI S P X ++ (hM ad cI cZ T M Y V ++ tl)) [some (.ref (ad 13)), some (.int sg), some (.int go), none, none] 14 [] := by
  intro T M Y V sg go kq
  refine aw_aload_n (pc := 14) (i := 0) (x := ad 13) F dM_emits_14 rfl rfl ?_
  refine aw_iload_n (pc := 15) (i := 2) (x := go) F dM_emits_15 rfl rfl ?_
  refine aw_if_ne (pc := 16) F 23 dM_emits_16 (by decide) (fun c_16 => ?_) (fun c_16 => ?_)
  · skip
    refine aw_iconst (pc := 23) (v := 0) F dM_emits_23 (by decide) ?_
    refine aw_iload_n (pc := 24) (i := 2) (x := go) F dM_emits_24 rfl rfl ?_
    refine aw_if_eq (pc := 25) F 43 dM_emits_25 (by decide) (fun c_25 => ?_) (fun c_25 => ?_)
    · skip
      refine aw_iconst (pc := 43) (v := 0) F dM_emits_43 (by decide) ?_
      refine aw_goV (pc := 44) (As := [.int (0 : Int32), .int (0 : Int32)]) (rest := []) F zC_ok Zs 13 hM_at13 rfl (tM_fails  T M Y V (0 : Int32) (0 : Int32)) (cwV 2 F.1.2.2.2.2 (gi_V wd_754 wd_756 wd_47 wd_67 wd_757) rfl rfl rfl (by decide +kernel) ⟨Nat.le_of_ble_eq_true rfl, Nat.le_of_ble_eq_true rfl⟩) rfl (Nat.le_of_ble_eq_true rfl) ⟨Nat.zero_le _, Nat.zero_le _⟩ rfl dM_emits_44 ?_
      show aW _ _ _ _ _ _ _ _ _ _ _ _ _ _ _ _ _ _ _ _ _ [.int ((fm_fails T (0 : Int32) (0 : Int32)).1)]
      rw [show (fm_emiF T sg go) = (((fm_fails T (0 : Int32) (0 : Int32)).1), ((fm_fails T (0 : Int32) (0 : Int32)).2)) from by rw [fm_emiF, if_neg c_16, if_pos c_25]] at kq
      exact kq
    · skip
      refine aw_iload_n (pc := 28) (i := 1) (x := sg) F dM_emits_28 rfl rfl ?_
      refine aw_iconst (pc := 29) (v := 4) F dM_emits_29 (by decide) ?_
      refine aw_icmp_lt (pc := 30) F 39 dM_emits_30 (by decide) (fun c_30 => ?_) (fun c_30 => ?_)
      · skip
        refine aw_iconst (pc := 39) (v := 1) F dM_emits_39 (by decide) ?_
        refine aw_goto (pc := 40) F 44 dM_emits_40 (by decide) ?_
        refine aw_goV (pc := 44) (As := [.int (0 : Int32), .int (1 : Int32)]) (rest := []) F zC_ok Zs 13 hM_at13 rfl (tM_fails  T M Y V (0 : Int32) (1 : Int32)) (cwV 2 F.1.2.2.2.2 (gi_V wd_754 wd_756 wd_47 wd_67 wd_757) rfl rfl rfl (by decide +kernel) ⟨Nat.le_of_ble_eq_true rfl, Nat.le_of_ble_eq_true rfl⟩) rfl (Nat.le_of_ble_eq_true rfl) ⟨Nat.zero_le _, Nat.zero_le _⟩ rfl dM_emits_44 ?_
        show aW _ _ _ _ _ _ _ _ _ _ _ _ _ _ _ _ _ _ _ _ _ [.int ((fm_fails T (0 : Int32) (1 : Int32)).1)]
        rw [show (fm_emiF T sg go) = (((fm_fails T (0 : Int32) (1 : Int32)).1), ((fm_fails T (0 : Int32) (1 : Int32)).2)) from by rw [fm_emiF, if_neg c_16, if_neg c_25, if_pos c_30]] at kq
        exact kq
      · skip
        refine aw_iload_n (pc := 33) (i := 1) (x := sg) F dM_emits_33 rfl rfl ?_
        refine aw_bipush (pc := 34) (v := 15) F dM_emits_34 (by decide) ?_
        refine aw_icmp_le (pc := 36) F 43 dM_emits_36 (by decide) (fun c_36 => ?_) (fun c_36 => ?_)
        · skip
          refine aw_iconst (pc := 43) (v := 0) F dM_emits_43 (by decide) ?_
          refine aw_goV (pc := 44) (As := [.int (0 : Int32), .int (0 : Int32)]) (rest := []) F zC_ok Zs 13 hM_at13 rfl (tM_fails  T M Y V (0 : Int32) (0 : Int32)) (cwV 2 F.1.2.2.2.2 (gi_V wd_754 wd_756 wd_47 wd_67 wd_757) rfl rfl rfl (by decide +kernel) ⟨Nat.le_of_ble_eq_true rfl, Nat.le_of_ble_eq_true rfl⟩) rfl (Nat.le_of_ble_eq_true rfl) ⟨Nat.zero_le _, Nat.zero_le _⟩ rfl dM_emits_44 ?_
          show aW _ _ _ _ _ _ _ _ _ _ _ _ _ _ _ _ _ _ _ _ _ [.int ((fm_fails T (0 : Int32) (0 : Int32)).1)]
          rw [show (fm_emiF T sg go) = (((fm_fails T (0 : Int32) (0 : Int32)).1), ((fm_fails T (0 : Int32) (0 : Int32)).2)) from by rw [fm_emiF, if_neg c_16, if_neg c_25, if_neg c_30, if_pos c_36]] at kq
          exact kq
        · skip
          refine aw_iconst (pc := 39) (v := 1) F dM_emits_39 (by decide) ?_
          refine aw_goto (pc := 40) F 44 dM_emits_40 (by decide) ?_
          refine aw_goV (pc := 44) (As := [.int (0 : Int32), .int (1 : Int32)]) (rest := []) F zC_ok Zs 13 hM_at13 rfl (tM_fails  T M Y V (0 : Int32) (1 : Int32)) (cwV 2 F.1.2.2.2.2 (gi_V wd_754 wd_756 wd_47 wd_67 wd_757) rfl rfl rfl (by decide +kernel) ⟨Nat.le_of_ble_eq_true rfl, Nat.le_of_ble_eq_true rfl⟩) rfl (Nat.le_of_ble_eq_true rfl) ⟨Nat.zero_le _, Nat.zero_le _⟩ rfl dM_emits_44 ?_
          show aW _ _ _ _ _ _ _ _ _ _ _ _ _ _ _ _ _ _ _ _ _ [.int ((fm_fails T (0 : Int32) (1 : Int32)).1)]
          rw [show (fm_emiF T sg go) = (((fm_fails T (0 : Int32) (1 : Int32)).1), ((fm_fails T (0 : Int32) (1 : Int32)).2)) from by rw [fm_emiF, if_neg c_16, if_neg c_25, if_neg c_30, if_neg c_36]] at kq
          exact kq
  · skip
    refine aw_iconst (pc := 19) (v := 1) F dM_emits_19 (by decide) ?_
    refine aw_goto (pc := 20) F 24 dM_emits_20 (by decide) ?_
    refine aw_iload_n (pc := 24) (i := 2) (x := go) F dM_emits_24 rfl rfl ?_
    refine aw_if_eq (pc := 25) F 43 dM_emits_25 (by decide) (fun c_25 => ?_) (fun c_25 => ?_)
    · skip
      refine aw_iconst (pc := 43) (v := 0) F dM_emits_43 (by decide) ?_
      refine aw_goV (pc := 44) (As := [.int (1 : Int32), .int (0 : Int32)]) (rest := []) F zC_ok Zs 13 hM_at13 rfl (tM_fails  T M Y V (1 : Int32) (0 : Int32)) (cwV 2 F.1.2.2.2.2 (gi_V wd_754 wd_756 wd_47 wd_67 wd_757) rfl rfl rfl (by decide +kernel) ⟨Nat.le_of_ble_eq_true rfl, Nat.le_of_ble_eq_true rfl⟩) rfl (Nat.le_of_ble_eq_true rfl) ⟨Nat.zero_le _, Nat.zero_le _⟩ rfl dM_emits_44 ?_
      show aW _ _ _ _ _ _ _ _ _ _ _ _ _ _ _ _ _ _ _ _ _ [.int ((fm_fails T (1 : Int32) (0 : Int32)).1)]
      rw [show (fm_emiF T sg go) = (((fm_fails T (1 : Int32) (0 : Int32)).1), ((fm_fails T (1 : Int32) (0 : Int32)).2)) from by rw [fm_emiF, if_pos c_16, if_pos c_25]] at kq
      exact kq
    · skip
      refine aw_iload_n (pc := 28) (i := 1) (x := sg) F dM_emits_28 rfl rfl ?_
      refine aw_iconst (pc := 29) (v := 4) F dM_emits_29 (by decide) ?_
      refine aw_icmp_lt (pc := 30) F 39 dM_emits_30 (by decide) (fun c_30 => ?_) (fun c_30 => ?_)
      · skip
        refine aw_iconst (pc := 39) (v := 1) F dM_emits_39 (by decide) ?_
        refine aw_goto (pc := 40) F 44 dM_emits_40 (by decide) ?_
        refine aw_goV (pc := 44) (As := [.int (1 : Int32), .int (1 : Int32)]) (rest := []) F zC_ok Zs 13 hM_at13 rfl (tM_fails  T M Y V (1 : Int32) (1 : Int32)) (cwV 2 F.1.2.2.2.2 (gi_V wd_754 wd_756 wd_47 wd_67 wd_757) rfl rfl rfl (by decide +kernel) ⟨Nat.le_of_ble_eq_true rfl, Nat.le_of_ble_eq_true rfl⟩) rfl (Nat.le_of_ble_eq_true rfl) ⟨Nat.zero_le _, Nat.zero_le _⟩ rfl dM_emits_44 ?_
        show aW _ _ _ _ _ _ _ _ _ _ _ _ _ _ _ _ _ _ _ _ _ [.int ((fm_fails T (1 : Int32) (1 : Int32)).1)]
        rw [show (fm_emiF T sg go) = (((fm_fails T (1 : Int32) (1 : Int32)).1), ((fm_fails T (1 : Int32) (1 : Int32)).2)) from by rw [fm_emiF, if_pos c_16, if_neg c_25, if_pos c_30]] at kq
        exact kq
      · skip
        refine aw_iload_n (pc := 33) (i := 1) (x := sg) F dM_emits_33 rfl rfl ?_
        refine aw_bipush (pc := 34) (v := 15) F dM_emits_34 (by decide) ?_
        refine aw_icmp_le (pc := 36) F 43 dM_emits_36 (by decide) (fun c_36 => ?_) (fun c_36 => ?_)
        · skip
          refine aw_iconst (pc := 43) (v := 0) F dM_emits_43 (by decide) ?_
          refine aw_goV (pc := 44) (As := [.int (1 : Int32), .int (0 : Int32)]) (rest := []) F zC_ok Zs 13 hM_at13 rfl (tM_fails  T M Y V (1 : Int32) (0 : Int32)) (cwV 2 F.1.2.2.2.2 (gi_V wd_754 wd_756 wd_47 wd_67 wd_757) rfl rfl rfl (by decide +kernel) ⟨Nat.le_of_ble_eq_true rfl, Nat.le_of_ble_eq_true rfl⟩) rfl (Nat.le_of_ble_eq_true rfl) ⟨Nat.zero_le _, Nat.zero_le _⟩ rfl dM_emits_44 ?_
          show aW _ _ _ _ _ _ _ _ _ _ _ _ _ _ _ _ _ _ _ _ _ [.int ((fm_fails T (1 : Int32) (0 : Int32)).1)]
          rw [show (fm_emiF T sg go) = (((fm_fails T (1 : Int32) (0 : Int32)).1), ((fm_fails T (1 : Int32) (0 : Int32)).2)) from by rw [fm_emiF, if_pos c_16, if_neg c_25, if_neg c_30, if_pos c_36]] at kq
          exact kq
        · skip
          refine aw_iconst (pc := 39) (v := 1) F dM_emits_39 (by decide) ?_
          refine aw_goto (pc := 40) F 44 dM_emits_40 (by decide) ?_
          refine aw_goV (pc := 44) (As := [.int (1 : Int32), .int (1 : Int32)]) (rest := []) F zC_ok Zs 13 hM_at13 rfl (tM_fails  T M Y V (1 : Int32) (1 : Int32)) (cwV 2 F.1.2.2.2.2 (gi_V wd_754 wd_756 wd_47 wd_67 wd_757) rfl rfl rfl (by decide +kernel) ⟨Nat.le_of_ble_eq_true rfl, Nat.le_of_ble_eq_true rfl⟩) rfl (Nat.le_of_ble_eq_true rfl) ⟨Nat.zero_le _, Nat.zero_le _⟩ rfl dM_emits_44 ?_
          show aW _ _ _ _ _ _ _ _ _ _ _ _ _ _ _ _ _ _ _ _ _ [.int ((fm_fails T (1 : Int32) (1 : Int32)).1)]
          rw [show (fm_emiF T sg go) = (((fm_fails T (1 : Int32) (1 : Int32)).1), ((fm_fails T (1 : Int32) (1 : Int32)).2)) from by rw [fm_emiF, if_pos c_16, if_neg c_25, if_neg c_30, if_neg c_36]] at kq
          exact kq
def fm_emiL : Nat → mT → yT → vT → Int32 → Int32 → Int32 → Int32 × Int32 × yT × vT
  | 0, M, Y, V, sg, fo, k => (fo, k, Y, V)
  | n + 1, M, Y, V, sg, fo, k =>
      if (16 : Int32) ≤ k then
      (fo, k, Y, V)
    else
      if ((fm_react M Y V k).1) = (-1 : Int32) then
        (fm_emiL n M ((fm_react M Y V k).2.1) ((fm_react M Y V k).2.2) sg (fo ||| (0 : Int32)) (k + (1 : Int32)))
      else
        if ((((fm_react M Y V k).2.1).2 2) sg.toNatClampNeg) = (1 : Int32) then
          (fm_emiL n M ((fm_react M Y V k).2.1) ((fm_react M Y V k).2.2) sg (fo ||| ((1 : Int32) <<< (k &&& 31))) (k + (1 : Int32)))
        else
          (fm_emiL n M ((fm_react M Y V k).2.1) ((fm_react M Y V k).2.2) sg (fo ||| (0 : Int32)) (k + (1 : Int32)))
set_option maxRecDepth 100000 in
set_option maxHeartbeats 4000000 in
theorem tM_emits_X57 {l : Launch} {D : va_G} {A : Nat → Prop} {ad : Nat → Nat} {tP : Nat} {cI cZ : ClassId} {S : kT} {P : pT} {X : xT} {tl : List va_E} {tyr : List (ClassId × FieldType)} {p : Program} {e : Env} {s : State} {m : MethodId} {args : Array Value} {below : List Frame} {meth : Method} {c : Code} {Q : State → Prop} (F : aw_F p s m c args cM_emits 5 (Cond.code yM_emits cM_emits 5 (some .int) :: aw_big) yM_emits.cls D vwCl ((cI, .int) :: (cZ, .boolean) :: tyr)) (Zs : zC A tP s) :
    ∀ (n : Nat) (T : Int32) (M : mT) (Y : yT) (V : vT) (sg : Int32) (fo : Int32) (k : Int32) (hw : mW M) (h0 : 0 < (M.1 0).toInt) (hs : vp_in sg 3256) (h1 : 0 ≤ k.toInt) (h2 : k.toInt ≤ 16) (hm : 16 < k.toInt + n), aW p l e (aw_rm 402) s m args below meth c 0 0 Q D vwCl A ad 5 (hC ad cI S P X ++ (hM ad cI cZ T M ((fm_emiL n M Y V sg fo k).2.2.1) ((fm_emiL n M Y V sg fo k).2.2.2) ++ tl)) [some (.ref (ad 13)), some (.int sg), none, some (.int ((fm_emiL n M Y V sg fo k).1)), some (.int ((fm_emiL n M Y V sg fo k).2.1))] 101 [] → aW p l e (aw_rm 402) s m args below meth c 0 0 Q D vwCl A ad 5 (hC ad cI S P X ++ (hM ad cI cZ T M Y V ++ tl)) [some (.ref (ad 13)), some (.int sg), none, some (.int fo), some (.int k)] 57 [] := by
  intro n
  induction n with
  | zero =>
    intro T M Y V sg fo k hw h0 hs h1 h2 hm kq
    exfalso; omega
  | succ n ih =>
    intro T M Y V sg fo k hw h0 hs h1 h2 hm kq
    refine aw_iload (pc := 57) (i := 4) (x := k) F dM_emits_57 rfl ?_
    refine aw_bipush (pc := 59) (v := 16) F dM_emits_59 (by decide) ?_
    refine aw_icmp_ge (pc := 61) F 101 dM_emits_61 (by decide) (fun c_61 => ?_) (fun c_61 => ?_)
    · skip
      rw [show (fm_emiL (n + 1) M Y V sg fo k) = (fo, k, Y, V) from by rw [fm_emiL, if_pos c_61]] at kq
      exact kq
    · skip
      refine aw_iload_n (pc := 64) (i := 3) (x := fo) F dM_emits_64 rfl rfl ?_
      refine aw_aload_n (pc := 65) (i := 0) (x := ad 13) F dM_emits_65 rfl rfl ?_
      refine aw_iload (pc := 66) (i := 4) (x := k) F dM_emits_66 rfl ?_
      refine aw_goV (pc := 68) (As := [.int k]) (rest := [.int fo]) F zC_ok Zs 13 hM_at13 rfl (tM_react  T M Y V k hw h0) (cwV 1 F.1.2.2.2.2 (gi_V wd_787 wd_789 wd_50 wd_67 wd_790) rfl rfl rfl (by decide +kernel) ⟨Nat.le_of_ble_eq_true rfl, Nat.le_of_ble_eq_true rfl⟩) rfl (Nat.le_of_ble_eq_true rfl) ⟨Nat.zero_le _, Nat.zero_le _⟩ rfl dM_emits_68 ?_
      show aW _ _ _ _ _ _ _ _ _ _ _ _ _ _ _ _ _ _ _ _ _ [.int ((fm_react M Y V k).1), .int fo]
      refine aw_iconst (pc := 71) (v := -1) F dM_emits_71 (by decide) ?_
      refine aw_icmp_eq (pc := 72) F 92 dM_emits_72 (by decide) (fun c_72 => ?_) (fun c_72 => ?_)
      · skip
        refine aw_iconst (pc := 92) (v := 0) F dM_emits_92 (by decide) ?_
        refine aw_ior (pc := 93) F dM_emits_93 ?_
        refine aw_istore_n (pc := 94) (i := 3) (L' := [some (.ref (ad 13)), some (.int sg), none, some (.int (fo ||| (0 : Int32))), some (.int k)]) F dM_emits_94 rfl (by decide) rfl ?_
        refine aw_iinc (pc := 95) (x := k) (v := k + (1 : Int32)) (L' := [some (.ref (ad 13)), some (.int sg), none, some (.int (fo ||| (0 : Int32))), some (.int (k + (1 : Int32)))]) F dM_emits_95 rfl rfl (by decide) rfl ?_
        refine aw_goto (pc := 98) F 57 dM_emits_98 (by decide) ?_
        rw [show (fm_emiL (n + 1) M Y V sg fo k) = (fm_emiL n M ((fm_react M Y V k).2.1) ((fm_react M Y V k).2.2) sg (fo ||| (0 : Int32)) (k + (1 : Int32))) from by rw [fm_emiL, if_neg c_61, if_pos c_72]] at kq
        exact ih T M ((fm_react M Y V k).2.1) ((fm_react M Y V k).2.2) sg (fo ||| (0 : Int32)) (k + (1 : Int32)) hw h0 hs (by have a := i_up (i_lt c_61); omega) (by have a := i_up (i_lt c_61); have b := i_lt c_61; have e : (16 : Int32).toInt = 16 := rfl; omega) (by have a := i_up (i_lt c_61); omega) kq
      · skip
        refine aw_aload_n (pc := 75) (i := 0) (x := ad 13) F dM_emits_75 rfl rfl ?_
        refine aw_get (pc := 76) (v := .ref (ad 27)) F 13 hM_at13 rfl 23 (by decide) (fun w h => mw (iw_M w h)) (mw wd_672) rfl dM_emits_76 ?_
        refine aw_iload_n (pc := 79) (i := 1) (x := sg) F dM_emits_79 rfl rfl ?_
        refine aw_iald (pc := 80) F 27 0 hM_at27 rfl hs dM_emits_80 ?_
        refine aw_iconst (pc := 81) (v := 1) F dM_emits_81 (by decide) ?_
        refine aw_icmp_ne (pc := 82) F 92 dM_emits_82 (by decide) (fun c_82 => ?_) (fun c_82 => ?_)
        · skip
          refine aw_iconst (pc := 92) (v := 0) F dM_emits_92 (by decide) ?_
          refine aw_ior (pc := 93) F dM_emits_93 ?_
          refine aw_istore_n (pc := 94) (i := 3) (L' := [some (.ref (ad 13)), some (.int sg), none, some (.int (fo ||| (0 : Int32))), some (.int k)]) F dM_emits_94 rfl (by decide) rfl ?_
          refine aw_iinc (pc := 95) (x := k) (v := k + (1 : Int32)) (L' := [some (.ref (ad 13)), some (.int sg), none, some (.int (fo ||| (0 : Int32))), some (.int (k + (1 : Int32)))]) F dM_emits_95 rfl rfl (by decide) rfl ?_
          refine aw_goto (pc := 98) F 57 dM_emits_98 (by decide) ?_
          rw [show (fm_emiL (n + 1) M Y V sg fo k) = (fm_emiL n M ((fm_react M Y V k).2.1) ((fm_react M Y V k).2.2) sg (fo ||| (0 : Int32)) (k + (1 : Int32))) from by rw [fm_emiL, if_neg c_61, if_neg c_72, if_neg c_82]] at kq
          exact ih T M ((fm_react M Y V k).2.1) ((fm_react M Y V k).2.2) sg (fo ||| (0 : Int32)) (k + (1 : Int32)) hw h0 hs (by have a := i_up (i_lt c_61); omega) (by have a := i_up (i_lt c_61); have b := i_lt c_61; have e : (16 : Int32).toInt = 16 := rfl; omega) (by have a := i_up (i_lt c_61); omega) kq
        · skip
          refine aw_iconst (pc := 85) (v := 1) F dM_emits_85 (by decide) ?_
          refine aw_iload (pc := 86) (i := 4) (x := k) F dM_emits_86 rfl ?_
          refine aw_ishl (pc := 88) F dM_emits_88 ?_
          refine aw_goto (pc := 89) F 93 dM_emits_89 (by decide) ?_
          refine aw_ior (pc := 93) F dM_emits_93 ?_
          refine aw_istore_n (pc := 94) (i := 3) (L' := [some (.ref (ad 13)), some (.int sg), none, some (.int (fo ||| ((1 : Int32) <<< (k &&& 31)))), some (.int k)]) F dM_emits_94 rfl (by decide) rfl ?_
          refine aw_iinc (pc := 95) (x := k) (v := k + (1 : Int32)) (L' := [some (.ref (ad 13)), some (.int sg), none, some (.int (fo ||| ((1 : Int32) <<< (k &&& 31)))), some (.int (k + (1 : Int32)))]) F dM_emits_95 rfl rfl (by decide) rfl ?_
          refine aw_goto (pc := 98) F 57 dM_emits_98 (by decide) ?_
          rw [show (fm_emiL (n + 1) M Y V sg fo k) = (fm_emiL n M ((fm_react M Y V k).2.1) ((fm_react M Y V k).2.2) sg (fo ||| ((1 : Int32) <<< (k &&& 31))) (k + (1 : Int32))) from by rw [fm_emiL, if_neg c_61, if_neg c_72, if_pos c_82]] at kq
          exact ih T M ((fm_react M Y V k).2.1) ((fm_react M Y V k).2.2) sg (fo ||| ((1 : Int32) <<< (k &&& 31))) (k + (1 : Int32)) hw h0 hs (by have a := i_up (i_lt c_61); omega) (by have a := i_up (i_lt c_61); have b := i_lt c_61; have e : (16 : Int32).toInt = 16 := rfl; omega) (by have a := i_up (i_lt c_61); omega) kq
def fm_emits  (T : Int32) (M : mT) (Y : yT) (V : vT) (sg : Int32) : Int32 × Int32 × yT × vT :=
  if ((fm_emiF T sg (fm_emiG Y sg)).1) = 0 then
    (((fm_emiL 17 M Y V sg (0 : Int32) (0 : Int32)).1), ((fm_emiF T sg (fm_emiG Y sg)).2), ((fm_emiL 17 M Y V sg (0 : Int32) (0 : Int32)).2.2.1), ((fm_emiL 17 M Y V sg (0 : Int32) (0 : Int32)).2.2.2))
  else
    ((0 : Int32), ((fm_emiF T sg (fm_emiG Y sg)).2), Y, V)
set_option maxRecDepth 100000 in
set_option maxHeartbeats 4000000 in
theorem tM_emits {l : Launch} {D : va_G} {A : Nat → Prop} {ad : Nat → Nat} {tP : Nat} {cI cZ : ClassId} {S : kT} {P : pT} {X : xT} {tl : List va_E} {tyr : List (ClassId × FieldType)} (T : Int32) (M : mT) (Y : yT) (V : vT) (sg : Int32) (hg : (fm_emiF T sg (fm_emiG Y sg)).1 = 0 → mW M ∧ 0 < (M.1 0).toInt ∧ vp_in sg 3256) : aw_M l yM_emits (Cond.code yM_emits cM_emits 5 (some .int) :: aw_big) 402 D vwCl ((cI, .int) :: (cZ, .boolean) :: tyr) A ad (zC A tP) [.ref (ad 13), .int sg] (hC ad cI S P X ++ (hM ad cI cZ T M Y V ++ tl)) (some (.int ((fm_emits T M Y V sg).1))) (hC ad cI S P X ++ (hM ad cI cZ ((fm_emits T M Y V sg).2.1) M ((fm_emits T M Y V sg).2.2.1) ((fm_emits T M Y V sg).2.2.2) ++ tl)) := by
  refine aw_met cM_emits 5 (some .int) [some (.ref (ad 13)), some (.int sg), none, none, none] (by decide) rfl (Nat.le_of_ble_eq_true rfl) rfl ?_
  intro p e s m args below meth c F Zs hr hlk
  refine tM_emits_X0  F Zs  T M Y V sg   ?_
  refine tM_emits_X14  F Zs  T M Y V sg (fm_emiG Y sg)   ?_
  refine aw_if_eq (pc := 47) F 52 dM_emits_47 (by decide) (fun c_47 => ?_) (fun c_47 => ?_)
  · skip
    refine aw_iconst (pc := 52) (v := 0) F dM_emits_52 (by decide) ?_
    refine aw_istore_n (pc := 53) (i := 3) (L' := [some (.ref (ad 13)), some (.int sg), some (.int (fm_emiG Y sg)), some (.int (0 : Int32)), none]) F dM_emits_53 rfl (by decide) rfl ?_
    refine aw_iconst (pc := 54) (v := 0) F dM_emits_54 (by decide) ?_
    refine aw_istore (pc := 55) (i := 4) (L' := [some (.ref (ad 13)), some (.int sg), some (.int (fm_emiG Y sg)), some (.int (0 : Int32)), some (.int (0 : Int32))]) F dM_emits_55 (by decide) rfl ?_
    refine aw_less (L' := [some (.ref (ad 13)), some (.int sg), none, some (.int (0 : Int32)), some (.int (0 : Int32))]) (fun i v h => by match i, h with | 0, h => exact h | 1, h => exact h | 2, h => cases h | 3, h => exact h | 4, h => exact h | _ + 5, h => cases h) ?_
    refine tM_emits_X57  F Zs 17 ((fm_emiF T sg (fm_emiG Y sg)).2) M Y V sg (0 : Int32) (0 : Int32) (hg c_47).1 (hg c_47).2.1 (hg c_47).2.2 (by decide) (by decide) (by decide) ?_
    refine aw_iload_n (pc := 101) (i := 3) (x := ((fm_emiL 17 M Y V sg (0 : Int32) (0 : Int32)).1)) F dM_emits_101 rfl rfl ?_
    exact aw_iret (pc := 102) F hr hlk dM_emits_102 (by rw [fm_emits, if_pos c_47]) (by rw [fm_emits, if_pos c_47])
  · skip
    refine aw_iconst (pc := 50) (v := 0) F dM_emits_50 (by decide) ?_
    exact aw_iret (pc := 51) F hr hlk dM_emits_51 (by rw [fm_emits, if_neg c_47]) (by rw [fm_emits, if_neg c_47])
def fm_cntL : Nat → mT → Int32 → Int32 → Int32 × Int32
  | 0, M, c0, k => (c0, k)
  | n + 1, M, c0, k =>
      if (M.1 0) ≤ k then
      (c0, k)
    else
      if ((M.2 0) k.toNatClampNeg) = (8 : Int32) then
        (fm_cntL n M (c0 + (1 : Int32)) (k + (1 : Int32)))
      else
        (fm_cntL n M (c0 + (0 : Int32)) (k + (1 : Int32)))
set_option maxRecDepth 100000 in
set_option maxHeartbeats 4000000 in
theorem tM_count_X73 {l : Launch} {D : va_G} {A : Nat → Prop} {ad : Nat → Nat} {tP : Nat} {cI cZ : ClassId} {S : kT} {P : pT} {X : xT} {tl : List va_E} {tyr : List (ClassId × FieldType)} {p : Program} {e : Env} {R : Room} {s : State} {m : MethodId} {args : Array Value} {below : List Frame} {meth : Method} {c : Code} {Q : State → Prop} (F : aw_F p s m c args cM_count 4 (Cond.code yM_count cM_count 4 (some .int) :: aw_big) yM_count.cls D vwCl ((cI, .int) :: (cZ, .boolean) :: tyr)) (Zs : zC A tP s) :
    ∀ (n : Nat) (T : Int32) (M : mT) (Y : yT) (V : vT)  (c0 : Int32) (k : Int32) (hS : mS M) (h1 : 0 ≤ k.toInt) (h2 : k.toInt ≤ 120) (hm : 120 < k.toInt + n), aW p l e R s m args below meth c 0 0 Q D vwCl A ad 4 (hC ad cI S P X ++ (hM ad cI cZ T M Y V ++ tl)) [some (.ref (ad 13)), none, some (.int ((fm_cntL n M c0 k).1)), some (.int ((fm_cntL n M c0 k).2))] 106 [] → aW p l e R s m args below meth c 0 0 Q D vwCl A ad 4 (hC ad cI S P X ++ (hM ad cI cZ T M Y V ++ tl)) [some (.ref (ad 13)), none, some (.int c0), some (.int k)] 73 [] := by
  intro n
  induction n with
  | zero =>
    intro T M Y V c0 k hS h1 h2 hm kq
    exfalso; omega
  | succ n ih =>
    intro T M Y V c0 k hS h1 h2 hm kq
    refine aw_iload_n (pc := 73) (i := 3) (x := k) F dM_count_73 rfl rfl ?_
    refine aw_aload_n (pc := 74) (i := 0) (x := ad 13) F dM_count_74 rfl rfl ?_
    refine aw_get (pc := 75) (v := .int (M.1 0)) F 13 hM_at13 rfl 1 (by decide) (fun w h => mw (iw_M w h)) (mw wd_650) rfl dM_count_75 ?_
    refine aw_icmp_ge (pc := 78) F 106 dM_count_78 (by decide) (fun c_78 => ?_) (fun c_78 => ?_)
    · skip
      rw [show (fm_cntL (n + 1) M c0 k) = (c0, k) from by rw [fm_cntL, if_pos c_78]] at kq
      exact kq
    · skip
      refine aw_iload_n (pc := 81) (i := 2) (x := c0) F dM_count_81 rfl rfl ?_
      refine aw_aload_n (pc := 82) (i := 0) (x := ad 13) F dM_count_82 rfl rfl ?_
      refine aw_get (pc := 83) (v := .ref (ad 14)) F 13 hM_at13 rfl 5 (by decide) (fun w h => mw (iw_M w h)) (mw wd_654) rfl dM_count_83 ?_
      refine aw_iload_n (pc := 86) (i := 3) (x := k) F dM_count_86 rfl rfl ?_
      refine aw_iald (pc := 87) F 14 0 hM_at14 rfl (vp_in_iff.mpr (by have a := i_lt c_78; have b := hS.2; omega)) dM_count_87 ?_
      refine aw_bipush (pc := 88) (v := 8) F dM_count_88 (by decide) ?_
      refine aw_icmp_ne (pc := 90) F 97 dM_count_90 (by decide) (fun c_90 => ?_) (fun c_90 => ?_)
      · skip
        refine aw_iconst (pc := 97) (v := 0) F dM_count_97 (by decide) ?_
        refine aw_iadd (pc := 98) F dM_count_98 ?_
        refine aw_istore_n (pc := 99) (i := 2) (L' := [some (.ref (ad 13)), none, some (.int (c0 + (0 : Int32))), some (.int k)]) F dM_count_99 rfl (by decide) rfl ?_
        refine aw_iinc (pc := 100) (x := k) (v := k + (1 : Int32)) (L' := [some (.ref (ad 13)), none, some (.int (c0 + (0 : Int32))), some (.int (k + (1 : Int32)))]) F dM_count_100 rfl rfl (by decide) rfl ?_
        refine aw_goto (pc := 103) F 73 dM_count_103 (by decide) ?_
        rw [show (fm_cntL (n + 1) M c0 k) = (fm_cntL n M (c0 + (0 : Int32)) (k + (1 : Int32))) from by rw [fm_cntL, if_neg c_78, if_neg c_90]] at kq
        exact ih T M Y V  (c0 + (0 : Int32)) (k + (1 : Int32)) hS (by have a := i_up (i_lt c_78); omega) (by have a := i_up (i_lt c_78); have b := i_lt c_78; have e := hS.2; omega) (by have a := i_up (i_lt c_78); omega) kq
      · skip
        refine aw_iconst (pc := 93) (v := 1) F dM_count_93 (by decide) ?_
        refine aw_goto (pc := 94) F 98 dM_count_94 (by decide) ?_
        refine aw_iadd (pc := 98) F dM_count_98 ?_
        refine aw_istore_n (pc := 99) (i := 2) (L' := [some (.ref (ad 13)), none, some (.int (c0 + (1 : Int32))), some (.int k)]) F dM_count_99 rfl (by decide) rfl ?_
        refine aw_iinc (pc := 100) (x := k) (v := k + (1 : Int32)) (L' := [some (.ref (ad 13)), none, some (.int (c0 + (1 : Int32))), some (.int (k + (1 : Int32)))]) F dM_count_100 rfl rfl (by decide) rfl ?_
        refine aw_goto (pc := 103) F 73 dM_count_103 (by decide) ?_
        rw [show (fm_cntL (n + 1) M c0 k) = (fm_cntL n M (c0 + (1 : Int32)) (k + (1 : Int32))) from by rw [fm_cntL, if_neg c_78, if_pos c_90]] at kq
        exact ih T M Y V  (c0 + (1 : Int32)) (k + (1 : Int32)) hS (by have a := i_up (i_lt c_78); omega) (by have a := i_up (i_lt c_78); have b := i_lt c_78; have e := hS.2; omega) (by have a := i_up (i_lt c_78); omega) kq
def fm_cntS : Nat → yT → Int32 → Int32 → Int32 × Int32
  | 0, Y, c0, k => (c0, k)
  | n + 1, Y, c0, k =>
      if (32 : Int32) ≤ k then
      (c0, k)
    else
      if ((Y.2 0) k.toNatClampNeg) = 0 then
        (fm_cntS n Y (c0 + (0 : Int32)) (k + (1 : Int32)))
      else
        (fm_cntS n Y (c0 + (1 : Int32)) (k + (1 : Int32)))
set_option maxRecDepth 100000 in
set_option maxHeartbeats 4000000 in
theorem tM_count_X120 {l : Launch} {D : va_G} {A : Nat → Prop} {ad : Nat → Nat} {tP : Nat} {cI cZ : ClassId} {S : kT} {P : pT} {X : xT} {tl : List va_E} {tyr : List (ClassId × FieldType)} {p : Program} {e : Env} {R : Room} {s : State} {m : MethodId} {args : Array Value} {below : List Frame} {meth : Method} {c : Code} {Q : State → Prop} (F : aw_F p s m c args cM_count 4 (Cond.code yM_count cM_count 4 (some .int) :: aw_big) yM_count.cls D vwCl ((cI, .int) :: (cZ, .boolean) :: tyr)) (Zs : zC A tP s) :
    ∀ (n : Nat) (T : Int32) (M : mT) (Y : yT) (V : vT)  (c0 : Int32) (k : Int32) (h1 : 0 ≤ k.toInt) (h2 : k.toInt ≤ 32) (hm : 32 < k.toInt + n), aW p l e R s m args below meth c 0 0 Q D vwCl A ad 4 (hC ad cI S P X ++ (hM ad cI cZ T M Y V ++ tl)) [some (.ref (ad 13)), none, some (.int ((fm_cntS n Y c0 k).1)), some (.int ((fm_cntS n Y c0 k).2))] 149 [] → aW p l e R s m args below meth c 0 0 Q D vwCl A ad 4 (hC ad cI S P X ++ (hM ad cI cZ T M Y V ++ tl)) [some (.ref (ad 13)), none, some (.int c0), some (.int k)] 120 [] := by
  intro n
  induction n with
  | zero =>
    intro T M Y V c0 k h1 h2 hm kq
    exfalso; omega
  | succ n ih =>
    intro T M Y V c0 k h1 h2 hm kq
    refine aw_iload_n (pc := 120) (i := 3) (x := k) F dM_count_120 rfl rfl ?_
    refine aw_bipush (pc := 121) (v := 32) F dM_count_121 (by decide) ?_
    refine aw_icmp_ge (pc := 123) F 149 dM_count_123 (by decide) (fun c_123 => ?_) (fun c_123 => ?_)
    · skip
      rw [show (fm_cntS (n + 1) Y c0 k) = (c0, k) from by rw [fm_cntS, if_pos c_123]] at kq
      exact kq
    · skip
      refine aw_iload_n (pc := 126) (i := 2) (x := c0) F dM_count_126 rfl rfl ?_
      refine aw_aload_n (pc := 127) (i := 0) (x := ad 13) F dM_count_127 rfl rfl ?_
      refine aw_get (pc := 128) (v := .ref (ad 25)) F 13 hM_at13 rfl 20 (by decide) (fun w h => mw (iw_M w h)) (mw wd_669) rfl dM_count_128 ?_
      refine aw_iload_n (pc := 131) (i := 3) (x := k) F dM_count_131 rfl rfl ?_
      refine aw_zald (pc := 132) F 25 1 hM_at25 rfl (vp_in_iff.mpr (by have a := i_lt c_123; have e : (32 : Int32).toInt = 32 := rfl; omega)) dM_count_132 ?_
      refine aw_if_eq (pc := 133) F 140 dM_count_133 (by decide) (fun c_133 => ?_) (fun c_133 => ?_)
      · skip
        refine aw_iconst (pc := 140) (v := 0) F dM_count_140 (by decide) ?_
        refine aw_iadd (pc := 141) F dM_count_141 ?_
        refine aw_istore_n (pc := 142) (i := 2) (L' := [some (.ref (ad 13)), none, some (.int (c0 + (0 : Int32))), some (.int k)]) F dM_count_142 rfl (by decide) rfl ?_
        refine aw_iinc (pc := 143) (x := k) (v := k + (1 : Int32)) (L' := [some (.ref (ad 13)), none, some (.int (c0 + (0 : Int32))), some (.int (k + (1 : Int32)))]) F dM_count_143 rfl rfl (by decide) rfl ?_
        refine aw_goto (pc := 146) F 120 dM_count_146 (by decide) ?_
        rw [show (fm_cntS (n + 1) Y c0 k) = (fm_cntS n Y (c0 + (0 : Int32)) (k + (1 : Int32))) from by rw [fm_cntS, if_neg c_123, if_pos c_133]] at kq
        exact ih T M Y V  (c0 + (0 : Int32)) (k + (1 : Int32)) (by have a := i_up (i_lt c_123); omega) (by have a := i_up (i_lt c_123); have b := i_lt c_123; have e : (32 : Int32).toInt = 32 := rfl; omega) (by have a := i_up (i_lt c_123); omega) kq
      · skip
        refine aw_iconst (pc := 136) (v := 1) F dM_count_136 (by decide) ?_
        refine aw_goto (pc := 137) F 141 dM_count_137 (by decide) ?_
        refine aw_iadd (pc := 141) F dM_count_141 ?_
        refine aw_istore_n (pc := 142) (i := 2) (L' := [some (.ref (ad 13)), none, some (.int (c0 + (1 : Int32))), some (.int k)]) F dM_count_142 rfl (by decide) rfl ?_
        refine aw_iinc (pc := 143) (x := k) (v := k + (1 : Int32)) (L' := [some (.ref (ad 13)), none, some (.int (c0 + (1 : Int32))), some (.int (k + (1 : Int32)))]) F dM_count_143 rfl rfl (by decide) rfl ?_
        refine aw_goto (pc := 146) F 120 dM_count_146 (by decide) ?_
        rw [show (fm_cntS (n + 1) Y c0 k) = (fm_cntS n Y (c0 + (1 : Int32)) (k + (1 : Int32))) from by rw [fm_cntS, if_neg c_123, if_neg c_133]] at kq
        exact ih T M Y V  (c0 + (1 : Int32)) (k + (1 : Int32)) (by have a := i_up (i_lt c_123); omega) (by have a := i_up (i_lt c_123); have b := i_lt c_123; have e : (32 : Int32).toInt = 32 := rfl; omega) (by have a := i_up (i_lt c_123); omega) kq
def fm_count  (T : Int32) (M : mT) (Y : yT) (what : Int32) : Int32 × Int32 :=
  if what = (0 : Int32) then ((M.1 0), (0 : Int32))
  else if what = (1 : Int32) then ((M.1 3), (0 : Int32))
  else if what = (2 : Int32) then ((M.1 1), (0 : Int32))
  else if what = (3 : Int32) then (((fm_cntL 121 M (0 : Int32) (0 : Int32)).1), (0 : Int32))
  else if what = (4 : Int32) then ((M.1 2), (0 : Int32))
  else if what = (5 : Int32) then ((Y.1 1), (0 : Int32))
  else if what = (6 : Int32) then (((fm_cntS 33 Y (0 : Int32) (0 : Int32)).1), (0 : Int32))
  else if what = (7 : Int32) then ((Y.1 0), (0 : Int32))
  else ((-1 : Int32), (0 : Int32))
set_option maxRecDepth 100000 in
set_option maxHeartbeats 4000000 in
theorem tM_count {l : Launch} {D : va_G} {A : Nat → Prop} {ad : Nat → Nat} {tP : Nat} {cI cZ : ClassId} {S : kT} {P : pT} {X : xT} {tl : List va_E} {tyr : List (ClassId × FieldType)} (T : Int32) (M : mT) (Y : yT) (V : vT) (what : Int32) (hS : mS M) : aw_M l yM_count (Cond.code yM_count cM_count 4 (some .int) :: aw_big) 0 D vwCl ((cI, .int) :: (cZ, .boolean) :: tyr) A ad (zC A tP) [.ref (ad 13), .int what] (hC ad cI S P X ++ (hM ad cI cZ T M Y V ++ tl)) (some (.int ((fm_count T M Y what).1))) (hC ad cI S P X ++ (hM ad cI cZ ((fm_count T M Y what).2) M Y V ++ tl)) := by
  refine aw_met cM_count 4 (some .int) [some (.ref (ad 13)), some (.int what), none, none] (by decide) rfl (Nat.le_of_ble_eq_true rfl) rfl ?_
  intro p e s m args below meth c F Zs hr hlk
  refine aw_aload_n (pc := 0) (i := 0) (x := ad 13) F dM_count_0 rfl rfl ?_
  refine aw_iconst (pc := 1) (v := 0) F dM_count_1 (by decide) ?_
  refine aw_put (pc := 2) (hp' := (hC ad cI S P X ++ (hM ad cI cZ (0 : Int32) M Y V ++ tl))) F 13 hM_at13 rfl 0 (by decide) (fun w h => mw (iw_M w h)) tyM tyM_ok nmM (mw wd_649) (ty := .int) rfl (by decide +kernel) rfl rfl (Nat.le_of_ble_eq_true rfl) hM_st13_0 dM_count_2 ?_
  refine aw_iconst (pc := 5) (v := 0) F dM_count_5 (by decide) ?_
  refine aw_istore_n (pc := 6) (i := 2) (L' := [some (.ref (ad 13)), some (.int what), some (.int (0 : Int32)), none]) F dM_count_6 rfl (by decide) rfl ?_
  refine aw_iload_n (pc := 7) (i := 1) (x := what) F dM_count_7 rfl rfl ?_
  by_cases s_8_0 : what = (0 : Int32)
  · refine aw_tableIn (pc := 8) F 56 dM_count_8 (by rw [s_8_0]; decide) (by rw [s_8_0]; decide) (off := 48) (by rw [s_8_0]; rfl) (by decide) ?_
    refine aw_aload_n (pc := 56) (i := 0) (x := ad 13) F dM_count_56 rfl rfl ?_
    refine aw_get (pc := 57) (v := .int (M.1 0)) F 13 hM_at13 rfl 1 (by decide) (fun w h => mw (iw_M w h)) (mw wd_650) rfl dM_count_57 ?_
    exact aw_iret (pc := 60) F hr hlk dM_count_60 (by rw [fm_count, if_pos s_8_0]) (by rw [fm_count, if_pos s_8_0])
  by_cases s_8_1 : what = (1 : Int32)
  · refine aw_tableIn (pc := 8) F 61 dM_count_8 (by rw [s_8_1]; decide) (by rw [s_8_1]; decide) (off := 53) (by rw [s_8_1]; rfl) (by decide) ?_
    refine aw_aload_n (pc := 61) (i := 0) (x := ad 13) F dM_count_61 rfl rfl ?_
    refine aw_get (pc := 62) (v := .int (M.1 3)) F 13 hM_at13 rfl 4 (by decide) (fun w h => mw (iw_M w h)) (mw wd_653) rfl dM_count_62 ?_
    exact aw_iret (pc := 65) F hr hlk dM_count_65 (by rw [fm_count, if_neg s_8_0, if_pos s_8_1]) (by rw [fm_count, if_neg s_8_0, if_pos s_8_1])
  by_cases s_8_2 : what = (2 : Int32)
  · refine aw_tableIn (pc := 8) F 66 dM_count_8 (by rw [s_8_2]; decide) (by rw [s_8_2]; decide) (off := 58) (by rw [s_8_2]; rfl) (by decide) ?_
    refine aw_aload_n (pc := 66) (i := 0) (x := ad 13) F dM_count_66 rfl rfl ?_
    refine aw_get (pc := 67) (v := .int (M.1 1)) F 13 hM_at13 rfl 2 (by decide) (fun w h => mw (iw_M w h)) (mw wd_651) rfl dM_count_67 ?_
    exact aw_iret (pc := 70) F hr hlk dM_count_70 (by rw [fm_count, if_neg s_8_0, if_neg s_8_1, if_pos s_8_2]) (by rw [fm_count, if_neg s_8_0, if_neg s_8_1, if_pos s_8_2])
  by_cases s_8_3 : what = (3 : Int32)
  · refine aw_tableIn (pc := 8) F 71 dM_count_8 (by rw [s_8_3]; decide) (by rw [s_8_3]; decide) (off := 63) (by rw [s_8_3]; rfl) (by decide) ?_
    refine aw_iconst (pc := 71) (v := 0) F dM_count_71 (by decide) ?_
    refine aw_istore_n (pc := 72) (i := 3) (L' := [some (.ref (ad 13)), some (.int what), some (.int (0 : Int32)), some (.int (0 : Int32))]) F dM_count_72 rfl (by decide) rfl ?_
    refine aw_less (L' := [some (.ref (ad 13)), none, some (.int (0 : Int32)), some (.int (0 : Int32))]) (fun i v h => by match i, h with | 0, h => exact h | 1, h => cases h | 2, h => exact h | 3, h => exact h | _ + 4, h => cases h) ?_
    refine tM_count_X73  F Zs 121 (0 : Int32) M Y V  (0 : Int32) (0 : Int32) hS (by decide) (by decide) (by decide) ?_
    refine aw_iload_n (pc := 106) (i := 2) (x := ((fm_cntL 121 M (0 : Int32) (0 : Int32)).1)) F dM_count_106 rfl rfl ?_
    exact aw_iret (pc := 107) F hr hlk dM_count_107 (by rw [fm_count, if_neg s_8_0, if_neg s_8_1, if_neg s_8_2, if_pos s_8_3]) (by rw [fm_count, if_neg s_8_0, if_neg s_8_1, if_neg s_8_2, if_pos s_8_3])
  by_cases s_8_4 : what = (4 : Int32)
  · refine aw_tableIn (pc := 8) F 108 dM_count_8 (by rw [s_8_4]; decide) (by rw [s_8_4]; decide) (off := 100) (by rw [s_8_4]; rfl) (by decide) ?_
    refine aw_aload_n (pc := 108) (i := 0) (x := ad 13) F dM_count_108 rfl rfl ?_
    refine aw_get (pc := 109) (v := .int (M.1 2)) F 13 hM_at13 rfl 3 (by decide) (fun w h => mw (iw_M w h)) (mw wd_652) rfl dM_count_109 ?_
    exact aw_iret (pc := 112) F hr hlk dM_count_112 (by rw [fm_count, if_neg s_8_0, if_neg s_8_1, if_neg s_8_2, if_neg s_8_3, if_pos s_8_4]) (by rw [fm_count, if_neg s_8_0, if_neg s_8_1, if_neg s_8_2, if_neg s_8_3, if_pos s_8_4])
  by_cases s_8_5 : what = (5 : Int32)
  · refine aw_tableIn (pc := 8) F 113 dM_count_8 (by rw [s_8_5]; decide) (by rw [s_8_5]; decide) (off := 105) (by rw [s_8_5]; rfl) (by decide) ?_
    refine aw_aload_n (pc := 113) (i := 0) (x := ad 13) F dM_count_113 rfl rfl ?_
    refine aw_get (pc := 114) (v := .int (Y.1 1)) F 13 hM_at13 rfl 18 (by decide) (fun w h => mw (iw_M w h)) (mw wd_667) rfl dM_count_114 ?_
    exact aw_iret (pc := 117) F hr hlk dM_count_117 (by rw [fm_count, if_neg s_8_0, if_neg s_8_1, if_neg s_8_2, if_neg s_8_3, if_neg s_8_4, if_pos s_8_5]) (by rw [fm_count, if_neg s_8_0, if_neg s_8_1, if_neg s_8_2, if_neg s_8_3, if_neg s_8_4, if_pos s_8_5])
  by_cases s_8_6 : what = (6 : Int32)
  · refine aw_tableIn (pc := 8) F 118 dM_count_8 (by rw [s_8_6]; decide) (by rw [s_8_6]; decide) (off := 110) (by rw [s_8_6]; rfl) (by decide) ?_
    refine aw_iconst (pc := 118) (v := 0) F dM_count_118 (by decide) ?_
    refine aw_istore_n (pc := 119) (i := 3) (L' := [some (.ref (ad 13)), some (.int what), some (.int (0 : Int32)), some (.int (0 : Int32))]) F dM_count_119 rfl (by decide) rfl ?_
    refine aw_less (L' := [some (.ref (ad 13)), none, some (.int (0 : Int32)), some (.int (0 : Int32))]) (fun i v h => by match i, h with | 0, h => exact h | 1, h => cases h | 2, h => exact h | 3, h => exact h | _ + 4, h => cases h) ?_
    refine tM_count_X120  F Zs 33 (0 : Int32) M Y V  (0 : Int32) (0 : Int32) (by decide) (by decide) (by decide) ?_
    refine aw_iload_n (pc := 149) (i := 2) (x := ((fm_cntS 33 Y (0 : Int32) (0 : Int32)).1)) F dM_count_149 rfl rfl ?_
    exact aw_iret (pc := 150) F hr hlk dM_count_150 (by rw [fm_count, if_neg s_8_0, if_neg s_8_1, if_neg s_8_2, if_neg s_8_3, if_neg s_8_4, if_neg s_8_5, if_pos s_8_6]) (by rw [fm_count, if_neg s_8_0, if_neg s_8_1, if_neg s_8_2, if_neg s_8_3, if_neg s_8_4, if_neg s_8_5, if_pos s_8_6])
  by_cases s_8_7 : what = (7 : Int32)
  · refine aw_tableIn (pc := 8) F 151 dM_count_8 (by rw [s_8_7]; decide) (by rw [s_8_7]; decide) (off := 143) (by rw [s_8_7]; rfl) (by decide) ?_
    refine aw_aload_n (pc := 151) (i := 0) (x := ad 13) F dM_count_151 rfl rfl ?_
    refine aw_get (pc := 152) (v := .int (Y.1 0)) F 13 hM_at13 rfl 17 (by decide) (fun w h => mw (iw_M w h)) (mw wd_666) rfl dM_count_152 ?_
    exact aw_iret (pc := 155) F hr hlk dM_count_155 (by rw [fm_count, if_neg s_8_0, if_neg s_8_1, if_neg s_8_2, if_neg s_8_3, if_neg s_8_4, if_neg s_8_5, if_neg s_8_6, if_pos s_8_7]) (by rw [fm_count, if_neg s_8_0, if_neg s_8_1, if_neg s_8_2, if_neg s_8_3, if_neg s_8_4, if_neg s_8_5, if_neg s_8_6, if_pos s_8_7])
  refine aw_tableOut (pc := 8) F 156 dM_count_8 (by have := aw_ne s_8_0 (a := 0) (by decide); have := aw_ne s_8_1 (a := 1) (by decide); have := aw_ne s_8_2 (a := 2) (by decide); have := aw_ne s_8_3 (a := 3) (by decide); have := aw_ne s_8_4 (a := 4) (by decide); have := aw_ne s_8_5 (a := 5) (by decide); have := aw_ne s_8_6 (a := 6) (by decide); have := aw_ne s_8_7 (a := 7) (by decide); omega) (by decide) ?_
  refine aw_iconst (pc := 156) (v := -1) F dM_count_156 (by decide) ?_
  exact aw_iret (pc := 157) F hr hlk dM_count_157 (by rw [fm_count, if_neg s_8_0, if_neg s_8_1, if_neg s_8_2, if_neg s_8_3, if_neg s_8_4, if_neg s_8_5, if_neg s_8_6, if_neg s_8_7]) (by rw [fm_count, if_neg s_8_0, if_neg s_8_1, if_neg s_8_2, if_neg s_8_3, if_neg s_8_4, if_neg s_8_5, if_neg s_8_6, if_neg s_8_7])
