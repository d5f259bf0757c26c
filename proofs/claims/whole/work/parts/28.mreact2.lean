def fm_reaA : Nat → mT → yT → Int32 → Int32 → Int32 × yT
  | 0, M, Y, inp, k => (k, Y)
  | n + 1, M, Y, inp, k =>
      if ((16 : Int32) + ((27 : Int32) * (M.1 0))) ≤ k then
      (k, Y)
    else
      if (4 : Int32) ≤ k then
        (fm_reaA n M (y2w Y 2 k.toNatClampNeg (2 : Int32)) inp (k + (1 : Int32)))
      else
        (fm_reaA n M (y2w Y 2 k.toNatClampNeg ((inp >>> (k &&& 31)) &&& (1 : Int32))) inp (k + (1 : Int32)))
set_option maxRecDepth 100000 in
set_option maxHeartbeats 4000000 in
theorem tM_react_X2 {l : Launch} {D : va_G} {A : Nat → Prop} {ad : Nat → Nat} {tP : Nat} {cI cZ : ClassId} {S : kT} {P : pT} {X : xT} {tl : List va_E} {tyr : List (ClassId × FieldType)} {p : Program} {e : Env} {R : Room} {s : State} {m : MethodId} {args : Array Value} {below : List Frame} {meth : Method} {c : Code} {Q : State → Prop} (F : aw_F p s m c args cM_react 5 (Cond.code yM_react cM_react 5 (some .int) :: aw_big) yM_react.cls D vwCl ((cI, .int) :: (cZ, .boolean) :: tyr)) (Zs : zC A tP s) :
    ∀ (n : Nat) (T : Int32) (M : mT) (Y : yT) (V : vT) (inp : Int32) (k : Int32) (hS : mS M) (h1 : 0 ≤ k.toInt) (h2 : k.toInt ≤ 3256) (hm : 3256 < k.toInt + n), aW p l e R s m args below meth c 0 0 Q D vwCl A ad 5 (hC ad cI S P X ++ (hM ad cI cZ T M ((fm_reaA n M Y inp k).2) V ++ tl)) [some (.ref (ad 13)), some (.int inp), some (.int ((fm_reaA n M Y inp k).1)), none, none] 42 [] → aW p l e R s m args below meth c 0 0 Q D vwCl A ad 5 (hC ad cI S P X ++ (hM ad cI cZ T M Y V ++ tl)) [some (.ref (ad 13)), some (.int inp), some (.int k), none, none] 2 [] := by
  intro n
  induction n with
  | zero =>
    intro T M Y V inp k hS h1 h2 hm kq
    exfalso; omega
  | succ n ih =>
    intro T M Y V inp k hS h1 h2 hm kq
    refine aw_iload_n (pc := 2) (i := 2) (x := k) F dM_react_2 rfl rfl ?_
    refine aw_bipush (pc := 3) (v := 16) F dM_react_3 (by decide) ?_
    refine aw_bipush (pc := 5) (v := 27) F dM_react_5 (by decide) ?_
    refine aw_aload_n (pc := 7) (i := 0) (x := ad 13) F dM_react_7 rfl rfl ?_
    refine aw_get (pc := 8) (v := .int (M.1 0)) F 13 hM_at13 rfl 1 (by decide) (fun w h => mw (iw_M w h)) (mw wd_650) rfl dM_react_8 ?_
    refine aw_imul (pc := 11) F dM_react_11 ?_
    refine aw_iadd (pc := 12) F dM_react_12 ?_
    refine aw_icmp_ge (pc := 13) F 42 dM_react_13 (by decide) (fun c_13 => ?_) (fun c_13 => ?_)
    · skip
      rw [show (fm_reaA (n + 1) M Y inp k) = (k, Y) from by rw [fm_reaA, if_pos c_13]] at kq
      exact kq
    · skip
      refine aw_aload_n (pc := 16) (i := 0) (x := ad 13) F dM_react_16 rfl rfl ?_
      refine aw_get (pc := 17) (v := .ref (ad 27)) F 13 hM_at13 rfl 23 (by decide) (fun w h => mw (iw_M w h)) (mw wd_672) rfl dM_react_17 ?_
      refine aw_iload_n (pc := 20) (i := 2) (x := k) F dM_react_20 rfl rfl ?_
      refine aw_iload_n (pc := 21) (i := 2) (x := k) F dM_react_21 rfl rfl ?_
      refine aw_iconst (pc := 22) (v := 4) F dM_react_22 (by decide) ?_
      refine aw_icmp_ge (pc := 23) F 34 dM_react_23 (by decide) (fun c_23 => ?_) (fun c_23 => ?_)
      · skip
        refine aw_iconst (pc := 34) (v := 2) F dM_react_34 (by decide) ?_
        refine aw_iast (pc := 35) (hp' := (hC ad cI S P X ++ (hM ad cI cZ T M (y2w Y 2 k.toNatClampNeg (2 : Int32)) V ++ tl))) F 27 0 hM_at27 rfl (st_in hS h1 c_13) hM_st27 dM_react_35 ?_
        refine aw_iinc (pc := 36) (x := k) (v := k + (1 : Int32)) (L' := [some (.ref (ad 13)), some (.int inp), some (.int (k + (1 : Int32))), none, none]) F dM_react_36 rfl rfl (by decide) rfl ?_
        refine aw_goto (pc := 39) F 2 dM_react_39 (by decide) ?_
        rw [show (fm_reaA (n + 1) M Y inp k) = (fm_reaA n M (y2w Y 2 k.toNatClampNeg (2 : Int32)) inp (k + (1 : Int32))) from by rw [fm_reaA, if_neg c_13, if_pos c_23]] at kq
        exact ih T M (y2w Y 2 k.toNatClampNeg (2 : Int32)) V inp (k + (1 : Int32)) hS (by have a := st_up hS c_13; omega) (by have a := st_up hS c_13; omega) (by have a := st_up hS c_13; omega) kq
      · skip
        refine aw_iload_n (pc := 26) (i := 1) (x := inp) F dM_react_26 rfl rfl ?_
        refine aw_iload_n (pc := 27) (i := 2) (x := k) F dM_react_27 rfl rfl ?_
        refine aw_ishr (pc := 28) F dM_react_28 ?_
        refine aw_iconst (pc := 29) (v := 1) F dM_react_29 (by decide) ?_
        refine aw_iand (pc := 30) F dM_react_30 ?_
        refine aw_goto (pc := 31) F 35 dM_react_31 (by decide) ?_
        refine aw_iast (pc := 35) (hp' := (hC ad cI S P X ++ (hM ad cI cZ T M (y2w Y 2 k.toNatClampNeg ((inp >>> (k &&& 31)) &&& (1 : Int32))) V ++ tl))) F 27 0 hM_at27 rfl (st_in hS h1 c_13) hM_st27 dM_react_35 ?_
        refine aw_iinc (pc := 36) (x := k) (v := k + (1 : Int32)) (L' := [some (.ref (ad 13)), some (.int inp), some (.int (k + (1 : Int32))), none, none]) F dM_react_36 rfl rfl (by decide) rfl ?_
        refine aw_goto (pc := 39) F 2 dM_react_39 (by decide) ?_
        rw [show (fm_reaA (n + 1) M Y inp k) = (fm_reaA n M (y2w Y 2 k.toNatClampNeg ((inp >>> (k &&& 31)) &&& (1 : Int32))) inp (k + (1 : Int32))) from by rw [fm_reaA, if_neg c_13, if_neg c_23]] at kq
        exact ih T M (y2w Y 2 k.toNatClampNeg ((inp >>> (k &&& 31)) &&& (1 : Int32))) V inp (k + (1 : Int32)) hS (by have a := st_up hS c_13; omega) (by have a := st_up hS c_13; omega) (by have a := st_up hS c_13; omega) kq
def fm_reaB : Nat → mT → vT → Int32 → Int32 → Int32 → Int32 × vT
  | 0, M, V, mo, co, k => (k, V)
  | n + 1, M, V, mo, co, k =>
      if ((16 : Int32) + ((27 : Int32) * (M.1 0))) ≤ k then
      (k, V)
    else
      (fm_reaB n M (v2w (v2w V 1 k.toNatClampNeg (vp_nar .boolean (0 : Int32))) 2 k.toNatClampNeg (vp_nar .boolean (0 : Int32))) mo co (k + (1 : Int32)))
set_option maxRecDepth 100000 in
set_option maxHeartbeats 4000000 in
theorem tM_react_X53 {l : Launch} {D : va_G} {A : Nat → Prop} {ad : Nat → Nat} {tP : Nat} {cI cZ : ClassId} {S : kT} {P : pT} {X : xT} {tl : List va_E} {tyr : List (ClassId × FieldType)} {p : Program} {e : Env} {R : Room} {s : State} {m : MethodId} {args : Array Value} {below : List Frame} {meth : Method} {c : Code} {Q : State → Prop} (F : aw_F p s m c args cM_react 5 (Cond.code yM_react cM_react 5 (some .int) :: aw_big) yM_react.cls D vwCl ((cI, .int) :: (cZ, .boolean) :: tyr)) (Zs : zC A tP s) :
    ∀ (n : Nat) (T : Int32) (M : mT) (Y : yT) (V : vT) (mo : Int32) (co : Int32) (k : Int32) (hS : mS M) (h1 : 0 ≤ k.toInt) (h2 : k.toInt ≤ 3256) (hm : 3256 < k.toInt + n), aW p l e R s m args below meth c 0 0 Q D vwCl A ad 5 (hC ad cI S P X ++ (hM ad cI cZ T M Y ((fm_reaB n M V mo co k).2) ++ tl)) [some (.ref (ad 13)), none, some (.int mo), some (.int co), some (.int ((fm_reaB n M V mo co k).1))] 90 [] → aW p l e R s m args below meth c 0 0 Q D vwCl A ad 5 (hC ad cI S P X ++ (hM ad cI cZ T M Y V ++ tl)) [some (.ref (ad 13)), none, some (.int mo), some (.int co), some (.int k)] 53 [] := by
  intro n
  induction n with
  | zero =>
    intro T M Y V mo co k hS h1 h2 hm kq
    exfalso; omega
  | succ n ih =>
    intro T M Y V mo co k hS h1 h2 hm kq
    refine aw_iload (pc := 53) (i := 4) (x := k) F dM_react_53 rfl ?_
    refine aw_bipush (pc := 55) (v := 16) F dM_react_55 (by decide) ?_
    refine aw_bipush (pc := 57) (v := 27) F dM_react_57 (by decide) ?_
    refine aw_aload_n (pc := 59) (i := 0) (x := ad 13) F dM_react_59 rfl rfl ?_
    refine aw_get (pc := 60) (v := .int (M.1 0)) F 13 hM_at13 rfl 1 (by decide) (fun w h => mw (iw_M w h)) (mw wd_650) rfl dM_react_60 ?_
    refine aw_imul (pc := 63) F dM_react_63 ?_
    refine aw_iadd (pc := 64) F dM_react_64 ?_
    refine aw_icmp_ge (pc := 65) F 90 dM_react_65 (by decide) (fun c_65 => ?_) (fun c_65 => ?_)
    · skip
      rw [show (fm_reaB (n + 1) M V mo co k) = (k, V) from by rw [fm_reaB, if_pos c_65]] at kq
      exact kq
    · skip
      refine aw_aload_n (pc := 68) (i := 0) (x := ad 13) F dM_react_68 rfl rfl ?_
      refine aw_get (pc := 69) (v := .ref (ad 29)) F 13 hM_at13 rfl 24 (by decide) (fun w h => mw (iw_M w h)) (mw wd_673) rfl dM_react_69 ?_
      refine aw_iload (pc := 72) (i := 4) (x := k) F dM_react_72 rfl ?_
      refine aw_iconst (pc := 74) (v := 0) F dM_react_74 (by decide) ?_
      refine aw_zast (pc := 75) (hp' := (hC ad cI S P X ++ (hM ad cI cZ T M Y (v2w V 1 k.toNatClampNeg (vp_nar .boolean (0 : Int32))) ++ tl))) F 29 1 hM_at29 rfl (st_in hS h1 c_65) hM_st29 dM_react_75 ?_
      refine aw_aload_n (pc := 76) (i := 0) (x := ad 13) F dM_react_76 rfl rfl ?_
      refine aw_get (pc := 77) (v := .ref (ad 30)) F 13 hM_at13 rfl 25 (by decide) (fun w h => mw (iw_M w h)) (mw wd_674) rfl dM_react_77 ?_
      refine aw_iload (pc := 80) (i := 4) (x := k) F dM_react_80 rfl ?_
      refine aw_iconst (pc := 82) (v := 0) F dM_react_82 (by decide) ?_
      refine aw_zast (pc := 83) (hp' := (hC ad cI S P X ++ (hM ad cI cZ T M Y (v2w (v2w V 1 k.toNatClampNeg (vp_nar .boolean (0 : Int32))) 2 k.toNatClampNeg (vp_nar .boolean (0 : Int32))) ++ tl))) F 30 1 hM_at30 rfl (st_in hS h1 c_65) hM_st30 dM_react_83 ?_
      refine aw_iinc (pc := 84) (x := k) (v := k + (1 : Int32)) (L' := [some (.ref (ad 13)), none, some (.int mo), some (.int co), some (.int (k + (1 : Int32)))]) F dM_react_84 rfl rfl (by decide) rfl ?_
      refine aw_goto (pc := 87) F 53 dM_react_87 (by decide) ?_
      rw [show (fm_reaB (n + 1) M V mo co k) = (fm_reaB n M (v2w (v2w V 1 k.toNatClampNeg (vp_nar .boolean (0 : Int32))) 2 k.toNatClampNeg (vp_nar .boolean (0 : Int32))) mo co (k + (1 : Int32))) from by rw [fm_reaB, if_neg c_65]] at kq
      exact ih T M Y (v2w (v2w V 1 k.toNatClampNeg (vp_nar .boolean (0 : Int32))) 2 k.toNatClampNeg (vp_nar .boolean (0 : Int32))) mo co (k + (1 : Int32)) hS (by have a := st_up hS c_65; omega) (by have a := st_up hS c_65; omega) (by have a := st_up hS c_65; omega) kq
def fm_reaC : Nat → vT → Int32 → Int32 → Int32 → Int32 × vT
  | 0, V, mo, co, k => (k, V)
  | n + 1, V, mo, co, k =>
      if (16 : Int32) ≤ k then (k, V) else (fm_reaC n (v2w V 3 k.toNatClampNeg k) mo co (k + (1 : Int32)))
set_option maxRecDepth 100000 in
set_option maxHeartbeats 4000000 in
theorem tM_react_X93 {l : Launch} {D : va_G} {A : Nat → Prop} {ad : Nat → Nat} {tP : Nat} {cI cZ : ClassId} {S : kT} {P : pT} {X : xT} {tl : List va_E} {tyr : List (ClassId × FieldType)} {p : Program} {e : Env} {R : Room} {s : State} {m : MethodId} {args : Array Value} {below : List Frame} {meth : Method} {c : Code} {Q : State → Prop} (F : aw_F p s m c args cM_react 5 (Cond.code yM_react cM_react 5 (some .int) :: aw_big) yM_react.cls D vwCl ((cI, .int) :: (cZ, .boolean) :: tyr)) (Zs : zC A tP s) :
    ∀ (n : Nat) (T : Int32) (M : mT) (Y : yT) (V : vT) (mo : Int32) (co : Int32) (k : Int32) (h1 : 0 ≤ k.toInt) (h2 : k.toInt ≤ 16) (hm : 16 < k.toInt + n), aW p l e R s m args below meth c 0 0 Q D vwCl A ad 5 (hC ad cI S P X ++ (hM ad cI cZ T M Y ((fm_reaC n V mo co k).2) ++ tl)) [some (.ref (ad 13)), none, some (.int mo), some (.int co), some (.int ((fm_reaC n V mo co k).1))] 115 [] → aW p l e R s m args below meth c 0 0 Q D vwCl A ad 5 (hC ad cI S P X ++ (hM ad cI cZ T M Y V ++ tl)) [some (.ref (ad 13)), none, some (.int mo), some (.int co), some (.int k)] 93 [] := by
  intro n
  induction n with
  | zero =>
    intro T M Y V mo co k h1 h2 hm kq
    exfalso; omega
  | succ n ih =>
    intro T M Y V mo co k h1 h2 hm kq
    refine aw_iload (pc := 93) (i := 4) (x := k) F dM_react_93 rfl ?_
    refine aw_bipush (pc := 95) (v := 16) F dM_react_95 (by decide) ?_
    refine aw_icmp_ge (pc := 97) F 115 dM_react_97 (by decide) (fun c_97 => ?_) (fun c_97 => ?_)
    · skip
      rw [show (fm_reaC (n + 1) V mo co k) = (k, V) from by rw [fm_reaC, if_pos c_97]] at kq
      exact kq
    · skip
      refine aw_aload_n (pc := 100) (i := 0) (x := ad 13) F dM_react_100 rfl rfl ?_
      refine aw_get (pc := 101) (v := .ref (ad 31)) F 13 hM_at13 rfl 26 (by decide) (fun w h => mw (iw_M w h)) (mw wd_675) rfl dM_react_101 ?_
      refine aw_iload (pc := 104) (i := 4) (x := k) F dM_react_104 rfl ?_
      refine aw_iload (pc := 106) (i := 4) (x := k) F dM_react_106 rfl ?_
      refine aw_iast (pc := 108) (hp' := (hC ad cI S P X ++ (hM ad cI cZ T M Y (v2w V 3 k.toNatClampNeg k) ++ tl))) F 31 0 hM_at31 rfl (vp_in_iff.mpr (by have a := i_lt c_97; have e : (16 : Int32).toInt = 16 := rfl; omega)) hM_st31 dM_react_108 ?_
      refine aw_iinc (pc := 109) (x := k) (v := k + (1 : Int32)) (L' := [some (.ref (ad 13)), none, some (.int mo), some (.int co), some (.int (k + (1 : Int32)))]) F dM_react_109 rfl rfl (by decide) rfl ?_
      refine aw_goto (pc := 112) F 93 dM_react_112 (by decide) ?_
      rw [show (fm_reaC (n + 1) V mo co k) = (fm_reaC n (v2w V 3 k.toNatClampNeg k) mo co (k + (1 : Int32))) from by rw [fm_reaC, if_neg c_97]] at kq
      exact ih T M Y (v2w V 3 k.toNatClampNeg k) mo co (k + (1 : Int32)) (by have a := i_up (i_lt c_97); omega) (by have a := i_up (i_lt c_97); have b := i_lt c_97; have e : (16 : Int32).toInt = 16 := rfl; omega) (by have a := i_up (i_lt c_97); omega) kq
def fm_reaD : Nat → vT → Int32 → Int32 → Int32 → Int32 × vT
  | 0, V, mo, co, k => (k, V)
  | n + 1, V, mo, co, k =>
      if (32 : Int32) ≤ k then
      (k, V)
    else
      (fm_reaD n (v2w V 0 k.toNatClampNeg (vp_nar .boolean (0 : Int32))) mo co (k + (1 : Int32)))
set_option maxRecDepth 100000 in
set_option maxHeartbeats 4000000 in
theorem tM_react_X118 {l : Launch} {D : va_G} {A : Nat → Prop} {ad : Nat → Nat} {tP : Nat} {cI cZ : ClassId} {S : kT} {P : pT} {X : xT} {tl : List va_E} {tyr : List (ClassId × FieldType)} {p : Program} {e : Env} {R : Room} {s : State} {m : MethodId} {args : Array Value} {below : List Frame} {meth : Method} {c : Code} {Q : State → Prop} (F : aw_F p s m c args cM_react 5 (Cond.code yM_react cM_react 5 (some .int) :: aw_big) yM_react.cls D vwCl ((cI, .int) :: (cZ, .boolean) :: tyr)) (Zs : zC A tP s) :
    ∀ (n : Nat) (T : Int32) (M : mT) (Y : yT) (V : vT) (mo : Int32) (co : Int32) (k : Int32) (h1 : 0 ≤ k.toInt) (h2 : k.toInt ≤ 32) (hm : 32 < k.toInt + n), aW p l e R s m args below meth c 0 0 Q D vwCl A ad 5 (hC ad cI S P X ++ (hM ad cI cZ T M Y ((fm_reaD n V mo co k).2) ++ tl)) [some (.ref (ad 13)), none, some (.int mo), some (.int co), some (.int ((fm_reaD n V mo co k).1))] 139 [] → aW p l e R s m args below meth c 0 0 Q D vwCl A ad 5 (hC ad cI S P X ++ (hM ad cI cZ T M Y V ++ tl)) [some (.ref (ad 13)), none, some (.int mo), some (.int co), some (.int k)] 118 [] := by
  intro n
  induction n with
  | zero =>
    intro T M Y V mo co k h1 h2 hm kq
    exfalso; omega
  | succ n ih =>
    intro T M Y V mo co k h1 h2 hm kq
    refine aw_iload (pc := 118) (i := 4) (x := k) F dM_react_118 rfl ?_
    refine aw_bipush (pc := 120) (v := 32) F dM_react_120 (by decide) ?_
    refine aw_icmp_ge (pc := 122) F 139 dM_react_122 (by decide) (fun c_122 => ?_) (fun c_122 => ?_)
    · skip
      rw [show (fm_reaD (n + 1) V mo co k) = (k, V) from by rw [fm_reaD, if_pos c_122]] at kq
      exact kq
    · skip
      refine aw_aload_n (pc := 125) (i := 0) (x := ad 13) F dM_react_125 rfl rfl ?_
      refine aw_get (pc := 126) (v := .ref (ad 28)) F 13 hM_at13 rfl 21 (by decide) (fun w h => mw (iw_M w h)) (mw wd_670) rfl dM_react_126 ?_
      refine aw_iload (pc := 129) (i := 4) (x := k) F dM_react_129 rfl ?_
      refine aw_iconst (pc := 131) (v := 0) F dM_react_131 (by decide) ?_
      refine aw_zast (pc := 132) (hp' := (hC ad cI S P X ++ (hM ad cI cZ T M Y (v2w V 0 k.toNatClampNeg (vp_nar .boolean (0 : Int32))) ++ tl))) F 28 1 hM_at28 rfl (vp_in_iff.mpr (by have a := i_lt c_122; have e : (32 : Int32).toInt = 32 := rfl; omega)) hM_st28 dM_react_132 ?_
      refine aw_iinc (pc := 133) (x := k) (v := k + (1 : Int32)) (L' := [some (.ref (ad 13)), none, some (.int mo), some (.int co), some (.int (k + (1 : Int32)))]) F dM_react_133 rfl rfl (by decide) rfl ?_
      refine aw_goto (pc := 136) F 118 dM_react_136 (by decide) ?_
      rw [show (fm_reaD (n + 1) V mo co k) = (fm_reaD n (v2w V 0 k.toNatClampNeg (vp_nar .boolean (0 : Int32))) mo co (k + (1 : Int32))) from by rw [fm_reaD, if_neg c_122]] at kq
      exact ih T M Y (v2w V 0 k.toNatClampNeg (vp_nar .boolean (0 : Int32))) mo co (k + (1 : Int32)) (by have a := i_up (i_lt c_122); omega) (by have a := i_up (i_lt c_122); have b := i_lt c_122; have e : (32 : Int32).toInt = 32 := rfl; omega) (by have a := i_up (i_lt c_122); omega) kq
theorem reaC_m (mo co : Int32) : ∀ (n : Nat) (V : vT) (j : Nat), j ≤ 16 → 16 < j + n → (∀ s : Nat, s < 16 → (fm_reaC n V mo co (nI j)).2.2 3 s = if j ≤ s then nI s else V.2 3 s) ∧ (fm_reaC n V mo co (nI j)).2.1 = V.1 := by
  intro n
  induction n with
  | zero => intro V j h1 h2; exfalso; omega
  | succ n ih =>
    intro V j h1 h2
    unfold fm_reaC
    by_cases a : (16 : Int32) ≤ nI j
    · rw [if_pos a]
      have a' : nI 16 ≤ nI j := a
      rw [nI_leI (by decide) (by omega)] at a'
      refine ⟨fun s hs => ?_, rfl⟩
      rw [if_neg (by omega)]
    · rw [if_neg a]
      have a' : ¬ nI 16 ≤ nI j := a
      rw [nI_leI (by decide) (by omega)] at a'
      have e : nI j + (1 : Int32) = nI (j + 1) := nI_1 j
      rw [e]
      obtain ⟨q1, q2⟩ := ih (v2w V 3 (nI j).toNatClampNeg (nI j)) (j + 1) (by omega) (by omega)
      refine ⟨fun s hs => ?_, q2⟩
      rw [q1 s hs, nI_clamp (by omega)]
      by_cases b : s = j
      · subst b
        rw [if_neg (by omega), if_pos (Nat.le_refl _)]
        show (if s = s then nI s else _) = _
        rw [if_pos rfl]
      · by_cases d : j ≤ s
        · rw [if_pos (by omega), if_pos d]
        · rw [if_neg (by omega), if_neg d]
          show (if s = j then nI j else V.2 3 s) = _
          rw [if_neg b]
theorem reaD_k (mo co : Int32) : ∀ (n : Nat) (V : vT) (k : Int32), (fm_reaD n V mo co k).2.2 3 = V.2 3 ∧ (fm_reaD n V mo co k).2.1 = V.1 := by
  intro n
  induction n with
  | zero => intro V k; exact ⟨rfl, rfl⟩
  | succ n ih =>
    intro V k
    unfold fm_reaD
    by_cases a : (32 : Int32) ≤ k
    · rw [if_pos a]; exact ⟨rfl, rfl⟩
    · rw [if_neg a]
      exact ih (v2w V 0 k.toNatClampNeg (vp_nar .boolean (0 : Int32))) (k + (1 : Int32))
theorem rea_v0 {Q : vT} (h : ∀ s : Nat, s < 16 → Q.2 3 s = nI s) : vI (v1w (v1w Q 0 (0 : Int32)) 1 (0 : Int32)) := by
  refine ⟨fun s hs => ?_, show 0 ≤ (0 : Int32).toInt by decide, show (0 : Int32).toInt ≤ 25 by decide⟩
  show vp_in (Q.2 3 s) 3256
  rw [h s hs]
  exact vp_in_nI (by omega) (by decide)
theorem reaC_m0 {V : vT} {mo co k : Int32} (hk : k = nI 0) : ∀ s : Nat, s < 16 → (fm_reaC 17 V mo co k).2.2 3 s = nI s := by
  subst hk
  intro s hs
  rw [(reaC_m mo co 17 V 0 (by decide) (by decide)).1 s hs, if_pos (Nat.zero_le s)]
theorem reaD_0 {Q : vT} {mo co k : Int32} (h : ∀ s : Nat, s < 16 → Q.2 3 s = nI s) : ∀ s : Nat, s < 16 → (fm_reaD 33 Q mo co k).2.2 3 s = nI s := by
  intro s hs
  rw [(reaD_k mo co 33 Q k).1]
  exact h s hs
theorem rea_v (V : vT) (mo co : Int32) : vI (v1w (v1w (fm_reaD 33 (fm_reaC 17 V mo co (0 : Int32)).2 mo co (0 : Int32)).2 0 (0 : Int32)) 1 (0 : Int32)) := rea_v0 (reaD_0 (reaC_m0 nI_0.symm))
def ncnt (f : Nat → Int32) : Nat → Nat
  | 0 => 0
  | k + 1 => ncnt f k + (if f k = (2 : Int32) then 1 else 0)
theorem ncnt_le (f : Nat → Int32) : ∀ N : Nat, ncnt f N ≤ N := by
  intro N
  induction N with
  | zero => exact Nat.le_refl _
  | succ N ih =>
    show ncnt f N + _ ≤ N + 1
    split <;> omega
theorem ncnt_up {f : Nat → Int32} {j : Nat} {v : Int32} (hj : f j = (2 : Int32)) (hv : ¬ v = (2 : Int32)) : ∀ N : Nat, (j < N → ncnt (upd f j v) N + 1 = ncnt f N) ∧ (N ≤ j → ncnt (upd f j v) N = ncnt f N) := by
  intro N
  induction N with
  | zero => exact ⟨fun h => absurd h (Nat.not_lt_zero _), fun _ => rfl⟩
  | succ N ih =>
    have e : ncnt (upd f j v) (N + 1) = ncnt (upd f j v) N + (if upd f j v N = (2 : Int32) then 1 else 0) := rfl
    have e2 : ncnt f (N + 1) = ncnt f N + (if f N = (2 : Int32) then 1 else 0) := rfl
    rw [e, e2]
    by_cases q : N = j
    · subst q
      have u : upd f N v N = v := pk_us
      rw [u, if_neg hv, if_pos hj, ih.2 (Nat.le_refl _)]
      exact ⟨fun _ => rfl, fun h => absurd h (Nat.not_succ_le_self _)⟩
    · have u : upd f j v N = f N := pk_un q
      rw [u]
      refine ⟨fun h => ?_, fun h => ?_⟩
      · have := ih.1 (by omega); omega
      · have := ih.2 (by omega); omega
theorem lrn_cnt {M : mT} {V : vT} (hS : mS M) : ∀ (n : Nat) (Y : yT) (mo k : Int32), 0 ≤ k.toInt → ncnt ((fm_lrnL n M Y V mo k).2.2.2 2) 3256 ≤ ncnt (Y.2 2) 3256 ∧ (¬ (fm_lrnL n M Y V mo k).1 = 0 → ¬ mo = 0 ∨ ncnt ((fm_lrnL n M Y V mo k).2.2.2 2) 3256 < ncnt (Y.2 2) 3256) := by
  intro n
  induction n with
  | zero => intro Y mo k _; exact ⟨Nat.le_refl _, fun h => Or.inl h⟩
  | succ n ih =>
    intro Y mo k hk
    unfold fm_lrnL
    by_cases a : ((16 : Int32) + ((27 : Int32) * (M.1 0))) ≤ k
    · rw [if_pos a]; exact ⟨Nat.le_refl _, fun h => Or.inl h⟩
    rw [if_neg a]
    have up := st_up hS a
    have hk' : 0 ≤ (k + (1 : Int32)).toInt := by omega
    have kin : k.toNatClampNeg < 3256 := by have := i_nat hk; omega
    by_cases b : (Y.2 2) k.toNatClampNeg = (2 : Int32)
    · rw [if_pos b]
      have two : ∀ v : Int32, ¬ v = (2 : Int32) → ncnt ((fm_lrnL n M (y2w Y 2 k.toNatClampNeg v) V (1 : Int32) (k + (1 : Int32))).2.2.2 2) 3256 < ncnt (Y.2 2) 3256 := by
        intro v hv
        have c1 := (ih (y2w Y 2 k.toNatClampNeg v) (1 : Int32) (k + (1 : Int32)) hk').1
        have c2 : ncnt ((y2w Y 2 k.toNatClampNeg v).2 2) 3256 + 1 = ncnt (Y.2 2) 3256 := (ncnt_up b hv 3256).1 kin
        omega
      by_cases c : (V.2 1) k.toNatClampNeg = 0
      · rw [if_pos c]
        by_cases d : (V.2 2) k.toNatClampNeg = 0
        · rw [if_pos d, if_pos c]
          have := two (0 : Int32) (by decide)
          exact ⟨Nat.le_of_lt this, fun _ => Or.inr this⟩
        · rw [if_neg d]; exact ih _ _ _ hk'
      · rw [if_neg c, if_neg c]
        have := two (1 : Int32) (by decide)
        exact ⟨Nat.le_of_lt this, fun _ => Or.inr this⟩
    · rw [if_neg b]; exact ih _ _ _ hk'
theorem rea_m {M : mT} {Y : yT} {V : vT} {mo : Int32} {n : Nat} (hS : mS M) (hmo : ¬ mo = 0) (hm : (if mo = 0 then 0 else ncnt (Y.2 2) 3256 + 1) < n + 1) : (if (fm_learns M Y V).1 = 0 then 0 else ncnt ((fm_learns M Y V).2.2 2) 3256 + 1) < n := by
  rw [if_neg hmo] at hm
  by_cases a : (fm_learns M Y V).1 = 0
  · rw [if_pos a]; omega
  · rw [if_neg a]
    rcases (lrn_cnt (V := V) hS 3257 Y (0 : Int32) (4 : Int32) (by decide)).2 a with b | b
    · exact absurd rfl b
    · have b' : ncnt ((fm_learns M Y V).2.2 2) 3256 < ncnt (Y.2 2) 3256 := b
      omega
def fm_reaW : Nat → mT → yT → vT → Int32 → Int32 → Int32 × Int32 × yT × vT
  | 0, M, Y, V, mo, co => (mo, co, Y, V)
  | n + 1, M, Y, V, mo, co =>
      if mo = 0 then
      (mo, co, Y, V)
    else
      (fm_reaW n M ((fm_learns M Y ((fm_run 121 M Y (v1w (v1w ((fm_reaD 33 ((fm_reaC 17 ((fm_reaB 3257 M V mo co (0 : Int32)).2) mo co (0 : Int32)).2) mo co (0 : Int32)).2) 0 (0 : Int32)) 1 (0 : Int32)) (0 : Int32) (Y.1 2) (1 : Int32)).2)).2) ((fm_run 121 M Y (v1w (v1w ((fm_reaD 33 ((fm_reaC 17 ((fm_reaB 3257 M V mo co (0 : Int32)).2) mo co (0 : Int32)).2) mo co (0 : Int32)).2) 0 (0 : Int32)) 1 (0 : Int32)) (0 : Int32) (Y.1 2) (1 : Int32)).2) ((fm_learns M Y ((fm_run 121 M Y (v1w (v1w ((fm_reaD 33 ((fm_reaC 17 ((fm_reaB 3257 M V mo co (0 : Int32)).2) mo co (0 : Int32)).2) mo co (0 : Int32)).2) 0 (0 : Int32)) 1 (0 : Int32)) (0 : Int32) (Y.1 2) (1 : Int32)).2)).1) (fm_mustOf ((fm_run 121 M Y (v1w (v1w ((fm_reaD 33 ((fm_reaC 17 ((fm_reaB 3257 M V mo co (0 : Int32)).2) mo co (0 : Int32)).2) mo co (0 : Int32)).2) 0 (0 : Int32)) 1 (0 : Int32)) (0 : Int32) (Y.1 2) (1 : Int32)).1)))
set_option maxRecDepth 100000 in
set_option maxHeartbeats 4000000 in
theorem tM_react_X46 {l : Launch} {D : va_G} {A : Nat → Prop} {ad : Nat → Nat} {tP : Nat} {cI cZ : ClassId} {S : kT} {P : pT} {X : xT} {tl : List va_E} {tyr : List (ClassId × FieldType)} {p : Program} {e : Env} {s : State} {m : MethodId} {args : Array Value} {below : List Frame} {meth : Method} {c : Code} {Q : State → Prop} (F : aw_F p s m c args cM_react 5 (Cond.code yM_react cM_react 5 (some .int) :: aw_big) yM_react.cls D vwCl ((cI, .int) :: (cZ, .boolean) :: tyr)) (Zs : zC A tP s) :
    ∀ (n : Nat) (T : Int32) (M : mT) (Y : yT) (V : vT)  (mo : Int32) (co : Int32) (hw : mW M) (h0 : 0 < (M.1 0).toInt) (hm : (if mo = 0 then 0 else ncnt (Y.2 2) 3256 + 1) < n), aW p l e (aw_rm 401) s m args below meth c 0 0 Q D vwCl A ad 5 (hC ad cI S P X ++ (hM ad cI cZ T M ((fm_reaW n M Y V mo co).2.2.1) ((fm_reaW n M Y V mo co).2.2.2) ++ tl)) [some (.ref (ad 13)), none, some (.int ((fm_reaW n M Y V mo co).1)), some (.int ((fm_reaW n M Y V mo co).2.1)), none] 171 [] → aW p l e (aw_rm 401) s m args below meth c 0 0 Q D vwCl A ad 5 (hC ad cI S P X ++ (hM ad cI cZ T M Y V ++ tl)) [some (.ref (ad 13)), none, some (.int mo), some (.int co), none] 46 [] := by
  intro n
  induction n with
  | zero =>
    intro T M Y V mo co hw h0 hm kq
    exact absurd hm (Nat.not_lt_zero _)
  | succ n ih =>
    intro T M Y V mo co hw h0 hm kq
    refine aw_iload_n (pc := 46) (i := 2) (x := mo) F dM_react_46 rfl rfl ?_
    refine aw_if_eq (pc := 47) F 171 dM_react_47 (by decide) (fun c_47 => ?_) (fun c_47 => ?_)
    · skip
      rw [show (fm_reaW (n + 1) M Y V mo co) = (mo, co, Y, V) from by rw [fm_reaW, if_pos c_47]] at kq
      exact kq
    · skip
      refine aw_iconst (pc := 50) (v := 0) F dM_react_50 (by decide) ?_
      refine aw_istore (pc := 51) (i := 4) (L' := [some (.ref (ad 13)), none, some (.int mo), some (.int co), some (.int (0 : Int32))]) F dM_react_51 (by decide) rfl ?_
      refine tM_react_X53  F Zs 3257 T M Y V mo co (0 : Int32) hw.1 (by decide) (by decide) (by decide) ?_
      refine aw_iconst (pc := 90) (v := 0) F dM_react_90 (by decide) ?_
      refine aw_istore (pc := 91) (i := 4) (L' := [some (.ref (ad 13)), none, some (.int mo), some (.int co), some (.int (0 : Int32))]) F dM_react_91 (by decide) rfl ?_
      refine tM_react_X93  F Zs 17 T M Y ((fm_reaB 3257 M V mo co (0 : Int32)).2) mo co (0 : Int32) (by decide) (by decide) (by decide) ?_
      refine aw_iconst (pc := 115) (v := 0) F dM_react_115 (by decide) ?_
      refine aw_istore (pc := 116) (i := 4) (L' := [some (.ref (ad 13)), none, some (.int mo), some (.int co), some (.int (0 : Int32))]) F dM_react_116 (by decide) rfl ?_
      refine tM_react_X118  F Zs 33 T M Y ((fm_reaC 17 ((fm_reaB 3257 M V mo co (0 : Int32)).2) mo co (0 : Int32)).2) mo co (0 : Int32) (by decide) (by decide) (by decide) ?_
      refine aw_aload_n (pc := 139) (i := 0) (x := ad 13) F dM_react_139 rfl rfl ?_
      refine aw_iconst (pc := 140) (v := 0) F dM_react_140 (by decide) ?_
      refine aw_put (pc := 141) (hp' := (hC ad cI S P X ++ (hM ad cI cZ T M Y (v1w ((fm_reaD 33 ((fm_reaC 17 ((fm_reaB 3257 M V mo co (0 : Int32)).2) mo co (0 : Int32)).2) mo co (0 : Int32)).2) 0 (0 : Int32)) ++ tl))) F 13 hM_at13 rfl 27 (by decide) (fun w h => mw (iw_M w h)) tyM tyM_ok nmM (mw wd_676) (ty := .int) rfl (by decide +kernel) rfl rfl (Nat.le_of_ble_eq_true rfl) hM_st13_27 dM_react_141 ?_
      refine aw_aload_n (pc := 144) (i := 0) (x := ad 13) F dM_react_144 rfl rfl ?_
      refine aw_iconst (pc := 145) (v := 0) F dM_react_145 (by decide) ?_
      refine aw_put (pc := 146) (hp' := (hC ad cI S P X ++ (hM ad cI cZ T M Y (v1w (v1w ((fm_reaD 33 ((fm_reaC 17 ((fm_reaB 3257 M V mo co (0 : Int32)).2) mo co (0 : Int32)).2) mo co (0 : Int32)).2) 0 (0 : Int32)) 1 (0 : Int32)) ++ tl))) F 13 hM_at13 rfl 28 (by decide) (fun w h => mw (iw_M w h)) tyM tyM_ok nmM (mw wd_677) (ty := .boolean) rfl (by decide +kernel) rfl rfl (Nat.le_of_ble_eq_true rfl) hM_st13_28 dM_react_146 ?_
      refine aw_aload_n (pc := 149) (i := 0) (x := ad 13) F dM_react_149 rfl rfl ?_
      refine aw_iconst (pc := 150) (v := 0) F dM_react_150 (by decide) ?_
      refine aw_aload_n (pc := 151) (i := 0) (x := ad 13) F dM_react_151 rfl rfl ?_
      refine aw_get (pc := 152) (v := .int (Y.1 2)) F 13 hM_at13 rfl 19 (by decide) (fun w h => mw (iw_M w h)) (mw wd_668) rfl dM_react_152 ?_
      refine aw_iconst (pc := 155) (v := 1) F dM_react_155 (by decide) ?_
      refine aw_goV (pc := 156) (As := [.int (0 : Int32), .int (Y.1 2), .int (1 : Int32)]) (rest := []) F zC_ok Zs 13 hM_at13 rfl (tM_runN T M Y hw 121 (v1w (v1w ((fm_reaD 33 ((fm_reaC 17 ((fm_reaB 3257 M V mo co (0 : Int32)).2) mo co (0 : Int32)).2) mo co (0 : Int32)).2) 0 (0 : Int32)) 1 (0 : Int32)) (0 : Int32) (Y.1 2) (1 : Int32) (mC_big hw ⟨Int.le_refl _, h0⟩) (rea_v _ _ _)) (cwV 3 F.1.2.2.2.2 (gi_V wd_791 wd_793 wd_51 wd_67 wd_794) rfl rfl rfl (by decide +kernel) ⟨by decide, by decide⟩) rfl (Nat.le_of_ble_eq_true rfl) ⟨Nat.zero_le _, Nat.zero_le _⟩ rfl dM_react_156 ?_
      show aW _ _ _ _ _ _ _ _ _ _ _ _ _ _ _ _ _ _ _ _ _ [.int ((fm_run 121 M Y (v1w (v1w ((fm_reaD 33 ((fm_reaC 17 ((fm_reaB 3257 M V mo co (0 : Int32)).2) mo co (0 : Int32)).2) mo co (0 : Int32)).2) 0 (0 : Int32)) 1 (0 : Int32)) (0 : Int32) (Y.1 2) (1 : Int32)).1)]
      refine aw_goS (pc := 159) (As := [.int ((fm_run 121 M Y (v1w (v1w ((fm_reaD 33 ((fm_reaC 17 ((fm_reaB 3257 M V mo co (0 : Int32)).2) mo co (0 : Int32)).2) mo co (0 : Int32)).2) 0 (0 : Int32)) 1 (0 : Int32)) (0 : Int32) (Y.1 2) (1 : Int32)).1)]) (rest := []) F zC_ok Zs (tM_mustOf  T M Y ((fm_run 121 M Y (v1w (v1w ((fm_reaD 33 ((fm_reaC 17 ((fm_reaB 3257 M V mo co (0 : Int32)).2) mo co (0 : Int32)).2) mo co (0 : Int32)).2) 0 (0 : Int32)) 1 (0 : Int32)) (0 : Int32) (Y.1 2) (1 : Int32)).2) ((fm_run 121 M Y (v1w (v1w ((fm_reaD 33 ((fm_reaC 17 ((fm_reaB 3257 M V mo co (0 : Int32)).2) mo co (0 : Int32)).2) mo co (0 : Int32)).2) 0 (0 : Int32)) 1 (0 : Int32)) (0 : Int32) (Y.1 2) (1 : Int32)).1)) (va_cwS 1 F.1.2.2.2.2 (gi_S wd_825 wd_826 wd_67 wd_827) rfl rfl rfl (by decide +kernel) ⟨by decide, by decide⟩) rfl (Nat.le_of_ble_eq_true rfl) ⟨Nat.zero_le _, Nat.zero_le _⟩ rfl dM_react_159 ?_
      show aW _ _ _ _ _ _ _ _ _ _ _ _ _ _ _ _ _ _ _ _ _ [.int (fm_mustOf ((fm_run 121 M Y (v1w (v1w ((fm_reaD 33 ((fm_reaC 17 ((fm_reaB 3257 M V mo co (0 : Int32)).2) mo co (0 : Int32)).2) mo co (0 : Int32)).2) 0 (0 : Int32)) 1 (0 : Int32)) (0 : Int32) (Y.1 2) (1 : Int32)).1))]
      refine aw_istore_n (pc := 162) (i := 3) (L' := [some (.ref (ad 13)), none, some (.int mo), some (.int (fm_mustOf ((fm_run 121 M Y (v1w (v1w ((fm_reaD 33 ((fm_reaC 17 ((fm_reaB 3257 M V mo co (0 : Int32)).2) mo co (0 : Int32)).2) mo co (0 : Int32)).2) 0 (0 : Int32)) 1 (0 : Int32)) (0 : Int32) (Y.1 2) (1 : Int32)).1))), some (.int ((fm_reaD 33 ((fm_reaC 17 ((fm_reaB 3257 M V mo co (0 : Int32)).2) mo co (0 : Int32)).2) mo co (0 : Int32)).1))]) F dM_react_162 rfl (by decide) rfl ?_
      refine aw_aload_n (pc := 163) (i := 0) (x := ad 13) F dM_react_163 rfl rfl ?_
      refine aw_goV (pc := 164) (As := []) (rest := []) F zC_ok Zs 13 hM_at13 rfl (tM_learns  T M Y ((fm_run 121 M Y (v1w (v1w ((fm_reaD 33 ((fm_reaC 17 ((fm_reaB 3257 M V mo co (0 : Int32)).2) mo co (0 : Int32)).2) mo co (0 : Int32)).2) 0 (0 : Int32)) 1 (0 : Int32)) (0 : Int32) (Y.1 2) (1 : Int32)).2)  hw.1) (cwV 0 F.1.2.2.2.2 (gi_V wd_844 wd_846 wd_62 wd_67 wd_847) rfl rfl rfl (by decide +kernel) ⟨by decide, by decide⟩) rfl (Nat.le_of_ble_eq_true rfl) ⟨Nat.zero_le _, Nat.zero_le _⟩ rfl dM_react_164 ?_
      show aW _ _ _ _ _ _ _ _ _ _ _ _ _ _ _ _ _ _ _ _ _ [.int ((fm_learns M Y ((fm_run 121 M Y (v1w (v1w ((fm_reaD 33 ((fm_reaC 17 ((fm_reaB 3257 M V mo co (0 : Int32)).2) mo co (0 : Int32)).2) mo co (0 : Int32)).2) 0 (0 : Int32)) 1 (0 : Int32)) (0 : Int32) (Y.1 2) (1 : Int32)).2)).1)]
      refine aw_istore_n (pc := 167) (i := 2) (L' := [some (.ref (ad 13)), none, some (.int ((fm_learns M Y ((fm_run 121 M Y (v1w (v1w ((fm_reaD 33 ((fm_reaC 17 ((fm_reaB 3257 M V mo co (0 : Int32)).2) mo co (0 : Int32)).2) mo co (0 : Int32)).2) 0 (0 : Int32)) 1 (0 : Int32)) (0 : Int32) (Y.1 2) (1 : Int32)).2)).1)), some (.int (fm_mustOf ((fm_run 121 M Y (v1w (v1w ((fm_reaD 33 ((fm_reaC 17 ((fm_reaB 3257 M V mo co (0 : Int32)).2) mo co (0 : Int32)).2) mo co (0 : Int32)).2) 0 (0 : Int32)) 1 (0 : Int32)) (0 : Int32) (Y.1 2) (1 : Int32)).1))), some (.int ((fm_reaD 33 ((fm_reaC 17 ((fm_reaB 3257 M V mo co (0 : Int32)).2) mo co (0 : Int32)).2) mo co (0 : Int32)).1))]) F dM_react_167 rfl (by decide) rfl ?_
      refine aw_goto (pc := 168) F 46 dM_react_168 (by decide) ?_
      rw [show (fm_reaW (n + 1) M Y V mo co) = (fm_reaW n M ((fm_learns M Y ((fm_run 121 M Y (v1w (v1w ((fm_reaD 33 ((fm_reaC 17 ((fm_reaB 3257 M V mo co (0 : Int32)).2) mo co (0 : Int32)).2) mo co (0 : Int32)).2) 0 (0 : Int32)) 1 (0 : Int32)) (0 : Int32) (Y.1 2) (1 : Int32)).2)).2) ((fm_run 121 M Y (v1w (v1w ((fm_reaD 33 ((fm_reaC 17 ((fm_reaB 3257 M V mo co (0 : Int32)).2) mo co (0 : Int32)).2) mo co (0 : Int32)).2) 0 (0 : Int32)) 1 (0 : Int32)) (0 : Int32) (Y.1 2) (1 : Int32)).2) ((fm_learns M Y ((fm_run 121 M Y (v1w (v1w ((fm_reaD 33 ((fm_reaC 17 ((fm_reaB 3257 M V mo co (0 : Int32)).2) mo co (0 : Int32)).2) mo co (0 : Int32)).2) 0 (0 : Int32)) 1 (0 : Int32)) (0 : Int32) (Y.1 2) (1 : Int32)).2)).1) (fm_mustOf ((fm_run 121 M Y (v1w (v1w ((fm_reaD 33 ((fm_reaC 17 ((fm_reaB 3257 M V mo co (0 : Int32)).2) mo co (0 : Int32)).2) mo co (0 : Int32)).2) 0 (0 : Int32)) 1 (0 : Int32)) (0 : Int32) (Y.1 2) (1 : Int32)).1))) from by rw [fm_reaW, if_neg c_47]] at kq
      refine aw_less (L' := [some (.ref (ad 13)), none, some (.int ((fm_learns M Y ((fm_run 121 M Y (v1w (v1w ((fm_reaD 33 ((fm_reaC 17 ((fm_reaB 3257 M V mo co (0 : Int32)).2) mo co (0 : Int32)).2) mo co (0 : Int32)).2) 0 (0 : Int32)) 1 (0 : Int32)) (0 : Int32) (Y.1 2) (1 : Int32)).2)).1)), some (.int (fm_mustOf ((fm_run 121 M Y (v1w (v1w ((fm_reaD 33 ((fm_reaC 17 ((fm_reaB 3257 M V mo co (0 : Int32)).2) mo co (0 : Int32)).2) mo co (0 : Int32)).2) 0 (0 : Int32)) 1 (0 : Int32)) (0 : Int32) (Y.1 2) (1 : Int32)).1))), none]) (fun i v h => by match i, h with | 0, h => exact h | 1, h => exact h | 2, h => exact h | 3, h => exact h | 4, h => cases h | _ + 5, h => cases h) ?_
      exact ih T M ((fm_learns M Y ((fm_run 121 M Y (v1w (v1w ((fm_reaD 33 ((fm_reaC 17 ((fm_reaB 3257 M V mo co (0 : Int32)).2) mo co (0 : Int32)).2) mo co (0 : Int32)).2) 0 (0 : Int32)) 1 (0 : Int32)) (0 : Int32) (Y.1 2) (1 : Int32)).2)).2) ((fm_run 121 M Y (v1w (v1w ((fm_reaD 33 ((fm_reaC 17 ((fm_reaB 3257 M V mo co (0 : Int32)).2) mo co (0 : Int32)).2) mo co (0 : Int32)).2) 0 (0 : Int32)) 1 (0 : Int32)) (0 : Int32) (Y.1 2) (1 : Int32)).2)  ((fm_learns M Y ((fm_run 121 M Y (v1w (v1w ((fm_reaD 33 ((fm_reaC 17 ((fm_reaB 3257 M V mo co (0 : Int32)).2) mo co (0 : Int32)).2) mo co (0 : Int32)).2) 0 (0 : Int32)) 1 (0 : Int32)) (0 : Int32) (Y.1 2) (1 : Int32)).2)).1) (fm_mustOf ((fm_run 121 M Y (v1w (v1w ((fm_reaD 33 ((fm_reaC 17 ((fm_reaB 3257 M V mo co (0 : Int32)).2) mo co (0 : Int32)).2) mo co (0 : Int32)).2) 0 (0 : Int32)) 1 (0 : Int32)) (0 : Int32) (Y.1 2) (1 : Int32)).1)) hw h0 (rea_m hw.1 c_47 hm) kq
def fm_reaE : Nat → yT → vT → Int32 → Int32 → Int32 × vT
  | 0, Y, V, co, k => (k, V)
  | n + 1, Y, V, co, k =>
      if (16 : Int32) ≤ k then
      (k, V)
    else
      if (V.1 1) = 0 then
        if ((Y.2 2) k.toNatClampNeg) = (2 : Int32) then
          (fm_reaE n Y (v1w V 1 (1 : Int32)) co (k + (1 : Int32)))
        else
          (fm_reaE n Y (v1w V 1 (0 : Int32)) co (k + (1 : Int32)))
      else
        (fm_reaE n Y (v1w V 1 (1 : Int32)) co (k + (1 : Int32)))
set_option maxRecDepth 100000 in
set_option maxHeartbeats 4000000 in
theorem tM_react_X174 {l : Launch} {D : va_G} {A : Nat → Prop} {ad : Nat → Nat} {tP : Nat} {cI cZ : ClassId} {S : kT} {P : pT} {X : xT} {tl : List va_E} {tyr : List (ClassId × FieldType)} {p : Program} {e : Env} {R : Room} {s : State} {m : MethodId} {args : Array Value} {below : List Frame} {meth : Method} {c : Code} {Q : State → Prop} (F : aw_F p s m c args cM_react 5 (Cond.code yM_react cM_react 5 (some .int) :: aw_big) yM_react.cls D vwCl ((cI, .int) :: (cZ, .boolean) :: tyr)) (Zs : zC A tP s) :
    ∀ (n : Nat) (T : Int32) (M : mT) (Y : yT) (V : vT) (co : Int32) (k : Int32) (h1 : 0 ≤ k.toInt) (h2 : k.toInt ≤ 16) (hm : 16 < k.toInt + n), aW p l e R s m args below meth c 0 0 Q D vwCl A ad 5 (hC ad cI S P X ++ (hM ad cI cZ T M Y ((fm_reaE n Y V co k).2) ++ tl)) [some (.ref (ad 13)), none, none, some (.int co), some (.int ((fm_reaE n Y V co k).1))] 214 [] → aW p l e R s m args below meth c 0 0 Q D vwCl A ad 5 (hC ad cI S P X ++ (hM ad cI cZ T M Y V ++ tl)) [some (.ref (ad 13)), none, none, some (.int co), some (.int k)] 174 [] := by
  intro n
  induction n with
  | zero =>
    intro T M Y V co k h1 h2 hm kq
    exfalso; omega
  | succ n ih =>
    intro T M Y V co k h1 h2 hm kq
    refine aw_iload (pc := 174) (i := 4) (x := k) F dM_react_174 rfl ?_
    refine aw_bipush (pc := 176) (v := 16) F dM_react_176 (by decide) ?_
    refine aw_icmp_ge (pc := 178) F 214 dM_react_178 (by decide) (fun c_178 => ?_) (fun c_178 => ?_)
    · skip
      rw [show (fm_reaE (n + 1) Y V co k) = (k, V) from by rw [fm_reaE, if_pos c_178]] at kq
      exact kq
    · skip
      refine aw_aload_n (pc := 181) (i := 0) (x := ad 13) F dM_react_181 rfl rfl ?_
      refine aw_aload_n (pc := 182) (i := 0) (x := ad 13) F dM_react_182 rfl rfl ?_
      refine aw_get (pc := 183) (v := .int (V.1 1)) F 13 hM_at13 rfl 28 (by decide) (fun w h => mw (iw_M w h)) (mw wd_677) rfl dM_react_183 ?_
      refine aw_if_ne (pc := 186) F 200 dM_react_186 (by decide) (fun c_186 => ?_) (fun c_186 => ?_)
      · skip
        refine aw_iconst (pc := 200) (v := 1) F dM_react_200 (by decide) ?_
        refine aw_goto (pc := 201) F 205 dM_react_201 (by decide) ?_
        refine aw_put (pc := 205) (hp' := (hC ad cI S P X ++ (hM ad cI cZ T M Y (v1w V 1 (1 : Int32)) ++ tl))) F 13 hM_at13 rfl 28 (by decide) (fun w h => mw (iw_M w h)) tyM tyM_ok nmM (mw wd_677) (ty := .boolean) rfl (by decide +kernel) rfl rfl (Nat.le_of_ble_eq_true rfl) hM_st13_28 dM_react_205 ?_
        refine aw_iinc (pc := 208) (x := k) (v := k + (1 : Int32)) (L' := [some (.ref (ad 13)), none, none, some (.int co), some (.int (k + (1 : Int32)))]) F dM_react_208 rfl rfl (by decide) rfl ?_
        refine aw_goto (pc := 211) F 174 dM_react_211 (by decide) ?_
        rw [show (fm_reaE (n + 1) Y V co k) = (fm_reaE n Y (v1w V 1 (1 : Int32)) co (k + (1 : Int32))) from by rw [fm_reaE, if_neg c_178, if_neg c_186]] at kq
        exact ih T M Y (v1w V 1 (1 : Int32)) co (k + (1 : Int32)) (by have a := i_up (i_lt c_178); omega) (by have a := i_up (i_lt c_178); have b := i_lt c_178; have e : (16 : Int32).toInt = 16 := rfl; omega) (by have a := i_up (i_lt c_178); omega) kq
      · skip
        refine aw_aload_n (pc := 189) (i := 0) (x := ad 13) F dM_react_189 rfl rfl ?_
        refine aw_get (pc := 190) (v := .ref (ad 27)) F 13 hM_at13 rfl 23 (by decide) (fun w h => mw (iw_M w h)) (mw wd_672) rfl dM_react_190 ?_
        refine aw_iload (pc := 193) (i := 4) (x := k) F dM_react_193 rfl ?_
        refine aw_iald (pc := 195) F 27 0 hM_at27 rfl (vp_in_iff.mpr (by have a := i_lt c_178; have e : (16 : Int32).toInt = 16 := rfl; omega)) dM_react_195 ?_
        refine aw_iconst (pc := 196) (v := 2) F dM_react_196 (by decide) ?_
        refine aw_icmp_ne (pc := 197) F 204 dM_react_197 (by decide) (fun c_197 => ?_) (fun c_197 => ?_)
        · skip
          refine aw_iconst (pc := 204) (v := 0) F dM_react_204 (by decide) ?_
          refine aw_put (pc := 205) (hp' := (hC ad cI S P X ++ (hM ad cI cZ T M Y (v1w V 1 (0 : Int32)) ++ tl))) F 13 hM_at13 rfl 28 (by decide) (fun w h => mw (iw_M w h)) tyM tyM_ok nmM (mw wd_677) (ty := .boolean) rfl (by decide +kernel) rfl rfl (Nat.le_of_ble_eq_true rfl) hM_st13_28 dM_react_205 ?_
          refine aw_iinc (pc := 208) (x := k) (v := k + (1 : Int32)) (L' := [some (.ref (ad 13)), none, none, some (.int co), some (.int (k + (1 : Int32)))]) F dM_react_208 rfl rfl (by decide) rfl ?_
          refine aw_goto (pc := 211) F 174 dM_react_211 (by decide) ?_
          rw [show (fm_reaE (n + 1) Y V co k) = (fm_reaE n Y (v1w V 1 (0 : Int32)) co (k + (1 : Int32))) from by rw [fm_reaE, if_neg c_178, if_pos c_186, if_neg c_197]] at kq
          exact ih T M Y (v1w V 1 (0 : Int32)) co (k + (1 : Int32)) (by have a := i_up (i_lt c_178); omega) (by have a := i_up (i_lt c_178); have b := i_lt c_178; have e : (16 : Int32).toInt = 16 := rfl; omega) (by have a := i_up (i_lt c_178); omega) kq
        · skip
          refine aw_iconst (pc := 200) (v := 1) F dM_react_200 (by decide) ?_
          refine aw_goto (pc := 201) F 205 dM_react_201 (by decide) ?_
          refine aw_put (pc := 205) (hp' := (hC ad cI S P X ++ (hM ad cI cZ T M Y (v1w V 1 (1 : Int32)) ++ tl))) F 13 hM_at13 rfl 28 (by decide) (fun w h => mw (iw_M w h)) tyM tyM_ok nmM (mw wd_677) (ty := .boolean) rfl (by decide +kernel) rfl rfl (Nat.le_of_ble_eq_true rfl) hM_st13_28 dM_react_205 ?_
          refine aw_iinc (pc := 208) (x := k) (v := k + (1 : Int32)) (L' := [some (.ref (ad 13)), none, none, some (.int co), some (.int (k + (1 : Int32)))]) F dM_react_208 rfl rfl (by decide) rfl ?_
          refine aw_goto (pc := 211) F 174 dM_react_211 (by decide) ?_
          rw [show (fm_reaE (n + 1) Y V co k) = (fm_reaE n Y (v1w V 1 (1 : Int32)) co (k + (1 : Int32))) from by rw [fm_reaE, if_neg c_178, if_pos c_186, if_pos c_197]] at kq
          exact ih T M Y (v1w V 1 (1 : Int32)) co (k + (1 : Int32)) (by have a := i_up (i_lt c_178); omega) (by have a := i_up (i_lt c_178); have b := i_lt c_178; have e : (16 : Int32).toInt = 16 := rfl; omega) (by have a := i_up (i_lt c_178); omega) kq
def fm_react  (M : mT) (Y : yT) (V : vT) (inp : Int32) : Int32 × yT × vT :=
  if (((fm_reaE 17 ((fm_reaW 3260 M ((fm_reaA 3257 M Y inp (0 : Int32)).2) V (1 : Int32) (-1 : Int32)).2.2.1) ((fm_reaW 3260 M ((fm_reaA 3257 M Y inp (0 : Int32)).2) V (1 : Int32) (-1 : Int32)).2.2.2) ((fm_reaW 3260 M ((fm_reaA 3257 M Y inp (0 : Int32)).2) V (1 : Int32) (-1 : Int32)).2.1) (4 : Int32)).2).1 1) = 0 then
    (((fm_reaW 3260 M ((fm_reaA 3257 M Y inp (0 : Int32)).2) V (1 : Int32) (-1 : Int32)).2.1), ((fm_reaW 3260 M ((fm_reaA 3257 M Y inp (0 : Int32)).2) V (1 : Int32) (-1 : Int32)).2.2.1), ((fm_reaE 17 ((fm_reaW 3260 M ((fm_reaA 3257 M Y inp (0 : Int32)).2) V (1 : Int32) (-1 : Int32)).2.2.1) ((fm_reaW 3260 M ((fm_reaA 3257 M Y inp (0 : Int32)).2) V (1 : Int32) (-1 : Int32)).2.2.2) ((fm_reaW 3260 M ((fm_reaA 3257 M Y inp (0 : Int32)).2) V (1 : Int32) (-1 : Int32)).2.1) (4 : Int32)).2))
  else
    ((-1 : Int32), ((fm_reaW 3260 M ((fm_reaA 3257 M Y inp (0 : Int32)).2) V (1 : Int32) (-1 : Int32)).2.2.1), ((fm_reaE 17 ((fm_reaW 3260 M ((fm_reaA 3257 M Y inp (0 : Int32)).2) V (1 : Int32) (-1 : Int32)).2.2.1) ((fm_reaW 3260 M ((fm_reaA 3257 M Y inp (0 : Int32)).2) V (1 : Int32) (-1 : Int32)).2.2.2) ((fm_reaW 3260 M ((fm_reaA 3257 M Y inp (0 : Int32)).2) V (1 : Int32) (-1 : Int32)).2.1) (4 : Int32)).2))
set_option maxRecDepth 100000 in
set_option maxHeartbeats 4000000 in
theorem tM_react {l : Launch} {D : va_G} {A : Nat → Prop} {ad : Nat → Nat} {tP : Nat} {cI cZ : ClassId} {S : kT} {P : pT} {X : xT} {tl : List va_E} {tyr : List (ClassId × FieldType)} (T : Int32) (M : mT) (Y : yT) (V : vT) (inp : Int32) (hw : mW M) (h0 : 0 < (M.1 0).toInt) : aw_M l yM_react (Cond.code yM_react cM_react 5 (some .int) :: aw_big) 401 D vwCl ((cI, .int) :: (cZ, .boolean) :: tyr) A ad (zC A tP) [.ref (ad 13), .int inp] (hC ad cI S P X ++ (hM ad cI cZ T M Y V ++ tl)) (some (.int ((fm_react M Y V inp).1))) (hC ad cI S P X ++ (hM ad cI cZ T M ((fm_react M Y V inp).2.1) ((fm_react M Y V inp).2.2) ++ tl)) := by
  refine aw_met cM_react 5 (some .int) [some (.ref (ad 13)), some (.int inp), none, none, none] (by decide) rfl (Nat.le_of_ble_eq_true rfl) rfl ?_
  intro p e s m args below meth c F Zs hr hlk
  refine aw_iconst (pc := 0) (v := 0) F dM_react_0 (by decide) ?_
  refine aw_istore_n (pc := 1) (i := 2) (L' := [some (.ref (ad 13)), some (.int inp), some (.int (0 : Int32)), none, none]) F dM_react_1 rfl (by decide) rfl ?_
  refine tM_react_X2  F Zs 3257 T M Y V inp (0 : Int32) hw.1 (by decide) (by decide) (by decide) ?_
  refine aw_iconst (pc := 42) (v := 1) F dM_react_42 (by decide) ?_
  refine aw_istore_n (pc := 43) (i := 2) (L' := [some (.ref (ad 13)), some (.int inp), some (.int (1 : Int32)), none, none]) F dM_react_43 rfl (by decide) rfl ?_
  refine aw_iconst (pc := 44) (v := -1) F dM_react_44 (by decide) ?_
  refine aw_istore_n (pc := 45) (i := 3) (L' := [some (.ref (ad 13)), some (.int inp), some (.int (1 : Int32)), some (.int (-1 : Int32)), none]) F dM_react_45 rfl (by decide) rfl ?_
  refine aw_less (L' := [some (.ref (ad 13)), none, some (.int (1 : Int32)), some (.int (-1 : Int32)), none]) (fun i v h => by match i, h with | 0, h => exact h | 1, h => cases h | 2, h => exact h | 3, h => exact h | 4, h => exact h | _ + 5, h => cases h) ?_
  refine tM_react_X46  F Zs 3260 T M ((fm_reaA 3257 M Y inp (0 : Int32)).2) V  (1 : Int32) (-1 : Int32) hw h0 (by have := ncnt_le ((fm_reaA 3257 M Y inp (0 : Int32)).2.2 2) 3256; rw [if_neg (by decide)]; omega) ?_
  refine aw_iconst (pc := 171) (v := 4) F dM_react_171 (by decide) ?_
  refine aw_istore (pc := 172) (i := 4) (L' := [some (.ref (ad 13)), none, some (.int ((fm_reaW 3260 M ((fm_reaA 3257 M Y inp (0 : Int32)).2) V (1 : Int32) (-1 : Int32)).1)), some (.int ((fm_reaW 3260 M ((fm_reaA 3257 M Y inp (0 : Int32)).2) V (1 : Int32) (-1 : Int32)).2.1)), some (.int (4 : Int32))]) F dM_react_172 (by decide) rfl ?_
  refine aw_less (L' := [some (.ref (ad 13)), none, none, some (.int ((fm_reaW 3260 M ((fm_reaA 3257 M Y inp (0 : Int32)).2) V (1 : Int32) (-1 : Int32)).2.1)), some (.int (4 : Int32))]) (fun i v h => by match i, h with | 0, h => exact h | 1, h => exact h | 2, h => cases h | 3, h => exact h | 4, h => exact h | _ + 5, h => cases h) ?_
  refine tM_react_X174  F Zs 17 T M ((fm_reaW 3260 M ((fm_reaA 3257 M Y inp (0 : Int32)).2) V (1 : Int32) (-1 : Int32)).2.2.1) ((fm_reaW 3260 M ((fm_reaA 3257 M Y inp (0 : Int32)).2) V (1 : Int32) (-1 : Int32)).2.2.2) ((fm_reaW 3260 M ((fm_reaA 3257 M Y inp (0 : Int32)).2) V (1 : Int32) (-1 : Int32)).2.1) (4 : Int32) (by decide) (by decide) (by decide) ?_
  refine aw_aload_n (pc := 214) (i := 0) (x := ad 13) F dM_react_214 rfl rfl ?_
  refine aw_get (pc := 215) (v := .int (((fm_reaE 17 ((fm_reaW 3260 M ((fm_reaA 3257 M Y inp (0 : Int32)).2) V (1 : Int32) (-1 : Int32)).2.2.1) ((fm_reaW 3260 M ((fm_reaA 3257 M Y inp (0 : Int32)).2) V (1 : Int32) (-1 : Int32)).2.2.2) ((fm_reaW 3260 M ((fm_reaA 3257 M Y inp (0 : Int32)).2) V (1 : Int32) (-1 : Int32)).2.1) (4 : Int32)).2).1 1)) F 13 hM_at13 rfl 28 (by decide) (fun w h => mw (iw_M w h)) (mw wd_677) rfl dM_react_215 ?_
  refine aw_if_eq (pc := 218) F 225 dM_react_218 (by decide) (fun c_218 => ?_) (fun c_218 => ?_)
  · skip
    refine aw_iload_n (pc := 225) (i := 3) (x := ((fm_reaW 3260 M ((fm_reaA 3257 M Y inp (0 : Int32)).2) V (1 : Int32) (-1 : Int32)).2.1)) F dM_react_225 rfl rfl ?_
    exact aw_iret (pc := 226) F hr hlk dM_react_226 (by rw [fm_react, if_pos c_218]) (by rw [fm_react, if_pos c_218])
  · skip
    refine aw_iconst (pc := 221) (v := -1) F dM_react_221 (by decide) ?_
    refine aw_goto (pc := 222) F 226 dM_react_222 (by decide) ?_
    exact aw_iret (pc := 226) F hr hlk dM_react_226 (by rw [fm_react, if_neg c_218]) (by rw [fm_react, if_neg c_218])
