theorem lim_i {M : mT} (hS : mS M) : ((16 : Int32) + ((27 : Int32) * (M.1 0))).toInt = 16 + 27 * (M.1 0).toInt := by
  have a := hS.1
  have b := hS.2
  have e27 : (27 : Int32).toInt = 27 := rfl
  have e16 : (16 : Int32).toInt = 16 := rfl
  have em : ((27 : Int32) * (M.1 0)).toInt = 27 * (M.1 0).toInt := by
    rw [Int32.toInt_mul, e27]
    exact Int.bmod_eq_of_le_mul_two (by omega) (by omega)
  rw [i_add] <;> rw [e16, em] <;> omega
theorem st_in {M : mT} {k : Int32} (hS : mS M) (h1 : 0 ≤ k.toInt) (c : ¬ ((16 : Int32) + ((27 : Int32) * (M.1 0))) ≤ k) : vp_in k 3256 := by
  rw [vp_in_iff]
  have a := i_lt c
  rw [lim_i hS] at a
  have b := hS.2
  omega
theorem st_up {M : mT} {k : Int32} (hS : mS M) (c : ¬ ((16 : Int32) + ((27 : Int32) * (M.1 0))) ≤ k) : (k + (1 : Int32)).toInt = k.toInt + 1 ∧ k.toInt < 3256 := by
  have a := i_lt c
  rw [lim_i hS] at a
  have b := hS.2
  exact ⟨i_up (i_lt c), by omega⟩
def fm_lrnL : Nat → mT → yT → vT → Int32 → Int32 → Int32 × Int32 × yT
  | 0, M, Y, V, mo, k => (mo, k, Y)
  | n + 1, M, Y, V, mo, k =>
      if ((16 : Int32) + ((27 : Int32) * (M.1 0))) ≤ k then
      (mo, k, Y)
    else
      if ((Y.2 2) k.toNatClampNeg) = (2 : Int32) then
        if ((V.2 1) k.toNatClampNeg) = 0 then
          if ((V.2 2) k.toNatClampNeg) = 0 then
            if ((V.2 1) k.toNatClampNeg) = 0 then
              (fm_lrnL n M (y2w Y 2 k.toNatClampNeg (0 : Int32)) V (1 : Int32) (k + (1 : Int32)))
            else
              (fm_lrnL n M (y2w Y 2 k.toNatClampNeg (1 : Int32)) V (1 : Int32) (k + (1 : Int32)))
          else
            (fm_lrnL n M Y V mo (k + (1 : Int32)))
        else
          if ((V.2 1) k.toNatClampNeg) = 0 then
            (fm_lrnL n M (y2w Y 2 k.toNatClampNeg (0 : Int32)) V (1 : Int32) (k + (1 : Int32)))
          else
            (fm_lrnL n M (y2w Y 2 k.toNatClampNeg (1 : Int32)) V (1 : Int32) (k + (1 : Int32)))
      else
        (fm_lrnL n M Y V mo (k + (1 : Int32)))
set_option maxRecDepth 100000 in
set_option maxHeartbeats 4000000 in
theorem tM_learns_X4 {l : Launch} {D : va_G} {A : Nat → Prop} {ad : Nat → Nat} {tP : Nat} {cI cZ : ClassId} {S : kT} {P : pT} {X : xT} {tl : List va_E} {tyr : List (ClassId × FieldType)} {p : Program} {e : Env} {R : Room} {s : State} {m : MethodId} {args : Array Value} {below : List Frame} {meth : Method} {c : Code} {Q : State → Prop} (F : aw_F p s m c args cM_learns 3 (Cond.code yM_learns cM_learns 3 (some .boolean) :: aw_big) yM_learns.cls D vwCl ((cI, .int) :: (cZ, .boolean) :: tyr)) (Zs : zC A tP s) :
    ∀ (n : Nat) (T : Int32) (M : mT) (Y : yT) (V : vT)  (mo : Int32) (k : Int32) (hS : mS M) (h1 : 0 ≤ k.toInt) (h2 : k.toInt ≤ 3256) (hm : 3256 < k.toInt + n), aW p l e R s m args below meth c 0 0 Q D vwCl A ad 3 (hC ad cI S P X ++ (hM ad cI cZ T M ((fm_lrnL n M Y V mo k).2.2) V ++ tl)) [some (.ref (ad 13)), some (.int ((fm_lrnL n M Y V mo k).1)), some (.int ((fm_lrnL n M Y V mo k).2.1))] 77 [] → aW p l e R s m args below meth c 0 0 Q D vwCl A ad 3 (hC ad cI S P X ++ (hM ad cI cZ T M Y V ++ tl)) [some (.ref (ad 13)), some (.int mo), some (.int k)] 4 [] := by
  intro n
  induction n with
  | zero =>
    intro T M Y V mo k hS h1 h2 hm kq
    exfalso; omega
  | succ n ih =>
    intro T M Y V mo k hS h1 h2 hm kq
    refine aw_iload_n (pc := 4) (i := 2) (x := k) F dM_learns_4 rfl rfl ?_
    refine aw_bipush (pc := 5) (v := 16) F dM_learns_5 (by decide) ?_
    refine aw_bipush (pc := 7) (v := 27) F dM_learns_7 (by decide) ?_
    refine aw_aload_n (pc := 9) (i := 0) (x := ad 13) F dM_learns_9 rfl rfl ?_
    refine aw_get (pc := 10) (v := .int (M.1 0)) F 13 hM_at13 rfl 1 (by decide) (fun w h => mw (iw_M w h)) (mw wd_650) rfl dM_learns_10 ?_
    refine aw_imul (pc := 13) F dM_learns_13 ?_
    refine aw_iadd (pc := 14) F dM_learns_14 ?_
    refine aw_icmp_ge (pc := 15) F 77 dM_learns_15 (by decide) (fun c_15 => ?_) (fun c_15 => ?_)
    · skip
      rw [show (fm_lrnL (n + 1) M Y V mo k) = (mo, k, Y) from by rw [fm_lrnL, if_pos c_15]] at kq
      exact kq
    · skip
      refine aw_aload_n (pc := 18) (i := 0) (x := ad 13) F dM_learns_18 rfl rfl ?_
      refine aw_get (pc := 19) (v := .ref (ad 27)) F 13 hM_at13 rfl 23 (by decide) (fun w h => mw (iw_M w h)) (mw wd_672) rfl dM_learns_19 ?_
      refine aw_iload_n (pc := 22) (i := 2) (x := k) F dM_learns_22 rfl rfl ?_
      refine aw_iald (pc := 23) F 27 0 hM_at27 rfl (st_in hS h1 c_15) dM_learns_23 ?_
      refine aw_iconst (pc := 24) (v := 2) F dM_learns_24 (by decide) ?_
      refine aw_icmp_ne (pc := 25) F 71 dM_learns_25 (by decide) (fun c_25 => ?_) (fun c_25 => ?_)
      · skip
        refine aw_iinc (pc := 71) (x := k) (v := k + (1 : Int32)) (L' := [some (.ref (ad 13)), some (.int mo), some (.int (k + (1 : Int32)))]) F dM_learns_71 rfl rfl (by decide) rfl ?_
        refine aw_goto (pc := 74) F 4 dM_learns_74 (by decide) ?_
        rw [show (fm_lrnL (n + 1) M Y V mo k) = (fm_lrnL n M Y V mo (k + (1 : Int32))) from by rw [fm_lrnL, if_neg c_15, if_neg c_25]] at kq
        exact ih T M Y V  mo (k + (1 : Int32)) hS (by have a := st_up hS c_15; omega) (by have a := st_up hS c_15; omega) (by have a := st_up hS c_15; omega) kq
      · skip
        refine aw_aload_n (pc := 28) (i := 0) (x := ad 13) F dM_learns_28 rfl rfl ?_
        refine aw_get (pc := 29) (v := .ref (ad 29)) F 13 hM_at13 rfl 24 (by decide) (fun w h => mw (iw_M w h)) (mw wd_673) rfl dM_learns_29 ?_
        refine aw_iload_n (pc := 32) (i := 2) (x := k) F dM_learns_32 rfl rfl ?_
        refine aw_zald (pc := 33) F 29 1 hM_at29 rfl (st_in hS h1 c_15) dM_learns_33 ?_
        refine aw_if_ne (pc := 34) F 49 dM_learns_34 (by decide) (fun c_34 => ?_) (fun c_34 => ?_)
        · skip
          refine aw_aload_n (pc := 49) (i := 0) (x := ad 13) F dM_learns_49 rfl rfl ?_
          refine aw_get (pc := 50) (v := .ref (ad 27)) F 13 hM_at13 rfl 23 (by decide) (fun w h => mw (iw_M w h)) (mw wd_672) rfl dM_learns_50 ?_
          refine aw_iload_n (pc := 53) (i := 2) (x := k) F dM_learns_53 rfl rfl ?_
          refine aw_aload_n (pc := 54) (i := 0) (x := ad 13) F dM_learns_54 rfl rfl ?_
          refine aw_get (pc := 55) (v := .ref (ad 29)) F 13 hM_at13 rfl 24 (by decide) (fun w h => mw (iw_M w h)) (mw wd_673) rfl dM_learns_55 ?_
          refine aw_iload_n (pc := 58) (i := 2) (x := k) F dM_learns_58 rfl rfl ?_
          refine aw_zald (pc := 59) F 29 1 hM_at29 rfl (st_in hS h1 c_15) dM_learns_59 ?_
          refine aw_if_eq (pc := 60) F 67 dM_learns_60 (by decide) (fun c_60 => ?_) (fun c_60 => ?_)
          · skip
            refine aw_iconst (pc := 67) (v := 0) F dM_learns_67 (by decide) ?_
            refine aw_iast (pc := 68) (hp' := (hC ad cI S P X ++ (hM ad cI cZ T M (y2w Y 2 k.toNatClampNeg (0 : Int32)) V ++ tl))) F 27 0 hM_at27 rfl (st_in hS h1 c_15) hM_st27 dM_learns_68 ?_
            refine aw_iconst (pc := 69) (v := 1) F dM_learns_69 (by decide) ?_
            refine aw_istore_n (pc := 70) (i := 1) (L' := [some (.ref (ad 13)), some (.int (1 : Int32)), some (.int k)]) F dM_learns_70 rfl (by decide) rfl ?_
            refine aw_iinc (pc := 71) (x := k) (v := k + (1 : Int32)) (L' := [some (.ref (ad 13)), some (.int (1 : Int32)), some (.int (k + (1 : Int32)))]) F dM_learns_71 rfl rfl (by decide) rfl ?_
            refine aw_goto (pc := 74) F 4 dM_learns_74 (by decide) ?_
            rw [show (fm_lrnL (n + 1) M Y V mo k) = (fm_lrnL n M (y2w Y 2 k.toNatClampNeg (0 : Int32)) V (1 : Int32) (k + (1 : Int32))) from by rw [fm_lrnL, if_neg c_15, if_pos c_25, if_neg c_34, if_pos c_60]] at kq
            exact ih T M (y2w Y 2 k.toNatClampNeg (0 : Int32)) V  (1 : Int32) (k + (1 : Int32)) hS (by have a := st_up hS c_15; omega) (by have a := st_up hS c_15; omega) (by have a := st_up hS c_15; omega) kq
          · skip
            refine aw_iconst (pc := 63) (v := 1) F dM_learns_63 (by decide) ?_
            refine aw_goto (pc := 64) F 68 dM_learns_64 (by decide) ?_
            refine aw_iast (pc := 68) (hp' := (hC ad cI S P X ++ (hM ad cI cZ T M (y2w Y 2 k.toNatClampNeg (1 : Int32)) V ++ tl))) F 27 0 hM_at27 rfl (st_in hS h1 c_15) hM_st27 dM_learns_68 ?_
            refine aw_iconst (pc := 69) (v := 1) F dM_learns_69 (by decide) ?_
            refine aw_istore_n (pc := 70) (i := 1) (L' := [some (.ref (ad 13)), some (.int (1 : Int32)), some (.int k)]) F dM_learns_70 rfl (by decide) rfl ?_
            refine aw_iinc (pc := 71) (x := k) (v := k + (1 : Int32)) (L' := [some (.ref (ad 13)), some (.int (1 : Int32)), some (.int (k + (1 : Int32)))]) F dM_learns_71 rfl rfl (by decide) rfl ?_
            refine aw_goto (pc := 74) F 4 dM_learns_74 (by decide) ?_
            rw [show (fm_lrnL (n + 1) M Y V mo k) = (fm_lrnL n M (y2w Y 2 k.toNatClampNeg (1 : Int32)) V (1 : Int32) (k + (1 : Int32))) from by rw [fm_lrnL, if_neg c_15, if_pos c_25, if_neg c_34, if_neg c_60]] at kq
            exact ih T M (y2w Y 2 k.toNatClampNeg (1 : Int32)) V  (1 : Int32) (k + (1 : Int32)) hS (by have a := st_up hS c_15; omega) (by have a := st_up hS c_15; omega) (by have a := st_up hS c_15; omega) kq
        · skip
          refine aw_aload_n (pc := 37) (i := 0) (x := ad 13) F dM_learns_37 rfl rfl ?_
          refine aw_get (pc := 38) (v := .ref (ad 30)) F 13 hM_at13 rfl 25 (by decide) (fun w h => mw (iw_M w h)) (mw wd_674) rfl dM_learns_38 ?_
          refine aw_iload_n (pc := 41) (i := 2) (x := k) F dM_learns_41 rfl rfl ?_
          refine aw_zald (pc := 42) F 30 1 hM_at30 rfl (st_in hS h1 c_15) dM_learns_42 ?_
          refine aw_if_eq (pc := 43) F 49 dM_learns_43 (by decide) (fun c_43 => ?_) (fun c_43 => ?_)
          · skip
            refine aw_aload_n (pc := 49) (i := 0) (x := ad 13) F dM_learns_49 rfl rfl ?_
            refine aw_get (pc := 50) (v := .ref (ad 27)) F 13 hM_at13 rfl 23 (by decide) (fun w h => mw (iw_M w h)) (mw wd_672) rfl dM_learns_50 ?_
            refine aw_iload_n (pc := 53) (i := 2) (x := k) F dM_learns_53 rfl rfl ?_
            refine aw_aload_n (pc := 54) (i := 0) (x := ad 13) F dM_learns_54 rfl rfl ?_
            refine aw_get (pc := 55) (v := .ref (ad 29)) F 13 hM_at13 rfl 24 (by decide) (fun w h => mw (iw_M w h)) (mw wd_673) rfl dM_learns_55 ?_
            refine aw_iload_n (pc := 58) (i := 2) (x := k) F dM_learns_58 rfl rfl ?_
            refine aw_zald (pc := 59) F 29 1 hM_at29 rfl (st_in hS h1 c_15) dM_learns_59 ?_
            refine aw_if_eq (pc := 60) F 67 dM_learns_60 (by decide) (fun c_60 => ?_) (fun c_60 => ?_)
            · skip
              refine aw_iconst (pc := 67) (v := 0) F dM_learns_67 (by decide) ?_
              refine aw_iast (pc := 68) (hp' := (hC ad cI S P X ++ (hM ad cI cZ T M (y2w Y 2 k.toNatClampNeg (0 : Int32)) V ++ tl))) F 27 0 hM_at27 rfl (st_in hS h1 c_15) hM_st27 dM_learns_68 ?_
              refine aw_iconst (pc := 69) (v := 1) F dM_learns_69 (by decide) ?_
              refine aw_istore_n (pc := 70) (i := 1) (L' := [some (.ref (ad 13)), some (.int (1 : Int32)), some (.int k)]) F dM_learns_70 rfl (by decide) rfl ?_
              refine aw_iinc (pc := 71) (x := k) (v := k + (1 : Int32)) (L' := [some (.ref (ad 13)), some (.int (1 : Int32)), some (.int (k + (1 : Int32)))]) F dM_learns_71 rfl rfl (by decide) rfl ?_
              refine aw_goto (pc := 74) F 4 dM_learns_74 (by decide) ?_
              rw [show (fm_lrnL (n + 1) M Y V mo k) = (fm_lrnL n M (y2w Y 2 k.toNatClampNeg (0 : Int32)) V (1 : Int32) (k + (1 : Int32))) from by rw [fm_lrnL, if_neg c_15, if_pos c_25, if_pos c_34, if_pos c_43, if_pos c_60]] at kq
              exact ih T M (y2w Y 2 k.toNatClampNeg (0 : Int32)) V  (1 : Int32) (k + (1 : Int32)) hS (by have a := st_up hS c_15; omega) (by have a := st_up hS c_15; omega) (by have a := st_up hS c_15; omega) kq
            · skip
              refine aw_iconst (pc := 63) (v := 1) F dM_learns_63 (by decide) ?_
              refine aw_goto (pc := 64) F 68 dM_learns_64 (by decide) ?_
              refine aw_iast (pc := 68) (hp' := (hC ad cI S P X ++ (hM ad cI cZ T M (y2w Y 2 k.toNatClampNeg (1 : Int32)) V ++ tl))) F 27 0 hM_at27 rfl (st_in hS h1 c_15) hM_st27 dM_learns_68 ?_
              refine aw_iconst (pc := 69) (v := 1) F dM_learns_69 (by decide) ?_
              refine aw_istore_n (pc := 70) (i := 1) (L' := [some (.ref (ad 13)), some (.int (1 : Int32)), some (.int k)]) F dM_learns_70 rfl (by decide) rfl ?_
              refine aw_iinc (pc := 71) (x := k) (v := k + (1 : Int32)) (L' := [some (.ref (ad 13)), some (.int (1 : Int32)), some (.int (k + (1 : Int32)))]) F dM_learns_71 rfl rfl (by decide) rfl ?_
              refine aw_goto (pc := 74) F 4 dM_learns_74 (by decide) ?_
              rw [show (fm_lrnL (n + 1) M Y V mo k) = (fm_lrnL n M (y2w Y 2 k.toNatClampNeg (1 : Int32)) V (1 : Int32) (k + (1 : Int32))) from by rw [fm_lrnL, if_neg c_15, if_pos c_25, if_pos c_34, if_pos c_43, if_neg c_60]] at kq
              exact ih T M (y2w Y 2 k.toNatClampNeg (1 : Int32)) V  (1 : Int32) (k + (1 : Int32)) hS (by have a := st_up hS c_15; omega) (by have a := st_up hS c_15; omega) (by have a := st_up hS c_15; omega) kq
          · skip
            refine aw_goto (pc := 46) F 71 dM_learns_46 (by decide) ?_
            refine aw_iinc (pc := 71) (x := k) (v := k + (1 : Int32)) (L' := [some (.ref (ad 13)), some (.int mo), some (.int (k + (1 : Int32)))]) F dM_learns_71 rfl rfl (by decide) rfl ?_
            refine aw_goto (pc := 74) F 4 dM_learns_74 (by decide) ?_
            rw [show (fm_lrnL (n + 1) M Y V mo k) = (fm_lrnL n M Y V mo (k + (1 : Int32))) from by rw [fm_lrnL, if_neg c_15, if_pos c_25, if_pos c_34, if_neg c_43]] at kq
            exact ih T M Y V  mo (k + (1 : Int32)) hS (by have a := st_up hS c_15; omega) (by have a := st_up hS c_15; omega) (by have a := st_up hS c_15; omega) kq
theorem nz_b {x : Int32} (h : x = 0 ∨ x = 1) : narrow .boolean (.int x) = .int x := by
  rcases h with rfl | rfl <;> rfl
theorem lrnL_b {M : mT} {V : vT} : ∀ (n : Nat) (Y : yT) (mo k : Int32), mo = 0 ∨ mo = 1 → (fm_lrnL n M Y V mo k).1 = 0 ∨ (fm_lrnL n M Y V mo k).1 = 1 := by
  intro n
  induction n with
  | zero => intro Y mo k h; exact h
  | succ n ih =>
    intro Y mo k h
    unfold fm_lrnL
    by_cases a : ((16 : Int32) + ((27 : Int32) * (M.1 0))) ≤ k
    · rw [if_pos a]; exact h
    rw [if_neg a]
    by_cases b : (Y.2 2) k.toNatClampNeg = (2 : Int32)
    · rw [if_pos b]
      by_cases c : (V.2 1) k.toNatClampNeg = 0
      · rw [if_pos c]
        by_cases d : (V.2 2) k.toNatClampNeg = 0
        · rw [if_pos d, if_pos c]; exact ih _ _ _ (Or.inr rfl)
        · rw [if_neg d]; exact ih _ _ _ h
      · rw [if_neg c, if_neg c]; exact ih _ _ _ (Or.inr rfl)
    · rw [if_neg b]; exact ih _ _ _ h
def fm_learns  (M : mT) (Y : yT) (V : vT)  : Int32 × yT :=
  (((fm_lrnL 3257 M Y V (0 : Int32) (4 : Int32)).1), ((fm_lrnL 3257 M Y V (0 : Int32) (4 : Int32)).2.2))
set_option maxRecDepth 100000 in
set_option maxHeartbeats 4000000 in
theorem tM_learns {l : Launch} {D : va_G} {A : Nat → Prop} {ad : Nat → Nat} {tP : Nat} {cI cZ : ClassId} {S : kT} {P : pT} {X : xT} {tl : List va_E} {tyr : List (ClassId × FieldType)} (T : Int32) (M : mT) (Y : yT) (V : vT)  (hS : mS M) : aw_M l yM_learns (Cond.code yM_learns cM_learns 3 (some .boolean) :: aw_big) 0 D vwCl ((cI, .int) :: (cZ, .boolean) :: tyr) A ad (zC A tP) [.ref (ad 13)] (hC ad cI S P X ++ (hM ad cI cZ T M Y V ++ tl)) (some (.int ((fm_learns M Y V).1))) (hC ad cI S P X ++ (hM ad cI cZ T M ((fm_learns M Y V).2) V ++ tl)) := by
  refine aw_met cM_learns 3 (some .boolean) [some (.ref (ad 13)), none, none] (by decide) rfl (Nat.le_of_ble_eq_true rfl) rfl ?_
  intro p e s m args below meth c F Zs hr hlk
  refine aw_iconst (pc := 0) (v := 0) F dM_learns_0 (by decide) ?_
  refine aw_istore_n (pc := 1) (i := 1) (L' := [some (.ref (ad 13)), some (.int (0 : Int32)), none]) F dM_learns_1 rfl (by decide) rfl ?_
  refine aw_iconst (pc := 2) (v := 4) F dM_learns_2 (by decide) ?_
  refine aw_istore_n (pc := 3) (i := 2) (L' := [some (.ref (ad 13)), some (.int (0 : Int32)), some (.int (4 : Int32))]) F dM_learns_3 rfl (by decide) rfl ?_
  refine tM_learns_X4  F Zs 3257 T M Y V  (0 : Int32) (4 : Int32) hS (by decide) (by decide) (by decide) ?_
  refine aw_iload_n (pc := 77) (i := 1) (x := ((fm_lrnL 3257 M Y V (0 : Int32) (4 : Int32)).1)) F dM_learns_77 rfl rfl ?_
  exact aw_zret (pc := 78) F hr hlk dM_learns_78 (nz_b (lrnL_b _ _ _ _ (Or.inl rfl))) (by first | rfl | (unfold fm_learns; rfl)) (by first | rfl | (unfold fm_learns; rfl))
