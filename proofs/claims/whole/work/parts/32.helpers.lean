def fl_put  (P : pT) (O : oT) (a : Int32) (b : Int32) : Int32 × pT × oT :=
  ((0 : Int32), ((fk_put P a b).2), (vp_updL O (0 : Int32).toNatClampNeg (((fk_put P a b).1).toInt64)))
set_option maxRecDepth 100000 in
set_option maxHeartbeats 4000000 in
theorem tL_put {l : Launch} {D : va_G} {A : Nat → Prop} {ad : Nat → Nat} {tP : Nat} {cI cZ cJ : ClassId} (S : kT) (P : pT) (X : xT) (T : Int32) (M : mT) (Y : yT) (V : vT) (O : oT) (a : Int32) (b : Int32) (hS : pS P) (hL : pL P) (hO : pO P) (hn1 : fp_isWhole P = 0) (hn2 : ¬ fp_allows P a b = 0) : aw_M l yL_put (Cond.codeWith yL_put cL_put 5 (some .int) [(0, 10, 13, 13), (0, 10, 17, 15)] :: aw_big) 5 D vwCl [(cI, .int), (cZ, .boolean), (cJ, .long)] A ad (zC A tP) [.ref (ad 0), .int a, .int b, .ref (ad 32)] (hC ad cI S P X ++ (hM ad cI cZ T M Y V ++ hQ cJ O)) (some (.int ((fl_put P O a b).1))) (hC ad cI S ((fl_put P O a b).2.1) X ++ (hM ad cI cZ T M Y V ++ hQ cJ ((fl_put P O a b).2.2))) := by
  refine aw_metW cL_put 5 (some .int) [some (.ref (ad 0)), some (.int a), some (.int b), some (.ref (ad 32)), none] (by decide) rfl (Nat.le_of_ble_eq_true rfl) rfl ?_
  intro p e s m args below meth c F Zs hr hlk htb
  refine aw_aload_n (pc := 0) (i := 3) (x := ad 32) F dL_put_0 rfl rfl ?_
  refine aw_iconst (pc := 1) (v := 0) F dL_put_1 (by decide) ?_
  refine aw_aload_n (pc := 2) (i := 0) (x := ad 0) F dL_put_2 rfl rfl ?_
  refine aw_iload_n (pc := 3) (i := 1) (x := a) F dL_put_3 rfl rfl ?_
  refine aw_iload_n (pc := 4) (i := 2) (x := b) F dL_put_4 rfl rfl ?_
  refine aw_goV (pc := 5) (As := [.int a, .int b]) (rest := [.int (0 : Int32), .ref (ad 32)]) F zC_ok Zs 0 hC_at0 rfl (tK_put  S P X a b hS hL hO hn1 hn2) (cwV 2 F.1.2.2.2.2 (gi_V wd_233 wd_234 wd_235 wd_64 wd_236) rfl rfl rfl (by decide +kernel) ⟨Nat.le_of_ble_eq_true rfl, Nat.le_of_ble_eq_true rfl⟩) rfl (Nat.le_of_ble_eq_true rfl) ⟨Nat.zero_le _, Nat.zero_le _⟩ rfl dL_put_5 ?_
  show aW _ _ _ _ _ _ _ _ _ _ _ _ _ _ _ _ _ _ _ _ _ [.int ((fk_put P a b).1), .int (0 : Int32), .ref (ad 32)]
  refine aw_i2l (pc := 8) (v := ((fk_put P a b).1).toInt64) F dL_put_8 rfl ?_
  refine aw_last (pc := 9) (hp' := (hC ad cI S ((fk_put P a b).2) X ++ (hM ad cI cZ T M Y V ++ hQ cJ (vp_updL O (0 : Int32).toNatClampNeg (((fk_put P a b).1).toInt64))))) F 32 2 hQ_at32 rfl (vp_in_iff.mpr (by decide)) hQ_st32 dL_put_9 ?_
  refine aw_goto (pc := 10) F 21 dL_put_10 (by decide) ?_
  refine aw_iconst (pc := 21) (v := 0) F dL_put_21 (by decide) ?_
  exact aw_iret (pc := 22) F hr hlk dL_put_22 (by first | rfl | (unfold fl_put; rfl)) (by first | rfl | (unfold fl_put; rfl))
def fl_start  (S : kT) (P : pT) (X : xT) (O : oT)  : Int32 × kT × pT × xT × oT :=
  ((0 : Int32), ((fk_start S P X).2.1), ((fk_start S P X).2.2.1), ((fk_start S P X).2.2.2), (vp_updL O (0 : Int32).toNatClampNeg (((fk_start S P X).1).toInt64)))
set_option maxRecDepth 100000 in
set_option maxHeartbeats 4000000 in
theorem tL_start {l : Launch} {D : va_G} {A : Nat → Prop} {ad : Nat → Nat} {tP : Nat} {cI cZ cJ : ClassId} (S : kT) (P : pT) (X : xT) (T : Int32) (M : mT) (Y : yT) (V : vT) (O : oT)  (hS : pS P) (hn1 : ¬ fp_isWhole P = 0) : aw_M l yL_start (Cond.codeWith yL_start cL_start 3 (some .int) [(0, 8, 11, 13)] :: aw_big) 5 D vwCl [(cI, .int), (cZ, .boolean), (cJ, .long)] A ad (zC A tP) [.ref (ad 0), .ref (ad 32)] (hC ad cI S P X ++ (hM ad cI cZ T M Y V ++ hQ cJ O)) (some (.int ((fl_start S P X O).1))) (hC ad cI ((fl_start S P X O).2.1) ((fl_start S P X O).2.2.1) ((fl_start S P X O).2.2.2.1) ++ (hM ad cI cZ T M Y V ++ hQ cJ ((fl_start S P X O).2.2.2.2))) := by
  refine aw_metW cL_start 3 (some .int) [some (.ref (ad 0)), some (.ref (ad 32)), none] (by decide) rfl (Nat.le_of_ble_eq_true rfl) rfl ?_
  intro p e s m args below meth c F Zs hr hlk htb
  refine aw_aload_n (pc := 0) (i := 1) (x := ad 32) F dL_start_0 rfl rfl ?_
  refine aw_iconst (pc := 1) (v := 0) F dL_start_1 (by decide) ?_
  refine aw_aload_n (pc := 2) (i := 0) (x := ad 0) F dL_start_2 rfl rfl ?_
  refine aw_goV (pc := 3) (As := []) (rest := [.int (0 : Int32), .ref (ad 32)]) F zC_ok Zs 0 hC_at0 rfl (tK_start  S P X  hS hn1) (cwV 0 F.1.2.2.2.2 (gi_V wd_378 wd_379 wd_380 wd_64 wd_381) rfl rfl rfl (by decide +kernel) ⟨Nat.le_of_ble_eq_true rfl, Nat.le_of_ble_eq_true rfl⟩) rfl (Nat.le_of_ble_eq_true rfl) ⟨Nat.zero_le _, Nat.zero_le _⟩ rfl dL_start_3 ?_
  show aW _ _ _ _ _ _ _ _ _ _ _ _ _ _ _ _ _ _ _ _ _ [.int ((fk_start S P X).1), .int (0 : Int32), .ref (ad 32)]
  refine aw_i2l (pc := 6) (v := ((fk_start S P X).1).toInt64) F dL_start_6 rfl ?_
  refine aw_last (pc := 7) (hp' := (hC ad cI ((fk_start S P X).2.1) ((fk_start S P X).2.2.1) ((fk_start S P X).2.2.2) ++ (hM ad cI cZ T M Y V ++ hQ cJ (vp_updL O (0 : Int32).toNatClampNeg (((fk_start S P X).1).toInt64))))) F 32 2 hQ_at32 rfl (vp_in_iff.mpr (by decide)) hQ_st32 dL_start_7 ?_
  refine aw_goto (pc := 8) F 14 dL_start_8 (by decide) ?_
  refine aw_iconst (pc := 14) (v := 0) F dL_start_14 (by decide) ?_
  exact aw_iret (pc := 15) F hr hlk dL_start_15 (by first | rfl | (unfold fl_start; rfl)) (by first | rfl | (unfold fl_start; rfl))
def fl_instant  (S : kT) (P : pT) (X : xT) (O : oT) (a : Int32) : Int32 × kT × xT × oT :=
  ((0 : Int32), ((fk_instant S P X a).2.1), ((fk_instant S P X a).2.2), (vp_updL O (0 : Int32).toNatClampNeg (((fk_instant S P X a).1).toInt64)))
set_option maxRecDepth 100000 in
set_option maxHeartbeats 4000000 in
theorem tL_instant {l : Launch} {D : va_G} {A : Nat → Prop} {ad : Nat → Nat} {tP : Nat} {cI cZ cJ : ClassId} (S : kT) (P : pT) (X : xT) (T : Int32) (M : mT) (Y : yT) (V : vT) (O : oT) (a : Int32) (hS : pS P) (hW : pW P) (h0 : 0 < (P.1 1).toInt) (hn1 : S 0 = (1 : Int32)) (hn2 : ¬ a < 0) (hn3 : a < (16 : Int32)) : aw_M l yL_instant (Cond.codeWith yL_instant cL_instant 4 (some .int) [(0, 9, 12, 13), (0, 9, 15, 15)] :: aw_big) 403 D vwCl [(cI, .int), (cZ, .boolean), (cJ, .long)] A ad (zC A tP) [.ref (ad 0), .int a, .ref (ad 32)] (hC ad cI S P X ++ (hM ad cI cZ T M Y V ++ hQ cJ O)) (some (.int ((fl_instant S P X O a).1))) (hC ad cI ((fl_instant S P X O a).2.1) P ((fl_instant S P X O a).2.2.1) ++ (hM ad cI cZ T M Y V ++ hQ cJ ((fl_instant S P X O a).2.2.2))) := by
  refine aw_metW cL_instant 4 (some .int) [some (.ref (ad 0)), some (.int a), some (.ref (ad 32)), none] (by decide) rfl (Nat.le_of_ble_eq_true rfl) rfl ?_
  intro p e s m args below meth c F Zs hr hlk htb
  refine aw_aload_n (pc := 0) (i := 2) (x := ad 32) F dL_instant_0 rfl rfl ?_
  refine aw_iconst (pc := 1) (v := 0) F dL_instant_1 (by decide) ?_
  refine aw_aload_n (pc := 2) (i := 0) (x := ad 0) F dL_instant_2 rfl rfl ?_
  refine aw_iload_n (pc := 3) (i := 1) (x := a) F dL_instant_3 rfl rfl ?_
  refine aw_goV (pc := 4) (As := [.int a]) (rest := [.int (0 : Int32), .ref (ad 32)]) F zC_ok Zs 0 hC_at0 rfl (tK_instant  S P X a hS hW h0 hn1 hn2 hn3) (cwV 1 F.1.2.2.2.2 (gi_V wd_429 wd_430 wd_431 wd_64 wd_432) rfl rfl rfl (by decide +kernel) ⟨Nat.le_of_ble_eq_true rfl, Nat.le_of_ble_eq_true rfl⟩) rfl (Nat.le_of_ble_eq_true rfl) ⟨Nat.zero_le _, Nat.zero_le _⟩ rfl dL_instant_4 ?_
  show aW _ _ _ _ _ _ _ _ _ _ _ _ _ _ _ _ _ _ _ _ _ [.int ((fk_instant S P X a).1), .int (0 : Int32), .ref (ad 32)]
  refine aw_i2l (pc := 7) (v := ((fk_instant S P X a).1).toInt64) F dL_instant_7 rfl ?_
  refine aw_last (pc := 8) (hp' := (hC ad cI ((fk_instant S P X a).2.1) P ((fk_instant S P X a).2.2) ++ (hM ad cI cZ T M Y V ++ hQ cJ (vp_updL O (0 : Int32).toNatClampNeg (((fk_instant S P X a).1).toInt64))))) F 32 2 hQ_at32 rfl (vp_in_iff.mpr (by decide)) hQ_st32 dL_instant_8 ?_
  refine aw_goto (pc := 9) F 18 dL_instant_9 (by decide) ?_
  refine aw_iconst (pc := 18) (v := 0) F dL_instant_18 (by decide) ?_
  exact aw_iret (pc := 19) F hr hlk dL_instant_19 (by first | rfl | (unfold fl_instant; rfl)) (by first | rfl | (unfold fl_instant; rfl))
def fl_status  (S : kT) (O : oT) (a : Int32) : Int32 × oT :=
  ((0 : Int32), (vp_updL O (0 : Int32).toNatClampNeg ((fk_status S a).toInt64)))
set_option maxRecDepth 100000 in
set_option maxHeartbeats 4000000 in
theorem tL_status {l : Launch} {D : va_G} {A : Nat → Prop} {ad : Nat → Nat} {tP : Nat} {cI cZ cJ : ClassId} (S : kT) (P : pT) (X : xT) (T : Int32) (M : mT) (Y : yT) (V : vT) (O : oT) (a : Int32) (hn2 : ¬ a < 0) (hn3 : a < (16 : Int32)) : aw_M l yL_status (Cond.codeWith yL_status cL_status 4 (some .int) [(0, 9, 12, 28)] :: aw_big) 3 D vwCl [(cI, .int), (cZ, .boolean), (cJ, .long)] A ad (zC A tP) [.ref (ad 0), .int a, .ref (ad 32)] (hC ad cI S P X ++ (hM ad cI cZ T M Y V ++ hQ cJ O)) (some (.int ((fl_status S O a).1))) (hC ad cI S P X ++ (hM ad cI cZ T M Y V ++ hQ cJ ((fl_status S O a).2))) := by
  refine aw_metW cL_status 4 (some .int) [some (.ref (ad 0)), some (.int a), some (.ref (ad 32)), none] (by decide) rfl (Nat.le_of_ble_eq_true rfl) rfl ?_
  intro p e s m args below meth c F Zs hr hlk htb
  refine aw_aload_n (pc := 0) (i := 2) (x := ad 32) F dL_status_0 rfl rfl ?_
  refine aw_iconst (pc := 1) (v := 0) F dL_status_1 (by decide) ?_
  refine aw_aload_n (pc := 2) (i := 0) (x := ad 0) F dL_status_2 rfl rfl ?_
  refine aw_iload_n (pc := 3) (i := 1) (x := a) F dL_status_3 rfl rfl ?_
  refine aw_goV (pc := 4) (As := [.int a]) (rest := [.int (0 : Int32), .ref (ad 32)]) F zC_ok Zs 0 hC_at0 rfl (tK_status  S P X a hn2 hn3) (cwV 1 F.1.2.2.2.2 (gi_V wd_599 wd_600 wd_601 wd_64 wd_602) rfl rfl rfl (by decide +kernel) ⟨Nat.le_of_ble_eq_true rfl, Nat.le_of_ble_eq_true rfl⟩) rfl (Nat.le_of_ble_eq_true rfl) ⟨Nat.zero_le _, Nat.zero_le _⟩ rfl dL_status_4 ?_
  show aW _ _ _ _ _ _ _ _ _ _ _ _ _ _ _ _ _ _ _ _ _ [.int (fk_status S a), .int (0 : Int32), .ref (ad 32)]
  refine aw_i2l (pc := 7) (v := (fk_status S a).toInt64) F dL_status_7 rfl ?_
  refine aw_last (pc := 8) (hp' := (hC ad cI S P X ++ (hM ad cI cZ T M Y V ++ hQ cJ (vp_updL O (0 : Int32).toNatClampNeg ((fk_status S a).toInt64))))) F 32 2 hQ_at32 rfl (vp_in_iff.mpr (by decide)) hQ_st32 dL_status_8 ?_
  refine aw_goto (pc := 9) F 15 dL_status_9 (by decide) ?_
  refine aw_iconst (pc := 15) (v := 0) F dL_status_15 (by decide) ?_
  exact aw_iret (pc := 16) F hr hlk dL_status_16 (by first | rfl | (unfold fl_status; rfl)) (by first | rfl | (unfold fl_status; rfl))
def fl_selected  (P : pT) (X : xT) (O : oT) (a : Int32) : Int32 × oT :=
  if (fk_selected P X a) = 0 then
    ((0 : Int32), (vp_updL O (0 : Int32).toNatClampNeg (0 : Int64)))
  else
    ((0 : Int32), (vp_updL O (0 : Int32).toNatClampNeg (1 : Int64)))
set_option maxRecDepth 100000 in
set_option maxHeartbeats 4000000 in
theorem tL_selected {l : Launch} {D : va_G} {A : Nat → Prop} {ad : Nat → Nat} {tP : Nat} {cI cZ cJ : ClassId} (S : kT) (P : pT) (X : xT) (T : Int32) (M : mT) (Y : yT) (V : vT) (O : oT) (a : Int32) (hn2 : ¬ a < 0) (hn3 : a < (P.1 3)) : aw_M l yL_selected (Cond.codeWith yL_selected cL_selected 4 (some .int) [(0, 16, 19, 28)] :: aw_big) 2 D vwCl [(cI, .int), (cZ, .boolean), (cJ, .long)] A ad (zC A tP) [.ref (ad 0), .int a, .ref (ad 32)] (hC ad cI S P X ++ (hM ad cI cZ T M Y V ++ hQ cJ O)) (some (.int ((fl_selected P X O a).1))) (hC ad cI S P X ++ (hM ad cI cZ T M Y V ++ hQ cJ ((fl_selected P X O a).2))) := by
  refine aw_metW cL_selected 4 (some .int) [some (.ref (ad 0)), some (.int a), some (.ref (ad 32)), none] (by decide) rfl (Nat.le_of_ble_eq_true rfl) rfl ?_
  intro p e s m args below meth c F Zs hr hlk htb
  refine aw_aload_n (pc := 0) (i := 2) (x := ad 32) F dL_selected_0 rfl rfl ?_
  refine aw_iconst (pc := 1) (v := 0) F dL_selected_1 (by decide) ?_
  refine aw_aload_n (pc := 2) (i := 0) (x := ad 0) F dL_selected_2 rfl rfl ?_
  refine aw_iload_n (pc := 3) (i := 1) (x := a) F dL_selected_3 rfl rfl ?_
  refine aw_goV (pc := 4) (As := [.int a]) (rest := [.int (0 : Int32), .ref (ad 32)]) F zC_ok Zs 0 hC_at0 rfl (tK_selected  S P X a hn2 hn3) (cwV 1 F.1.2.2.2.2 (gi_V wd_623 wd_624 wd_625 wd_64 wd_626) rfl rfl rfl (by decide +kernel) ⟨Nat.le_of_ble_eq_true rfl, Nat.le_of_ble_eq_true rfl⟩) rfl (Nat.le_of_ble_eq_true rfl) ⟨Nat.zero_le _, Nat.zero_le _⟩ rfl dL_selected_4 ?_
  show aW _ _ _ _ _ _ _ _ _ _ _ _ _ _ _ _ _ _ _ _ _ [.int (fk_selected P X a), .int (0 : Int32), .ref (ad 32)]
  refine aw_if_eq (pc := 7) F 14 dL_selected_7 (by decide) (fun c_7 => ?_) (fun c_7 => ?_)
  · skip
    refine aw_lconst (pc := 14) (v := 0) F dL_selected_14 (by decide) ?_
    refine aw_last (pc := 15) (hp' := (hC ad cI S P X ++ (hM ad cI cZ T M Y V ++ hQ cJ (vp_updL O (0 : Int32).toNatClampNeg (0 : Int64))))) F 32 2 hQ_at32 rfl (vp_in_iff.mpr (by decide)) hQ_st32 dL_selected_15 ?_
    refine aw_goto (pc := 16) F 22 dL_selected_16 (by decide) ?_
    refine aw_iconst (pc := 22) (v := 0) F dL_selected_22 (by decide) ?_
    exact aw_iret (pc := 23) F hr hlk dL_selected_23 (by rw [fl_selected, if_pos c_7]) (by rw [fl_selected, if_pos c_7])
  · skip
    refine aw_lconst (pc := 10) (v := 1) F dL_selected_10 (by decide) ?_
    refine aw_goto (pc := 11) F 15 dL_selected_11 (by decide) ?_
    refine aw_last (pc := 15) (hp' := (hC ad cI S P X ++ (hM ad cI cZ T M Y V ++ hQ cJ (vp_updL O (0 : Int32).toNatClampNeg (1 : Int64))))) F 32 2 hQ_at32 rfl (vp_in_iff.mpr (by decide)) hQ_st32 dL_selected_15 ?_
    refine aw_goto (pc := 16) F 22 dL_selected_16 (by decide) ?_
    refine aw_iconst (pc := 22) (v := 0) F dL_selected_22 (by decide) ?_
    exact aw_iret (pc := 23) F hr hlk dL_selected_23 (by rw [fl_selected, if_neg c_7]) (by rw [fl_selected, if_neg c_7])
def fl_reacts  (S : kT) (P : pT) (X : xT) (O : oT)  : Int32 × xT × oT :=
  ((0 : Int32), ((fk_reacts S P X).2), (vp_updL O (0 : Int32).toNatClampNeg (((fk_reacts S P X).1).toInt64)))
set_option maxRecDepth 100000 in
set_option maxHeartbeats 4000000 in
theorem tL_reacts {l : Launch} {D : va_G} {A : Nat → Prop} {ad : Nat → Nat} {tP : Nat} {cI cZ cJ : ClassId} (S : kT) (P : pT) (X : xT) (T : Int32) (M : mT) (Y : yT) (V : vT) (O : oT)  (hS : pS P) (hW : pW P) (h0 : 0 < (P.1 1).toInt) (hn1 : S 0 = (1 : Int32)) : aw_M l yL_reacts (Cond.codeWith yL_reacts cL_reacts 3 (some .int) [(0, 8, 11, 13)] :: aw_big) 403 D vwCl [(cI, .int), (cZ, .boolean), (cJ, .long)] A ad (zC A tP) [.ref (ad 0), .ref (ad 32)] (hC ad cI S P X ++ (hM ad cI cZ T M Y V ++ hQ cJ O)) (some (.int ((fl_reacts S P X O).1))) (hC ad cI S P ((fl_reacts S P X O).2.1) ++ (hM ad cI cZ T M Y V ++ hQ cJ ((fl_reacts S P X O).2.2))) := by
  refine aw_metW cL_reacts 3 (some .int) [some (.ref (ad 0)), some (.ref (ad 32)), none] (by decide) rfl (Nat.le_of_ble_eq_true rfl) rfl ?_
  intro p e s m args below meth c F Zs hr hlk htb
  refine aw_aload_n (pc := 0) (i := 1) (x := ad 32) F dL_reacts_0 rfl rfl ?_
  refine aw_iconst (pc := 1) (v := 0) F dL_reacts_1 (by decide) ?_
  refine aw_aload_n (pc := 2) (i := 0) (x := ad 0) F dL_reacts_2 rfl rfl ?_
  refine aw_goV (pc := 3) (As := []) (rest := [.int (0 : Int32), .ref (ad 32)]) F zC_ok Zs 0 hC_at0 rfl (tK_reacts  S P X  hS hW h0 hn1) (cwV 0 F.1.2.2.2.2 (gi_V wd_631 wd_632 wd_633 wd_64 wd_634) rfl rfl rfl (by decide +kernel) ⟨Nat.le_of_ble_eq_true rfl, Nat.le_of_ble_eq_true rfl⟩) rfl (Nat.le_of_ble_eq_true rfl) ⟨Nat.zero_le _, Nat.zero_le _⟩ rfl dL_reacts_3 ?_
  show aW _ _ _ _ _ _ _ _ _ _ _ _ _ _ _ _ _ _ _ _ _ [.int ((fk_reacts S P X).1), .int (0 : Int32), .ref (ad 32)]
  refine aw_i2l (pc := 6) (v := ((fk_reacts S P X).1).toInt64) F dL_reacts_6 rfl ?_
  refine aw_last (pc := 7) (hp' := (hC ad cI S P ((fk_reacts S P X).2) ++ (hM ad cI cZ T M Y V ++ hQ cJ (vp_updL O (0 : Int32).toNatClampNeg (((fk_reacts S P X).1).toInt64))))) F 32 2 hQ_at32 rfl (vp_in_iff.mpr (by decide)) hQ_st32 dL_reacts_7 ?_
  refine aw_goto (pc := 8) F 14 dL_reacts_8 (by decide) ?_
  refine aw_iconst (pc := 14) (v := 0) F dL_reacts_14 (by decide) ?_
  exact aw_iret (pc := 15) F hr hlk dL_reacts_15 (by first | rfl | (unfold fl_reacts; rfl)) (by first | rfl | (unfold fl_reacts; rfl))
def fl_emits  (S : kT) (P : pT) (X : xT) (O : oT) (a : Int32) : Int32 × xT × oT :=
  ((0 : Int32), ((fk_emits S P X a).2), (vp_updL O (0 : Int32).toNatClampNeg (((fk_emits S P X a).1).toInt64)))
set_option maxRecDepth 100000 in
set_option maxHeartbeats 4000000 in
theorem tL_emits {l : Launch} {D : va_G} {A : Nat → Prop} {ad : Nat → Nat} {tP : Nat} {cI cZ cJ : ClassId} (S : kT) (P : pT) (X : xT) (T : Int32) (M : mT) (Y : yT) (V : vT) (O : oT) (a : Int32) (hS : pS P) (hW : pW P) (h0 : 0 < (P.1 1).toInt) (hn1 : S 0 = (1 : Int32)) (hn2 : ¬ a < (4 : Int32)) (hn3 : a < (16 : Int32)) : aw_M l yL_emits (Cond.codeWith yL_emits cL_emits 4 (some .int) [(0, 9, 12, 13), (0, 9, 15, 28)] :: aw_big) 403 D vwCl [(cI, .int), (cZ, .boolean), (cJ, .long)] A ad (zC A tP) [.ref (ad 0), .int a, .ref (ad 32)] (hC ad cI S P X ++ (hM ad cI cZ T M Y V ++ hQ cJ O)) (some (.int ((fl_emits S P X O a).1))) (hC ad cI S P ((fl_emits S P X O a).2.1) ++ (hM ad cI cZ T M Y V ++ hQ cJ ((fl_emits S P X O a).2.2))) := by
  refine aw_metW cL_emits 4 (some .int) [some (.ref (ad 0)), some (.int a), some (.ref (ad 32)), none] (by decide) rfl (Nat.le_of_ble_eq_true rfl) rfl ?_
  intro p e s m args below meth c F Zs hr hlk htb
  refine aw_aload_n (pc := 0) (i := 2) (x := ad 32) F dL_emits_0 rfl rfl ?_
  refine aw_iconst (pc := 1) (v := 0) F dL_emits_1 (by decide) ?_
  refine aw_aload_n (pc := 2) (i := 0) (x := ad 0) F dL_emits_2 rfl rfl ?_
  refine aw_iload_n (pc := 3) (i := 1) (x := a) F dL_emits_3 rfl rfl ?_
  refine aw_goV (pc := 4) (As := [.int a]) (rest := [.int (0 : Int32), .ref (ad 32)]) F zC_ok Zs 0 hC_at0 rfl (tK_emits  S P X a hS hW h0 hn1 hn2 hn3) (cwV 1 F.1.2.2.2.2 (gi_V wd_638 wd_639 wd_640 wd_64 wd_641) rfl rfl rfl (by decide +kernel) ⟨Nat.le_of_ble_eq_true rfl, Nat.le_of_ble_eq_true rfl⟩) rfl (Nat.le_of_ble_eq_true rfl) ⟨Nat.zero_le _, Nat.zero_le _⟩ rfl dL_emits_4 ?_
  show aW _ _ _ _ _ _ _ _ _ _ _ _ _ _ _ _ _ _ _ _ _ [.int ((fk_emits S P X a).1), .int (0 : Int32), .ref (ad 32)]
  refine aw_i2l (pc := 7) (v := ((fk_emits S P X a).1).toInt64) F dL_emits_7 rfl ?_
  refine aw_last (pc := 8) (hp' := (hC ad cI S P ((fk_emits S P X a).2) ++ (hM ad cI cZ T M Y V ++ hQ cJ (vp_updL O (0 : Int32).toNatClampNeg (((fk_emits S P X a).1).toInt64))))) F 32 2 hQ_at32 rfl (vp_in_iff.mpr (by decide)) hQ_st32 dL_emits_8 ?_
  refine aw_goto (pc := 9) F 18 dL_emits_9 (by decide) ?_
  refine aw_iconst (pc := 18) (v := 0) F dL_emits_18 (by decide) ?_
  exact aw_iret (pc := 19) F hr hlk dL_emits_19 (by first | rfl | (unfold fl_emits; rfl)) (by first | rfl | (unfold fl_emits; rfl))
set_option maxRecDepth 100000 in
set_option maxHeartbeats 4000000 in
theorem uL_put_1 {l : Launch} {D : va_G} {A : Nat → Prop} {ad : Nat → Nat} {tP : Nat} {cI cZ cJ : ClassId} (hl : l.stackTraces = false) (S : kT) (P : pT) (X : xT) (T : Int32) (M : mT) (Y : yT) (V : vT) (O : oT) (a : Int32) (b : Int32) (hx : ¬ fp_isWhole P = 0) : aw_N l yL_put (Cond.codeWith yL_put cL_put 5 (some .int) [(0, 10, 13, 13), (0, 10, 17, 15)] :: aw_big) 14 1 6 D vwCl [(cI, .int), (cZ, .boolean), (cJ, .long)] A ad (zC A tP) [.ref (ad 0), .int a, .int b, .ref (ad 32)] (hC ad cI S P X ++ (hM ad cI cZ T M Y V ++ hQ cJ O)) (some (.int 1)) (hC ad cI S P X ++ (hM ad cI cZ T M Y V ++ hQ cJ O)) := by
  refine aw_metN cL_put 5 (some .int) [some (.ref (ad 0)), some (.int a), some (.int b), some (.ref (ad 32)), none] (by decide) rfl (Nat.le_of_ble_eq_true rfl) rfl ?_
  intro p e s m args below meth c F Zs hr hlk htb
  refine aw_aload_n (pc := 0) (i := 3) (x := ad 32) F dL_put_0 rfl rfl ?_
  refine aw_iconst (pc := 1) (v := 0) F dL_put_1 (by decide) ?_
  refine aw_aload_n (pc := 2) (i := 0) (x := ad 0) F dL_put_2 rfl rfl ?_
  refine aw_iload_n (pc := 3) (i := 1) (x := a) F dL_put_3 rfl rfl ?_
  refine aw_iload_n (pc := 4) (i := 2) (x := b) F dL_put_4 rfl rfl ?_
  refine aw_goX (pc := 5) (As := [.int a, .int b]) (rest := [.int 0, .ref (ad 32)]) (name := "java/lang/IllegalStateException") F Zs 0 hC_at0 rfl (xK_put_10 hl S P X a b hx) (cwV 2 F.1.2.2.2.2 (gi_V wd_233 wd_234 wd_235 wd_64 wd_236) rfl rfl rfl (by decide +kernel) ⟨by decide, by decide⟩) rfl (Nat.le_of_ble_eq_true rfl) ⟨by decide, by decide⟩ rfl dL_put_5 [] ⟨0, 10, 13, 13⟩ [⟨0, 10, 17, 15⟩] htb (fun z hz => absurd hz List.not_mem_nil) (by decide) (by decide) (F.1.2.2.2.2 _ (mw wd_231)) (va_Nw.use rfl (Zs.2.2.2.1 _ _ (by decide +kernel))) (fun q => ?_)
  refine aw_astore (pc := 13) (i := 4) (L' := [some (.ref (ad 0)), some (.int a), some (.int b), some (.ref (ad 32)), some (.ref q)]) F dL_put_13 (by decide) rfl ?_
  refine aw_iconst (pc := 15) (v := 1) F dL_put_15 (by decide) ?_
  exact aw_iret (pc := 16) F hr hlk dL_put_16 rfl rfl
set_option maxRecDepth 100000 in
set_option maxHeartbeats 4000000 in
theorem uL_put_2 {l : Launch} {D : va_G} {A : Nat → Prop} {ad : Nat → Nat} {tP : Nat} {cI cZ cJ : ClassId} (hl : l.stackTraces = false) (S : kT) (P : pT) (X : xT) (T : Int32) (M : mT) (Y : yT) (V : vT) (O : oT) (a : Int32) (b : Int32) (hS : pS P) (hL : pL P) (hn1 : fp_isWhole P = 0) (hx : fp_allows P a b = 0) : aw_N l yL_put (Cond.codeWith yL_put cL_put 5 (some .int) [(0, 10, 13, 13), (0, 10, 17, 15)] :: aw_big) 14 1 6 D vwCl [(cI, .int), (cZ, .boolean), (cJ, .long)] A ad (zC A tP) [.ref (ad 0), .int a, .int b, .ref (ad 32)] (hC ad cI S P X ++ (hM ad cI cZ T M Y V ++ hQ cJ O)) (some (.int 2)) (hC ad cI S P X ++ (hM ad cI cZ T M Y V ++ hQ cJ O)) := by
  refine aw_metN cL_put 5 (some .int) [some (.ref (ad 0)), some (.int a), some (.int b), some (.ref (ad 32)), none] (by decide) rfl (Nat.le_of_ble_eq_true rfl) rfl ?_
  intro p e s m args below meth c F Zs hr hlk htb
  refine aw_aload_n (pc := 0) (i := 3) (x := ad 32) F dL_put_0 rfl rfl ?_
  refine aw_iconst (pc := 1) (v := 0) F dL_put_1 (by decide) ?_
  refine aw_aload_n (pc := 2) (i := 0) (x := ad 0) F dL_put_2 rfl rfl ?_
  refine aw_iload_n (pc := 3) (i := 1) (x := a) F dL_put_3 rfl rfl ?_
  refine aw_iload_n (pc := 4) (i := 2) (x := b) F dL_put_4 rfl rfl ?_
  refine aw_goX (pc := 5) (As := [.int a, .int b]) (rest := [.int 0, .ref (ad 32)]) (name := "java/lang/IllegalArgumentException") F Zs 0 hC_at0 rfl (xK_put_32 hl S P X a b hS hL hn1 hx) (cwV 2 F.1.2.2.2.2 (gi_V wd_233 wd_234 wd_235 wd_64 wd_236) rfl rfl rfl (by decide +kernel) ⟨by decide, by decide⟩) rfl (Nat.le_of_ble_eq_true rfl) ⟨by decide, by decide⟩ rfl dL_put_5 [⟨0, 10, 13, 13⟩] ⟨0, 10, 17, 15⟩ [] htb (fun z hz => Or.inr (by rw [List.mem_singleton.mp hz]; exact ⟨by decide, "java/lang/IllegalStateException", F.1.2.2.2.2 _ (mw wd_231), Zs.2.2.2.2.2.1 _ _ (by decide +kernel)⟩)) (by decide) (by decide) (F.1.2.2.2.2 _ (mw wd_232)) (va_Nw.use rfl (Zs.2.2.2.1 _ _ (by decide +kernel))) (fun q => ?_)
  refine aw_astore (pc := 17) (i := 4) (L' := [some (.ref (ad 0)), some (.int a), some (.int b), some (.ref (ad 32)), some (.ref q)]) F dL_put_17 (by decide) rfl ?_
  refine aw_iconst (pc := 19) (v := 2) F dL_put_19 (by decide) ?_
  exact aw_iret (pc := 20) F hr hlk dL_put_20 rfl rfl
set_option maxRecDepth 100000 in
set_option maxHeartbeats 4000000 in
theorem uL_start_1 {l : Launch} {D : va_G} {A : Nat → Prop} {ad : Nat → Nat} {tP : Nat} {cI cZ cJ : ClassId} (hl : l.stackTraces = false) (S : kT) (P : pT) (X : xT) (T : Int32) (M : mT) (Y : yT) (V : vT) (O : oT)  (hx : fp_isWhole P = 0) : aw_N l yL_start (Cond.codeWith yL_start cL_start 3 (some .int) [(0, 8, 11, 13)] :: aw_big) 14 1 6 D vwCl [(cI, .int), (cZ, .boolean), (cJ, .long)] A ad (zC A tP) [.ref (ad 0), .ref (ad 32)] (hC ad cI S P X ++ (hM ad cI cZ T M Y V ++ hQ cJ O)) (some (.int 1)) (hC ad cI S P X ++ (hM ad cI cZ T M Y V ++ hQ cJ O)) := by
  refine aw_metN cL_start 3 (some .int) [some (.ref (ad 0)), some (.ref (ad 32)), none] (by decide) rfl (Nat.le_of_ble_eq_true rfl) rfl ?_
  intro p e s m args below meth c F Zs hr hlk htb
  refine aw_aload_n (pc := 0) (i := 1) (x := ad 32) F dL_start_0 rfl rfl ?_
  refine aw_iconst (pc := 1) (v := 0) F dL_start_1 (by decide) ?_
  refine aw_aload_n (pc := 2) (i := 0) (x := ad 0) F dL_start_2 rfl rfl ?_
  refine aw_goX (pc := 3) (As := []) (rest := [.int 0, .ref (ad 32)]) (name := "java/lang/IllegalStateException") F Zs 0 hC_at0 rfl (xK_start_10 hl S P X  hx) (cwV 0 F.1.2.2.2.2 (gi_V wd_378 wd_379 wd_380 wd_64 wd_381) rfl rfl rfl (by decide +kernel) ⟨by decide, by decide⟩) rfl (Nat.le_of_ble_eq_true rfl) ⟨by decide, by decide⟩ rfl dL_start_3 [] ⟨0, 8, 11, 13⟩ [] htb (fun z hz => absurd hz List.not_mem_nil) (by decide) (by decide) (F.1.2.2.2.2 _ (mw wd_231)) (va_Nw.use rfl (Zs.2.2.2.1 _ _ (by decide +kernel))) (fun q => ?_)
  refine aw_astore_n (pc := 11) (i := 2) (L' := [some (.ref (ad 0)), some (.ref (ad 32)), some (.ref q)]) F dL_start_11 rfl (by decide) rfl ?_
  refine aw_iconst (pc := 12) (v := 1) F dL_start_12 (by decide) ?_
  exact aw_iret (pc := 13) F hr hlk dL_start_13 rfl rfl
set_option maxRecDepth 100000 in
set_option maxHeartbeats 4000000 in
theorem uL_instant_1 {l : Launch} {D : va_G} {A : Nat → Prop} {ad : Nat → Nat} {tP : Nat} {cI cZ cJ : ClassId} (hl : l.stackTraces = false) (S : kT) (P : pT) (X : xT) (T : Int32) (M : mT) (Y : yT) (V : vT) (O : oT) (a : Int32) (hx : ¬ S 0 = (1 : Int32)) : aw_N l yL_instant (Cond.codeWith yL_instant cL_instant 4 (some .int) [(0, 9, 12, 13), (0, 9, 15, 15)] :: aw_big) 14 1 6 D vwCl [(cI, .int), (cZ, .boolean), (cJ, .long)] A ad (zC A tP) [.ref (ad 0), .int a, .ref (ad 32)] (hC ad cI S P X ++ (hM ad cI cZ T M Y V ++ hQ cJ O)) (some (.int 1)) (hC ad cI S P X ++ (hM ad cI cZ T M Y V ++ hQ cJ O)) := by
  refine aw_metN cL_instant 4 (some .int) [some (.ref (ad 0)), some (.int a), some (.ref (ad 32)), none] (by decide) rfl (Nat.le_of_ble_eq_true rfl) rfl ?_
  intro p e s m args below meth c F Zs hr hlk htb
  refine aw_aload_n (pc := 0) (i := 2) (x := ad 32) F dL_instant_0 rfl rfl ?_
  refine aw_iconst (pc := 1) (v := 0) F dL_instant_1 (by decide) ?_
  refine aw_aload_n (pc := 2) (i := 0) (x := ad 0) F dL_instant_2 rfl rfl ?_
  refine aw_iload_n (pc := 3) (i := 1) (x := a) F dL_instant_3 rfl rfl ?_
  refine aw_goX (pc := 4) (As := [.int a]) (rest := [.int 0, .ref (ad 32)]) (name := "java/lang/IllegalStateException") F Zs 0 hC_at0 rfl (xK_instant_8 hl S P X a hx) (cwV 1 F.1.2.2.2.2 (gi_V wd_429 wd_430 wd_431 wd_64 wd_432) rfl rfl rfl (by decide +kernel) ⟨by decide, by decide⟩) rfl (Nat.le_of_ble_eq_true rfl) ⟨by decide, by decide⟩ rfl dL_instant_4 [] ⟨0, 9, 12, 13⟩ [⟨0, 9, 15, 15⟩] htb (fun z hz => absurd hz List.not_mem_nil) (by decide) (by decide) (F.1.2.2.2.2 _ (mw wd_231)) (va_Nw.use rfl (Zs.2.2.2.1 _ _ (by decide +kernel))) (fun q => ?_)
  refine aw_astore_n (pc := 12) (i := 3) (L' := [some (.ref (ad 0)), some (.int a), some (.ref (ad 32)), some (.ref q)]) F dL_instant_12 rfl (by decide) rfl ?_
  refine aw_iconst (pc := 13) (v := 1) F dL_instant_13 (by decide) ?_
  exact aw_iret (pc := 14) F hr hlk dL_instant_14 rfl rfl
set_option maxRecDepth 100000 in
set_option maxHeartbeats 4000000 in
theorem uL_instant_2 {l : Launch} {D : va_G} {A : Nat → Prop} {ad : Nat → Nat} {tP : Nat} {cI cZ cJ : ClassId} (hl : l.stackTraces = false) (S : kT) (P : pT) (X : xT) (T : Int32) (M : mT) (Y : yT) (V : vT) (O : oT) (a : Int32) (hn1 : S 0 = (1 : Int32)) (hx : a < 0 ∨ ¬ a < (16 : Int32)) : aw_N l yL_instant (Cond.codeWith yL_instant cL_instant 4 (some .int) [(0, 9, 12, 13), (0, 9, 15, 15)] :: aw_big) 14 1 6 D vwCl [(cI, .int), (cZ, .boolean), (cJ, .long)] A ad (zC A tP) [.ref (ad 0), .int a, .ref (ad 32)] (hC ad cI S P X ++ (hM ad cI cZ T M Y V ++ hQ cJ O)) (some (.int 2)) (hC ad cI S P X ++ (hM ad cI cZ T M Y V ++ hQ cJ O)) := by
  refine aw_metN cL_instant 4 (some .int) [some (.ref (ad 0)), some (.int a), some (.ref (ad 32)), none] (by decide) rfl (Nat.le_of_ble_eq_true rfl) rfl ?_
  intro p e s m args below meth c F Zs hr hlk htb
  refine aw_aload_n (pc := 0) (i := 2) (x := ad 32) F dL_instant_0 rfl rfl ?_
  refine aw_iconst (pc := 1) (v := 0) F dL_instant_1 (by decide) ?_
  refine aw_aload_n (pc := 2) (i := 0) (x := ad 0) F dL_instant_2 rfl rfl ?_
  refine aw_iload_n (pc := 3) (i := 1) (x := a) F dL_instant_3 rfl rfl ?_
  refine aw_goX (pc := 4) (As := [.int a]) (rest := [.int 0, .ref (ad 32)]) (name := "java/lang/IllegalArgumentException") F Zs 0 hC_at0 rfl (xK_instant_28 hl S P X a hn1 hx) (cwV 1 F.1.2.2.2.2 (gi_V wd_429 wd_430 wd_431 wd_64 wd_432) rfl rfl rfl (by decide +kernel) ⟨by decide, by decide⟩) rfl (Nat.le_of_ble_eq_true rfl) ⟨by decide, by decide⟩ rfl dL_instant_4 [⟨0, 9, 12, 13⟩] ⟨0, 9, 15, 15⟩ [] htb (fun z hz => Or.inr (by rw [List.mem_singleton.mp hz]; exact ⟨by decide, "java/lang/IllegalStateException", F.1.2.2.2.2 _ (mw wd_231), Zs.2.2.2.2.2.1 _ _ (by decide +kernel)⟩)) (by decide) (by decide) (F.1.2.2.2.2 _ (mw wd_232)) (va_Nw.use rfl (Zs.2.2.2.1 _ _ (by decide +kernel))) (fun q => ?_)
  refine aw_astore_n (pc := 15) (i := 3) (L' := [some (.ref (ad 0)), some (.int a), some (.ref (ad 32)), some (.ref q)]) F dL_instant_15 rfl (by decide) rfl ?_
  refine aw_iconst (pc := 16) (v := 2) F dL_instant_16 (by decide) ?_
  exact aw_iret (pc := 17) F hr hlk dL_instant_17 rfl rfl
set_option maxRecDepth 100000 in
set_option maxHeartbeats 4000000 in
theorem uL_status_1 {l : Launch} {D : va_G} {A : Nat → Prop} {ad : Nat → Nat} {tP : Nat} {cI cZ cJ : ClassId} (hl : l.stackTraces = false) (S : kT) (P : pT) (X : xT) (T : Int32) (M : mT) (Y : yT) (V : vT) (O : oT) (a : Int32) (hx : a < 0 ∨ ¬ a < (16 : Int32)) : aw_N l yL_status (Cond.codeWith yL_status cL_status 4 (some .int) [(0, 9, 12, 28)] :: aw_big) 14 1 6 D vwCl [(cI, .int), (cZ, .boolean), (cJ, .long)] A ad (zC A tP) [.ref (ad 0), .int a, .ref (ad 32)] (hC ad cI S P X ++ (hM ad cI cZ T M Y V ++ hQ cJ O)) (some (.int 1)) (hC ad cI S P X ++ (hM ad cI cZ T M Y V ++ hQ cJ O)) := by
  refine aw_metN cL_status 4 (some .int) [some (.ref (ad 0)), some (.int a), some (.ref (ad 32)), none] (by decide) rfl (Nat.le_of_ble_eq_true rfl) rfl ?_
  intro p e s m args below meth c F Zs hr hlk htb
  refine aw_aload_n (pc := 0) (i := 2) (x := ad 32) F dL_status_0 rfl rfl ?_
  refine aw_iconst (pc := 1) (v := 0) F dL_status_1 (by decide) ?_
  refine aw_aload_n (pc := 2) (i := 0) (x := ad 0) F dL_status_2 rfl rfl ?_
  refine aw_iload_n (pc := 3) (i := 1) (x := a) F dL_status_3 rfl rfl ?_
  refine aw_goX (pc := 4) (As := [.int a]) (rest := [.int 0, .ref (ad 32)]) (name := "java/lang/IndexOutOfBoundsException") F Zs 0 hC_at0 rfl (xK_status_10 hl S P X a hx) (cwV 1 F.1.2.2.2.2 (gi_V wd_599 wd_600 wd_601 wd_64 wd_602) rfl rfl rfl (by decide +kernel) ⟨by decide, by decide⟩) rfl (Nat.le_of_ble_eq_true rfl) ⟨by decide, by decide⟩ rfl dL_status_4 [] ⟨0, 9, 12, 28⟩ [] htb (fun z hz => absurd hz List.not_mem_nil) (by decide) (by decide) (F.1.2.2.2.2 _ (mw wd_598)) (va_Nw.use rfl (Zs.2.2.2.1 _ _ (by decide +kernel))) (fun q => ?_)
  refine aw_astore_n (pc := 12) (i := 3) (L' := [some (.ref (ad 0)), some (.int a), some (.ref (ad 32)), some (.ref q)]) F dL_status_12 rfl (by decide) rfl ?_
  refine aw_iconst (pc := 13) (v := 1) F dL_status_13 (by decide) ?_
  exact aw_iret (pc := 14) F hr hlk dL_status_14 rfl rfl
set_option maxRecDepth 100000 in
set_option maxHeartbeats 4000000 in
theorem uL_selected_1 {l : Launch} {D : va_G} {A : Nat → Prop} {ad : Nat → Nat} {tP : Nat} {cI cZ cJ : ClassId} (hl : l.stackTraces = false) (S : kT) (P : pT) (X : xT) (T : Int32) (M : mT) (Y : yT) (V : vT) (O : oT) (a : Int32) (hx : a < 0 ∨ ¬ a < (P.1 3)) : aw_N l yL_selected (Cond.codeWith yL_selected cL_selected 4 (some .int) [(0, 16, 19, 28)] :: aw_big) 14 1 6 D vwCl [(cI, .int), (cZ, .boolean), (cJ, .long)] A ad (zC A tP) [.ref (ad 0), .int a, .ref (ad 32)] (hC ad cI S P X ++ (hM ad cI cZ T M Y V ++ hQ cJ O)) (some (.int 1)) (hC ad cI S P X ++ (hM ad cI cZ T M Y V ++ hQ cJ O)) := by
  refine aw_metN cL_selected 4 (some .int) [some (.ref (ad 0)), some (.int a), some (.ref (ad 32)), none] (by decide) rfl (Nat.le_of_ble_eq_true rfl) rfl ?_
  intro p e s m args below meth c F Zs hr hlk htb
  refine aw_aload_n (pc := 0) (i := 2) (x := ad 32) F dL_selected_0 rfl rfl ?_
  refine aw_iconst (pc := 1) (v := 0) F dL_selected_1 (by decide) ?_
  refine aw_aload_n (pc := 2) (i := 0) (x := ad 0) F dL_selected_2 rfl rfl ?_
  refine aw_iload_n (pc := 3) (i := 1) (x := a) F dL_selected_3 rfl rfl ?_
  refine aw_goX (pc := 4) (As := [.int a]) (rest := [.int 0, .ref (ad 32)]) (name := "java/lang/IndexOutOfBoundsException") F Zs 0 hC_at0 rfl (xK_selected_15 hl S P X a hx) (cwV 1 F.1.2.2.2.2 (gi_V wd_623 wd_624 wd_625 wd_64 wd_626) rfl rfl rfl (by decide +kernel) ⟨by decide, by decide⟩) rfl (Nat.le_of_ble_eq_true rfl) ⟨by decide, by decide⟩ rfl dL_selected_4 [] ⟨0, 16, 19, 28⟩ [] htb (fun z hz => absurd hz List.not_mem_nil) (by decide) (by decide) (F.1.2.2.2.2 _ (mw wd_598)) (va_Nw.use rfl (Zs.2.2.2.1 _ _ (by decide +kernel))) (fun q => ?_)
  refine aw_astore_n (pc := 19) (i := 3) (L' := [some (.ref (ad 0)), some (.int a), some (.ref (ad 32)), some (.ref q)]) F dL_selected_19 rfl (by decide) rfl ?_
  refine aw_iconst (pc := 20) (v := 1) F dL_selected_20 (by decide) ?_
  exact aw_iret (pc := 21) F hr hlk dL_selected_21 rfl rfl
set_option maxRecDepth 100000 in
set_option maxHeartbeats 4000000 in
theorem uL_reacts_1 {l : Launch} {D : va_G} {A : Nat → Prop} {ad : Nat → Nat} {tP : Nat} {cI cZ cJ : ClassId} (hl : l.stackTraces = false) (S : kT) (P : pT) (X : xT) (T : Int32) (M : mT) (Y : yT) (V : vT) (O : oT)  (hx : ¬ S 0 = (1 : Int32)) : aw_N l yL_reacts (Cond.codeWith yL_reacts cL_reacts 3 (some .int) [(0, 8, 11, 13)] :: aw_big) 14 1 6 D vwCl [(cI, .int), (cZ, .boolean), (cJ, .long)] A ad (zC A tP) [.ref (ad 0), .ref (ad 32)] (hC ad cI S P X ++ (hM ad cI cZ T M Y V ++ hQ cJ O)) (some (.int 1)) (hC ad cI S P X ++ (hM ad cI cZ T M Y V ++ hQ cJ O)) := by
  refine aw_metN cL_reacts 3 (some .int) [some (.ref (ad 0)), some (.ref (ad 32)), none] (by decide) rfl (Nat.le_of_ble_eq_true rfl) rfl ?_
  intro p e s m args below meth c F Zs hr hlk htb
  refine aw_aload_n (pc := 0) (i := 1) (x := ad 32) F dL_reacts_0 rfl rfl ?_
  refine aw_iconst (pc := 1) (v := 0) F dL_reacts_1 (by decide) ?_
  refine aw_aload_n (pc := 2) (i := 0) (x := ad 0) F dL_reacts_2 rfl rfl ?_
  refine aw_goX (pc := 3) (As := []) (rest := [.int 0, .ref (ad 32)]) (name := "java/lang/IllegalStateException") F Zs 0 hC_at0 rfl (xK_reacts_8 hl S P X  hx) (cwV 0 F.1.2.2.2.2 (gi_V wd_631 wd_632 wd_633 wd_64 wd_634) rfl rfl rfl (by decide +kernel) ⟨by decide, by decide⟩) rfl (Nat.le_of_ble_eq_true rfl) ⟨by decide, by decide⟩ rfl dL_reacts_3 [] ⟨0, 8, 11, 13⟩ [] htb (fun z hz => absurd hz List.not_mem_nil) (by decide) (by decide) (F.1.2.2.2.2 _ (mw wd_231)) (va_Nw.use rfl (Zs.2.2.2.1 _ _ (by decide +kernel))) (fun q => ?_)
  refine aw_astore_n (pc := 11) (i := 2) (L' := [some (.ref (ad 0)), some (.ref (ad 32)), some (.ref q)]) F dL_reacts_11 rfl (by decide) rfl ?_
  refine aw_iconst (pc := 12) (v := 1) F dL_reacts_12 (by decide) ?_
  exact aw_iret (pc := 13) F hr hlk dL_reacts_13 rfl rfl
set_option maxRecDepth 100000 in
set_option maxHeartbeats 4000000 in
theorem uL_emits_1 {l : Launch} {D : va_G} {A : Nat → Prop} {ad : Nat → Nat} {tP : Nat} {cI cZ cJ : ClassId} (hl : l.stackTraces = false) (S : kT) (P : pT) (X : xT) (T : Int32) (M : mT) (Y : yT) (V : vT) (O : oT) (a : Int32) (hx : ¬ S 0 = (1 : Int32)) : aw_N l yL_emits (Cond.codeWith yL_emits cL_emits 4 (some .int) [(0, 9, 12, 13), (0, 9, 15, 28)] :: aw_big) 14 1 6 D vwCl [(cI, .int), (cZ, .boolean), (cJ, .long)] A ad (zC A tP) [.ref (ad 0), .int a, .ref (ad 32)] (hC ad cI S P X ++ (hM ad cI cZ T M Y V ++ hQ cJ O)) (some (.int 1)) (hC ad cI S P X ++ (hM ad cI cZ T M Y V ++ hQ cJ O)) := by
  refine aw_metN cL_emits 4 (some .int) [some (.ref (ad 0)), some (.int a), some (.ref (ad 32)), none] (by decide) rfl (Nat.le_of_ble_eq_true rfl) rfl ?_
  intro p e s m args below meth c F Zs hr hlk htb
  refine aw_aload_n (pc := 0) (i := 2) (x := ad 32) F dL_emits_0 rfl rfl ?_
  refine aw_iconst (pc := 1) (v := 0) F dL_emits_1 (by decide) ?_
  refine aw_aload_n (pc := 2) (i := 0) (x := ad 0) F dL_emits_2 rfl rfl ?_
  refine aw_iload_n (pc := 3) (i := 1) (x := a) F dL_emits_3 rfl rfl ?_
  refine aw_goX (pc := 4) (As := [.int a]) (rest := [.int 0, .ref (ad 32)]) (name := "java/lang/IllegalStateException") F Zs 0 hC_at0 rfl (xK_emits_8 hl S P X a hx) (cwV 1 F.1.2.2.2.2 (gi_V wd_638 wd_639 wd_640 wd_64 wd_641) rfl rfl rfl (by decide +kernel) ⟨by decide, by decide⟩) rfl (Nat.le_of_ble_eq_true rfl) ⟨by decide, by decide⟩ rfl dL_emits_4 [] ⟨0, 9, 12, 13⟩ [⟨0, 9, 15, 28⟩] htb (fun z hz => absurd hz List.not_mem_nil) (by decide) (by decide) (F.1.2.2.2.2 _ (mw wd_231)) (va_Nw.use rfl (Zs.2.2.2.1 _ _ (by decide +kernel))) (fun q => ?_)
  refine aw_astore_n (pc := 12) (i := 3) (L' := [some (.ref (ad 0)), some (.int a), some (.ref (ad 32)), some (.ref q)]) F dL_emits_12 rfl (by decide) rfl ?_
  refine aw_iconst (pc := 13) (v := 1) F dL_emits_13 (by decide) ?_
  exact aw_iret (pc := 14) F hr hlk dL_emits_14 rfl rfl
set_option maxRecDepth 100000 in
set_option maxHeartbeats 4000000 in
theorem uL_emits_2 {l : Launch} {D : va_G} {A : Nat → Prop} {ad : Nat → Nat} {tP : Nat} {cI cZ cJ : ClassId} (hl : l.stackTraces = false) (S : kT) (P : pT) (X : xT) (T : Int32) (M : mT) (Y : yT) (V : vT) (O : oT) (a : Int32) (hn1 : S 0 = (1 : Int32)) (hx : a < (4 : Int32) ∨ ¬ a < (16 : Int32)) : aw_N l yL_emits (Cond.codeWith yL_emits cL_emits 4 (some .int) [(0, 9, 12, 13), (0, 9, 15, 28)] :: aw_big) 14 1 6 D vwCl [(cI, .int), (cZ, .boolean), (cJ, .long)] A ad (zC A tP) [.ref (ad 0), .int a, .ref (ad 32)] (hC ad cI S P X ++ (hM ad cI cZ T M Y V ++ hQ cJ O)) (some (.int 2)) (hC ad cI S P X ++ (hM ad cI cZ T M Y V ++ hQ cJ O)) := by
  refine aw_metN cL_emits 4 (some .int) [some (.ref (ad 0)), some (.int a), some (.ref (ad 32)), none] (by decide) rfl (Nat.le_of_ble_eq_true rfl) rfl ?_
  intro p e s m args below meth c F Zs hr hlk htb
  refine aw_aload_n (pc := 0) (i := 2) (x := ad 32) F dL_emits_0 rfl rfl ?_
  refine aw_iconst (pc := 1) (v := 0) F dL_emits_1 (by decide) ?_
  refine aw_aload_n (pc := 2) (i := 0) (x := ad 0) F dL_emits_2 rfl rfl ?_
  refine aw_iload_n (pc := 3) (i := 1) (x := a) F dL_emits_3 rfl rfl ?_
  refine aw_goX (pc := 4) (As := [.int a]) (rest := [.int 0, .ref (ad 32)]) (name := "java/lang/IndexOutOfBoundsException") F Zs 0 hC_at0 rfl (xK_emits_29 hl S P X a hn1 hx) (cwV 1 F.1.2.2.2.2 (gi_V wd_638 wd_639 wd_640 wd_64 wd_641) rfl rfl rfl (by decide +kernel) ⟨by decide, by decide⟩) rfl (Nat.le_of_ble_eq_true rfl) ⟨by decide, by decide⟩ rfl dL_emits_4 [⟨0, 9, 12, 13⟩] ⟨0, 9, 15, 28⟩ [] htb (fun z hz => Or.inr (by rw [List.mem_singleton.mp hz]; exact ⟨by decide, "java/lang/IllegalStateException", F.1.2.2.2.2 _ (mw wd_231), Zs.2.2.2.2.2.1 _ _ (by decide +kernel)⟩)) (by decide) (by decide) (F.1.2.2.2.2 _ (mw wd_598)) (va_Nw.use rfl (Zs.2.2.2.1 _ _ (by decide +kernel))) (fun q => ?_)
  refine aw_astore_n (pc := 15) (i := 3) (L' := [some (.ref (ad 0)), some (.int a), some (.ref (ad 32)), some (.ref q)]) F dL_emits_15 rfl (by decide) rfl ?_
  refine aw_iconst (pc := 16) (v := 2) F dL_emits_16 (by decide) ?_
  exact aw_iret (pc := 17) F hr hlk dL_emits_17 rfl rfl
