theorem lg_self (x : Int64) : lg_cmp x x = 0 := by
  simp [lg_cmp]
theorem lw_fr {d : Nat} (h : d ≤ 403) : d + 1 ≤ room_1.frames := Nat.le_trans (Nat.add_le_add_right h 1) (by decide)
theorem lw_lo {d m : Nat} (h : d ≤ 403) (hm : m ≤ 8) : 8 + (m + 11) + 64 * d ≤ room_1.locals := by
  have : room_1.locals = 84000 := rfl
  omega
theorem O0_self {O : oT} {z : Int64} (h : O 0 = z) : lg_cmp (O (0 : Int32).toNatClampNeg) z = 0 := by
  have e : O (0 : Int32).toNatClampNeg = z := h
  rw [e]; exact lg_self _
set_option maxRecDepth 100000 in
set_option maxHeartbeats 4000000 in
theorem tL_law_X88 {l : Launch} {D : va_G} {A : Nat → Prop} {ad : Nat → Nat} {tP : Nat} {cI cZ cJ : ClassId} {b N : Nat} {xs : Nat → Int32} {cells slots : Nat} {p : Program} {e : Env} {s : State} {m : MethodId} {args : Array Value} {below : List Frame} {meth : Method} {c : Code} {Q : State → Prop} (F : aw_F p s m c args cL_law 7 (Cond.initialized "ReactionDeskLaw" :: aw_big) yL_law.cls D vwCl [(cI, .int), (cZ, .boolean), (cJ, .long)]) (Zs : zC A tP s) :
    ∀ (S : kT) (P : pT) (X : xT) (T : Int32) (M : mT) (Y : yT) (V : vT) (O : oT) (ii : Int32)  (S1 : kT) (P1 : pT) (X1 : xT) (O1 : oT) (kk : Int32) (d mc ms : Nat) (hd : d ≤ 403) (hmc : mc ≤ 1) (hms : ms ≤ 6) (hX : va_X b N xs s s.heap) (hbl : b < s.heap.size) (hbA : ¬ A b) (hcs : cells + 1 ≤ room_1.cells ∧ slots + 6 ≤ room_1.slots) (hN : aw_N l yL_put (Cond.codeWith yL_put cL_put 5 (some .int) [(0, 10, 13, 13), (0, 10, 17, 15)] :: aw_big) d mc ms D vwCl [(cI, .int), (cZ, .boolean), (cJ, .long)] A ad (zC A tP) [.ref (ad 0), .int (xs (ii + (1 : Int32)).toNatClampNeg), .int (xs (ii + (2 : Int32)).toNatClampNeg), .ref (ad 32)] (hC ad cI S P X ++ (hM ad cI cZ T M Y V ++ hQ cJ O)) (some (.int kk)) (hC ad cI S1 P1 X1 ++ (hM ad cI cZ T M Y V ++ hQ cJ O1))) (hi1 : vp_in (ii + (1 : Int32)) N) (hi2 : vp_in (ii + (2 : Int32)) N) (hS : mS M) (hL : mL M) (hO : mO M) (hk : (fm_put T M (xs (ii + (1 : Int32)).toNatClampNeg) (xs (ii + (2 : Int32)).toNatClampNeg)).2.1 = kk) (ha : kk = 0 → O1 0 = (fm_put T M (xs (ii + (1 : Int32)).toNatClampNeg) (xs (ii + (2 : Int32)).toNatClampNeg)).1.toInt64), aW p l e room_1 s m args below meth c (cells + 1) (slots + 6) Q D vwCl A ad 7 (hC ad cI S1 P1 X1 ++ (hM ad cI cZ ((fm_put T M (xs (ii + (1 : Int32)).toNatClampNeg) (xs (ii + (2 : Int32)).toNatClampNeg)).2.1) ((fm_put T M (xs (ii + (1 : Int32)).toNatClampNeg) (xs (ii + (2 : Int32)).toNatClampNeg)).2.2) Y V ++ hQ cJ O1)) [some (.ref b), some (.ref (ad 0)), some (.ref (ad 13)), some (.ref (ad 32)), some (.int ii), none, none] 513 [] → aW p l e room_1 s m args below meth c cells slots Q D vwCl A ad 7 (hC ad cI S P X ++ (hM ad cI cZ T M Y V ++ hQ cJ O)) [some (.ref b), some (.ref (ad 0)), some (.ref (ad 13)), some (.ref (ad 32)), some (.int ii), none, none] 88 [] := by
  intro S P X T M Y V O ii S1 P1 X1 O1 kk d mc ms hd hmc hms hX hbl hbA hcs hN hi1 hi2 hS hL hO hk ha kq
  refine aw_aload_n (pc := 88) (i := 1) (x := ad 0) F dL_law_88 rfl rfl ?_
  refine aw_aload_n (pc := 89) (i := 0) (x := b) F dL_law_89 rfl rfl ?_
  refine aw_iload (pc := 90) (i := 4) (x := ii) F dL_law_90 rfl ?_
  refine aw_iconst (pc := 92) (v := 1) F dL_law_92 (by decide) ?_
  refine aw_iadd (pc := 93) F dL_law_93 ?_
  refine aw_sld (pc := 94) F hX hbl hbA hi1 dL_law_94 ?_
  refine aw_aload_n (pc := 95) (i := 0) (x := b) F dL_law_95 rfl rfl ?_
  refine aw_iload (pc := 96) (i := 4) (x := ii) F dL_law_96 rfl ?_
  refine aw_iconst (pc := 98) (v := 2) F dL_law_98 (by decide) ?_
  refine aw_iadd (pc := 99) F dL_law_99 ?_
  refine aw_sld (pc := 100) F hX hbl hbA hi2 dL_law_100 ?_
  refine aw_aload_n (pc := 101) (i := 3) (x := ad 32) F dL_law_101 rfl rfl ?_
  refine aw_goSW (pc := 102) (As := [.ref (ad 0), .int (xs (ii + (1 : Int32)).toNatClampNeg), .int (xs (ii + (2 : Int32)).toNatClampNeg), .ref (ad 32)]) (rest := []) F zC_ok Zs hN (vx_cwSW 4 F.1.2.2.2.2 (gi_S wd_228 wd_229 wd_63 wd_230) rfl rfl rfl (by decide +kernel) ⟨lw_fr hd, lw_lo hd (by decide)⟩) rfl (Nat.le_of_ble_eq_true rfl) ⟨by omega, by omega⟩ rfl dL_law_102 ?_
  refine aw_widen (k := cells + 1) (n := slots + 6) (Nat.add_le_add_left hmc _) (Nat.add_le_add_left hms _) ?_
  show aW _ _ _ _ _ _ _ _ _ _ _ _ _ _ _ _ _ _ _ _ _ [.int kk]
  refine aw_istore (pc := 105) (i := 5) (L' := [some (.ref b), some (.ref (ad 0)), some (.ref (ad 13)), some (.ref (ad 32)), some (.int ii), some (.int kk), none]) F dL_law_105 (by decide) rfl ?_
  refine aw_aload_n (pc := 107) (i := 2) (x := ad 13) F dL_law_107 rfl rfl ?_
  refine aw_aload_n (pc := 108) (i := 0) (x := b) F dL_law_108 rfl rfl ?_
  refine aw_iload (pc := 109) (i := 4) (x := ii) F dL_law_109 rfl ?_
  refine aw_iconst (pc := 111) (v := 1) F dL_law_111 (by decide) ?_
  refine aw_iadd (pc := 112) F dL_law_112 ?_
  refine aw_sld (pc := 113) F hX hbl hbA hi1 dL_law_113 ?_
  refine aw_aload_n (pc := 114) (i := 0) (x := b) F dL_law_114 rfl rfl ?_
  refine aw_iload (pc := 115) (i := 4) (x := ii) F dL_law_115 rfl ?_
  refine aw_iconst (pc := 117) (v := 2) F dL_law_117 (by decide) ?_
  refine aw_iadd (pc := 118) F dL_law_118 ?_
  refine aw_sld (pc := 119) F hX hbl hbA hi2 dL_law_119 ?_
  refine aw_goV (pc := 120) (As := [.int (xs (ii + (1 : Int32)).toNatClampNeg), .int (xs (ii + (2 : Int32)).toNatClampNeg)]) (rest := []) F zC_ok Zs 13 hM_at13 rfl (tM_put  T M Y V (xs (ii + (1 : Int32)).toNatClampNeg) (xs (ii + (2 : Int32)).toNatClampNeg) hS hL hO) (cwV 2 F.1.2.2.2.2 (gi_V wd_742 wd_743 wd_744 wd_67 wd_745) rfl rfl rfl (by decide +kernel) ⟨by decide, by decide⟩) rfl (Nat.le_of_ble_eq_true rfl) hcs rfl dL_law_120 ?_
  show aW _ _ _ _ _ _ _ _ _ _ _ _ _ _ _ _ _ _ _ _ _ [.int ((fm_put T M (xs (ii + (1 : Int32)).toNatClampNeg) (xs (ii + (2 : Int32)).toNatClampNeg)).1)]
  refine aw_istore (pc := 123) (i := 6) (L' := [some (.ref b), some (.ref (ad 0)), some (.ref (ad 13)), some (.ref (ad 32)), some (.int ii), some (.int kk), some (.int ((fm_put T M (xs (ii + (1 : Int32)).toNatClampNeg) (xs (ii + (2 : Int32)).toNatClampNeg)).1))]) F dL_law_123 (by decide) rfl ?_
  refine aw_aload_n (pc := 125) (i := 2) (x := ad 13) F dL_law_125 rfl rfl ?_
  refine aw_goV (pc := 126) (As := []) (rest := []) F zC_ok Zs 13 hM_at13 rfl (tM_thrown  ((fm_put T M (xs (ii + (1 : Int32)).toNatClampNeg) (xs (ii + (2 : Int32)).toNatClampNeg)).2.1) ((fm_put T M (xs (ii + (1 : Int32)).toNatClampNeg) (xs (ii + (2 : Int32)).toNatClampNeg)).2.2) Y V) (cwV 0 F.1.2.2.2.2 (gi_V wd_738 wd_739 wd_740 wd_67 wd_741) rfl rfl rfl (by decide +kernel) ⟨by decide, by decide⟩) rfl (Nat.le_of_ble_eq_true rfl) hcs rfl dL_law_126 ?_
  show aW _ _ _ _ _ _ _ _ _ _ _ _ _ _ _ _ _ _ _ _ _ [.int (fm_thrown ((fm_put T M (xs (ii + (1 : Int32)).toNatClampNeg) (xs (ii + (2 : Int32)).toNatClampNeg)).2.1))]
  refine aw_iload (pc := 129) (i := 5) (x := kk) F dL_law_129 rfl ?_
  refine aw_icmp_eq (pc := 131) F 136 dL_law_131 (by decide) (fun c_131 => ?_) (fun c_131 => ?_)
  · skip
    refine aw_iload (pc := 136) (i := 5) (x := kk) F dL_law_136 rfl ?_
    refine aw_if_ne (pc := 138) F 153 dL_law_138 (by decide) (fun c_138 => ?_) (fun c_138 => ?_)
    · skip
      refine aw_goto (pc := 153) F 513 dL_law_153 (by decide) ?_
      refine aw_less (L' := [some (.ref b), some (.ref (ad 0)), some (.ref (ad 13)), some (.ref (ad 32)), some (.int ii), none, none]) (fun i v h => by match i, h with | 0, h => exact h | 1, h => exact h | 2, h => exact h | 3, h => exact h | 4, h => exact h | 5, h => cases h | 6, h => cases h | _ + 7, h => cases h) ?_
      exact kq
    · skip
      refine aw_aload_n (pc := 141) (i := 3) (x := ad 32) F dL_law_141 rfl rfl ?_
      refine aw_iconst (pc := 142) (v := 0) F dL_law_142 (by decide) ?_
      refine aw_lald (pc := 143) F 32 2 hQ_at32 rfl (vp_in_iff.mpr (by decide)) dL_law_143 ?_
      refine aw_iload (pc := 144) (i := 6) (x := ((fm_put T M (xs (ii + (1 : Int32)).toNatClampNeg) (xs (ii + (2 : Int32)).toNatClampNeg)).1)) F dL_law_144 rfl ?_
      refine aw_i2l (pc := 146) (v := ((fm_put T M (xs (ii + (1 : Int32)).toNatClampNeg) (xs (ii + (2 : Int32)).toNatClampNeg)).1).toInt64) F dL_law_146 rfl ?_
      refine aw_lcmp (pc := 147) F dL_law_147 ?_
      refine aw_if_eq (pc := 148) F 153 dL_law_148 (by decide) (fun c_148 => ?_) (fun c_148 => ?_)
      · skip
        refine aw_goto (pc := 153) F 513 dL_law_153 (by decide) ?_
        refine aw_less (L' := [some (.ref b), some (.ref (ad 0)), some (.ref (ad 13)), some (.ref (ad 32)), some (.int ii), none, none]) (fun i v h => by match i, h with | 0, h => exact h | 1, h => exact h | 2, h => exact h | 3, h => exact h | 4, h => exact h | 5, h => cases h | 6, h => cases h | _ + 7, h => cases h) ?_
        exact kq
      · skip
        exact absurd (O0_self (ha c_138)) c_148
  · skip
    exact absurd hk c_131
set_option maxRecDepth 100000 in
set_option maxHeartbeats 4000000 in
theorem tL_law_X156 {l : Launch} {D : va_G} {A : Nat → Prop} {ad : Nat → Nat} {tP : Nat} {cI cZ cJ : ClassId} {b N : Nat} {xs : Nat → Int32} {cells slots : Nat} {p : Program} {e : Env} {s : State} {m : MethodId} {args : Array Value} {below : List Frame} {meth : Method} {c : Code} {Q : State → Prop} (F : aw_F p s m c args cL_law 7 (Cond.initialized "ReactionDeskLaw" :: aw_big) yL_law.cls D vwCl [(cI, .int), (cZ, .boolean), (cJ, .long)]) (Zs : zC A tP s) :
    ∀ (S : kT) (P : pT) (X : xT) (T : Int32) (M : mT) (Y : yT) (V : vT) (O : oT) (ii : Int32)  (S1 : kT) (P1 : pT) (X1 : xT) (O1 : oT) (kk : Int32) (d mc ms : Nat) (hd : d ≤ 403) (hmc : mc ≤ 1) (hms : ms ≤ 6) (hX : va_X b N xs s s.heap) (hbl : b < s.heap.size) (hbA : ¬ A b) (hcs : cells + 1 ≤ room_1.cells ∧ slots + 6 ≤ room_1.slots) (hN : aw_N l yL_start (Cond.codeWith yL_start cL_start 3 (some .int) [(0, 8, 11, 13)] :: aw_big) d mc ms D vwCl [(cI, .int), (cZ, .boolean), (cJ, .long)] A ad (zC A tP) [.ref (ad 0), .ref (ad 32)] (hC ad cI S P X ++ (hM ad cI cZ T M Y V ++ hQ cJ O)) (some (.int kk)) (hC ad cI S1 P1 X1 ++ (hM ad cI cZ T M Y V ++ hQ cJ O1))) (hw : (fm_startF T M).1 = 0 → mW M) (hk : (fm_start T M Y).2.1 = kk) (ha : kk = 0 → O1 0 = (fm_start T M Y).1.toInt64), aW p l e room_1 s m args below meth c (cells + 1) (slots + 6) Q D vwCl A ad 7 (hC ad cI S1 P1 X1 ++ (hM ad cI cZ ((fm_start T M Y).2.1) M ((fm_start T M Y).2.2) V ++ hQ cJ O1)) [some (.ref b), some (.ref (ad 0)), some (.ref (ad 13)), some (.ref (ad 32)), some (.int ii), none, none] 513 [] → aW p l e room_1 s m args below meth c cells slots Q D vwCl A ad 7 (hC ad cI S P X ++ (hM ad cI cZ T M Y V ++ hQ cJ O)) [some (.ref b), some (.ref (ad 0)), some (.ref (ad 13)), some (.ref (ad 32)), some (.int ii), none, none] 156 [] := by
  intro S P X T M Y V O ii S1 P1 X1 O1 kk d mc ms hd hmc hms hX hbl hbA hcs hN hw hk ha kq
  refine aw_aload_n (pc := 156) (i := 1) (x := ad 0) F dL_law_156 rfl rfl ?_
  refine aw_aload_n (pc := 157) (i := 3) (x := ad 32) F dL_law_157 rfl rfl ?_
  refine aw_goSW (pc := 158) (As := [.ref (ad 0), .ref (ad 32)]) (rest := []) F zC_ok Zs hN (vx_cwSW 2 F.1.2.2.2.2 (gi_S wd_375 wd_376 wd_63 wd_377) rfl rfl rfl (by decide +kernel) ⟨lw_fr hd, lw_lo hd (by decide)⟩) rfl (Nat.le_of_ble_eq_true rfl) ⟨by omega, by omega⟩ rfl dL_law_158 ?_
  refine aw_widen (k := cells + 1) (n := slots + 6) (Nat.add_le_add_left hmc _) (Nat.add_le_add_left hms _) ?_
  show aW _ _ _ _ _ _ _ _ _ _ _ _ _ _ _ _ _ _ _ _ _ [.int kk]
  refine aw_istore (pc := 161) (i := 5) (L' := [some (.ref b), some (.ref (ad 0)), some (.ref (ad 13)), some (.ref (ad 32)), some (.int ii), some (.int kk), none]) F dL_law_161 (by decide) rfl ?_
  refine aw_aload_n (pc := 163) (i := 2) (x := ad 13) F dL_law_163 rfl rfl ?_
  refine aw_goV (pc := 164) (As := []) (rest := []) F zC_ok Zs 13 hM_at13 rfl (tM_start  T M Y V  hw) (cwV 0 F.1.2.2.2.2 (gi_V wd_761 wd_762 wd_763 wd_67 wd_764) rfl rfl rfl (by decide +kernel) ⟨by decide, by decide⟩) rfl (Nat.le_of_ble_eq_true rfl) hcs rfl dL_law_164 ?_
  show aW _ _ _ _ _ _ _ _ _ _ _ _ _ _ _ _ _ _ _ _ _ [.int ((fm_start T M Y).1)]
  refine aw_istore (pc := 167) (i := 6) (L' := [some (.ref b), some (.ref (ad 0)), some (.ref (ad 13)), some (.ref (ad 32)), some (.int ii), some (.int kk), some (.int ((fm_start T M Y).1))]) F dL_law_167 (by decide) rfl ?_
  refine aw_aload_n (pc := 169) (i := 2) (x := ad 13) F dL_law_169 rfl rfl ?_
  refine aw_goV (pc := 170) (As := []) (rest := []) F zC_ok Zs 13 hM_at13 rfl (tM_thrown  ((fm_start T M Y).2.1) M ((fm_start T M Y).2.2) V) (cwV 0 F.1.2.2.2.2 (gi_V wd_738 wd_739 wd_740 wd_67 wd_741) rfl rfl rfl (by decide +kernel) ⟨by decide, by decide⟩) rfl (Nat.le_of_ble_eq_true rfl) hcs rfl dL_law_170 ?_
  show aW _ _ _ _ _ _ _ _ _ _ _ _ _ _ _ _ _ _ _ _ _ [.int (fm_thrown ((fm_start T M Y).2.1))]
  refine aw_iload (pc := 173) (i := 5) (x := kk) F dL_law_173 rfl ?_
  refine aw_icmp_eq (pc := 175) F 180 dL_law_175 (by decide) (fun c_175 => ?_) (fun c_175 => ?_)
  · skip
    refine aw_iload (pc := 180) (i := 5) (x := kk) F dL_law_180 rfl ?_
    refine aw_if_ne (pc := 182) F 197 dL_law_182 (by decide) (fun c_182 => ?_) (fun c_182 => ?_)
    · skip
      refine aw_goto (pc := 197) F 513 dL_law_197 (by decide) ?_
      refine aw_less (L' := [some (.ref b), some (.ref (ad 0)), some (.ref (ad 13)), some (.ref (ad 32)), some (.int ii), none, none]) (fun i v h => by match i, h with | 0, h => exact h | 1, h => exact h | 2, h => exact h | 3, h => exact h | 4, h => exact h | 5, h => cases h | 6, h => cases h | _ + 7, h => cases h) ?_
      exact kq
    · skip
      refine aw_aload_n (pc := 185) (i := 3) (x := ad 32) F dL_law_185 rfl rfl ?_
      refine aw_iconst (pc := 186) (v := 0) F dL_law_186 (by decide) ?_
      refine aw_lald (pc := 187) F 32 2 hQ_at32 rfl (vp_in_iff.mpr (by decide)) dL_law_187 ?_
      refine aw_iload (pc := 188) (i := 6) (x := ((fm_start T M Y).1)) F dL_law_188 rfl ?_
      refine aw_i2l (pc := 190) (v := ((fm_start T M Y).1).toInt64) F dL_law_190 rfl ?_
      refine aw_lcmp (pc := 191) F dL_law_191 ?_
      refine aw_if_eq (pc := 192) F 197 dL_law_192 (by decide) (fun c_192 => ?_) (fun c_192 => ?_)
      · skip
        refine aw_goto (pc := 197) F 513 dL_law_197 (by decide) ?_
        refine aw_less (L' := [some (.ref b), some (.ref (ad 0)), some (.ref (ad 13)), some (.ref (ad 32)), some (.int ii), none, none]) (fun i v h => by match i, h with | 0, h => exact h | 1, h => exact h | 2, h => exact h | 3, h => exact h | 4, h => exact h | 5, h => cases h | 6, h => cases h | _ + 7, h => cases h) ?_
        exact kq
      · skip
        exact absurd (O0_self (ha c_182)) c_192
  · skip
    exact absurd hk c_175
set_option maxRecDepth 100000 in
set_option maxHeartbeats 4000000 in
theorem tL_law_X213 {l : Launch} {D : va_G} {A : Nat → Prop} {ad : Nat → Nat} {tP : Nat} {cI cZ cJ : ClassId} {b N : Nat} {xs : Nat → Int32} {cells slots : Nat} {p : Program} {e : Env} {s : State} {m : MethodId} {args : Array Value} {below : List Frame} {meth : Method} {c : Code} {Q : State → Prop} (F : aw_F p s m c args cL_law 7 (Cond.initialized "ReactionDeskLaw" :: aw_big) yL_law.cls D vwCl [(cI, .int), (cZ, .boolean), (cJ, .long)]) (Zs : zC A tP s) :
    ∀ (S : kT) (P : pT) (X : xT) (T : Int32) (M : mT) (Y : yT) (V : vT) (O : oT) (ii : Int32)  (S1 : kT) (P1 : pT) (X1 : xT) (O1 : oT) (kk : Int32) (d mc ms : Nat) (hd : d ≤ 403) (hmc : mc ≤ 1) (hms : ms ≤ 6) (hX : va_X b N xs s s.heap) (hbl : b < s.heap.size) (hbA : ¬ A b) (hcs : cells + 1 ≤ room_1.cells ∧ slots + 6 ≤ room_1.slots) (hN : aw_N l yL_instant (Cond.codeWith yL_instant cL_instant 4 (some .int) [(0, 9, 12, 13), (0, 9, 15, 15)] :: aw_big) d mc ms D vwCl [(cI, .int), (cZ, .boolean), (cJ, .long)] A ad (zC A tP) [.ref (ad 0), .int (xs (ii + (1 : Int32)).toNatClampNeg), .ref (ad 32)] (hC ad cI S P X ++ (hM ad cI cZ T M Y V ++ hQ cJ O)) (some (.int kk)) (hC ad cI S1 P1 X1 ++ (hM ad cI cZ T M Y V ++ hQ cJ O1))) (hi1 : vp_in (ii + (1 : Int32)) N) (hg : (fm_insF T (xs (ii + (1 : Int32)).toNatClampNeg) (fm_insG Y (xs (ii + (1 : Int32)).toNatClampNeg))).1 = 0 → mW M ∧ 0 < (M.1 0).toInt) (hk : (fm_instant T M Y V (xs (ii + (1 : Int32)).toNatClampNeg)).2.1 = kk) (ha : kk = 0 → O1 0 = (fm_instant T M Y V (xs (ii + (1 : Int32)).toNatClampNeg)).1.toInt64), aW p l e room_1 s m args below meth c (cells + 1) (slots + 6) Q D vwCl A ad 7 (hC ad cI S1 P1 X1 ++ (hM ad cI cZ ((fm_instant T M Y V (xs (ii + (1 : Int32)).toNatClampNeg)).2.1) M ((fm_instant T M Y V (xs (ii + (1 : Int32)).toNatClampNeg)).2.2.1) ((fm_instant T M Y V (xs (ii + (1 : Int32)).toNatClampNeg)).2.2.2) ++ hQ cJ O1)) [some (.ref b), some (.ref (ad 0)), some (.ref (ad 13)), some (.ref (ad 32)), some (.int ii), none, none] 513 [] → aW p l e room_1 s m args below meth c cells slots Q D vwCl A ad 7 (hC ad cI S P X ++ (hM ad cI cZ T M Y V ++ hQ cJ O)) [some (.ref b), some (.ref (ad 0)), some (.ref (ad 13)), some (.ref (ad 32)), some (.int ii), none, none] 213 [] := by
  intro S P X T M Y V O ii S1 P1 X1 O1 kk d mc ms hd hmc hms hX hbl hbA hcs hN hi1 hg hk ha kq
  refine aw_aload_n (pc := 213) (i := 1) (x := ad 0) F dL_law_213 rfl rfl ?_
  refine aw_aload_n (pc := 214) (i := 0) (x := b) F dL_law_214 rfl rfl ?_
  refine aw_iload (pc := 215) (i := 4) (x := ii) F dL_law_215 rfl ?_
  refine aw_iconst (pc := 217) (v := 1) F dL_law_217 (by decide) ?_
  refine aw_iadd (pc := 218) F dL_law_218 ?_
  refine aw_sld (pc := 219) F hX hbl hbA hi1 dL_law_219 ?_
  refine aw_aload_n (pc := 220) (i := 3) (x := ad 32) F dL_law_220 rfl rfl ?_
  refine aw_goSW (pc := 221) (As := [.ref (ad 0), .int (xs (ii + (1 : Int32)).toNatClampNeg), .ref (ad 32)]) (rest := []) F zC_ok Zs hN (vx_cwSW 3 F.1.2.2.2.2 (gi_S wd_426 wd_427 wd_63 wd_428) rfl rfl rfl (by decide +kernel) ⟨lw_fr hd, lw_lo hd (by decide)⟩) rfl (Nat.le_of_ble_eq_true rfl) ⟨by omega, by omega⟩ rfl dL_law_221 ?_
  refine aw_widen (k := cells + 1) (n := slots + 6) (Nat.add_le_add_left hmc _) (Nat.add_le_add_left hms _) ?_
  show aW _ _ _ _ _ _ _ _ _ _ _ _ _ _ _ _ _ _ _ _ _ [.int kk]
  refine aw_istore (pc := 224) (i := 5) (L' := [some (.ref b), some (.ref (ad 0)), some (.ref (ad 13)), some (.ref (ad 32)), some (.int ii), some (.int kk), none]) F dL_law_224 (by decide) rfl ?_
  refine aw_aload_n (pc := 226) (i := 2) (x := ad 13) F dL_law_226 rfl rfl ?_
  refine aw_aload_n (pc := 227) (i := 0) (x := b) F dL_law_227 rfl rfl ?_
  refine aw_iload (pc := 228) (i := 4) (x := ii) F dL_law_228 rfl ?_
  refine aw_iconst (pc := 230) (v := 1) F dL_law_230 (by decide) ?_
  refine aw_iadd (pc := 231) F dL_law_231 ?_
  refine aw_sld (pc := 232) F hX hbl hbA hi1 dL_law_232 ?_
  refine aw_goV (pc := 233) (As := [.int (xs (ii + (1 : Int32)).toNatClampNeg)]) (rest := []) F zC_ok Zs 13 hM_at13 rfl (tM_instant  T M Y V (xs (ii + (1 : Int32)).toNatClampNeg) hg) (cwV 1 F.1.2.2.2.2 (gi_V wd_783 wd_784 wd_785 wd_67 wd_786) rfl rfl rfl (by decide +kernel) ⟨by decide, by decide⟩) rfl (Nat.le_of_ble_eq_true rfl) hcs rfl dL_law_233 ?_
  show aW _ _ _ _ _ _ _ _ _ _ _ _ _ _ _ _ _ _ _ _ _ [.int ((fm_instant T M Y V (xs (ii + (1 : Int32)).toNatClampNeg)).1)]
  refine aw_istore (pc := 236) (i := 6) (L' := [some (.ref b), some (.ref (ad 0)), some (.ref (ad 13)), some (.ref (ad 32)), some (.int ii), some (.int kk), some (.int ((fm_instant T M Y V (xs (ii + (1 : Int32)).toNatClampNeg)).1))]) F dL_law_236 (by decide) rfl ?_
  refine aw_aload_n (pc := 238) (i := 2) (x := ad 13) F dL_law_238 rfl rfl ?_
  refine aw_goV (pc := 239) (As := []) (rest := []) F zC_ok Zs 13 hM_at13 rfl (tM_thrown  ((fm_instant T M Y V (xs (ii + (1 : Int32)).toNatClampNeg)).2.1) M ((fm_instant T M Y V (xs (ii + (1 : Int32)).toNatClampNeg)).2.2.1) ((fm_instant T M Y V (xs (ii + (1 : Int32)).toNatClampNeg)).2.2.2)) (cwV 0 F.1.2.2.2.2 (gi_V wd_738 wd_739 wd_740 wd_67 wd_741) rfl rfl rfl (by decide +kernel) ⟨by decide, by decide⟩) rfl (Nat.le_of_ble_eq_true rfl) hcs rfl dL_law_239 ?_
  show aW _ _ _ _ _ _ _ _ _ _ _ _ _ _ _ _ _ _ _ _ _ [.int (fm_thrown ((fm_instant T M Y V (xs (ii + (1 : Int32)).toNatClampNeg)).2.1))]
  refine aw_iload (pc := 242) (i := 5) (x := kk) F dL_law_242 rfl ?_
  refine aw_icmp_eq (pc := 244) F 249 dL_law_244 (by decide) (fun c_244 => ?_) (fun c_244 => ?_)
  · skip
    refine aw_iload (pc := 249) (i := 5) (x := kk) F dL_law_249 rfl ?_
    refine aw_if_ne (pc := 251) F 266 dL_law_251 (by decide) (fun c_251 => ?_) (fun c_251 => ?_)
    · skip
      refine aw_goto (pc := 266) F 513 dL_law_266 (by decide) ?_
      refine aw_less (L' := [some (.ref b), some (.ref (ad 0)), some (.ref (ad 13)), some (.ref (ad 32)), some (.int ii), none, none]) (fun i v h => by match i, h with | 0, h => exact h | 1, h => exact h | 2, h => exact h | 3, h => exact h | 4, h => exact h | 5, h => cases h | 6, h => cases h | _ + 7, h => cases h) ?_
      exact kq
    · skip
      refine aw_aload_n (pc := 254) (i := 3) (x := ad 32) F dL_law_254 rfl rfl ?_
      refine aw_iconst (pc := 255) (v := 0) F dL_law_255 (by decide) ?_
      refine aw_lald (pc := 256) F 32 2 hQ_at32 rfl (vp_in_iff.mpr (by decide)) dL_law_256 ?_
      refine aw_iload (pc := 257) (i := 6) (x := ((fm_instant T M Y V (xs (ii + (1 : Int32)).toNatClampNeg)).1)) F dL_law_257 rfl ?_
      refine aw_i2l (pc := 259) (v := ((fm_instant T M Y V (xs (ii + (1 : Int32)).toNatClampNeg)).1).toInt64) F dL_law_259 rfl ?_
      refine aw_lcmp (pc := 260) F dL_law_260 ?_
      refine aw_if_eq (pc := 261) F 266 dL_law_261 (by decide) (fun c_261 => ?_) (fun c_261 => ?_)
      · skip
        refine aw_goto (pc := 266) F 513 dL_law_266 (by decide) ?_
        refine aw_less (L' := [some (.ref b), some (.ref (ad 0)), some (.ref (ad 13)), some (.ref (ad 32)), some (.int ii), none, none]) (fun i v h => by match i, h with | 0, h => exact h | 1, h => exact h | 2, h => exact h | 3, h => exact h | 4, h => exact h | 5, h => cases h | 6, h => cases h | _ + 7, h => cases h) ?_
        exact kq
      · skip
        exact absurd (O0_self (ha c_251)) c_261
  · skip
    exact absurd hk c_244
set_option maxRecDepth 100000 in
set_option maxHeartbeats 4000000 in
theorem tL_law_X269 {l : Launch} {D : va_G} {A : Nat → Prop} {ad : Nat → Nat} {tP : Nat} {cI cZ cJ : ClassId} {b N : Nat} {xs : Nat → Int32} {cells slots : Nat} {p : Program} {e : Env} {s : State} {m : MethodId} {args : Array Value} {below : List Frame} {meth : Method} {c : Code} {Q : State → Prop} (F : aw_F p s m c args cL_law 7 (Cond.initialized "ReactionDeskLaw" :: aw_big) yL_law.cls D vwCl [(cI, .int), (cZ, .boolean), (cJ, .long)]) (Zs : zC A tP s) :
    ∀ (S : kT) (P : pT) (X : xT) (T : Int32) (M : mT) (Y : yT) (V : vT) (O : oT) (ii : Int32)  (S1 : kT) (P1 : pT) (X1 : xT) (O1 : oT) (kk : Int32) (d mc ms : Nat) (hd : d ≤ 403) (hmc : mc ≤ 1) (hms : ms ≤ 6) (hX : va_X b N xs s s.heap) (hbl : b < s.heap.size) (hbA : ¬ A b) (hcs : cells + 1 ≤ room_1.cells ∧ slots + 6 ≤ room_1.slots) (hN : aw_N l yL_status (Cond.codeWith yL_status cL_status 4 (some .int) [(0, 9, 12, 28)] :: aw_big) d mc ms D vwCl [(cI, .int), (cZ, .boolean), (cJ, .long)] A ad (zC A tP) [.ref (ad 0), .int (xs (ii + (1 : Int32)).toNatClampNeg), .ref (ad 32)] (hC ad cI S P X ++ (hM ad cI cZ T M Y V ++ hQ cJ O)) (some (.int kk)) (hC ad cI S1 P1 X1 ++ (hM ad cI cZ T M Y V ++ hQ cJ O1))) (hi1 : vp_in (ii + (1 : Int32)) N) (hk : (fm_status T Y (xs (ii + (1 : Int32)).toNatClampNeg)).2 = kk) (ha : kk = 0 → O1 0 = (fm_status T Y (xs (ii + (1 : Int32)).toNatClampNeg)).1.toInt64), aW p l e room_1 s m args below meth c (cells + 1) (slots + 6) Q D vwCl A ad 7 (hC ad cI S1 P1 X1 ++ (hM ad cI cZ ((fm_status T Y (xs (ii + (1 : Int32)).toNatClampNeg)).2) M Y V ++ hQ cJ O1)) [some (.ref b), some (.ref (ad 0)), some (.ref (ad 13)), some (.ref (ad 32)), some (.int ii), none, none] 513 [] → aW p l e room_1 s m args below meth c cells slots Q D vwCl A ad 7 (hC ad cI S P X ++ (hM ad cI cZ T M Y V ++ hQ cJ O)) [some (.ref b), some (.ref (ad 0)), some (.ref (ad 13)), some (.ref (ad 32)), some (.int ii), none, none] 269 [] := by
  intro S P X T M Y V O ii S1 P1 X1 O1 kk d mc ms hd hmc hms hX hbl hbA hcs hN hi1 hk ha kq
  refine aw_aload_n (pc := 269) (i := 1) (x := ad 0) F dL_law_269 rfl rfl ?_
  refine aw_aload_n (pc := 270) (i := 0) (x := b) F dL_law_270 rfl rfl ?_
  refine aw_iload (pc := 271) (i := 4) (x := ii) F dL_law_271 rfl ?_
  refine aw_iconst (pc := 273) (v := 1) F dL_law_273 (by decide) ?_
  refine aw_iadd (pc := 274) F dL_law_274 ?_
  refine aw_sld (pc := 275) F hX hbl hbA hi1 dL_law_275 ?_
  refine aw_aload_n (pc := 276) (i := 3) (x := ad 32) F dL_law_276 rfl rfl ?_
  refine aw_goSW (pc := 277) (As := [.ref (ad 0), .int (xs (ii + (1 : Int32)).toNatClampNeg), .ref (ad 32)]) (rest := []) F zC_ok Zs hN (vx_cwSW 3 F.1.2.2.2.2 (gi_S wd_595 wd_596 wd_63 wd_597) rfl rfl rfl (by decide +kernel) ⟨lw_fr hd, lw_lo hd (by decide)⟩) rfl (Nat.le_of_ble_eq_true rfl) ⟨by omega, by omega⟩ rfl dL_law_277 ?_
  refine aw_widen (k := cells + 1) (n := slots + 6) (Nat.add_le_add_left hmc _) (Nat.add_le_add_left hms _) ?_
  show aW _ _ _ _ _ _ _ _ _ _ _ _ _ _ _ _ _ _ _ _ _ [.int kk]
  refine aw_istore (pc := 280) (i := 5) (L' := [some (.ref b), some (.ref (ad 0)), some (.ref (ad 13)), some (.ref (ad 32)), some (.int ii), some (.int kk), none]) F dL_law_280 (by decide) rfl ?_
  refine aw_aload_n (pc := 282) (i := 2) (x := ad 13) F dL_law_282 rfl rfl ?_
  refine aw_aload_n (pc := 283) (i := 0) (x := b) F dL_law_283 rfl rfl ?_
  refine aw_iload (pc := 284) (i := 4) (x := ii) F dL_law_284 rfl ?_
  refine aw_iconst (pc := 286) (v := 1) F dL_law_286 (by decide) ?_
  refine aw_iadd (pc := 287) F dL_law_287 ?_
  refine aw_sld (pc := 288) F hX hbl hbA hi1 dL_law_288 ?_
  refine aw_goV (pc := 289) (As := [.int (xs (ii + (1 : Int32)).toNatClampNeg)]) (rest := []) F zC_ok Zs 13 hM_at13 rfl (tM_status  T M Y V (xs (ii + (1 : Int32)).toNatClampNeg)) (cwV 1 F.1.2.2.2.2 (gi_V wd_848 wd_849 wd_850 wd_67 wd_851) rfl rfl rfl (by decide +kernel) ⟨by decide, by decide⟩) rfl (Nat.le_of_ble_eq_true rfl) hcs rfl dL_law_289 ?_
  show aW _ _ _ _ _ _ _ _ _ _ _ _ _ _ _ _ _ _ _ _ _ [.int ((fm_status T Y (xs (ii + (1 : Int32)).toNatClampNeg)).1)]
  refine aw_istore (pc := 292) (i := 6) (L' := [some (.ref b), some (.ref (ad 0)), some (.ref (ad 13)), some (.ref (ad 32)), some (.int ii), some (.int kk), some (.int ((fm_status T Y (xs (ii + (1 : Int32)).toNatClampNeg)).1))]) F dL_law_292 (by decide) rfl ?_
  refine aw_aload_n (pc := 294) (i := 2) (x := ad 13) F dL_law_294 rfl rfl ?_
  refine aw_goV (pc := 295) (As := []) (rest := []) F zC_ok Zs 13 hM_at13 rfl (tM_thrown  ((fm_status T Y (xs (ii + (1 : Int32)).toNatClampNeg)).2) M Y V) (cwV 0 F.1.2.2.2.2 (gi_V wd_738 wd_739 wd_740 wd_67 wd_741) rfl rfl rfl (by decide +kernel) ⟨by decide, by decide⟩) rfl (Nat.le_of_ble_eq_true rfl) hcs rfl dL_law_295 ?_
  show aW _ _ _ _ _ _ _ _ _ _ _ _ _ _ _ _ _ _ _ _ _ [.int (fm_thrown ((fm_status T Y (xs (ii + (1 : Int32)).toNatClampNeg)).2))]
  refine aw_iload (pc := 298) (i := 5) (x := kk) F dL_law_298 rfl ?_
  refine aw_icmp_eq (pc := 300) F 305 dL_law_300 (by decide) (fun c_300 => ?_) (fun c_300 => ?_)
  · skip
    refine aw_iload (pc := 305) (i := 5) (x := kk) F dL_law_305 rfl ?_
    refine aw_if_ne (pc := 307) F 322 dL_law_307 (by decide) (fun c_307 => ?_) (fun c_307 => ?_)
    · skip
      refine aw_goto (pc := 322) F 513 dL_law_322 (by decide) ?_
      refine aw_less (L' := [some (.ref b), some (.ref (ad 0)), some (.ref (ad 13)), some (.ref (ad 32)), some (.int ii), none, none]) (fun i v h => by match i, h with | 0, h => exact h | 1, h => exact h | 2, h => exact h | 3, h => exact h | 4, h => exact h | 5, h => cases h | 6, h => cases h | _ + 7, h => cases h) ?_
      exact kq
    · skip
      refine aw_aload_n (pc := 310) (i := 3) (x := ad 32) F dL_law_310 rfl rfl ?_
      refine aw_iconst (pc := 311) (v := 0) F dL_law_311 (by decide) ?_
      refine aw_lald (pc := 312) F 32 2 hQ_at32 rfl (vp_in_iff.mpr (by decide)) dL_law_312 ?_
      refine aw_iload (pc := 313) (i := 6) (x := ((fm_status T Y (xs (ii + (1 : Int32)).toNatClampNeg)).1)) F dL_law_313 rfl ?_
      refine aw_i2l (pc := 315) (v := ((fm_status T Y (xs (ii + (1 : Int32)).toNatClampNeg)).1).toInt64) F dL_law_315 rfl ?_
      refine aw_lcmp (pc := 316) F dL_law_316 ?_
      refine aw_if_eq (pc := 317) F 322 dL_law_317 (by decide) (fun c_317 => ?_) (fun c_317 => ?_)
      · skip
        refine aw_goto (pc := 322) F 513 dL_law_322 (by decide) ?_
        refine aw_less (L' := [some (.ref b), some (.ref (ad 0)), some (.ref (ad 13)), some (.ref (ad 32)), some (.int ii), none, none]) (fun i v h => by match i, h with | 0, h => exact h | 1, h => exact h | 2, h => exact h | 3, h => exact h | 4, h => exact h | 5, h => cases h | 6, h => cases h | _ + 7, h => cases h) ?_
        exact kq
      · skip
        exact absurd (O0_self (ha c_307)) c_317
  · skip
    exact absurd hk c_300
set_option maxRecDepth 100000 in
set_option maxHeartbeats 4000000 in
theorem tL_law_X325 {l : Launch} {D : va_G} {A : Nat → Prop} {ad : Nat → Nat} {tP : Nat} {cI cZ cJ : ClassId} {b N : Nat} {xs : Nat → Int32} {cells slots : Nat} {p : Program} {e : Env} {s : State} {m : MethodId} {args : Array Value} {below : List Frame} {meth : Method} {c : Code} {Q : State → Prop} (F : aw_F p s m c args cL_law 7 (Cond.initialized "ReactionDeskLaw" :: aw_big) yL_law.cls D vwCl [(cI, .int), (cZ, .boolean), (cJ, .long)]) (Zs : zC A tP s) :
    ∀ (S : kT) (P : pT) (X : xT) (T : Int32) (M : mT) (Y : yT) (V : vT) (O : oT) (ii : Int32)  (S1 : kT) (P1 : pT) (X1 : xT) (O1 : oT) (kk : Int32) (d mc ms : Nat) (hd : d ≤ 403) (hmc : mc ≤ 1) (hms : ms ≤ 6) (hX : va_X b N xs s s.heap) (hbl : b < s.heap.size) (hbA : ¬ A b) (hcs : cells + 1 ≤ room_1.cells ∧ slots + 6 ≤ room_1.slots) (hN : aw_N l yL_selected (Cond.codeWith yL_selected cL_selected 4 (some .int) [(0, 16, 19, 28)] :: aw_big) d mc ms D vwCl [(cI, .int), (cZ, .boolean), (cJ, .long)] A ad (zC A tP) [.ref (ad 0), .int (xs (ii + (1 : Int32)).toNatClampNeg), .ref (ad 32)] (hC ad cI S P X ++ (hM ad cI cZ T M Y V ++ hQ cJ O)) (some (.int kk)) (hC ad cI S1 P1 X1 ++ (hM ad cI cZ T M Y V ++ hQ cJ O1))) (hi1 : vp_in (ii + (1 : Int32)) N) (hp : (M.1 1).toInt ≤ 32) (hk : (fm_selected T M Y (xs (ii + (1 : Int32)).toNatClampNeg)).2 = kk) (ha : kk = 0 → O1 0 = if (fm_selected T M Y (xs (ii + (1 : Int32)).toNatClampNeg)).1 = 0 then (0 : Int64) else (1 : Int64)), aW p l e room_1 s m args below meth c (cells + 1) (slots + 6) Q D vwCl A ad 7 (hC ad cI S1 P1 X1 ++ (hM ad cI cZ ((fm_selected T M Y (xs (ii + (1 : Int32)).toNatClampNeg)).2) M Y V ++ hQ cJ O1)) [some (.ref b), some (.ref (ad 0)), some (.ref (ad 13)), some (.ref (ad 32)), some (.int ii), none, none] 513 [] → aW p l e room_1 s m args below meth c cells slots Q D vwCl A ad 7 (hC ad cI S P X ++ (hM ad cI cZ T M Y V ++ hQ cJ O)) [some (.ref b), some (.ref (ad 0)), some (.ref (ad 13)), some (.ref (ad 32)), some (.int ii), none, none] 325 [] := by
  intro S P X T M Y V O ii S1 P1 X1 O1 kk d mc ms hd hmc hms hX hbl hbA hcs hN hi1 hp hk ha kq
  refine aw_aload_n (pc := 325) (i := 1) (x := ad 0) F dL_law_325 rfl rfl ?_
  refine aw_aload_n (pc := 326) (i := 0) (x := b) F dL_law_326 rfl rfl ?_
  refine aw_iload (pc := 327) (i := 4) (x := ii) F dL_law_327 rfl ?_
  refine aw_iconst (pc := 329) (v := 1) F dL_law_329 (by decide) ?_
  refine aw_iadd (pc := 330) F dL_law_330 ?_
  refine aw_sld (pc := 331) F hX hbl hbA hi1 dL_law_331 ?_
  refine aw_aload_n (pc := 332) (i := 3) (x := ad 32) F dL_law_332 rfl rfl ?_
  refine aw_goSW (pc := 333) (As := [.ref (ad 0), .int (xs (ii + (1 : Int32)).toNatClampNeg), .ref (ad 32)]) (rest := []) F zC_ok Zs hN (vx_cwSW 3 F.1.2.2.2.2 (gi_S wd_620 wd_621 wd_63 wd_622) rfl rfl rfl (by decide +kernel) ⟨lw_fr hd, lw_lo hd (by decide)⟩) rfl (Nat.le_of_ble_eq_true rfl) ⟨by omega, by omega⟩ rfl dL_law_333 ?_
  refine aw_widen (k := cells + 1) (n := slots + 6) (Nat.add_le_add_left hmc _) (Nat.add_le_add_left hms _) ?_
  show aW _ _ _ _ _ _ _ _ _ _ _ _ _ _ _ _ _ _ _ _ _ [.int kk]
  refine aw_istore (pc := 336) (i := 5) (L' := [some (.ref b), some (.ref (ad 0)), some (.ref (ad 13)), some (.ref (ad 32)), some (.int ii), some (.int kk), none]) F dL_law_336 (by decide) rfl ?_
  refine aw_aload_n (pc := 338) (i := 2) (x := ad 13) F dL_law_338 rfl rfl ?_
  refine aw_aload_n (pc := 339) (i := 0) (x := b) F dL_law_339 rfl rfl ?_
  refine aw_iload (pc := 340) (i := 4) (x := ii) F dL_law_340 rfl ?_
  refine aw_iconst (pc := 342) (v := 1) F dL_law_342 (by decide) ?_
  refine aw_iadd (pc := 343) F dL_law_343 ?_
  refine aw_sld (pc := 344) F hX hbl hbA hi1 dL_law_344 ?_
  refine aw_goV (pc := 345) (As := [.int (xs (ii + (1 : Int32)).toNatClampNeg)]) (rest := []) F zC_ok Zs 13 hM_at13 rfl (tM_selected  T M Y V (xs (ii + (1 : Int32)).toNatClampNeg) hp) (cwV 1 F.1.2.2.2.2 (gi_V wd_852 wd_853 wd_854 wd_67 wd_855) rfl rfl rfl (by decide +kernel) ⟨by decide, by decide⟩) rfl (Nat.le_of_ble_eq_true rfl) hcs rfl dL_law_345 ?_
  show aW _ _ _ _ _ _ _ _ _ _ _ _ _ _ _ _ _ _ _ _ _ [.int ((fm_selected T M Y (xs (ii + (1 : Int32)).toNatClampNeg)).1)]
  refine aw_istore (pc := 348) (i := 6) (L' := [some (.ref b), some (.ref (ad 0)), some (.ref (ad 13)), some (.ref (ad 32)), some (.int ii), some (.int kk), some (.int ((fm_selected T M Y (xs (ii + (1 : Int32)).toNatClampNeg)).1))]) F dL_law_348 (by decide) rfl ?_
  refine aw_aload_n (pc := 350) (i := 2) (x := ad 13) F dL_law_350 rfl rfl ?_
  refine aw_goV (pc := 351) (As := []) (rest := []) F zC_ok Zs 13 hM_at13 rfl (tM_thrown  ((fm_selected T M Y (xs (ii + (1 : Int32)).toNatClampNeg)).2) M Y V) (cwV 0 F.1.2.2.2.2 (gi_V wd_738 wd_739 wd_740 wd_67 wd_741) rfl rfl rfl (by decide +kernel) ⟨by decide, by decide⟩) rfl (Nat.le_of_ble_eq_true rfl) hcs rfl dL_law_351 ?_
  show aW _ _ _ _ _ _ _ _ _ _ _ _ _ _ _ _ _ _ _ _ _ [.int (fm_thrown ((fm_selected T M Y (xs (ii + (1 : Int32)).toNatClampNeg)).2))]
  refine aw_iload (pc := 354) (i := 5) (x := kk) F dL_law_354 rfl ?_
  refine aw_icmp_eq (pc := 356) F 361 dL_law_356 (by decide) (fun c_356 => ?_) (fun c_356 => ?_)
  · skip
    refine aw_iload (pc := 361) (i := 5) (x := kk) F dL_law_361 rfl ?_
    refine aw_if_ne (pc := 363) F 385 dL_law_363 (by decide) (fun c_363 => ?_) (fun c_363 => ?_)
    · skip
      refine aw_goto (pc := 385) F 513 dL_law_385 (by decide) ?_
      refine aw_less (L' := [some (.ref b), some (.ref (ad 0)), some (.ref (ad 13)), some (.ref (ad 32)), some (.int ii), none, none]) (fun i v h => by match i, h with | 0, h => exact h | 1, h => exact h | 2, h => exact h | 3, h => exact h | 4, h => exact h | 5, h => cases h | 6, h => cases h | _ + 7, h => cases h) ?_
      exact kq
    · skip
      refine aw_aload_n (pc := 366) (i := 3) (x := ad 32) F dL_law_366 rfl rfl ?_
      refine aw_iconst (pc := 367) (v := 0) F dL_law_367 (by decide) ?_
      refine aw_lald (pc := 368) F 32 2 hQ_at32 rfl (vp_in_iff.mpr (by decide)) dL_law_368 ?_
      refine aw_iload (pc := 369) (i := 6) (x := ((fm_selected T M Y (xs (ii + (1 : Int32)).toNatClampNeg)).1)) F dL_law_369 rfl ?_
      refine aw_if_eq (pc := 371) F 378 dL_law_371 (by decide) (fun c_371 => ?_) (fun c_371 => ?_)
      · skip
        refine aw_lconst (pc := 378) (v := 0) F dL_law_378 (by decide) ?_
        refine aw_lcmp (pc := 379) F dL_law_379 ?_
        refine aw_if_eq (pc := 380) F 385 dL_law_380 (by decide) (fun c_380 => ?_) (fun c_380 => ?_)
        · skip
          refine aw_goto (pc := 385) F 513 dL_law_385 (by decide) ?_
          refine aw_less (L' := [some (.ref b), some (.ref (ad 0)), some (.ref (ad 13)), some (.ref (ad 32)), some (.int ii), none, none]) (fun i v h => by match i, h with | 0, h => exact h | 1, h => exact h | 2, h => exact h | 3, h => exact h | 4, h => exact h | 5, h => cases h | 6, h => cases h | _ + 7, h => cases h) ?_
          exact kq
        · skip
          first | exact absurd (O0_self ((ha c_363).trans (if_pos c_371))) c_380 | exact absurd (O0_self ((ha c_363).trans (if_neg c_371))) c_380
      · skip
        refine aw_lconst (pc := 374) (v := 1) F dL_law_374 (by decide) ?_
        refine aw_goto (pc := 375) F 379 dL_law_375 (by decide) ?_
        refine aw_lcmp (pc := 379) F dL_law_379 ?_
        refine aw_if_eq (pc := 380) F 385 dL_law_380 (by decide) (fun c_380 => ?_) (fun c_380 => ?_)
        · skip
          refine aw_goto (pc := 385) F 513 dL_law_385 (by decide) ?_
          refine aw_less (L' := [some (.ref b), some (.ref (ad 0)), some (.ref (ad 13)), some (.ref (ad 32)), some (.int ii), none, none]) (fun i v h => by match i, h with | 0, h => exact h | 1, h => exact h | 2, h => exact h | 3, h => exact h | 4, h => exact h | 5, h => cases h | 6, h => cases h | _ + 7, h => cases h) ?_
          exact kq
        · skip
          first | exact absurd (O0_self ((ha c_363).trans (if_pos c_371))) c_380 | exact absurd (O0_self ((ha c_363).trans (if_neg c_371))) c_380
  · skip
    exact absurd hk c_356
set_option maxRecDepth 100000 in
set_option maxHeartbeats 4000000 in
theorem tL_law_X388 {l : Launch} {D : va_G} {A : Nat → Prop} {ad : Nat → Nat} {tP : Nat} {cI cZ cJ : ClassId} {b N : Nat} {xs : Nat → Int32} {cells slots : Nat} {p : Program} {e : Env} {s : State} {m : MethodId} {args : Array Value} {below : List Frame} {meth : Method} {c : Code} {Q : State → Prop} (F : aw_F p s m c args cL_law 7 (Cond.initialized "ReactionDeskLaw" :: aw_big) yL_law.cls D vwCl [(cI, .int), (cZ, .boolean), (cJ, .long)]) (Zs : zC A tP s) :
    ∀ (S : kT) (P : pT) (X : xT) (T : Int32) (M : mT) (Y : yT) (V : vT) (O : oT) (ii : Int32)  (S1 : kT) (P1 : pT) (X1 : xT) (O1 : oT) (kk : Int32) (d mc ms : Nat) (hd : d ≤ 403) (hmc : mc ≤ 1) (hms : ms ≤ 6) (hX : va_X b N xs s s.heap) (hbl : b < s.heap.size) (hbA : ¬ A b) (hcs : cells + 1 ≤ room_1.cells ∧ slots + 6 ≤ room_1.slots) (hN : aw_N l yL_reacts (Cond.codeWith yL_reacts cL_reacts 3 (some .int) [(0, 8, 11, 13)] :: aw_big) d mc ms D vwCl [(cI, .int), (cZ, .boolean), (cJ, .long)] A ad (zC A tP) [.ref (ad 0), .ref (ad 32)] (hC ad cI S P X ++ (hM ad cI cZ T M Y V ++ hQ cJ O)) (some (.int kk)) (hC ad cI S1 P1 X1 ++ (hM ad cI cZ T M Y V ++ hQ cJ O1))) (hg : (fm_reaF T Y).1 = 0 → mW M ∧ 0 < (M.1 0).toInt) (hk : (fm_reacts T M Y V).2.1 = kk) (ha : kk = 0 → O1 0 = (fm_reacts T M Y V).1.toInt64), aW p l e room_1 s m args below meth c (cells + 1) (slots + 6) Q D vwCl A ad 7 (hC ad cI S1 P1 X1 ++ (hM ad cI cZ ((fm_reacts T M Y V).2.1) M ((fm_reacts T M Y V).2.2.1) ((fm_reacts T M Y V).2.2.2) ++ hQ cJ O1)) [some (.ref b), some (.ref (ad 0)), some (.ref (ad 13)), some (.ref (ad 32)), some (.int ii), none, none] 513 [] → aW p l e room_1 s m args below meth c cells slots Q D vwCl A ad 7 (hC ad cI S P X ++ (hM ad cI cZ T M Y V ++ hQ cJ O)) [some (.ref b), some (.ref (ad 0)), some (.ref (ad 13)), some (.ref (ad 32)), some (.int ii), none, none] 388 [] := by
  intro S P X T M Y V O ii S1 P1 X1 O1 kk d mc ms hd hmc hms hX hbl hbA hcs hN hg hk ha kq
  refine aw_aload_n (pc := 388) (i := 1) (x := ad 0) F dL_law_388 rfl rfl ?_
  refine aw_aload_n (pc := 389) (i := 3) (x := ad 32) F dL_law_389 rfl rfl ?_
  refine aw_goSW (pc := 390) (As := [.ref (ad 0), .ref (ad 32)]) (rest := []) F zC_ok Zs hN (vx_cwSW 2 F.1.2.2.2.2 (gi_S wd_628 wd_629 wd_63 wd_630) rfl rfl rfl (by decide +kernel) ⟨lw_fr hd, lw_lo hd (by decide)⟩) rfl (Nat.le_of_ble_eq_true rfl) ⟨by omega, by omega⟩ rfl dL_law_390 ?_
  refine aw_widen (k := cells + 1) (n := slots + 6) (Nat.add_le_add_left hmc _) (Nat.add_le_add_left hms _) ?_
  show aW _ _ _ _ _ _ _ _ _ _ _ _ _ _ _ _ _ _ _ _ _ [.int kk]
  refine aw_istore (pc := 393) (i := 5) (L' := [some (.ref b), some (.ref (ad 0)), some (.ref (ad 13)), some (.ref (ad 32)), some (.int ii), some (.int kk), none]) F dL_law_393 (by decide) rfl ?_
  refine aw_aload_n (pc := 395) (i := 2) (x := ad 13) F dL_law_395 rfl rfl ?_
  refine aw_goV (pc := 396) (As := []) (rest := []) F zC_ok Zs 13 hM_at13 rfl (tM_reacts  T M Y V  hg) (cwV 0 F.1.2.2.2.2 (gi_V wd_856 wd_857 wd_858 wd_67 wd_859) rfl rfl rfl (by decide +kernel) ⟨by decide, by decide⟩) rfl (Nat.le_of_ble_eq_true rfl) hcs rfl dL_law_396 ?_
  show aW _ _ _ _ _ _ _ _ _ _ _ _ _ _ _ _ _ _ _ _ _ [.int ((fm_reacts T M Y V).1)]
  refine aw_istore (pc := 399) (i := 6) (L' := [some (.ref b), some (.ref (ad 0)), some (.ref (ad 13)), some (.ref (ad 32)), some (.int ii), some (.int kk), some (.int ((fm_reacts T M Y V).1))]) F dL_law_399 (by decide) rfl ?_
  refine aw_aload_n (pc := 401) (i := 2) (x := ad 13) F dL_law_401 rfl rfl ?_
  refine aw_goV (pc := 402) (As := []) (rest := []) F zC_ok Zs 13 hM_at13 rfl (tM_thrown  ((fm_reacts T M Y V).2.1) M ((fm_reacts T M Y V).2.2.1) ((fm_reacts T M Y V).2.2.2)) (cwV 0 F.1.2.2.2.2 (gi_V wd_738 wd_739 wd_740 wd_67 wd_741) rfl rfl rfl (by decide +kernel) ⟨by decide, by decide⟩) rfl (Nat.le_of_ble_eq_true rfl) hcs rfl dL_law_402 ?_
  show aW _ _ _ _ _ _ _ _ _ _ _ _ _ _ _ _ _ _ _ _ _ [.int (fm_thrown ((fm_reacts T M Y V).2.1))]
  refine aw_iload (pc := 405) (i := 5) (x := kk) F dL_law_405 rfl ?_
  refine aw_icmp_eq (pc := 407) F 412 dL_law_407 (by decide) (fun c_407 => ?_) (fun c_407 => ?_)
  · skip
    refine aw_iload (pc := 412) (i := 5) (x := kk) F dL_law_412 rfl ?_
    refine aw_if_ne (pc := 414) F 429 dL_law_414 (by decide) (fun c_414 => ?_) (fun c_414 => ?_)
    · skip
      refine aw_goto (pc := 429) F 513 dL_law_429 (by decide) ?_
      refine aw_less (L' := [some (.ref b), some (.ref (ad 0)), some (.ref (ad 13)), some (.ref (ad 32)), some (.int ii), none, none]) (fun i v h => by match i, h with | 0, h => exact h | 1, h => exact h | 2, h => exact h | 3, h => exact h | 4, h => exact h | 5, h => cases h | 6, h => cases h | _ + 7, h => cases h) ?_
      exact kq
    · skip
      refine aw_aload_n (pc := 417) (i := 3) (x := ad 32) F dL_law_417 rfl rfl ?_
      refine aw_iconst (pc := 418) (v := 0) F dL_law_418 (by decide) ?_
      refine aw_lald (pc := 419) F 32 2 hQ_at32 rfl (vp_in_iff.mpr (by decide)) dL_law_419 ?_
      refine aw_iload (pc := 420) (i := 6) (x := ((fm_reacts T M Y V).1)) F dL_law_420 rfl ?_
      refine aw_i2l (pc := 422) (v := ((fm_reacts T M Y V).1).toInt64) F dL_law_422 rfl ?_
      refine aw_lcmp (pc := 423) F dL_law_423 ?_
      refine aw_if_eq (pc := 424) F 429 dL_law_424 (by decide) (fun c_424 => ?_) (fun c_424 => ?_)
      · skip
        refine aw_goto (pc := 429) F 513 dL_law_429 (by decide) ?_
        refine aw_less (L' := [some (.ref b), some (.ref (ad 0)), some (.ref (ad 13)), some (.ref (ad 32)), some (.int ii), none, none]) (fun i v h => by match i, h with | 0, h => exact h | 1, h => exact h | 2, h => exact h | 3, h => exact h | 4, h => exact h | 5, h => cases h | 6, h => cases h | _ + 7, h => cases h) ?_
        exact kq
      · skip
        exact absurd (O0_self (ha c_414)) c_424
  · skip
    exact absurd hk c_407
set_option maxRecDepth 100000 in
set_option maxHeartbeats 4000000 in
theorem tL_law_X432 {l : Launch} {D : va_G} {A : Nat → Prop} {ad : Nat → Nat} {tP : Nat} {cI cZ cJ : ClassId} {b N : Nat} {xs : Nat → Int32} {cells slots : Nat} {p : Program} {e : Env} {s : State} {m : MethodId} {args : Array Value} {below : List Frame} {meth : Method} {c : Code} {Q : State → Prop} (F : aw_F p s m c args cL_law 7 (Cond.initialized "ReactionDeskLaw" :: aw_big) yL_law.cls D vwCl [(cI, .int), (cZ, .boolean), (cJ, .long)]) (Zs : zC A tP s) :
    ∀ (S : kT) (P : pT) (X : xT) (T : Int32) (M : mT) (Y : yT) (V : vT) (O : oT) (ii : Int32)  (S1 : kT) (P1 : pT) (X1 : xT) (O1 : oT) (kk : Int32) (d mc ms : Nat) (hd : d ≤ 403) (hmc : mc ≤ 1) (hms : ms ≤ 6) (hX : va_X b N xs s s.heap) (hbl : b < s.heap.size) (hbA : ¬ A b) (hcs : cells + 1 ≤ room_1.cells ∧ slots + 6 ≤ room_1.slots) (hN : aw_N l yL_emits (Cond.codeWith yL_emits cL_emits 4 (some .int) [(0, 9, 12, 13), (0, 9, 15, 28)] :: aw_big) d mc ms D vwCl [(cI, .int), (cZ, .boolean), (cJ, .long)] A ad (zC A tP) [.ref (ad 0), .int (xs (ii + (1 : Int32)).toNatClampNeg), .ref (ad 32)] (hC ad cI S P X ++ (hM ad cI cZ T M Y V ++ hQ cJ O)) (some (.int kk)) (hC ad cI S1 P1 X1 ++ (hM ad cI cZ T M Y V ++ hQ cJ O1))) (hi1 : vp_in (ii + (1 : Int32)) N) (hg : (fm_emiF T (xs (ii + (1 : Int32)).toNatClampNeg) (fm_emiG Y (xs (ii + (1 : Int32)).toNatClampNeg))).1 = 0 → mW M ∧ 0 < (M.1 0).toInt ∧ vp_in (xs (ii + (1 : Int32)).toNatClampNeg) 3256) (hk : (fm_emits T M Y V (xs (ii + (1 : Int32)).toNatClampNeg)).2.1 = kk) (ha : kk = 0 → O1 0 = (fm_emits T M Y V (xs (ii + (1 : Int32)).toNatClampNeg)).1.toInt64), aW p l e room_1 s m args below meth c (cells + 1) (slots + 6) Q D vwCl A ad 7 (hC ad cI S1 P1 X1 ++ (hM ad cI cZ ((fm_emits T M Y V (xs (ii + (1 : Int32)).toNatClampNeg)).2.1) M ((fm_emits T M Y V (xs (ii + (1 : Int32)).toNatClampNeg)).2.2.1) ((fm_emits T M Y V (xs (ii + (1 : Int32)).toNatClampNeg)).2.2.2) ++ hQ cJ O1)) [some (.ref b), some (.ref (ad 0)), some (.ref (ad 13)), some (.ref (ad 32)), some (.int ii), none, none] 513 [] → aW p l e room_1 s m args below meth c cells slots Q D vwCl A ad 7 (hC ad cI S P X ++ (hM ad cI cZ T M Y V ++ hQ cJ O)) [some (.ref b), some (.ref (ad 0)), some (.ref (ad 13)), some (.ref (ad 32)), some (.int ii), none, none] 432 [] := by
  intro S P X T M Y V O ii S1 P1 X1 O1 kk d mc ms hd hmc hms hX hbl hbA hcs hN hi1 hg hk ha kq
  refine aw_aload_n (pc := 432) (i := 1) (x := ad 0) F dL_law_432 rfl rfl ?_
  refine aw_aload_n (pc := 433) (i := 0) (x := b) F dL_law_433 rfl rfl ?_
  refine aw_iload (pc := 434) (i := 4) (x := ii) F dL_law_434 rfl ?_
  refine aw_iconst (pc := 436) (v := 1) F dL_law_436 (by decide) ?_
  refine aw_iadd (pc := 437) F dL_law_437 ?_
  refine aw_sld (pc := 438) F hX hbl hbA hi1 dL_law_438 ?_
  refine aw_aload_n (pc := 439) (i := 3) (x := ad 32) F dL_law_439 rfl rfl ?_
  refine aw_goSW (pc := 440) (As := [.ref (ad 0), .int (xs (ii + (1 : Int32)).toNatClampNeg), .ref (ad 32)]) (rest := []) F zC_ok Zs hN (vx_cwSW 3 F.1.2.2.2.2 (gi_S wd_635 wd_636 wd_63 wd_637) rfl rfl rfl (by decide +kernel) ⟨lw_fr hd, lw_lo hd (by decide)⟩) rfl (Nat.le_of_ble_eq_true rfl) ⟨by omega, by omega⟩ rfl dL_law_440 ?_
  refine aw_widen (k := cells + 1) (n := slots + 6) (Nat.add_le_add_left hmc _) (Nat.add_le_add_left hms _) ?_
  show aW _ _ _ _ _ _ _ _ _ _ _ _ _ _ _ _ _ _ _ _ _ [.int kk]
  refine aw_istore (pc := 443) (i := 5) (L' := [some (.ref b), some (.ref (ad 0)), some (.ref (ad 13)), some (.ref (ad 32)), some (.int ii), some (.int kk), none]) F dL_law_443 (by decide) rfl ?_
  refine aw_aload_n (pc := 445) (i := 2) (x := ad 13) F dL_law_445 rfl rfl ?_
  refine aw_aload_n (pc := 446) (i := 0) (x := b) F dL_law_446 rfl rfl ?_
  refine aw_iload (pc := 447) (i := 4) (x := ii) F dL_law_447 rfl ?_
  refine aw_iconst (pc := 449) (v := 1) F dL_law_449 (by decide) ?_
  refine aw_iadd (pc := 450) F dL_law_450 ?_
  refine aw_sld (pc := 451) F hX hbl hbA hi1 dL_law_451 ?_
  refine aw_goV (pc := 452) (As := [.int (xs (ii + (1 : Int32)).toNatClampNeg)]) (rest := []) F zC_ok Zs 13 hM_at13 rfl (tM_emits  T M Y V (xs (ii + (1 : Int32)).toNatClampNeg) hg) (cwV 1 F.1.2.2.2.2 (gi_V wd_860 wd_861 wd_862 wd_67 wd_863) rfl rfl rfl (by decide +kernel) ⟨by decide, by decide⟩) rfl (Nat.le_of_ble_eq_true rfl) hcs rfl dL_law_452 ?_
  show aW _ _ _ _ _ _ _ _ _ _ _ _ _ _ _ _ _ _ _ _ _ [.int ((fm_emits T M Y V (xs (ii + (1 : Int32)).toNatClampNeg)).1)]
  refine aw_istore (pc := 455) (i := 6) (L' := [some (.ref b), some (.ref (ad 0)), some (.ref (ad 13)), some (.ref (ad 32)), some (.int ii), some (.int kk), some (.int ((fm_emits T M Y V (xs (ii + (1 : Int32)).toNatClampNeg)).1))]) F dL_law_455 (by decide) rfl ?_
  refine aw_aload_n (pc := 457) (i := 2) (x := ad 13) F dL_law_457 rfl rfl ?_
  refine aw_goV (pc := 458) (As := []) (rest := []) F zC_ok Zs 13 hM_at13 rfl (tM_thrown  ((fm_emits T M Y V (xs (ii + (1 : Int32)).toNatClampNeg)).2.1) M ((fm_emits T M Y V (xs (ii + (1 : Int32)).toNatClampNeg)).2.2.1) ((fm_emits T M Y V (xs (ii + (1 : Int32)).toNatClampNeg)).2.2.2)) (cwV 0 F.1.2.2.2.2 (gi_V wd_738 wd_739 wd_740 wd_67 wd_741) rfl rfl rfl (by decide +kernel) ⟨by decide, by decide⟩) rfl (Nat.le_of_ble_eq_true rfl) hcs rfl dL_law_458 ?_
  show aW _ _ _ _ _ _ _ _ _ _ _ _ _ _ _ _ _ _ _ _ _ [.int (fm_thrown ((fm_emits T M Y V (xs (ii + (1 : Int32)).toNatClampNeg)).2.1))]
  refine aw_iload (pc := 461) (i := 5) (x := kk) F dL_law_461 rfl ?_
  refine aw_icmp_eq (pc := 463) F 468 dL_law_463 (by decide) (fun c_463 => ?_) (fun c_463 => ?_)
  · skip
    refine aw_iload (pc := 468) (i := 5) (x := kk) F dL_law_468 rfl ?_
    refine aw_if_ne (pc := 470) F 485 dL_law_470 (by decide) (fun c_470 => ?_) (fun c_470 => ?_)
    · skip
      refine aw_goto (pc := 485) F 513 dL_law_485 (by decide) ?_
      refine aw_less (L' := [some (.ref b), some (.ref (ad 0)), some (.ref (ad 13)), some (.ref (ad 32)), some (.int ii), none, none]) (fun i v h => by match i, h with | 0, h => exact h | 1, h => exact h | 2, h => exact h | 3, h => exact h | 4, h => exact h | 5, h => cases h | 6, h => cases h | _ + 7, h => cases h) ?_
      exact kq
    · skip
      refine aw_aload_n (pc := 473) (i := 3) (x := ad 32) F dL_law_473 rfl rfl ?_
      refine aw_iconst (pc := 474) (v := 0) F dL_law_474 (by decide) ?_
      refine aw_lald (pc := 475) F 32 2 hQ_at32 rfl (vp_in_iff.mpr (by decide)) dL_law_475 ?_
      refine aw_iload (pc := 476) (i := 6) (x := ((fm_emits T M Y V (xs (ii + (1 : Int32)).toNatClampNeg)).1)) F dL_law_476 rfl ?_
      refine aw_i2l (pc := 478) (v := ((fm_emits T M Y V (xs (ii + (1 : Int32)).toNatClampNeg)).1).toInt64) F dL_law_478 rfl ?_
      refine aw_lcmp (pc := 479) F dL_law_479 ?_
      refine aw_if_eq (pc := 480) F 485 dL_law_480 (by decide) (fun c_480 => ?_) (fun c_480 => ?_)
      · skip
        refine aw_goto (pc := 485) F 513 dL_law_485 (by decide) ?_
        refine aw_less (L' := [some (.ref b), some (.ref (ad 0)), some (.ref (ad 13)), some (.ref (ad 32)), some (.int ii), none, none]) (fun i v h => by match i, h with | 0, h => exact h | 1, h => exact h | 2, h => exact h | 3, h => exact h | 4, h => exact h | 5, h => cases h | 6, h => cases h | _ + 7, h => cases h) ?_
        exact kq
      · skip
        exact absurd (O0_self (ha c_470)) c_480
  · skip
    exact absurd hk c_463
set_option maxRecDepth 100000 in
set_option maxHeartbeats 4000000 in
theorem tL_law_X200 {l : Launch} {D : va_G} {A : Nat → Prop} {ad : Nat → Nat} {tP : Nat} {cI cZ cJ : ClassId} {b N : Nat} {xs : Nat → Int32} {cells slots : Nat} {p : Program} {e : Env} {s : State} {m : MethodId} {args : Array Value} {below : List Frame} {meth : Method} {c : Code} {Q : State → Prop} (F : aw_F p s m c args cL_law 7 (Cond.initialized "ReactionDeskLaw" :: aw_big) yL_law.cls D vwCl [(cI, .int), (cZ, .boolean), (cJ, .long)]) (Zs : zC A tP s) :
    ∀ (S : kT) (P : pT) (X : xT) (T : Int32) (M : mT) (Y : yT) (V : vT) (O : oT) (ii : Int32)  (hX : va_X b N xs s s.heap) (hbl : b < s.heap.size) (hbA : ¬ A b) (hcs : cells ≤ room_1.cells ∧ slots ≤ room_1.slots) (hk : (fk_clear S P X).1 = (fm_clear T M Y).1), aW p l e room_1 s m args below meth c cells slots Q D vwCl A ad 7 (hC ad cI ((fk_clear S P X).2.1) ((fk_clear S P X).2.2.1) ((fk_clear S P X).2.2.2) ++ (hM ad cI cZ ((fm_clear T M Y).2.1) ((fm_clear T M Y).2.2.1) ((fm_clear T M Y).2.2.2) V ++ hQ cJ O)) [some (.ref b), some (.ref (ad 0)), some (.ref (ad 13)), some (.ref (ad 32)), some (.int ii), none, none] 513 [] → aW p l e room_1 s m args below meth c cells slots Q D vwCl A ad 7 (hC ad cI S P X ++ (hM ad cI cZ T M Y V ++ hQ cJ O)) [some (.ref b), some (.ref (ad 0)), some (.ref (ad 13)), some (.ref (ad 32)), some (.int ii), none, none] 200 [] := by
  intro S P X T M Y V O ii hX hbl hbA hcs hk kq
  refine aw_aload_n (pc := 200) (i := 1) (x := ad 0) F dL_law_200 rfl rfl ?_
  refine aw_goV (pc := 201) (As := []) (rest := []) F zC_ok Zs 0 hC_at0 rfl (tK_clear  S P X) (cwV 0 F.1.2.2.2.2 (gi_V wd_202 wd_203 wd_204 wd_64 wd_205) rfl rfl rfl (by decide +kernel) ⟨by decide, by decide⟩) rfl (Nat.le_of_ble_eq_true rfl) hcs rfl dL_law_201 ?_
  show aW _ _ _ _ _ _ _ _ _ _ _ _ _ _ _ _ _ _ _ _ _ [.int ((fk_clear S P X).1)]
  refine aw_aload_n (pc := 204) (i := 2) (x := ad 13) F dL_law_204 rfl rfl ?_
  refine aw_goV (pc := 205) (As := []) (rest := [.int ((fk_clear S P X).1)]) F zC_ok Zs 13 hM_at13 rfl (tM_clear  T M Y V) (cwV 0 F.1.2.2.2.2 (gi_V wd_779 wd_780 wd_781 wd_67 wd_782) rfl rfl rfl (by decide +kernel) ⟨by decide, by decide⟩) rfl (Nat.le_of_ble_eq_true rfl) hcs rfl dL_law_205 ?_
  show aW _ _ _ _ _ _ _ _ _ _ _ _ _ _ _ _ _ _ _ _ _ [.int ((fm_clear T M Y).1), .int ((fk_clear S P X).1)]
  refine aw_icmp_eq (pc := 208) F 513 dL_law_208 (by decide) (fun c_208 => ?_) (fun c_208 => ?_)
  · skip
    exact kq
  · skip
    exact absurd hk c_208
set_option maxRecDepth 100000 in
set_option maxHeartbeats 4000000 in
theorem tL_law_X488 {l : Launch} {D : va_G} {A : Nat → Prop} {ad : Nat → Nat} {tP : Nat} {cI cZ cJ : ClassId} {b N : Nat} {xs : Nat → Int32} {cells slots : Nat} {p : Program} {e : Env} {s : State} {m : MethodId} {args : Array Value} {below : List Frame} {meth : Method} {c : Code} {Q : State → Prop} (F : aw_F p s m c args cL_law 7 (Cond.initialized "ReactionDeskLaw" :: aw_big) yL_law.cls D vwCl [(cI, .int), (cZ, .boolean), (cJ, .long)]) (Zs : zC A tP s) :
    ∀ (S : kT) (P : pT) (X : xT) (T : Int32) (M : mT) (Y : yT) (V : vT) (O : oT) (ii : Int32)  (hX : va_X b N xs s s.heap) (hbl : b < s.heap.size) (hbA : ¬ A b) (hcs : cells ≤ room_1.cells ∧ slots ≤ room_1.slots) (hi1 : vp_in (ii + (1 : Int32)) N) (hS : mS M) (hk : fk_count S P X (xs (ii + (1 : Int32)).toNatClampNeg) = (fm_count T M Y (xs (ii + (1 : Int32)).toNatClampNeg)).1), aW p l e room_1 s m args below meth c cells slots Q D vwCl A ad 7 (hC ad cI S P X ++ (hM ad cI cZ ((fm_count T M Y (xs (ii + (1 : Int32)).toNatClampNeg)).2) M Y V ++ hQ cJ O)) [some (.ref b), some (.ref (ad 0)), some (.ref (ad 13)), some (.ref (ad 32)), some (.int ii), none, none] 513 [] → aW p l e room_1 s m args below meth c cells slots Q D vwCl A ad 7 (hC ad cI S P X ++ (hM ad cI cZ T M Y V ++ hQ cJ O)) [some (.ref b), some (.ref (ad 0)), some (.ref (ad 13)), some (.ref (ad 32)), some (.int ii), none, none] 488 [] := by
  intro S P X T M Y V O ii hX hbl hbA hcs hi1 hS hk kq
  refine aw_aload_n (pc := 488) (i := 1) (x := ad 0) F dL_law_488 rfl rfl ?_
  refine aw_aload_n (pc := 489) (i := 0) (x := b) F dL_law_489 rfl rfl ?_
  refine aw_iload (pc := 490) (i := 4) (x := ii) F dL_law_490 rfl ?_
  refine aw_iconst (pc := 492) (v := 1) F dL_law_492 (by decide) ?_
  refine aw_iadd (pc := 493) F dL_law_493 ?_
  refine aw_sld (pc := 494) F hX hbl hbA hi1 dL_law_494 ?_
  refine aw_goV (pc := 495) (As := [.int (xs (ii + (1 : Int32)).toNatClampNeg)]) (rest := []) F zC_ok Zs 0 hC_at0 rfl (tK_count  S P X (xs (ii + (1 : Int32)).toNatClampNeg)) (cwV 1 F.1.2.2.2.2 (gi_V wd_218 wd_219 wd_220 wd_64 wd_221) rfl rfl rfl (by decide +kernel) ⟨by decide, by decide⟩) rfl (Nat.le_of_ble_eq_true rfl) hcs rfl dL_law_495 ?_
  show aW _ _ _ _ _ _ _ _ _ _ _ _ _ _ _ _ _ _ _ _ _ [.int (fk_count S P X (xs (ii + (1 : Int32)).toNatClampNeg))]
  refine aw_aload_n (pc := 498) (i := 2) (x := ad 13) F dL_law_498 rfl rfl ?_
  refine aw_aload_n (pc := 499) (i := 0) (x := b) F dL_law_499 rfl rfl ?_
  refine aw_iload (pc := 500) (i := 4) (x := ii) F dL_law_500 rfl ?_
  refine aw_iconst (pc := 502) (v := 1) F dL_law_502 (by decide) ?_
  refine aw_iadd (pc := 503) F dL_law_503 ?_
  refine aw_sld (pc := 504) F hX hbl hbA hi1 dL_law_504 ?_
  refine aw_goV (pc := 505) (As := [.int (xs (ii + (1 : Int32)).toNatClampNeg)]) (rest := [.int (fk_count S P X (xs (ii + (1 : Int32)).toNatClampNeg))]) F zC_ok Zs 13 hM_at13 rfl (tM_count  T M Y V (xs (ii + (1 : Int32)).toNatClampNeg) hS) (cwV 1 F.1.2.2.2.2 (gi_V wd_864 wd_865 wd_866 wd_67 wd_867) rfl rfl rfl (by decide +kernel) ⟨by decide, by decide⟩) rfl (Nat.le_of_ble_eq_true rfl) hcs rfl dL_law_505 ?_
  show aW _ _ _ _ _ _ _ _ _ _ _ _ _ _ _ _ _ _ _ _ _ [.int ((fm_count T M Y (xs (ii + (1 : Int32)).toNatClampNeg)).1), .int (fk_count S P X (xs (ii + (1 : Int32)).toNatClampNeg))]
  refine aw_icmp_eq (pc := 508) F 513 dL_law_508 (by decide) (fun c_508 => ?_) (fun c_508 => ?_)
  · skip
    exact kq
  · skip
    exact absurd hk c_508
