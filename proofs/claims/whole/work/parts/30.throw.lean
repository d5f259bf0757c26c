/-! ROADS THAT THROW -/
def isDC : Cond → Bool
  | .declares _ => true
  | .castable _ _ => true
  | _ => false
theorem z_at {A : Nat → Prop} {tP : Nat} {s : State} {args : Array Value} {x : Cond} {own cls : String} {ic : Nat} {names : List String} (Zs : zC A tP s) (hts : ∀ w ∈ x :: aw_big, w.before args s = true) (h1 : ∀ w ∈ (vx_atS own ic cls names).filter goodWord, w ∈ lw_tbl) (h2 : ∀ w ∈ (vx_atS own ic cls names).filter (fun w => !goodWord w), w ∈ lw_tbl ∧ isDC w = true) : ∀ w ∈ vx_atS own ic cls names, w.before args s = true := by
  intro w hw
  by_cases g : goodWord w = true
  · have := h1 w (List.mem_filter.mpr ⟨hw, g⟩)
    exact hts w (List.mem_cons_of_mem _ (List.mem_filter.mpr ⟨this, g⟩))
  · obtain ⟨m, d⟩ := h2 w (List.mem_filter.mpr ⟨hw, by simp [g]⟩)
    cases w <;> first | exact va_Nw.use rfl (Zs.2.2.1 _ m) | exact va_Nw.use rfl (Zs.2.2.2.1 _ _ m) | (simp [isDC] at d)
def aw_XC (D : va_G) (cl : List vw_C) (A : Nat → Prop) (ad : Nat → Nat) (E : String) (hp : List va_E) : String → State → State → Prop := fun E' st t => E' = E ∧ va_P D cl (aw_ws ad hp) t.heap ∧ va_D A (aw_ws ad hp) ∧ va_F A st t
abbrev aw_rx (d : Nat) : Room := { frames := d, cells := 1, slots := 6, locals := 64 * d }
def aw_N0 : Array Value → State → Outcome → State → Prop := fun _ _ _ _ => False
def aw_X (l : Launch) (y : MethodName) (ws : List Cond) (d : Nat) (D : va_G) (cl : List vw_C) (tys : List (ClassId × FieldType)) (A : Nat → Prop) (ad : Nat → Nat) (Z : State → Prop) (av : List Value) (hp : List va_E) (E : String) : Prop :=
  vx_Met l y ws (aw_rx d) (va_Pc av (aw_B D cl tys A ad Z hp)) aw_N0 (aw_XC D cl A ad E hp) 1 6 A
theorem aw_metX {l : Launch} {y : MethodName} {ws ws' : List Cond} {d : Nat} {D : va_G} {cl : List vw_C} {tys : List (ClassId × FieldType)} {A : Nat → Prop} {ad : Nat → Nat} {Z : State → Prop} {av : List Value} {hp : List va_E} {E : String} (cc : ByteArray) (maxL : Nat) (ret : Option FieldType) (L0 : List (Option Value)) (hy : plainName y.cls = true) (hw : ws = Cond.code y cc maxL ret :: ws') (hl : (lg_sl av).length ≤ maxL) (hL : aw_ent av maxL = L0)
    (body : ∀ (p : Program) (e : Env) (s : State) (m : MethodId) (args : Array Value) (below : List Frame) (meth : Method) (c : Code), aw_F p s m c args cc maxL ws y.cls D cl tys → Z s → meth.sig.returnType = ret → meth.locks = false → (∀ x ∈ c.exceptionTable.toList, False) →
      aW p l e (aw_rx d) s m args below meth c 0 0 (vx_MQ below aw_N0 (aw_XC D cl A ad E hp) args s 1 6 A) D cl A ad maxL hp L0 0 []) : aw_X l y ws d D cl tys A ad Z av hp E := by
  refine vx_ofW (cc := cc) (maxL := maxL) (ret := ret) hy hw ?_
  intro p e s m args below meth c s₁ B hml ht hv
  obtain ⟨rfl, h1, h2, h3, h4⟩ := hv
  have hts := atoms_spec (ws := ws) B.pre
  have hown : s.vm.findClass y.cls = some m.cls := findClass_of_methodNamed B.named
  rw [lg_entry_eq]
  exact body p e s m av.toArray below meth c ⟨⟨B.exec, B.bytes, hml, hown, hts⟩, h3⟩ h4 B.returns B.notSynchronized ht s.heap [] _ h1 h2 va_S.rf (hL ▸ aw_entry av hl)
theorem aw_throw {p : Program} {l : Launch} {e : Env} {R : Room} {s : State} {m : MethodId} {args : Array Value} {below : List Frame} {meth : Method} {c : Code} {D : va_G} {cl : List vw_C} {A : Nat → Prop} {ad : Nat → Nat} {nL : Nat} {hp : List va_E} {L : List (Option Value)} {pc : Nat} {st : List Value} {cc : ByteArray} {x : Cond} {own : String} {tys : List (ClassId × FieldType)} {tP : Nat} {Qc : Array Value → State → Outcome → State → Prop} {cls text : String} {names : List String} {ik is ic : Nat}
    (F : aw_F p s m c args cc nL (x :: aw_big) own D cl tys) (Zs : zC A tP s) (hl : l.stackTraces = false) (hcls : Bundle.fit cls = true) (hnames : ∀ n ∈ names, Bundle.fit n = true)
    (hk : Cond.classLink own ik cls ∈ aw_big) (hini : Cond.initialized cls ∈ aw_big) (hstr : Cond.stringRef own is text ∈ lw_tbl) (ha1 : ∀ w ∈ (vx_atS own ic cls names).filter goodWord, w ∈ lw_tbl) (ha2 : ∀ w ∈ (vx_atS own ic cls names).filter (fun w => !goodWord w), w ∈ lw_tbl ∧ isDC w = true)
    (hgood : ∀ w ∈ Cond.classLink own ik cls :: Cond.initialized cls :: vx_atS own ic cls names, vx_ot w = true)
    (d0 : decode cc pc = .ok (.new ik, 3)) (d3 : decode cc (pc + 3) = .ok (.dup, 1)) (d4 : decode cc (pc + 4) = .ok (.ldc is, 2)) (d6 : decode cc (pc + 6) = .ok (.invokespecial ic, 3)) (d9 : decode cc (pc + 9) = .ok (.athrow, 1))
    (ht : ∀ x ∈ c.exceptionTable.toList, False) (hf : names.length + 3 < R.frames) (hlo : (st.map fun v => v.category).sum + (13 * (names.length + 1) + 43) ≤ R.locals) (hc : 1 ≤ R.cells) (hs : 6 ≤ R.slots) (hlk : meth.locks = false) :
    aW p l e R s m args below meth c 0 0 (vx_MQ below Qc (aw_XC D cl A ad cls hp) args s 1 6 A) D cl A ad nL hp L pc st := by
  intro H locs ls h1 h2 h3 h4
  obtain ⟨sa, hsa⟩ := Zs.2.2.2.2.1 _ _ _ hstr
  have hts := F.1.2.2.2.2
  refine vx_throwS (A := A) (names := names) (text := text) (sa := sa) F.1.1 F.1.2.1 hl F.1.2.2.2.1 hcls hnames (hts _ (mw hk)) (hts _ (mw hini)) hsa (z_at Zs hts ha1 ha2) hgood Zs.2.2.2.2.2.2.2.2.1 Zs.2.2.2.2.2.2.2.2.2.1 h3 (h4.1.trans F.1.2.2.1.symm) d0 d3 d4 d6 d9 (fun z hz => (ht z hz).elim) hf hlo (by omega) (by omega) hlk ?_ h3.2.2 (by omega) (by omega)
  intro t hv hz hk'
  refine ⟨rfl, h1.kept (fun k q hq => hk' _ (h1 k q hq).lt), h2, Nat.le_trans h3.1 hz, fun q q1 q2 => ?_⟩
  rw [hk' q (Nat.lt_of_lt_of_le q1 h3.1)]
  exact h3.2.1 q q1 q2
set_option maxRecDepth 100000 in
set_option maxHeartbeats 4000000 in
theorem xK_put_10 {l : Launch} {D : va_G} {A : Nat → Prop} {ad : Nat → Nat} {tP : Nat} {cI : ClassId} {tl : List va_E} {tyr : List (ClassId × FieldType)} (hl : l.stackTraces = false) (S : kT) (P : pT) (X : xT) (so : Int32) (x : Int32) (hx : ¬ fp_isWhole P = 0) : aw_X l yK_put (Cond.code yK_put cK_put 3 (some .int) :: aw_big) 12 D vwCl ((cI, .int) :: tyr) A ad (zC A tP) [.ref (ad 0), .int so, .int x] (hC ad cI S P X ++ tl) "java/lang/IllegalStateException" := by
  refine aw_metX cK_put 3 (some .int) [some (.ref (ad 0)), some (.int so), some (.int x)] (by decide) rfl (Nat.le_of_ble_eq_true rfl) rfl ?_
  intro p e s m args below meth c F Zs hr hlk ht
  refine aw_aload_n (pc := 0) (i := 0) (x := ad 0) F dK_put_0 rfl rfl ?_
  refine aw_get (pc := 1) (v := .ref (ad 1)) F 0 hC_at0 rfl 0 (by decide) (fun w h => mw (iw_K w h)) (mw wd_183) rfl dK_put_1 ?_
  refine aw_goVN (pc := 4) (As := []) (rest := []) F zC_ok Zs 1 hC_at1 rfl (tG_isWhole  S P X) ⟨va_cnB 0 F.1.2.2.2.2 (gi_0 wd_240) rfl rfl rfl (nw_m Zs nl_237) (F.1.2.2.2.2 _ (mw wd_65)) (by decide +kernel) ⟨Nat.le_of_ble_eq_true rfl, Nat.le_of_ble_eq_true rfl⟩, F.1.2.2.2.2 _ (mw wd_239), F.1.2.2.2.2 _ (mw wd_3)⟩ rfl (Nat.le_of_ble_eq_true rfl) ⟨Nat.zero_le _, Nat.zero_le _⟩ rfl dK_put_4 ?_
  show aW _ _ _ _ _ _ _ _ _ _ _ _ _ _ _ _ _ _ _ _ _ [.int (fp_isWhole P)]
  refine aw_if_eq (pc := 7) F 20 dK_put_7 (by decide) (fun c_7 => ?_) (fun c_7 => ?_)
  · skip
    exact absurd c_7 hx
  · skip
    exact aw_throw (pc := 10) (text := "the program is whole") (names := ["java/lang/RuntimeException", "java/lang/Exception"]) (ik := 37) (is := 39) (ic := 41) F Zs hl (by decide +kernel) (by decide +kernel) wd_241 wd_71 (by decide +kernel) (by decide +kernel) (by decide +kernel) (by decide +kernel) dK_put_10 dK_put_13 dK_put_14 dK_put_16 dK_put_19 ht (by decide) (Nat.le_of_ble_eq_true rfl) (by decide) (by decide) hlk
set_option maxRecDepth 100000 in
set_option maxHeartbeats 4000000 in
theorem xK_put_32 {l : Launch} {D : va_G} {A : Nat → Prop} {ad : Nat → Nat} {tP : Nat} {cI : ClassId} {tl : List va_E} {tyr : List (ClassId × FieldType)} (hl : l.stackTraces = false) (S : kT) (P : pT) (X : xT) (so : Int32) (x : Int32) (hS : pS P) (hL : pL P) (hn1 : fp_isWhole P = 0) (hx : fp_allows P so x = 0) : aw_X l yK_put (Cond.code yK_put cK_put 3 (some .int) :: aw_big) 12 D vwCl ((cI, .int) :: tyr) A ad (zC A tP) [.ref (ad 0), .int so, .int x] (hC ad cI S P X ++ tl) "java/lang/IllegalArgumentException" := by
  refine aw_metX cK_put 3 (some .int) [some (.ref (ad 0)), some (.int so), some (.int x)] (by decide) rfl (Nat.le_of_ble_eq_true rfl) rfl ?_
  intro p e s m args below meth c F Zs hr hlk ht
  refine aw_aload_n (pc := 0) (i := 0) (x := ad 0) F dK_put_0 rfl rfl ?_
  refine aw_get (pc := 1) (v := .ref (ad 1)) F 0 hC_at0 rfl 0 (by decide) (fun w h => mw (iw_K w h)) (mw wd_183) rfl dK_put_1 ?_
  refine aw_goVN (pc := 4) (As := []) (rest := []) F zC_ok Zs 1 hC_at1 rfl (tG_isWhole  S P X) ⟨va_cnB 0 F.1.2.2.2.2 (gi_0 wd_240) rfl rfl rfl (nw_m Zs nl_237) (F.1.2.2.2.2 _ (mw wd_65)) (by decide +kernel) ⟨Nat.le_of_ble_eq_true rfl, Nat.le_of_ble_eq_true rfl⟩, F.1.2.2.2.2 _ (mw wd_239), F.1.2.2.2.2 _ (mw wd_3)⟩ rfl (Nat.le_of_ble_eq_true rfl) ⟨Nat.zero_le _, Nat.zero_le _⟩ rfl dK_put_4 ?_
  show aW _ _ _ _ _ _ _ _ _ _ _ _ _ _ _ _ _ _ _ _ _ [.int (fp_isWhole P)]
  refine aw_if_eq (pc := 7) F 20 dK_put_7 (by decide) (fun c_7 => ?_) (fun c_7 => ?_)
  · skip
    refine aw_aload_n (pc := 20) (i := 0) (x := ad 0) F dK_put_20 rfl rfl ?_
    refine aw_get (pc := 21) (v := .ref (ad 1)) F 0 hC_at0 rfl 0 (by decide) (fun w h => mw (iw_K w h)) (mw wd_183) rfl dK_put_21 ?_
    refine aw_iload_n (pc := 24) (i := 1) (x := so) F dK_put_24 rfl rfl ?_
    refine aw_iload_n (pc := 25) (i := 2) (x := x) F dK_put_25 rfl rfl ?_
    refine aw_goVN (pc := 26) (As := [.int so, .int x]) (rest := []) F zC_ok Zs 1 hC_at1 rfl (tG_allows  S P X so x hS hL) ⟨va_cnB 2 F.1.2.2.2.2 (gi_0 wd_312) rfl rfl rfl (nw_m Zs nl_309) (F.1.2.2.2.2 _ (mw wd_65)) (by decide +kernel) ⟨Nat.le_of_ble_eq_true rfl, Nat.le_of_ble_eq_true rfl⟩, F.1.2.2.2.2 _ (mw wd_311), F.1.2.2.2.2 _ (mw wd_5)⟩ rfl (Nat.le_of_ble_eq_true rfl) ⟨Nat.zero_le _, Nat.zero_le _⟩ rfl dK_put_26 ?_
    show aW _ _ _ _ _ _ _ _ _ _ _ _ _ _ _ _ _ _ _ _ _ [.int (fp_allows P so x)]
    refine aw_if_ne (pc := 29) F 42 dK_put_29 (by decide) (fun c_29 => ?_) (fun c_29 => ?_)
    · skip
      exact absurd hx c_29
    · skip
      exact aw_throw (pc := 32) (text := "no such statement here") (names := ["java/lang/RuntimeException", "java/lang/Exception"]) (ik := 48) (is := 50) (ic := 52) F Zs hl (by decide +kernel) (by decide +kernel) wd_325 wd_72 (by decide +kernel) (by decide +kernel) (by decide +kernel) (by decide +kernel) dK_put_32 dK_put_35 dK_put_36 dK_put_38 dK_put_41 ht (by decide) (Nat.le_of_ble_eq_true rfl) (by decide) (by decide) hlk
  · skip
    exact absurd hn1 c_7
set_option maxRecDepth 100000 in
set_option maxHeartbeats 4000000 in
theorem xK_start_10 {l : Launch} {D : va_G} {A : Nat → Prop} {ad : Nat → Nat} {tP : Nat} {cI : ClassId} {tl : List va_E} {tyr : List (ClassId × FieldType)} (hl : l.stackTraces = false) (S : kT) (P : pT) (X : xT)  (hx : fp_isWhole P = 0) : aw_X l yK_start (Cond.code yK_start cK_start 2 (some .int) :: aw_big) 12 D vwCl ((cI, .int) :: tyr) A ad (zC A tP) [.ref (ad 0)] (hC ad cI S P X ++ tl) "java/lang/IllegalStateException" := by
  refine aw_metX cK_start 2 (some .int) [some (.ref (ad 0)), none] (by decide) rfl (Nat.le_of_ble_eq_true rfl) rfl ?_
  intro p e s m args below meth c F Zs hr hlk ht
  refine aw_aload_n (pc := 0) (i := 0) (x := ad 0) F dK_start_0 rfl rfl ?_
  refine aw_get (pc := 1) (v := .ref (ad 1)) F 0 hC_at0 rfl 0 (by decide) (fun w h => mw (iw_K w h)) (mw wd_183) rfl dK_start_1 ?_
  refine aw_goVN (pc := 4) (As := []) (rest := []) F zC_ok Zs 1 hC_at1 rfl (tG_isWhole  S P X) ⟨va_cnB 0 F.1.2.2.2.2 (gi_0 wd_240) rfl rfl rfl (nw_m Zs nl_237) (F.1.2.2.2.2 _ (mw wd_65)) (by decide +kernel) ⟨Nat.le_of_ble_eq_true rfl, Nat.le_of_ble_eq_true rfl⟩, F.1.2.2.2.2 _ (mw wd_239), F.1.2.2.2.2 _ (mw wd_3)⟩ rfl (Nat.le_of_ble_eq_true rfl) ⟨Nat.zero_le _, Nat.zero_le _⟩ rfl dK_start_4 ?_
  show aW _ _ _ _ _ _ _ _ _ _ _ _ _ _ _ _ _ _ _ _ _ [.int (fp_isWhole P)]
  refine aw_if_ne (pc := 7) F 20 dK_start_7 (by decide) (fun c_7 => ?_) (fun c_7 => ?_)
  · skip
    exact absurd hx c_7
  · skip
    exact aw_throw (pc := 10) (text := "the program is not whole") (names := ["java/lang/RuntimeException", "java/lang/Exception"]) (ik := 37) (is := 64) (ic := 41) F Zs hl (by decide +kernel) (by decide +kernel) wd_241 wd_71 (by decide +kernel) (by decide +kernel) (by decide +kernel) (by decide +kernel) dK_start_10 dK_start_13 dK_start_14 dK_start_16 dK_start_19 ht (by decide) (Nat.le_of_ble_eq_true rfl) (by decide) (by decide) hlk
set_option maxRecDepth 100000 in
set_option maxHeartbeats 4000000 in
theorem xK_instant_8 {l : Launch} {D : va_G} {A : Nat → Prop} {ad : Nat → Nat} {tP : Nat} {cI : ClassId} {tl : List va_E} {tyr : List (ClassId × FieldType)} (hl : l.stackTraces = false) (S : kT) (P : pT) (X : xT) (inp : Int32) (hx : ¬ S 0 = (1 : Int32)) : aw_X l yK_instant (Cond.code yK_instant cK_instant 3 (some .int) :: aw_big) 12 D vwCl ((cI, .int) :: tyr) A ad (zC A tP) [.ref (ad 0), .int inp] (hC ad cI S P X ++ tl) "java/lang/IllegalStateException" := by
  refine aw_metX cK_instant 3 (some .int) [some (.ref (ad 0)), some (.int inp), none] (by decide) rfl (Nat.le_of_ble_eq_true rfl) rfl ?_
  intro p e s m args below meth c F Zs hr hlk ht
  refine aw_aload_n (pc := 0) (i := 0) (x := ad 0) F dK_instant_0 rfl rfl ?_
  refine aw_get (pc := 1) (v := .int (S 0)) F 0 hC_at0 rfl 2 (by decide) (fun w h => mw (iw_K w h)) (mw wd_185) rfl dK_instant_1 ?_
  refine aw_iconst (pc := 4) (v := 1) F dK_instant_4 (by decide) ?_
  refine aw_icmp_eq (pc := 5) F 18 dK_instant_5 (by decide) (fun c_5 => ?_) (fun c_5 => ?_)
  · skip
    exact absurd c_5 hx
  · skip
    exact aw_throw (pc := 8) (text := "no program goes") (names := ["java/lang/RuntimeException", "java/lang/Exception"]) (ik := 37) (is := 77) (ic := 41) F Zs hl (by decide +kernel) (by decide +kernel) wd_241 wd_71 (by decide +kernel) (by decide +kernel) (by decide +kernel) (by decide +kernel) dK_instant_8 dK_instant_11 dK_instant_12 dK_instant_14 dK_instant_17 ht (by decide) (Nat.le_of_ble_eq_true rfl) (by decide) (by decide) hlk
set_option maxRecDepth 100000 in
set_option maxHeartbeats 4000000 in
theorem xK_instant_28 {l : Launch} {D : va_G} {A : Nat → Prop} {ad : Nat → Nat} {tP : Nat} {cI : ClassId} {tl : List va_E} {tyr : List (ClassId × FieldType)} (hl : l.stackTraces = false) (S : kT) (P : pT) (X : xT) (inp : Int32) (hn1 : S 0 = (1 : Int32)) (hx : inp < 0 ∨ ¬ inp < (16 : Int32)) : aw_X l yK_instant (Cond.code yK_instant cK_instant 3 (some .int) :: aw_big) 12 D vwCl ((cI, .int) :: tyr) A ad (zC A tP) [.ref (ad 0), .int inp] (hC ad cI S P X ++ tl) "java/lang/IllegalArgumentException" := by
  refine aw_metX cK_instant 3 (some .int) [some (.ref (ad 0)), some (.int inp), none] (by decide) rfl (Nat.le_of_ble_eq_true rfl) rfl ?_
  intro p e s m args below meth c F Zs hr hlk ht
  refine aw_aload_n (pc := 0) (i := 0) (x := ad 0) F dK_instant_0 rfl rfl ?_
  refine aw_get (pc := 1) (v := .int (S 0)) F 0 hC_at0 rfl 2 (by decide) (fun w h => mw (iw_K w h)) (mw wd_185) rfl dK_instant_1 ?_
  refine aw_iconst (pc := 4) (v := 1) F dK_instant_4 (by decide) ?_
  refine aw_icmp_eq (pc := 5) F 18 dK_instant_5 (by decide) (fun c_5 => ?_) (fun c_5 => ?_)
  · skip
    refine aw_iload_n (pc := 18) (i := 1) (x := inp) F dK_instant_18 rfl rfl ?_
    refine aw_if_lt (pc := 19) F 28 dK_instant_19 (by decide) (fun c_19 => ?_) (fun c_19 => ?_)
    · skip
      exact aw_throw (pc := 28) (text := "inputs are 0 to 15") (names := ["java/lang/RuntimeException", "java/lang/Exception"]) (ik := 48) (is := 79) (ic := 52) F Zs hl (by decide +kernel) (by decide +kernel) wd_325 wd_72 (by decide +kernel) (by decide +kernel) (by decide +kernel) (by decide +kernel) dK_instant_28 dK_instant_31 dK_instant_32 dK_instant_34 dK_instant_37 ht (by decide) (Nat.le_of_ble_eq_true rfl) (by decide) (by decide) hlk
    · skip
      refine aw_iload_n (pc := 22) (i := 1) (x := inp) F dK_instant_22 rfl rfl ?_
      refine aw_bipush (pc := 23) (v := 16) F dK_instant_23 (by decide) ?_
      refine aw_icmp_lt (pc := 25) F 38 dK_instant_25 (by decide) (fun c_25 => ?_) (fun c_25 => ?_)
      · skip
        rcases hx with hx | hx
        · exact absurd hx c_19
        · exact absurd c_25 hx
      · skip
        exact aw_throw (pc := 28) (text := "inputs are 0 to 15") (names := ["java/lang/RuntimeException", "java/lang/Exception"]) (ik := 48) (is := 79) (ic := 52) F Zs hl (by decide +kernel) (by decide +kernel) wd_325 wd_72 (by decide +kernel) (by decide +kernel) (by decide +kernel) (by decide +kernel) dK_instant_28 dK_instant_31 dK_instant_32 dK_instant_34 dK_instant_37 ht (by decide) (Nat.le_of_ble_eq_true rfl) (by decide) (by decide) hlk
  · skip
    exact absurd hn1 c_5
set_option maxRecDepth 100000 in
set_option maxHeartbeats 4000000 in
theorem xK_status_10 {l : Launch} {D : va_G} {A : Nat → Prop} {ad : Nat → Nat} {tP : Nat} {cI : ClassId} {tl : List va_E} {tyr : List (ClassId × FieldType)} (hl : l.stackTraces = false) (S : kT) (P : pT) (X : xT) (sg : Int32) (hx : sg < 0 ∨ ¬ sg < (16 : Int32)) : aw_X l yK_status (Cond.code yK_status cK_status 2 (some .int) :: aw_big) 12 D vwCl ((cI, .int) :: tyr) A ad (zC A tP) [.ref (ad 0), .int sg] (hC ad cI S P X ++ tl) "java/lang/IndexOutOfBoundsException" := by
  refine aw_metX cK_status 2 (some .int) [some (.ref (ad 0)), some (.int sg)] (by decide) rfl (Nat.le_of_ble_eq_true rfl) rfl ?_
  intro p e s m args below meth c F Zs hr hlk ht
  refine aw_iload_n (pc := 0) (i := 1) (x := sg) F dK_status_0 rfl rfl ?_
  refine aw_if_lt (pc := 1) F 10 dK_status_1 (by decide) (fun c_1 => ?_) (fun c_1 => ?_)
  · skip
    exact aw_throw (pc := 10) (text := "signals are 0 to 15") (names := ["java/lang/RuntimeException", "java/lang/Exception"]) (ik := 102) (is := 104) (ic := 106) F Zs hl (by decide +kernel) (by decide +kernel) wd_603 wd_76 (by decide +kernel) (by decide +kernel) (by decide +kernel) (by decide +kernel) dK_status_10 dK_status_13 dK_status_14 dK_status_16 dK_status_19 ht (by decide) (Nat.le_of_ble_eq_true rfl) (by decide) (by decide) hlk
  · skip
    refine aw_iload_n (pc := 4) (i := 1) (x := sg) F dK_status_4 rfl rfl ?_
    refine aw_bipush (pc := 5) (v := 16) F dK_status_5 (by decide) ?_
    refine aw_icmp_lt (pc := 7) F 20 dK_status_7 (by decide) (fun c_7 => ?_) (fun c_7 => ?_)
    · skip
      rcases hx with hx | hx
      · exact absurd hx c_1
      · exact absurd c_7 hx
    · skip
      exact aw_throw (pc := 10) (text := "signals are 0 to 15") (names := ["java/lang/RuntimeException", "java/lang/Exception"]) (ik := 102) (is := 104) (ic := 106) F Zs hl (by decide +kernel) (by decide +kernel) wd_603 wd_76 (by decide +kernel) (by decide +kernel) (by decide +kernel) (by decide +kernel) dK_status_10 dK_status_13 dK_status_14 dK_status_16 dK_status_19 ht (by decide) (Nat.le_of_ble_eq_true rfl) (by decide) (by decide) hlk
set_option maxRecDepth 100000 in
set_option maxHeartbeats 4000000 in
theorem xK_selected_15 {l : Launch} {D : va_G} {A : Nat → Prop} {ad : Nat → Nat} {tP : Nat} {cI : ClassId} {tl : List va_E} {tyr : List (ClassId × FieldType)} (hl : l.stackTraces = false) (S : kT) (P : pT) (X : xT) (k : Int32) (hx : k < 0 ∨ ¬ k < (P.1 3)) : aw_X l yK_selected (Cond.code yK_selected cK_selected 2 (some .boolean) :: aw_big) 12 D vwCl ((cI, .int) :: tyr) A ad (zC A tP) [.ref (ad 0), .int k] (hC ad cI S P X ++ tl) "java/lang/IndexOutOfBoundsException" := by
  refine aw_metX cK_selected 2 (some .boolean) [some (.ref (ad 0)), some (.int k)] (by decide) rfl (Nat.le_of_ble_eq_true rfl) rfl ?_
  intro p e s m args below meth c F Zs hr hlk ht
  refine aw_iload_n (pc := 0) (i := 1) (x := k) F dK_selected_0 rfl rfl ?_
  refine aw_if_lt (pc := 1) F 15 dK_selected_1 (by decide) (fun c_1 => ?_) (fun c_1 => ?_)
  · skip
    exact aw_throw (pc := 15) (text := "no such pause") (names := ["java/lang/RuntimeException", "java/lang/Exception"]) (ik := 102) (is := 114) (ic := 106) F Zs hl (by decide +kernel) (by decide +kernel) wd_603 wd_76 (by decide +kernel) (by decide +kernel) (by decide +kernel) (by decide +kernel) dK_selected_15 dK_selected_18 dK_selected_19 dK_selected_21 dK_selected_24 ht (by decide) (Nat.le_of_ble_eq_true rfl) (by decide) (by decide) hlk
  · skip
    refine aw_iload_n (pc := 4) (i := 1) (x := k) F dK_selected_4 rfl rfl ?_
    refine aw_aload_n (pc := 5) (i := 0) (x := ad 0) F dK_selected_5 rfl rfl ?_
    refine aw_get (pc := 6) (v := .ref (ad 1)) F 0 hC_at0 rfl 0 (by decide) (fun w h => mw (iw_K w h)) (mw wd_183) rfl dK_selected_6 ?_
    refine aw_getN (pc := 9) (v := .int (P.1 3)) F 1 hC_at1 rfl 12 (by decide) (fun w h => mw (iw_G w h)) (nw_f Zs nl_107) rfl dK_selected_9 ?_
    refine aw_icmp_lt (pc := 12) F 25 dK_selected_12 (by decide) (fun c_12 => ?_) (fun c_12 => ?_)
    · skip
      rcases hx with hx | hx
      · exact absurd hx c_1
      · exact absurd c_12 hx
    · skip
      exact aw_throw (pc := 15) (text := "no such pause") (names := ["java/lang/RuntimeException", "java/lang/Exception"]) (ik := 102) (is := 114) (ic := 106) F Zs hl (by decide +kernel) (by decide +kernel) wd_603 wd_76 (by decide +kernel) (by decide +kernel) (by decide +kernel) (by decide +kernel) dK_selected_15 dK_selected_18 dK_selected_19 dK_selected_21 dK_selected_24 ht (by decide) (Nat.le_of_ble_eq_true rfl) (by decide) (by decide) hlk
set_option maxRecDepth 100000 in
set_option maxHeartbeats 4000000 in
theorem xK_reacts_8 {l : Launch} {D : va_G} {A : Nat → Prop} {ad : Nat → Nat} {tP : Nat} {cI : ClassId} {tl : List va_E} {tyr : List (ClassId × FieldType)} (hl : l.stackTraces = false) (S : kT) (P : pT) (X : xT)  (hx : ¬ S 0 = (1 : Int32)) : aw_X l yK_reacts (Cond.code yK_reacts cK_reacts 3 (some .int) :: aw_big) 12 D vwCl ((cI, .int) :: tyr) A ad (zC A tP) [.ref (ad 0)] (hC ad cI S P X ++ tl) "java/lang/IllegalStateException" := by
  refine aw_metX cK_reacts 3 (some .int) [some (.ref (ad 0)), none, none] (by decide) rfl (Nat.le_of_ble_eq_true rfl) rfl ?_
  intro p e s m args below meth c F Zs hr hlk ht
  refine aw_aload_n (pc := 0) (i := 0) (x := ad 0) F dK_reacts_0 rfl rfl ?_
  refine aw_get (pc := 1) (v := .int (S 0)) F 0 hC_at0 rfl 2 (by decide) (fun w h => mw (iw_K w h)) (mw wd_185) rfl dK_reacts_1 ?_
  refine aw_iconst (pc := 4) (v := 1) F dK_reacts_4 (by decide) ?_
  refine aw_icmp_eq (pc := 5) F 18 dK_reacts_5 (by decide) (fun c_5 => ?_) (fun c_5 => ?_)
  · skip
    exact absurd c_5 hx
  · skip
    exact aw_throw (pc := 8) (text := "no program goes") (names := ["java/lang/RuntimeException", "java/lang/Exception"]) (ik := 37) (is := 77) (ic := 41) F Zs hl (by decide +kernel) (by decide +kernel) wd_241 wd_71 (by decide +kernel) (by decide +kernel) (by decide +kernel) (by decide +kernel) dK_reacts_8 dK_reacts_11 dK_reacts_12 dK_reacts_14 dK_reacts_17 ht (by decide) (Nat.le_of_ble_eq_true rfl) (by decide) (by decide) hlk
set_option maxRecDepth 100000 in
set_option maxHeartbeats 4000000 in
theorem xK_emits_8 {l : Launch} {D : va_G} {A : Nat → Prop} {ad : Nat → Nat} {tP : Nat} {cI : ClassId} {tl : List va_E} {tyr : List (ClassId × FieldType)} (hl : l.stackTraces = false) (S : kT) (P : pT) (X : xT) (sg : Int32) (hx : ¬ S 0 = (1 : Int32)) : aw_X l yK_emits (Cond.code yK_emits cK_emits 4 (some .int) :: aw_big) 12 D vwCl ((cI, .int) :: tyr) A ad (zC A tP) [.ref (ad 0), .int sg] (hC ad cI S P X ++ tl) "java/lang/IllegalStateException" := by
  refine aw_metX cK_emits 4 (some .int) [some (.ref (ad 0)), some (.int sg), none, none] (by decide) rfl (Nat.le_of_ble_eq_true rfl) rfl ?_
  intro p e s m args below meth c F Zs hr hlk ht
  refine aw_aload_n (pc := 0) (i := 0) (x := ad 0) F dK_emits_0 rfl rfl ?_
  refine aw_get (pc := 1) (v := .int (S 0)) F 0 hC_at0 rfl 2 (by decide) (fun w h => mw (iw_K w h)) (mw wd_185) rfl dK_emits_1 ?_
  refine aw_iconst (pc := 4) (v := 1) F dK_emits_4 (by decide) ?_
  refine aw_icmp_eq (pc := 5) F 18 dK_emits_5 (by decide) (fun c_5 => ?_) (fun c_5 => ?_)
  · skip
    exact absurd c_5 hx
  · skip
    exact aw_throw (pc := 8) (text := "no program goes") (names := ["java/lang/RuntimeException", "java/lang/Exception"]) (ik := 37) (is := 77) (ic := 41) F Zs hl (by decide +kernel) (by decide +kernel) wd_241 wd_71 (by decide +kernel) (by decide +kernel) (by decide +kernel) (by decide +kernel) dK_emits_8 dK_emits_11 dK_emits_12 dK_emits_14 dK_emits_17 ht (by decide) (Nat.le_of_ble_eq_true rfl) (by decide) (by decide) hlk
set_option maxRecDepth 100000 in
set_option maxHeartbeats 4000000 in
theorem xK_emits_29 {l : Launch} {D : va_G} {A : Nat → Prop} {ad : Nat → Nat} {tP : Nat} {cI : ClassId} {tl : List va_E} {tyr : List (ClassId × FieldType)} (hl : l.stackTraces = false) (S : kT) (P : pT) (X : xT) (sg : Int32) (hn1 : S 0 = (1 : Int32)) (hx : sg < (4 : Int32) ∨ ¬ sg < (16 : Int32)) : aw_X l yK_emits (Cond.code yK_emits cK_emits 4 (some .int) :: aw_big) 12 D vwCl ((cI, .int) :: tyr) A ad (zC A tP) [.ref (ad 0), .int sg] (hC ad cI S P X ++ tl) "java/lang/IndexOutOfBoundsException" := by
  refine aw_metX cK_emits 4 (some .int) [some (.ref (ad 0)), some (.int sg), none, none] (by decide) rfl (Nat.le_of_ble_eq_true rfl) rfl ?_
  intro p e s m args below meth c F Zs hr hlk ht
  refine aw_aload_n (pc := 0) (i := 0) (x := ad 0) F dK_emits_0 rfl rfl ?_
  refine aw_get (pc := 1) (v := .int (S 0)) F 0 hC_at0 rfl 2 (by decide) (fun w h => mw (iw_K w h)) (mw wd_185) rfl dK_emits_1 ?_
  refine aw_iconst (pc := 4) (v := 1) F dK_emits_4 (by decide) ?_
  refine aw_icmp_eq (pc := 5) F 18 dK_emits_5 (by decide) (fun c_5 => ?_) (fun c_5 => ?_)
  · skip
    refine aw_iload_n (pc := 18) (i := 1) (x := sg) F dK_emits_18 rfl rfl ?_
    refine aw_iconst (pc := 19) (v := 4) F dK_emits_19 (by decide) ?_
    refine aw_icmp_lt (pc := 20) F 29 dK_emits_20 (by decide) (fun c_20 => ?_) (fun c_20 => ?_)
    · skip
      exact aw_throw (pc := 29) (text := "emitted signals are 4 to 15") (names := ["java/lang/RuntimeException", "java/lang/Exception"]) (ik := 102) (is := 122) (ic := 106) F Zs hl (by decide +kernel) (by decide +kernel) wd_603 wd_76 (by decide +kernel) (by decide +kernel) (by decide +kernel) (by decide +kernel) dK_emits_29 dK_emits_32 dK_emits_33 dK_emits_35 dK_emits_38 ht (by decide) (Nat.le_of_ble_eq_true rfl) (by decide) (by decide) hlk
    · skip
      refine aw_iload_n (pc := 23) (i := 1) (x := sg) F dK_emits_23 rfl rfl ?_
      refine aw_bipush (pc := 24) (v := 16) F dK_emits_24 (by decide) ?_
      refine aw_icmp_lt (pc := 26) F 39 dK_emits_26 (by decide) (fun c_26 => ?_) (fun c_26 => ?_)
      · skip
        rcases hx with hx | hx
        · exact absurd hx c_20
        · exact absurd c_26 hx
      · skip
        exact aw_throw (pc := 29) (text := "emitted signals are 4 to 15") (names := ["java/lang/RuntimeException", "java/lang/Exception"]) (ik := 102) (is := 122) (ic := 106) F Zs hl (by decide +kernel) (by decide +kernel) wd_603 wd_76 (by decide +kernel) (by decide +kernel) (by decide +kernel) (by decide +kernel) dK_emits_29 dK_emits_32 dK_emits_33 dK_emits_35 dK_emits_38 ht (by decide) (Nat.le_of_ble_eq_true rfl) (by decide) (by decide) hlk
  · skip
    exact absurd hn1 c_5
