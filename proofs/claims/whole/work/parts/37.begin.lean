/-! THE CLAIM OUT OF ONE WALK OF THE LAW'S BODY. Your part is whole_start (and what it stands on); all else here is the same for every law, but numbers. -/
def R_law : String := "ReactionDeskLaw"
def lw_P (b : Addr) (xs : List Int32) (args : Array Value) (s : State) : Prop := args = #[.ref b] ∧ s.IntsAt b xs ∧ xs.length ≤ 1536 ∧ (Jvm.Cond.and given_1 narrow_1).before args s = true
def lw_Q (_ : Array Value) (s : State) (o : Outcome) (t : State) : Prop := o = .returned (some (.int 1)) ∧ Framed s o t [] 601024 7293033
def lw_Z (below : List Frame) (a : Array Value) (s : State) : State → Prop := fun t => ∃ o, t.status = .running ∧ Ended t below o ∧ lw_Q a s o t
/-- the law's own end, with 1 on the stack, nothing written that was there before, its room as the claim has it -/
theorem lw_ret {p : Program} {l : Launch} {e : Env} {s : State} {m : MethodId} {below : List Frame} {meth : Method} {c : Code} {b : Nat} (hx : p.tables.exec = Jvm.exec) (hb : c.code = code) (hr : meth.sig.returnType = ret) (hlocks : meth.locks = false) {pc : Nat} {H : Heap} {ls : Array Slot} (hdg : decode code pc = .ok (.ireturn, 1)) : W p l e room_1 s m #[Value.ref b] below meth c H [] 601024 7293033 (lw_Z below #[Value.ref b] s) (F0 m pc ls [.int 1]) := by
  intro T hT X
  obtain ⟨fs, hret, hrun, hended, hW, hframe⟩ := X.leave (v := some (.int 1)) (hlocks := hlocks) (fun h => by rw [hr] at h; cases h)
  have hmeth' : T.vm.method? m = some meth := X.method'
  refine ⟨T.setFrames fs, ?_, .returned (some (.int 1)), hrun, hended, rfl, ⟨_, rfl⟩, hW, hframe⟩
  jvm_step X.here [X.here.top, hx, hb, hdg, hmeth', hr, ret, narrow_b1]
  (try refine ⟨rfl, ?_⟩); (try refine ⟨rfl, ?_⟩)
  first | (intro acts; rw [hret _ acts rfl rfl rfl]) | rw [hret _ _ rfl rfl rfl]
  exact Steps.refl _
/-- what holds at the law's entry: the machine, the code, the tables' words (any of lw_tbl by 'hts w (by decide +kernel)'), the script of L ints xs at the cell b, what the Statement gives of the start (any of its parts by flat_of_before) -/
def lw_At (p : Program) (s : State) (m : MethodId) (meth : Method) (c : Code) (b L : Nat) (xs : Nat → Int32) : Prop :=
  p.tables.exec = Jvm.exec ∧ c.code = code ∧ meth.sig.returnType = ret ∧ c.maxLocals = 7 ∧ s.vm.findClass R_law = some m.cls ∧ (∀ w ∈ lw_tbl, w.before #[Value.ref b] s = true) ∧ va_X b L xs s s.heap ∧ b < s.heap.size ∧ meth.locks = false ∧ (Jvm.Cond.and given_1 narrow_1).before #[Value.ref b] s = true
/-! THE BEGINNING: what the tables and the statement's start give, the two constructors, the array, then the loop -/
def strL : List (String × Nat) := [("ReactionDesk", 104), ("ReactionDesk", 114), ("ReactionDesk", 122), ("ReactionDesk", 39), ("ReactionDesk", 50), ("ReactionDesk", 64), ("ReactionDesk", 77), ("ReactionDesk", 79)]
def strB (w : Cond) : Bool := match w with
  | .stringRef a i _ => strL.contains (a, i)
  | _ => true
theorem strAll : lw_tbl.all strB = true := by decide +kernel
set_option maxRecDepth 100000 in
theorem zC_of {s : State} {b : Nat} (hts : ∀ w ∈ lw_tbl, w.before #[Value.ref b] s = true) (hgv : (Jvm.Cond.and given_1 narrow_1).before #[Value.ref b] s = true) : ∃ tP, zC (fun q => s.heap.size ≤ q) tP s := by
  have hs := flat_of_before _ hgv
  have hA : ∀ a : Nat, a < s.heap.size → ¬ (fun q : Nat => s.heap.size ≤ q) a := fun a h => Nat.not_le.mpr h
  obtain ⟨t, ht, hT⟩ := va_Tof (ty := .int) (tm := .static "ReactionDesk" "PARTS" "[I") (N := 11) (f := fun j => .int (fPARTS j)) (A := fun q => s.heap.size ≤ q) (by decide) (hs _ (by decide +kernel)) (va_eqt (hs _ (by decide +kernel))) (fun j hj => by
    match j, hj with
    | 0, _ => exact va_eqt (hs _ (by decide +kernel))
    | 1, _ => exact va_eqt (hs _ (by decide +kernel))
    | 2, _ => exact va_eqt (hs _ (by decide +kernel))
    | 3, _ => exact va_eqt (hs _ (by decide +kernel))
    | 4, _ => exact va_eqt (hs _ (by decide +kernel))
    | 5, _ => exact va_eqt (hs _ (by decide +kernel))
    | 6, _ => exact va_eqt (hs _ (by decide +kernel))
    | 7, _ => exact va_eqt (hs _ (by decide +kernel))
    | 8, _ => exact va_eqt (hs _ (by decide +kernel))
    | 9, _ => exact va_eqt (hs _ (by decide +kernel))
    | 10, _ => exact va_eqt (hs _ (by decide +kernel))) hA
  have hstr : ∀ k, ("ReactionDesk", k) ∈ strL → (Cond.exactly (.string "ReactionDesk" k) "java/lang/String").before #[Value.ref b] s = true := by
    intro k hk
    have hc : k = 104 ∨ k = 114 ∨ k = 122 ∨ k = 39 ∨ k = 50 ∨ k = 64 ∨ k = 77 ∨ k = 79 := by simpa [strL] using hk
    rcases hc with rfl | rfl | rfl | rfl | rfl | rfl | rfl | rfl <;> exact hs _ (by decide +kernel)
  refine ⟨t, fun a i x h q => va_Nw.of rfl (hts _ q), fun a i x n d h q => va_Nw.of rfl (hts _ q), fun x q => va_Nw.of rfl (hts _ q), fun x y q => va_Nw.of rfl (hts _ q), fun a i tx q => ?_, fun a c q => ?_, va_Zof (hts _ (by decide +kernel)) (hts _ (by decide +kernel)) ht hA, hT, vx_Zqof (hts _ (by decide +kernel)) (hts _ (by decide +kernel)) (hs _ (by decide +kernel)) hA, vx_Zqof (hts _ (by decide +kernel)) (hts _ (by decide +kernel)) (hs _ (by decide +kernel)) hA, fun _ h => h⟩
  · have hB : strL.contains (a, i) = true := List.all_eq_true.mp strAll _ q
    have hm : (a, i) ∈ strL := List.contains_iff_mem.mp hB
    have ha : a = "ReactionDesk" := by
      have hz : (a = "ReactionDesk" ∧ i = 104) ∨ (a = "ReactionDesk" ∧ i = 114) ∨ (a = "ReactionDesk" ∧ i = 122) ∨ (a = "ReactionDesk" ∧ i = 39) ∨ (a = "ReactionDesk" ∧ i = 50) ∨ (a = "ReactionDesk" ∧ i = 64) ∨ (a = "ReactionDesk" ∧ i = 77) ∨ (a = "ReactionDesk" ∧ i = 79) := by simpa [strL] using hm
      rcases hz with h | h | h | h | h | h | h | h <;> exact h.1
    subst ha
    obtain ⟨sa, c, cA, kA, q1, q2, q3, q4, q5, q6, -⟩ := Cond.exactly_spec (args := #[Value.ref b]) (first := s) (o := none) (s := s) (idx := []) (t := .string "ReactionDesk" i) (cls := "java/lang/String") (hstr i hm)
    exact ⟨sa, vk_R.of (hts _ q) q1⟩
  · have hz : (a, c) = ("java/lang/IllegalStateException", "java/lang/IllegalArgumentException") ∨ (a, c) = ("java/lang/IllegalStateException", "java/lang/IndexOutOfBoundsException") ∨ (a, c) = ("java/lang/IllegalArgumentException", "java/lang/IllegalStateException") ∨ (a, c) = ("java/lang/IllegalArgumentException", "java/lang/IndexOutOfBoundsException") ∨ (a, c) = ("java/lang/IndexOutOfBoundsException", "java/lang/IllegalStateException") ∨ (a, c) = ("java/lang/IndexOutOfBoundsException", "java/lang/IllegalArgumentException") := by simpa only [zNc, List.mem_cons, List.not_mem_nil, or_false] using q
    rcases hz with h | h | h | h | h | h <;> (cases h; exact va_Nc.of (hs _ (by decide +kernel)))
theorem arr_known {s : State} {args : Array Value} {ty : FieldType} (hty : ty = .int ∨ ty = .boolean ∨ ty = .long) (h : (Cond.arrayClass ty).before args s = true) : ∃ cA : ClassId, ArrOfT s cA ty ∧ va_RA s cA ty := by
  obtain ⟨cB, kB, comp, h1, h2, h3⟩ := Cond.arrayClass_spec h
  refine ⟨cB, fun n z => ⟨fun k h => (by cases h), kB, h2, comp, h3⟩, ?_⟩
  rcases hty with rfl | rfl | rfl <;> exact h1
def S00 : kT := fun k => if k = 2 then 65535 else 0
def P00 : pT := (fun k => if k = 2 then 1 else 0, fun _ _ => 0)
def X00 : xT := (fun _ => 0, fun _ => 0, 0)
def M00 : mT := (fun k => if k = 3 then 1 else 0, fun _ _ => 0)
def Y00 : yT := (fun _ => 0, fun _ _ => 0)
def V00 : vT := (fun _ => 0, fun _ _ => 0)
def adB (a0 a1 a2 a3 a4 a5 a6 a7 a8 a9 a10 a11 a12 a13 a14 a15 a16 a17 a18 a19 a20 a21 a22 a23 a24 a25 a26 a27 a28 a29 a30 a31 a32 : Nat) : Nat → Nat
  | 0 => a0
  | 1 => a1
  | 2 => a2
  | 3 => a3
  | 4 => a4
  | 5 => a5
  | 6 => a6
  | 7 => a7
  | 8 => a8
  | 9 => a9
  | 10 => a10
  | 11 => a11
  | 12 => a12
  | 13 => a13
  | 14 => a14
  | 15 => a15
  | 16 => a16
  | 17 => a17
  | 18 => a18
  | 19 => a19
  | 20 => a20
  | 21 => a21
  | 22 => a22
  | 23 => a23
  | 24 => a24
  | 25 => a25
  | 26 => a26
  | 27 => a27
  | 28 => a28
  | 29 => a29
  | 30 => a30
  | 31 => a31
  | _ => a32
set_option maxRecDepth 100000 in
theorem begin_ws (a0 a1 a2 a3 a4 a5 a6 a7 a8 a9 a10 a11 a12 a13 a14 a15 a16 a17 a18 a19 a20 a21 a22 a23 a24 a25 a26 a27 a28 a29 a30 a31 a32 : Nat) (cI cZ cJ : ClassId) : aw_ws (adB a0 a1 a2 a3 a4 a5 a6 a7 a8 a9 a10 a11 a12 a13 a14 a15 a16 a17 a18 a19 a20 a21 a22 a23 a24 a25 a26 a27 a28 a29 a30 a31 a32) (hC (adB a0 a1 a2 a3 a4 a5 a6 a7 a8 a9 a10 a11 a12 a13 a14 a15 a16 a17 a18 a19 a20 a21 a22 a23 a24 a25 a26 a27 a28 a29 a30 a31 a32) cI S00 P00 X00 ++ (hM (adB a0 a1 a2 a3 a4 a5 a6 a7 a8 a9 a10 a11 a12 a13 a14 a15 a16 a17 a18 a19 a20 a21 a22 a23 a24 a25 a26 a27 a28 a29 a30 a31 a32) cI cZ 0 M00 Y00 V00 ++ hQ cJ (fun _ => 0))) = [(a0, .inr (0, [.ref a1, .ref a11, .int 0, .int 0, .int 65535, .int 0])), (a1, .inr (1, [.ref a2, .ref a3, .ref a4, .ref a5, .ref a6, .ref a7, .ref a8, .ref a9, .ref a10, .int 0, .int 0, .int 1, .int 0, .int 0, .int 0])), (a2, .inl (cI, 120, .inl (fun _ => 0))), (a3, .inl (cI, 120, .inl (fun _ => 0))), (a4, .inl (cI, 120, .inl (fun _ => 0))), (a5, .inl (cI, 120, .inl (fun _ => 0))), (a6, .inl (cI, 120, .inl (fun _ => 0))), (a7, .inl (cI, 120, .inl (fun _ => 0))), (a8, .inl (cI, 120, .inl (fun _ => 0))), (a9, .inl (cI, 24, .inl (fun _ => 0))), (a10, .inl (cI, 24, .inl (fun _ => 0))), (a11, .inr (2, [.ref a1, .ref a12, .int 0, .int 0, .int 0, .int 0, .int 0, .int 0, .long 0])), (a12, .inl (cI, 360, .inl (fun _ => 0))), (a13, .inr (3, [.int 0, .int 0, .int 0, .int 0, .int 1, .ref a14, .ref a15, .ref a16, .ref a17, .ref a18, .ref a19, .ref a20, .ref a21, .ref a22, .ref a23, .ref a24, .int 0, .int 0, .int 0, .int 0, .ref a25, .ref a28, .ref a26, .ref a27, .ref a29, .ref a30, .ref a31, .int 0, .int 0])), (a14, .inl (cI, 120, .inl (fun _ => 0))), (a15, .inl (cI, 120, .inl (fun _ => 0))), (a16, .inl (cI, 120, .inl (fun _ => 0))), (a17, .inl (cI, 120, .inl (fun _ => 0))), (a18, .inl (cI, 120, .inl (fun _ => 0))), (a19, .inl (cI, 120, .inl (fun _ => 0))), (a20, .inl (cI, 120, .inl (fun _ => 0))), (a21, .inl (cI, 120, .inl (fun _ => 0))), (a22, .inl (cI, 120, .inl (fun _ => 0))), (a23, .inl (cI, 25, .inl (fun _ => 0))), (a24, .inl (cI, 25, .inl (fun _ => 0))), (a25, .inl (cZ, 32, .inl (fun _ => 0))), (a26, .inl (cI, 16, .inl (fun _ => 0))), (a27, .inl (cI, 3256, .inl (fun _ => 0))), (a28, .inl (cZ, 32, .inl (fun _ => 0))), (a29, .inl (cZ, 3256, .inl (fun _ => 0))), (a30, .inl (cZ, 3256, .inl (fun _ => 0))), (a31, .inl (cI, 16, .inl (fun _ => 0))), (a32, .inl (cJ, 1, .inr (.inl (fun _ => 0))))] := by
  simp only [aw_ws, hC, hM, hQ, List.cons_append, List.nil_append, List.mapIdx_cons, List.mapIdx_nil]
  rfl
theorem lw_end {p : Program} {l : Launch} {e : Env} {s : State} {m : MethodId} {below : List Frame} {meth : Method} {c : Code} {b : Nat} {D : va_G} {ad : Nat → Nat} {hp : List va_E} {L : List (Option Value)} {cells slots : Nat} (hx : p.tables.exec = Jvm.exec) (hb : c.code = cL_law) (hr : meth.sig.returnType = ret) (hlocks : meth.locks = false) (hc : cells ≤ room_1.cells) (hs : slots ≤ room_1.slots) : aW p l e room_1 s m #[Value.ref b] below meth c cells slots (lw_Z below #[Value.ref b] s) D vwCl (fun q => s.heap.size ≤ q) ad 7 hp L 519 [] := by
  intro H locs ls h1 h2 h3 h4
  refine lv_iconst (v := 1) hx hb dL_law_519 (by decide) ?_
  refine va_forget (fun q hq => h3.2.2 q hq) ?_
  refine W.widen (k := 601024) (n := 7293033) hc hs ?_
  exact lw_ret hx hb hr hlocks dL_law_520
set_option maxHeartbeats 4000000 in
set_option maxRecDepth 100000 in
theorem lw_begin {R : kT → pT → xT → mT → yT → vT → Prop} (hR : lwR R) (h00 : R S00 P00 X00 M00 Y00 V00) {p : Program} {e : Env} {s : State} {m : MethodId} {below : List Frame} {meth : Method} {c : Code} (l : Launch) (hl0 : l.stackTraces = false) {b L : Nat} {xs : Nat → Int32} (hL : L ≤ 1536) (C0 : lw_At p s m meth c b L xs) : W p l e room_1 s m #[Value.ref b] below meth c s.heap [] 0 0 (lw_Z below #[Value.ref b] s) (entryFrame m ([Value.ref b] : List Value).toArray 7) := by
  obtain ⟨hx, hb, hr, hml, hown, hts0, hX, hbl, hlocks, hgv⟩ := id C0
  obtain ⟨tP, Zs⟩ := zC_of hts0 hgv
  have hts : ∀ w ∈ (Cond.initialized "ReactionDeskLaw" :: aw_big), w.before #[Value.ref b] s = true := List.forall_mem_cons.mpr ⟨hts0 _ (by decide +kernel), fun w h => hts0 w (List.mem_filter.mp h).1⟩
  have hNG := nw_m Zs nl_88
  have hNX := nw_m Zs nl_147
  have hA : ∀ q : Nat, s.heap.size ≤ q → (fun q : Nat => s.heap.size ≤ q) q := fun _ h => h
  obtain ⟨kK, iK, hKnK⟩ := u_known (C := RK) (T := TK) (N := 6) (n := 6) hts (fun w h => mw (iw_K w h)) (hts _ (mw wd_79))
  obtain ⟨kG, iG, hKnG⟩ := u_known (C := RG) (T := TG) (N := 15) (n := 15) hts (fun w h => mw (iw_G w h)) (hts _ (mw wd_87))
  obtain ⟨kX, iX, hKnX⟩ := u_known (C := RX) (T := TX) (N := 9) (n := 9) hts (fun w h => mw (iw_X w h)) (hts _ (mw wd_146))
  obtain ⟨kM, iM, hKnM⟩ := u_known (C := RM) (T := TM) (N := 29) (n := 29) hts (fun w h => mw (iw_M w h)) (hts _ (mw wd_644))
  obtain ⟨cI, aI⟩ := arr_known (ty := .int) (by simp) (hts _ (mw wd_144))
  obtain ⟨cZ, aZ⟩ := arr_known (ty := .boolean) (by simp) (hts _ (mw wd_737))
  obtain ⟨cJ, aJ⟩ := arr_known (ty := .long) (by simp) (hts _ (mw wd_868))
  obtain ⟨D, hKc⟩ : ∃ D : va_G, ∀ (k : Nat) (q : vw_C), vwCl[k]? = some q → u_Kn s q.1 q.2.1 q.2.2 (D.1 k) (D.2 k) := by
    refine ⟨(fun k => if k = 0 then kK else if k = 1 then kG else if k = 2 then kX else kM, fun k => if k = 0 then iK else if k = 1 then iG else if k = 2 then iX else iM), ?_⟩
    intro k q hq
    match k, hq with
    | 0, hq => cases hq; exact hKnK
    | 1, hq => cases hq; exact hKnG
    | 2, hq => cases hq; exact hKnX
    | 3, hq => cases hq; exact hKnM
    | k + 4, hq => cases hq
  have hS : va_S (fun q : Nat => s.heap.size ≤ q) s.heap s.heap [] := va_S.rf
  have hK : va_K D vwCl [(cI, .int), (cZ, .boolean), (cJ, .long)] s := ⟨hKc, fun k q h => by match k, h with | 0, h => cases h; exact aI | 1, h => cases h; exact aZ | 2, h => cases h; exact aJ | k + 3, h => cases h⟩
  have hP : va_P D vwCl [] s.heap := fun k q h => by simp at h
  have hD : va_D (fun q : Nat => s.heap.size ≤ q) [] := ⟨fun i j p q h => by simp at h, fun k q h => by simp at h⟩
  have hl := lv_entry ([.ref b]) (n := 7) (Nat.le_of_ble_eq_true rfl)
  rw [lg_entry_eq]
  generalize (lg_sl ([.ref b]) ++ List.replicate (7 - (lg_sl ([.ref b])).length) Slot.unset).toArray = ls at hl ⊢
  have hl : lv_has ls 7 [(0, .ref b)] := hl
  refine va_new (ci := 0) (fs := [.null, .null, .int 0, .int 0, .int 0, .int 0]) (C := RK) (T := TK) (N := 6) hx hb hts (fun w h => mw (iw_K w h)) tyK tyK_ok hown (hts _ (mw wd_78)) (hts _ (mw wd_79)) (hts _ (mw wd_64)) hK hP hD hS hA rfl (fun j hj => by rcases (show j = 0 ∨ j = 1 ∨ j = 2 ∨ j = 3 ∨ j = 4 ∨ j = 5 by omega) with rfl | rfl | rfl | rfl | rfl | rfl <;> rfl) (by decide) (by decide) dL_law_0 (fun q0 H hP hD hS => ?_)
  have hP : va_P D vwCl [(q0, .inr (0, [.null, .null, .int 0, .int 0, .int 0, .int 0]))] H := hP
  have hD : va_D (fun q : Nat => s.heap.size ≤ q) [(q0, .inr (0, [.null, .null, .int 0, .int 0, .int 0, .int 0]))] := hD
  refine W.widen (k := 1) (n := 6) (by omega) (by omega) ?_
  refine lv_dup hx hb dL_law_3 rfl ?_
  have hPc := hP.sub (ws' := [(q0, .inr (0, [.null, .null, .int 0, .int 0, .int 0, .int 0]))]) [0] rfl
  have hDc := hD.sub (ws' := [(q0, .inr (0, [.null, .null, .int 0, .int 0, .int 0, .int 0]))]) [0] (by decide) rfl
  have hFc := va_free (wc := [(q0, .inr (0, [.null, .null, .int 0, .int 0, .int 0, .int 0]))]) hD hS hA [0] rfl
  refine va_callv (va_runI (As := []) (rest := [.ref q0]) ⟨hx, hb, hml, hown, hts⟩ (nK_init l D cI cZ cJ q0  H.size) (cwI 0 hts (gi_0 wd_82) rfl rfl rfl (hts _ (mw wd_64)) (hts _ (mw wd_80)) (hts _ (mw wd_81)) rfl (by decide +kernel) ⟨by decide, by decide⟩) ⟨fun a U g mk q => by obtain ⟨q0, q1, qP, qK, qD, qG, qX⟩ := q; exact ⟨q0, q1, qP, va_K.moved (u := U) (U := U.calling g mk a) (Vm.Alike.refl U.vm) qK, qD, qG.warmM (State.WarmedH.refl U), qX.warmM (State.WarmedH.refl U)⟩, fun U hU hW => ⟨rfl, by rw [hU], by rw [hU]; exact hPc, va_K.moved hW.alike hK, hDc.weaken (fun _ _ _ _ => trivial), hNG.warmM hW, hNX.warmM hW⟩⟩ rfl rfl hl.1 rfl (lv_room (Nat.le_of_ble_eq_true rfl)) dL_law_4 ⟨by decide, by decide⟩) hS (fun q _ h => hFc q h) hFc (fun u t H1 locs ht hvm hw hB hz1 hk1 hS => ?_)
  obtain ⟨q1, q2, q3, q4, q5, q6, q7, q8, q9, q10, q11, q12, hP1, hK1, hD1⟩ := hB
  rw [ht] at hP1
  obtain ⟨hP, hD⟩ := va_join (wr := []) (w1 := [(q0, .inr (0, [.ref q1, .ref q11, .int 0, .int 0, .int 65535, .int 0])), (q1, .inr (1, [.ref q2, .ref q3, .ref q4, .ref q5, .ref q6, .ref q7, .ref q8, .ref q9, .ref q10, .int 0, .int 0, .int 1, .int 0, .int 0, .int 0])), (q2, .inl (cI, 120, .inl (fun _ => 0))), (q3, .inl (cI, 120, .inl (fun _ => 0))), (q4, .inl (cI, 120, .inl (fun _ => 0))), (q5, .inl (cI, 120, .inl (fun _ => 0))), (q6, .inl (cI, 120, .inl (fun _ => 0))), (q7, .inl (cI, 120, .inl (fun _ => 0))), (q8, .inl (cI, 120, .inl (fun _ => 0))), (q9, .inl (cI, 24, .inl (fun _ => 0))), (q10, .inl (cI, 24, .inl (fun _ => 0))), (q11, .inr (2, [.ref q1, .ref q12, .int 0, .int 0, .int 0, .int 0, .int 0, .int 0, .long 0])), (q12, .inl (cI, 360, .inl (fun _ => 0)))]) hP hD [0] [] rfl rfl (by decide) (by decide) hk1 hFc hP1 hD1
  clear hP1 hD1 hPc hDc hFc hk1 hK1 hvm hz1 hw ht
  generalize H1 = H at hP hS ⊢
  have hP : va_P D vwCl [(q0, .inr (0, [.ref q1, .ref q11, .int 0, .int 0, .int 65535, .int 0])), (q1, .inr (1, [.ref q2, .ref q3, .ref q4, .ref q5, .ref q6, .ref q7, .ref q8, .ref q9, .ref q10, .int 0, .int 0, .int 1, .int 0, .int 0, .int 0])), (q2, .inl (cI, 120, .inl (fun _ => 0))), (q3, .inl (cI, 120, .inl (fun _ => 0))), (q4, .inl (cI, 120, .inl (fun _ => 0))), (q5, .inl (cI, 120, .inl (fun _ => 0))), (q6, .inl (cI, 120, .inl (fun _ => 0))), (q7, .inl (cI, 120, .inl (fun _ => 0))), (q8, .inl (cI, 120, .inl (fun _ => 0))), (q9, .inl (cI, 24, .inl (fun _ => 0))), (q10, .inl (cI, 24, .inl (fun _ => 0))), (q11, .inr (2, [.ref q1, .ref q12, .int 0, .int 0, .int 0, .int 0, .int 0, .int 0, .long 0])), (q12, .inl (cI, 360, .inl (fun _ => 0)))] H := hP
  have hD : va_D (fun q : Nat => s.heap.size ≤ q) [(q0, .inr (0, [.ref q1, .ref q11, .int 0, .int 0, .int 65535, .int 0])), (q1, .inr (1, [.ref q2, .ref q3, .ref q4, .ref q5, .ref q6, .ref q7, .ref q8, .ref q9, .ref q10, .int 0, .int 0, .int 1, .int 0, .int 0, .int 0])), (q2, .inl (cI, 120, .inl (fun _ => 0))), (q3, .inl (cI, 120, .inl (fun _ => 0))), (q4, .inl (cI, 120, .inl (fun _ => 0))), (q5, .inl (cI, 120, .inl (fun _ => 0))), (q6, .inl (cI, 120, .inl (fun _ => 0))), (q7, .inl (cI, 120, .inl (fun _ => 0))), (q8, .inl (cI, 120, .inl (fun _ => 0))), (q9, .inl (cI, 24, .inl (fun _ => 0))), (q10, .inl (cI, 24, .inl (fun _ => 0))), (q11, .inr (2, [.ref q1, .ref q12, .int 0, .int 0, .int 0, .int 0, .int 0, .int 0, .long 0])), (q12, .inl (cI, 360, .inl (fun _ => 0)))] := hD
  refine W.widen (k := 13) (n := 1278) (by omega) (by omega) ?_
  refine lv_astore_n (lv' := [(1, .ref q0), (0, .ref b)]) hx hb dL_law_7 rfl hl (by decide) rfl (fun ls hl => ?_)
  refine va_new (ci := 3) (fs := [.int 0, .int 0, .int 0, .int 0, .int 0, .null, .null, .null, .null, .null, .null, .null, .null, .null, .null, .null, .int 0, .int 0, .int 0, .int 0, .null, .null, .null, .null, .null, .null, .null, .int 0, .int 0]) (C := RM) (T := TM) (N := 29) hx hb hts (fun w h => mw (iw_M w h)) tyM tyM_ok hown (hts _ (mw wd_643)) (hts _ (mw wd_644)) (hts _ (mw wd_67)) hK hP hD hS hA rfl (fun j hj => by rcases (show j = 0 ∨ j = 1 ∨ j = 2 ∨ j = 3 ∨ j = 4 ∨ j = 5 ∨ j = 6 ∨ j = 7 ∨ j = 8 ∨ j = 9 ∨ j = 10 ∨ j = 11 ∨ j = 12 ∨ j = 13 ∨ j = 14 ∨ j = 15 ∨ j = 16 ∨ j = 17 ∨ j = 18 ∨ j = 19 ∨ j = 20 ∨ j = 21 ∨ j = 22 ∨ j = 23 ∨ j = 24 ∨ j = 25 ∨ j = 26 ∨ j = 27 ∨ j = 28 by omega) with rfl | rfl | rfl | rfl | rfl | rfl | rfl | rfl | rfl | rfl | rfl | rfl | rfl | rfl | rfl | rfl | rfl | rfl | rfl | rfl | rfl | rfl | rfl | rfl | rfl | rfl | rfl | rfl | rfl <;> rfl) (by decide) (by decide) dL_law_8 (fun q13 H hP hD hS => ?_)
  have hP : va_P D vwCl [(q0, .inr (0, [.ref q1, .ref q11, .int 0, .int 0, .int 65535, .int 0])), (q1, .inr (1, [.ref q2, .ref q3, .ref q4, .ref q5, .ref q6, .ref q7, .ref q8, .ref q9, .ref q10, .int 0, .int 0, .int 1, .int 0, .int 0, .int 0])), (q2, .inl (cI, 120, .inl (fun _ => 0))), (q3, .inl (cI, 120, .inl (fun _ => 0))), (q4, .inl (cI, 120, .inl (fun _ => 0))), (q5, .inl (cI, 120, .inl (fun _ => 0))), (q6, .inl (cI, 120, .inl (fun _ => 0))), (q7, .inl (cI, 120, .inl (fun _ => 0))), (q8, .inl (cI, 120, .inl (fun _ => 0))), (q9, .inl (cI, 24, .inl (fun _ => 0))), (q10, .inl (cI, 24, .inl (fun _ => 0))), (q11, .inr (2, [.ref q1, .ref q12, .int 0, .int 0, .int 0, .int 0, .int 0, .int 0, .long 0])), (q12, .inl (cI, 360, .inl (fun _ => 0))), (q13, .inr (3, [.int 0, .int 0, .int 0, .int 0, .int 0, .null, .null, .null, .null, .null, .null, .null, .null, .null, .null, .null, .int 0, .int 0, .int 0, .int 0, .null, .null, .null, .null, .null, .null, .null, .int 0, .int 0]))] H := hP
  have hD : va_D (fun q : Nat => s.heap.size ≤ q) [(q0, .inr (0, [.ref q1, .ref q11, .int 0, .int 0, .int 65535, .int 0])), (q1, .inr (1, [.ref q2, .ref q3, .ref q4, .ref q5, .ref q6, .ref q7, .ref q8, .ref q9, .ref q10, .int 0, .int 0, .int 1, .int 0, .int 0, .int 0])), (q2, .inl (cI, 120, .inl (fun _ => 0))), (q3, .inl (cI, 120, .inl (fun _ => 0))), (q4, .inl (cI, 120, .inl (fun _ => 0))), (q5, .inl (cI, 120, .inl (fun _ => 0))), (q6, .inl (cI, 120, .inl (fun _ => 0))), (q7, .inl (cI, 120, .inl (fun _ => 0))), (q8, .inl (cI, 120, .inl (fun _ => 0))), (q9, .inl (cI, 24, .inl (fun _ => 0))), (q10, .inl (cI, 24, .inl (fun _ => 0))), (q11, .inr (2, [.ref q1, .ref q12, .int 0, .int 0, .int 0, .int 0, .int 0, .int 0, .long 0])), (q12, .inl (cI, 360, .inl (fun _ => 0))), (q13, .inr (3, [.int 0, .int 0, .int 0, .int 0, .int 0, .null, .null, .null, .null, .null, .null, .null, .null, .null, .null, .null, .int 0, .int 0, .int 0, .int 0, .null, .null, .null, .null, .null, .null, .null, .int 0, .int 0]))] := hD
  refine W.widen (k := 14) (n := 1307) (by omega) (by omega) ?_
  refine lv_dup hx hb dL_law_11 rfl ?_
  have hPc := hP.sub (ws' := [(q13, .inr (3, [.int 0, .int 0, .int 0, .int 0, .int 0, .null, .null, .null, .null, .null, .null, .null, .null, .null, .null, .null, .int 0, .int 0, .int 0, .int 0, .null, .null, .null, .null, .null, .null, .null, .int 0, .int 0]))]) [13] rfl
  have hDc := hD.sub (ws' := [(q13, .inr (3, [.int 0, .int 0, .int 0, .int 0, .int 0, .null, .null, .null, .null, .null, .null, .null, .null, .null, .null, .null, .int 0, .int 0, .int 0, .int 0, .null, .null, .null, .null, .null, .null, .null, .int 0, .int 0]))]) [13] (by decide) rfl
  have hFc := va_free (wc := [(q13, .inr (3, [.int 0, .int 0, .int 0, .int 0, .int 0, .null, .null, .null, .null, .null, .null, .null, .null, .null, .null, .null, .int 0, .int 0, .int 0, .int 0, .null, .null, .null, .null, .null, .null, .null, .int 0, .int 0]))]) hD hS hA [13] rfl
  refine va_callv (va_runI (As := []) (rest := [.ref q13]) ⟨hx, hb, hml, hown, hts⟩ (nM_init l D cI cZ cJ q13  H.size) (cwI 0 hts (gi_0 wd_647) rfl rfl rfl (hts _ (mw wd_67)) (hts _ (mw wd_645)) (hts _ (mw wd_646)) rfl (by decide +kernel) ⟨by decide, by decide⟩) ⟨fun a U g mk q => by obtain ⟨q0, q1, qP, qK, qD⟩ := q; exact ⟨q0, q1, qP, va_K.moved (u := U) (U := U.calling g mk a) (Vm.Alike.refl U.vm) qK, qD⟩, fun U hU hW => ⟨rfl, by rw [hU], by rw [hU]; exact hPc, va_K.moved hW.alike hK, hDc.weaken (fun _ _ _ _ => trivial)⟩⟩ rfl rfl hl.1 rfl (lv_room (Nat.le_of_ble_eq_true rfl)) dL_law_12 ⟨by decide, by decide⟩) hS (fun q _ h => hFc q h) hFc (fun u t H1 locs ht hvm hw hB hz1 hk1 hS => ?_)
  obtain ⟨r14, r15, r16, r17, r18, r19, r20, r21, r22, r23, r24, r25, r26, r27, r28, r29, r30, r31, hP1, hK1, hD1⟩ := hB
  rw [ht] at hP1
  obtain ⟨hP, hD⟩ := va_join (wr := [(q0, .inr (0, [.ref q1, .ref q11, .int 0, .int 0, .int 65535, .int 0])), (q1, .inr (1, [.ref q2, .ref q3, .ref q4, .ref q5, .ref q6, .ref q7, .ref q8, .ref q9, .ref q10, .int 0, .int 0, .int 1, .int 0, .int 0, .int 0])), (q2, .inl (cI, 120, .inl (fun _ => 0))), (q3, .inl (cI, 120, .inl (fun _ => 0))), (q4, .inl (cI, 120, .inl (fun _ => 0))), (q5, .inl (cI, 120, .inl (fun _ => 0))), (q6, .inl (cI, 120, .inl (fun _ => 0))), (q7, .inl (cI, 120, .inl (fun _ => 0))), (q8, .inl (cI, 120, .inl (fun _ => 0))), (q9, .inl (cI, 24, .inl (fun _ => 0))), (q10, .inl (cI, 24, .inl (fun _ => 0))), (q11, .inr (2, [.ref q1, .ref q12, .int 0, .int 0, .int 0, .int 0, .int 0, .int 0, .long 0])), (q12, .inl (cI, 360, .inl (fun _ => 0)))]) (w1 := [(q13, .inr (3, [.int 0, .int 0, .int 0, .int 0, .int 1, .ref r14, .ref r15, .ref r16, .ref r17, .ref r18, .ref r19, .ref r20, .ref r21, .ref r22, .ref r23, .ref r24, .int 0, .int 0, .int 0, .int 0, .ref r25, .ref r26, .ref r27, .ref r28, .ref r29, .ref r30, .ref r31, .int 0, .int 0])), (r14, .inl (cI, 120, .inl (fun _ => 0))), (r15, .inl (cI, 120, .inl (fun _ => 0))), (r16, .inl (cI, 120, .inl (fun _ => 0))), (r17, .inl (cI, 120, .inl (fun _ => 0))), (r18, .inl (cI, 120, .inl (fun _ => 0))), (r19, .inl (cI, 120, .inl (fun _ => 0))), (r20, .inl (cI, 120, .inl (fun _ => 0))), (r21, .inl (cI, 120, .inl (fun _ => 0))), (r22, .inl (cI, 120, .inl (fun _ => 0))), (r23, .inl (cI, 25, .inl (fun _ => 0))), (r24, .inl (cI, 25, .inl (fun _ => 0))), (r25, .inl (cZ, 32, .inl (fun _ => 0))), (r26, .inl (cZ, 32, .inl (fun _ => 0))), (r27, .inl (cI, 16, .inl (fun _ => 0))), (r28, .inl (cI, 3256, .inl (fun _ => 0))), (r29, .inl (cZ, 3256, .inl (fun _ => 0))), (r30, .inl (cZ, 3256, .inl (fun _ => 0))), (r31, .inl (cI, 16, .inl (fun _ => 0)))]) hP hD [13] [0, 1, 2, 3, 4, 5, 6, 7, 8, 9, 10, 11, 12] rfl rfl (by decide) (by decide) hk1 hFc hP1 hD1
  clear hP1 hD1 hPc hDc hFc hk1 hK1 hvm hz1 hw ht
  generalize H1 = H at hP hS ⊢
  have hP : va_P D vwCl [(q0, .inr (0, [.ref q1, .ref q11, .int 0, .int 0, .int 65535, .int 0])), (q1, .inr (1, [.ref q2, .ref q3, .ref q4, .ref q5, .ref q6, .ref q7, .ref q8, .ref q9, .ref q10, .int 0, .int 0, .int 1, .int 0, .int 0, .int 0])), (q2, .inl (cI, 120, .inl (fun _ => 0))), (q3, .inl (cI, 120, .inl (fun _ => 0))), (q4, .inl (cI, 120, .inl (fun _ => 0))), (q5, .inl (cI, 120, .inl (fun _ => 0))), (q6, .inl (cI, 120, .inl (fun _ => 0))), (q7, .inl (cI, 120, .inl (fun _ => 0))), (q8, .inl (cI, 120, .inl (fun _ => 0))), (q9, .inl (cI, 24, .inl (fun _ => 0))), (q10, .inl (cI, 24, .inl (fun _ => 0))), (q11, .inr (2, [.ref q1, .ref q12, .int 0, .int 0, .int 0, .int 0, .int 0, .int 0, .long 0])), (q12, .inl (cI, 360, .inl (fun _ => 0))), (q13, .inr (3, [.int 0, .int 0, .int 0, .int 0, .int 1, .ref r14, .ref r15, .ref r16, .ref r17, .ref r18, .ref r19, .ref r20, .ref r21, .ref r22, .ref r23, .ref r24, .int 0, .int 0, .int 0, .int 0, .ref r25, .ref r26, .ref r27, .ref r28, .ref r29, .ref r30, .ref r31, .int 0, .int 0])), (r14, .inl (cI, 120, .inl (fun _ => 0))), (r15, .inl (cI, 120, .inl (fun _ => 0))), (r16, .inl (cI, 120, .inl (fun _ => 0))), (r17, .inl (cI, 120, .inl (fun _ => 0))), (r18, .inl (cI, 120, .inl (fun _ => 0))), (r19, .inl (cI, 120, .inl (fun _ => 0))), (r20, .inl (cI, 120, .inl (fun _ => 0))), (r21, .inl (cI, 120, .inl (fun _ => 0))), (r22, .inl (cI, 120, .inl (fun _ => 0))), (r23, .inl (cI, 25, .inl (fun _ => 0))), (r24, .inl (cI, 25, .inl (fun _ => 0))), (r25, .inl (cZ, 32, .inl (fun _ => 0))), (r26, .inl (cZ, 32, .inl (fun _ => 0))), (r27, .inl (cI, 16, .inl (fun _ => 0))), (r28, .inl (cI, 3256, .inl (fun _ => 0))), (r29, .inl (cZ, 3256, .inl (fun _ => 0))), (r30, .inl (cZ, 3256, .inl (fun _ => 0))), (r31, .inl (cI, 16, .inl (fun _ => 0)))] H := hP
  have hD : va_D (fun q : Nat => s.heap.size ≤ q) [(q0, .inr (0, [.ref q1, .ref q11, .int 0, .int 0, .int 65535, .int 0])), (q1, .inr (1, [.ref q2, .ref q3, .ref q4, .ref q5, .ref q6, .ref q7, .ref q8, .ref q9, .ref q10, .int 0, .int 0, .int 1, .int 0, .int 0, .int 0])), (q2, .inl (cI, 120, .inl (fun _ => 0))), (q3, .inl (cI, 120, .inl (fun _ => 0))), (q4, .inl (cI, 120, .inl (fun _ => 0))), (q5, .inl (cI, 120, .inl (fun _ => 0))), (q6, .inl (cI, 120, .inl (fun _ => 0))), (q7, .inl (cI, 120, .inl (fun _ => 0))), (q8, .inl (cI, 120, .inl (fun _ => 0))), (q9, .inl (cI, 24, .inl (fun _ => 0))), (q10, .inl (cI, 24, .inl (fun _ => 0))), (q11, .inr (2, [.ref q1, .ref q12, .int 0, .int 0, .int 0, .int 0, .int 0, .int 0, .long 0])), (q12, .inl (cI, 360, .inl (fun _ => 0))), (q13, .inr (3, [.int 0, .int 0, .int 0, .int 0, .int 1, .ref r14, .ref r15, .ref r16, .ref r17, .ref r18, .ref r19, .ref r20, .ref r21, .ref r22, .ref r23, .ref r24, .int 0, .int 0, .int 0, .int 0, .ref r25, .ref r26, .ref r27, .ref r28, .ref r29, .ref r30, .ref r31, .int 0, .int 0])), (r14, .inl (cI, 120, .inl (fun _ => 0))), (r15, .inl (cI, 120, .inl (fun _ => 0))), (r16, .inl (cI, 120, .inl (fun _ => 0))), (r17, .inl (cI, 120, .inl (fun _ => 0))), (r18, .inl (cI, 120, .inl (fun _ => 0))), (r19, .inl (cI, 120, .inl (fun _ => 0))), (r20, .inl (cI, 120, .inl (fun _ => 0))), (r21, .inl (cI, 120, .inl (fun _ => 0))), (r22, .inl (cI, 120, .inl (fun _ => 0))), (r23, .inl (cI, 25, .inl (fun _ => 0))), (r24, .inl (cI, 25, .inl (fun _ => 0))), (r25, .inl (cZ, 32, .inl (fun _ => 0))), (r26, .inl (cZ, 32, .inl (fun _ => 0))), (r27, .inl (cI, 16, .inl (fun _ => 0))), (r28, .inl (cI, 3256, .inl (fun _ => 0))), (r29, .inl (cZ, 3256, .inl (fun _ => 0))), (r30, .inl (cZ, 3256, .inl (fun _ => 0))), (r31, .inl (cI, 16, .inl (fun _ => 0)))] := hD
  refine W.widen (k := 32) (n := 12301) (by omega) (by omega) ?_
  refine lv_astore_n (lv' := [(2, .ref q13), (1, .ref q0), (0, .ref b)]) hx hb dL_law_15 rfl hl (by decide) rfl (fun ls hl => ?_)
  refine lv_iconst (v := 1) hx hb dL_law_16 (by decide) ?_
  refine va_newa (atype := .long) (ty := .long) (a0 := (1, .inr (.inl (fun _ => 0)))) hx hb (hts _ (mw wd_868)) rfl hK hP hD hS hA (fun cA => rfl) (by decide) rfl (by decide) (by decide) (by decide) dL_law_17 (fun q32 cA H hK1 hP hD hS => ?_)
  have ec : cA = cJ := va_same 2 (by simp) rfl hK hK1
  rw [ec] at hP hD
  clear hK1 ec
  have hP : va_P D vwCl [(q0, .inr (0, [.ref q1, .ref q11, .int 0, .int 0, .int 65535, .int 0])), (q1, .inr (1, [.ref q2, .ref q3, .ref q4, .ref q5, .ref q6, .ref q7, .ref q8, .ref q9, .ref q10, .int 0, .int 0, .int 1, .int 0, .int 0, .int 0])), (q2, .inl (cI, 120, .inl (fun _ => 0))), (q3, .inl (cI, 120, .inl (fun _ => 0))), (q4, .inl (cI, 120, .inl (fun _ => 0))), (q5, .inl (cI, 120, .inl (fun _ => 0))), (q6, .inl (cI, 120, .inl (fun _ => 0))), (q7, .inl (cI, 120, .inl (fun _ => 0))), (q8, .inl (cI, 120, .inl (fun _ => 0))), (q9, .inl (cI, 24, .inl (fun _ => 0))), (q10, .inl (cI, 24, .inl (fun _ => 0))), (q11, .inr (2, [.ref q1, .ref q12, .int 0, .int 0, .int 0, .int 0, .int 0, .int 0, .long 0])), (q12, .inl (cI, 360, .inl (fun _ => 0))), (q13, .inr (3, [.int 0, .int 0, .int 0, .int 0, .int 1, .ref r14, .ref r15, .ref r16, .ref r17, .ref r18, .ref r19, .ref r20, .ref r21, .ref r22, .ref r23, .ref r24, .int 0, .int 0, .int 0, .int 0, .ref r25, .ref r26, .ref r27, .ref r28, .ref r29, .ref r30, .ref r31, .int 0, .int 0])), (r14, .inl (cI, 120, .inl (fun _ => 0))), (r15, .inl (cI, 120, .inl (fun _ => 0))), (r16, .inl (cI, 120, .inl (fun _ => 0))), (r17, .inl (cI, 120, .inl (fun _ => 0))), (r18, .inl (cI, 120, .inl (fun _ => 0))), (r19, .inl (cI, 120, .inl (fun _ => 0))), (r20, .inl (cI, 120, .inl (fun _ => 0))), (r21, .inl (cI, 120, .inl (fun _ => 0))), (r22, .inl (cI, 120, .inl (fun _ => 0))), (r23, .inl (cI, 25, .inl (fun _ => 0))), (r24, .inl (cI, 25, .inl (fun _ => 0))), (r25, .inl (cZ, 32, .inl (fun _ => 0))), (r26, .inl (cZ, 32, .inl (fun _ => 0))), (r27, .inl (cI, 16, .inl (fun _ => 0))), (r28, .inl (cI, 3256, .inl (fun _ => 0))), (r29, .inl (cZ, 3256, .inl (fun _ => 0))), (r30, .inl (cZ, 3256, .inl (fun _ => 0))), (r31, .inl (cI, 16, .inl (fun _ => 0))), (q32, .inl (cJ, 1, .inr (.inl (fun _ => 0))))] H := hP
  have hD : va_D (fun q : Nat => s.heap.size ≤ q) [(q0, .inr (0, [.ref q1, .ref q11, .int 0, .int 0, .int 65535, .int 0])), (q1, .inr (1, [.ref q2, .ref q3, .ref q4, .ref q5, .ref q6, .ref q7, .ref q8, .ref q9, .ref q10, .int 0, .int 0, .int 1, .int 0, .int 0, .int 0])), (q2, .inl (cI, 120, .inl (fun _ => 0))), (q3, .inl (cI, 120, .inl (fun _ => 0))), (q4, .inl (cI, 120, .inl (fun _ => 0))), (q5, .inl (cI, 120, .inl (fun _ => 0))), (q6, .inl (cI, 120, .inl (fun _ => 0))), (q7, .inl (cI, 120, .inl (fun _ => 0))), (q8, .inl (cI, 120, .inl (fun _ => 0))), (q9, .inl (cI, 24, .inl (fun _ => 0))), (q10, .inl (cI, 24, .inl (fun _ => 0))), (q11, .inr (2, [.ref q1, .ref q12, .int 0, .int 0, .int 0, .int 0, .int 0, .int 0, .long 0])), (q12, .inl (cI, 360, .inl (fun _ => 0))), (q13, .inr (3, [.int 0, .int 0, .int 0, .int 0, .int 1, .ref r14, .ref r15, .ref r16, .ref r17, .ref r18, .ref r19, .ref r20, .ref r21, .ref r22, .ref r23, .ref r24, .int 0, .int 0, .int 0, .int 0, .ref r25, .ref r26, .ref r27, .ref r28, .ref r29, .ref r30, .ref r31, .int 0, .int 0])), (r14, .inl (cI, 120, .inl (fun _ => 0))), (r15, .inl (cI, 120, .inl (fun _ => 0))), (r16, .inl (cI, 120, .inl (fun _ => 0))), (r17, .inl (cI, 120, .inl (fun _ => 0))), (r18, .inl (cI, 120, .inl (fun _ => 0))), (r19, .inl (cI, 120, .inl (fun _ => 0))), (r20, .inl (cI, 120, .inl (fun _ => 0))), (r21, .inl (cI, 120, .inl (fun _ => 0))), (r22, .inl (cI, 120, .inl (fun _ => 0))), (r23, .inl (cI, 25, .inl (fun _ => 0))), (r24, .inl (cI, 25, .inl (fun _ => 0))), (r25, .inl (cZ, 32, .inl (fun _ => 0))), (r26, .inl (cZ, 32, .inl (fun _ => 0))), (r27, .inl (cI, 16, .inl (fun _ => 0))), (r28, .inl (cI, 3256, .inl (fun _ => 0))), (r29, .inl (cZ, 3256, .inl (fun _ => 0))), (r30, .inl (cZ, 3256, .inl (fun _ => 0))), (r31, .inl (cI, 16, .inl (fun _ => 0))), (q32, .inl (cJ, 1, .inr (.inl (fun _ => 0))))] := hD
  refine W.widen (k := 33) (n := 12302) (by omega) (by omega) ?_
  refine lv_astore_n (lv' := [(3, .ref q32), (2, .ref q13), (1, .ref q0), (0, .ref b)]) hx hb dL_law_19 rfl hl (by decide) rfl (fun ls hl => ?_)
  refine lv_iconst (v := 0) hx hb dL_law_20 (by decide) ?_
  refine lv_istore (lv' := [(4, .int 0), (3, .ref q32), (2, .ref q13), (1, .ref q0), (0, .ref b)]) hx hb dL_law_21 hl (by decide) rfl (fun ls hl => ?_)
  have hPf : va_P D vwCl (aw_ws (adB q0 q1 q2 q3 q4 q5 q6 q7 q8 q9 q10 q11 q12 q13 r14 r15 r16 r17 r18 r19 r20 r21 r22 r23 r24 r25 r27 r28 r26 r29 r30 r31 q32) (hC (adB q0 q1 q2 q3 q4 q5 q6 q7 q8 q9 q10 q11 q12 q13 r14 r15 r16 r17 r18 r19 r20 r21 r22 r23 r24 r25 r27 r28 r26 r29 r30 r31 q32) cI S00 P00 X00 ++ (hM (adB q0 q1 q2 q3 q4 q5 q6 q7 q8 q9 q10 q11 q12 q13 r14 r15 r16 r17 r18 r19 r20 r21 r22 r23 r24 r25 r27 r28 r26 r29 r30 r31 q32) cI cZ 0 M00 Y00 V00 ++ hQ cJ (fun _ => 0)))) H := by
    rw [begin_ws]
    exact hP.sub [0, 1, 2, 3, 4, 5, 6, 7, 8, 9, 10, 11, 12, 13, 14, 15, 16, 17, 18, 19, 20, 21, 22, 23, 24, 25, 27, 28, 26, 29, 30, 31, 32] rfl
  have hDf : va_D (fun q : Nat => s.heap.size ≤ q) (aw_ws (adB q0 q1 q2 q3 q4 q5 q6 q7 q8 q9 q10 q11 q12 q13 r14 r15 r16 r17 r18 r19 r20 r21 r22 r23 r24 r25 r27 r28 r26 r29 r30 r31 q32) (hC (adB q0 q1 q2 q3 q4 q5 q6 q7 q8 q9 q10 q11 q12 q13 r14 r15 r16 r17 r18 r19 r20 r21 r22 r23 r24 r25 r27 r28 r26 r29 r30 r31 q32) cI S00 P00 X00 ++ (hM (adB q0 q1 q2 q3 q4 q5 q6 q7 q8 q9 q10 q11 q12 q13 r14 r15 r16 r17 r18 r19 r20 r21 r22 r23 r24 r25 r27 r28 r26 r29 r30 r31 q32) cI cZ 0 M00 Y00 V00 ++ hQ cJ (fun _ => 0)))) := by
    rw [begin_ws]
    exact hD.sub [0, 1, 2, 3, 4, 5, 6, 7, 8, 9, 10, 11, 12, 13, 14, 15, 16, 17, 18, 19, 20, 21, 22, 23, 24, 25, 27, 28, 26, 29, 30, 31, 32] (by decide) rfl
  clear hP hD
  have F : aw_F p s m c #[Value.ref b] cL_law 7 (Cond.initialized "ReactionDeskLaw" :: aw_big) yL_law.cls D vwCl [(cI, .int), (cZ, .boolean), (cJ, .long)] := ⟨⟨hx, hb, hml, hown, hts⟩, hK⟩
  have hLL : aw_L ls 7 [some (.ref b), some (.ref ((adB q0 q1 q2 q3 q4 q5 q6 q7 q8 q9 q10 q11 q12 q13 r14 r15 r16 r17 r18 r19 r20 r21 r22 r23 r24 r25 r27 r28 r26 r29 r30 r31 q32) 0)), some (.ref ((adB q0 q1 q2 q3 q4 q5 q6 q7 q8 q9 q10 q11 q12 q13 r14 r15 r16 r17 r18 r19 r20 r21 r22 r23 r24 r25 r27 r28 r26 r29 r30 r31 q32) 13)), some (.ref ((adB q0 q1 q2 q3 q4 q5 q6 q7 q8 q9 q10 q11 q12 q13 r14 r15 r16 r17 r18 r19 r20 r21 r22 r23 r24 r25 r27 r28 r26 r29 r30 r31 q32) 32)), some (.int 0), none, none] := ⟨hl.1, hl.2.1, fun i v h => by match i, h with | 0, h => cases h; exact hl.2.2 (0, _) (by simp) | 1, h => cases h; exact hl.2.2 (1, _) (by simp [adB]) | 2, h => cases h; exact hl.2.2 (2, _) (by simp [adB]) | 3, h => cases h; exact hl.2.2 (3, _) (by simp [adB]) | 4, h => cases h; exact hl.2.2 (4, _) (by simp) | 5, h => cases h | 6, h => cases h | _ + 7, h => cases h⟩
  generalize (adB q0 q1 q2 q3 q4 q5 q6 q7 q8 q9 q10 q11 q12 q13 r14 r15 r16 r17 r18 r19 r20 r21 r22 r23 r24 r25 r27 r28 r26 r29 r30 r31 q32) = ad at hPf hDf hLL
  have key := lw_loop (e := e) (below := below) (meth := meth) (D := D) (A := fun q => s.heap.size ≤ q) (ad := ad) (tP := tP) (Q := lw_Z below #[Value.ref b] s) hR hl0 F Zs hX hbl (Nat.not_le.mpr hbl) hL (fun cells slots S P X T M Y V O ii hc1 hs1 => lw_end hx hb hr hlocks hc1 hs1) 512 33 12302 S00 P00 X00 0 M00 Y00 V00 (fun _ => 0) 0 h00 (by decide) (by decide) (by have h0i : (0 : Int32).toInt = 0 := rfl; omega) (by decide) (by decide)
  exact key H locs ls hPf hDf hS hLL
