/-! THE LAW'S WORLD: the class's cells, the reference's, the array 'out' -/
abbrev oT : Type := Nat → Int64
def hQ (cJ : ClassId) (O : Nat → Int64) : List va_E := [.inl (cJ, 1, .inr (.inl O))]
theorem hQ_at32 {ad : Nat → Nat} {cI cZ cJ : ClassId} {S : kT} {P : pT} {X : xT} {T : Int32} {M : mT} {Y : yT} {V : vT} {O : Nat → Int64} : (hC ad cI S P X ++ (hM ad cI cZ T M Y V ++ hQ cJ O))[32]? = some (.inl (cJ, 1, .inr (.inl O))) := rfl
theorem hQ_st32 {ad : Nat → Nat} {cI cZ cJ : ClassId} {S : kT} {P : pT} {X : xT} {T : Int32} {M : mT} {Y : yT} {V : vT} {O : Nat → Int64} {i : Nat} {v : Int64} : (hC ad cI S P X ++ (hM ad cI cZ T M Y V ++ hQ cJ O)).set 32 (.inl (cJ, 1, .inr (.inl (vp_updL O i v)))) = hC ad cI S P X ++ (hM ad cI cZ T M Y V ++ hQ cJ (vp_updL O i v)) := rfl
/-- a contract with new cells -/
def aw_N (l : Launch) (y : MethodName) (ws : List Cond) (d mc ms : Nat) (D : va_G) (cl : List vw_C) (tys : List (ClassId × FieldType)) (A : Nat → Prop) (ad : Nat → Nat) (Z : State → Prop) (av : List Value) (hp : List va_E) (r : Option Value) (hp' : List va_E) : Prop :=
  Met l y ws { frames := d, cells := mc, slots := ms, locals := 64 * d } (va_Pc av (aw_B D cl tys A ad Z hp)) (aw_Q D cl A ad r hp') mc ms A
theorem aw_metN {l : Launch} {y : MethodName} {ws ws' : List Cond} {d mc ms : Nat} {D : va_G} {cl : List vw_C} {tys : List (ClassId × FieldType)} {A : Nat → Prop} {ad : Nat → Nat} {Z : State → Prop} {av : List Value} {hp hp' : List va_E} {r : Option Value} (cc : ByteArray) (maxL : Nat) (ret : Option FieldType) {hh : List (Nat × Nat × Nat × Nat)} (L0 : List (Option Value)) (hy : plainName y.cls = true) (hw : ws = Cond.codeWith y cc maxL ret hh :: ws') (hl : (lg_sl av).length ≤ maxL) (hL : aw_ent av maxL = L0)
    (body : ∀ (p : Program) (e : Env) (s : State) (m : MethodId) (args : Array Value) (below : List Frame) (meth : Method) (c : Code), aw_F p s m c args cc maxL ws y.cls D cl tys → Z s → meth.sig.returnType = ret → meth.locks = false → c.exceptionTable.toList = tableOf hh →
      aW p l e { frames := d, cells := mc, slots := ms, locals := 64 * d } s m args below meth c 0 0 (MQ below (aw_Q D cl A ad r hp') args s mc ms A) D cl A ad maxL hp L0 0 []) : aw_N l y ws d mc ms D cl tys A ad Z av hp r hp' := by
  refine va_MetW (cc := cc) (maxL := maxL) (ret := ret) (hh := hh) hy hw ?_
  intro p e s m args below meth c s₁ B hml hv
  obtain ⟨rfl, h1, h2, h3, h4⟩ := hv
  have hts := atoms_spec (ws := ws) B.pre
  have hown : s.vm.findClass y.cls = some m.cls := findClass_of_methodNamed B.named
  have htb : c.exceptionTable.toList = tableOf hh := vx_table (x := y) B (hts _ (by rw [hw]; exact List.mem_cons_self))
  rw [lg_entry_eq]
  exact body p e s m av.toArray below meth c ⟨⟨B.exec, B.bytes, hml, hown, hts⟩, h3⟩ h4 B.returns B.notSynchronized htb s.heap [] _ h1 h2 va_S.rf (hL ▸ aw_entry av hl)
theorem aw_metW {l : Launch} {y : MethodName} {ws ws' : List Cond} {d : Nat} {D : va_G} {cl : List vw_C} {tys : List (ClassId × FieldType)} {A : Nat → Prop} {ad : Nat → Nat} {Z : State → Prop} {av : List Value} {hp hp' : List va_E} {r : Option Value} (cc : ByteArray) (maxL : Nat) (ret : Option FieldType) {hh : List (Nat × Nat × Nat × Nat)} (L0 : List (Option Value)) (hy : plainName y.cls = true) (hw : ws = Cond.codeWith y cc maxL ret hh :: ws') (hl : (lg_sl av).length ≤ maxL) (hL : aw_ent av maxL = L0)
    (body : ∀ (p : Program) (e : Env) (s : State) (m : MethodId) (args : Array Value) (below : List Frame) (meth : Method) (c : Code), aw_F p s m c args cc maxL ws y.cls D cl tys → Z s → meth.sig.returnType = ret → meth.locks = false → c.exceptionTable.toList = tableOf hh →
      aW p l e (aw_rm d) s m args below meth c 0 0 (MQ below (aw_Q D cl A ad r hp') args s 0 0 A) D cl A ad maxL hp L0 0 []) : aw_M l y ws d D cl tys A ad Z av hp r hp' := aw_metN cc maxL ret L0 hy hw hl hL body
section AWX
variable {p : Program} {l : Launch} {e : Env} {R : Room} {s : State} {m : MethodId} {args : Array Value} {below : List Frame} {meth : Method} {c : Code} {cells slots : Nat} {Q : State → Prop} {D : va_G} {cl : List vw_C} {A : Nat → Prop} {ad : Nat → Nat} {nL : Nat} {hp hp' : List va_E} {L L' : List (Option Value)} {pc : Nat} {st : List Value} {cc : ByteArray} {Ts : List Cond} {own : String} {tys : List (ClassId × FieldType)}
/-- a call that throws E, caught by a row of this method's table -/
theorem aw_goX {tP : Nat} {y : MethodName} {bytes : ByteArray} {maxL n index d : Nat} {ret : Option FieldType} {ws : List Cond} {As rest st0 : List Value} {E name : String} {ci : Nat} {fs : List Value} {C : String} {Tc : u_T} {N : Nat} (F : aw_F p s m c args cc nL Ts own D cl tys) (Zs : zC A tP s) (k0 : Nat) (he : hp[k0]? = some (.inr (ci, fs))) (hc : cl[ci]? = some (C, Tc, N)) (hM : aw_X l y ws d D cl tys A ad (zC A tP) (.ref (ad k0) :: As) hp E) (cw : CallW R s args own C index y bytes maxL ret ws (aw_rx d) 1 6 n) (hn : As.length = n) (hw : (rest.map fun v => v.category).sum ≤ 8) (hcs : cells + 1 ≤ R.cells ∧ slots + 6 ≤ R.slots) (hs0 : st0 = As.reverse ++ .ref (ad k0) :: rest) (hd : decode cc pc = .ok (.invokevirtual index, 3))
    (pre : List ExceptionTableEntry) (x : ExceptionTableEntry) (suf : List ExceptionTableEntry) (hsplit : c.exceptionTable.toList = pre ++ x :: suf)
    (hpass : ∀ z ∈ pre, covers z pc = false ∨ (z.catchType ≠ 0 ∧ ∃ nm : String, (Cond.classLink own z.catchType nm).before args s = true ∧ va_Nc E nm s)) (hx : covers x pc = true) (h0 : x.catchType ≠ 0)
    (hlink : (Cond.classLink own x.catchType name).before args s = true) (hcast : (Cond.castable E name).before args s = true)
    (k : ∀ q : Nat, aW p l e R s m args below meth c (cells + 1) (slots + 6) Q D cl A ad nL hp L x.handlerPc [.ref q]) : aW p l e R s m args below meth c cells slots Q D cl A ad nL hp L pc st0 := by
  intro H locs ls h1 h2 h3 h4 T hT X
  rcases (vx_runV (As := As) (rest := rest) F.1 hM cw ⟨aw_blind zC_ok, va_recv F.2 h1 hc (aw_ws_at he), aw_pre F zC_ok Zs h1 h2 h3⟩ rfl hn h4.1 hs0 (lv_room hw) hd hcs) T hT X with ⟨v, st₀, t, T', L9, h0', X', hL, e1, e2, hq, go⟩ | ⟨q, st₀, t, T', L9, E', ce, h0', X', hL, e1, e2, ⟨hE, hP1, hD1, hF⟩, hce, hcv, hcl, go⟩
  · exact hq.elim
  · subst hE
    obtain ⟨k1, k2, k3⟩ := vx_keep h0' e1 h3 (fun q _ h => h) (fun q h => h) hL hF
    obtain ⟨t2, a1, b1⟩ := vx_catch (pc := pc) (ls := ls) (rest := rest) (name := name) F.1.2.2.2.1 pre x suf hsplit hpass hx h0 hlink hcast (by rw [e1]; exact hce) hcv hcl (k q T'.heap (locs ++ L9) ls (by rw [e1]; exact hP1) hD1 k3 h4) T' rfl X'
    exact ⟨t2, go.trans a1, b1⟩
/-- a call of a static method with a table, that makes new cells -/
theorem aw_ranN {mc ms : Nat} {H : Heap} {locs : List Loc} {ls : Array Slot} {st0 rest : List Value} {r : Option Value} {a : Array Value} (hr : va_Run p l e R s m args below meth c H locs cells slots mc ms (F0 m pc ls st0) rest (aw_Q D cl A ad r hp' a) A) (h3 : va_S A s.heap H locs) (h4 : aw_L ls nL L)
    (k : aW p l e R s m args below meth c (cells + mc) (slots + ms) Q D cl A ad nL hp' L (pc + 3) (r.toList ++ rest)) : W p l e R s m args below meth c H locs cells slots Q (F0 m pc ls st0) := by
  intro T hT X
  obtain ⟨v, st₀, t, T', L9, h0, X', hL, e1, e2, ⟨⟨hv, hP1, hD1⟩, hz, hk⟩, go⟩ := hr T hT X
  cases hv
  rw [h0] at hz hk
  obtain ⟨t2, a1, b1⟩ := k T'.heap (locs ++ L9) ls (by rw [e1]; exact hP1) hD1 ⟨Nat.le_trans h3.1 (by rw [e1]; exact hz), fun q q1 q2 => by rw [e1, hk q (Nat.lt_of_lt_of_le q1 h3.1) q2]; exact h3.2.1 q q1 q2, fun q hq => (List.mem_append.mp hq).elim (h3.2.2 q) (hL q)⟩ h4 T' rfl X'
  exact ⟨t2, go _ a1, b1⟩
theorem aw_goSW {Z : State → Prop} {y : MethodName} {bytes : ByteArray} {maxL n index d mc ms : Nat} {ret : Option FieldType} {hh : List (Nat × Nat × Nat × Nat)} {ws : List Cond} {As rest st0 : List Value} {r : Option Value} (F : aw_F p s m c args cc nL Ts own D cl tys) (hZ : aw_Zok A Z) (Zs : Z s) (hM : aw_N l y ws d mc ms D cl tys A ad Z As hp r hp') (cw : vx_CSW R s args own index y bytes maxL ret hh ws { frames := d, cells := mc, slots := ms, locals := 64 * d } mc ms n) (hn : As.length = n) (hw : (rest.map fun v => v.category).sum ≤ 8) (hcs : cells + mc ≤ R.cells ∧ slots + ms ≤ R.slots) (hs0 : st0 = As.reverse ++ rest) (hd : decode cc pc = .ok (.invokestatic index, 3)) (k : aW p l e R s m args below meth c (cells + mc) (slots + ms) Q D cl A ad nL hp' L (pc + 3) (r.toList ++ rest)) : aW p l e R s m args below meth c cells slots Q D cl A ad nL hp L pc st0 := by
  intro H locs ls h1 h2 h3 h4
  exact aw_ranN (vx_runSW (As := As) (rest := rest) F.1 hM cw ⟨aw_blind hZ, aw_pre F hZ Zs h1 h2 h3⟩ rfl hn h4.1 hs0 (lv_room hw) hd hcs) h3 h4 k
theorem aw_widen {k n : Nat} (h1 : cells ≤ k) (h2 : slots ≤ n) (kk : aW p l e R s m args below meth c k n Q D cl A ad nL hp L pc st) : aW p l e R s m args below meth c cells slots Q D cl A ad nL hp L pc st := fun H locs ls a b c' d => W.widen h1 h2 (kk H locs ls a b c' d)
theorem aw_sld {b N : Nat} {xs : Nat → Int32} {i : Int32} (F : aw_F p s m c args cc nL Ts own D cl tys) (hX : va_X b N xs s s.heap) (hbl : b < s.heap.size) (hbA : ¬ A b) (hin : vp_in i N) (hd : decode cc pc = .ok (.iaload, 1)) (k : aW p l e R s m args below meth c cells slots Q D cl A ad nL hp L (pc + 1) (.int (xs i.toNatClampNeg) :: st)) : aW p l e R s m args below meth c cells slots Q D cl A ad nL hp L pc (.int i :: .ref b :: st) :=
  fun H locs ls h1 h2 h3 h4 => va_sld F.1.1 F.1.2.1 hX hbl hbA h3 hin hd (k H locs ls h1 h2 h3 h4)
theorem aw_slen {b N : Nat} {xs : Nat → Int32} (F : aw_F p s m c args cc nL Ts own D cl tys) (hX : va_X b N xs s s.heap) (hbl : b < s.heap.size) (hbA : ¬ A b) (hd : decode cc pc = .ok (.arraylength, 1)) (k : aW p l e R s m args below meth c cells slots Q D cl A ad nL hp L (pc + 1) (.int (Int32.ofNat N) :: st)) : aW p l e R s m args below meth c cells slots Q D cl A ad nL hp L pc (.ref b :: st) :=
  fun H locs ls h1 h2 h3 h4 => va_slen F.1.1 F.1.2.1 hX hbl hbA h3 hd (k H locs ls h1 h2 h3 h4)
end AWX
