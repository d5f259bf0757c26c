/-! ABSTRACT ROWS (aw_): the world is ONE list of cells, hp, at the addresses ad 0, ad 1, ..; locals are a list of options; a row an instruction -/
def aw_ws (ad : Nat → Nat) (hp : List va_E) : va_W := hp.mapIdx (fun i e => (ad i, e))
theorem aw_ws_at {ad : Nat → Nat} {hp : List va_E} {k : Nat} {e : va_E} (h : hp[k]? = some e) : (aw_ws ad hp)[k]? = some (ad k, e) := by
  simp [aw_ws, List.getElem?_mapIdx, h]
theorem aw_ws_set (ad : Nat → Nat) (hp : List va_E) (k : Nat) (e : va_E) : (aw_ws ad hp).set k (ad k, e) = aw_ws ad (hp.set k e) := by
  apply List.ext_getElem?
  intro i
  simp only [aw_ws, List.getElem?_mapIdx, List.getElem?_set, List.length_mapIdx]
  by_cases h : k = i
  · subst h
    by_cases h2 : k < hp.length <;> simp [h2]
  · simp [h]
def aw_L (ls : Array Slot) (nL : Nat) (L : List (Option Value)) : Prop := ls.size = nL ∧ lv_wf ls ∧ ∀ (i : Nat) (v : Value), L[i]? = some (some v) → ls[i]? = some (.val v)
def aw_pr (L : List (Option Value)) : List (Nat × Value) := (List.range L.length).filterMap (fun i => (L[i]?.bind id).map (fun v => (i, v)))
theorem aw_L.has {ls : Array Slot} {nL : Nat} {L : List (Option Value)} (h : aw_L ls nL L) : lv_has ls nL (aw_pr L) := by
  refine ⟨h.1, h.2.1, fun q hq => ?_⟩
  obtain ⟨i, -, hi⟩ := List.mem_filterMap.mp hq
  cases hv : L[i]? with
  | none => rw [hv] at hi; cases hi
  | some o =>
    cases o with
    | none => rw [hv] at hi; cases hi
    | some v =>
      rw [hv] at hi
      cases hi
      exact h.2.2 i v hv
theorem aw_pr_mem {L : List (Option Value)} {i : Nat} {v : Value} (h : L[i]? = some (some v)) : (i, v) ∈ aw_pr L := by
  refine List.mem_filterMap.mpr ⟨i, List.mem_range.mpr (List.getElem?_eq_some_iff.mp h).1, ?_⟩
  rw [h]
  rfl
def aw_c2 (v : Option (Option Value)) : Bool := match v with
  | some (some w) => w.category == 2
  | _ => false
def aw_clr (L : List (Option Value)) (i : Nat) : List (Option Value) := match i with
  | 0 => L
  | j + 1 => if aw_c2 L[j]? = true then L.set j none else L
theorem aw_clr_spec {L : List (Option Value)} {i j : Nat} {w : Value} (h : (aw_clr L i)[j]? = some (some w)) : L[j]? = some (some w) ∧ ¬ (j + 1 = i ∧ w.category = 2) := by
  cases i with
  | zero => exact ⟨h, fun q => absurd q.1 (Nat.succ_ne_zero j)⟩
  | succ k =>
    have h' : (if aw_c2 L[k]? = true then L.set k none else L)[j]? = some (some w) := h
    by_cases hc : aw_c2 L[k]? = true
    · rw [if_pos hc] at h'
      by_cases e : k = j
      · subst e
        rw [List.getElem?_set] at h'
        simp at h'
      · rw [List.getElem?_set_ne e] at h'
        exact ⟨h', fun q => e (by omega)⟩
    · rw [if_neg hc] at h'
      refine ⟨h', fun q => hc ?_⟩
      have e : j = k := by omega
      subst e
      rw [h']
      show (w.category == 2) = true
      rw [q.2]
      rfl
def aw_st1 (L : List (Option Value)) (i : Nat) (v : Value) : List (Option Value) := (aw_clr L i).set i (some v)
def aw_st2 (L : List (Option Value)) (i : Nat) (v : Value) : List (Option Value) := ((aw_clr L i).set i (some v)).set (i + 1) none
theorem aw_L.st1 {ls' : Array Slot} {nL : Nat} {L : List (Option Value)} {i : Nat} {v : Value} (h' : lv_has ls' nL ((i, v) :: (aw_pr L).filter (fun q => !(q.1 == i) && !(q.1 + 1 == i && q.2.category == 2)))) : aw_L ls' nL (aw_st1 L i v) := by
  refine ⟨h'.1, h'.2.1, fun j w hj => ?_⟩
  by_cases e : j = i
  · subst e
    have hj2 : ((aw_clr L j).set j (some v))[j]? = some (some w) := hj
    rw [List.getElem?_set] at hj2
    by_cases q : j < (aw_clr L j).length
    · simp [q] at hj2
      subst hj2
      exact h'.2.2 (j, v) List.mem_cons_self
    · simp [q] at hj2
  · have hj2 : ((aw_clr L i).set i (some v))[j]? = some (some w) := hj
    rw [List.getElem?_set_ne (fun q => e q.symm)] at hj2
    obtain ⟨h1, h2⟩ := aw_clr_spec hj2
    refine h'.2.2 (j, w) (List.mem_cons_of_mem _ (List.mem_filter.mpr ⟨aw_pr_mem h1, ?_⟩))
    simp only [Bool.and_eq_true, Bool.not_eq_true', beq_eq_false_iff_ne, ne_eq, Bool.and_eq_false_iff]
    refine ⟨e, ?_⟩
    by_cases a : j + 1 = i
    · exact Or.inr (fun b => h2 ⟨a, b⟩)
    · exact Or.inl a
theorem aw_L.st2 {ls' : Array Slot} {nL : Nat} {L : List (Option Value)} {i : Nat} {v : Value} (h' : lv_has ls' nL ((i, v) :: (aw_pr L).filter (fun q => !(q.1 == i) && (!(q.1 == i + 1) && !(q.1 + 1 == i && q.2.category == 2))))) : aw_L ls' nL (aw_st2 L i v) := by
  refine ⟨h'.1, h'.2.1, fun j w hj => ?_⟩
  have hj1 : (((aw_clr L i).set i (some v)).set (i + 1) none)[j]? = some (some w) := hj
  by_cases f : j = i + 1
  · subst f
    rw [List.getElem?_set] at hj1
    simp at hj1
  · rw [List.getElem?_set_ne (fun q => f q.symm)] at hj1
    by_cases e : j = i
    · subst e
      rw [List.getElem?_set] at hj1
      by_cases q : j < (aw_clr L j).length
      · simp [q] at hj1
        subst hj1
        exact h'.2.2 (j, v) List.mem_cons_self
      · simp [q] at hj1
    · rw [List.getElem?_set_ne (fun q => e q.symm)] at hj1
      obtain ⟨h1, h2⟩ := aw_clr_spec hj1
      refine h'.2.2 (j, w) (List.mem_cons_of_mem _ (List.mem_filter.mpr ⟨aw_pr_mem h1, ?_⟩))
      simp only [Bool.and_eq_true, Bool.not_eq_true', beq_eq_false_iff_ne, ne_eq, Bool.and_eq_false_iff]
      refine ⟨e, f, ?_⟩
      by_cases a : j + 1 = i
      · exact Or.inr (fun b => h2 ⟨a, b⟩)
      · exact Or.inl a
def aw_sl (av : List Value) : List (Option Value) := av.flatMap (fun v => if v.category = 2 then [some v, none] else [some v])
def aw_ent (av : List Value) (n : Nat) : List (Option Value) := aw_sl av ++ List.replicate (n - (lg_sl av).length) none
theorem aw_sl_mem (av : List Value) : ∀ (k i : Nat) (v : Value), (aw_sl av)[i]? = some (some v) → (k + i, v) ∈ lv_args k av := by
  induction av with
  | nil => intro k i v h; simp [aw_sl] at h
  | cons a t ih =>
    intro k i v h
    have e : aw_sl (a :: t) = (if a.category = 2 then [some a, none] else [some a]) ++ aw_sl t := by simp [aw_sl]
    rw [e] at h
    show (k + i, v) ∈ (k, a) :: lv_args (if a.category = 2 then k + 2 else k + 1) t
    by_cases c : a.category = 2
    · rw [if_pos c] at h ⊢
      match i, h with
      | 0, h => simp at h; subst h; exact List.mem_cons_self
      | 1, h => simp at h
      | i + 2, h =>
        have h2 : (aw_sl t)[i]? = some (some v) := by simpa using h
        have := ih (k + 2) i v h2
        rw [show k + (i + 2) = k + 2 + i by omega]
        exact List.mem_cons_of_mem _ this
    · rw [if_neg c] at h ⊢
      match i, h with
      | 0, h => simp at h; subst h; exact List.mem_cons_self
      | i + 1, h =>
        have h2 : (aw_sl t)[i]? = some (some v) := by simpa using h
        have := ih (k + 1) i v h2
        rw [show k + (i + 1) = k + 1 + i by omega]
        exact List.mem_cons_of_mem _ this
theorem aw_entry (av : List Value) {n : Nat} (h : (lg_sl av).length ≤ n) : aw_L ((lg_sl av ++ List.replicate (n - (lg_sl av).length) Slot.unset).toArray) n (aw_ent av n) := by
  obtain ⟨h1, h2, h3⟩ := lv_entry av h
  refine ⟨h1, h2, fun i v hi => ?_⟩
  have hi2 : (aw_sl av)[i]? = some (some v) := by
    by_cases q : i < (aw_sl av).length
    · rw [aw_ent, List.getElem?_append_left q] at hi
      exact hi
    · rw [aw_ent, List.getElem?_append_right (Nat.not_lt.mp q), List.getElem?_replicate] at hi
      split at hi <;> simp at hi
  have h4 := aw_sl_mem av 0 i v hi2
  rw [Nat.zero_add] at h4
  exact h3 (i, v) h4

abbrev aw_F (p : Program) (s : State) (m : MethodId) (c : Code) (args : Array Value) (cc : ByteArray) (nL : Nat) (Ts : List Cond) (own : String) (D : va_G) (cl : List vw_C) (tys : List (ClassId × FieldType)) : Prop := CallFix p m c cc nL s args Ts own ∧ va_K D cl tys s
def aW (p : Program) (l : Launch) (e : Env) (R : Room) (s : State) (m : MethodId) (args : Array Value) (below : List Frame) (meth : Method) (c : Code) (cells slots : Nat) (Q : State → Prop) (D : va_G) (cl : List vw_C) (A : Nat → Prop) (ad : Nat → Nat) (nL : Nat) (hp : List va_E) (L : List (Option Value)) (pc : Nat) (st : List Value) : Prop :=
  ∀ (H : Heap) (locs : List Loc) (ls : Array Slot), va_P D cl (aw_ws ad hp) H → va_D A (aw_ws ad hp) → va_S A s.heap H locs → aw_L ls nL L → W p l e R s m args below meth c H locs cells slots Q (F0 m pc ls st)
section AWR
variable {p : Program} {l : Launch} {e : Env} {R : Room} {s : State} {m : MethodId} {args : Array Value} {below : List Frame} {meth : Method} {c : Code} {cells slots : Nat} {Q : State → Prop} {D : va_G} {cl : List vw_C} {A : Nat → Prop} {ad : Nat → Nat} {nL : Nat} {hp hp' : List va_E} {L L' : List (Option Value)} {pc : Nat} {st : List Value} {cc : ByteArray} {Ts : List Cond} {own : String} {tys : List (ClassId × FieldType)}
theorem aw_iconst {n : Int} {v : Int32} (F : aw_F p s m c args cc nL Ts own D cl tys) (hd : decode cc pc = .ok (.iconst n, 1)) (hv : Int32.ofInt n = v) (k : aW p l e R s m args below meth c cells slots Q D cl A ad nL hp L (pc + 1) (.int v :: st)) : aW p l e R s m args below meth c cells slots Q D cl A ad nL hp L (pc) (st) :=
  fun H locs ls h1 h2 h3 h4 => lv_iconst F.1.1 F.1.2.1 hd hv (k H locs ls h1 h2 h3 h4)
theorem aw_bipush {n : Int} {v : Int32} (F : aw_F p s m c args cc nL Ts own D cl tys) (hd : decode cc pc = .ok (.bipush n, 2)) (hv : (Int8.ofInt n).toInt32 = v) (k : aW p l e R s m args below meth c cells slots Q D cl A ad nL hp L (pc + 2) (.int v :: st)) : aW p l e R s m args below meth c cells slots Q D cl A ad nL hp L (pc) (st) :=
  fun H locs ls h1 h2 h3 h4 => lv_bipush F.1.1 F.1.2.1 hd hv (k H locs ls h1 h2 h3 h4)
theorem aw_sipush {n : Int} {v : Int32} (F : aw_F p s m c args cc nL Ts own D cl tys) (hd : decode cc pc = .ok (.sipush n, 3)) (hv : (Int16.ofInt n).toInt32 = v) (k : aW p l e R s m args below meth c cells slots Q D cl A ad nL hp L (pc + 3) (.int v :: st)) : aW p l e R s m args below meth c cells slots Q D cl A ad nL hp L (pc) (st) :=
  fun H locs ls h1 h2 h3 h4 => lv_sipush F.1.1 F.1.2.1 hd hv (k H locs ls h1 h2 h3 h4)
theorem aw_lconst {n : Fin 2} {v : Int64} (F : aw_F p s m c args cc nL Ts own D cl tys) (hd : decode cc pc = .ok (.lconst n, 1)) (hv : Int64.ofNat (n : Nat) = v) (k : aW p l e R s m args below meth c cells slots Q D cl A ad nL hp L (pc + 1) (.long v :: st)) : aW p l e R s m args below meth c cells slots Q D cl A ad nL hp L (pc) (st) :=
  fun H locs ls h1 h2 h3 h4 => lv_lconst F.1.1 F.1.2.1 hd hv (k H locs ls h1 h2 h3 h4)
theorem aw_iload_n {kf : Fin 4} {i : Nat} {x : Int32} (F : aw_F p s m c args cc nL Ts own D cl tys) (hd : decode cc pc = .ok (.iload_n kf, 1)) (hi : (kf : Nat) = i) (hL : L[i]? = some (some (.int x))) (k : aW p l e R s m args below meth c cells slots Q D cl A ad nL hp L (pc + 1) (.int x :: st)) : aW p l e R s m args below meth c cells slots Q D cl A ad nL hp L (pc) (st) :=
  fun H locs ls h1 h2 h3 h4 => lv_iload_n F.1.1 F.1.2.1 hd hi (h4.2.2 i _ hL) (k H locs ls h1 h2 h3 h4)
theorem aw_iload {i : Nat} {x : Int32} (F : aw_F p s m c args cc nL Ts own D cl tys) (hd : decode cc pc = .ok (.iload i, 2)) (hL : L[i]? = some (some (.int x))) (k : aW p l e R s m args below meth c cells slots Q D cl A ad nL hp L (pc + 2) (.int x :: st)) : aW p l e R s m args below meth c cells slots Q D cl A ad nL hp L (pc) (st) :=
  fun H locs ls h1 h2 h3 h4 => lv_iload F.1.1 F.1.2.1 hd (h4.2.2 i _ hL) (k H locs ls h1 h2 h3 h4)
theorem aw_istore_n {kf : Fin 4} {i : Nat} {x : Int32} (F : aw_F p s m c args cc nL Ts own D cl tys) (hd : decode cc pc = .ok (.istore_n kf, 1)) (hi : (kf : Nat) = i) (hn : i < nL) (hL : aw_st1 L i (.int x) = L') (k : aW p l e R s m args below meth c cells slots Q D cl A ad nL hp L' (pc + 1) (st)) : aW p l e R s m args below meth c cells slots Q D cl A ad nL hp L (pc) (.int x :: st) :=
  fun H locs ls h1 h2 h3 h4 => lv_istore_n F.1.1 F.1.2.1 hd hi h4.has hn rfl (fun ls' h' => k H locs ls' h1 h2 h3 (hL ▸ aw_L.st1 h'))
theorem aw_istore {i : Nat} {x : Int32} (F : aw_F p s m c args cc nL Ts own D cl tys) (hd : decode cc pc = .ok (.istore i, 2))  (hn : i < nL) (hL : aw_st1 L i (.int x) = L') (k : aW p l e R s m args below meth c cells slots Q D cl A ad nL hp L' (pc + 2) (st)) : aW p l e R s m args below meth c cells slots Q D cl A ad nL hp L (pc) (.int x :: st) :=
  fun H locs ls h1 h2 h3 h4 => lv_istore F.1.1 F.1.2.1 hd h4.has hn rfl (fun ls' h' => k H locs ls' h1 h2 h3 (hL ▸ aw_L.st1 h'))
theorem aw_lload_n {kf : Fin 4} {i : Nat} {x : Int64} (F : aw_F p s m c args cc nL Ts own D cl tys) (hd : decode cc pc = .ok (.lload_n kf, 1)) (hi : (kf : Nat) = i) (hL : L[i]? = some (some (.long x))) (k : aW p l e R s m args below meth c cells slots Q D cl A ad nL hp L (pc + 1) (.long x :: st)) : aW p l e R s m args below meth c cells slots Q D cl A ad nL hp L (pc) (st) :=
  fun H locs ls h1 h2 h3 h4 => lv_lload_n F.1.1 F.1.2.1 hd hi (h4.2.2 i _ hL) (k H locs ls h1 h2 h3 h4)
theorem aw_lload {i : Nat} {x : Int64} (F : aw_F p s m c args cc nL Ts own D cl tys) (hd : decode cc pc = .ok (.lload i, 2)) (hL : L[i]? = some (some (.long x))) (k : aW p l e R s m args below meth c cells slots Q D cl A ad nL hp L (pc + 2) (.long x :: st)) : aW p l e R s m args below meth c cells slots Q D cl A ad nL hp L (pc) (st) :=
  fun H locs ls h1 h2 h3 h4 => lv_lload F.1.1 F.1.2.1 hd (h4.2.2 i _ hL) (k H locs ls h1 h2 h3 h4)
theorem aw_lstore_n {kf : Fin 4} {i : Nat} {x : Int64} (F : aw_F p s m c args cc nL Ts own D cl tys) (hd : decode cc pc = .ok (.lstore_n kf, 1)) (hi : (kf : Nat) = i) (hn : i + 1 < nL) (hL : aw_st2 L i (.long x) = L') (k : aW p l e R s m args below meth c cells slots Q D cl A ad nL hp L' (pc + 1) (st)) : aW p l e R s m args below meth c cells slots Q D cl A ad nL hp L (pc) (.long x :: st) :=
  fun H locs ls h1 h2 h3 h4 => lv_lstore_n F.1.1 F.1.2.1 hd hi h4.has hn rfl (fun ls' h' => k H locs ls' h1 h2 h3 (hL ▸ aw_L.st2 h'))
theorem aw_lstore {i : Nat} {x : Int64} (F : aw_F p s m c args cc nL Ts own D cl tys) (hd : decode cc pc = .ok (.lstore i, 2))  (hn : i + 1 < nL) (hL : aw_st2 L i (.long x) = L') (k : aW p l e R s m args below meth c cells slots Q D cl A ad nL hp L' (pc + 2) (st)) : aW p l e R s m args below meth c cells slots Q D cl A ad nL hp L (pc) (.long x :: st) :=
  fun H locs ls h1 h2 h3 h4 => lv_lstore F.1.1 F.1.2.1 hd h4.has hn rfl (fun ls' h' => k H locs ls' h1 h2 h3 (hL ▸ aw_L.st2 h'))
theorem aw_aload_n {kf : Fin 4} {i : Nat} {x : Nat} (F : aw_F p s m c args cc nL Ts own D cl tys) (hd : decode cc pc = .ok (.aload_n kf, 1)) (hi : (kf : Nat) = i) (hL : L[i]? = some (some (.ref x))) (k : aW p l e R s m args below meth c cells slots Q D cl A ad nL hp L (pc + 1) (.ref x :: st)) : aW p l e R s m args below meth c cells slots Q D cl A ad nL hp L (pc) (st) :=
  fun H locs ls h1 h2 h3 h4 => lv_aload_n F.1.1 F.1.2.1 hd hi (h4.2.2 i _ hL) (k H locs ls h1 h2 h3 h4)
theorem aw_aload {i : Nat} {x : Nat} (F : aw_F p s m c args cc nL Ts own D cl tys) (hd : decode cc pc = .ok (.aload i, 2)) (hL : L[i]? = some (some (.ref x))) (k : aW p l e R s m args below meth c cells slots Q D cl A ad nL hp L (pc + 2) (.ref x :: st)) : aW p l e R s m args below meth c cells slots Q D cl A ad nL hp L (pc) (st) :=
  fun H locs ls h1 h2 h3 h4 => lv_aload F.1.1 F.1.2.1 hd (h4.2.2 i _ hL) (k H locs ls h1 h2 h3 h4)
theorem aw_astore_n {kf : Fin 4} {i : Nat} {x : Nat} (F : aw_F p s m c args cc nL Ts own D cl tys) (hd : decode cc pc = .ok (.astore_n kf, 1)) (hi : (kf : Nat) = i) (hn : i < nL) (hL : aw_st1 L i (.ref x) = L') (k : aW p l e R s m args below meth c cells slots Q D cl A ad nL hp L' (pc + 1) (st)) : aW p l e R s m args below meth c cells slots Q D cl A ad nL hp L (pc) (.ref x :: st) :=
  fun H locs ls h1 h2 h3 h4 => lv_astore_n F.1.1 F.1.2.1 hd hi h4.has hn rfl (fun ls' h' => k H locs ls' h1 h2 h3 (hL ▸ aw_L.st1 h'))
theorem aw_astore {i : Nat} {x : Nat} (F : aw_F p s m c args cc nL Ts own D cl tys) (hd : decode cc pc = .ok (.astore i, 2))  (hn : i < nL) (hL : aw_st1 L i (.ref x) = L') (k : aW p l e R s m args below meth c cells slots Q D cl A ad nL hp L' (pc + 2) (st)) : aW p l e R s m args below meth c cells slots Q D cl A ad nL hp L (pc) (.ref x :: st) :=
  fun H locs ls h1 h2 h3 h4 => lv_astore F.1.1 F.1.2.1 hd h4.has hn rfl (fun ls' h' => k H locs ls' h1 h2 h3 (hL ▸ aw_L.st1 h'))
theorem aw_iinc {i : Nat} {n : Int} {x v : Int32} (F : aw_F p s m c args cc nL Ts own D cl tys) (hd : decode cc pc = .ok (.iinc i n, 3)) (hx : L[i]? = some (some (.int x))) (hv : x + Int32.ofInt n = v) (hn : i < nL) (hL : aw_st1 L i (.int v) = L') (k : aW p l e R s m args below meth c cells slots Q D cl A ad nL hp L' (pc + 3) (st)) : aW p l e R s m args below meth c cells slots Q D cl A ad nL hp L (pc) (st) := by
  intro H locs ls h1 h2 h3 h4
  obtain ⟨j, hj⟩ := List.getElem?_of_mem (aw_pr_mem hx)
  exact lv_iinc F.1.1 F.1.2.1 hd h4.has hj hv hn rfl (fun ls' h' => k H locs ls' h1 h2 h3 (hL ▸ aw_L.st1 h'))
theorem aw_iadd {x y : Int32} (F : aw_F p s m c args cc nL Ts own D cl tys) (hd : decode cc pc = .ok (.iadd, 1))  (k : aW p l e R s m args below meth c cells slots Q D cl A ad nL hp L (pc + 1) (.int (x + y) :: st)) : aW p l e R s m args below meth c cells slots Q D cl A ad nL hp L (pc) (.int y :: .int x :: st) :=
  fun H locs ls h1 h2 h3 h4 => lv_iadd F.1.1 F.1.2.1 hd  (k H locs ls h1 h2 h3 h4)
theorem aw_isub {x y : Int32} (F : aw_F p s m c args cc nL Ts own D cl tys) (hd : decode cc pc = .ok (.isub, 1))  (k : aW p l e R s m args below meth c cells slots Q D cl A ad nL hp L (pc + 1) (.int (x - y) :: st)) : aW p l e R s m args below meth c cells slots Q D cl A ad nL hp L (pc) (.int y :: .int x :: st) :=
  fun H locs ls h1 h2 h3 h4 => lv_isub F.1.1 F.1.2.1 hd  (k H locs ls h1 h2 h3 h4)
theorem aw_imul {x y : Int32} (F : aw_F p s m c args cc nL Ts own D cl tys) (hd : decode cc pc = .ok (.imul, 1))  (k : aW p l e R s m args below meth c cells slots Q D cl A ad nL hp L (pc + 1) (.int (x * y) :: st)) : aW p l e R s m args below meth c cells slots Q D cl A ad nL hp L (pc) (.int y :: .int x :: st) :=
  fun H locs ls h1 h2 h3 h4 => lv_imul F.1.1 F.1.2.1 hd  (k H locs ls h1 h2 h3 h4)
theorem aw_iand {x y : Int32} (F : aw_F p s m c args cc nL Ts own D cl tys) (hd : decode cc pc = .ok (.iand, 1))  (k : aW p l e R s m args below meth c cells slots Q D cl A ad nL hp L (pc + 1) (.int (x &&& y) :: st)) : aW p l e R s m args below meth c cells slots Q D cl A ad nL hp L (pc) (.int y :: .int x :: st) :=
  fun H locs ls h1 h2 h3 h4 => lv_iand F.1.1 F.1.2.1 hd  (k H locs ls h1 h2 h3 h4)
theorem aw_ior {x y : Int32} (F : aw_F p s m c args cc nL Ts own D cl tys) (hd : decode cc pc = .ok (.ior, 1))  (k : aW p l e R s m args below meth c cells slots Q D cl A ad nL hp L (pc + 1) (.int (x ||| y) :: st)) : aW p l e R s m args below meth c cells slots Q D cl A ad nL hp L (pc) (.int y :: .int x :: st) :=
  fun H locs ls h1 h2 h3 h4 => lv_ior F.1.1 F.1.2.1 hd  (k H locs ls h1 h2 h3 h4)
theorem aw_ixor {x y : Int32} (F : aw_F p s m c args cc nL Ts own D cl tys) (hd : decode cc pc = .ok (.ixor, 1))  (k : aW p l e R s m args below meth c cells slots Q D cl A ad nL hp L (pc + 1) (.int (x ^^^ y) :: st)) : aW p l e R s m args below meth c cells slots Q D cl A ad nL hp L (pc) (.int y :: .int x :: st) :=
  fun H locs ls h1 h2 h3 h4 => lv_ixor F.1.1 F.1.2.1 hd  (k H locs ls h1 h2 h3 h4)
theorem aw_ishl {x y : Int32} (F : aw_F p s m c args cc nL Ts own D cl tys) (hd : decode cc pc = .ok (.ishl, 1))  (k : aW p l e R s m args below meth c cells slots Q D cl A ad nL hp L (pc + 1) (.int (x <<< (y &&& 31)) :: st)) : aW p l e R s m args below meth c cells slots Q D cl A ad nL hp L (pc) (.int y :: .int x :: st) :=
  fun H locs ls h1 h2 h3 h4 => lv_ishl F.1.1 F.1.2.1 hd  (k H locs ls h1 h2 h3 h4)
theorem aw_ishr {x y : Int32} (F : aw_F p s m c args cc nL Ts own D cl tys) (hd : decode cc pc = .ok (.ishr, 1))  (k : aW p l e R s m args below meth c cells slots Q D cl A ad nL hp L (pc + 1) (.int (x >>> (y &&& 31)) :: st)) : aW p l e R s m args below meth c cells slots Q D cl A ad nL hp L (pc) (.int y :: .int x :: st) :=
  fun H locs ls h1 h2 h3 h4 => lv_ishr F.1.1 F.1.2.1 hd  (k H locs ls h1 h2 h3 h4)
theorem aw_ladd {x y : Int64} (F : aw_F p s m c args cc nL Ts own D cl tys) (hd : decode cc pc = .ok (.ladd, 1))  (k : aW p l e R s m args below meth c cells slots Q D cl A ad nL hp L (pc + 1) (.long (x + y) :: st)) : aW p l e R s m args below meth c cells slots Q D cl A ad nL hp L (pc) (.long y :: .long x :: st) :=
  fun H locs ls h1 h2 h3 h4 => lv_ladd F.1.1 F.1.2.1 hd  (k H locs ls h1 h2 h3 h4)
theorem aw_lsub {x y : Int64} (F : aw_F p s m c args cc nL Ts own D cl tys) (hd : decode cc pc = .ok (.lsub, 1))  (k : aW p l e R s m args below meth c cells slots Q D cl A ad nL hp L (pc + 1) (.long (x - y) :: st)) : aW p l e R s m args below meth c cells slots Q D cl A ad nL hp L (pc) (.long y :: .long x :: st) :=
  fun H locs ls h1 h2 h3 h4 => lv_lsub F.1.1 F.1.2.1 hd  (k H locs ls h1 h2 h3 h4)
theorem aw_lmul {x y : Int64} (F : aw_F p s m c args cc nL Ts own D cl tys) (hd : decode cc pc = .ok (.lmul, 1))  (k : aW p l e R s m args below meth c cells slots Q D cl A ad nL hp L (pc + 1) (.long (x * y) :: st)) : aW p l e R s m args below meth c cells slots Q D cl A ad nL hp L (pc) (.long y :: .long x :: st) :=
  fun H locs ls h1 h2 h3 h4 => lv_lmul F.1.1 F.1.2.1 hd  (k H locs ls h1 h2 h3 h4)
theorem aw_land {x y : Int64} (F : aw_F p s m c args cc nL Ts own D cl tys) (hd : decode cc pc = .ok (.land, 1))  (k : aW p l e R s m args below meth c cells slots Q D cl A ad nL hp L (pc + 1) (.long (x &&& y) :: st)) : aW p l e R s m args below meth c cells slots Q D cl A ad nL hp L (pc) (.long y :: .long x :: st) :=
  fun H locs ls h1 h2 h3 h4 => lv_land F.1.1 F.1.2.1 hd  (k H locs ls h1 h2 h3 h4)
theorem aw_lor {x y : Int64} (F : aw_F p s m c args cc nL Ts own D cl tys) (hd : decode cc pc = .ok (.lor, 1))  (k : aW p l e R s m args below meth c cells slots Q D cl A ad nL hp L (pc + 1) (.long (x ||| y) :: st)) : aW p l e R s m args below meth c cells slots Q D cl A ad nL hp L (pc) (.long y :: .long x :: st) :=
  fun H locs ls h1 h2 h3 h4 => lv_lor F.1.1 F.1.2.1 hd  (k H locs ls h1 h2 h3 h4)
theorem aw_lxor {x y : Int64} (F : aw_F p s m c args cc nL Ts own D cl tys) (hd : decode cc pc = .ok (.lxor, 1))  (k : aW p l e R s m args below meth c cells slots Q D cl A ad nL hp L (pc + 1) (.long (x ^^^ y) :: st)) : aW p l e R s m args below meth c cells slots Q D cl A ad nL hp L (pc) (.long y :: .long x :: st) :=
  fun H locs ls h1 h2 h3 h4 => lv_lxor F.1.1 F.1.2.1 hd  (k H locs ls h1 h2 h3 h4)
theorem aw_ineg {x : Int32} (F : aw_F p s m c args cc nL Ts own D cl tys) (hd : decode cc pc = .ok (.ineg, 1))  (k : aW p l e R s m args below meth c cells slots Q D cl A ad nL hp L (pc + 1) (.int (-x) :: st)) : aW p l e R s m args below meth c cells slots Q D cl A ad nL hp L (pc) (.int x :: st) :=
  fun H locs ls h1 h2 h3 h4 => lv_ineg F.1.1 F.1.2.1 hd  (k H locs ls h1 h2 h3 h4)
theorem aw_iushr {x y v : Int32} (F : aw_F p s m c args cc nL Ts own D cl tys) (hd : decode cc pc = .ok (.iushr, 1)) (hv : (x.toUInt32 >>> (y.toUInt32 &&& Int32.toUInt32 31)).toInt32 = v) (k : aW p l e R s m args below meth c cells slots Q D cl A ad nL hp L (pc + 1) (.int v :: st)) : aW p l e R s m args below meth c cells slots Q D cl A ad nL hp L (pc) (.int y :: .int x :: st) :=
  fun H locs ls h1 h2 h3 h4 => lv_iushr F.1.1 F.1.2.1 hd hv (k H locs ls h1 h2 h3 h4)
theorem aw_lushr {x v : Int64} {y : Int32} (F : aw_F p s m c args cc nL Ts own D cl tys) (hd : decode cc pc = .ok (.lushr, 1)) (hv : (x.toUInt64 >>> (y.toInt64.toUInt64 &&& Int64.toUInt64 63)).toInt64 = v) (k : aW p l e R s m args below meth c cells slots Q D cl A ad nL hp L (pc + 1) (.long v :: st)) : aW p l e R s m args below meth c cells slots Q D cl A ad nL hp L (pc) (.int y :: .long x :: st) :=
  fun H locs ls h1 h2 h3 h4 => lv_lushr F.1.1 F.1.2.1 hd hv (k H locs ls h1 h2 h3 h4)
theorem aw_lshl {x v : Int64} {y : Int32} (F : aw_F p s m c args cc nL Ts own D cl tys) (hd : decode cc pc = .ok (.lshl, 1)) (hv : x <<< (y.toInt64 &&& 63) = v) (k : aW p l e R s m args below meth c cells slots Q D cl A ad nL hp L (pc + 1) (.long v :: st)) : aW p l e R s m args below meth c cells slots Q D cl A ad nL hp L (pc) (.int y :: .long x :: st) :=
  fun H locs ls h1 h2 h3 h4 => lv_lshl F.1.1 F.1.2.1 hd hv (k H locs ls h1 h2 h3 h4)
theorem aw_lshr {x v : Int64} {y : Int32} (F : aw_F p s m c args cc nL Ts own D cl tys) (hd : decode cc pc = .ok (.lshr, 1)) (hv : x >>> (y.toInt64 &&& 63) = v) (k : aW p l e R s m args below meth c cells slots Q D cl A ad nL hp L (pc + 1) (.long v :: st)) : aW p l e R s m args below meth c cells slots Q D cl A ad nL hp L (pc) (.int y :: .long x :: st) :=
  fun H locs ls h1 h2 h3 h4 => lv_lshr F.1.1 F.1.2.1 hd hv (k H locs ls h1 h2 h3 h4)
theorem aw_i2l {x : Int32} {v : Int64} (F : aw_F p s m c args cc nL Ts own D cl tys) (hd : decode cc pc = .ok (.i2l, 1)) (hv : x.toInt64 = v) (k : aW p l e R s m args below meth c cells slots Q D cl A ad nL hp L (pc + 1) (.long v :: st)) : aW p l e R s m args below meth c cells slots Q D cl A ad nL hp L (pc) (.int x :: st) :=
  fun H locs ls h1 h2 h3 h4 => lv_i2l F.1.1 F.1.2.1 hd hv (k H locs ls h1 h2 h3 h4)
theorem aw_l2i {x : Int64} {v : Int32} (F : aw_F p s m c args cc nL Ts own D cl tys) (hd : decode cc pc = .ok (.l2i, 1)) (hv : x.toInt32 = v) (k : aW p l e R s m args below meth c cells slots Q D cl A ad nL hp L (pc + 1) (.int v :: st)) : aW p l e R s m args below meth c cells slots Q D cl A ad nL hp L (pc) (.long x :: st) :=
  fun H locs ls h1 h2 h3 h4 => lv_l2i F.1.1 F.1.2.1 hd hv (k H locs ls h1 h2 h3 h4)
theorem aw_lcmp {x y : Int64} (F : aw_F p s m c args cc nL Ts own D cl tys) (hd : decode cc pc = .ok (.lcmp, 1))  (k : aW p l e R s m args below meth c cells slots Q D cl A ad nL hp L (pc + 1) (.int (lg_cmp x y) :: st)) : aW p l e R s m args below meth c cells slots Q D cl A ad nL hp L (pc) (.long y :: .long x :: st) :=
  fun H locs ls h1 h2 h3 h4 => W.lcmp F.1.1 F.1.2.1 hd  (k H locs ls h1 h2 h3 h4)
theorem aw_dup {va : Value} (F : aw_F p s m c args cc nL Ts own D cl tys) (hd : decode cc pc = .ok (.dup, 1)) (hva : va.category = 1) (k : aW p l e R s m args below meth c cells slots Q D cl A ad nL hp L (pc + 1) (va :: va :: st)) : aW p l e R s m args below meth c cells slots Q D cl A ad nL hp L (pc) (va :: st) :=
  fun H locs ls h1 h2 h3 h4 => lv_dup F.1.1 F.1.2.1 hd hva (k H locs ls h1 h2 h3 h4)
theorem aw_pop {va : Value} (F : aw_F p s m c args cc nL Ts own D cl tys) (hd : decode cc pc = .ok (.pop, 1)) (hva : va.category = 1) (k : aW p l e R s m args below meth c cells slots Q D cl A ad nL hp L (pc + 1) (st)) : aW p l e R s m args below meth c cells slots Q D cl A ad nL hp L (pc) (va :: st) :=
  fun H locs ls h1 h2 h3 h4 => lv_pop F.1.1 F.1.2.1 hd hva (k H locs ls h1 h2 h3 h4)
theorem aw_dup_x1 {va vb : Value} (F : aw_F p s m c args cc nL Ts own D cl tys) (hd : decode cc pc = .ok (.dup_x1, 1)) (hva : va.category = 1) (hvb : vb.category = 1) (k : aW p l e R s m args below meth c cells slots Q D cl A ad nL hp L (pc + 1) (va :: vb :: va :: st)) : aW p l e R s m args below meth c cells slots Q D cl A ad nL hp L (pc) (va :: vb :: st) :=
  fun H locs ls h1 h2 h3 h4 => lv_dup_x1 F.1.1 F.1.2.1 hd hva hvb (k H locs ls h1 h2 h3 h4)
theorem aw_dup_x2 {va vb vd : Value} (F : aw_F p s m c args cc nL Ts own D cl tys) (hd : decode cc pc = .ok (.dup_x2, 1)) (hva : va.category = 1) (hvb : vb.category = 1) (hvd : vd.category = 1) (k : aW p l e R s m args below meth c cells slots Q D cl A ad nL hp L (pc + 1) (va :: vb :: vd :: va :: st)) : aW p l e R s m args below meth c cells slots Q D cl A ad nL hp L (pc) (va :: vb :: vd :: st) :=
  fun H locs ls h1 h2 h3 h4 => lv_dup_x2 F.1.1 F.1.2.1 hd hva hvb hvd (k H locs ls h1 h2 h3 h4)
theorem aw_dup2 {va vb : Value} (F : aw_F p s m c args cc nL Ts own D cl tys) (hd : decode cc pc = .ok (.dup2, 1)) (hva : va.category = 1) (hvb : vb.category = 1) (k : aW p l e R s m args below meth c cells slots Q D cl A ad nL hp L (pc + 1) (va :: vb :: va :: vb :: st)) : aW p l e R s m args below meth c cells slots Q D cl A ad nL hp L (pc) (va :: vb :: st) :=
  fun H locs ls h1 h2 h3 h4 => lv_dup2_11 F.1.1 F.1.2.1 hd hva hvb (k H locs ls h1 h2 h3 h4)
theorem aw_ldc {index : Nat} {v : Int32} (F : aw_F p s m c args cc nL Ts own D cl tys) (hd : decode cc pc = .ok (.ldc index, 2)) (hc : Jvm.Cond.constant own index v ∈ Ts) (k : aW p l e R s m args below meth c cells slots Q D cl A ad nL hp L (pc + 2) (.int v :: st)) : aW p l e R s m args below meth c cells slots Q D cl A ad nL hp L (pc) (st) :=
  fun H locs ls h1 h2 h3 h4 => lv_ldc F.1.1 F.1.2.1 F.1.2.2.2.1 (F.1.2.2.2.2 _ hc) hd (k H locs ls h1 h2 h3 h4)
theorem aw_ldcw {index : Nat} {v : Int32} (F : aw_F p s m c args cc nL Ts own D cl tys) (hd : decode cc pc = .ok (.ldc_w index, 3)) (hc : Jvm.Cond.constant own index v ∈ Ts) (k : aW p l e R s m args below meth c cells slots Q D cl A ad nL hp L (pc + 3) (.int v :: st)) : aW p l e R s m args below meth c cells slots Q D cl A ad nL hp L (pc) (st) :=
  fun H locs ls h1 h2 h3 h4 => lv_ldcw F.1.1 F.1.2.1 F.1.2.2.2.1 (F.1.2.2.2.2 _ hc) hd (k H locs ls h1 h2 h3 h4)
theorem aw_ldc2 {index : Nat} {v : Int64} (F : aw_F p s m c args cc nL Ts own D cl tys) (hd : decode cc pc = .ok (.ldc2_w index, 3)) (hc : Jvm.Cond.constantLong own index v ∈ Ts) (k : aW p l e R s m args below meth c cells slots Q D cl A ad nL hp L (pc + 3) (.long v :: st)) : aW p l e R s m args below meth c cells slots Q D cl A ad nL hp L (pc) (st) :=
  fun H locs ls h1 h2 h3 h4 => lv_ldc2 F.1.1 F.1.2.1 F.1.2.2.2.1 (F.1.2.2.2.2 _ hc) hd (k H locs ls h1 h2 h3 h4)
theorem aw_if_eq {x : Int32} {off : Int} (F : aw_F p s m c args cc nL Ts own D cl tys) (tgt : Nat) (hd : decode cc pc = .ok (.ifCond .eq off, 3)) (ht : (pc : Int) + off = (tgt : Int)) (kt : x = 0 → aW p l e R s m args below meth c cells slots Q D cl A ad nL hp L (tgt) (st)) (kf : ¬ x = 0 → aW p l e R s m args below meth c cells slots Q D cl A ad nL hp L (pc + 3) (st)) : aW p l e R s m args below meth c cells slots Q D cl A ad nL hp L (pc) (.int x :: st) :=
  fun H locs ls h1 h2 h3 h4 => lv_if_eq F.1.1 F.1.2.1 hd ht (fun q => kt q H locs ls h1 h2 h3 h4) (fun q => kf q H locs ls h1 h2 h3 h4)
theorem aw_icmp_eq {x y : Int32} {off : Int} (F : aw_F p s m c args cc nL Ts own D cl tys) (tgt : Nat) (hd : decode cc pc = .ok (.if_icmp .eq off, 3)) (ht : (pc : Int) + off = (tgt : Int)) (kt : x = y → aW p l e R s m args below meth c cells slots Q D cl A ad nL hp L (tgt) (st)) (kf : ¬ x = y → aW p l e R s m args below meth c cells slots Q D cl A ad nL hp L (pc + 3) (st)) : aW p l e R s m args below meth c cells slots Q D cl A ad nL hp L (pc) (.int y :: .int x :: st) :=
  fun H locs ls h1 h2 h3 h4 => lv_icmp_eq F.1.1 F.1.2.1 hd ht (fun q => kt q H locs ls h1 h2 h3 h4) (fun q => kf q H locs ls h1 h2 h3 h4)
theorem aw_if_ne {x : Int32} {off : Int} (F : aw_F p s m c args cc nL Ts own D cl tys) (tgt : Nat) (hd : decode cc pc = .ok (.ifCond .ne off, 3)) (ht : (pc : Int) + off = (tgt : Int)) (kt : ¬ x = 0 → aW p l e R s m args below meth c cells slots Q D cl A ad nL hp L (tgt) (st)) (kf : x = 0 → aW p l e R s m args below meth c cells slots Q D cl A ad nL hp L (pc + 3) (st)) : aW p l e R s m args below meth c cells slots Q D cl A ad nL hp L (pc) (.int x :: st) :=
  fun H locs ls h1 h2 h3 h4 => lv_if_ne F.1.1 F.1.2.1 hd ht (fun q => kt q H locs ls h1 h2 h3 h4) (fun q => kf q H locs ls h1 h2 h3 h4)
theorem aw_icmp_ne {x y : Int32} {off : Int} (F : aw_F p s m c args cc nL Ts own D cl tys) (tgt : Nat) (hd : decode cc pc = .ok (.if_icmp .ne off, 3)) (ht : (pc : Int) + off = (tgt : Int)) (kt : ¬ x = y → aW p l e R s m args below meth c cells slots Q D cl A ad nL hp L (tgt) (st)) (kf : x = y → aW p l e R s m args below meth c cells slots Q D cl A ad nL hp L (pc + 3) (st)) : aW p l e R s m args below meth c cells slots Q D cl A ad nL hp L (pc) (.int y :: .int x :: st) :=
  fun H locs ls h1 h2 h3 h4 => lv_icmp_ne F.1.1 F.1.2.1 hd ht (fun q => kt q H locs ls h1 h2 h3 h4) (fun q => kf q H locs ls h1 h2 h3 h4)
theorem aw_if_lt {x : Int32} {off : Int} (F : aw_F p s m c args cc nL Ts own D cl tys) (tgt : Nat) (hd : decode cc pc = .ok (.ifCond .lt off, 3)) (ht : (pc : Int) + off = (tgt : Int)) (kt : x < 0 → aW p l e R s m args below meth c cells slots Q D cl A ad nL hp L (tgt) (st)) (kf : ¬ x < 0 → aW p l e R s m args below meth c cells slots Q D cl A ad nL hp L (pc + 3) (st)) : aW p l e R s m args below meth c cells slots Q D cl A ad nL hp L (pc) (.int x :: st) :=
  fun H locs ls h1 h2 h3 h4 => lv_if_lt F.1.1 F.1.2.1 hd ht (fun q => kt q H locs ls h1 h2 h3 h4) (fun q => kf q H locs ls h1 h2 h3 h4)
theorem aw_icmp_lt {x y : Int32} {off : Int} (F : aw_F p s m c args cc nL Ts own D cl tys) (tgt : Nat) (hd : decode cc pc = .ok (.if_icmp .lt off, 3)) (ht : (pc : Int) + off = (tgt : Int)) (kt : x < y → aW p l e R s m args below meth c cells slots Q D cl A ad nL hp L (tgt) (st)) (kf : ¬ x < y → aW p l e R s m args below meth c cells slots Q D cl A ad nL hp L (pc + 3) (st)) : aW p l e R s m args below meth c cells slots Q D cl A ad nL hp L (pc) (.int y :: .int x :: st) :=
  fun H locs ls h1 h2 h3 h4 => lv_icmp_lt F.1.1 F.1.2.1 hd ht (fun q => kt q H locs ls h1 h2 h3 h4) (fun q => kf q H locs ls h1 h2 h3 h4)
theorem aw_if_ge {x : Int32} {off : Int} (F : aw_F p s m c args cc nL Ts own D cl tys) (tgt : Nat) (hd : decode cc pc = .ok (.ifCond .ge off, 3)) (ht : (pc : Int) + off = (tgt : Int)) (kt : 0 ≤ x → aW p l e R s m args below meth c cells slots Q D cl A ad nL hp L (tgt) (st)) (kf : ¬ 0 ≤ x → aW p l e R s m args below meth c cells slots Q D cl A ad nL hp L (pc + 3) (st)) : aW p l e R s m args below meth c cells slots Q D cl A ad nL hp L (pc) (.int x :: st) :=
  fun H locs ls h1 h2 h3 h4 => lv_if_ge F.1.1 F.1.2.1 hd ht (fun q => kt q H locs ls h1 h2 h3 h4) (fun q => kf q H locs ls h1 h2 h3 h4)
theorem aw_icmp_ge {x y : Int32} {off : Int} (F : aw_F p s m c args cc nL Ts own D cl tys) (tgt : Nat) (hd : decode cc pc = .ok (.if_icmp .ge off, 3)) (ht : (pc : Int) + off = (tgt : Int)) (kt : y ≤ x → aW p l e R s m args below meth c cells slots Q D cl A ad nL hp L (tgt) (st)) (kf : ¬ y ≤ x → aW p l e R s m args below meth c cells slots Q D cl A ad nL hp L (pc + 3) (st)) : aW p l e R s m args below meth c cells slots Q D cl A ad nL hp L (pc) (.int y :: .int x :: st) :=
  fun H locs ls h1 h2 h3 h4 => lv_icmp_ge F.1.1 F.1.2.1 hd ht (fun q => kt q H locs ls h1 h2 h3 h4) (fun q => kf q H locs ls h1 h2 h3 h4)
theorem aw_if_gt {x : Int32} {off : Int} (F : aw_F p s m c args cc nL Ts own D cl tys) (tgt : Nat) (hd : decode cc pc = .ok (.ifCond .gt off, 3)) (ht : (pc : Int) + off = (tgt : Int)) (kt : 0 < x → aW p l e R s m args below meth c cells slots Q D cl A ad nL hp L (tgt) (st)) (kf : ¬ 0 < x → aW p l e R s m args below meth c cells slots Q D cl A ad nL hp L (pc + 3) (st)) : aW p l e R s m args below meth c cells slots Q D cl A ad nL hp L (pc) (.int x :: st) :=
  fun H locs ls h1 h2 h3 h4 => lv_if_gt F.1.1 F.1.2.1 hd ht (fun q => kt q H locs ls h1 h2 h3 h4) (fun q => kf q H locs ls h1 h2 h3 h4)
theorem aw_icmp_gt {x y : Int32} {off : Int} (F : aw_F p s m c args cc nL Ts own D cl tys) (tgt : Nat) (hd : decode cc pc = .ok (.if_icmp .gt off, 3)) (ht : (pc : Int) + off = (tgt : Int)) (kt : y < x → aW p l e R s m args below meth c cells slots Q D cl A ad nL hp L (tgt) (st)) (kf : ¬ y < x → aW p l e R s m args below meth c cells slots Q D cl A ad nL hp L (pc + 3) (st)) : aW p l e R s m args below meth c cells slots Q D cl A ad nL hp L (pc) (.int y :: .int x :: st) :=
  fun H locs ls h1 h2 h3 h4 => lv_icmp_gt F.1.1 F.1.2.1 hd ht (fun q => kt q H locs ls h1 h2 h3 h4) (fun q => kf q H locs ls h1 h2 h3 h4)
theorem aw_if_le {x : Int32} {off : Int} (F : aw_F p s m c args cc nL Ts own D cl tys) (tgt : Nat) (hd : decode cc pc = .ok (.ifCond .le off, 3)) (ht : (pc : Int) + off = (tgt : Int)) (kt : x ≤ 0 → aW p l e R s m args below meth c cells slots Q D cl A ad nL hp L (tgt) (st)) (kf : ¬ x ≤ 0 → aW p l e R s m args below meth c cells slots Q D cl A ad nL hp L (pc + 3) (st)) : aW p l e R s m args below meth c cells slots Q D cl A ad nL hp L (pc) (.int x :: st) :=
  fun H locs ls h1 h2 h3 h4 => lv_if_le F.1.1 F.1.2.1 hd ht (fun q => kt q H locs ls h1 h2 h3 h4) (fun q => kf q H locs ls h1 h2 h3 h4)
theorem aw_icmp_le {x y : Int32} {off : Int} (F : aw_F p s m c args cc nL Ts own D cl tys) (tgt : Nat) (hd : decode cc pc = .ok (.if_icmp .le off, 3)) (ht : (pc : Int) + off = (tgt : Int)) (kt : x ≤ y → aW p l e R s m args below meth c cells slots Q D cl A ad nL hp L (tgt) (st)) (kf : ¬ x ≤ y → aW p l e R s m args below meth c cells slots Q D cl A ad nL hp L (pc + 3) (st)) : aW p l e R s m args below meth c cells slots Q D cl A ad nL hp L (pc) (.int y :: .int x :: st) :=
  fun H locs ls h1 h2 h3 h4 => lv_icmp_le F.1.1 F.1.2.1 hd ht (fun q => kt q H locs ls h1 h2 h3 h4) (fun q => kf q H locs ls h1 h2 h3 h4)
theorem aw_goto {off : Int} (F : aw_F p s m c args cc nL Ts own D cl tys) (tgt : Nat) (hd : decode cc pc = .ok (.goto off, 3)) (ht : (pc : Int) + off = (tgt : Int)) (k : aW p l e R s m args below meth c cells slots Q D cl A ad nL hp L (tgt) (st)) : aW p l e R s m args below meth c cells slots Q D cl A ad nL hp L (pc) (st) :=
  fun H locs ls h1 h2 h3 h4 => lv_goto F.1.1 F.1.2.1 hd ht (k H locs ls h1 h2 h3 h4)
theorem aw_tableIn {dflt lo hi : Int} {offs : Array Int} {len : Nat} {x : Int32} {off : Int} (F : aw_F p s m c args cc nL Ts own D cl tys) (tgt : Nat) (hd : decode cc pc = .ok (.tableswitch dflt lo hi offs, len)) (q1 : ¬ x.toInt < lo) (q2 : ¬ hi < x.toInt) (ho : offs[(x.toInt - lo).toNat]? = some off) (ht : (pc : Int) + off = (tgt : Int)) (k : aW p l e R s m args below meth c cells slots Q D cl A ad nL hp L (tgt) (st)) : aW p l e R s m args below meth c cells slots Q D cl A ad nL hp L (pc) (.int x :: st) :=
  fun H locs ls h1 h2 h3 h4 => lv_tableIn F.1.1 F.1.2.1 hd q1 q2 ho ht (k H locs ls h1 h2 h3 h4)
theorem aw_tableOut {dflt lo hi : Int} {offs : Array Int} {len : Nat} {x : Int32} (F : aw_F p s m c args cc nL Ts own D cl tys) (tgt : Nat) (hd : decode cc pc = .ok (.tableswitch dflt lo hi offs, len)) (q1 : x.toInt < lo ∨ hi < x.toInt) (ht : (pc : Int) + dflt = (tgt : Int)) (k : aW p l e R s m args below meth c cells slots Q D cl A ad nL hp L (tgt) (st)) : aW p l e R s m args below meth c cells slots Q D cl A ad nL hp L (pc) (.int x :: st) :=
  fun H locs ls h1 h2 h3 h4 => lv_tableOut F.1.1 F.1.2.1 hd q1 ht (k H locs ls h1 h2 h3 h4)
theorem aw_lookup {dflt : Int} {ps : Array (Int × Int)} {len : Nat} {x : Int32} {off : Int} (F : aw_F p s m c args cc nL Ts own D cl tys) (tgt : Nat) (hd : decode cc pc = .ok (.lookupswitch dflt ps, len)) (hps : (ps.toList.zip (ps.toList.drop 1)).all (fun (a, next) => a.1 < next.1) = true) (ho : Op.lookupswitch.offset ps.toList dflt x.toInt = off) (ht : (pc : Int) + off = (tgt : Int)) (k : aW p l e R s m args below meth c cells slots Q D cl A ad nL hp L (tgt) (st)) : aW p l e R s m args below meth c cells slots Q D cl A ad nL hp L (pc) (.int x :: st) :=
  fun H locs ls h1 h2 h3 h4 => lv_lookup F.1.1 F.1.2.1 hd hps ho ht (k H locs ls h1 h2 h3 h4)
theorem aw_get {ci : Nat} {fs : List Value} {C : String} {T : u_T} {N : Nat} {v : Value} {index : Nat} (F : aw_F p s m c args cc nL Ts own D cl tys) (k0 : Nat) (he : hp[k0]? = some (.inr (ci, fs))) (hc : cl[ci]? = some (C, T, N)) (j : Nat) (hj : j < N) (hin : ∀ w ∈ u_ws C T N, w ∈ Ts) (hlk : Cond.fieldLink own index (T j).1 (T j).2.1 (T j).2.2.1 ∈ Ts) (hv : fs[j]? = some v) (hd : decode cc pc = .ok (.getfield index, 3)) (k : aW p l e R s m args below meth c cells slots Q D cl A ad nL hp L (pc + 3) (v :: st)) : aW p l e R s m args below meth c cells slots Q D cl A ad nL hp L (pc) (.ref (ad k0) :: st) :=
  fun H locs ls h1 h2 h3 h4 => va_get F.1.1 F.1.2.1 F.1.2.2.2.2 hin F.1.2.2.2.1 F.2 h1 k0 (aw_ws_at he) hc j hj (F.1.2.2.2.2 _ hlk) (fun _ h9 => h9) hv hd (k H locs ls h1 h2 h3 h4)
theorem aw_getN {host : String} {ci : Nat} {fs : List Value} {C : String} {T : u_T} {N : Nat} {v : Value} {index : Nat} (F : aw_F p s m c args cc nL Ts own D cl tys) (k0 : Nat) (he : hp[k0]? = some (.inr (ci, fs))) (hc : cl[ci]? = some (C, T, N)) (j : Nat) (hj : j < N) (hin : ∀ w ∈ u_ws C T N, w ∈ Ts) (hlk : va_Nw (Cond.fieldLinkNest own index (T j).1 (T j).2.1 (T j).2.2.1 host) s) (hv : fs[j]? = some v) (hd : decode cc pc = .ok (.getfield index, 3)) (k : aW p l e R s m args below meth c cells slots Q D cl A ad nL hp L (pc + 3) (v :: st)) : aW p l e R s m args below meth c cells slots Q D cl A ad nL hp L (pc) (.ref (ad k0) :: st) :=
  fun H locs ls h1 h2 h3 h4 => va_getN F.1.1 F.1.2.1 F.1.2.2.2.2 hin F.1.2.2.2.1 F.2 h1 k0 (aw_ws_at he) hc j hj (va_Nw.use rfl hlk) (fun _ h9 => h9) hv hd (k H locs ls h1 h2 h3 h4)
theorem aw_put {ci : Nat} {fs : List Value} {C : String} {T : u_T} {N : Nat} {v : Value} {index : Nat} (F : aw_F p s m c args cc nL Ts own D cl tys) (k0 : Nat) (he : hp[k0]? = some (.inr (ci, fs))) (hc : cl[ci]? = some (C, T, N)) (j : Nat) (hj : j < N) (hin : ∀ w ∈ u_ws C T N, w ∈ Ts) (ty0 : Nat → FieldType) (hty : ∀ k, k < N → parseFieldDescriptor (T k).2.2.1 = some (ty0 k)) (hnm : ∀ a, a < N → ∀ b, b < N → a ≠ b → (T a).2.1 ≠ (T b).2.1) (hlk : Cond.fieldLink own index (T j).1 (T j).2.1 (T j).2.2.1 ∈ Ts) {ty : FieldType} (hf : (T j).2.2.2 = false) (hd0 : parseFieldDescriptor (T j).2.2.1 = some ty) (hnr : narrow ty v = v) (hft : fits ty v = true) (hln : j < fs.length) (hh : hp.set k0 (.inr (ci, fs.set j v)) = hp') (hd : decode cc pc = .ok (.putfield index, 3)) (k : aW p l e R s m args below meth c cells slots Q D cl A ad nL hp' L (pc + 3) (st)) : aW p l e R s m args below meth c cells slots Q D cl A ad nL hp L (pc) (v :: .ref (ad k0) :: st) :=
  fun H locs ls h1 h2 h3 h4 => va_put F.1.1 F.1.2.1 F.1.2.2.2.2 hin ty0 hty hnm F.1.2.2.2.1 F.2 h1 h2 h3 k0 (aw_ws_at he) hc j hj (F.1.2.2.2.2 _ hlk) (fun _ h9 => h9) hf hd0 hnr hft hln hd (fun H' locs' g1 g2 g3 => k H' locs' ls (by rw [← hh, ← aw_ws_set]; exact g1) (by rw [← hh, ← aw_ws_set]; exact g2) g3 h4)
theorem aw_putN {host : String} {ci : Nat} {fs : List Value} {C : String} {T : u_T} {N : Nat} {v : Value} {index : Nat} (F : aw_F p s m c args cc nL Ts own D cl tys) (k0 : Nat) (he : hp[k0]? = some (.inr (ci, fs))) (hc : cl[ci]? = some (C, T, N)) (j : Nat) (hj : j < N) (hin : ∀ w ∈ u_ws C T N, w ∈ Ts) (ty0 : Nat → FieldType) (hty : ∀ k, k < N → parseFieldDescriptor (T k).2.2.1 = some (ty0 k)) (hnm : ∀ a, a < N → ∀ b, b < N → a ≠ b → (T a).2.1 ≠ (T b).2.1) (hlk : va_Nw (Cond.fieldLinkNest own index (T j).1 (T j).2.1 (T j).2.2.1 host) s) {ty : FieldType} (hf : (T j).2.2.2 = false) (hd0 : parseFieldDescriptor (T j).2.2.1 = some ty) (hnr : narrow ty v = v) (hft : fits ty v = true) (hln : j < fs.length) (hh : hp.set k0 (.inr (ci, fs.set j v)) = hp') (hd : decode cc pc = .ok (.putfield index, 3)) (k : aW p l e R s m args below meth c cells slots Q D cl A ad nL hp' L (pc + 3) (st)) : aW p l e R s m args below meth c cells slots Q D cl A ad nL hp L (pc) (v :: .ref (ad k0) :: st) :=
  fun H locs ls h1 h2 h3 h4 => va_putN F.1.1 F.1.2.1 F.1.2.2.2.2 hin ty0 hty hnm F.1.2.2.2.1 F.2 h1 h2 h3 k0 (aw_ws_at he) hc j hj (va_Nw.use rfl hlk) (fun _ h9 => h9) hf hd0 hnr hft hln hd (fun H' locs' g1 g2 g3 => k H' locs' ls (by rw [← hh, ← aw_ws_set]; exact g1) (by rw [← hh, ← aw_ws_set]; exact g2) g3 h4)
theorem aw_iald {cA : ClassId} {n : Nat} {f : Nat → Int32} {i : Int32} (F : aw_F p s m c args cc nL Ts own D cl tys) (k0 t0 : Nat) (he : hp[k0]? = some (.inl (cA, n, .inl f))) (ht : tys[t0]? = some (cA, .int)) (hin : vp_in i n) (hd : decode cc pc = .ok (.iaload, 1)) (k : aW p l e R s m args below meth c cells slots Q D cl A ad nL hp L (pc + 1) (.int (f i.toNatClampNeg) :: st)) : aW p l e R s m args below meth c cells slots Q D cl A ad nL hp L (pc) (.int i :: .ref (ad k0) :: st) :=
  fun H locs ls h1 h2 h3 h4 => va_iald F.1.1 F.1.2.1 F.2 h1 k0 t0 (aw_ws_at he) ht hin hd (k H locs ls h1 h2 h3 h4)
theorem aw_lald {cA : ClassId} {n : Nat} {f : Nat → Int64} {i : Int32} (F : aw_F p s m c args cc nL Ts own D cl tys) (k0 t0 : Nat) (he : hp[k0]? = some (.inl (cA, n, .inr (.inl f)))) (ht : tys[t0]? = some (cA, .long)) (hin : vp_in i n) (hd : decode cc pc = .ok (.laload, 1)) (k : aW p l e R s m args below meth c cells slots Q D cl A ad nL hp L (pc + 1) (.long (f i.toNatClampNeg) :: st)) : aW p l e R s m args below meth c cells slots Q D cl A ad nL hp L (pc) (.int i :: .ref (ad k0) :: st) :=
  fun H locs ls h1 h2 h3 h4 => va_lald F.1.1 F.1.2.1 F.2 h1 k0 t0 (aw_ws_at he) ht hin hd (k H locs ls h1 h2 h3 h4)
theorem aw_zald {cA : ClassId} {n : Nat} {f : Nat → Int32} {i : Int32} (F : aw_F p s m c args cc nL Ts own D cl tys) (k0 t0 : Nat) (he : hp[k0]? = some (.inl (cA, n, .inl f))) (ht : tys[t0]? = some (cA, .boolean)) (hin : vp_in i n) (hd : decode cc pc = .ok (.baload, 1)) (k : aW p l e R s m args below meth c cells slots Q D cl A ad nL hp L (pc + 1) (.int (f i.toNatClampNeg) :: st)) : aW p l e R s m args below meth c cells slots Q D cl A ad nL hp L (pc) (.int i :: .ref (ad k0) :: st) :=
  fun H locs ls h1 h2 h3 h4 => va_zald F.1.1 F.1.2.1 F.2 h1 k0 t0 (aw_ws_at he) ht hin hd (k H locs ls h1 h2 h3 h4)
theorem aw_bald {cA : ClassId} {n : Nat} {f : Nat → Int32} {i : Int32} (F : aw_F p s m c args cc nL Ts own D cl tys) (k0 t0 : Nat) (he : hp[k0]? = some (.inl (cA, n, .inl f))) (ht : tys[t0]? = some (cA, .byte)) (hin : vp_in i n) (hd : decode cc pc = .ok (.baload, 1)) (k : aW p l e R s m args below meth c cells slots Q D cl A ad nL hp L (pc + 1) (.int (f i.toNatClampNeg) :: st)) : aW p l e R s m args below meth c cells slots Q D cl A ad nL hp L (pc) (.int i :: .ref (ad k0) :: st) :=
  fun H locs ls h1 h2 h3 h4 => va_bald F.1.1 F.1.2.1 F.2 h1 k0 t0 (aw_ws_at he) ht hin hd (k H locs ls h1 h2 h3 h4)
theorem aw_iast {cA : ClassId} {n : Nat} {f : Nat → Int32} {i : Int32} {x : Int32} (F : aw_F p s m c args cc nL Ts own D cl tys) (k0 t0 : Nat) (he : hp[k0]? = some (.inl (cA, n, .inl (f)))) (ht : tys[t0]? = some (cA, .int)) (hin : vp_in i n) (hh : hp.set k0 (.inl (cA, n, .inl (upd f i.toNatClampNeg x))) = hp') (hd : decode cc pc = .ok (.iastore, 1)) (k : aW p l e R s m args below meth c cells slots Q D cl A ad nL hp' L (pc + 1) (st)) : aW p l e R s m args below meth c cells slots Q D cl A ad nL hp L (pc) (.int x :: .int i :: .ref (ad k0) :: st) :=
  fun H locs ls h1 h2 h3 h4 => va_iast F.1.1 F.1.2.1 F.2 h1 h2 h3 k0 t0 (aw_ws_at he) ht hin hd (fun H' locs' g1 g2 g3 => k H' locs' ls (by rw [← hh, ← aw_ws_set]; exact g1) (by rw [← hh, ← aw_ws_set]; exact g2) g3 h4)
theorem aw_last {cA : ClassId} {n : Nat} {f : Nat → Int64} {i : Int32} {x : Int64} (F : aw_F p s m c args cc nL Ts own D cl tys) (k0 t0 : Nat) (he : hp[k0]? = some (.inl (cA, n, .inr (.inl (f))))) (ht : tys[t0]? = some (cA, .long)) (hin : vp_in i n) (hh : hp.set k0 (.inl (cA, n, .inr (.inl (vp_updL f i.toNatClampNeg x)))) = hp') (hd : decode cc pc = .ok (.lastore, 1)) (k : aW p l e R s m args below meth c cells slots Q D cl A ad nL hp' L (pc + 1) (st)) : aW p l e R s m args below meth c cells slots Q D cl A ad nL hp L (pc) (.long x :: .int i :: .ref (ad k0) :: st) :=
  fun H locs ls h1 h2 h3 h4 => va_last F.1.1 F.1.2.1 F.2 h1 h2 h3 k0 t0 (aw_ws_at he) ht hin hd (fun H' locs' g1 g2 g3 => k H' locs' ls (by rw [← hh, ← aw_ws_set]; exact g1) (by rw [← hh, ← aw_ws_set]; exact g2) g3 h4)
theorem aw_zast {cA : ClassId} {n : Nat} {f : Nat → Int32} {i : Int32} {x : Int32} (F : aw_F p s m c args cc nL Ts own D cl tys) (k0 t0 : Nat) (he : hp[k0]? = some (.inl (cA, n, .inl (f)))) (ht : tys[t0]? = some (cA, .boolean)) (hin : vp_in i n) (hh : hp.set k0 (.inl (cA, n, .inl (upd f i.toNatClampNeg (vp_nar .boolean x)))) = hp') (hd : decode cc pc = .ok (.bastore, 1)) (k : aW p l e R s m args below meth c cells slots Q D cl A ad nL hp' L (pc + 1) (st)) : aW p l e R s m args below meth c cells slots Q D cl A ad nL hp L (pc) (.int x :: .int i :: .ref (ad k0) :: st) :=
  fun H locs ls h1 h2 h3 h4 => va_zast F.1.1 F.1.2.1 F.2 h1 h2 h3 k0 t0 (aw_ws_at he) ht hin hd (fun H' locs' g1 g2 g3 => k H' locs' ls (by rw [← hh, ← aw_ws_set]; exact g1) (by rw [← hh, ← aw_ws_set]; exact g2) g3 h4)
theorem aw_bast {cA : ClassId} {n : Nat} {f : Nat → Int32} {i : Int32} {x : Int32} (F : aw_F p s m c args cc nL Ts own D cl tys) (k0 t0 : Nat) (he : hp[k0]? = some (.inl (cA, n, .inl (f)))) (ht : tys[t0]? = some (cA, .byte)) (hin : vp_in i n) (hh : hp.set k0 (.inl (cA, n, .inl (upd f i.toNatClampNeg (vp_nar .byte x)))) = hp') (hd : decode cc pc = .ok (.bastore, 1)) (k : aW p l e R s m args below meth c cells slots Q D cl A ad nL hp' L (pc + 1) (st)) : aW p l e R s m args below meth c cells slots Q D cl A ad nL hp L (pc) (.int x :: .int i :: .ref (ad k0) :: st) :=
  fun H locs ls h1 h2 h3 h4 => va_bast F.1.1 F.1.2.1 F.2 h1 h2 h3 k0 t0 (aw_ws_at he) ht hin hd (fun H' locs' g1 g2 g3 => k H' locs' ls (by rw [← hh, ← aw_ws_set]; exact g1) (by rw [← hh, ← aw_ws_set]; exact g2) g3 h4)
theorem aw_alen {cA : ClassId} {a : vp_A} {ty : FieldType} {v : Int32} (F : aw_F p s m c args cc nL Ts own D cl tys) (k0 t0 : Nat) (he : hp[k0]? = some (.inl (cA, a))) (ht : tys[t0]? = some (cA, ty)) (hv : Int32.ofNat a.1 = v) (hd : decode cc pc = .ok (.arraylength, 1)) (k : aW p l e R s m args below meth c cells slots Q D cl A ad nL hp L (pc + 1) (.int v :: st)) : aW p l e R s m args below meth c cells slots Q D cl A ad nL hp L (pc) (.ref (ad k0) :: st) :=
  fun H locs ls h1 h2 h3 h4 => va_alen F.1.1 F.1.2.1 F.2 h1 k0 t0 (aw_ws_at he) ht hv hd (k H locs ls h1 h2 h3 h4)
theorem aw_less (h : ∀ (i : Nat) (v : Value), L'[i]? = some (some v) → L[i]? = some (some v)) (k : aW p l e R s m args below meth c cells slots Q D cl A ad nL hp L' (pc) (st)) : aW p l e R s m args below meth c cells slots Q D cl A ad nL hp L (pc) (st) :=
  fun H locs ls h1 h2 h3 h4 => k H locs ls h1 h2 h3 ⟨h4.1, h4.2.1, fun i v q => h4.2.2 i v (h i v q)⟩
theorem aw_gets {C n d : String} {v : Value} {index : Nat} (F : aw_F p s m c args cc nL Ts own D cl tys) (hZ : va_Z C n d v A s s.heap) (hlk : Cond.fieldLink own index C n d ∈ Ts) (hd : decode cc pc = .ok (.getstatic index, 3)) (k : aW p l e R s m args below meth c cells slots Q D cl A ad nL hp L (pc + 3) (v :: st)) : aW p l e R s m args below meth c cells slots Q D cl A ad nL hp L (pc) (st) :=
  fun H locs ls h1 h2 h3 h4 => va_gets F.1.1 F.1.2.1 hZ h3 F.1.2.2.2.1 (F.1.2.2.2.2 _ hlk) (fun _ h9 => h9) hd (k H locs ls h1 h2 h3 h4)
theorem aw_getsN {C n d host : String} {v : Value} {index : Nat} (F : aw_F p s m c args cc nL Ts own D cl tys) (hZ : va_Z C n d v A s s.heap) (hlk : va_Nw (Cond.fieldLinkNest own index C n d host) s) (hd : decode cc pc = .ok (.getstatic index, 3)) (k : aW p l e R s m args below meth c cells slots Q D cl A ad nL hp L (pc + 3) (v :: st)) : aW p l e R s m args below meth c cells slots Q D cl A ad nL hp L (pc) (st) :=
  fun H locs ls h1 h2 h3 h4 => va_getsN F.1.1 F.1.2.1 hZ h3 F.1.2.2.2.1 (va_Nw.use rfl hlk) (fun _ h9 => h9) hd (k H locs ls h1 h2 h3 h4)
theorem aw_ti {t n : Nat} {f : Nat → Value} {i : Int32} {v : Value} (F : aw_F p s m c args cc nL Ts own D cl tys) (hT : va_T .int t n f A s s.heap) (hin : vp_in i n) (hv : f i.toNatClampNeg = v) (hd : decode cc pc = .ok (.iaload, 1)) (k : aW p l e R s m args below meth c cells slots Q D cl A ad nL hp L (pc + 1) (v :: st)) : aW p l e R s m args below meth c cells slots Q D cl A ad nL hp L (pc) (.int i :: .ref t :: st) :=
  fun H locs ls h1 h2 h3 h4 => va_ti F.1.1 F.1.2.1 hT h3 hin hv hd (k H locs ls h1 h2 h3 h4)
theorem aw_tlen {t n : Nat} {f : Nat → Value} {v : Int32} (F : aw_F p s m c args cc nL Ts own D cl tys) (hT : va_T .int t n f A s s.heap) (hv : Int32.ofNat n = v) (hd : decode cc pc = .ok (.arraylength, 1)) (k : aW p l e R s m args below meth c cells slots Q D cl A ad nL hp L (pc + 1) (.int v :: st)) : aW p l e R s m args below meth c cells slots Q D cl A ad nL hp L (pc) (.ref t :: st) :=
  fun H locs ls h1 h2 h3 h4 => va_tlen F.1.1 F.1.2.1 hT h3 hv hd (k H locs ls h1 h2 h3 h4)
theorem aw_mmax {index : Nat} {x y : Int32} (F : aw_F p s m c args cc nL Ts own D cl tys) (hlk : Cond.methodLink own index Lib.Math.max.name ∈ Ts) (hst : Cond.static Lib.Math.max.name ∈ Ts) (hin : Cond.initialized "java/lang/Math" ∈ Ts) (hco : Cond.code Lib.Math.max.name Lib.Math.max.code 2 (some .int) ∈ Ts) (hfr : 1 ≤ R.frames) (hlo : (st.map fun v => v.category).sum + 13 ≤ R.locals) (hcs : cells ≤ R.cells ∧ slots ≤ R.slots) (hd : decode cc pc = .ok (.invokestatic index, 3)) (k : aW p l e R s m args below meth c cells slots Q D cl A ad nL hp L (pc + 3) (.int (if x < y then y else x) :: st)) : aW p l e R s m args below meth c cells slots Q D cl A ad nL hp L (pc) (.int y :: .int x :: st) :=
  fun H locs ls h1 h2 h3 h4 => va_mmax F.1.1 F.1.2.1 (by rw [F.1.2.2.1]; exact h4.1.symm) F.1.2.2.2.1 (F.1.2.2.2.2 _ hlk) (F.1.2.2.2.2 _ hst) (F.1.2.2.2.2 _ hin) (F.1.2.2.2.2 _ hco) hfr hlo hcs.1 hcs.2 hd (k H locs ls h1 h2 h3 h4)
def aw_Q (D : va_G) (cl : List vw_C) (A : Nat → Prop) (ad : Nat → Nat) (r : Option Value) (hp' : List va_E) : Array Value → State → Outcome → State → Prop := fun _ st oc t => (oc = .returned r ∧ va_P D cl (aw_ws ad hp') t.heap ∧ va_D A (aw_ws ad hp')) ∧ va_F A st t
theorem aw_iret {v w : Int32} (F : aw_F p s m c args cc nL Ts own D cl tys) (hr : meth.sig.returnType = some .int) (hlk : meth.locks = false) (hd : decode cc pc = .ok (.ireturn, 1)) (e1 : v = w) (e2 : hp = hp') : aW p l e R s m args below meth c cells slots (MQ below (aw_Q D cl A ad (some (.int w)) hp') args s cells slots A) D cl A ad nL hp L pc [.int v] := by
  intro H locs ls h1 h2 h3 h4
  subst e1; subst e2
  exact W.iret F.1.1 F.1.2.1 hr  (fun t ht hW => ⟨⟨rfl, by rw [ht]; exact h1, h2⟩, h3.F ht⟩) h3.2.2 hd hlk
theorem aw_zret {v w : Int32} (F : aw_F p s m c args cc nL Ts own D cl tys) (hr : meth.sig.returnType = some .boolean) (hlk : meth.locks = false) (hd : decode cc pc = .ok (.ireturn, 1)) (hz : narrow .boolean (.int v) = .int v) (e1 : v = w) (e2 : hp = hp') : aW p l e R s m args below meth c cells slots (MQ below (aw_Q D cl A ad (some (.int w)) hp') args s cells slots A) D cl A ad nL hp L pc [.int v] := by
  intro H locs ls h1 h2 h3 h4
  subst e1; subst e2
  exact W.zret F.1.1 F.1.2.1 hr hz (fun t ht hW => ⟨⟨rfl, by rw [ht]; exact h1, h2⟩, h3.F ht⟩) h3.2.2 hd hlk
theorem aw_lret {v w : Int64} (F : aw_F p s m c args cc nL Ts own D cl tys) (hr : meth.sig.returnType = some .long) (hlk : meth.locks = false) (hd : decode cc pc = .ok (.lreturn, 1)) (e1 : v = w) (e2 : hp = hp') : aW p l e R s m args below meth c cells slots (MQ below (aw_Q D cl A ad (some (.long w)) hp') args s cells slots A) D cl A ad nL hp L pc [.long v] := by
  intro H locs ls h1 h2 h3 h4
  subst e1; subst e2
  exact W.lret F.1.1 F.1.2.1 hr  (fun t ht hW => ⟨⟨rfl, by rw [ht]; exact h1, h2⟩, h3.F ht⟩) h3.2.2 hd hlk
theorem aw_vret  (F : aw_F p s m c args cc nL Ts own D cl tys) (hr : meth.sig.returnType = none) (hlk : meth.locks = false) (hd : decode cc pc = .ok (.return_, 1))  (e2 : hp = hp') : aW p l e R s m args below meth c cells slots (MQ below (aw_Q D cl A ad none hp') args s cells slots A) D cl A ad nL hp L pc [] := by
  intro H locs ls h1 h2 h3 h4
  subst e2
  exact W.vret F.1.1 F.1.2.1 hr  (fun t ht hW => ⟨⟨rfl, by rw [ht]; exact h1, h2⟩, h3.F ht⟩) h3.2.2 hd hlk
def aw_Zok (A : Nat → Prop) (Z : State → Prop) : Prop := ∀ s U : State, s.WarmedH U.vm → s.heap.size ≤ U.heap.size → (∀ q : Nat, q < s.heap.size → ¬ A q → U.heap[q]? = s.heap[q]?) → Z s → Z U
def aw_B (D : va_G) (cl : List vw_C) (tys : List (ClassId × FieldType)) (A : Nat → Prop) (ad : Nat → Nat) (Z : State → Prop) (hp : List va_E) (U : State) : Prop := va_P D cl (aw_ws ad hp) U.heap ∧ va_D A (aw_ws ad hp) ∧ va_K D cl tys U ∧ Z U
abbrev aw_rm (d : Nat) : Room := { frames := d, cells := 0, slots := 0, locals := 64 * d }
def aw_M (l : Launch) (y : MethodName) (ws : List Cond) (d : Nat) (D : va_G) (cl : List vw_C) (tys : List (ClassId × FieldType)) (A : Nat → Prop) (ad : Nat → Nat) (Z : State → Prop) (av : List Value) (hp : List va_E) (r : Option Value) (hp' : List va_E) : Prop :=
  Met l y ws (aw_rm d) (va_Pc av (aw_B D cl tys A ad Z hp)) (aw_Q D cl A ad r hp') 0 0 A
theorem aw_blind {Z : State → Prop} {av : List Value} (hZ : aw_Zok A Z) : FrameBlind (va_Pc av (aw_B D cl tys A ad Z hp)) := by
  intro a U g mk h
  obtain ⟨e, h1, h2, h3, h4⟩ := h
  exact ⟨e, h1, h2, va_K.moved (u := U) (U := U.calling g mk a) (Vm.Alike.refl U.vm) h3, hZ U (U.calling g mk a) (State.WarmedH.refl U) (Nat.le_refl _) (fun _ _ _ => rfl) h4⟩
theorem aw_pre {Z : State → Prop} {av : List Value} {H : Heap} {locs : List Loc} (F : aw_F p s m c args cc nL Ts own D cl tys) (hZ : aw_Zok A Z) (Zs : Z s) (h1 : va_P D cl (aw_ws ad hp) H) (h2 : va_D A (aw_ws ad hp)) (h3 : va_S A s.heap H locs) : ∀ U : State, U.heap = H → s.WarmedH U.vm → va_Pc av (aw_B D cl tys A ad Z hp) av.toArray U :=
  fun U hU hW => ⟨rfl, by rw [hU]; exact h1, h2, va_K.moved hW.alike F.2, hZ s U hW (by rw [hU]; exact h3.1) (fun q q1 q2 => by rw [hU]; exact h3.2.1 q q1 q2) Zs⟩
theorem aw_ran {H : Heap} {locs : List Loc} {ls : Array Slot} {st0 rest : List Value} {r : Option Value} {a : Array Value} (hr : va_Run p l e R s m args below meth c H locs cells slots 0 0 (F0 m pc ls st0) rest (aw_Q D cl A ad r hp' a) A) (h3 : va_S A s.heap H locs) (h4 : aw_L ls nL L)
    (k : aW p l e R s m args below meth c cells slots Q D cl A ad nL hp' L (pc + 3) (r.toList ++ rest)) : W p l e R s m args below meth c H locs cells slots Q (F0 m pc ls st0) := by
  intro T hT X
  obtain ⟨v, st₀, t, T', L9, h0, X', hL, e1, e2, ⟨⟨hv, hP1, hD1⟩, hz, hk⟩, go⟩ := hr T hT X
  cases hv
  rw [h0] at hz hk
  obtain ⟨t2, a1, b1⟩ := k T'.heap (locs ++ L9) ls (by rw [e1]; exact hP1) hD1 ⟨Nat.le_trans h3.1 (by rw [e1]; exact hz), fun q q1 q2 => by rw [e1, hk q (Nat.lt_of_lt_of_le q1 h3.1) q2]; exact h3.2.1 q q1 q2, fun q hq => (List.mem_append.mp hq).elim (h3.2.2 q) (hL q)⟩ h4 T' rfl X'
  exact ⟨t2, go _ a1, b1⟩
theorem aw_goV {Z : State → Prop} {y : MethodName} {bytes : ByteArray} {maxL n index d : Nat} {ret : Option FieldType} {ws : List Cond} {As rest st0 : List Value} {r : Option Value} {ci : Nat} {fs : List Value} {C : String} {T : u_T} {N : Nat} (F : aw_F p s m c args cc nL Ts own D cl tys) (hZ : aw_Zok A Z) (Zs : Z s) (k0 : Nat) (he : hp[k0]? = some (.inr (ci, fs))) (hc : cl[ci]? = some (C, T, N)) (hM : aw_M l y ws d D cl tys A ad Z (.ref (ad k0) :: As) hp r hp') (cw : CallW R s args own C index y bytes maxL ret ws (aw_rm d) 0 0 n) (hn : As.length = n) (hw : (rest.map fun v => v.category).sum ≤ 8) (hcs : cells ≤ R.cells ∧ slots ≤ R.slots) (hs0 : st0 = As.reverse ++ .ref (ad k0) :: rest) (hd : decode cc pc = .ok (.invokevirtual index, 3)) (k : aW p l e R s m args below meth c cells slots Q D cl A ad nL hp' L (pc + 3) (r.toList ++ rest)) : aW p l e R s m args below meth c cells slots Q D cl A ad nL hp L pc st0 := by
  intro H locs ls h1 h2 h3 h4
  exact aw_ran (va_runV (As := As) (rest := rest) F.1 hM cw ⟨aw_blind hZ, va_recv F.2 h1 hc (aw_ws_at he), aw_pre F hZ Zs h1 h2 h3⟩ rfl hn h4.1 hs0 (lv_room hw) hd hcs) h3 h4 k
theorem aw_goVN {host : String} {Z : State → Prop} {y : MethodName} {bytes : ByteArray} {maxL n index d : Nat} {ret : Option FieldType} {ws : List Cond} {As rest st0 : List Value} {r : Option Value} {ci : Nat} {fs : List Value} {C : String} {T : u_T} {N : Nat} (F : aw_F p s m c args cc nL Ts own D cl tys) (hZ : aw_Zok A Z) (Zs : Z s) (k0 : Nat) (he : hp[k0]? = some (.inr (ci, fs))) (hc : cl[ci]? = some (C, T, N)) (hM : aw_M l y ws d D cl tys A ad Z (.ref (ad k0) :: As) hp r hp') (cw : va_CN R s args own index y host bytes maxL ret ws (aw_rm d) 0 0 n ∧ (Cond.instanceMethod y).before args s = true ∧ (Cond.selects C y y).before args s = true) (hn : As.length = n) (hw : (rest.map fun v => v.category).sum ≤ 8) (hcs : cells ≤ R.cells ∧ slots ≤ R.slots) (hs0 : st0 = As.reverse ++ .ref (ad k0) :: rest) (hd : decode cc pc = .ok (.invokevirtual index, 3)) (k : aW p l e R s m args below meth c cells slots Q D cl A ad nL hp' L (pc + 3) (r.toList ++ rest)) : aW p l e R s m args below meth c cells slots Q D cl A ad nL hp L pc st0 := by
  intro H locs ls h1 h2 h3 h4
  exact aw_ran (va_runVN (As := As) (rest := rest) F.1 hM cw ⟨aw_blind hZ, va_recv F.2 h1 hc (aw_ws_at he), aw_pre F hZ Zs h1 h2 h3⟩ rfl hn h4.1 hs0 (lv_room hw) hd hcs) h3 h4 k
theorem aw_goS {Z : State → Prop} {y : MethodName} {bytes : ByteArray} {maxL n index d : Nat} {ret : Option FieldType} {ws : List Cond} {As rest st0 : List Value} {r : Option Value} (F : aw_F p s m c args cc nL Ts own D cl tys) (hZ : aw_Zok A Z) (Zs : Z s) (hM : aw_M l y ws d D cl tys A ad Z As hp r hp') (cw : CallB R s args own index y bytes maxL ret ws (aw_rm d) 0 0 n ∧ (Cond.static y).before args s = true) (hn : As.length = n) (hw : (rest.map fun v => v.category).sum ≤ 8) (hcs : cells ≤ R.cells ∧ slots ≤ R.slots) (hs0 : st0 = As.reverse ++ rest) (hd : decode cc pc = .ok (.invokestatic index, 3)) (k : aW p l e R s m args below meth c cells slots Q D cl A ad nL hp' L (pc + 3) (r.toList ++ rest)) : aW p l e R s m args below meth c cells slots Q D cl A ad nL hp L pc st0 := by
  intro H locs ls h1 h2 h3 h4
  exact aw_ran (va_runS (As := As) (rest := rest) F.1 hM cw ⟨aw_blind hZ, aw_pre F hZ Zs h1 h2 h3⟩ rfl hn h4.1 hs0 (lv_room hw) hd hcs) h3 h4 k
theorem aw_goSN {host : String} {Z : State → Prop} {y : MethodName} {bytes : ByteArray} {maxL n index d : Nat} {ret : Option FieldType} {ws : List Cond} {As rest st0 : List Value} {r : Option Value} (F : aw_F p s m c args cc nL Ts own D cl tys) (hZ : aw_Zok A Z) (Zs : Z s) (hM : aw_M l y ws d D cl tys A ad Z As hp r hp') (cw : va_CN R s args own index y host bytes maxL ret ws (aw_rm d) 0 0 n ∧ (Cond.static y).before args s = true ∧ True) (hn : As.length = n) (hw : (rest.map fun v => v.category).sum ≤ 8) (hcs : cells ≤ R.cells ∧ slots ≤ R.slots) (hs0 : st0 = As.reverse ++ rest) (hd : decode cc pc = .ok (.invokestatic index, 3)) (k : aW p l e R s m args below meth c cells slots Q D cl A ad nL hp' L (pc + 3) (r.toList ++ rest)) : aW p l e R s m args below meth c cells slots Q D cl A ad nL hp L pc st0 := by
  intro H locs ls h1 h2 h3 h4
  exact aw_ran (va_runSN (As := As) (rest := rest) F.1 hM cw ⟨aw_blind hZ, aw_pre F hZ Zs h1 h2 h3⟩ rfl hn h4.1 hs0 (lv_room hw) hd hcs) h3 h4 k
end AWR
theorem aw_ne {x k : Int32} {a : Int} (h : ¬ x = k) (hk : k.toInt = a) : x.toInt ≠ a := fun q => h (Int32.toInt_inj.mp (by rw [hk]; exact q))
/-- a method's contract out of the walk of its body -/
theorem aw_met {l : Launch} {y : MethodName} {ws ws' : List Cond} {d : Nat} {D : va_G} {cl : List vw_C} {tys : List (ClassId × FieldType)} {A : Nat → Prop} {ad : Nat → Nat} {Z : State → Prop} {av : List Value} {hp hp' : List va_E} {r : Option Value} (cc : ByteArray) (maxL : Nat) (ret : Option FieldType) (L0 : List (Option Value)) (hy : plainName y.cls = true) (hw : ws = Cond.code y cc maxL ret :: ws') (hl : (lg_sl av).length ≤ maxL) (hL : aw_ent av maxL = L0)
    (body : ∀ (p : Program) (e : Env) (s : State) (m : MethodId) (args : Array Value) (below : List Frame) (meth : Method) (c : Code), aw_F p s m c args cc maxL ws y.cls D cl tys → Z s → meth.sig.returnType = ret → meth.locks = false →
      aW p l e (aw_rm d) s m args below meth c 0 0 (MQ below (aw_Q D cl A ad r hp') args s 0 0 A) D cl A ad maxL hp L0 0 []) : aw_M l y ws d D cl tys A ad Z av hp r hp' := by
  refine Met.ofW (cc := cc) (maxL := maxL) (ret := ret) hy hw ?_
  intro p e s m args below meth c s₁ B hml hv
  obtain ⟨rfl, h1, h2, h3, h4⟩ := hv
  have hts := atoms_spec (ws := ws) B.pre
  have hown : s.vm.findClass y.cls = some m.cls := findClass_of_methodNamed B.named
  rw [lg_entry_eq]
  exact body p e s m av.toArray below meth c ⟨⟨B.exec, B.bytes, hml, hown, hts⟩, h3⟩ h4 B.returns B.notSynchronized s.heap [] _ h1 h2 va_S.rf (hL ▸ aw_entry av hl)
