section REFN2
variable {M : mT} {Y : yT} {z : Nat} {K : Nat → Nat}
theorem gPres_eq {S : gS} (hS : sK S = K) {k : Nat} {ng b : Bool} {A B : Bool → gM} : gPres k ng b A B S = if tst K k ng = 0 then B b S else if tst K k ng = 1 then A b S else gU (A false) (B false) S := by subst hS; rfl
theorem gSus_eq {S : gS} (hS : sK S = K) {k : Nat} {ng b lrn : Bool} {h sel : Nat → Bool} {A : Bool → gM} : gSus k ng b lrn h sel A S = if tst K k ng = 0 then A b S else if tst K k ng = 1 then (oS 1 b, if lrn then (sK S, fun p => sN S p || (sel p && h p), sL S) else if b then (sK S, fun p => if h p then sel p else sN S p, sL S) else S) else gU (A false) (gPu (oS 1 false)) S := by subst hS; rfl
theorem susL_no {n : Nat} {V : vT} {i su k : Int32} (h : su = 0) : (fm_susL (n + 1) M Y V i su k).2 = V := by
  rw [fm_susL]
  simp [h]
theorem sr_par {lim : Nat} {me : Nat → Nat} {st : Bool} {w : Nat} {b : Bool} {R : kmT} {i j1 j2 : Int32} {B B' : gM} (h : M.2 0 i.toNatClampNeg = (7 : Int32)) (F2 : M.2 2 i.toNatClampNeg = j1) (G2 : M.2 3 i.toNatClampNeg = j2) (sA : SR lim K (eV me st w) (fun V => fm_side R M Y V j1 (b2i st) (b2i b)) B) (sB : SR lim K (eV me st w) (fun V => fm_side R M Y V j2 (b2i st) (b2i b)) B') (hk : ∀ S, sK (B S).2 = sK S) (ok : ∀ S, oOk b (B S).1) (ok' : ∀ S, oOk b (B' S).1) (cp : ∀ S c, occ (B S).1 c = true → c < 7) (cq : ∀ S c, occ (B' S).1 c = true → c < 7) : SR lim K (eV me st w) (fun V => fm_run1 R M Y V i (b2i st) (b2i b)) (gPar B B') := by
  have e : ∀ V, fm_run1 R M Y V i (b2i st) (b2i b) = _ := fun V => (f1_7 h).trans (par_eq _ _ _ _ _ _ _)
  rw [F2, G2] at e
  have t := SR.two (f := fun x y => fm_outcome (fm_pairs (fm_canOf x) (fm_canOf y)) (if fm_mustOf x = (-1 : Int32) then -1 else if fm_mustOf y = (-1 : Int32) then -1 else if fm_mustOf x ≤ fm_mustOf y then fm_mustOf y else fm_mustOf x)) (h := oP) sA sB eV_keep hk (fun S x y a d => oR_par (ok _) (ok' _) (cp _) (cq _) a d) oP_fl
  intro V S m0 c0 hV hS hv
  have q := t V S m0 c0 hV hS hv
  dsimp only at q ⊢
  rw [e V]
  exact q
set_option maxHeartbeats 4000000 in
theorem sr_run (hF : mF M z) (hK : ∀ k, k < 16 + 27 * z → Y.2 2 k = Int32.ofNat (K k) ∧ K k ≤ 2) (hY : ∀ p, p < 32 → Y.2 0 p = b2i (ysel Y p)) : ∀ (n : Nat) (me : Nat → Nat) (i : Nat) (st : Bool) (w : Nat) (b : Bool), i < z → z ≤ i + n → w < 26 → (∀ s, me s < 16 + 27 * i) → (st = false → ghas (gOf M Y z) i = true) → SR (16 + 27 * z) K (eV me st w) (fun V => fm_run n M Y V (Int32.ofNat i) (b2i st) (b2i b)) (ge (gOf M Y z) false n me i st w b) := by
  intro n
  induction n with
  | zero => intro me i st w b hi hn; omega
  | succ n ih =>
    intro me i st w b hi hn hw hme hh
    have hz := hF.1
    have hW := gW_of (Y := Y) hF
    have hTb : ∀ (me : Nat → Nat) (i : Nat) (st : Bool) (w : Nat) (b : Bool), i < z → ∀ S c, occ (ge (gOf M Y z) false n me i st w b S).1 c = true → c < 7 := fun me i st w b hi S c hc => by
      have a := ge_cc hW (gT_of (Y := Y) hF) false n me i st w b hi S c hc
      have := (hF.2.1 i hi).2.2.2.1.1
      omega
    have ok := fun (me : Nat → Nat) (i : Nat) (st : Bool) (w : Nat) (b : Bool) (S : gS) => ge_ok (gOf M Y z) false n me i st w b S
    have kk := fun (me : Nat → Nat) (i : Nat) (st : Bool) (w : Nat) (b : Bool) (hi : i < z) (hw : w < 26) (S : gS) => ((ge_fr hW false n me i st w b hi hw S).2.2.2 rfl).1
    obtain ⟨⟨s1, s2⟩, ⟨e1, e2, e3⟩, ⟨d1, d2⟩, ⟨t1, t2⟩, ⟨p1, p2⟩, x1, x2, l1, o1, w2, -⟩ := hF.2.1 i hi
    have hni := n_of (show i < 2147483648 by omega)
    have hM0 : M.2 0 (Int32.ofNat i).toNatClampNeg = Int32.ofNat (mso M i) := by rw [hni]; exact s1
    have hH := gH_of (Y := Y) hF i hi
    have me1 : ∀ s, me s < 16 + 27 * (i + 1) := fun s => by have := hme s; omega
    show SR (16 + 27 * z) K (eV me st w) (fun V => fm_run1 (fm_run n M Y) M Y V (Int32.ofNat i) (b2i st) (b2i b)) (ge1 (gOf M Y z) false (ge (gOf M Y z) false n) me i st w b)
    have sec : m2p (mso M i) → gsec (gOf M Y z) i = men M (i + 1) := fun h => by
      show (M.2 3 i).toNatClampNeg = _
      have := w2 h
      rw [this.2.1, n_of (by omega)]
    have has1 : (gso (gOf M Y z) i = 5 ∨ gso (gOf M Y z) i = 8 ∨ gso (gOf M Y z) i = 9 ∨ gso (gOf M Y z) i = 10) → st = false → ghas (gOf M Y z) (i + 1) = true := fun h q => has_sub (fun p r => by rw [hH.2.2.1 h]; exact r) (hh q)
    have F1 : m1p (mso M i) → M.2 2 (Int32.ofNat i).toNatClampNeg = Int32.ofNat (i + 1) := fun h => by rw [hni]; exact (o1 h).1
    have F2 : m2p (mso M i) → M.2 2 (Int32.ofNat i).toNatClampNeg = Int32.ofNat (i + 1) := fun h => by rw [hni]; exact (w2 h).1
    have G2 : m2p (mso M i) → M.2 3 (Int32.ofNat i).toNatClampNeg = Int32.ofNat (gsec (gOf M Y z) i) := fun h => by rw [hni, sec h]; exact (w2 h).2.1
    have Lz : m1p (mso M i) → i + 1 < z := fun h => (o1 h).2.2.1
    have La : m2p (mso M i) → i + 1 < z := fun h => by have := w2 h; omega
    have Lb : m2p (mso M i) → gsec (gOf M Y z) i < z ∧ i + 1 < gsec (gOf M Y z) i := fun h => by rw [sec h]; have := w2 h; omega
    have meb : m2p (mso M i) → ∀ s, me s < 16 + 27 * gsec (gOf M Y z) i := fun h s => by have := hme s; have := Lb h; omega
    refine ge1_c2 (fun B _ => SR (16 + 27 * z) K (eV me st w) (fun V => fm_run1 (fm_run n M Y) M Y V (Int32.ofNat i) (b2i st) (b2i b)) B) (gOf M Y z) false false (ge (gOf M Y z) false n) (ge (gOf M Y z) false n) me i st w b b ?_ ?_ ?_ ?_ ?_ ?_ ?_ ?_ ?_ ?_ ?_ ?_ ?_ ?_ ?_ ?_ ?_
    · intro h
      have h' : mso M i = 10 := h
      have hp : m1p (mso M i) := by unfold m1p; omega
      simp only [f1_10 (hM0.trans (by rw [h']; rfl))]
      show SR _ _ _ _ (ge (gOf M Y z) false n (upN me (mxo M i) (slt i st w)) (i + 1) st w b)
      refine sr_local hF hK hi h' hw (ih _ (i + 1) st w b (Lz hp) (by omega) hw (fun s => ?_) (fun q => has1 (by omega) q))
      by_cases e : s = mxo M i
      · simp only [upN, if_pos e, slt]; split <;> omega
      · simp only [upN, if_neg e]; exact me1 s
    · intro h
      have h' : mso M i = 9 := h
      have hp : m1p (mso M i) := by unfold m1p; omega
      simp only [f1_9 (hM0.trans (by rw [h']; rfl))]
      exact sr_trap hF hi h' (fun S => ok _ _ _ _ _ S) (fun S => hTb _ _ _ _ _ (Lz hp) S) (ih me (i + 1) st w b (Lz hp) (by omega) hw me1 (fun q => has1 (by omega) q))
    · intro h hs
      subst hs
      have h' : mso M i = 1 := h
      have eA : ∀ V, fm_run1 (fm_run n M Y) M Y V (Int32.ofNat i) (b2i true) (b2i b) = (fm_outcome (cE (occ (oS 1 b))) (mN (omc (oS 1 b))), if b = true then v2w V 0 (mps M i) 1 else V) := fun V => by
        refine (f1_1 (hM0.trans (by rw [h']; rfl))).trans ?_
        rw [simple_eq hF hi (Or.inr (Or.inl h')) V b]
        simp [h']
      simp only [eA]
      intro V S m0 c0 hV hS hv
      refine ⟨rfl, ?_, fun s hs => ?_, ?_, fun _ q => ?_⟩
      · dsimp only; split <;> rfl
      · dsimp only; split
        · rw [v2w_ne _ _ _ (by decide)]
        · rfl
      · obtain ⟨p0, -, hp0⟩ := hH.2.1 h
        have hpp : ∀ p, mhp M z i p = decide (p = mps M i) := fun p => by
          have a := hp0 p
          have a2 : mhp M z i (mps M i) = true := mhp_iff.mpr ⟨(p1 h').2, i, hi, Nat.le_refl _, e2, (p1 h').1⟩
          have a3 : mhp M z i (mps M i) = decide (mps M i = p0) := hp0 (mps M i)
          rw [a3, decide_eq_true_eq] at a2
          rw [a2]; exact a
        unfold gPs
        dsimp only
        cases b with
        | true =>
          simp only [if_true, Bool.or_true]
          refine ⟨fun k hk => ?_, fun k hk => ?_, fun p hp => ?_⟩
          · rw [v2w_ne _ _ _ (by decide), hv.1 k hk]; simp [omf, oS]
          · rw [v2w_ne _ _ _ (by decide), hv.2.1 k hk]; simp [ocf, oS]
          · rw [v2w_at, hv.2.2 p hp]
            show _ = b2i (sN S p || mhp M z i p)
            rw [hpp p]
            by_cases e : p = mps M i
            · simp [e, b2i]
            · simp [e]
        | false =>
          simp only [Bool.false_eq_true, if_false, Bool.or_false]
          exact hv.cg (fun k => by simp [omf, oS]) (fun k => by simp [ocf, oS]) (fun _ => rfl)
      · dsimp only; split <;> exact q
    · intro h hs
      subst hs
      have h' : mso M i = 2 := h
      obtain ⟨y1, y2, y3⟩ := x1 (Or.inl h')
      have hx := n_of (show mxo M i < 2147483648 by omega)
      simp only [f1_2 (hM0.trans (by rw [h']; rfl))]
      intro V S m0 c0 hV hS hv
      have hmx := hme (mxo M i)
      have em : V.2 3 (mxo M i) = Int32.ofNat (me (mxo M i)) := hV.1 _ y3
      have en := n_of (show me (mxo M i) < 2147483648 by omega)
      have eC : fm_simC M (Int32.ofNat i) (b2i b) = 0 := by
        unfold fm_simC
        rw [hM0, h']; rfl
      have eS : fm_simple M V (Int32.ofNat i) (b2i b) = (fm_outcome (cE (occ (oE (me (mxo M i)) b))) (mN (omc (oE (me (mxo M i)) b))), v2w (v2w V 2 (me (mxo M i)) 1) 1 (me (mxo M i)) (b2i (m0 (me (mxo M i)) || b))) := by
        have eE : fm_simE M V (Int32.ofNat i) (b2i b) 0 = v2w (v2w V 2 (me (mxo M i)) 1) 1 (me (mxo M i)) (b2i (m0 (me (mxo M i)) || b)) := by
          unfold fm_simE
          rw [hM0, hni, y1, hx, em, en, if_pos (by rw [h']; rfl), v2w_ne _ _ _ (by decide), v2w_ne _ _ _ (by decide), em, en, hv.1 _ (by omega)]
          cases m0 (me (mxo M i)) with
          | true => rw [if_neg (by decide)]; rfl
          | false =>
            rw [if_pos (by decide)]
            cases b with
            | true => rw [if_neg (by decide)]; rfl
            | false => rw [if_pos (by decide)]; rfl
        have eP : ∀ W : vT, fm_simP M W (Int32.ofNat i) (b2i b) 0 = W := fun W => by
          unfold fm_simP
          rw [hM0, if_neg (by rw [h']; decide)]
        have := oR_S (c := 0) (by decide) b
        unfold fm_simple
        rw [eC, eE, eP]
        have e9 : fm_outcome (cE (occ (oE (me (mxo M i)) b))) (mN (omc (oE (me (mxo M i)) b))) = fm_outcome (cE (occ (oS 0 b))) (mN (omc (oS 0 b))) := rfl
        rw [e9, ← this]
        cases b <;> rfl
      dsimp only
      rw [eS]
      refine ⟨rfl, rfl, fun s hs => by dsimp only; rw [v2w_ne _ _ _ (by decide), v2w_ne _ _ _ (by decide)], ⟨fun k hk => ?_, fun k hk => ?_, fun p hp => ?_⟩, fun _ q => q⟩
      · dsimp only
        rw [v2w_at, v2w_ne _ _ _ (by decide), hv.1 k hk]
        show _ = b2i (m0 k || (b && decide (k = me (mxo M i))))
        by_cases e : k = me (mxo M i)
        · simp [e]
        · simp [e]
      · dsimp only
        rw [v2w_ne _ _ _ (by decide), v2w_at, hv.2.1 k hk]
        show _ = b2i (c0 k || decide (k = me (mxo M i)))
        by_cases e : k = me (mxo M i)
        · simp [e, b2i]
        · simp [e]
      · dsimp only
        rw [v2w_ne _ _ _ (by decide), v2w_ne _ _ _ (by decide), hv.2.2 p hp]; rfl
    · intro h hs
      have h' : mso M i = 3 := h
      simp only [f1_3 (hM0.trans (by rw [h']; rfl))]
      refine SR.pure (fun V _ => ?_) (fun k => by simp [omf, oS]) (fun k => by simp [ocf, oS])
      rw [simple_eq hF hi (Or.inr (Or.inr h')) V b]
      simp [h']
      rfl
    · intro h hs
      subst hs
      have h' : mso M i = 4 := h
      have hp : m2p (mso M i) := by unfold m2p; omega
      simp only [f1_4 (hM0.trans (by rw [h']; rfl))]
      have hA := fun d => ih me (i + 1) true w d (La hp) (by omega) hw me1 (fun q => by cases q)
      have hB := fun d => ih me (gsec (gOf M Y z) i) true w d (Lb hp).1 (by have := (Lb hp).2; omega) hw (meb hp) (fun q => by cases q)
      intro V S m0 c0 hV hS hv
      have et := test_eq hF hK hi (Or.inl h') hme hV
      have hkx := (hK (me (mxo M i)) (by have := hme (mxo M i); omega)).2
      have htl := tst_lt (ng := mng M i) hkx
      have e2' : ∀ t : Nat, t ≤ 2 → (Int32.ofNat (tst K (me (mxo M i)) (mng M i)) = Int32.ofNat t ↔ tst K (me (mxo M i)) (mng M i) = t) := fun t ht => ⟨fun q => o_inj (by omega) (by omega) q, fun q => by rw [q]⟩
      have eP : fm_present (fm_run n M Y) M Y V (Int32.ofNat i) (b2i true) (b2i b) = if tst K (me (mxo M i)) (mng M i) = 0 then fm_run n M Y V (Int32.ofNat (gsec (gOf M Y z) i)) (b2i true) (b2i b) else if tst K (me (mxo M i)) (mng M i) = 1 then fm_run n M Y V (Int32.ofNat (i + 1)) (b2i true) (b2i b) else (fm_outcome (fm_canOf (fm_run n M Y V (Int32.ofNat (i + 1)) (b2i true) (b2i false)).1 ||| fm_canOf (fm_run n M Y (fm_run n M Y V (Int32.ofNat (i + 1)) (b2i true) (b2i false)).2 (Int32.ofNat (gsec (gOf M Y z) i)) (b2i true) (b2i false)).1) (-1), (fm_run n M Y (fm_run n M Y V (Int32.ofNat (i + 1)) (b2i true) (b2i false)).2 (Int32.ofNat (gsec (gOf M Y z) i)) (b2i true) (b2i false)).2) := by
        unfold fm_present
        rw [F2 hp, G2 hp, if_neg (by decide), hni, et]
        have : tst K (me (mxo M i)) (mng M i) = 0 ∨ tst K (me (mxo M i)) (mng M i) = 1 ∨ tst K (me (mxo M i)) (mng M i) = 2 := by omega
        rcases this with q | q | q <;> rw [q] <;> rfl
      dsimp only
      rw [eP, gPres_eq hS]
      by_cases t0 : tst K (me (mxo M i)) (mng M i) = 0
      · have t0' : tst K (me (gxo (gOf M Y z) i)) (gng (gOf M Y z) i) = 0 := t0
        rw [if_pos t0, if_pos t0']
        exact hB b V S m0 c0 hV hS hv
      · have t0' : ¬ tst K (me (gxo (gOf M Y z) i)) (gng (gOf M Y z) i) = 0 := t0
        rw [if_neg t0, if_neg t0']
        by_cases t1 : tst K (me (mxo M i)) (mng M i) = 1
        · have t1' : tst K (me (gxo (gOf M Y z) i)) (gng (gOf M Y z) i) = 1 := t1
          rw [if_pos t1, if_pos t1']
          exact hA b V S m0 c0 hV hS hv
        · have t1' : ¬ tst K (me (gxo (gOf M Y z) i)) (gng (gOf M Y z) i) = 1 := t1
          rw [if_neg t1, if_neg t1']
          exact SR.two (f := fun x y => fm_outcome (fm_canOf x ||| fm_canOf y) (-1)) (h := oU) (hA false) (hB false) eV_keep (fun S => kk _ _ _ _ _ (La hp) hw S) (fun S x y a b => oR_U (ok _ _ _ _ _ _) (ok _ _ _ _ _ _) a b.can) oU_fl V S m0 c0 hV hS hv
    · intro h hs
      subst hs
      have h' : mso M i = 5 ∨ mso M i = 8 := h
      have hp : m1p (mso M i) := by unfold m1p; omega
      have hA := ih me (i + 1) true w b (Lz hp) (by omega) hw me1 (fun q => by cases q)
      have e : ∀ V, fm_run1 (fm_run n M Y) M Y V (Int32.ofNat i) (b2i true) (b2i b) = fm_run n M Y V (Int32.ofNat (i + 1)) (b2i true) (b2i b) := fun V => by
        rcases h' with q | q
        · rw [f1_5 (hM0.trans (by rw [q]; rfl))]
          unfold fm_suspend fm_susT
          rw [F1 hp, if_neg (by decide : ¬ b2i true = 0), if_pos rfl]
        · have := f1_8 (R := fm_run n M Y) (Y := Y) (V := V) (su := b2i b) (hM0.trans (by rw [q]; rfl))
          rw [F1 hp] at this
          exact this
      simp only [e]
      exact hA
    · intro h hs
      subst hs
      have h' : mso M i = 6 := h
      have hp : m2p (mso M i) := by unfold m2p; omega
      have e : ∀ V, fm_run1 (fm_run n M Y) M Y V (Int32.ofNat i) (b2i true) (b2i b) = fm_behind (fm_run n M Y) M (fm_run n M Y V (Int32.ofNat (i + 1)) (b2i true) (b2i b)).2 (Int32.ofNat i) (fm_run n M Y V (Int32.ofNat (i + 1)) (b2i true) (b2i b)).1 (Int32.ofNat (gsec (gOf M Y z) i)) (b2i true) (b2i b) := fun V => by
        have := f1_6 (R := fm_run n M Y) (Y := Y) (V := V) (su := b2i b) (hM0.trans (by rw [h']; rfl))
        rw [F2 hp, G2 hp] at this
        exact this
      simp only [e]
      exact SR.behind (w2 := w) (ih me (i + 1) true w b (La hp) (by omega) hw me1 (fun q => by cases q)) (fun d => ih me (gsec (gOf M Y z) i) true w d (Lb hp).1 (by have := (Lb hp).2; omega) hw (meb hp) (fun q => by cases q)) (fun S => ok _ _ _ _ _ S) (fun d S => ok _ _ _ _ d S) (fun S => kk _ _ _ _ _ (La hp) hw S) (fun _ => rfl) (fun q => by cases q)
    · intro h hs
      subst hs
      have h' : mso M i = 7 := h
      have hp : m2p (mso M i) := by unfold m2p; omega
      have sA := sr_side (Y := Y) (K := K) (Rg := ge (gOf M Y z) false n) (R := fm_run n M Y) (me := me) (st := true) (w := w) (b := b) hF (La hp) (fun _ => ih me (i + 1) true w b (La hp) (by omega) hw me1 (fun q => by cases q))
      have sB := sr_side (Y := Y) (K := K) (Rg := ge (gOf M Y z) false n) (R := fm_run n M Y) (me := me) (st := true) (w := w) (b := b) hF (Lb hp).1 (fun _ => ih me (gsec (gOf M Y z) i) true w b (Lb hp).1 (by have := (Lb hp).2; omega) hw (meb hp) (fun q => by cases q))
      rw [if_pos rfl] at sA sB
      exact sr_par (hM0.trans (by rw [h']; rfl)) (F2 hp) (G2 hp) sA sB (fun S => kk _ _ _ _ _ (La hp) hw S) (fun S => ok _ _ _ _ _ S) (fun S => ok _ _ _ _ _ S) (fun S => hTb _ _ _ _ _ (La hp) S) (fun S => hTb _ _ _ _ _ (Lb hp).1 S)
    · intro h hs
      have h' : mso M i = 0 := by
        have : mso M i = 0 ∨ 10 < mso M i := h
        omega
      simp only [f1_0 (hM0.trans (by rw [h']; rfl))]
      refine SR.pure (fun V _ => ?_) (fun k => by simp [omf, oS]) (fun k => by simp [ocf, oS])
      rw [simple_eq hF hi (Or.inl h') V b]
      simp [h']
    · intro h hs
      subst hs
      have h' : (mso M i = 4 ∨ mso M i = 6) := h.1
      have hp : m2p (mso M i) := by unfold m2p; omega
      have h2 : gso (gOf M Y z) i = 4 ∨ gso (gOf M Y z) i = 6 ∨ gso (gOf M Y z) i = 7 := by
        rcases h.1 with q | q
        · exact Or.inl q
        · exact Or.inr (Or.inl q)
      have e : ∀ V, fm_run1 (fm_run n M Y) M Y V (Int32.ofNat i) (b2i false) (b2i b) = fm_run n M Y V (Int32.ofNat (gsec (gOf M Y z) i)) (b2i false) (b2i b) := fun V => by
        rcases h' with q | q
        · rw [f1_4 (hM0.trans (by rw [q]; rfl))]
          unfold fm_present
          rw [F2 hp, G2 hp, if_pos (by decide : b2i false = 0), has_eq hF (La hp), h.2, if_pos (by decide)]
          rfl
        · have := f1_6r (R := fm_run n M Y) (Y := Y) (V := V) (su := b2i b) (hM0.trans (by rw [q]; rfl))
          rw [F2 hp, G2 hp, has_eq hF (La hp), h.2, if_pos (by decide)] at this
          exact this
      simp only [e]
      exact ih me (gsec (gOf M Y z) i) false w b (Lb hp).1 (by have := (Lb hp).2; omega) hw (meb hp) (fun _ => has_or (fun p r => by
        rw [(hH.2.2.2 h2 p).1, Bool.or_eq_true] at r
        exact r) (hh rfl) h.2)
    · intro h hs
      subst hs
      have h' : mso M i = 4 := h.1
      have hp : m2p (mso M i) := by unfold m2p; omega
      have e : ∀ V, fm_run1 (fm_run n M Y) M Y V (Int32.ofNat i) (b2i false) (b2i b) = fm_run n M Y V (Int32.ofNat (i + 1)) (b2i false) (b2i b) := fun V => by
        rw [f1_4 (hM0.trans (by rw [h']; rfl))]
        unfold fm_present
        rw [F2 hp, G2 hp, if_pos (by decide : b2i false = 0), has_eq hF (La hp), h.2, if_neg (by decide)]
        rfl
      simp only [e]
      exact ih me (i + 1) false w b (La hp) (by omega) hw me1 (fun _ => h.2)
    · intro h hs
      subst hs
      have h' : mso M i = 5 := h
      have hp : m1p (mso M i) := by unfold m1p; omega
      simp only [f1_5 (hM0.trans (by rw [h']; rfl))]
      have hA := fun d => ih me (i + 1) false w d (Lz hp) (by omega) hw me1 (fun q => has1 (by omega) q)
      intro V S m0 c0 hV hS hv
      have et := test_eq hF hK hi (Or.inr h') hme hV
      have hkx := (hK (me (mxo M i)) (by have := hme (mxo M i); omega)).2
      have htl := tst_lt (ng := mng M i) hkx
      have eT : fm_susT M Y V (Int32.ofNat i) (b2i false) (b2i b) = Int32.ofNat (tst K (me (mxo M i)) (mng M i)) := by
        unfold fm_susT
        rw [if_pos (by decide), hni, et]
      have eP : fm_suspend (fm_run n M Y) M Y V (Int32.ofNat i) (b2i false) (b2i b) = if tst K (me (mxo M i)) (mng M i) = 0 then fm_run n M Y V (Int32.ofNat (i + 1)) (b2i false) (b2i b) else if tst K (me (mxo M i)) (mng M i) = 1 then (fm_outcome 2 (if b then 1 else -1), (fm_susL 121 M Y V (Int32.ofNat i) (b2i b) (Int32.ofNat i)).2) else (fm_outcome (fm_canOf (fm_run n M Y V (Int32.ofNat (i + 1)) (b2i false) (b2i false)).1 ||| (2 : Int32)) (-1), (fm_run n M Y V (Int32.ofNat (i + 1)) (b2i false) (b2i false)).2) := by
        unfold fm_suspend
        rw [F1 hp, eT]
        have : tst K (me (mxo M i)) (mng M i) = 0 ∨ tst K (me (mxo M i)) (mng M i) = 1 ∨ tst K (me (mxo M i)) (mng M i) = 2 := by omega
        rcases this with q | q | q <;> rw [q]
        · rfl
        · cases b <;> rfl
        · rfl
      dsimp only
      rw [eP, gSus_eq hS]
      by_cases t0 : tst K (me (mxo M i)) (mng M i) = 0
      · have t0' : tst K (me (gxo (gOf M Y z) i)) (gng (gOf M Y z) i) = 0 := t0
        rw [if_pos t0, if_pos t0']
        exact hA b V S m0 c0 hV hS hv
      · have t0' : ¬ tst K (me (gxo (gOf M Y z) i)) (gng (gOf M Y z) i) = 0 := t0
        rw [if_neg t0, if_neg t0']
        by_cases t1 : tst K (me (mxo M i)) (mng M i) = 1
        · have t1' : tst K (me (gxo (gOf M Y z) i)) (gng (gOf M Y z) i) = 1 := t1
          rw [if_pos t1, if_pos t1']
          have lp : nLoop V (fm_susL 121 M Y V (Int32.ofNat i) (b2i b) (Int32.ofNat i)).2 (fun p => b && hpr M z i i p) (fun p => vp_nar .boolean (Y.2 0 p)) := by
            cases b with
            | true => simpa using susL_eq (Y := Y) hF hi (su := b2i true) (by decide) 121 i V (by omega) (by omega)
            | false =>
              have : (fm_susL 121 M Y V (Int32.ofNat i) (b2i false) (Int32.ofNat i)).2 = V := susL_no (n := 120) rfl
              rw [this]
              exact ⟨rfl, fun _ _ => rfl, fun p hp => by simp⟩
          obtain ⟨q1, q2, q3⟩ := lp
          refine ⟨?_, by rw [q1], fun s hs => by rw [q2 3 (by decide)], ⟨fun k hk => ?_, fun k hk => ?_, fun p hp => ?_⟩, fun _ r => by rw [q1]; exact r⟩
          · exact (oR_S (c := 1) (by decide) b).symm ▸ (by cases b <;> rfl)
          · rw [q2 1 (by decide), hv.1 k hk]; simp [omf, oS]
          · rw [q2 2 (by decide), hv.2.1 k hk]; simp [ocf, oS]
          · rw [q3 p hp]
            simp only [hpr_self hp, hv.2.2 p hp, hY p hp, b2i_nar]
            cases b with
            | true =>
              simp only [Bool.true_and, Bool.false_eq_true, if_false, if_true]
              show _ = b2i (if mhp M z i p = true then ysel Y p else sN S p)
              split <;> rfl
            | false => simp
        · have t1' : ¬ tst K (me (gxo (gOf M Y z) i)) (gng (gOf M Y z) i) = 1 := t1
          rw [if_neg t1, if_neg t1']
          obtain ⟨a1, a2, a3, a4, a5⟩ := hA false V S m0 c0 hV hS hv
          refine ⟨?_, a2, a3, a4.cg (fun k => ?_) (fun k => ?_) (fun _ => rfl), a5⟩
          · have := oR_U (x := (fm_run n M Y V (Int32.ofNat (i + 1)) (b2i false) (b2i false)).1) (y := fm_outcome 2 (-1)) (ok me (i + 1) false w false S) (oS_ok 1 false) a1 (by decide)
            exact this
          · show (m0 k || (omf _ k || false)) = _
            simp
          · show (c0 k || (ocf _ k || false)) = _
            simp
    · intro h hs
      subst hs
      have h' : mso M i = 6 := h.1
      have hp : m2p (mso M i) := by unfold m2p; omega
      have e : ∀ V, fm_run1 (fm_run n M Y) M Y V (Int32.ofNat i) (b2i false) (b2i b) = fm_behind (fm_run n M Y) M (fm_run n M Y V (Int32.ofNat (i + 1)) (b2i false) (b2i b)).2 (Int32.ofNat i) (fm_run n M Y V (Int32.ofNat (i + 1)) (b2i false) (b2i b)).1 (Int32.ofNat (gsec (gOf M Y z) i)) (b2i false) (b2i b) := fun V => by
        have := f1_6r (R := fm_run n M Y) (Y := Y) (V := V) (su := b2i b) (hM0.trans (by rw [h']; rfl))
        rw [F2 hp, G2 hp, has_eq hF (La hp), h.2, if_neg (by decide)] at this
        exact this
      simp only [e]
      exact SR.behind (w2 := 1 + mdp M i) (ih me (i + 1) false w b (La hp) (by omega) hw me1 (fun _ => h.2)) (fun d => ih me (gsec (gOf M Y z) i) true (1 + mdp M i) d (Lb hp).1 (by have := (Lb hp).2; omega) (by omega) (meb hp) (fun q => by cases q)) (fun S => ok _ _ _ _ _ S) (fun d S => ok _ _ _ _ d S) (fun S => kk _ _ _ _ _ (La hp) hw S) (fun q => by cases q) (fun _ => by rw [hni, d1]; exact (Int32.ofNat_add 1 (mdp M i)).symm)
    · intro h hs
      subst hs
      have h' : mso M i = 7 := h
      have hp : m2p (mso M i) := by unfold m2p; omega
      have sA := sr_side (Y := Y) (K := K) (Rg := ge (gOf M Y z) false n) (R := fm_run n M Y) (me := me) (st := false) (w := w) (b := b) hF (La hp) (fun q => ih me (i + 1) false w b (La hp) (by omega) hw me1 q)
      have sB := sr_side (Y := Y) (K := K) (Rg := ge (gOf M Y z) false n) (R := fm_run n M Y) (me := me) (st := false) (w := w) (b := b) hF (Lb hp).1 (fun q => ih me (gsec (gOf M Y z) i) false w b (Lb hp).1 (by have := (Lb hp).2; omega) hw (meb hp) q)
      rw [if_neg (by decide)] at sA sB
      have okb : ∀ j S, oOk b (gBr (gOf M Y z) (ge (gOf M Y z) false n) me j w b S).1 := fun j S => by
        unfold gBr
        by_cases hx : ghas (gOf M Y z) j = true
        · rw [if_pos hx]; exact ok _ _ _ _ _ S
        · rw [if_neg hx]; exact oS_ok 0 b
      have cb : ∀ j, j < z → ∀ S c, occ (gBr (gOf M Y z) (ge (gOf M Y z) false n) me j w b S).1 c = true → c < 7 := fun j hj S c hc => by
        unfold gBr at hc
        by_cases hx : ghas (gOf M Y z) j = true
        · rw [if_pos hx] at hc; exact hTb _ _ _ _ _ hj _ _ hc
        · rw [if_neg hx] at hc
          have : c = 0 := by simpa [gPu, occ, oS] using hc
          omega
      have kb : ∀ j, j < z → ∀ S, sK (gBr (gOf M Y z) (ge (gOf M Y z) false n) me j w b S).2 = sK S := fun j hj S => by
        unfold gBr
        by_cases hx : ghas (gOf M Y z) j = true
        · rw [if_pos hx]; exact kk _ _ _ _ _ hj hw S
        · rw [if_neg hx]; rfl
      exact sr_par (hM0.trans (by rw [h']; rfl)) (F2 hp) (G2 hp) sA sB (kb _ (La hp)) (okb _) (okb _) (cb _ (La hp)) (cb _ (Lb hp).1)
    · intro h hs
      subst hs
      have h' : mso M i = 8 := h
      have hp : m1p (mso M i) := by unfold m1p; omega
      have e : ∀ V, fm_run1 (fm_run n M Y) M Y V (Int32.ofNat i) (b2i false) (b2i b) = fm_behind (fm_run n M Y) M (fm_run n M Y V (Int32.ofNat (i + 1)) (b2i false) (b2i b)).2 (Int32.ofNat i) (fm_run n M Y V (Int32.ofNat (i + 1)) (b2i false) (b2i b)).1 (Int32.ofNat (i + 1)) (b2i false) (b2i b) := fun V => by
        have := f1_8r (R := fm_run n M Y) (Y := Y) (V := V) (su := b2i b) (hM0.trans (by rw [h']; rfl))
        rw [F1 hp] at this
        exact this
      simp only [e]
      exact SR.behind (w2 := 1 + mdp M i) (ih me (i + 1) false w b (Lz hp) (by omega) hw me1 (fun q => has1 (by omega) q)) (fun d => ih me (i + 1) true (1 + mdp M i) d (Lz hp) (by omega) (by omega) me1 (fun q => by cases q)) (fun S => ok _ _ _ _ _ S) (fun d S => ok _ _ _ _ d S) (fun S => kk _ _ _ _ _ (Lz hp) hw S) (fun q => by cases q) (fun _ => by rw [hni, d1]; exact (Int32.ofNat_add 1 (mdp M i)).symm)
    · intro h hs
      subst hs
      have h' : mso M i = 0 ∨ mso M i = 1 := by
        have q : mso M i < 4 ∨ 10 < mso M i := h
        have := fun r => no_has (Y := Y) hF hi r (hh rfl)
        have : ¬ (mso M i = 2 ∨ mso M i = 3) := this
        omega
      refine SR.pure (fun V _ => ?_) (fun k => by simp [omf, oS]) (fun k => by simp [ocf, oS])
      rcases h' with q | q
      · rw [f1_0 (hM0.trans (by rw [q]; rfl)), simple_eq hF hi (Or.inl q) V b]
        simp [q]
      · have := f1_1r (R := fm_run n M Y) (Y := Y) (V := V) (su := b2i b) (hM0.trans (by rw [q]; rfl))
        refine Eq.trans this ?_
        rw [← oR_S (c := 0) (by decide) b]
        cases b <;> rfl
end REFN2
