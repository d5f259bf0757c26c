section CRUN3
variable {P : pT} {M : mT} {Y : yT} {z : Nat} {bg : Bool} {me : Nat → Nat}
theorem SC.cg2 {A A' : xT → Int64 × xT} {B : gM} (h : SC P M Y z bg me A B) (e : ∀ X, X.1 2 = b2i (!bg) → (∀ p, p < 32 → xb (X.1 0) p = ysel Y p) → A' X = A X) : SC P M Y z bg me A' B := fun X S hX => by
  rw [e X hX.1.2.1 hX.1.1]; exact h X S hX
theorem run_9 {R : krT} {X : xT} {a r b : Int32} (h : fp_sortOf P a = (9 : Int32)) : fr_run1 R P X a r b = fr_runTrap R P X a r b := by unfold fr_run1; rw [h]; rfl
theorem run_10 {R : krT} {X : xT} {a r b : Int32} (h : fp_sortOf P a = (10 : Int32)) : fr_run1 R P X a r b = fr_runLocal R P X a r b := by unfold fr_run1; rw [h]; rfl
theorem run_beg (hF : mF M z) (hP : pF P M z) {R : krT} {X : xT} {i r w : Nat} {b : Int32} (hi : i < z) (h9 : mso M i ≠ 9) (h10 : mso M i ≠ 10) (hr : vr P M bg i r true w) (hb : X.1 2 = b2i (!bg)) : fr_run1 R P X (Int32.ofNat i) (Int32.ofNat r) b = fr_begin R P X (Int32.ofNat i) (Int32.ofNat r) b := by
  have hz := hF.1
  have hso := (hF.2.1 i hi).1.2
  have hlt := vr_lt hF hP hi hr
  have h360 := (hP.2 i hi).2.2.2.2.1.1
  have n9 : ¬ Int32.ofNat (mso M i) = (9 : Int32) := fun t => h9 (o_inj (b := 9) (by omega) (by omega) t)
  have n10 : ¬ Int32.ofNat (mso M i) = (10 : Int32) := fun t => h10 (o_inj (b := 10) (by omega) (by omega) t)
  unfold fr_run1
  rw [sort_at hF hP hi, if_neg n9, if_neg n10]
  by_cases h0 : Int32.ofNat r = 0
  · rw [if_pos h0]
    have r0 : r = 0 := o_inj (b := 0) (by omega) (by omega) h0
    have : bg = true := by
      rcases hr with ⟨-, q, -⟩ | ⟨-, a, q1, q2, -⟩
      · exact q.symm
      · have := vl_lt hF hP hi q1; omega
    rw [hb, this, if_pos (show b2i (!true) = 0 from rfl)]
  · rw [if_neg h0]
theorem run_res (hF : mF M z) (hP : pF P M z) {R : krT} {X : xT} {i r w : Nat} {b : Int32} (hi : i < z) (h9 : mso M i ≠ 9) (h10 : mso M i ≠ 10) (hr : vr P M bg i r false w) (hb : X.1 2 = b2i (!bg)) : fr_run1 R P X (Int32.ofNat i) (Int32.ofNat r) b = fr_resume R P X (Int32.ofNat i) b := by
  have hz := hF.1
  have hso := (hF.2.1 i hi).1.2
  have n9 : ¬ Int32.ofNat (mso M i) = (9 : Int32) := fun t => h9 (o_inj (b := 9) (by omega) (by omega) t)
  have n10 : ¬ Int32.ofNat (mso M i) = (10 : Int32) := fun t => h10 (o_inj (b := 10) (by omega) (by omega) t)
  rcases hr with ⟨q0, q, -⟩ | ⟨q, -⟩
  · subst q0
    unfold fr_run1
    rw [sort_at hF hP hi, if_neg n9, if_neg n10, if_pos (show Int32.ofNat 0 = (0 : Int32) from rfl), hb, ← q, if_neg (by decide)]
  · cases q
theorem beg_1 {R : krT} {X : xT} {a r b : Int32} (h : fp_sortOf P a = (1 : Int32)) : fr_begin R P X a r b = (fo_of 0 2 b, xw X 1 (X.1 1 ||| fp_pausesIn P a)) := by unfold fr_begin; rw [h]; rfl
theorem beg_2 {R : krT} {X : xT} {a r b : Int32} (h : fp_sortOf P a = (2 : Int32)) : fr_begin R P X a r b = (fo_of ((1 : Int32) <<< (fp_operandOf P a &&& 31)) 1 b, X) := by unfold fr_begin; rw [h]; rfl
theorem beg_3 {R : krT} {X : xT} {a r b : Int32} (h : fp_sortOf P a = (3 : Int32)) : fr_begin R P X a r b = (fo_of 0 (fc_ofExit (fp_operandOf P a)) b, X) := by unfold fr_begin; rw [h]; rfl
theorem beg_4 {R : krT} {X : xT} {a r b : Int32} (h : fp_sortOf P a = (4 : Int32)) : fr_begin R P X a r b = fr_beginPresent R P X a r b := by unfold fr_begin; rw [h]; rfl
theorem beg_5 {R : krT} {X : xT} {a r b : Int32} (h : fp_sortOf P a = (5 : Int32)) : fr_begin R P X a r b = R X (a + 1) r b := by unfold fr_begin; rw [h]; rfl
theorem beg_6 {R : krT} {X : xT} {a r b : Int32} (h : fp_sortOf P a = (6 : Int32)) : fr_begin R P X a r b = fr_andThen R (R X (a + 1) r b).2 (R X (a + 1) r b).1 (fp_secondOf P a) r := by unfold fr_begin; rw [h]; rfl
theorem beg_7 {R : krT} {X : xT} {a r b : Int32} (h : fp_sortOf P a = (7 : Int32)) : fr_begin R P X a r b = (fo_inParallel (R X (a + 1) r b).1 (R (R X (a + 1) r b).2 (fp_secondOf P a) r b).1, (R (R X (a + 1) r b).2 (fp_secondOf P a) r b).2) := by unfold fr_begin; rw [h]; rfl
theorem beg_8 {R : krT} {X : xT} {a r b : Int32} (h : fp_sortOf P a = (8 : Int32)) : fr_begin R P X a r b = R X (a + 1) r b := by unfold fr_begin; rw [h]; rfl
theorem beg_0 {R : krT} {X : xT} {a r b : Int32} (h : fp_sortOf P a = (0 : Int32)) : fr_begin R P X a r b = (fo_of 0 1 b, X) := by unfold fr_begin; rw [h]; rfl
theorem res_4 {R : krT} {X : xT} {a b : Int32} (h : fp_sortOf P a = (4 : Int32)) : fr_resume R P X a b = if fr_isSelectedIn P X (a + 1) = 0 then R X (fp_secondOf P a) 0 b else R X (a + 1) 0 b := by unfold fr_resume; rw [h]; rfl
theorem res_5 {R : krT} {X : xT} {a b : Int32} (h : fp_sortOf P a = (5 : Int32)) : fr_resume R P X a b = fr_resumeSuspend R P X a b := by unfold fr_resume; rw [h]; rfl
theorem res_6 {R : krT} {X : xT} {a b : Int32} (h : fp_sortOf P a = (6 : Int32)) : fr_resume R P X a b = if fr_isSelectedIn P X (a + 1) = 0 then R X (fp_secondOf P a) 0 b else fr_andThen R (R X (a + 1) 0 b).2 (R X (a + 1) 0 b).1 (fp_secondOf P a) (fp_weightOf P a) := by unfold fr_resume; rw [h]; rfl
theorem res_7 {R : krT} {X : xT} {a b : Int32} (h : fp_sortOf P a = (7 : Int32)) : fr_resume R P X a b = (fo_inParallel (fr_resumeBranch R P X (a + 1) b).1 (fr_resumeBranch R P (fr_resumeBranch R P X (a + 1) b).2 (fp_secondOf P a) b).1, (fr_resumeBranch R P (fr_resumeBranch R P X (a + 1) b).2 (fp_secondOf P a) b).2) := by unfold fr_resume; rw [h]; rfl
theorem res_8 {R : krT} {X : xT} {a b : Int32} (h : fp_sortOf P a = (8 : Int32)) : fr_resume R P X a b = fr_andThen R (R X (a + 1) 0 b).2 (R X (a + 1) 0 b).1 (a + 1) (fp_weightOf P a) := by unfold fr_resume; rw [h]; rfl
theorem res_0 (hF : mF M z) (hP : pF P M z) {R : krT} {X : xT} {i : Nat} {b : Int32} (hi : i < z) (h : mso M i < 4) : fr_resume R P X (Int32.ofNat i) b = (fo_of 0 1 b, X) := by
  unfold fr_resume
  rw [sort_at hF hP hi]
  have : mso M i = 0 ∨ mso M i = 1 ∨ mso M i = 2 ∨ mso M i = 3 := by omega
  rcases this with q | q | q | q <;> rw [q] <;> rfl
theorem sc_br (hF : mF M z) (hP : pF P M z) {j : Nat} {b : Bool} {w : Nat} (hj : j < z) {R : krT} {Rg : gR} (hR : SC P M Y z bg me (fun X => R X (Int32.ofNat j) 0 (b2i b)) (Rg me j false w b)) : SC P M Y z bg me (fun X => fr_resumeBranch R P X (Int32.ofNat j) (b2i b)) (gBr (gOf M Y z) Rg me j w b) := by
  unfold gBr
  by_cases h : ghas (gOf M Y z) j = true
  · rw [if_pos h]
    refine hR.cg2 (fun X _ hs => ?_)
    unfold fr_resumeBranch
    rw [sel_at hF hP hj hs, h, if_neg (by decide)]
  · rw [if_neg h]
    have h' : ghas (gOf M Y z) j = false := by simpa using h
    refine SC.cg2 (SC.pure (A := fun X => (fo_of 0 1 (b2i b), X)) (v := fo_of 0 1 (b2i b)) (oC_S me (c := 0) (by decide) b) (fun _ => rfl)) (fun X _ hs => ?_)
    unfold fr_resumeBranch
    rw [sel_at hF hP hj hs, h', if_pos (show b2i false = 0 from rfl)]
set_option maxHeartbeats 4000000 in
theorem sc_run (hF : mF M z) (hP : pF P M z) : ∀ (n : Nat) (me : Nat → Nat) (i r : Nat) (st : Bool) (w : Nat) (b : Bool), i < z → z ≤ i + n → vr P M bg i r st w → (∀ s, me s < 16 + 27 * i) → (∀ s t, s < 16 → t < 16 → me s = me t → s = t) → SC P M Y z bg me (fun X => fr_run n P X (Int32.ofNat i) (Int32.ofNat r) (b2i b)) (ge (gOf M Y z) true n me i st w b) := by
  intro n
  induction n with
  | zero => intro me i r st w b hi hn; omega
  | succ n ih =>
    intro me i r st w b hi hn hr hme inj
    have hz := hF.1
    have hW := gW_of (Y := Y) hF
    have hlt := vr_lt hF hP hi hr
    have hTb : ∀ (me : Nat → Nat) (i : Nat) (st : Bool) (w : Nat) (b : Bool), i < z → ∀ S c, occ (ge (gOf M Y z) true n me i st w b S).1 c = true → c < 7 := fun me i st w b hi S c hc => by
      have a := ge_cc hW (gT_of (Y := Y) hF) true n me i st w b hi S c hc
      have := (hF.2.1 i hi).2.2.2.1.1
      omega
    have ok := fun (me : Nat → Nat) (i : Nat) (st : Bool) (w : Nat) (b : Bool) (S : gS) => ge_ok (gOf M Y z) true n me i st w b S
    obtain ⟨⟨s1, s2⟩, ⟨e1, e2, e3⟩, ⟨d1, d2⟩, ⟨t1, t2⟩, ⟨p1, p2⟩, x1, x2, l1, o1, w2, -⟩ := hF.2.1 i hi
    have so := sort_at hF hP hi
    have me1 : ∀ s, me s < 16 + 27 * (i + 1) := fun s => by have := hme s; omega
    show SC P M Y z bg me (fun X => fr_run1 (fr_run n P) P X (Int32.ofNat i) (Int32.ofNat r) (b2i b)) (ge1 (gOf M Y z) true (ge (gOf M Y z) true n) me i st w b)
    have sec : m2p (mso M i) → gsec (gOf M Y z) i = men M (i + 1) := fun h => by
      show (M.2 3 i).toNatClampNeg = _
      have := w2 h
      rw [this.2.1, n_of (by omega)]
    have G2 : m2p (mso M i) → fp_secondOf P (Int32.ofNat i) = Int32.ofNat (gsec (gOf M Y z) i) := fun h => sec_at hF hP hi h
    have Lz : m1p (mso M i) → i + 1 < z := fun h => (o1 h).2.2.1
    have La : m2p (mso M i) → i + 1 < z := fun h => by have := w2 h; omega
    have Lb : m2p (mso M i) → gsec (gOf M Y z) i < z ∧ i + 1 < gsec (gOf M Y z) i := fun h => by rw [sec h]; have := w2 h; omega
    have meb : m2p (mso M i) → ∀ s, me s < 16 + 27 * gsec (gOf M Y z) i := fun h s => by have := hme s; have := Lb h; omega
    have c1 : ∀ {r st w}, m1p (mso M i) → vr P M bg i r st w → vr P M bg (i + 1) r st w := fun h q => vr_child hF hP hi (by omega) (by
      have := (o1 h).2.2.2.1
      have := (hF.2.1 _ (Lz h)).2.1.2.1
      omega) q
    have c2 : ∀ {r st w}, m2p (mso M i) → vr P M bg i r st w → vr P M bg (i + 1) r st w := fun h q => vr_child hF hP hi (by omega) (by
      have := w2 h
      have := (hF.2.1 _ this.2.2.2.1).2.1.2.1
      omega) q
    have c3 : ∀ {r st w}, m2p (mso M i) → vr P M bg i r st w → vr P M bg (gsec (gOf M Y z) i) r st w := fun h q => by
      rw [sec h]
      exact vr_child hF hP hi (by have := w2 h; omega) (by
        have := w2 h
        have := (hF.2.1 _ this.2.2.2.1).2.1.2.1
        omega) q
    have i1 := fun (h : m1p (mso M i)) (q : vr P M bg i r st w) (d : Bool) => ih me (i + 1) r st w d (Lz h) (by omega) (c1 h q) me1 inj
    have i2 := fun (h : m2p (mso M i)) (q : vr P M bg i r st w) (d : Bool) => ih me (i + 1) r st w d (La h) (by omega) (c2 h q) me1 inj
    have i3 := fun (h : m2p (mso M i)) (q : vr P M bg i r st w) (d : Bool) => ih me (gsec (gOf M Y z) i) r st w d (Lb h).1 (by have := (Lb h).2; omega) (c3 h q) (meb h) inj
    refine ge1_c2 (fun B _ => SC P M Y z bg me (fun X => fr_run1 (fr_run n P) P X (Int32.ofNat i) (Int32.ofNat r) (b2i b)) B) (gOf M Y z) true true (ge (gOf M Y z) true n) (ge (gOf M Y z) true n) me i st w b b ?_ ?_ ?_ ?_ ?_ ?_ ?_ ?_ ?_ ?_ ?_ ?_ ?_ ?_ ?_ ?_ ?_
    · intro h
      have h' : mso M i = 10 := h
      have hp : m1p (mso M i) := by unfold m1p; omega
      have hx := x1 (Or.inr h')
      refine (sc_local (Y := Y) hF hP hi h' hr hme inj (R := fr_run n P) (fun S => ok _ _ _ _ _ S) (ge_em hW (Lz hp) (by omega)) (ih _ (i + 1) r st w b (Lz hp) (by omega) (c1 hp hr) (fun s => ?_) (fun s t hs ht q => ?_))).cg (fun X => run_10 (so.trans (by rw [h']; rfl)))
      · by_cases e : s = mxo M i
        · simp only [upN, if_pos e, slt]; split <;> omega
        · simp only [upN, if_neg e]; exact me1 s
      · have hne : ∀ s, me s ≠ slt i st w := fun s q => by have := hme s; unfold slt at q; split at q <;> omega
        unfold upN at q
        split at q <;> split at q
        · omega
        · exact absurd q.symm (hne t)
        · exact absurd q (hne s)
        · exact inj s t hs ht q
    · intro h
      have h' : mso M i = 9 := h
      have hp : m1p (mso M i) := by unfold m1p; omega
      exact (sc_trap hF hP hi (fun S => ok _ _ _ _ _ S) (fun S => hTb _ _ _ _ _ (Lz hp) S) (i1 hp hr b)).cg (fun X => run_9 (so.trans (by rw [h']; rfl)))
    · intro h hs
      subst hs
      have h' : mso M i = 1 := h
      intro X S hX
      dsimp only
      rw [run_beg hF hP hi (by omega) (by omega) hr hX.1.2.1, beg_1 (so.trans (by rw [h']; rfl))]
      refine ⟨oC_S me (c := 1) (by decide) b, ⟨hX.1.1, hX.1.2.1, fun p hp => ?_, hX.1.2.2.2⟩, hX.2⟩
      dsimp only
      rw [xw_at, if_pos rfl, xb_or, hX.1.2.2.1 p hp, pau_at hF hP hi hp]
      rfl
    · intro h hs
      subst hs
      have h' : mso M i = 2 := h
      have hx := x1 (Or.inl h')
      refine SC.cg2 (SC.pure (A := fun X => (fo_of ((1 : Int32) <<< (Int32.ofNat (mxo M i) &&& 31)) 1 (b2i b), X)) (v := fo_of ((1 : Int32) <<< (Int32.ofNat (mxo M i) &&& 31)) 1 (b2i b)) (oC_E hx.2.2 (fun s hs q => inj s _ hs hx.2.2 q) b) (fun _ => rfl)) (fun X hb _ => ?_)
      rw [run_beg hF hP hi (by omega) (by omega) hr hb, beg_2 (so.trans (by rw [h']; rfl)), oper_at hF hP hi, hx.1]
    · intro h hs
      subst hs
      have h' : mso M i = 3 := h
      have hx := t2 h'
      have e : (1 : Int32) <<< (Int32.ofNat (2 + mxo M i) &&& 31) = fc_ofExit (M.2 1 i) := by
        rw [hx.1]
        have : ∀ x, x < 5 → (1 : Int32) <<< (Int32.ofNat (2 + x) &&& 31) = fc_ofExit (Int32.ofNat x) := by decide +kernel
        exact this _ (by omega)
      refine SC.cg2 (SC.pure (A := fun X => (fo_of 0 (fc_ofExit (M.2 1 i)) (b2i b), X)) (v := fo_of 0 (fc_ofExit (M.2 1 i)) (b2i b)) (e ▸ oC_S me (c := 2 + mxo M i) (by omega) b) (fun _ => rfl)) (fun X hb _ => ?_)
      rw [run_beg hF hP hi (by omega) (by omega) hr hb, beg_3 (so.trans (by rw [h']; rfl)), oper_at hF hP hi]
    · intro h hs
      subst hs
      have h' : mso M i = 4 := h
      have hp : m2p (mso M i) := by unfold m2p; omega
      intro X S hX
      have et := tested_eq hF hi (Or.inl h') hX.1.2.2.2.2.1 hX.2
      have htl := tst_lt (ng := mng M i) (hX.1.2.2.2.2.1 (me (mxo M i)))
      dsimp only
      rw [run_beg hF hP hi (by omega) (by omega) hr hX.1.2.1, beg_4 (so.trans (by rw [h']; rfl))]
      unfold fr_beginPresent
      rw [oper_at hF hP hi, et, G2 hp, o_add]
      unfold gPres
      have c0 : gxo (gOf M Y z) i = mxo M i := rfl
      have c0' : gng (gOf M Y z) i = mng M i := rfl
      rw [c0, c0']
      have : tst (sK S) (me (mxo M i)) (mng M i) = 0 ∨ tst (sK S) (me (mxo M i)) (mng M i) = 1 ∨ tst (sK S) (me (mxo M i)) (mng M i) = 2 := by omega
      rcases this with q | q | q
      · rw [q, if_pos (show Int32.ofNat 0 = (0 : Int32) from rfl), if_pos (show (0 : Nat) = 0 from rfl)]
        exact i3 hp hr b X S hX
      · rw [q, if_neg (show ¬ Int32.ofNat 1 = (0 : Int32) by decide), if_pos (show Int32.ofNat 1 = (1 : Int32) from rfl), if_neg (show ¬ (1 : Nat) = 0 by decide), if_pos (show (1 : Nat) = 1 from rfl)]
        exact i2 hp hr b X S hX
      · rw [q, if_neg (show ¬ Int32.ofNat 2 = (0 : Int32) by decide), if_neg (show ¬ Int32.ofNat 2 = (1 : Int32) by decide), if_neg (show ¬ (2 : Nat) = 0 by decide), if_neg (show ¬ (2 : Nat) = 1 by decide)]
        exact SC.two (f := fun x y => x ||| y) (h := oU) (i2 hp hr false) (i3 hp hr false) (fun _ _ _ _ a b => oC_U a b) (fun _ => rfl) X S hX
    · intro h hs
      subst hs
      have h' : mso M i = 5 ∨ mso M i = 8 := h
      have hp : m1p (mso M i) := by unfold m1p; omega
      refine (i1 hp hr b).cg2 (fun X hb _ => ?_)
      rw [run_beg hF hP hi (by omega) (by omega) hr hb, ← o_add]
      rcases h' with q | q
      · exact beg_5 (so.trans (by rw [q]; rfl))
      · exact beg_8 (so.trans (by rw [q]; rfl))
    · intro h hs
      subst hs
      have h' : mso M i = 6 := h
      have hp : m2p (mso M i) := by unfold m2p; omega
      refine SC.cg2 (SC.and (i2 hp hr b) (i3 hp hr) (fun _ => rfl)) (fun X hb _ => ?_)
      rw [run_beg hF hP hi (by omega) (by omega) hr hb, beg_6 (so.trans (by rw [h']; rfl)), G2 hp, o_add]
    · intro h hs
      subst hs
      have h' : mso M i = 7 := h
      have hp : m2p (mso M i) := by unfold m2p; omega
      refine SC.cg2 (SC.two (f := fo_inParallel) (h := oP) (i2 hp hr b) (i3 hp hr b) (fun _ _ _ _ a b => oC_P a b) (fun _ => rfl)) (fun X hb _ => ?_)
      rw [run_beg hF hP hi (by omega) (by omega) hr hb, beg_7 (so.trans (by rw [h']; rfl)), G2 hp, o_add]
    · intro h hs
      subst hs
      have h' : mso M i = 0 := by
        have : mso M i = 0 ∨ 10 < mso M i := h
        omega
      refine SC.cg2 (SC.pure (A := fun X => (fo_of 0 1 (b2i b), X)) (v := fo_of 0 1 (b2i b)) (oC_S me (c := 0) (by decide) b) (fun _ => rfl)) (fun X hb _ => ?_)
      rw [run_beg hF hP hi (by omega) (by omega) hr hb, beg_0 (so.trans (by rw [h']; rfl))]
    · intro h hs
      subst hs
      have h' : (mso M i = 4 ∨ mso M i = 6) := h.1
      have hp : m2p (mso M i) := by unfold m2p; omega
      have r0 : r = 0 := by
        rcases hr with ⟨q, -⟩ | ⟨q, -⟩
        · exact q
        · cases q
      refine (i3 hp hr b).cg2 (fun X hb hs => ?_)
      rw [run_res hF hP hi (by omega) (by omega) hr hb, r0]
      rcases h' with q | q
      · rw [res_4 (so.trans (by rw [q]; rfl)), o_add, sel_at hF hP (La hp) hs, h.2, if_pos (show b2i false = 0 from rfl), G2 hp]; rfl
      · rw [res_6 (so.trans (by rw [q]; rfl)), o_add, sel_at hF hP (La hp) hs, h.2, if_pos (show b2i false = 0 from rfl), G2 hp]; rfl
    · intro h hs
      subst hs
      have h' : mso M i = 4 := h.1
      have hp : m2p (mso M i) := by unfold m2p; omega
      have r0 : r = 0 := by
        rcases hr with ⟨q, -⟩ | ⟨q, -⟩
        · exact q
        · cases q
      refine (i2 hp hr b).cg2 (fun X hb hs => ?_)
      rw [run_res hF hP hi (by omega) (by omega) hr hb, r0, res_4 (so.trans (by rw [h']; rfl)), o_add, sel_at hF hP (La hp) hs, h.2, if_neg (by decide)]; rfl
    · intro h hs
      subst hs
      have h' : mso M i = 5 := h
      have hp : m1p (mso M i) := by unfold m1p; omega
      have r0 : r = 0 := by
        rcases hr with ⟨q, -⟩ | ⟨q, -⟩
        · exact q
        · cases q
      subst r0
      intro X S hX
      have et := tested_eq hF hi (Or.inr h') hX.1.2.2.2.2.1 hX.2
      have htl := tst_lt (ng := mng M i) (hX.1.2.2.2.2.1 (me (mxo M i)))
      dsimp only
      rw [run_res hF hP hi (by omega) (by omega) hr hX.1.2.1, res_5 (so.trans (by rw [h']; rfl))]
      unfold fr_resumeSuspend
      rw [oper_at hF hP hi, et, o_add]
      unfold gSus
      have c0 : gxo (gOf M Y z) i = mxo M i := rfl
      have c0' : gng (gOf M Y z) i = mng M i := rfl
      rw [c0, c0']
      have : tst (sK S) (me (mxo M i)) (mng M i) = 0 ∨ tst (sK S) (me (mxo M i)) (mng M i) = 1 ∨ tst (sK S) (me (mxo M i)) (mng M i) = 2 := by omega
      rcases this with q | q | q
      · rw [q, if_pos (show Int32.ofNat 0 = (0 : Int32) from rfl), if_pos (show (0 : Nat) = 0 from rfl)]
        exact i1 hp hr b X S hX
      · rw [q, if_neg (show ¬ Int32.ofNat 1 = (0 : Int32) by decide), if_pos (show Int32.ofNat 1 = (1 : Int32) from rfl), if_neg (show ¬ (1 : Nat) = 0 by decide), if_pos (show (1 : Nat) = 1 from rfl), if_pos (show true = true from rfl)]
        refine ⟨oC_S me (c := 1) (by decide) b, ⟨hX.1.1, hX.1.2.1, fun p hp => ?_, hX.1.2.2.2⟩, hX.2⟩
        dsimp only
        rw [xw_at, if_pos rfl, xb_or, xb_and, hX.1.1 p hp, hX.1.2.2.1 p hp, pau_at hF hP hi hp]
        rfl
      · rw [q, if_neg (show ¬ Int32.ofNat 2 = (0 : Int32) by decide), if_neg (show ¬ Int32.ofNat 2 = (1 : Int32) by decide), if_neg (show ¬ (2 : Nat) = 0 by decide), if_neg (show ¬ (2 : Nat) = 1 by decide)]
        exact SC.two (f := fun x y => x ||| y) (h := oU) (A' := fun X => (fo_of 0 2 (b2i false), X)) (i1 hp hr false) (SC.pure (o := oS 1 false) (oC_S me (c := 1) (by decide) false) (fun _ => rfl)) (fun _ _ _ _ a b => oC_U a b) (fun _ => rfl) X S hX
    · intro h hs
      subst hs
      have h' : mso M i = 6 := h.1
      have hp : m2p (mso M i) := by unfold m2p; omega
      have r0 : r = 0 := by
        rcases hr with ⟨q, -⟩ | ⟨q, -⟩
        · exact q
        · cases q
      subst r0
      have nv : vr P M bg (gsec (gOf M Y z) i) (pwt P i) true (1 + mdp M i) := by
        rw [sec hp]
        have q := w2 hp
        have q2 := (hF.2.1 _ q.2.2.2.1).2.1.2.1
        exact Or.inr ⟨rfl, i, ⟨by omega, by omega, Or.inr ⟨h', Nat.le_refl _⟩⟩, rfl, rfl⟩
      refine SC.cg2 (SC.and (i2 hp hr b) (fun d => ih me (gsec (gOf M Y z) i) (pwt P i) true (1 + mdp M i) d (Lb hp).1 (by have := (Lb hp).2; omega) nv (meb hp) inj) (fun _ => rfl)) (fun X hb hs => ?_)
      rw [run_res hF hP hi (by omega) (by omega) hr hb, res_6 (so.trans (by rw [h']; rfl)), o_add, sel_at hF hP (La hp) hs, h.2, if_neg (by decide), G2 hp, wt_at hF hP hi]; rfl
    · intro h hs
      subst hs
      have h' : mso M i = 7 := h
      have hp : m2p (mso M i) := by unfold m2p; omega
      have r0 : r = 0 := by
        rcases hr with ⟨q, -⟩ | ⟨q, -⟩
        · exact q
        · cases q
      subst r0
      refine SC.cg2 (SC.two (f := fo_inParallel) (h := oP) (sc_br hF hP (La hp) (Rg := ge (gOf M Y z) true n) (i2 hp hr b)) (sc_br hF hP (Lb hp).1 (Rg := ge (gOf M Y z) true n) (i3 hp hr b)) (fun _ _ _ _ a b => oC_P a b) (fun _ => rfl)) (fun X hb _ => ?_)
      rw [run_res hF hP hi (by omega) (by omega) hr hb, res_7 (so.trans (by rw [h']; rfl)), G2 hp, o_add]
    · intro h hs
      subst hs
      have h' : mso M i = 8 := h
      have hp : m1p (mso M i) := by unfold m1p; omega
      have r0 : r = 0 := by
        rcases hr with ⟨q, -⟩ | ⟨q, -⟩
        · exact q
        · cases q
      subst r0
      have nv : vr P M bg (i + 1) (pwt P i) true (1 + mdp M i) := by
        have q := o1 hp
        have q2 := (hF.2.1 _ (Lz hp)).2.1.2.1
        exact Or.inr ⟨rfl, i, ⟨by omega, by omega, Or.inl h'⟩, rfl, rfl⟩
      refine SC.cg2 (SC.and (i1 hp hr b) (fun d => ih me (i + 1) (pwt P i) true (1 + mdp M i) d (Lz hp) (by omega) nv me1 inj) (fun _ => rfl)) (fun X hb hs => ?_)
      rw [run_res hF hP hi (by omega) (by omega) hr hb, res_8 (so.trans (by rw [h']; rfl)), o_add, wt_at hF hP hi]; rfl
    · intro h hs
      subst hs
      have h' : mso M i < 4 := by
        have : mso M i < 4 ∨ 10 < mso M i := h
        omega
      refine SC.cg2 (SC.pure (A := fun X => (fo_of 0 1 (b2i b), X)) (v := fo_of 0 1 (b2i b)) (oC_S me (c := 0) (by decide) b) (fun _ => rfl)) (fun X hb _ => ?_)
      rw [run_res hF hP hi (by omega) (by omega) hr hb, res_0 hF hP hi h']
end CRUN3
