/-- L6: where nothing was learned, an unknown status of a run is of no signal that must be -/
def Nl (P : Nat → Prop) (A : gM) : Prop := ∀ S, sL (A S).2 = false → ∀ k, P k → sK S k = 2 → omf (A S).1 k = false
theorem Nl.pu {P : Nat → Prop} {o : gO} (h : ∀ k, P k → omf o k = false) : Nl P (gPu o) := fun _ _ k hk _ => h k hk
theorem Nl.seq {Me P1 P2 Q : Nat → Prop} {b d : Bool} {A B : gM} {f : gO → gO → gO} (hf : ∀ p q k, omf (f p q) k = (omf p k || omf q k)) (nA : Nl P1 A) (nB : Nl P2 B) (okA : ∀ S, oOk b (A S).1) (okB : ∀ S, oOk d (B S).1) (fA : Fr true Me P1 b A) (fB : Fr true Me P2 d B) (hM : ∀ k, Me k → ¬ Q k) : Nl Q (fun S => (f (A S).1 (B (A S).2).1, (B (A S).2).2)) := by
  intro S a1 k hk h2
  have l1 : sL (A S).2 = false := sl_back (fB _).2.2.1 a1
  have k1 : sK (A S).2 = sK S := (fA S).2.2.1.2.2 l1
  have x1 : omf (A S).1 k = false := by
    cases e : omf (A S).1 k with
    | false => rfl
    | true =>
      rcases (fA S).1 k ((okA S).2.1 k e) with q | q
      · exact absurd hk (hM k q)
      · rw [nA S l1 k q h2] at e; cases e
  have x2 : omf (B (A S).2).1 k = false := by
    cases e : omf (B (A S).2).1 k with
    | false => rfl
    | true =>
      rcases (fB (A S).2).1 k ((okB _).2.1 k e) with q | q
      · exact absurd hk (hM k q)
      · rw [nB (A S).2 a1 k q (by rw [k1]; exact h2)] at e; cases e
  show omf (f (A S).1 (B (A S).2).1) k = false
  rw [hf, x1, x2]; rfl
theorem Nl.one {Me P Q : Nat → Prop} {b : Bool} {A : gM} (nA : Nl P A) (okA : ∀ S, oOk b (A S).1) (fA : Fr true Me P b A) (hM : ∀ k, Me k → ¬ Q k) : Nl Q A := by
  intro S a1 k hk h2
  cases e : omf (A S).1 k with
  | false => rfl
  | true =>
    rcases (fA S).1 k ((okA S).2.1 k e) with q | q
    · exact absurd hk (hM k q)
    · rw [nA S a1 k q h2] at e; cases e
theorem Nl.and {Me P1 P2 Q : Nat → Prop} {b : Bool} {A : gM} {B : Bool → gM} (nA : Nl P1 A) (nB : ∀ d, Nl P2 (B d)) (okA : ∀ S, oOk b (A S).1) (okB : ∀ d S, oOk d (B d S).1) (fA : Fr true Me P1 b A) (fB : ∀ d, Fr true Me P2 d (B d)) (hM : ∀ k, Me k → ¬ Q k) : Nl Q (gAnd A B) := by
  intro S a1 k hk h2
  by_cases c0 : occ (A S).1 0 = true
  · have e : gAnd A B S = (oU (oZ (A S).1) (B (omc (A S).1 0) (A S).2).1, (B (omc (A S).1 0) (A S).2).2) := if_pos c0
    rw [e] at a1 ⊢
    exact Nl.seq (f := fun p q => oU (oZ p) q) (fun p q k => (oZU_fl p q k).2) nA (nB _) okA (okB _) fA (fB _) hM S a1 k hk h2
  · have e : gAnd A B S = A S := if_neg c0
    rw [e] at a1 ⊢
    exact Nl.one nA okA fA hM S a1 k hk h2
theorem ge_nl {g : gP} {z : Nat} (hW : gW g z) : ∀ (n : Nat) (me : Nat → Nat) (i : Nat) (st : Bool) (w : Nat) (b : Bool), i < z → w < 26 → (∀ s, me s < 16 + 27 * i) → Nl (SI g i st w) (ge g true n me i st w b) := by
  intro n
  induction n with
  | zero => intro me i st w b _ _ _; exact Nl.pu (fun k _ => by simp [omf, oS])
  | succ n ih =>
    intro me i st w b hi hw hme
    obtain ⟨w1, w2, w3, w4, w5, w6⟩ := hW i hi
    have hM : ∀ k, (∃ s, me s = k) → ¬ SI g i st w k := by
      rintro k ⟨s, rfl⟩ ⟨q1, q2, -⟩
      have := hme s
      omega
    have l1 : (gso g i = 5 ∨ gso g i = 8 ∨ gso g i = 9 ∨ gso g i = 10) → i + 1 < z := fun h => (w5 h).1
    have lA : (gso g i = 4 ∨ gso g i = 6 ∨ gso g i = 7) → i + 1 < z := fun h => by have := w6 h; omega
    have lB : (gso g i = 4 ∨ gso g i = 6 ∨ gso g i = 7) → gsec g i < z := fun h => (w6 h).2.1
    have me1 : ∀ s, me s < 16 + 27 * (i + 1) := fun s => by have := hme s; omega
    have meB : (gso g i = 4 ∨ gso g i = 6 ∨ gso g i = 7) → ∀ s, me s < 16 + 27 * gsec g i := fun h s => by have := hme s; have := w6 h; omega
    have ok := fun (me : Nat → Nat) (i : Nat) (st : Bool) (w : Nat) (b : Bool) (S : gS) => ge_ok g true n me i st w b S
    have fr := fun (i : Nat) (st : Bool) (w : Nat) (b : Bool) (hi : i < z) (hw : w < 26) => ge_fr hW true n me i st w b hi hw
    refine ge1_c2 (fun A _ => Nl (SI g i st w) A) g true true (ge g true n) (ge g true n) me i st w b b ?_ ?_ ?_ ?_ ?_ ?_ ?_ ?_ ?_ ?_ ?_ ?_ ?_ ?_ ?_ ?_ ?_
    · intro h S a1 k hk h2
      have hm2 : ∀ s, upN me (gxo g i) (slt i st w) s < 16 + 27 * (i + 1) := by
        intro s
        by_cases e : s = gxo g i
        · simp only [upN, if_pos e, slt]; split <;> omega
        · simp only [upN, if_neg e]; exact me1 s
      have f1 := ge_fr hW true n (upN me (gxo g i) (slt i st w)) (i + 1) st w b (l1 (by omega)) hw
      by_cases hc : (true && decide (sK (ge g true n (upN me (gxo g i) (slt i st w)) (i + 1) st w b S).2 (slt i st w) = 2) && lnv (ge g true n (upN me (gxo g i) (slt i st w)) (i + 1) st w b S).1 (slt i st w)) = true
      · exfalso
        unfold gLoc at a1
        rw [if_pos hc] at a1
        have := (f1 (upN (sK (ge g true n (upN me (gxo g i) (slt i st w)) (i + 1) st w b S).2) (slt i st w) (if omf (ge g true n (upN me (gxo g i) (slt i st w)) (i + 1) st w b S).1 (slt i st w) then 1 else 0), sN (ge g true n (upN me (gxo g i) (slt i st w)) (i + 1) st w b S).2, true)).2.2.1.1 rfl
        rw [this] at a1
        cases a1
      · have eL : gLoc true (slt i st w) (ge g true n (upN me (gxo g i) (slt i st w)) (i + 1) st w b) S = ge g true n (upN me (gxo g i) (slt i st w)) (i + 1) st w b S := if_neg hc
        rw [eL] at a1 ⊢
        have kk : sK (ge g true n (upN me (gxo g i) (slt i st w)) (i + 1) st w b S).2 = sK S := (f1 S).2.2.1.2.2 a1
        rw [kk] at hc
        cases e : omf (ge g true n (upN me (gxo g i) (slt i st w)) (i + 1) st w b S).1 k with
        | false => rfl
        | true =>
          exfalso
          rcases (f1 S).1 k ((ok _ _ _ _ _ S).2.1 k e) with ⟨s, hs⟩ | q
          · by_cases es : s = gxo g i
            · simp only [upN, if_pos es] at hs
              subst hs
              exact hc (by simp [h2, lnv, e])
            · simp only [upN, if_neg es] at hs
              exact hM k ⟨s, hs⟩ hk
          · have := ih (upN me (gxo g i) (slt i st w)) (i + 1) st w b (l1 (by omega)) hw hm2 S a1 k q h2
            rw [this] at e; cases e
    · intro h S a1 k hk h2
      have a1' : sL (ge g true n me (i + 1) st w b S).2 = false := by
        unfold gTrap at a1
        dsimp only at a1
        split at a1 <;> exact a1
      exact Nl.one (ih me (i + 1) st w b (l1 (by omega)) hw me1) (fun S => ok _ _ _ _ _ S) (fr (i + 1) st w b (l1 (by omega)) hw) hM S a1' k hk h2
    · intro _ _ S _ k _ _; simp [gPs, omf, oS]
    · intro _ _; refine Nl.pu (fun k hk => ?_)
      cases e : omf (oE (me (gxo g i)) b) k with
      | false => rfl
      | true =>
        have : k = me (gxo g i) := by
          simp only [omf, oE, Bool.and_eq_true, decide_eq_true_eq] at e
          exact e.2
        exact absurd hk (hM k ⟨gxo g i, this.symm⟩)
    · intro _ _; exact Nl.pu (fun k _ => by simp [omf, oS])
    · intro h hs S a1 k hk h2
      subst hs
      have hh : gso g i = 4 ∨ gso g i = 6 ∨ gso g i = 7 := Or.inl h
      have nA := fun d => ih me (i + 1) true w d (lA hh) hw me1
      have nB := fun d => ih me (gsec g i) true w d (lB hh) hw (meB hh)
      unfold gPres at a1 ⊢
      by_cases t0 : tst (sK S) (me (gxo g i)) (gng g i) = 0
      · simp only [if_pos t0] at a1 ⊢
        exact Nl.one (nB b) (fun S => ok _ _ _ _ _ S) (fr (gsec g i) true w b (lB hh) hw) hM S a1 k hk h2
      · simp only [if_neg t0] at a1 ⊢
        by_cases t1 : tst (sK S) (me (gxo g i)) (gng g i) = 1
        · simp only [if_pos t1] at a1 ⊢
          exact Nl.one (nA b) (fun S => ok _ _ _ _ _ S) (fr (i + 1) true w b (lA hh) hw) hM S a1 k hk h2
        · simp only [if_neg t1] at a1 ⊢
          exact Nl.seq (f := oU) (fun p q k => (oU_fl p q k).2) (nA false) (nB false) (fun S => ok _ _ _ _ _ S) (fun S => ok _ _ _ _ _ S) (fr (i + 1) true w false (lA hh) hw) (fr (gsec g i) true w false (lB hh) hw) hM S a1 k hk h2
    · intro h hs; subst hs; exact Nl.one (ih me (i + 1) true w b (l1 (by omega)) hw me1) (fun S => ok _ _ _ _ _ S) (fr (i + 1) true w b (l1 (by omega)) hw) hM
    · intro h hs; subst hs
      have hh : gso g i = 4 ∨ gso g i = 6 ∨ gso g i = 7 := by omega
      exact Nl.and (ih me (i + 1) true w b (lA hh) hw me1) (fun d => ih me (gsec g i) true w d (lB hh) hw (meB hh)) (fun S => ok _ _ _ _ _ S) (fun d S => ok _ _ _ _ d S) (fr (i + 1) true w b (lA hh) hw) (fun d => fr (gsec g i) true w d (lB hh) hw) hM
    · intro h hs; subst hs
      have hh : gso g i = 4 ∨ gso g i = 6 ∨ gso g i = 7 := by omega
      exact Nl.seq (f := oP) (fun p q k => (oP_fl p q k).2) (ih me (i + 1) true w b (lA hh) hw me1) (ih me (gsec g i) true w b (lB hh) hw (meB hh)) (fun S => ok _ _ _ _ _ S) (fun S => ok _ _ _ _ _ S) (fr (i + 1) true w b (lA hh) hw) (fr (gsec g i) true w b (lB hh) hw) hM
    · intro _ _; exact Nl.pu (fun k _ => by simp [omf, oS])
    · intro h hs; subst hs
      have hh : gso g i = 4 ∨ gso g i = 6 ∨ gso g i = 7 := by omega
      exact Nl.one (ih me (gsec g i) false w b (lB hh) hw (meB hh)) (fun S => ok _ _ _ _ _ S) (fr (gsec g i) false w b (lB hh) hw) hM
    · intro h hs; subst hs
      have hh : gso g i = 4 ∨ gso g i = 6 ∨ gso g i = 7 := by omega
      exact Nl.one (ih me (i + 1) false w b (lA hh) hw me1) (fun S => ok _ _ _ _ _ S) (fr (i + 1) false w b (lA hh) hw) hM
    · intro h hs S a1 k hk h2
      subst hs
      have hl1 := l1 (by omega)
      have nA := fun d => ih me (i + 1) false w d hl1 hw me1
      unfold gSus at a1 ⊢
      by_cases t0 : tst (sK S) (me (gxo g i)) (gng g i) = 0
      · simp only [if_pos t0] at a1 ⊢
        exact Nl.one (nA b) (fun S => ok _ _ _ _ _ S) (fr (i + 1) false w b hl1 hw) hM S a1 k hk h2
      · simp only [if_neg t0] at a1 ⊢
        by_cases t1 : tst (sK S) (me (gxo g i)) (gng g i) = 1
        · simp only [if_pos t1] at a1 ⊢
          simp [omf, oS]
        · simp only [if_neg t1] at a1 ⊢
          exact Nl.seq (f := oU) (B := gPu (oS 1 false)) (P2 := fun _ => False) (d := false) (fun p q k => (oU_fl p q k).2) (nA false) (Nl.pu (fun k q => q.elim)) (fun S => ok _ _ _ _ _ S) (fun S => oS_ok 1 false) (fr (i + 1) false w false hl1 hw) (Fr.pu (fun k h => by simp [ocf, oS] at h)) hM S a1 k hk h2
    · intro h hs; subst hs
      have hh : gso g i = 4 ∨ gso g i = 6 ∨ gso g i = 7 := by omega
      exact Nl.and (ih me (i + 1) false w b (lA hh) hw me1) (fun d => ih me (gsec g i) true (1 + gdep g i) d (lB hh) (by omega) (meB hh)) (fun S => ok _ _ _ _ _ S) (fun d S => ok _ _ _ _ d S) (fr (i + 1) false w b (lA hh) hw) (fun d => fr (gsec g i) true (1 + gdep g i) d (lB hh) (by omega)) hM
    · intro h hs; subst hs
      have hh : gso g i = 4 ∨ gso g i = 6 ∨ gso g i = 7 := by omega
      have nBr : ∀ j, j < z → (∀ s, me s < 16 + 27 * j) → Nl (SI g j false w) (gBr g (ge g true n) me j w b) := by
        intro j hj hm
        unfold gBr
        by_cases hx : ghas g j = true
        · rw [if_pos hx]; exact ih me j false w b hj hw hm
        · rw [if_neg hx]; exact Nl.pu (fun k _ => by simp [omf, oS])
      have fBr : ∀ j, j < z → Fr true (fun k => ∃ s, me s = k) (SI g j false w) b (gBr g (ge g true n) me j w b) := by
        intro j hj
        unfold gBr
        by_cases hx : ghas g j = true
        · rw [if_pos hx]; exact fr j false w b hj hw
        · rw [if_neg hx]; exact Fr.pu (fun k h => by simp [ocf, oS] at h)
      have oBr : ∀ j S, oOk b (gBr g (ge g true n) me j w b S).1 := by
        intro j S
        unfold gBr
        by_cases hx : ghas g j = true
        · rw [if_pos hx]; exact ok _ _ _ _ _ S
        · rw [if_neg hx]; exact oS_ok 0 b
      exact Nl.seq (f := oP) (fun p q k => (oP_fl p q k).2) (nBr _ (lA hh) me1) (nBr _ (lB hh) (meB hh)) (oBr _) (oBr _) (fBr _ (lA hh)) (fBr _ (lB hh)) hM
    · intro h hs; subst hs
      have hl1 := l1 (by omega)
      exact Nl.and (ih me (i + 1) false w b hl1 hw me1) (fun d => ih me (i + 1) true (1 + gdep g i) d hl1 (by omega) me1) (fun S => ok _ _ _ _ _ S) (fun d S => ok _ _ _ _ d S) (fr (i + 1) false w b hl1 hw) (fun d => fr (i + 1) true (1 + gdep g i) d hl1 (by omega)) hM
    · intro _ _; exact Nl.pu (fun k _ => by simp [omf, oS])
/-! PASSES -/
def me0 (s : Nat) : Nat := s % 16
def rt (g : gP) (n : Nat) (bg lrn : Bool) : gM := ge g lrn n me0 0 bg 0 true
def kS (K : Nat → Nat) : gS := (K, fun _ => false, false)
def rF (g : gP) (n : Nat) (bg : Bool) (K : Nat → Nat) : gO := (rt g n bg false (kS K)).1
def stp (g : gP) (n : Nat) (bg : Bool) (K : Nat → Nat) : Nat → Nat := fun k => if 4 ≤ k ∧ K k = 2 then (if omf (rF g n bg K) k then 1 else if ocf (rF g n bg K) k then 2 else 0) else K k
def kInv (g : gP) (n : Nat) (bg : Bool) (K : Nat → Nat) : Prop := ∀ k, K k ≤ 2 ∧ (k < 4 → K k ≤ 1) ∧ (4 ≤ k → (K k = 0 → ocf (rF g n bg K) k = false) ∧ (K k = 1 → omf (rF g n bg K) k = true))
theorem appr_eq {o o' : gO} (h1 : appr o o') (h2 : appr o' o) : o = o' := by
  have e : ∀ {a b : Nat → Bool}, (∀ c, a c = true → b c = true) → (∀ c, b c = true → a c = true) → a = b := by
    intro a b h h'
    funext c
    have := h c
    have := h' c
    cases q : a c <;> cases q' : b c <;> grind
  obtain ⟨a1, a2, a3, a4⟩ := o
  obtain ⟨b1, b2, b3, b4⟩ := o'
  have e1 : a1 = b1 := e h2.2.2.1 h1.2.2.1
  have e2 : a2 = b2 := e h1.1 h2.1
  have e3 : a3 = b3 := e h2.2.2.2 h1.2.2.2
  have e4 : a4 = b4 := e h1.2.1 h2.2.1
  rw [e1, e2, e3, e4]
theorem leK.rf {K : Nat → Nat} : leK K K := fun _ => Or.inr rfl
theorem leK.tr {K K1 K2 : Nat → Nat} (h1 : leK K K1) (h2 : leK K1 K2) : leK K K2 := fun k => by
  rcases h1 k with h | h
  · exact Or.inl h
  · rcases h2 k with q | q
    · exact Or.inl (h.trans q)
    · exact Or.inr (h.trans q)
section PASS
variable {g : gP} {z n : Nat} {bg : Bool}
theorem me0_lt (s : Nat) : me0 s < 16 + 27 * 0 := by
  have := Nat.mod_lt s (show 0 < 16 by decide)
  show s % 16 < _
  omega
theorem rt_appr (hW : gW g z) (hz : 0 < z) {S S' : gS} (h : leK (sK S) (sK S')) : appr (rt g n bg false S).1 (rt g n bg false S').1 :=
  ((ge_mono hW false (rc := fun _ => false) (rm := fun _ => false) (fun e => by cases e) n me0 0 bg 0 true true hz (by decide) me0_lt id) S S' h rfl (fun e => by cases e)).1
theorem rt_K (hW : gW g z) (hz : 0 < z) {S S' : gS} (h : sK S = sK S') : (rt g n bg false S).1 = (rt g n bg false S').1 := appr_eq (rt_appr hW hz (by rw [h]; exact leK.rf)) (rt_appr hW hz (by rw [h]; exact leK.rf))
theorem rF_appr (hW : gW g z) (hz : 0 < z) {K K' : Nat → Nat} (h : leK K K') : appr (rF g n bg K) (rF g n bg K') := rt_appr hW hz h
theorem rF_ok (K : Nat → Nat) : oOk true (rF g n bg K) := ge_ok _ _ _ _ _ _ _ _ _
theorem stp_le (K : Nat → Nat) : leK K (stp g n bg K) := fun k => by
  unfold stp
  split
  · next h => exact Or.inl h.2
  · exact Or.inr rfl
theorem stp_inv (hW : gW g z) (hz : 0 < z) {K : Nat → Nat} (h : kInv g n bg K) : kInv g n bg (stp g n bg K) := by
  have ap := rF_appr (n := n) (bg := bg) hW hz (stp_le (g := g) (n := n) (bg := bg) K)
  have nc : ∀ k, ocf (rF g n bg K) k = false → ocf (rF g n bg (stp g n bg K)) k = false := fun k e => by
    cases q : ocf (rF g n bg (stp g n bg K)) k with
    | false => rfl
    | true => rw [ap.2.2.2 k q] at e; cases e
  intro k
  obtain ⟨a1, a2, a3⟩ := h k
  by_cases c : 4 ≤ k ∧ K k = 2
  · have e : stp g n bg K k = if omf (rF g n bg K) k then 1 else if ocf (rF g n bg K) k then 2 else 0 := if_pos c
    rw [e]
    by_cases m : omf (rF g n bg K) k = true
    · rw [if_pos m]
      exact ⟨by decide, fun q => by omega, fun _ => ⟨fun q => (by cases q), fun _ => ap.2.1 k m⟩⟩
    · rw [if_neg m]
      by_cases f : ocf (rF g n bg K) k = true
      · rw [if_pos f]
        exact ⟨by decide, fun q => by omega, fun _ => ⟨fun q => (by cases q), fun q => by cases q⟩⟩
      · rw [if_neg f]
        exact ⟨by decide, fun q => by omega, fun _ => ⟨fun _ => nc k (by simpa using f), fun q => by cases q⟩⟩
  · have e : stp g n bg K k = K k := if_neg c
    rw [e]
    exact ⟨a1, a2, fun q => ⟨fun r => nc k ((a3 q).1 r), fun r => ap.2.1 k ((a3 q).2 r)⟩⟩
theorem fx_of {K : Nat → Nat} (h : kInv g n bg K) (hs : ∀ k, stp g n bg K k = K k) : Fx K (ocf (rF g n bg K)) (omf (rF g n bg K)) 4 := by
  intro k hk
  obtain ⟨a1, a2, a3⟩ := h k
  refine ⟨a1, fun e => ?_, (a3 hk).1, (a3 hk).2, (rF_ok K).2.1 k⟩
  have h1 := hs k
  rw [stp, if_pos ⟨hk, e⟩, e] at h1
  by_cases m : omf (rF g n bg K) k = true
  · rw [if_pos m] at h1; omega
  · rw [if_neg m] at h1
    by_cases f : ocf (rF g n bg K) k = true
    · exact ⟨f, by simpa using m⟩
    · rw [if_neg f] at h1; omega
def itK (g : gP) (n : Nat) (bg : Bool) (K : Nat → Nat) : Nat → Nat → Nat
  | 0 => K
  | m + 1 => stp g n bg (itK g n bg K m)
/-- one pass with learning stays below a settled assignment -/
theorem pass_le (hW : gW g z) (hz : 0 < z) {K' : Nat → Nat} (hF : Fx K' (ocf (rF g n bg K')) (omf (rF g n bg K')) 4) {S : gS} (h : leK (sK S) K') : appr (rt g n bg true S).1 (rF g n bg K') ∧ leK (sK (rt g n bg true S).2) K' :=
  (ge_mono hW true (rc := ocf (rF g n bg K')) (rm := omf (rF g n bg K')) (fun _ k hk => hF k (by omega)) n me0 0 bg 0 true true hz (by decide) me0_lt id) S (kS K') h rfl (fun _ k _ => ⟨rfl, rfl⟩)
/-- the last pass with learning, and the settled assignment that the passes without it come to, say the same -/
theorem pass_end (hW : gW g z) (hH : gH g z) (hz : 0 < z) (hg0 : gen g 0 = z) {K0 : Nat → Nat} {m : Nat} (hi0 : kInv g n bg K0) (h0 : ∀ k, 4 ≤ k → (K0 k = 2 ∨ (K0 k = 0 ∧ 16 + 27 * z ≤ k))) (hfix : ∀ k, stp g n bg (itK g n bg K0 m) k = itK g n bg K0 m k)
    {S : gS} (hN : ∀ p, sN S p = false) (hle : leK (sK S) (itK g n bg K0 m)) (hin : ∀ k, k < 4 → sK S k = K0 k) (hL : sL (rt g n bg true S).2 = false) (hsg : ∀ k, 4 ≤ k → k < 16 → sK S k = 2 → ocf (rt g n bg true S).1 k = true ∧ omf (rt g n bg true S).1 k = false) (hsel : bg = false → ghas g 0 = true) :
    (rF g n bg (itK g n bg K0 m)) = (rt g n bg true S).1 ∧ (∀ k, k < 16 → sK S k = itK g n bg K0 m k) ∧ ((∃ c, omc (rF g n bg (itK g n bg K0 m)) c = true) → sN (rt g n bg false (kS (itK g n bg K0 m))).2 = sN (rt g n bg true S).2) := by
  have hinv : ∀ m, kInv g n bg (itK g n bg K0 m) := fun m => by
    induction m with
    | zero => exact hi0
    | succ m ih => exact stp_inv hW hz ih
  have chain : ∀ a b, a ≤ b → leK (itK g n bg K0 a) (itK g n bg K0 b) := fun a b hab => by
    induction b with
    | zero => obtain rfl : a = 0 := by omega
              exact leK.rf
    | succ b ih =>
      by_cases e : a = b + 1
      · subst e; exact leK.rf
      · exact (ih (by omega)).tr (stp_le _)
  have itlow : ∀ a k, k < 4 → itK g n bg K0 a k = K0 k := fun a k hk => by
    induction a with
    | zero => rfl
    | succ a ih =>
      show stp g n bg (itK g n bg K0 a) k = _
      rw [stp, if_neg (by omega)]
      exact ih
  have frt := ge_fr hW true n me0 0 bg 0 true hz (by decide)
  have ot := rt g n bg true S
  have inSI : ∀ k, ocf (rt g n bg true S).1 k = true → k < 16 ∨ SI g 0 bg 0 k := fun k hk => by
    rcases (frt S).1 k hk with ⟨s, hs⟩ | q
    · left
      have := me0_lt s
      omega
    · exact Or.inr q
  -- the completed statuses
  let Ke : Nat → Nat := fun k => if sK S k = 2 ∧ ocf (rt g n bg true S).1 k = false then 0 else sK S k
  have Keq : ∀ k, (sK S k ≠ 2 ∨ ocf (rt g n bg true S).1 k = true) → Ke k = sK S k := fun k hk => if_neg (fun q => by
    rcases hk with r | r
    · exact r q.1
    · rw [q.2] at r; cases r)
  have Klow : ∀ k, k < 16 → Ke k = sK S k := fun k hk => by
    apply Keq
    by_cases h4 : k < 4
    · left
      rw [hin k h4]
      have := (hi0 k).2.1 h4
      omega
    · by_cases e : sK S k = 2
      · exact Or.inr (hsg k (by omega) hk e).1
      · exact Or.inl e
  have same := (ge_same hW hH n me0 0 bg 0 true hz (by decide)) S (kS Ke) hL (by
    rintro k ⟨s, rfl⟩
    exact Klow _ (by have := me0_lt s; omega)) (fun k _ hc => Keq k hc)
  have sO : rF g n bg Ke = (rt g n bg true S).1 := same.1
  -- Ke is below the settled one
  have Kle : leK Ke (itK g n bg K0 m) := fun k => by
    by_cases c : sK S k = 2 ∧ ocf (rt g n bg true S).1 k = false
    · have e : Ke k = 0 := if_pos c
      rw [e]
      right
      have ap := (pass_le (n := n) (bg := bg) hW hz (fx_of (hinv m) hfix) hle).1
      have hk4 : 4 ≤ k := by
        by_cases h4 : k < 4
        · have a := hin k h4
          have := (hi0 k).2.1 h4
          omega
        · omega
      refine (fx0 (fx_of (hinv m) hfix) hk4 ?_).symm
      cases q : ocf (rF g n bg (itK g n bg K0 m)) k with
      | false => rfl
      | true => rw [ap.2.2.2 k q] at c; cases c.2
    · have e : Ke k = sK S k := if_neg c
      rw [e]; exact hle k
  -- and above every pass
  have up : ∀ a, a ≤ m → leK (itK g n bg K0 a) Ke := fun a => by
    induction a with
    | zero =>
      intro _ k
      show K0 k = 2 ∨ K0 k = Ke k
      by_cases h4 : k < 4
      · right; rw [Klow k (by omega), hin k h4]
      · rcases h0 k (by omega) with q | ⟨q, q2⟩
        · exact Or.inl q
        · right
          rw [q]
          have c := chain 0 m (by omega) k
          have hm0 : itK g n bg K0 m k = 0 := by
            rcases c with c | c
            · have : K0 k = 2 := c
              omega
            · have : K0 k = itK g n bg K0 m k := c
              omega
          have hf : ocf (rt g n bg true S).1 k = false := by
            cases r : ocf (rt g n bg true S).1 k with
            | false => rfl
            | true =>
              rcases inSI k r with t | t
              · omega
              · obtain ⟨t1, t2, t3, -⟩ := t
                rw [hg0] at t3
                omega
          by_cases e2 : sK S k = 2
          · exact (if_pos ⟨e2, hf⟩ : Ke k = 0).symm
          · rw [Keq k (Or.inl e2)]
            rcases hle k with r | r
            · exact absurd r e2
            · rw [r, hm0]
    | succ a ih =>
      intro ha
      have h1 := ih (by omega)
      have ap := rF_appr (n := n) (bg := bg) hW hz h1
      rw [sO] at ap
      intro k
      by_cases c : 4 ≤ k ∧ itK g n bg K0 a k = 2
      · have e : itK g n bg K0 (a + 1) k = if omf (rF g n bg (itK g n bg K0 a)) k then 1 else if ocf (rF g n bg (itK g n bg K0 a)) k then 2 else 0 := if_pos c
        have cm := chain (a + 1) m ha k
        by_cases mm : omf (rF g n bg (itK g n bg K0 a)) k = true
        · rw [if_pos mm] at e
          right
          rw [e]
          have m1 : itK g n bg K0 m k = 1 := by
            rcases cm with r | r <;> omega
          have mf := ap.2.1 k mm
          by_cases e2 : sK S k = 2
          · exfalso
            rcases inSI k ((ge_ok g true n me0 0 bg 0 true S).2.1 k mf) with t | t
            · have := (hsg k c.1 t e2).2
              rw [this] at mf; cases mf
            · have := ge_nl hW n me0 0 bg 0 true hz (by decide) me0_lt S hL k t e2
              rw [show omf (rt g n bg true S).1 k = false from this] at mf; cases mf
          · rw [Keq k (Or.inl e2)]
            rcases hle k with r | r
            · exact absurd r e2
            · rw [r, m1]
        · rw [if_neg mm] at e
          by_cases ff : ocf (rF g n bg (itK g n bg K0 a)) k = true
          · rw [if_pos ff] at e; exact Or.inl e
          · rw [if_neg ff] at e
            right
            rw [e]
            have m0 : itK g n bg K0 m k = 0 := by
              rcases cm with r | r <;> omega
            have cf : ocf (rt g n bg true S).1 k = false := by
              cases r : ocf (rt g n bg true S).1 k with
              | false => rfl
              | true => exact absurd (ap.2.2.2 k r) ff
            by_cases e2 : sK S k = 2
            · exact (if_pos ⟨e2, cf⟩ : Ke k = 0).symm
            · rw [Keq k (Or.inl e2)]
              rcases hle k with r | r
              · exact absurd r e2
              · rw [r, m0]
      · have e : itK g n bg K0 (a + 1) k = itK g n bg K0 a k := if_neg c
        rw [e]; exact h1 k
  have Ke_eq : Ke = itK g n bg K0 m := by
    funext k
    rcases Kle k with a | a
    · rcases up m (Nat.le_refl m) k with b | b
      · rw [a, b]
      · exact b.symm
    · exact a
  refine ⟨by rw [← Ke_eq]; exact sO, fun k hk => by rw [← Ke_eq]; exact (Klow k hk).symm, fun hc => ?_⟩
  rw [← Ke_eq]
  have hc' : ∃ c, omc (rt g n bg true S).1 c = true := by rw [← sO, Ke_eq]; exact hc
  refine same.2 hc' ?_ (fun p _ => hN p) hsel
  funext p
  exact (hN p).symm
end PASS
