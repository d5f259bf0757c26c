/-! THE ABSTRACT SEMANTICS: a pass over the program with statuses K of signals and of the locals' runs ('slots', numbered as the reference does), with learning on the way (lrn) or without -/
abbrev gP : Type := (Nat → Nat) × (Nat → Nat) × (Nat → Bool) × (Nat → Nat) × (Nat → Nat) × (Nat → Nat) × (Nat → Nat → Bool) × (Nat → Bool)
def gso (g : gP) : Nat → Nat := g.1
def gxo (g : gP) : Nat → Nat := g.2.1
def gng (g : gP) : Nat → Bool := g.2.2.1
def gsec (g : gP) : Nat → Nat := g.2.2.2.1
def gen (g : gP) : Nat → Nat := g.2.2.2.2.1
def gdep (g : gP) : Nat → Nat := g.2.2.2.2.2.1
def ghp (g : gP) : Nat → Nat → Bool := g.2.2.2.2.2.2.1
def gsel (g : gP) : Nat → Bool := g.2.2.2.2.2.2.2
abbrev gO : Type := (Nat → Bool) × (Nat → Bool) × (Nat → Bool) × (Nat → Bool)
abbrev gS : Type := (Nat → Nat) × (Nat → Bool) × Bool
abbrev gM : Type := gS → gO × gS
def occ (o : gO) : Nat → Bool := o.1
def omc (o : gO) : Nat → Bool := o.2.1
def ocf (o : gO) : Nat → Bool := o.2.2.1
def omf (o : gO) : Nat → Bool := o.2.2.2
def sK (S : gS) : Nat → Nat := S.1
def sN (S : gS) : Nat → Bool := S.2.1
def sL (S : gS) : Bool := S.2.2
def upN {α : Type} (f : Nat → α) (k : Nat) (v : α) : Nat → α := fun j => if j = k then v else f j
def oS (c : Nat) (b : Bool) : gO := (fun n => decide (n = c), fun n => b && decide (n = c), fun _ => false, fun _ => false)
def oE (k : Nat) (b : Bool) : gO := (fun n => decide (n = 0), fun n => b && decide (n = 0), fun j => decide (j = k), fun j => b && decide (j = k))
def oU (p q : gO) : gO := (fun n => p.1 n || q.1 n, fun n => p.2.1 n || q.2.1 n, fun n => p.2.2.1 n || q.2.2.1 n, fun n => p.2.2.2 n || q.2.2.2 n)
def oZ (p : gO) : gO := (fun n => decide (n ≠ 0) && p.1 n, fun n => decide (n ≠ 0) && p.2.1 n, p.2.2.1, p.2.2.2)
def blw (A : Nat → Bool) (n : Nat) : Bool := (List.range (n + 1)).any A
def mxs (A B : Nat → Bool) (n : Nat) : Bool := (A n && blw B n) || (B n && blw A n)
def oP (p q : gO) : gO := (mxs p.1 q.1, mxs p.2.1 q.2.1, fun n => p.2.2.1 n || q.2.2.1 n, fun n => p.2.2.2 n || q.2.2.2 n)
def tps (A : Nat → Bool) (n : Nat) : Bool := if n = 0 then A 0 || A 2 else if n = 1 then A 1 else A (n + 1)
def oTr (p : gO) : gO := (tps p.1, tps p.2.1, p.2.2.1, p.2.2.2)
def gPu (o : gO) : gM := fun S => (o, S)
def gU (A B : gM) : gM := fun S => (oU (A S).1 (B (A S).2).1, (B (A S).2).2)
def gPar (A B : gM) : gM := fun S => (oP (A S).1 (B (A S).2).1, (B (A S).2).2)
def gAnd (A : gM) (B : Bool → gM) : gM := fun S => if occ (A S).1 0 then (oU (oZ (A S).1) (B (omc (A S).1 0) (A S).2).1, (B (omc (A S).1 0) (A S).2).2) else A S
def gTrap (h : Nat → Bool) (A : gM) : gM := fun S => (oTr (A S).1, if omc (A S).1 2 then (sK (A S).2, fun p => sN (A S).2 p && !h p, sL (A S).2) else (A S).2)
def lnv (o : gO) (k : Nat) : Bool := omf o k || !ocf o k
def gLoc (lrn : Bool) (k : Nat) (A : gM) : gM := fun S => if lrn && decide (sK (A S).2 k = 2) && lnv (A S).1 k then A (upN (sK (A S).2) k (if omf (A S).1 k then 1 else 0), sN (A S).2, true) else A S
def gPs (p : Nat → Bool) (on b : Bool) : gM := fun S => (oS 1 b, if on then (sK S, fun q => sN S q || p q, sL S) else S)
def tst (K : Nat → Nat) (k : Nat) (ng : Bool) : Nat := if K k = 2 then 2 else if ng then 1 - K k else K k
def gPres (k : Nat) (ng b : Bool) (A B : Bool → gM) : gM := fun S => if tst (sK S) k ng = 0 then B b S else if tst (sK S) k ng = 1 then A b S else gU (A false) (B false) S
def gSus (k : Nat) (ng b lrn : Bool) (h sel : Nat → Bool) (A : Bool → gM) : gM := fun S => if tst (sK S) k ng = 0 then A b S else if tst (sK S) k ng = 1 then (oS 1 b, if lrn then (sK S, fun p => sN S p || (sel p && h p), sL S) else if b then (sK S, fun p => if h p then sel p else sN S p, sL S) else S) else gU (A false) (gPu (oS 1 false)) S
def ghas (g : gP) (i : Nat) : Bool := (List.range 32).any (fun p => gsel g p && ghp g i p)
abbrev gR : Type := (Nat → Nat) → Nat → Bool → Nat → Bool → gM
def slt (i : Nat) (st : Bool) (w : Nat) : Nat := 16 + 27 * i + (if st then w else 26)
def gBr (g : gP) (R : gR) (me : Nat → Nat) (j w : Nat) (b : Bool) : gM := if ghas g j then R me j false w b else gPu (oS 0 b)
def ge1 (g : gP) (lrn : Bool) (R : gR) : gR := fun me i st w b =>
  if gso g i = 10 then gLoc lrn (slt i st w) (R (upN me (gxo g i) (slt i st w)) (i + 1) st w b)
  else if gso g i = 9 then gTrap (ghp g i) (R me (i + 1) st w b)
  else if st = true then
    (if gso g i = 1 then gPs (ghp g i) (lrn || b) b
    else if gso g i = 2 then gPu (oE (me (gxo g i)) b)
    else if gso g i = 3 then gPu (oS (2 + gxo g i) b)
    else if gso g i = 4 then gPres (me (gxo g i)) (gng g i) b (fun b' => R me (i + 1) true w b') (fun b' => R me (gsec g i) true w b')
    else if gso g i = 5 then R me (i + 1) true w b
    else if gso g i = 6 then gAnd (R me (i + 1) true w b) (fun b' => R me (gsec g i) true w b')
    else if gso g i = 7 then gPar (R me (i + 1) true w b) (R me (gsec g i) true w b)
    else if gso g i = 8 then R me (i + 1) true w b
    else gPu (oS 0 b))
  else
    (if gso g i = 4 then (if ghas g (i + 1) then R me (i + 1) false w b else R me (gsec g i) false w b)
    else if gso g i = 5 then gSus (me (gxo g i)) (gng g i) b lrn (ghp g i) (gsel g) (fun b' => R me (i + 1) false w b')
    else if gso g i = 6 then (if ghas g (i + 1) then gAnd (R me (i + 1) false w b) (fun b' => R me (gsec g i) true (1 + gdep g i) b') else R me (gsec g i) false w b)
    else if gso g i = 7 then gPar (gBr g R me (i + 1) w b) (gBr g R me (gsec g i) w b)
    else if gso g i = 8 then gAnd (R me (i + 1) false w b) (fun b' => R me (i + 1) true (1 + gdep g i) b')
    else gPu (oS 0 b))
def ge (g : gP) (lrn : Bool) : Nat → gR
  | 0 => fun _ _ _ _ b => gPu (oS 0 b)
  | n + 1 => ge1 g lrn (ge g lrn n)
/-- L1 -/
def oOk (b : Bool) (o : gO) : Prop := (∀ c, omc o c = true → occ o c = true) ∧ (∀ k, omf o k = true → ocf o k = true) ∧ (b = false → (∀ c, omc o c = false) ∧ ∀ k, omf o k = false) ∧ (∀ c, omc o c = true → (∀ d, occ o d = true → d = c) ∧ ∀ k, ocf o k = true → omf o k = true)
theorem blw_iff {A : Nat → Bool} {n : Nat} : blw A n = true ↔ ∃ m, m ≤ n ∧ A m = true := by
  simp [blw, List.any_eq_true, Nat.lt_succ_iff]
theorem mxs_iff {A B : Nat → Bool} {n : Nat} : mxs A B n = true ↔ ∃ a b, A a = true ∧ B b = true ∧ n = max a b := by
  simp only [mxs, Bool.or_eq_true, Bool.and_eq_true, blw_iff]
  constructor
  · rintro (⟨h, m, hm, h2⟩ | ⟨h, m, hm, h2⟩)
    · exact ⟨n, m, h, h2, by omega⟩
    · exact ⟨m, n, h2, h, by omega⟩
  · rintro ⟨a, b, ha, hb, rfl⟩
    by_cases h : a ≤ b
    · right; rw [show max a b = b by omega]; exact ⟨hb, a, h, ha⟩
    · left; rw [show max a b = a by omega]; exact ⟨ha, b, by omega, hb⟩
theorem oS_ok (c : Nat) (b : Bool) : oOk b (oS c b) := by
  simp [oOk, oS, omc, occ, omf, ocf]
theorem oE_ok (k : Nat) (b : Bool) : oOk b (oE k b) := by
  simp only [oOk, oE, omc, occ, omf, ocf]
  grind
theorem oU_ok {b : Bool} {p q : gO} (hp : oOk false p) (hq : oOk false q) : oOk b (oU p q) := by
  simp only [oOk, oU, omc, occ, omf, ocf] at *
  grind
theorem oZU_ok {b : Bool} {p q : gO} (hp : oOk b p) (h0 : occ p 0 = true) (hq : oOk (omc p 0) q) : oOk b (oU (oZ p) q) := by
  simp only [oOk, oU, oZ, omc, occ, omf, ocf] at *
  grind
theorem oP_ok {b : Bool} {p q : gO} (hp : oOk b p) (hq : oOk b q) : oOk b (oP p q) := by
  simp only [oOk, oP, omc, occ, omf, ocf, mxs_iff] at *
  refine ⟨?_, ?_, ?_, ?_⟩
  · rintro c ⟨x, y, h1, h2, rfl⟩
    exact ⟨x, y, hp.1 x h1, hq.1 y h2, rfl⟩
  · grind
  · intro hb
    refine ⟨fun c => ?_, ?_⟩
    · have h1 := (hp.2.2.1 hb).1
      cases hm : mxs p.2.1 q.2.1 c with
      | false => rfl
      | true => obtain ⟨x, y, a1, a2, -⟩ := mxs_iff.mp hm; rw [h1 x] at a1; cases a1
    · grind
  · rintro c ⟨x, y, h1, h2, rfl⟩
    refine ⟨?_, ?_⟩
    · rintro d ⟨x', y', a1, a2, rfl⟩
      rw [(hp.2.2.2 x h1).1 x' a1, (hq.2.2.2 y h2).1 y' a2]
    · intro k hk
      have := (hp.2.2.2 x h1).2 k
      have := (hq.2.2.2 y h2).2 k
      grind
theorem oT_ok {b : Bool} {p : gO} (hp : oOk b p) : oOk b (oTr p) := by
  simp only [oOk, oTr, omc, occ, omf, ocf, tps] at *
  grind
theorem gAnd_ok {b : Bool} {A : gM} {B : Bool → gM} (hA : ∀ S, oOk b (A S).1) (hB : ∀ b' S, oOk b' (B b' S).1) (S : gS) : oOk b (gAnd A B S).1 := by
  unfold gAnd
  split
  · next h => exact oZU_ok (hA S) h (hB _ _)
  · exact hA S
theorem ge1_c2 (Q : gM → gM → Prop) (g : gP) (l l' : Bool) (R R' : gR) (me : Nat → Nat) (i : Nat) (st : Bool) (w : Nat) (b b' : Bool)
    (c10 : gso g i = 10 → Q (gLoc l (slt i st w) (R (upN me (gxo g i) (slt i st w)) (i + 1) st w b)) (gLoc l' (slt i st w) (R' (upN me (gxo g i) (slt i st w)) (i + 1) st w b')))
    (c9 : gso g i = 9 → Q (gTrap (ghp g i) (R me (i + 1) st w b)) (gTrap (ghp g i) (R' me (i + 1) st w b')))
    (s1 : gso g i = 1 → st = true → Q (gPs (ghp g i) (l || b) b) (gPs (ghp g i) (l' || b') b'))
    (s2 : gso g i = 2 → st = true → Q (gPu (oE (me (gxo g i)) b)) (gPu (oE (me (gxo g i)) b')))
    (s3 : gso g i = 3 → st = true → Q (gPu (oS (2 + gxo g i) b)) (gPu (oS (2 + gxo g i) b')))
    (s4 : gso g i = 4 → st = true → Q (gPres (me (gxo g i)) (gng g i) b (fun d => R me (i + 1) true w d) (fun d => R me (gsec g i) true w d)) (gPres (me (gxo g i)) (gng g i) b' (fun d => R' me (i + 1) true w d) (fun d => R' me (gsec g i) true w d)))
    (s58 : (gso g i = 5 ∨ gso g i = 8) → st = true → Q (R me (i + 1) true w b) (R' me (i + 1) true w b'))
    (s6 : gso g i = 6 → st = true → Q (gAnd (R me (i + 1) true w b) (fun d => R me (gsec g i) true w d)) (gAnd (R' me (i + 1) true w b') (fun d => R' me (gsec g i) true w d)))
    (s7 : gso g i = 7 → st = true → Q (gPar (R me (i + 1) true w b) (R me (gsec g i) true w b)) (gPar (R' me (i + 1) true w b') (R' me (gsec g i) true w b')))
    (s0 : (gso g i = 0 ∨ 10 < gso g i) → st = true → Q (gPu (oS 0 b)) (gPu (oS 0 b')))
    (ra : ((gso g i = 4 ∨ gso g i = 6) ∧ ghas g (i + 1) = false) → st = false → Q (R me (gsec g i) false w b) (R' me (gsec g i) false w b'))
    (r4 : (gso g i = 4 ∧ ghas g (i + 1) = true) → st = false → Q (R me (i + 1) false w b) (R' me (i + 1) false w b'))
    (r5 : gso g i = 5 → st = false → Q (gSus (me (gxo g i)) (gng g i) b l (ghp g i) (gsel g) (fun d => R me (i + 1) false w d)) (gSus (me (gxo g i)) (gng g i) b' l' (ghp g i) (gsel g) (fun d => R' me (i + 1) false w d)))
    (r6 : (gso g i = 6 ∧ ghas g (i + 1) = true) → st = false → Q (gAnd (R me (i + 1) false w b) (fun d => R me (gsec g i) true (1 + gdep g i) d)) (gAnd (R' me (i + 1) false w b') (fun d => R' me (gsec g i) true (1 + gdep g i) d)))
    (r7 : gso g i = 7 → st = false → Q (gPar (gBr g R me (i + 1) w b) (gBr g R me (gsec g i) w b)) (gPar (gBr g R' me (i + 1) w b') (gBr g R' me (gsec g i) w b')))
    (r8 : gso g i = 8 → st = false → Q (gAnd (R me (i + 1) false w b) (fun d => R me (i + 1) true (1 + gdep g i) d)) (gAnd (R' me (i + 1) false w b') (fun d => R' me (i + 1) true (1 + gdep g i) d)))
    (r0 : (gso g i < 4 ∨ 10 < gso g i) → st = false → Q (gPu (oS 0 b)) (gPu (oS 0 b')))
    : Q (ge1 g l R me i st w b) (ge1 g l' R' me i st w b') := by
  unfold ge1
  by_cases h10 : gso g i = 10
  · rw [if_pos h10, if_pos h10]; exact c10 h10
  rw [if_neg h10, if_neg h10]
  by_cases h9 : gso g i = 9
  · rw [if_pos h9, if_pos h9]; exact c9 h9
  rw [if_neg h9, if_neg h9]
  by_cases hs : st = true
  · rw [if_pos hs, if_pos hs]
    by_cases h1 : gso g i = 1
    · rw [if_pos h1, if_pos h1]; exact s1 h1 hs
    rw [if_neg h1, if_neg h1]
    by_cases h2 : gso g i = 2
    · rw [if_pos h2, if_pos h2]; exact s2 h2 hs
    rw [if_neg h2, if_neg h2]
    by_cases h3 : gso g i = 3
    · rw [if_pos h3, if_pos h3]; exact s3 h3 hs
    rw [if_neg h3, if_neg h3]
    by_cases h4 : gso g i = 4
    · rw [if_pos h4, if_pos h4]; exact s4 h4 hs
    rw [if_neg h4, if_neg h4]
    by_cases h5 : gso g i = 5
    · rw [if_pos h5, if_pos h5]; exact s58 (Or.inl h5) hs
    rw [if_neg h5, if_neg h5]
    by_cases h6 : gso g i = 6
    · rw [if_pos h6, if_pos h6]; exact s6 h6 hs
    rw [if_neg h6, if_neg h6]
    by_cases h7 : gso g i = 7
    · rw [if_pos h7, if_pos h7]; exact s7 h7 hs
    rw [if_neg h7, if_neg h7]
    by_cases h8 : gso g i = 8
    · rw [if_pos h8, if_pos h8]; exact s58 (Or.inr h8) hs
    rw [if_neg h8, if_neg h8]
    exact s0 (by omega) hs
  · rw [if_neg hs, if_neg hs]
    have hs : st = false := by cases st with | true => exact absurd rfl hs | false => rfl
    by_cases h4 : gso g i = 4
    · rw [if_pos h4, if_pos h4]
      by_cases hh : ghas g (i + 1) = true
      · rw [if_pos hh, if_pos hh]; exact r4 ⟨h4, hh⟩ hs
      · rw [if_neg hh, if_neg hh]; exact ra ⟨Or.inl h4, by simpa using hh⟩ hs
    rw [if_neg h4, if_neg h4]
    by_cases h5 : gso g i = 5
    · rw [if_pos h5, if_pos h5]; exact r5 h5 hs
    rw [if_neg h5, if_neg h5]
    by_cases h6 : gso g i = 6
    · rw [if_pos h6, if_pos h6]
      by_cases hh : ghas g (i + 1) = true
      · rw [if_pos hh, if_pos hh]; exact r6 ⟨h6, hh⟩ hs
      · rw [if_neg hh, if_neg hh]; exact ra ⟨Or.inr h6, by simpa using hh⟩ hs
    rw [if_neg h6, if_neg h6]
    by_cases h7 : gso g i = 7
    · rw [if_pos h7, if_pos h7]; exact r7 h7 hs
    rw [if_neg h7, if_neg h7]
    by_cases h8 : gso g i = 8
    · rw [if_pos h8, if_pos h8]; exact r8 h8 hs
    rw [if_neg h8, if_neg h8]
    exact r0 (by omega) hs
theorem ge_ok (g : gP) (lrn : Bool) : ∀ (n : Nat) (me : Nat → Nat) (i : Nat) (st : Bool) (w : Nat) (b : Bool) (S : gS), oOk b (ge g lrn n me i st w b S).1 := by
  intro n
  induction n with
  | zero => intro me i st w b S; exact oS_ok 0 b
  | succ n ih =>
    intro me i st w b S
    have hBr : ∀ j w b S, oOk b (gBr g (ge g lrn n) me j w b S).1 := by
      intro j w b S
      unfold gBr
      by_cases h : ghas g j = true
      · rw [if_pos h]; exact ih _ _ _ _ _ _
      · rw [if_neg h]; exact oS_ok 0 b
    refine ge1_c2 (fun A _ => oOk b (A S).1) g lrn lrn (ge g lrn n) (ge g lrn n) me i st w b b ?_ ?_ ?_ ?_ ?_ ?_ ?_ ?_ ?_ ?_ ?_ ?_ ?_ ?_ ?_ ?_ ?_
    · intro _; unfold gLoc; split <;> exact ih _ _ _ _ _ _
    · intro _; exact oT_ok (ih _ _ _ _ _ _)
    · intro _ _; exact oS_ok 1 b
    · intro _ _; exact oE_ok _ _
    · intro _ _; exact oS_ok _ _
    · intro _ _; unfold gPres; split
      · exact ih _ _ _ _ _ _
      · split
        · exact ih _ _ _ _ _ _
        · exact oU_ok (ih _ _ _ _ _ _) (ih _ _ _ _ _ _)
    · intro _ _; exact ih _ _ _ _ _ _
    · intro _ _; exact gAnd_ok (fun S => ih _ _ _ _ _ S) (fun b' S => ih _ _ _ _ b' S) S
    · intro _ _; exact oP_ok (ih _ _ _ _ _ _) (ih _ _ _ _ _ _)
    · intro _ _; exact oS_ok _ _
    · intro _ _; exact ih _ _ _ _ _ _
    · intro _ _; exact ih _ _ _ _ _ _
    · intro _ _; unfold gSus; split
      · exact ih _ _ _ _ _ _
      · split
        · exact oS_ok _ _
        · exact oU_ok (ih _ _ _ _ _ _) (oS_ok 1 false)
    · intro _ _; exact gAnd_ok (fun S => ih _ _ _ _ _ S) (fun b' S => ih _ _ _ _ b' S) S
    · intro _ _; exact oP_ok (hBr _ _ _ _) (hBr _ _ _ _)
    · intro _ _; exact gAnd_ok (fun S => ih _ _ _ _ _ S) (fun b' S => ih _ _ _ _ b' S) S
    · intro _ _; exact oS_ok _ _
/-- the shape of a whole program of z statements -/
def gW (g : gP) (z : Nat) : Prop := ∀ i, i < z → i < gen g i ∧ gen g i ≤ z ∧ gdep g i < 24 ∧ gxo g i < 16 ∧
  ((gso g i = 5 ∨ gso g i = 8 ∨ gso g i = 9 ∨ gso g i = 10) → i + 1 < z ∧ gen g (i + 1) = gen g i ∧ gdep g (i + 1) = gdep g i + 1) ∧
  ((gso g i = 4 ∨ gso g i = 6 ∨ gso g i = 7) → i + 1 < gsec g i ∧ gsec g i < z ∧ gen g (i + 1) = gsec g i ∧ gen g (gsec g i) = gen g i ∧ gdep g (i + 1) = gdep g i + 1 ∧ gdep g (gsec g i) = gdep g i + 1)
def SI (g : gP) (i : Nat) (st : Bool) (w k : Nat) : Prop := 16 ≤ k ∧ i ≤ (k - 16) / 27 ∧ (k - 16) / 27 < gen g i ∧ (st = true → (k - 16) % 27 = w) ∧ (st = false → gdep g i < (k - 16) % 27)
def kStep (P : Nat → Prop) (b : Bool) (K K' : Nat → Nat) : Prop := ∀ k, K' k ≠ K k → P k ∧ K k = 2 ∧ (K' k = 0 ∨ (b = true ∧ K' k = 1))
def lStep (P : Nat → Prop) (S S' : gS) : Prop := (sL S = true → sL S' = true) ∧ (sL S' = true → sL S = true ∨ ∃ k, P k ∧ sK S k = 2 ∧ sK S' k ≠ 2) ∧ (sL S' = false → sK S' = sK S)
def Fr (lrn : Bool) (Me P : Nat → Prop) (b : Bool) (A : gM) : Prop := ∀ S, (∀ k, ocf (A S).1 k = true → Me k ∨ P k) ∧ kStep P b (sK S) (sK (A S).2) ∧ lStep P S (A S).2 ∧ (lrn = false → sK (A S).2 = sK S ∧ sL (A S).2 = sL S)
theorem kStep.rf {P : Nat → Prop} {b : Bool} {K : Nat → Nat} : kStep P b K K := fun k h => absurd rfl h
theorem lStep.rf {P : Nat → Prop} {S : gS} : lStep P S S := ⟨id, Or.inl, fun _ => rfl⟩
theorem kStep.tr {P P' Q : Nat → Prop} {b b' d : Bool} {K K1 K2 : Nat → Nat} (h1 : kStep P b K K1) (h2 : kStep P' b' K1 K2) (hP : ∀ k, P k → Q k) (hP' : ∀ k, P' k → Q k) (hb : b = true → d = true) (hb' : b' = true → d = true) : kStep Q d K K2 := by
  intro k hk
  have a1 := h1 k
  have a2 := h2 k
  by_cases e : K1 k = K k
  · rw [e] at a2
    obtain ⟨p1, p2, p3⟩ := a2 hk
    exact ⟨hP' k p1, p2, p3.imp id (fun q => ⟨hb' q.1, q.2⟩)⟩
  · obtain ⟨p1, p2, p3⟩ := a1 e
    have e2 : K2 k = K1 k := by
      by_cases f : K2 k = K1 k
      · exact f
      · have := (a2 f).2.1
        omega
    rw [e2]
    exact ⟨hP k p1, p2, p3.imp id (fun q => ⟨hb q.1, q.2⟩)⟩
theorem lStep.tr {P P' Q : Nat → Prop} {b b' : Bool} {S S1 S2 : gS} (h1 : lStep P S S1) (h2 : lStep P' S1 S2) (hk1 : kStep P b (sK S) (sK S1)) (hk2 : kStep P' b' (sK S1) (sK S2)) (hP : ∀ k, P k → Q k) (hP' : ∀ k, P' k → Q k) : lStep Q S S2 := by
  refine ⟨fun h => h2.1 (h1.1 h), fun h => ?_, fun h => ?_⟩
  · rcases h2.2.1 h with h | ⟨k, q1, q2, q3⟩
    · rcases h1.2.1 h with h | ⟨k, q1, q2, q3⟩
      · exact Or.inl h
      · refine Or.inr ⟨k, hP k q1, q2, fun e => ?_⟩
        have := hk2 k
        by_cases f : sK S2 k = sK S1 k
        · exact q3 (by rw [← f]; exact e)
        · exact q3 (this f).2.1
    · refine Or.inr ⟨k, hP' k q1, ?_, q3⟩
      by_cases f : sK S1 k = sK S k
      · rw [← f]; exact q2
      · have := hk1 k f
        exact this.2.1
  · have a := h2.2.2 h
    have b : sL S1 = false := by
      cases e : sL S1 with
      | false => rfl
      | true => rw [h2.1 e] at h; cases h
    rw [a, h1.2.2 b]
theorem Fr.sub {lrn : Bool} {Me P Q : Nat → Prop} {b d : Bool} {A : gM} (h : Fr lrn Me P b A) (hP : ∀ k, P k → Q k) (hb : b = true → d = true) : Fr lrn Me Q d A := fun S => ⟨fun k hk => ((h S).1 k hk).imp id (hP k), fun k hk => ⟨hP k ((h S).2.1 k hk).1, ((h S).2.1 k hk).2.1, ((h S).2.1 k hk).2.2.imp id (fun q => ⟨hb q.1, q.2⟩)⟩, ⟨(h S).2.2.1.1, fun e => ((h S).2.2.1.2.1 e).imp id (fun ⟨k, a, c⟩ => ⟨k, hP k a, c⟩), (h S).2.2.1.2.2⟩, (h S).2.2.2⟩
theorem Fr.pu {lrn : Bool} {Me P : Nat → Prop} {b : Bool} {o : gO} (h : ∀ k, ocf o k = true → Me k ∨ P k) : Fr lrn Me P b (gPu o) := fun _ => ⟨h, kStep.rf, lStep.rf, fun _ => ⟨rfl, rfl⟩⟩
theorem Fr.seq {lrn : Bool} {Me P P' Q : Nat → Prop} {b b' d : Bool} {A : gM} {B : gM} {f : gO → gO → gO} (hf : ∀ p q k, ocf (f p q) k = true → ocf p k = true ∨ ocf q k = true) (hA : Fr lrn Me P b A) (hB : Fr lrn Me P' b' B) (hP : ∀ k, P k → Q k) (hP' : ∀ k, P' k → Q k) (hb : b = true → d = true) (hb' : b' = true → d = true) : Fr lrn Me Q d (fun S => (f (A S).1 (B (A S).2).1, (B (A S).2).2)) := by
  intro S
  obtain ⟨a1, a2, a3, a4⟩ := hA S
  obtain ⟨b1, b2, b3, b4⟩ := hB (A S).2
  refine ⟨fun k hk => ?_, a2.tr b2 hP hP' hb hb', a3.tr b3 a2 b2 hP hP', fun h => ⟨(b4 h).1.trans (a4 h).1, (b4 h).2.trans (a4 h).2⟩⟩
  rcases hf _ _ k hk with h | h
  · exact (a1 k h).imp id (hP k)
  · exact (b1 k h).imp id (hP' k)
theorem oU_cf (p q : gO) (k : Nat) (h : ocf (oU p q) k = true) : ocf p k = true ∨ ocf q k = true := by
  simpa [ocf, oU] using h
theorem oP_cf (p q : gO) (k : Nat) (h : ocf (oP p q) k = true) : ocf p k = true ∨ ocf q k = true := by
  simpa [ocf, oP] using h
theorem Fr.and {lrn : Bool} {Me P P' Q : Nat → Prop} {b : Bool} {A : gM} {B : Bool → gM} (hok : ∀ S, oOk b (A S).1) (hA : Fr lrn Me P b A) (hB : ∀ b', Fr lrn Me P' b' (B b')) (hP : ∀ k, P k → Q k) (hP' : ∀ k, P' k → Q k) : Fr lrn Me Q b (gAnd A B) := by
  intro S
  by_cases h0 : occ (A S).1 0 = true
  · have hb : omc (A S).1 0 = true → b = true := fun h => by
      cases b with
      | true => rfl
      | false => rw [((hok S).2.2.1 rfl).1 0] at h; cases h
    have := Fr.seq (f := fun p q => oU (oZ p) q) (fun p q k h => (oU_cf _ _ k h).imp id id) hA (hB (omc (A S).1 0)) hP hP' id hb S
    simpa only [gAnd, if_pos h0] using this
  · have e : gAnd A B S = A S := if_neg h0
    rw [e]
    exact hA.sub hP id S
theorem Fr.lo {lrn : Bool} {Me Me' P Q : Nat → Prop} {b : Bool} {A : gM} {k0 : Nat} (hok : ∀ S, oOk b (A S).1) (hA : Fr lrn Me' P b A) (hM : ∀ k, Me' k → Me k ∨ k = k0) (hP : ∀ k, P k → Q k) (hQ : Q k0) : Fr lrn Me Q b (gLoc lrn k0 A) := by
  have hA' : ∀ S, (∀ k, ocf (A S).1 k = true → Me k ∨ Q k) := fun S k hk => by
    rcases (hA S).1 k hk with h | h
    · rcases hM k h with h | h
      · exact Or.inl h
      · exact Or.inr (h ▸ hQ)
    · exact Or.inr (hP k h)
  intro S
  obtain ⟨a1, a2, a3, a4⟩ := hA S
  by_cases hc : (lrn && decide (sK (A S).2 k0 = 2) && lnv (A S).1 k0) = true
  · have e : gLoc lrn k0 A S = A (upN (sK (A S).2) k0 (if omf (A S).1 k0 then 1 else 0), sN (A S).2, true) := if_pos hc
    rw [e]
    have hl : lrn = true ∧ sK (A S).2 k0 = 2 := by
      simp only [Bool.and_eq_true, decide_eq_true_eq] at hc
      exact hc.1
    obtain ⟨b1, b2, b3, b4⟩ := hA (upN (sK (A S).2) k0 (if omf (A S).1 k0 then 1 else 0), sN (A S).2, true)
    have k1 : kStep Q b (sK (A S).2) (upN (sK (A S).2) k0 (if omf (A S).1 k0 then 1 else 0)) := by
      intro k hk
      by_cases ek : k = k0
      · subst ek
        refine ⟨hQ, hl.2, ?_⟩
        simp only [upN, if_pos]
        by_cases hm : omf (A S).1 k = true
        · right
          rw [if_pos hm]
          refine ⟨?_, rfl⟩
          cases b with
          | true => rfl
          | false => rw [((hok S).2.2.1 rfl).2 k] at hm; cases hm
        · left; rw [if_neg hm]
      · exact absurd (if_neg ek) hk
    have k2 := a2.tr k1 hP (fun _ h => h) id id
    have k3 := k2.tr b2 (fun _ h => h) hP id id
    refine ⟨hA' _, k3, ⟨fun _ => b3.1 rfl, fun _ => Or.inr ⟨k0, hQ, ?_, ?_⟩, fun h => ?_⟩, fun h => by rw [hl.1] at h; cases h⟩
    · by_cases f : sK (A S).2 k0 = sK S k0
      · rw [← f]; exact hl.2
      · exact (a2 k0 f).2.1
    · have hv : upN (sK (A S).2) k0 (if omf (A S).1 k0 then 1 else 0) k0 ≠ 2 := by
        simp only [upN, if_pos]
        split <;> decide
      intro e2
      by_cases f : sK (A (upN (sK (A S).2) k0 (if omf (A S).1 k0 then 1 else 0), sN (A S).2, true)).2 k0 = upN (sK (A S).2) k0 (if omf (A S).1 k0 then 1 else 0) k0
      · exact hv (f ▸ e2)
      · exact hv (b2 k0 f).2.1
    · have := b3.1 rfl
      rw [this] at h
      cases h
  · have e : gLoc lrn k0 A S = A S := if_neg hc
    rw [e]
    exact ⟨hA' S, (hA.sub hP id S).2⟩
theorem slt_div {i t : Nat} (h : t < 27) : (16 + 27 * i + t - 16) / 27 = i ∧ (16 + 27 * i + t - 16) % 27 = t := by
  have e : 16 + 27 * i + t - 16 = 27 * i + t := by omega
  rw [e]
  omega
theorem SI_slt {g : gP} {i w : Nat} {st : Bool} (h1 : i < gen g i) (h3 : gdep g i < 24) (hw : w < 26) : SI g i st w (slt i st w) := by
  unfold SI slt
  cases st with
  | true =>
    obtain ⟨a, b⟩ := slt_div (i := i) (t := w) (by omega)
    simp only [if_true]
    refine ⟨by omega, by rw [a]; exact Nat.le_refl _, by rw [a]; exact h1, fun _ => b, fun e => by cases e⟩
  | false =>
    obtain ⟨a, b⟩ := slt_div (i := i) (t := 26) (by omega)
    simp only [Bool.false_eq_true, if_false]
    refine ⟨by omega, by rw [a]; exact Nat.le_refl _, by rw [a]; exact h1, fun e => e.elim, fun _ => by rw [b]; omega⟩
theorem ge_fr {g : gP} {z : Nat} (hW : gW g z) (lrn : Bool) : ∀ (n : Nat) (me : Nat → Nat) (i : Nat) (st : Bool) (w : Nat) (b : Bool), i < z → w < 26 → Fr lrn (fun k => ∃ s, me s = k) (SI g i st w) b (ge g lrn n me i st w b) := by
  intro n
  induction n with
  | zero => intro me i st w b _ _; exact Fr.pu (fun k h => by simp [ocf, oS] at h)
  | succ n ih =>
    intro me i st w b hi hw
    have hok := fun me i st w b S => ge_ok g lrn n me i st w b S
    obtain ⟨w1, w2, w3, w4, w5, w6⟩ := hW i hi
    have up1 : (gso g i = 5 ∨ gso g i = 8 ∨ gso g i = 9 ∨ gso g i = 10) → ∀ (st' : Bool) (w' k : Nat), SI g (i + 1) st w k → SI g i st w k := fun h _ _ k q => by
      obtain ⟨a1, a2, a3⟩ := w5 h
      obtain ⟨q1, q2, q3, q4, q5⟩ := q
      exact ⟨q1, by omega, by omega, q4, fun e => by have := q5 e; omega⟩
    have upA : (gso g i = 4 ∨ gso g i = 6 ∨ gso g i = 7) → ∀ k, SI g (i + 1) st w k → SI g i st w k := fun h k q => by
      obtain ⟨a1, a2, a3, a4, a5, a6⟩ := w6 h
      have := hW _ a2
      obtain ⟨q1, q2, q3, q4, q5⟩ := q
      exact ⟨q1, by omega, by omega, q4, fun e => by have := q5 e; omega⟩
    have upB : (gso g i = 4 ∨ gso g i = 6 ∨ gso g i = 7) → ∀ k, SI g (gsec g i) st w k → SI g i st w k := fun h k q => by
      obtain ⟨a1, a2, a3, a4, a5, a6⟩ := w6 h
      obtain ⟨q1, q2, q3, q4, q5⟩ := q
      exact ⟨q1, by omega, by omega, q4, fun e => by have := q5 e; omega⟩
    have l1 : (gso g i = 5 ∨ gso g i = 8 ∨ gso g i = 9 ∨ gso g i = 10) → i + 1 < z := fun h => (w5 h).1
    have lA : (gso g i = 4 ∨ gso g i = 6 ∨ gso g i = 7) → i + 1 < z := fun h => by have := w6 h; omega
    have lB : (gso g i = 4 ∨ gso g i = 6 ∨ gso g i = 7) → gsec g i < z := fun h => (w6 h).2.1
    have hBr : ∀ j w b, j < z → w < 26 → Fr lrn (fun k => ∃ s, me s = k) (SI g j false w) b (gBr g (ge g lrn n) me j w b) := by
      intro j w b hj hw
      unfold gBr
      by_cases h : ghas g j = true
      · rw [if_pos h]; exact ih _ _ _ _ _ hj hw
      · rw [if_neg h]; exact Fr.pu (fun k h => by simp [ocf, oS] at h)
    refine ge1_c2 (fun A _ => Fr lrn (fun k => ∃ s, me s = k) (SI g i st w) b A) g lrn lrn (ge g lrn n) (ge g lrn n) me i st w b b ?_ ?_ ?_ ?_ ?_ ?_ ?_ ?_ ?_ ?_ ?_ ?_ ?_ ?_ ?_ ?_ ?_
    · intro h
      refine Fr.lo (fun S => hok _ _ _ _ _ S) (ih (upN me (gxo g i) (slt i st w)) (i + 1) st w b (l1 (by omega)) hw) ?_ (up1 (by omega) st w) ?_
      · rintro k ⟨s, rfl⟩
        by_cases e : s = gxo g i
        · right; simp [upN, e]
        · left; exact ⟨s, by simp [upN, e]⟩
      · exact SI_slt w1 w3 hw
    · intro h S
      obtain ⟨a1, a2, a3, a4⟩ := (ih me (i + 1) st w b (l1 (by omega)) hw).sub (up1 (by omega) st w) (d := b) id S
      have e : sK (gTrap (ghp g i) (ge g lrn n me (i + 1) st w b) S).2 = sK (ge g lrn n me (i + 1) st w b S).2 ∧ sL (gTrap (ghp g i) (ge g lrn n me (i + 1) st w b) S).2 = sL (ge g lrn n me (i + 1) st w b S).2 := by
        unfold gTrap
        dsimp only
        split <;> exact ⟨rfl, rfl⟩
      refine ⟨fun k hk => a1 k hk, by rw [e.1]; exact a2, ?_, fun h => by rw [e.1, e.2]; exact a4 h⟩
      unfold lStep
      rw [e.1, e.2]
      exact a3
    · intro _ _ S
      have e : sK (gPs (ghp g i) (lrn || b) b S).2 = sK S ∧ sL (gPs (ghp g i) (lrn || b) b S).2 = sL S := by
        unfold gPs
        dsimp only
        split <;> exact ⟨rfl, rfl⟩
      refine ⟨fun k hk => by simp [gPs, ocf, oS] at hk, by rw [e.1]; exact kStep.rf, ?_, fun _ => e⟩
      unfold lStep
      rw [e.1, e.2]
      exact lStep.rf
    · intro _ _; exact Fr.pu (fun k hk => Or.inl ⟨gxo g i, (show k = me (gxo g i) by simpa [ocf, oE] using hk).symm⟩)
    · intro _ _; exact Fr.pu (fun k h => by simp [ocf, oS] at h)
    · intro h hs S
      subst hs
      have hA := fun d => ih me (i + 1) true w d (lA (by omega)) hw
      have hB := fun d => ih me (gsec g i) true w d (lB (by omega)) hw
      unfold gPres
      split
      · exact (hB b).sub (upB (by omega)) id S
      · split
        · exact (hA b).sub (upA (by omega)) id S
        · exact Fr.seq oU_cf (hA false) (hB false) (upA (by omega)) (upB (by omega)) (fun h => by cases h) (fun h => by cases h) S
    · intro h hs; subst hs; exact (ih me (i + 1) true w b (l1 (by omega)) hw).sub (up1 (by omega) true w) id
    · intro h hs; subst hs; exact Fr.and (fun S => hok _ _ _ _ _ S) (ih me (i + 1) true w b (lA (by omega)) hw) (fun d => ih me (gsec g i) true w d (lB (by omega)) hw) (upA (by omega)) (upB (by omega))
    · intro h hs; subst hs; exact Fr.seq oP_cf (ih me (i + 1) true w b (lA (by omega)) hw) (ih me (gsec g i) true w b (lB (by omega)) hw) (upA (by omega)) (upB (by omega)) id id
    · intro _ _; exact Fr.pu (fun k h => by simp [ocf, oS] at h)
    · intro h hs; subst hs; exact (ih me (gsec g i) false w b (lB (by omega)) hw).sub (upB (by omega)) id
    · intro h hs; subst hs; exact (ih me (i + 1) false w b (lA (by omega)) hw).sub (upA (by omega)) id
    · intro h hs S
      subst hs
      have hA := fun d => ih me (i + 1) false w d (l1 (by omega)) hw
      unfold gSus
      split
      · exact (hA b).sub (up1 (by omega) false w) id S
      · split
        · refine ⟨fun k hk => by simp [ocf, oS] at hk, ?_, ?_, fun _ => ?_⟩
          · split
            · exact kStep.rf
            · split <;> exact kStep.rf
          · split
            · exact lStep.rf
            · split <;> exact lStep.rf
          · split
            · exact ⟨rfl, rfl⟩
            · split <;> exact ⟨rfl, rfl⟩
        · exact Fr.seq oU_cf (hA false) (Fr.pu (P := fun _ => False) (b := false) (fun k h => by simp [ocf, oS] at h)) (up1 (by omega) false w) (fun _ h => h.elim) (fun h => by cases h) (fun h => by cases h) S
    · intro h hs; subst hs
      refine Fr.and (P' := SI g (gsec g i) true (1 + gdep g i)) (fun S => hok _ _ _ _ _ S) (ih me (i + 1) false w b (lA (by omega)) hw) (fun d => ih me (gsec g i) true (1 + gdep g i) d (lB (by omega)) (by omega)) (upA (by omega)) ?_
      intro k q
      obtain ⟨a1, a2, a3, a4, a5, a6⟩ := w6 (by omega)
      obtain ⟨q1, q2, q3, q4, q5⟩ := q
      exact ⟨q1, by omega, by omega, fun e => (by cases e), fun _ => by have := q4 rfl; omega⟩
    · intro h hs; subst hs; exact Fr.seq oP_cf (hBr _ _ _ (lA (by omega)) hw) (hBr _ _ _ (lB (by omega)) hw) (upA (by omega)) (upB (by omega)) id id
    · intro h hs; subst hs
      refine Fr.and (P' := SI g (i + 1) true (1 + gdep g i)) (fun S => hok _ _ _ _ _ S) (ih me (i + 1) false w b (l1 (by omega)) hw) (fun d => ih me (i + 1) true (1 + gdep g i) d (l1 (by omega)) (by omega)) (up1 (by omega) false w) ?_
      intro k q
      obtain ⟨a1, a2, a3⟩ := w5 (by omega)
      obtain ⟨q1, q2, q3, q4, q5⟩ := q
      exact ⟨q1, by omega, by omega, fun e => (by cases e), fun _ => by have := q4 rfl; omega⟩
    · intro _ _; exact Fr.pu (fun k h => by simp [ocf, oS] at h)
/-- L3: less known, less found out; and what is learned on the way is what a settled assignment has -/
def leK (K K' : Nat → Nat) : Prop := ∀ k, K k = 2 ∨ K k = K' k
def appr (o o' : gO) : Prop := (∀ c, omc o c = true → omc o' c = true) ∧ (∀ k, omf o k = true → omf o' k = true) ∧ (∀ c, occ o' c = true → occ o c = true) ∧ (∀ k, ocf o' k = true → ocf o k = true)
def Lnk (rc rm : Nat → Bool) (P : Nat → Prop) (o : gO) : Prop := ∀ k, P k → ocf o k = rc k ∧ omf o k = rm k
def Fx (K : Nat → Nat) (rc rm : Nat → Bool) (lo : Nat) : Prop := ∀ k, lo ≤ k → K k ≤ 2 ∧ (K k = 2 → rc k = true ∧ rm k = false) ∧ (K k = 0 → rc k = false) ∧ (K k = 1 → rm k = true) ∧ (rm k = true → rc k = true)
def Mo (lrn : Bool) (K' : Nat → Nat) (rc rm : Nat → Bool) (P : Nat → Prop) (A A' : gM) : Prop := ∀ S S', leK (sK S) K' → sK S' = K' → (lrn = true → Lnk rc rm P (A' S').1) → appr (A S).1 (A' S').1 ∧ leK (sK (A S).2) K'
theorem leK_off {P : Nat → Prop} {K K1 K' : Nat → Nat} (h : leK K K') (hs : kStep P false K K1) (h0 : ∀ k, P k → K' k = 0) : leK K1 K' := by
  intro k
  by_cases e : K1 k = K k
  · rw [e]; exact h k
  · obtain ⟨p1, p2, p3⟩ := hs k e
    rcases p3 with p3 | ⟨p3, -⟩
    · exact Or.inr (by rw [p3, h0 k p1])
    · cases p3
theorem appr_S (c : Nat) {b b' : Bool} (h : b = true → b' = true) : appr (oS c b) (oS c b') := by
  simp only [appr, oS, omc, omf, occ, ocf]
  grind
theorem appr_E (k : Nat) {b b' : Bool} (h : b = true → b' = true) : appr (oE k b) (oE k b') := by
  simp only [appr, oE, omc, omf, occ, ocf]
  grind
theorem appr_U {p p' q q' : gO} (h1 : appr p p') (h2 : appr q q') : appr (oU p q) (oU p' q') := by
  simp only [appr, oU, omc, omf, occ, ocf] at *
  grind
theorem appr_UL {p p' q : gO} (h1 : appr p p') (h2 : oOk false q) : appr (oU p q) p' := by
  simp only [appr, oU, omc, omf, occ, ocf, oOk] at *
  grind
theorem appr_UR {p q q' : gO} (h1 : appr q q') (h2 : oOk false p) : appr (oU p q) q' := by
  simp only [appr, oU, omc, omf, occ, ocf, oOk] at *
  grind
theorem appr_Z {p p' : gO} (h1 : appr p p') : appr (oZ p) (oZ p') := by
  simp only [appr, oZ, omc, omf, occ, ocf] at *
  grind
theorem appr_Z0 {p p' q : gO} (h1 : appr p p') (h0 : occ p' 0 = false) (h2 : oOk false q) : appr (oU (oZ p) q) p' := by
  simp only [appr, oU, oZ, omc, omf, occ, ocf, oOk] at *
  grind
theorem appr_P {p p' q q' : gO} (h1 : appr p p') (h2 : appr q q') : appr (oP p q) (oP p' q') := by
  simp only [appr, oP, omc, omf, occ, ocf, mxs_iff] at *
  refine ⟨?_, ?_, ?_, ?_⟩
  · rintro c ⟨x, y, a, b, e⟩; exact ⟨x, y, h1.1 x a, h2.1 y b, e⟩
  · grind
  · rintro c ⟨x, y, a, b, e⟩; exact ⟨x, y, h1.2.2.1 x a, h2.2.2.1 y b, e⟩
  · grind
theorem appr_T {p p' : gO} (h1 : appr p p') : appr (oTr p) (oTr p') := by
  simp only [appr, oTr, omc, omf, occ, ocf, tps] at *
  grind
theorem Mo.sub {lrn : Bool} {K' : Nat → Nat} {rc rm : Nat → Bool} {P Q : Nat → Prop} {A A' : gM} (h : Mo lrn K' rc rm P A A') (hP : ∀ k, P k → Q k) : Mo lrn K' rc rm Q A A' := fun S S' h1 h2 h3 => h S S' h1 h2 (fun e k hk => h3 e k (hP k hk))
theorem fx0 {K : Nat → Nat} {rc rm : Nat → Bool} {k lo : Nat} (h : Fx K rc rm lo) (hk : lo ≤ k) (h0 : rc k = false) : K k = 0 := by
  obtain ⟨a, b, c, d, e⟩ := h k hk
  grind
theorem fx1 {K : Nat → Nat} {rc rm : Nat → Bool} {k lo : Nat} (h : Fx K rc rm lo) (hk : lo ≤ k) (h0 : rm k = true) : K k = 1 := by
  obtain ⟨a, b, c, d, e⟩ := h k hk
  grind
section MO
variable {lrn : Bool} {K' : Nat → Nat} {rc rm : Nat → Bool} {P P1 P2 Me : Nat → Prop} {b b' : Bool} {A A' : gM}
theorem cf_false {o : gO} {P1 : Nat → Prop} {k : Nat} (h : ∀ k, ocf o k = true → Me k ∨ P1 k) (h1 : ¬ Me k) (h2 : ¬ P1 k) : ocf o k = false := by
  cases e : ocf o k with
  | false => rfl
  | true => rcases h k e with q | q
            · exact absurd q h1
            · exact absurd q h2
theorem mf_false {o : gO} {b : Bool} {k : Nat} (h : oOk b o) (h1 : ocf o k = false) : omf o k = false := by
  cases e : omf o k with
  | false => rfl
  | true => rw [h.2.1 k e] at h1; cases h1
/-- flags of two parts: each part's own are the whole's -/
theorem lnk2 {p q : gO} {d : Bool} {f : gO → gO → gO} (hf : ∀ p q k, ocf (f p q) k = (ocf p k || ocf q k) ∧ omf (f p q) k = (omf p k || omf q k)) (h : Lnk rc rm P (f p q)) (hp : oOk b p) (hq : oOk d q) (fp : ∀ k, ocf p k = true → Me k ∨ P1 k) (fq : ∀ k, ocf q k = true → Me k ∨ P2 k) (hP1 : ∀ k, P1 k → P k) (hP2 : ∀ k, P2 k → P k) (hd : ∀ k, P1 k → P2 k → False) (hM : ∀ k, Me k → ¬ P k) : Lnk rc rm P1 p ∧ Lnk rc rm P2 q := by
  refine ⟨fun k hk => ?_, fun k hk => ?_⟩
  · have h1 := h k (hP1 k hk)
    have c0 : ocf q k = false := cf_false fq (fun m => hM k m (hP1 k hk)) (fun m => hd k hk m)
    rw [(hf p q k).1, (hf p q k).2, c0, mf_false hq c0] at h1
    simpa using h1
  · have h1 := h k (hP2 k hk)
    have c0 : ocf p k = false := cf_false fp (fun m => hM k m (hP2 k hk)) (fun m => hd k m hk)
    rw [(hf p q k).1, (hf p q k).2, c0, mf_false hp c0] at h1
    simpa using h1
theorem lnkS {p : gO} (h : Lnk rc rm P p) (fp : ∀ k, ocf p k = true → Me k ∨ P1 k) (hP2 : ∀ k, P2 k → P k) (hd : ∀ k, P1 k → P2 k → False) (hM : ∀ k, Me k → ¬ P k) : ∀ k, P2 k → rc k = false := fun k hk => by
  rw [← (h k (hP2 k hk)).1]
  exact cf_false fp (fun m => hM k m (hP2 k hk)) (fun m => hd k m hk)
theorem oU_fl (p q : gO) (k : Nat) : ocf (oU p q) k = (ocf p k || ocf q k) ∧ omf (oU p q) k = (omf p k || omf q k) := ⟨rfl, rfl⟩
theorem oZU_fl (p q : gO) (k : Nat) : ocf (oU (oZ p) q) k = (ocf p k || ocf q k) ∧ omf (oU (oZ p) q) k = (omf p k || omf q k) := ⟨rfl, rfl⟩
theorem oP_fl (p q : gO) (k : Nat) : ocf (oP p q) k = (ocf p k || ocf q k) ∧ omf (oP p q) k = (omf p k || omf q k) := ⟨rfl, rfl⟩
theorem Mo.par {B B' : gM} (mA : Mo lrn K' rc rm P1 A A') (mB : Mo lrn K' rc rm P2 B B') (okA : ∀ S, oOk b' (A' S).1) (okB : ∀ S, oOk b' (B' S).1) (fA : Fr false Me P1 b' A') (fB : Fr false Me P2 b' B') (hP1 : ∀ k, P1 k → P k) (hP2 : ∀ k, P2 k → P k) (hd : ∀ k, P1 k → P2 k → False) (hM : ∀ k, Me k → ¬ P k) : Mo lrn K' rc rm P (gPar A B) (gPar A' B') := by
  intro S S' h1 h2 h3
  have eK : sK (A' S').2 = K' := ((fA S').2.2.2 rfl).1.trans h2
  have L : lrn = true → Lnk rc rm P1 (A' S').1 ∧ Lnk rc rm P2 (B' (A' S').2).1 := fun e => lnk2 oP_fl (h3 e) (okA S') (okB _) (fA S').1 (fB _).1 hP1 hP2 hd hM
  obtain ⟨a1, a2⟩ := mA S S' h1 h2 (fun e => (L e).1)
  obtain ⟨b1, b2⟩ := mB (A S).2 (A' S').2 a2 eK (fun e => (L e).2)
  exact ⟨appr_P a1 b1, b2⟩
theorem Mo.and {B B' : Bool → gM} (hF : lrn = true → Fx K' rc rm 16) (mA : Mo lrn K' rc rm P1 A A') (mB : ∀ d d' : Bool, (d = true → d' = true) → Mo lrn K' rc rm P2 (B d) (B' d')) (okA : ∀ S, oOk b' (A' S).1) (okB : ∀ d S, oOk d (B' d S).1) (okC : ∀ d S, oOk d (B d S).1) (fA : Fr false Me P1 b' A') (fB : ∀ d, Fr false Me P2 d (B' d)) (fC : ∀ d, Fr lrn Me P2 d (B d)) (hP1 : ∀ k, P1 k → P k) (hP2 : ∀ k, P2 k → P k ∧ 16 ≤ k) (hd : ∀ k, P1 k → P2 k → False) (hM : ∀ k, Me k → ¬ P k) : Mo lrn K' rc rm P (gAnd A B) (gAnd A' B') := by
  intro S S' h1 h2 h3
  have eK : sK (A' S').2 = K' := ((fA S').2.2.2 rfl).1.trans h2
  by_cases c0 : occ (A' S').1 0 = true
  · have e' : gAnd A' B' S' = (oU (oZ (A' S').1) (B' (omc (A' S').1 0) (A' S').2).1, (B' (omc (A' S').1 0) (A' S').2).2) := if_pos c0
    rw [e'] at h3 ⊢
    have L : lrn = true → Lnk rc rm P1 (A' S').1 ∧ Lnk rc rm P2 (B' (omc (A' S').1 0) (A' S').2).1 := fun e => lnk2 (f := fun p q => oU (oZ p) q) oZU_fl (h3 e) (okA S') (okB _ _) (fA S').1 (fB _ _).1 hP1 (fun k h => (hP2 k h).1) hd hM
    obtain ⟨a1, a2⟩ := mA S S' h1 h2 (fun e => (L e).1)
    have c1 : occ (A S).1 0 = true := a1.2.2.1 0 c0
    have e : gAnd A B S = (oU (oZ (A S).1) (B (omc (A S).1 0) (A S).2).1, (B (omc (A S).1 0) (A S).2).2) := if_pos c1
    rw [e]
    obtain ⟨b1, b2⟩ := mB (omc (A S).1 0) (omc (A' S').1 0) (a1.1 0) (A S).2 (A' S').2 a2 eK (fun e => (L e).2)
    exact ⟨appr_U (appr_Z a1) b1, b2⟩
  · have e' : gAnd A' B' S' = A' S' := if_neg c0
    rw [e'] at h3 ⊢
    obtain ⟨a1, a2⟩ := mA S S' h1 h2 (fun e k hk => h3 e k (hP1 k hk))
    by_cases c1 : occ (A S).1 0 = true
    · have e : gAnd A B S = (oU (oZ (A S).1) (B (omc (A S).1 0) (A S).2).1, (B (omc (A S).1 0) (A S).2).2) := if_pos c1
      rw [e]
      have m0 : omc (A S).1 0 = false := by
        cases q : omc (A S).1 0 with
        | false => rfl
        | true => exact absurd ((okA S').1 0 (a1.1 0 q)) c0
      rw [m0]
      refine ⟨appr_Z0 a1 (by simpa using c0) (okC false _), ?_⟩
      cases el : lrn with
      | false =>
        have := ((fC false (A S).2).2.2.2 el).1
        rw [this]
        exact a2
      | true =>
        exact leK_off a2 (fC false (A S).2).2.1 (fun k hk => fx0 (hF el) (hP2 k hk).2 (lnkS (h3 el) (fA S').1 (fun k h => (hP2 k h).1) hd hM k hk))
    · have e : gAnd A B S = A S := if_neg c1
      rw [e]
      exact ⟨a1, a2⟩
theorem Mo.lo {k0 : Nat} (hF : lrn = true → Fx K' rc rm 16) (hk0 : P k0 ∧ 16 ≤ k0) (mA : Mo lrn K' rc rm P A A') : Mo lrn K' rc rm P (gLoc lrn k0 A) (gLoc false k0 A') := by
  intro S S' h1 h2 h3
  have e' : gLoc false k0 A' S' = A' S' := rfl
  rw [e'] at h3 ⊢
  obtain ⟨a1, a2⟩ := mA S S' h1 h2 h3
  by_cases hc : (lrn && decide (sK (A S).2 k0 = 2) && lnv (A S).1 k0) = true
  · have e : gLoc lrn k0 A S = A (upN (sK (A S).2) k0 (if omf (A S).1 k0 then 1 else 0), sN (A S).2, true) := if_pos hc
    rw [e]
    simp only [Bool.and_eq_true, decide_eq_true_eq] at hc
    refine mA _ S' ?_ h2 h3
    intro k
    show upN (sK (A S).2) k0 (if omf (A S).1 k0 then 1 else 0) k = 2 ∨ upN (sK (A S).2) k0 (if omf (A S).1 k0 then 1 else 0) k = K' k
    by_cases ek : k = k0
    · subst ek
      right
      simp only [upN, if_pos]
      have hl := h3 hc.1.1 k hk0.1
      by_cases hm : omf (A S).1 k = true
      · rw [if_pos hm]
        exact (fx1 (hF hc.1.1) hk0.2 (by rw [← hl.2]; exact a1.2.1 k hm)).symm
      · rw [if_neg hm]
        refine (fx0 (hF hc.1.1) hk0.2 ?_).symm
        rw [← hl.1]
        cases q : ocf (A' S').1 k with
        | false => rfl
        | true =>
          have := hc.2
          simp only [lnv, a1.2.2.2 k q, Bool.or_eq_true, hm, Bool.not_true, Bool.false_eq_true, or_false] at this
    · simp only [upN, if_neg ek]
      exact a2 k
  · have e : gLoc lrn k0 A S = A S := if_neg hc
    rw [e]
    exact ⟨a1, a2⟩
end MO
theorem tst_le {K K' : Nat → Nat} (h : leK K K') (k : Nat) (ng : Bool) : tst K k ng = 2 ∨ tst K k ng = tst K' k ng := by
  unfold tst
  rcases h k with h | h
  · simp [h]
  · rw [h]; exact Or.inr rfl
theorem gW_disj {g : gP} {z i : Nat} (hW : gW g z) (hi : i < z) (h : gso g i = 4 ∨ gso g i = 6 ∨ gso g i = 7) {st st' : Bool} {w w' : Nat} : ∀ k, SI g (i + 1) st w k → SI g (gsec g i) st' w' k → False := by
  intro k a b
  have := (hW i hi).2.2.2.2.2 h
  obtain ⟨-, -, a3, -⟩ := a
  obtain ⟨-, b2, -⟩ := b
  omega
theorem ge_mono {g : gP} {z : Nat} (hW : gW g z) (lrn : Bool) {K' : Nat → Nat} {rc rm : Nat → Bool} (hF : lrn = true → Fx K' rc rm 16) : ∀ (n : Nat) (me : Nat → Nat) (i : Nat) (st : Bool) (w : Nat) (b b' : Bool), i < z → w < 26 → (∀ s, me s < 16 + 27 * i) → (b = true → b' = true) → Mo lrn K' rc rm (SI g i st w) (ge g lrn n me i st w b) (ge g false n me i st w b') := by
  intro n
  induction n with
  | zero => intro me i st w b b' _ _ _ hb S S' h1 h2 h3; exact ⟨appr_S 0 hb, h1⟩
  | succ n ih =>
    intro me i st w b b' hi hw hme hb
    obtain ⟨w1, w2, w3, w4, w5, w6⟩ := hW i hi
    have hM : ∀ k, (∃ s, me s = k) → ¬ SI g i st w k := by
      rintro k ⟨s, rfl⟩ ⟨q1, q2, -⟩
      have := hme s
      omega
    have up1 : (gso g i = 5 ∨ gso g i = 8 ∨ gso g i = 9 ∨ gso g i = 10) → ∀ k, SI g (i + 1) st w k → SI g i st w k := fun h k q => by
      obtain ⟨a1, a2, a3⟩ := w5 h
      obtain ⟨q1, q2, q3, q4, q5⟩ := q
      exact ⟨q1, by omega, by omega, q4, fun e => by have := q5 e; omega⟩
    have upA : (gso g i = 4 ∨ gso g i = 6 ∨ gso g i = 7) → ∀ k, SI g (i + 1) st w k → SI g i st w k := fun h k q => by
      obtain ⟨a1, a2, a3, a4, a5, a6⟩ := w6 h
      have := hW _ a2
      obtain ⟨q1, q2, q3, q4, q5⟩ := q
      exact ⟨q1, by omega, by omega, q4, fun e => by have := q5 e; omega⟩
    have upB : (gso g i = 4 ∨ gso g i = 6 ∨ gso g i = 7) → ∀ k, SI g (gsec g i) st w k → SI g i st w k := fun h k q => by
      obtain ⟨a1, a2, a3, a4, a5, a6⟩ := w6 h
      obtain ⟨q1, q2, q3, q4, q5⟩ := q
      exact ⟨q1, by omega, by omega, q4, fun e => by have := q5 e; omega⟩
    have l1 : (gso g i = 5 ∨ gso g i = 8 ∨ gso g i = 9 ∨ gso g i = 10) → i + 1 < z := fun h => (w5 h).1
    have lA : (gso g i = 4 ∨ gso g i = 6 ∨ gso g i = 7) → i + 1 < z := fun h => by have := w6 h; omega
    have lB : (gso g i = 4 ∨ gso g i = 6 ∨ gso g i = 7) → gsec g i < z := fun h => (w6 h).2.1
    have me1 : ∀ s, me s < 16 + 27 * (i + 1) := fun s => by have := hme s; omega
    have meB : (gso g i = 4 ∨ gso g i = 6 ∨ gso g i = 7) → ∀ s, me s < 16 + 27 * gsec g i := fun h s => by have := hme s; have := w6 h; omega
    have ok := fun (l : Bool) (me : Nat → Nat) (i : Nat) (st : Bool) (w : Nat) (b : Bool) (S : gS) => ge_ok g l n me i st w b S
    have fr := fun (l : Bool) (i : Nat) (st : Bool) (w : Nat) (b : Bool) (hi : i < z) (hw : w < 26) => ge_fr hW l n me i st w b hi hw
    refine ge1_c2 (fun A A' => Mo lrn K' rc rm (SI g i st w) A A') g lrn false (ge g lrn n) (ge g false n) me i st w b b' ?_ ?_ ?_ ?_ ?_ ?_ ?_ ?_ ?_ ?_ ?_ ?_ ?_ ?_ ?_ ?_ ?_
    · intro h
      have hs := SI_slt (g := g) (st := st) w1 w3 hw
      refine Mo.lo hF ⟨hs, hs.1⟩ ((ih (upN me (gxo g i) (slt i st w)) (i + 1) st w b b' (l1 (by omega)) hw ?_ hb).sub (up1 (by omega)))
      intro s
      by_cases e : s = gxo g i
      · simp only [upN, if_pos e, slt]; split <;> omega
      · simp only [upN, if_neg e]; exact me1 s
    · intro h S S' h1 h2 h3
      obtain ⟨a1, a2⟩ := (ih me (i + 1) st w b b' (l1 (by omega)) hw me1 hb).sub (up1 (by omega)) S S' h1 h2 h3
      refine ⟨appr_T a1, ?_⟩
      have e : sK (gTrap (ghp g i) (ge g lrn n me (i + 1) st w b) S).2 = sK (ge g lrn n me (i + 1) st w b S).2 := by
        unfold gTrap
        dsimp only
        split <;> rfl
      rw [e]; exact a2
    · intro _ _ S S' h1 h2 h3
      refine ⟨appr_S 1 hb, ?_⟩
      have e : sK (gPs (ghp g i) (lrn || b) b S).2 = sK S := by
        unfold gPs
        dsimp only
        split <;> rfl
      rw [e]; exact h1
    · intro _ _ S S' h1 h2 h3; exact ⟨appr_E _ hb, h1⟩
    · intro _ _ S S' h1 h2 h3; exact ⟨appr_S _ hb, h1⟩
    · intro h hs S S' h1 h2 h3
      subst hs
      have hA := fun d d' (hd : d = true → d' = true) => ih me (i + 1) true w d d' (lA (by omega)) hw me1 hd
      have hB := fun d d' (hd : d = true → d' = true) => ih me (gsec g i) true w d d' (lB (by omega)) hw (meB (by omega)) hd
      have fA := fun l d => fr l (i + 1) true w d (lA (by omega)) hw
      have fB := fun l d => fr l (gsec g i) true w d (lB (by omega)) hw
      have dj := gW_disj hW hi (st := true) (st' := true) (w := w) (w' := w) (by omega : gso g i = 4 ∨ gso g i = 6 ∨ gso g i = 7)
      rcases tst_le (K := sK S) (K' := K') h1 (me (gxo g i)) (gng g i) with ht | ht
      · have e : gPres (me (gxo g i)) (gng g i) b (fun d => ge g lrn n me (i + 1) true w d) (fun d => ge g lrn n me (gsec g i) true w d) S = gU (ge g lrn n me (i + 1) true w false) (ge g lrn n me (gsec g i) true w false) S := by
          unfold gPres
          rw [if_neg (by omega), if_neg (by omega)]
        rw [e]
        unfold gPres at h3 ⊢
        rw [h2] at h3 ⊢
        by_cases t0 : tst K' (me (gxo g i)) (gng g i) = 0
        · simp only [if_pos t0] at h3 ⊢
          have kA : leK (sK (ge g lrn n me (i + 1) true w false S).2) K' := by
            cases el : lrn with
            | false => subst el; rw [((fA false false S).2.2.2 rfl).1]; exact h1
            | true =>
              subst el
              exact leK_off h1 (fA true false S).2.1 (fun k hk => fx0 (hF rfl) hk.1 (lnkS (P1 := SI g (gsec g i) true w) (h3 rfl) (fB false b' S').1 (upA (by omega)) (fun k a b => dj k b a) hM k hk))
          obtain ⟨b1, b2⟩ := (hB false b' (fun h => by cases h)).sub (upB (by omega)) (ge g lrn n me (i + 1) true w false S).2 S' kA h2 h3
          exact ⟨appr_UR b1 (ok lrn _ _ _ _ _ _), b2⟩
        · simp only [if_neg t0] at h3 ⊢
          by_cases t1 : tst K' (me (gxo g i)) (gng g i) = 1
          · simp only [if_pos t1] at h3 ⊢
            obtain ⟨a1, a2⟩ := (hA false b' (fun h => by cases h)).sub (upA (by omega)) S S' h1 h2 h3
            refine ⟨appr_UL a1 (ok lrn _ _ _ _ _ _), ?_⟩
            show leK (sK (ge g lrn n me (gsec g i) true w false (ge g lrn n me (i + 1) true w false S).2).2) K'
            cases el : lrn with
            | false => subst el; rw [((fB false false _).2.2.2 rfl).1]; exact a2
            | true =>
              subst el
              exact leK_off a2 (fB true false _).2.1 (fun k hk => fx0 (hF rfl) hk.1 (lnkS (P1 := SI g (i + 1) true w) (h3 rfl) (fA false b' S').1 (upB (by omega)) dj hM k hk))
          · simp only [if_neg t1] at h3 ⊢
            have eK : sK (ge g false n me (i + 1) true w false S').2 = K' := ((fA false false S').2.2.2 rfl).1.trans h2
            have L : lrn = true → Lnk rc rm (SI g (i + 1) true w) (ge g false n me (i + 1) true w false S').1 ∧ Lnk rc rm (SI g (gsec g i) true w) (ge g false n me (gsec g i) true w false (ge g false n me (i + 1) true w false S').2).1 := fun e => lnk2 oU_fl (h3 e) (ok false _ _ _ _ _ _) (ok false _ _ _ _ _ _) (fA false false S').1 (fB false false _).1 (upA (by omega)) (upB (by omega)) dj hM
            obtain ⟨a1, a2⟩ := hA false false id S S' h1 h2 (fun e => (L e).1)
            obtain ⟨b1, b2⟩ := hB false false id (ge g lrn n me (i + 1) true w false S).2 (ge g false n me (i + 1) true w false S').2 a2 eK (fun e => (L e).2)
            exact ⟨appr_U a1 b1, b2⟩
      · unfold gPres at h3 ⊢
        rw [h2, ← ht] at h3
        rw [h2, ← ht]
        by_cases t0 : tst (sK S) (me (gxo g i)) (gng g i) = 0
        · simp only [if_pos t0] at h3 ⊢
          exact (hB b b' hb).sub (upB (by omega)) S S' h1 h2 h3
        · simp only [if_neg t0] at h3 ⊢
          by_cases t1 : tst (sK S) (me (gxo g i)) (gng g i) = 1
          · simp only [if_pos t1] at h3 ⊢
            exact (hA b b' hb).sub (upA (by omega)) S S' h1 h2 h3
          · simp only [if_neg t1] at h3 ⊢
            have eK : sK (ge g false n me (i + 1) true w false S').2 = K' := ((fA false false S').2.2.2 rfl).1.trans h2
            have L : lrn = true → Lnk rc rm (SI g (i + 1) true w) (ge g false n me (i + 1) true w false S').1 ∧ Lnk rc rm (SI g (gsec g i) true w) (ge g false n me (gsec g i) true w false (ge g false n me (i + 1) true w false S').2).1 := fun e => lnk2 oU_fl (h3 e) (ok false _ _ _ _ _ _) (ok false _ _ _ _ _ _) (fA false false S').1 (fB false false _).1 (upA (by omega)) (upB (by omega)) dj hM
            obtain ⟨a1, a2⟩ := hA false false id S S' h1 h2 (fun e => (L e).1)
            obtain ⟨b1, b2⟩ := hB false false id (ge g lrn n me (i + 1) true w false S).2 (ge g false n me (i + 1) true w false S').2 a2 eK (fun e => (L e).2)
            exact ⟨appr_U a1 b1, b2⟩
    · intro h hs; subst hs; exact (ih me (i + 1) true w b b' (l1 (by omega)) hw me1 hb).sub (up1 (by omega))
    · intro h hs; subst hs
      exact Mo.and (b' := b') hF (ih me (i + 1) true w b b' (lA (by omega)) hw me1 hb) (fun d d' hd => ih me (gsec g i) true w d d' (lB (by omega)) hw (meB (by omega)) hd) (fun S => ok false _ _ _ _ _ S) (fun d S => ok false _ _ _ _ d S) (fun d S => ok lrn _ _ _ _ d S) (fr false (i + 1) true w b' (lA (by omega)) hw) (fun d => fr false (gsec g i) true w d (lB (by omega)) hw) (fun d => fr lrn (gsec g i) true w d (lB (by omega)) hw) (upA (by omega)) (fun k hk => ⟨upB (by omega) k hk, hk.1⟩) (gW_disj hW hi (by omega)) hM
    · intro h hs; subst hs
      exact Mo.par (b' := b') (ih me (i + 1) true w b b' (lA (by omega)) hw me1 hb) (ih me (gsec g i) true w b b' (lB (by omega)) hw (meB (by omega)) hb) (fun S => ok false _ _ _ _ _ S) (fun S => ok false _ _ _ _ _ S) (fr false (i + 1) true w b' (lA (by omega)) hw) (fr false (gsec g i) true w b' (lB (by omega)) hw) (upA (by omega)) (upB (by omega)) (gW_disj hW hi (by omega)) hM
    · intro _ _ S S' h1 h2 h3; exact ⟨appr_S _ hb, h1⟩
    · intro h hs; subst hs; exact (ih me (gsec g i) false w b b' (lB (by omega)) hw (meB (by omega)) hb).sub (upB (by omega))
    · intro h hs; subst hs; exact (ih me (i + 1) false w b b' (lA (by omega)) hw me1 hb).sub (upA (by omega))
    · intro h hs S S' h1 h2 h3
      subst hs
      have hA := fun d d' (hd : d = true → d' = true) => (ih me (i + 1) false w d d' (l1 (by omega)) hw me1 hd).sub (up1 (by omega))
      have fA := fun l d => fr l (i + 1) false w d (l1 (by omega)) hw
      have kst : ∀ (l d : Bool) (S : gS), sK (if l then (sK S, fun p => sN S p || (gsel g p && ghp g i p), sL S) else if d then (sK S, fun p => if ghp g i p then gsel g p else sN S p, sL S) else S : gS) = sK S := by
        intro l d S
        split
        · rfl
        · split <;> rfl
      rcases tst_le (K := sK S) (K' := K') h1 (me (gxo g i)) (gng g i) with ht | ht
      · have e : gSus (me (gxo g i)) (gng g i) b lrn (ghp g i) (gsel g) (fun d => ge g lrn n me (i + 1) false w d) S = gU (ge g lrn n me (i + 1) false w false) (gPu (oS 1 false)) S := by
          unfold gSus
          rw [if_neg (by omega), if_neg (by omega)]
        rw [e]
        unfold gSus at h3 ⊢
        rw [h2] at h3 ⊢
        by_cases t0 : tst K' (me (gxo g i)) (gng g i) = 0
        · simp only [if_pos t0] at h3 ⊢
          obtain ⟨a1, a2⟩ := hA false b' (fun h => by cases h) S S' h1 h2 h3
          exact ⟨appr_UL a1 (oS_ok 1 false), a2⟩
        · simp only [if_neg t0] at h3 ⊢
          by_cases t1 : tst K' (me (gxo g i)) (gng g i) = 1
          · simp only [if_pos t1] at h3 ⊢
            refine ⟨appr_UR (appr_S 1 (fun h => by cases h)) (ok lrn _ _ _ _ _ _), ?_⟩
            show leK (sK (ge g lrn n me (i + 1) false w false S).2) K'
            cases el : lrn with
            | false => subst el; rw [((fA false false S).2.2.2 rfl).1]; exact h1
            | true =>
              subst el
              refine leK_off h1 (fA true false S).2.1 (fun k hk => fx0 (hF rfl) hk.1 ?_)
              rw [← (h3 rfl k (up1 (by omega) k hk)).1]
              rfl
          · simp only [if_neg t1] at h3 ⊢
            have L : lrn = true → Lnk rc rm (SI g i false w) (ge g false n me (i + 1) false w false S').1 := fun e k hk => by
              have := h3 e k hk
              simpa [gU, gPu, oU, oS, ocf, omf] using this
            obtain ⟨a1, a2⟩ := hA false false id S S' h1 h2 L
            exact ⟨appr_U a1 (appr_S 1 id), a2⟩
      · unfold gSus at h3 ⊢
        rw [h2, ← ht] at h3
        rw [h2, ← ht]
        by_cases t0 : tst (sK S) (me (gxo g i)) (gng g i) = 0
        · simp only [if_pos t0] at h3 ⊢
          exact hA b b' hb S S' h1 h2 h3
        · simp only [if_neg t0] at h3 ⊢
          by_cases t1 : tst (sK S) (me (gxo g i)) (gng g i) = 1
          · simp only [if_pos t1] at h3 ⊢
            exact ⟨appr_S 1 hb, by rw [kst]; exact h1⟩
          · simp only [if_neg t1] at h3 ⊢
            have L : lrn = true → Lnk rc rm (SI g i false w) (ge g false n me (i + 1) false w false S').1 := fun e k hk => by
              have := h3 e k hk
              simpa [gU, gPu, oU, oS, ocf, omf] using this
            obtain ⟨a1, a2⟩ := hA false false id S S' h1 h2 L
            exact ⟨appr_U a1 (appr_S 1 id), a2⟩
    · intro h hs; subst hs
      refine Mo.and (b' := b') (P2 := SI g (gsec g i) true (1 + gdep g i)) hF (ih me (i + 1) false w b b' (lA (by omega)) hw me1 hb) (fun d d' hd => ih me (gsec g i) true (1 + gdep g i) d d' (lB (by omega)) (by omega) (meB (by omega)) hd) (fun S => ok false _ _ _ _ _ S) (fun d S => ok false _ _ _ _ d S) (fun d S => ok lrn _ _ _ _ d S) (fr false (i + 1) false w b' (lA (by omega)) hw) (fun d => fr false (gsec g i) true (1 + gdep g i) d (lB (by omega)) (by omega)) (fun d => fr lrn (gsec g i) true (1 + gdep g i) d (lB (by omega)) (by omega)) (upA (by omega)) (fun k q => ⟨?_, q.1⟩) (gW_disj hW hi (by omega)) hM
      obtain ⟨a1, a2, a3, a4, a5, a6⟩ := w6 (by omega)
      obtain ⟨q1, q2, q3, q4, q5⟩ := q
      exact ⟨q1, by omega, by omega, fun e => (by cases e), fun _ => by have := q4 rfl; omega⟩
    · intro h hs; subst hs
      have mBr : ∀ j, j < z → (∀ s, me s < 16 + 27 * j) → Mo lrn K' rc rm (SI g j false w) (gBr g (ge g lrn n) me j w b) (gBr g (ge g false n) me j w b') := by
        intro j hj hm
        unfold gBr
        by_cases hh : ghas g j = true
        · rw [if_pos hh, if_pos hh]; exact ih me j false w b b' hj hw hm hb
        · rw [if_neg hh, if_neg hh]; exact fun S S' h1 _ _ => ⟨appr_S 0 hb, h1⟩
      have fBr : ∀ j, j < z → Fr false (fun k => ∃ s, me s = k) (SI g j false w) b' (gBr g (ge g false n) me j w b') := by
        intro j hj
        unfold gBr
        by_cases hh : ghas g j = true
        · rw [if_pos hh]; exact fr false j false w b' hj hw
        · rw [if_neg hh]; exact Fr.pu (fun k h => by simp [ocf, oS] at h)
      have oBr : ∀ j S, oOk b' (gBr g (ge g false n) me j w b' S).1 := by
        intro j S
        unfold gBr
        by_cases hh : ghas g j = true
        · rw [if_pos hh]; exact ok false _ _ _ _ _ S
        · rw [if_neg hh]; exact oS_ok 0 b'
      exact Mo.par (b' := b') (mBr _ (lA (by omega)) me1) (mBr _ (lB (by omega)) (meB (by omega))) (oBr _) (oBr _) (fBr _ (lA (by omega))) (fBr _ (lB (by omega))) (upA (by omega)) (upB (by omega)) (gW_disj hW hi (by omega)) hM
    · intro h hs; subst hs
      refine Mo.and (b' := b') (P2 := SI g (i + 1) true (1 + gdep g i)) hF (ih me (i + 1) false w b b' (l1 (by omega)) hw me1 hb) (fun d d' hd => ih me (i + 1) true (1 + gdep g i) d d' (l1 (by omega)) (by omega) me1 hd) (fun S => ok false _ _ _ _ _ S) (fun d S => ok false _ _ _ _ d S) (fun d S => ok lrn _ _ _ _ d S) (fr false (i + 1) false w b' (l1 (by omega)) hw) (fun d => fr false (i + 1) true (1 + gdep g i) d (l1 (by omega)) (by omega)) (fun d => fr lrn (i + 1) true (1 + gdep g i) d (l1 (by omega)) (by omega)) (up1 (by omega)) (fun k q => ⟨?_, q.1⟩) ?_ hM
      · obtain ⟨a1, a2, a3⟩ := w5 (by omega)
        obtain ⟨q1, q2, q3, q4, q5⟩ := q
        exact ⟨q1, by omega, by omega, fun e => (by cases e), fun _ => by have := q4 rfl; omega⟩
      · intro k p q
        obtain ⟨a1, a2, a3⟩ := w5 (by omega)
        have x1 := p.2.2.2.2 rfl
        have x2 := q.2.2.2.1 rfl
        omega
    · intro _ _ S S' h1 h2 h3; exact ⟨appr_S _ hb, h1⟩
