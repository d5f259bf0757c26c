/-- codes: no more than there are traps around -/
def gT (g : gP) (z : Nat) (tr : Nat → Nat) : Prop := ∀ i, i < z → (gso g i = 3 → gxo g i < tr i) ∧ (gso g i = 9 → tr (i + 1) ≤ tr i + 1) ∧ ((gso g i = 5 ∨ gso g i = 8 ∨ gso g i = 10) → tr (i + 1) ≤ tr i) ∧ ((gso g i = 4 ∨ gso g i = 6 ∨ gso g i = 7) → tr (i + 1) ≤ tr i ∧ tr (gsec g i) ≤ tr i)
def cLt (t : Nat) (A : gM) : Prop := ∀ S c, occ (A S).1 c = true → c < 2 + t
theorem cLt.and {t t1 t2 : Nat} {A : gM} {B : Bool → gM} (hA : cLt t1 A) (hB : ∀ d, cLt t2 (B d)) (h1 : t1 ≤ t) (h2 : t2 ≤ t) : cLt t (gAnd A B) := by
  intro S c hc
  unfold gAnd at hc
  split at hc
  · have hc' : (decide (c ≠ 0) && occ (A S).1 c) = true ∨ occ (B (omc (A S).1 0) (A S).2).1 c = true := by
      simpa only [occ, oU, oZ, Bool.or_eq_true] using hc
    rcases hc' with q | q
    · simp only [Bool.and_eq_true] at q
      have := hA S c q.2
      omega
    · have := hB _ _ c q
      omega
  · have := hA S c hc
    omega
theorem cLt.par {t t1 t2 : Nat} {A B : gM} (hA : cLt t1 A) (hB : cLt t2 B) (h1 : t1 ≤ t) (h2 : t2 ≤ t) : cLt t (gPar A B) := by
  intro S c hc
  obtain ⟨x, y, x1, y1, rfl⟩ := mxs_iff.mp (show mxs (occ (A S).1) (occ (B (A S).2).1) c = true from hc)
  have := hA _ _ x1
  have := hB _ _ y1
  omega
theorem cLt.u {t t1 t2 : Nat} {A B : gM} (hA : cLt t1 A) (hB : cLt t2 B) (h1 : t1 ≤ t) (h2 : t2 ≤ t) : cLt t (gU A B) := by
  intro S c hc
  have hc' : occ (A S).1 c = true ∨ occ (B (A S).2).1 c = true := by simpa [occ, gU, oU] using hc
  rcases hc' with q | q
  · have := hA _ _ q; omega
  · have := hB _ _ q; omega
theorem cLt.s {t c0 : Nat} {b : Bool} (h : c0 < 2 + t) : cLt t (gPu (oS c0 b)) := fun S c hc => by
  have : c = c0 := by simpa [gPu, occ, oS] using hc
  omega
theorem ge_cc {g : gP} {z : Nat} (hW : gW g z) {tr : Nat → Nat} (hT : gT g z tr) (lrn : Bool) : ∀ (n : Nat) (me : Nat → Nat) (i : Nat) (st : Bool) (w : Nat) (b : Bool), i < z → cLt (tr i) (ge g lrn n me i st w b) := by
  intro n
  induction n with
  | zero => intro me i st w b _; exact cLt.s (by omega)
  | succ n ih =>
    intro me i st w b hi
    obtain ⟨w1, w2, w3, w4, w5, w6⟩ := hW i hi
    obtain ⟨t1, t2, t3, t4⟩ := hT i hi
    have l1 : (gso g i = 5 ∨ gso g i = 8 ∨ gso g i = 9 ∨ gso g i = 10) → i + 1 < z := fun h => (w5 h).1
    have lA : (gso g i = 4 ∨ gso g i = 6 ∨ gso g i = 7) → i + 1 < z := fun h => by have := w6 h; omega
    have lB : (gso g i = 4 ∨ gso g i = 6 ∨ gso g i = 7) → gsec g i < z := fun h => (w6 h).2.1
    refine ge1_c2 (fun A _ => cLt (tr i) A) g lrn lrn (ge g lrn n) (ge g lrn n) me i st w b b ?_ ?_ ?_ ?_ ?_ ?_ ?_ ?_ ?_ ?_ ?_ ?_ ?_ ?_ ?_ ?_ ?_
    · intro h S c hc
      have hh := ih (upN me (gxo g i) (slt i st w)) (i + 1) st w b (l1 (by omega))
      have ht := t3 (by omega)
      unfold gLoc at hc
      split at hc
      · have := hh _ _ hc; omega
      · have := hh _ _ hc; omega
    · intro h S c hc
      have hh := ih me (i + 1) st w b (l1 (by omega)) S
      have ht := t2 h
      have hc' : tps (occ (ge g lrn n me (i + 1) st w b S).1) c = true := hc
      unfold tps at hc'
      split at hc'
      · omega
      · split at hc'
        · omega
        · have := hh _ hc'; omega
    · intro _ _ S c hc
      have : c = 1 := by simpa [gPs, occ, oS] using hc
      omega
    · intro _ _ S c hc
      have : c = 0 := by simpa [gPu, occ, oE] using hc
      omega
    · intro h _; have := t1 h; exact cLt.s (by omega)
    · intro h _ S c hc
      have hh : gso g i = 4 ∨ gso g i = 6 ∨ gso g i = 7 := by omega
      have tt := t4 hh
      have a := fun d => ih me (i + 1) true w d (lA hh)
      have b' := fun d => ih me (gsec g i) true w d (lB hh)
      unfold gPres at hc
      split at hc
      · have := b' b S c hc; omega
      · split at hc
        · have := a b S c hc; omega
        · exact cLt.u (a false) (b' false) tt.1 tt.2 S c hc
    · intro h _ S c hc; have tt := t3 (by omega); have := ih me (i + 1) true w b (l1 (by omega)) S c hc; omega
    · intro h _; have hh : gso g i = 4 ∨ gso g i = 6 ∨ gso g i = 7 := by omega
      have tt := t4 hh
      exact cLt.and (ih me (i + 1) true w b (lA hh)) (fun d => ih me (gsec g i) true w d (lB hh)) tt.1 tt.2
    · intro h _; have hh : gso g i = 4 ∨ gso g i = 6 ∨ gso g i = 7 := by omega
      have tt := t4 hh
      exact cLt.par (ih me (i + 1) true w b (lA hh)) (ih me (gsec g i) true w b (lB hh)) tt.1 tt.2
    · intro _ _; exact cLt.s (by omega)
    · intro h _ S c hc; have hh : gso g i = 4 ∨ gso g i = 6 ∨ gso g i = 7 := by omega
      have tt := t4 hh
      have := ih me (gsec g i) false w b (lB hh) S c hc; omega
    · intro h _ S c hc; have hh : gso g i = 4 ∨ gso g i = 6 ∨ gso g i = 7 := by omega
      have tt := t4 hh
      have := ih me (i + 1) false w b (lA hh) S c hc; omega
    · intro h _ S c hc
      have tt := t3 (by omega)
      have a := fun d => ih me (i + 1) false w d (l1 (by omega))
      unfold gSus at hc
      split at hc
      · have := a b S c hc; omega
      · split at hc
        · have : c = 1 := by simpa [occ, oS] using hc
          omega
        · exact cLt.u (t1 := tr (i + 1)) (t2 := 0) (a false) (cLt.s (by omega)) tt (by omega) S c hc
    · intro h _; have hh : gso g i = 4 ∨ gso g i = 6 ∨ gso g i = 7 := by omega
      have tt := t4 hh
      exact cLt.and (ih me (i + 1) false w b (lA hh)) (fun d => ih me (gsec g i) true (1 + gdep g i) d (lB hh)) tt.1 tt.2
    · intro h _; have hh : gso g i = 4 ∨ gso g i = 6 ∨ gso g i = 7 := by omega
      have tt := t4 hh
      have br : ∀ j, j < z → cLt (tr j) (gBr g (ge g lrn n) me j w b) := by
        intro j hj
        unfold gBr
        by_cases hx : ghas g j = true
        · rw [if_pos hx]; exact ih me j false w b hj
        · rw [if_neg hx]; exact cLt.s (by omega)
      exact cLt.par (br _ (lA hh)) (br _ (lB hh)) tt.1 tt.2
    · intro h _; have tt := t3 (by omega)
      exact cLt.and (ih me (i + 1) false w b (l1 (by omega))) (fun d => ih me (i + 1) true (1 + gdep g i) d (l1 (by omega))) tt tt
    · intro _ _; exact cLt.s (by omega)
