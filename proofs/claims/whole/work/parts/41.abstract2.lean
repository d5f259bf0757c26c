/-- L5: the pauses that a sure run leaves selected -/
def gH (g : gP) (z : Nat) : Prop := ∀ i, i < z → gso g i ≤ 10 ∧
  (gso g i = 1 → ∃ p0, p0 < 32 ∧ ∀ p, ghp g i p = decide (p = p0)) ∧
  ((gso g i = 5 ∨ gso g i = 8 ∨ gso g i = 9 ∨ gso g i = 10) → ghp g (i + 1) = ghp g i) ∧
  ((gso g i = 4 ∨ gso g i = 6 ∨ gso g i = 7) → ∀ p, ghp g i p = (ghp g (i + 1) p || ghp g (gsec g i) p) ∧ (ghp g (i + 1) p = true → ghp g (gsec g i) p = true → False))
def Nn (h : Nat → Bool) (S : gS) : Prop := ∀ p, h p = true → sN S p = false
def nFr (h : Nat → Bool) (A : gM) : Prop := ∀ S p, h p = false → sN (A S).2 p = sN S p
def nEnd (h : Nat → Bool) (A : gM) : Prop := ∀ S, Nn h S → (omc (A S).1 0 = true → Nn h (A S).2) ∧ (omc (A S).1 1 = true → ∃ p, h p = true ∧ sN (A S).2 p = true)
theorem ok_u {b : Bool} {o : gO} (h : oOk b o) {c d : Nat} (h1 : omc o c = true) (h2 : omc o d = true) : c = d := (h.2.2.2 d h2).1 c (h.1 c h1)
theorem ok_b {b : Bool} {o : gO} (h : oOk b o) {c : Nat} (h1 : omc o c = true) : b = true := by
  cases b with
  | true => rfl
  | false => rw [(h.2.2.1 rfl).1 c] at h1; cases h1
theorem has_sub {g : gP} {i j : Nat} (h : ∀ p, ghp g i p = true → ghp g j p = true) (hh : ghas g i = true) : ghas g j = true := by
  simp only [ghas, List.any_eq_true, Bool.and_eq_true] at *
  obtain ⟨p, h1, h2, h3⟩ := hh
  exact ⟨p, h1, h2, h p h3⟩
theorem has_or {g : gP} {i j k : Nat} (h : ∀ p, ghp g i p = true → ghp g j p = true ∨ ghp g k p = true) (hh : ghas g i = true) (hj : ghas g j = false) : ghas g k = true := by
  cases e : ghas g k with
  | true => rfl
  | false =>
    simp only [ghas, List.any_eq_true, Bool.and_eq_true, List.any_eq_false] at *
    obtain ⟨p, h1, h2, h3⟩ := hh
    have a := hj p h1
    have c := e p h1
    rcases h p h3 with q | q
    · exact absurd ⟨h2, q⟩ a
    · exact absurd ⟨h2, q⟩ c
theorem nFr.seq {h h1 h2 : Nat → Bool} {A B : gM} {f : gO → gO → gO} (fA : nFr h1 A) (fB : nFr h2 B) (s1 : ∀ p, h p = false → h1 p = false) (s2 : ∀ p, h p = false → h2 p = false) : nFr h (fun S => (f (A S).1 (B (A S).2).1, (B (A S).2).2)) := fun S p hp => (fB _ p (s2 p hp)).trans (fA S p (s1 p hp))
theorem nFr.and {h h1 h2 : Nat → Bool} {A : gM} {B : Bool → gM} (fA : nFr h1 A) (fB : ∀ d, nFr h2 (B d)) (s1 : ∀ p, h p = false → h1 p = false) (s2 : ∀ p, h p = false → h2 p = false) : nFr h (gAnd A B) := fun S p hp => by
  unfold gAnd
  split
  · exact (fB _ _ p (s2 p hp)).trans (fA S p (s1 p hp))
  · exact fA S p (s1 p hp)
theorem nEnd.and {h h1 h2 : Nat → Bool} {A : gM} {B : Bool → gM} {b : Bool} (ok : ∀ S, oOk b (A S).1) (okB : ∀ d S, oOk d (B d S).1) (fA : nFr h1 A) (fB : ∀ d, nFr h2 (B d)) (eA : nEnd h1 A) (eB : ∀ d, nEnd h2 (B d)) (s : ∀ p, h p = true ↔ h1 p = true ∨ h2 p = true) (dj : (∀ p, h1 p = true → h2 p = true → False) ∨ (∀ p, h1 p = h2 p)) : nEnd h (gAnd A B) := by
  intro S hn
  have n1 : Nn h1 S := fun p q => hn p ((s p).mpr (Or.inl q))
  obtain ⟨a0, a1⟩ := eA S n1
  by_cases c0 : occ (A S).1 0 = true
  · have e : gAnd A B S = (oU (oZ (A S).1) (B (omc (A S).1 0) (A S).2).1, (B (omc (A S).1 0) (A S).2).2) := if_pos c0
    rw [e]
    have m1 : ∀ c, omc (oU (oZ (A S).1) (B (omc (A S).1 0) (A S).2).1) c = true → omc (A S).1 0 = true ∧ omc (B (omc (A S).1 0) (A S).2).1 c = true := by
      intro c hc
      have hc' : (decide (c ≠ 0) && omc (A S).1 c) = true ∨ omc (B (omc (A S).1 0) (A S).2).1 c = true := by
        simpa only [omc, oU, oZ, Bool.or_eq_true] using hc
      rcases hc' with q | q
      · simp only [Bool.and_eq_true, decide_eq_true_eq] at q
        exact absurd (((ok S).2.2.2 c q.2).1 0 c0).symm q.1
      · exact ⟨ok_b (okB _ _) q, q⟩
    have key : omc (A S).1 0 = true → Nn h2 (A S).2 := fun m0 p hp => by
      rcases dj with dj | dj
      · have : h1 p = false := by
          cases e : h1 p with
          | false => rfl
          | true => exact (dj p e hp).elim
        rw [fA S p this]
        exact hn p ((s p).mpr (Or.inr hp))
      · exact a0 m0 p (by rw [dj p]; exact hp)
    refine ⟨fun hc => ?_, fun hc => ?_⟩
    · obtain ⟨m0, q0⟩ := m1 0 hc
      obtain ⟨b0, b1⟩ := eB (omc (A S).1 0) (A S).2 (key m0)
      intro p hp
      cases e2 : h2 p with
      | true => exact b0 q0 p e2
      | false =>
        show sN (B (omc (A S).1 0) (A S).2).2 p = false
        rw [fB _ _ p e2]
        rcases (s p).mp hp with q | q
        · exact a0 m0 p q
        · rw [e2] at q; cases q
    · obtain ⟨m0, q0⟩ := m1 1 hc
      obtain ⟨b0, b1⟩ := eB (omc (A S).1 0) (A S).2 (key m0)
      obtain ⟨p, p1, p2⟩ := b1 q0
      exact ⟨p, (s p).mpr (Or.inr p1), p2⟩
  · have e : gAnd A B S = A S := if_neg c0
    rw [e]
    refine ⟨fun hc => absurd ((ok S).1 0 hc) c0, fun hc => ?_⟩
    obtain ⟨p, p1, p2⟩ := a1 hc
    exact ⟨p, (s p).mpr (Or.inl p1), p2⟩
theorem nEnd.par {h h1 h2 : Nat → Bool} {A B : gM} (fA : nFr h1 A) (fB : nFr h2 B) (eA : nEnd h1 A) (eB : nEnd h2 B) (s : ∀ p, h p = true ↔ h1 p = true ∨ h2 p = true) (dj : ∀ p, h1 p = true → h2 p = true → False) : nEnd h (gPar A B) := by
  intro S hn
  have n1 : Nn h1 S := fun p q => hn p ((s p).mpr (Or.inl q))
  have no1 : ∀ p, h2 p = true → h1 p = false := fun p hp => by
    cases e : h1 p with
    | false => rfl
    | true => exact (dj p e hp).elim
  have n2 : Nn h2 (A S).2 := fun p hp => by rw [fA S p (no1 p hp)]; exact hn p ((s p).mpr (Or.inr hp))
  obtain ⟨a0, a1⟩ := eA S n1
  obtain ⟨b0, b1⟩ := eB (A S).2 n2
  refine ⟨fun hc => ?_, fun hc => ?_⟩
  · obtain ⟨x, y, x1, y1, xy⟩ := mxs_iff.mp (show mxs (omc (A S).1) (omc (B (A S).2).1) 0 = true from hc)
    obtain rfl : x = 0 := by omega
    obtain rfl : y = 0 := by omega
    intro p hp
    show sN (B (A S).2).2 p = false
    cases e2 : h2 p with
    | true => exact b0 y1 p e2
    | false =>
      rw [fB _ p e2]
      rcases (s p).mp hp with q | q
      · exact a0 x1 p q
      · rw [e2] at q; cases q
  · obtain ⟨x, y, x1, y1, xy⟩ := mxs_iff.mp (show mxs (omc (A S).1) (omc (B (A S).2).1) 1 = true from hc)
    have : x = 1 ∨ y = 1 := by omega
    rcases this with rfl | rfl
    · obtain ⟨p, p1, p2⟩ := a1 x1
      refine ⟨p, (s p).mpr (Or.inl p1), ?_⟩
      show sN (B (A S).2).2 p = true
      have : h2 p = false := by
        cases e : h2 p with
        | false => rfl
        | true => exact (dj p p1 e).elim
      rw [fB _ p this]; exact p2
    · obtain ⟨p, p1, p2⟩ := b1 y1
      exact ⟨p, (s p).mpr (Or.inr p1), p2⟩
theorem nFr.sub {h h1 : Nat → Bool} {A : gM} (fA : nFr h1 A) (s1 : ∀ p, h p = false → h1 p = false) : nFr h A := fun S p hp => fA S p (s1 p hp)
theorem nEnd.sub {h h1 : Nat → Bool} {A : gM} (fA : nFr h1 A) (eA : nEnd h1 A) (s : ∀ p, h1 p = true → h p = true) : nEnd h A := fun S hn => by
  obtain ⟨a0, a1⟩ := eA S (fun p q => hn p (s p q))
  refine ⟨fun hc p hp => ?_, fun hc => ?_⟩
  · cases e : h1 p with
    | true => exact a0 hc p e
    | false => rw [fA S p e]; exact hn p hp
  · obtain ⟨p, p1, p2⟩ := a1 hc
    exact ⟨p, s p p1, p2⟩
theorem oS_m {c d : Nat} {b : Bool} (h : omc (oS c b) d = true) : b = true ∧ d = c := by
  simpa [omc, oS] using h
theorem nEnd.pu0 {h : Nat → Bool} {b : Bool} : nEnd h (gPu (oS 0 b)) := fun S hn => ⟨fun _ => hn, fun hc => by have := (oS_m hc).2; omega⟩
theorem nFr.pu {h : Nat → Bool} {o : gO} : nFr h (gPu o) := fun _ _ _ => rfl
theorem ge_n {g : gP} {z : Nat} (hW : gW g z) (hH : gH g z) (lrn : Bool) : ∀ (n : Nat) (me : Nat → Nat) (i : Nat) (st : Bool) (w : Nat) (b : Bool), i < z → nFr (ghp g i) (ge g lrn n me i st w b) ∧ ((st = false → ghas g i = true) → lrn = false → nEnd (ghp g i) (ge g lrn n me i st w b)) := by
  intro n
  induction n with
  | zero => intro me i st w b _; exact ⟨nFr.pu, fun _ _ => nEnd.pu0⟩
  | succ n ih =>
    intro me i st w b hi
    obtain ⟨w1, w2, w3, w4, w5, w6⟩ := hW i hi
    obtain ⟨y1, y2, y3, y4⟩ := hH i hi
    have l1 : (gso g i = 5 ∨ gso g i = 8 ∨ gso g i = 9 ∨ gso g i = 10) → i + 1 < z := fun h => (w5 h).1
    have lA : (gso g i = 4 ∨ gso g i = 6 ∨ gso g i = 7) → i + 1 < z := fun h => by have := w6 h; omega
    have lB : (gso g i = 4 ∨ gso g i = 6 ∨ gso g i = 7) → gsec g i < z := fun h => (w6 h).2.1
    have hA : (gso g i = 4 ∨ gso g i = 6 ∨ gso g i = 7) → ∀ p, ghp g (i + 1) p = true → ghp g i p = true := fun h p q => by rw [(y4 h p).1, q]; rfl
    have hB : (gso g i = 4 ∨ gso g i = 6 ∨ gso g i = 7) → ∀ p, ghp g (gsec g i) p = true → ghp g i p = true := fun h p q => by rw [(y4 h p).1, q]; simp
    have fA : (gso g i = 4 ∨ gso g i = 6 ∨ gso g i = 7) → ∀ p, ghp g i p = false → ghp g (i + 1) p = false := fun h p q => by
      rw [(y4 h p).1] at q; simp at q; exact q.1
    have fB : (gso g i = 4 ∨ gso g i = 6 ∨ gso g i = 7) → ∀ p, ghp g i p = false → ghp g (gsec g i) p = false := fun h p q => by
      rw [(y4 h p).1] at q; simp at q; exact q.2
    have sp : (gso g i = 4 ∨ gso g i = 6 ∨ gso g i = 7) → ∀ p, ghp g i p = true ↔ ghp g (i + 1) p = true ∨ ghp g (gsec g i) p = true := fun h p => by rw [(y4 h p).1]; simp
    have dj : (gso g i = 4 ∨ gso g i = 6 ∨ gso g i = 7) → ∀ p, ghp g (i + 1) p = true → ghp g (gsec g i) p = true → False := fun h p => (y4 h p).2
    have ok := fun (l : Bool) (me : Nat → Nat) (i : Nat) (st : Bool) (w : Nat) (b : Bool) (S : gS) => ge_ok g l n me i st w b S
    refine ge1_c2 (fun A _ => nFr (ghp g i) A ∧ ((st = false → ghas g i = true) → lrn = false → nEnd (ghp g i) A)) g lrn lrn (ge g lrn n) (ge g lrn n) me i st w b b ?_ ?_ ?_ ?_ ?_ ?_ ?_ ?_ ?_ ?_ ?_ ?_ ?_ ?_ ?_ ?_ ?_
    · intro h
      have e := y3 (by omega)
      obtain ⟨a1, a2⟩ := ih (upN me (gxo g i) (slt i st w)) (i + 1) st w b (l1 (by omega))
      rw [e] at a1 a2
      refine ⟨fun S p hp => ?_, fun q1 q2 => ?_⟩
      · unfold gLoc
        split
        · exact (a1 _ p hp).trans (a1 S p hp)
        · exact a1 S p hp
      · subst q2
        exact a2 (fun q => has_sub (fun p r => by rw [e]; exact r) (q1 q)) rfl
    · intro h
      have e := y3 (by omega)
      obtain ⟨a1, a2⟩ := ih me (i + 1) st w b (l1 (by omega))
      rw [e] at a1 a2
      refine ⟨fun S p hp => ?_, fun q1 q2 S hn => ?_⟩
      · unfold gTrap
        dsimp only
        split
        · show (sN (ge g lrn n me (i + 1) st w b S).2 p && !ghp g i p) = sN S p
          rw [hp, a1 S p hp]; simp
        · exact a1 S p hp
      · obtain ⟨e0, e1⟩ := a2 (fun q => has_sub (fun p r => by rw [e]; exact r) (q1 q)) q2 S hn
        have okS := ok lrn me (i + 1) st w b S
        unfold gTrap
        by_cases m2 : omc (ge g lrn n me (i + 1) st w b S).1 2 = true
        · simp only [if_pos m2]
          refine ⟨fun _ p hp => ?_, fun hc => ?_⟩
          · show (sN (ge g lrn n me (i + 1) st w b S).2 p && !ghp g i p) = false
            rw [hp]; simp
          · have : omc (ge g lrn n me (i + 1) st w b S).1 1 = true := hc
            have := ok_u okS this m2
            omega
        · simp only [if_neg m2]
          refine ⟨fun hc => ?_, fun hc => e1 hc⟩
          have hc' : (omc (ge g lrn n me (i + 1) st w b S).1 0 || omc (ge g lrn n me (i + 1) st w b S).1 2) = true := hc
          simp only [Bool.or_eq_true, m2, Bool.false_eq_true, or_false] at hc'
          exact e0 hc'
    · intro h hs
      obtain ⟨p0, hp0, hq⟩ := y2 h
      refine ⟨fun S p hp => ?_, fun _ _ S hn => ?_⟩
      · unfold gPs
        dsimp only
        split
        · show (sN S p || ghp g i p) = sN S p
          rw [hp]; simp
        · rfl
      · refine ⟨fun hc => by have := (oS_m hc).2; omega, fun hc => ?_⟩
        have hb := (oS_m hc).1
        refine ⟨p0, by rw [hq]; simp, ?_⟩
        unfold gPs
        rw [hb]
        simp only [Bool.or_true, if_true]
        show (sN S p0 || ghp g i p0) = true
        rw [hq p0]
        simp
    · intro _ _; exact ⟨nFr.pu, fun _ _ S hn => ⟨fun _ => hn, fun hc => by simp [gPu, omc, oE] at hc⟩⟩
    · intro _ _; exact ⟨nFr.pu, fun _ _ S hn => ⟨fun _ => hn, fun hc => by have := (oS_m hc).2; omega⟩⟩
    · intro h hs
      have hh : gso g i = 4 ∨ gso g i = 6 ∨ gso g i = 7 := Or.inl h
      have iA := fun d => ih me (i + 1) true w d (lA hh)
      have iB := fun d => ih me (gsec g i) true w d (lB hh)
      refine ⟨fun S p hp => ?_, fun _ q2 S hn => ?_⟩
      · unfold gPres
        split
        · exact ((iB b).1.sub (fB hh)) S p hp
        · split
          · exact ((iA b).1.sub (fA hh)) S p hp
          · exact nFr.seq (f := oU) (iA false).1 (iB false).1 (fA hh) (fB hh) S p hp
      · unfold gPres
        split
        · exact nEnd.sub (iB b).1 ((iB b).2 (fun q => by cases q) q2) (hB hh) S hn
        · split
          · exact nEnd.sub (iA b).1 ((iA b).2 (fun q => by cases q) q2) (hA hh) S hn
          · have z : ∀ c, omc (gU (ge g lrn n me (i + 1) true w false) (ge g lrn n me (gsec g i) true w false) S).1 c = false := ((oU_ok (b := false) (ok lrn _ _ _ _ _ _) (ok lrn _ _ _ _ _ _)).2.2.1 rfl).1
            exact ⟨fun hc => (by rw [z] at hc; cases hc), fun hc => (by rw [z] at hc; cases hc)⟩
    · intro h hs
      have e := y3 (by omega)
      obtain ⟨a1, a2⟩ := ih me (i + 1) true w b (l1 (by omega))
      rw [e] at a1 a2
      exact ⟨a1, fun _ q2 => a2 (fun q => by cases q) q2⟩
    · intro h hs
      have hh : gso g i = 4 ∨ gso g i = 6 ∨ gso g i = 7 := by omega
      have iA := ih me (i + 1) true w b (lA hh)
      have iB := fun d => ih me (gsec g i) true w d (lB hh)
      exact ⟨nFr.and iA.1 (fun d => (iB d).1) (fA hh) (fB hh), fun _ q2 => nEnd.and (fun S => ok lrn _ _ _ _ _ S) (fun d S => ok lrn _ _ _ _ d S) iA.1 (fun d => (iB d).1) (iA.2 (fun q => by cases q) q2) (fun d => (iB d).2 (fun q => by cases q) q2) (sp hh) (Or.inl (dj hh))⟩
    · intro h hs
      have hh : gso g i = 4 ∨ gso g i = 6 ∨ gso g i = 7 := by omega
      have iA := ih me (i + 1) true w b (lA hh)
      have iB := ih me (gsec g i) true w b (lB hh)
      exact ⟨nFr.seq (f := oP) iA.1 iB.1 (fA hh) (fB hh), fun _ q2 => nEnd.par iA.1 iB.1 (iA.2 (fun q => by cases q) q2) (iB.2 (fun q => by cases q) q2) (sp hh) (dj hh)⟩
    · intro _ _; exact ⟨nFr.pu, fun _ _ => nEnd.pu0⟩
    · intro h hs
      have hh : gso g i = 4 ∨ gso g i = 6 ∨ gso g i = 7 := by omega
      have iB := ih me (gsec g i) false w b (lB hh)
      exact ⟨iB.1.sub (fB hh), fun q1 q2 => nEnd.sub iB.1 (iB.2 (fun _ => has_or (fun p r => (sp hh p).mp r) (q1 hs) h.2) q2) (hB hh)⟩
    · intro h hs
      have hh : gso g i = 4 ∨ gso g i = 6 ∨ gso g i = 7 := by omega
      have iA := ih me (i + 1) false w b (lA hh)
      exact ⟨iA.1.sub (fA hh), fun q1 q2 => nEnd.sub iA.1 (iA.2 (fun _ => h.2) q2) (hA hh)⟩
    · intro h hs
      have e := y3 (by omega)
      have iA := fun d => ih me (i + 1) false w d (l1 (by omega))
      rw [e] at iA
      refine ⟨fun S p hp => ?_, fun q1 q2 S hn => ?_⟩
      · unfold gSus
        split
        · exact (iA b).1 S p hp
        · split
          · dsimp only
            split
            · show (sN S p || (gsel g p && ghp g i p)) = sN S p
              rw [hp]; simp
            · split
              · show (if ghp g i p then gsel g p else sN S p) = sN S p
                rw [hp]; simp
              · rfl
          · exact (iA false).1 S p hp
      · have hi1 : ghas g (i + 1) = true := has_sub (fun p r => by rw [e]; exact r) (q1 hs)
        unfold gSus
        split
        · exact (iA b).2 (fun _ => hi1) q2 S hn
        · split
          · refine ⟨fun hc => by have := (oS_m hc).2; omega, fun hc => ?_⟩
            have hb := (oS_m hc).1
            subst q2
            rw [hb]
            have hx := q1 hs
            simp only [ghas, List.any_eq_true, Bool.and_eq_true] at hx
            obtain ⟨p, -, p2, p3⟩ := hx
            refine ⟨p, p3, ?_⟩
            show (if ghp g i p then gsel g p else sN S p) = true
            rw [p3]; exact p2
          · have z : ∀ c, omc (gU (ge g lrn n me (i + 1) false w false) (gPu (oS 1 false)) S).1 c = false := ((oU_ok (b := false) (ok lrn _ _ _ _ _ _) (oS_ok 1 false)).2.2.1 rfl).1
            exact ⟨fun hc => (by rw [z] at hc; cases hc), fun hc => (by rw [z] at hc; cases hc)⟩
    · intro h hs
      have hh : gso g i = 4 ∨ gso g i = 6 ∨ gso g i = 7 := by omega
      have iA := ih me (i + 1) false w b (lA hh)
      have iB := fun d => ih me (gsec g i) true (1 + gdep g i) d (lB hh)
      exact ⟨nFr.and iA.1 (fun d => (iB d).1) (fA hh) (fB hh), fun q1 q2 => nEnd.and (fun S => ok lrn _ _ _ _ _ S) (fun d S => ok lrn _ _ _ _ d S) iA.1 (fun d => (iB d).1) (iA.2 (fun _ => h.2) q2) (fun d => (iB d).2 (fun q => by cases q) q2) (sp hh) (Or.inl (dj hh))⟩
    · intro h hs
      have hh : gso g i = 4 ∨ gso g i = 6 ∨ gso g i = 7 := by omega
      have br : ∀ j, j < z → nFr (ghp g j) (gBr g (ge g lrn n) me j w b) ∧ (lrn = false → nEnd (ghp g j) (gBr g (ge g lrn n) me j w b)) := by
        intro j hj
        unfold gBr
        by_cases h : ghas g j = true
        · rw [if_pos h]; exact ⟨(ih me j false w b hj).1, fun q2 => (ih me j false w b hj).2 (fun _ => h) q2⟩
        · rw [if_neg h]; exact ⟨nFr.pu, fun _ => nEnd.pu0⟩
      have iA := br (i + 1) (lA hh)
      have iB := br (gsec g i) (lB hh)
      exact ⟨nFr.seq (f := oP) iA.1 iB.1 (fA hh) (fB hh), fun _ q2 => nEnd.par iA.1 iB.1 (iA.2 q2) (iB.2 q2) (sp hh) (dj hh)⟩
    · intro h hs
      have e := y3 (by omega)
      have iA := ih me (i + 1) false w b (l1 (by omega))
      have iB := fun d => ih me (i + 1) true (1 + gdep g i) d (l1 (by omega))
      rw [e] at iA iB
      exact ⟨nFr.and iA.1 (fun d => (iB d).1) (fun _ h => h) (fun _ h => h), fun q1 q2 => nEnd.and (fun S => ok lrn _ _ _ _ _ S) (fun d S => ok lrn _ _ _ _ d S) iA.1 (fun d => (iB d).1) (iA.2 (fun _ => has_sub (fun p r => by rw [e]; exact r) (q1 hs)) q2) (fun d => (iB d).2 (fun q => by cases q) q2) (fun p => by simp) (Or.inr (fun _ => rfl))⟩
    · intro _ _; exact ⟨nFr.pu, fun _ _ => nEnd.pu0⟩
/-- L4: a pass that learns nothing is a pass without learning, also over statuses that differ where nothing ran -/
def Ag (K K' : Nat → Nat) (P : Nat → Prop) (o : gO) : Prop := ∀ k, P k → (K k ≠ 2 ∨ ocf o k = true) → K' k = K k
def Sm (Me P : Nat → Prop) (h : Nat → Bool) (hs : Prop) (A A' : gM) : Prop := ∀ S S', sL (A S).2 = false → (∀ k, Me k → sK S' k = sK S k) → Ag (sK S) (sK S') P (A S).1 → (A' S').1 = (A S).1 ∧ ((∃ c, omc (A S).1 c = true) → sN S' = sN S → Nn h S → hs → sN (A' S').2 = sN (A S).2)
theorem Ag.sub {K K' : Nat → Nat} {P Q : Nat → Prop} {o o' : gO} (h : Ag K K' P o) (hP : ∀ k, Q k → P k) (ho : ∀ k, ocf o' k = true → ocf o k = true) : Ag K K' Q o' := fun k hk hc => h k (hP k hk) (hc.imp id (ho k))
theorem Nn.cg {h : Nat → Bool} {S S' : gS} (e : sN S' = sN S) (hn : Nn h S) : Nn h S' := fun p hp => by rw [e]; exact hn p hp
theorem sl_back {P : Nat → Prop} {S S1 : gS} (h : lStep P S S1) (e : sL S1 = false) : sL S = false := by
  cases q : sL S with
  | false => rfl
  | true => rw [h.1 q] at e; cases e
theorem Sm.pu {Me P : Nat → Prop} {h : Nat → Bool} {hs : Prop} {o : gO} : Sm Me P h hs (gPu o) (gPu o) := fun _ _ _ _ _ => ⟨rfl, fun _ e _ _ => e⟩
theorem Sm.sub {Me P Q : Nat → Prop} {h h1 : Nat → Bool} {hs hs1 : Prop} {A A' : gM} (hA : Sm Me P h1 hs1 A A') (hP : ∀ k, P k → Q k) (hh : ∀ p, h1 p = true → h p = true) (hq : hs → hs1) : Sm Me Q h hs A A' := fun S S' a1 a2 a3 => ⟨(hA S S' a1 a2 (a3.sub hP (fun _ e => e))).1, fun b1 b2 b3 b4 => (hA S S' a1 a2 (a3.sub hP (fun _ e => e))).2 b1 b2 (fun p hp => b3 p (hh p hp)) (hq b4)⟩
theorem Sm.and {Me P1 P2 Q : Nat → Prop} {h h1 h2 : Nat → Bool} {hs hs1 : Prop} {b : Bool} {A A' : gM} {B B' : Bool → gM} (mA : Sm Me P1 h1 hs1 A A') (mB : ∀ d, Sm Me P2 h2 True (B d) (B' d)) (ok : ∀ S, oOk b (A S).1) (okB : ∀ d S, oOk d (B d S).1) (fA : Fr true Me P1 b A) (fB : ∀ d, Fr true Me P2 d (B d)) (fA' : Fr false Me P1 b A') (nA : nFr h1 A') (eA : hs → nEnd h1 A') (q1 : hs → hs1) (hP1 : ∀ k, P1 k → Q k) (hP2 : ∀ k, P2 k → Q k) (s : ∀ p, h p = true ↔ h1 p = true ∨ h2 p = true) (dj : (∀ p, h1 p = true → h2 p = true → False) ∨ (∀ p, h1 p = h2 p)) : Sm Me Q h hs (gAnd A B) (gAnd A' B') := by
  intro S S' a1 a2 a3
  by_cases c0 : occ (A S).1 0 = true
  · have e : gAnd A B S = (oU (oZ (A S).1) (B (omc (A S).1 0) (A S).2).1, (B (omc (A S).1 0) (A S).2).2) := if_pos c0
    rw [e] at a1 a3 ⊢
    have l1 : sL (A S).2 = false := sl_back (fB _ _).2.2.1 a1
    have k1 : sK (A S).2 = sK S := (fA S).2.2.1.2.2 l1
    have k2 : sK (A' S').2 = sK S' := ((fA' S').2.2.2 rfl).1
    obtain ⟨o1, n1⟩ := mA S S' l1 a2 (a3.sub hP1 (fun k hk => by rw [(oZU_fl _ _ k).1, hk]; rfl))
    have c0' : occ (A' S').1 0 = true := by rw [o1]; exact c0
    have e' : gAnd A' B' S' = (oU (oZ (A' S').1) (B' (omc (A' S').1 0) (A' S').2).1, (B' (omc (A' S').1 0) (A' S').2).2) := if_pos c0'
    rw [e', o1]
    obtain ⟨o2, n2⟩ := mB (omc (A S).1 0) (A S).2 (A' S').2 a1 (by rw [k1, k2]; exact a2) (by
      rw [k1, k2]
      exact a3.sub hP2 (fun k hk => by rw [(oZU_fl _ _ k).1, hk]; simp))
    refine ⟨by dsimp only; rw [o2], ?_⟩
    rintro ⟨c, hc⟩ b2 b3 b4
    have hc' : (decide (c ≠ 0) && omc (A S).1 c) = true ∨ omc (B (omc (A S).1 0) (A S).2).1 c = true := by
      simpa only [omc, oU, oZ, Bool.or_eq_true] using hc
    have m0 : omc (A S).1 0 = true ∧ omc (B (omc (A S).1 0) (A S).2).1 c = true := by
      rcases hc' with q | q
      · simp only [Bool.and_eq_true, decide_eq_true_eq] at q
        exact absurd (((ok S).2.2.2 c q.2).1 0 c0).symm q.1
      · exact ⟨ok_b (okB _ _) q, q⟩
    have nn1 : Nn h1 S := fun p q => b3 p ((s p).mpr (Or.inl q))
    have en := n1 ⟨0, m0.1⟩ b2 nn1 (q1 b4)
    refine n2 ⟨c, m0.2⟩ en (fun p hp => ?_) trivial
    rw [← en]
    rcases dj with dj | dj
    · have : h1 p = false := by
        cases e : h1 p with
        | false => rfl
        | true => exact (dj p e hp).elim
      rw [nA S' p this, b2]
      exact b3 p ((s p).mpr (Or.inr hp))
    · exact ((eA b4) S' (nn1.cg b2)).1 (by rw [o1]; exact m0.1) p (by rw [dj p]; exact hp)
  · have e : gAnd A B S = A S := if_neg c0
    rw [e] at a1 a3 ⊢
    obtain ⟨o1, n1⟩ := mA S S' a1 a2 (a3.sub hP1 (fun _ q => q))
    have e' : gAnd A' B' S' = A' S' := if_neg (by rw [o1]; exact c0)
    rw [e']
    exact ⟨o1, fun b1 b2 b3 b4 => n1 b1 b2 (fun p q => b3 p ((s p).mpr (Or.inl q))) (q1 b4)⟩
theorem Sm.par {Me P1 P2 Q : Nat → Prop} {h h1 h2 : Nat → Bool} {hs hs1 hs2 : Prop} {b : Bool} {A A' B B' : gM} (mA : Sm Me P1 h1 hs1 A A') (mB : Sm Me P2 h2 hs2 B B') (fA : Fr true Me P1 b A) (fB : Fr true Me P2 b B) (fA' : Fr false Me P1 b A') (nA : nFr h1 A') (q1 : hs → hs1) (q2 : hs → hs2) (hP1 : ∀ k, P1 k → Q k) (hP2 : ∀ k, P2 k → Q k) (s : ∀ p, h p = true ↔ h1 p = true ∨ h2 p = true) (dj : ∀ p, h1 p = true → h2 p = true → False) : Sm Me Q h hs (gPar A B) (gPar A' B') := by
  intro S S' a1 a2 a3
  have l1 : sL (A S).2 = false := sl_back (fB _).2.2.1 a1
  have k1 : sK (A S).2 = sK S := (fA S).2.2.1.2.2 l1
  have k2 : sK (A' S').2 = sK S' := ((fA' S').2.2.2 rfl).1
  obtain ⟨o1, n1⟩ := mA S S' l1 a2 (a3.sub hP1 (fun k hk => by show (ocf _ k || _) = true; rw [hk]; rfl))
  obtain ⟨o2, n2⟩ := mB (A S).2 (A' S').2 a1 (by rw [k1, k2]; exact a2) (by
    rw [k1, k2]
    exact a3.sub hP2 (fun k hk => by show (_ || ocf _ k) = true; rw [hk]; simp))
  refine ⟨by unfold gPar; dsimp only; rw [o1, o2], ?_⟩
  rintro ⟨c, hc⟩ b2 b3 b4
  obtain ⟨x, y, x1, y1, -⟩ := mxs_iff.mp (show mxs (omc (A S).1) (omc (B (A S).2).1) c = true from hc)
  have nn1 : Nn h1 S := fun p q => b3 p ((s p).mpr (Or.inl q))
  have en := n1 ⟨x, x1⟩ b2 nn1 (q1 b4)
  refine n2 ⟨y, y1⟩ en (fun p hp => ?_) (q2 b4)
  rw [← en]
  have : h1 p = false := by
    cases e : h1 p with
    | false => rfl
    | true => exact (dj p e hp).elim
  rw [nA S' p this, b2]
  exact b3 p ((s p).mpr (Or.inr hp))
theorem ge_same {g : gP} {z : Nat} (hW : gW g z) (hH : gH g z) : ∀ (n : Nat) (me : Nat → Nat) (i : Nat) (st : Bool) (w : Nat) (b : Bool), i < z → w < 26 → Sm (fun k => ∃ s, me s = k) (SI g i st w) (ghp g i) (st = false → ghas g i = true) (ge g true n me i st w b) (ge g false n me i st w b) := by
  intro n
  induction n with
  | zero => intro me i st w b _ _; exact Sm.pu
  | succ n ih =>
    intro me i st w b hi hw
    obtain ⟨w1, w2, w3, w4, w5, w6⟩ := hW i hi
    obtain ⟨y1, y2, y3, y4⟩ := hH i hi
    have up1 : (gso g i = 5 ∨ gso g i = 8 ∨ gso g i = 9 ∨ gso g i = 10) → ∀ k, SI g (i + 1) st w k → SI g i st w k := fun h k q => by
      obtain ⟨a1, a2, a3⟩ := w5 h
      obtain ⟨q1, q2, q3, q4, q5⟩ := q
      exact ⟨q1, by omega, by omega, q4, fun e => by have := q5 e; omega⟩
    have upA : (gso g i = 4 ∨ gso g i = 6 ∨ gso g i = 7) → ∀ k, SI g (i + 1) st w k → SI g i st w k := fun h k q => by
      obtain ⟨a1, a2, a3, a4, a5, a6⟩ := w6 h
      have := hW _ a2
      obtain ⟨q1, q2, q3, q4, q5⟩ := q
      exact ⟨q1, by omega, by omega, q4, fun e => by have := q5 e; omega⟩
    have upB : (gso g i = 4 ∨ gso g i = 6 ∨ gso g i = 7) → ∀ k, SI g (gsec g i) st w k → SI g i st w k := fun h k q => by
      obtain ⟨a1, a2, a3, a4, a5, a6⟩ := w6 h
      obtain ⟨q1, q2, q3, q4, q5⟩ := q
      exact ⟨q1, by omega, by omega, q4, fun e => by have := q5 e; omega⟩
    have l1 : (gso g i = 5 ∨ gso g i = 8 ∨ gso g i = 9 ∨ gso g i = 10) → i + 1 < z := fun h => (w5 h).1
    have lA : (gso g i = 4 ∨ gso g i = 6 ∨ gso g i = 7) → i + 1 < z := fun h => by have := w6 h; omega
    have lB : (gso g i = 4 ∨ gso g i = 6 ∨ gso g i = 7) → gsec g i < z := fun h => (w6 h).2.1
    have hA : (gso g i = 4 ∨ gso g i = 6 ∨ gso g i = 7) → ∀ p, ghp g (i + 1) p = true → ghp g i p = true := fun h p q => by rw [(y4 h p).1, q]; rfl
    have hB : (gso g i = 4 ∨ gso g i = 6 ∨ gso g i = 7) → ∀ p, ghp g (gsec g i) p = true → ghp g i p = true := fun h p q => by rw [(y4 h p).1, q]; simp
    have sp : (gso g i = 4 ∨ gso g i = 6 ∨ gso g i = 7) → ∀ p, ghp g i p = true ↔ ghp g (i + 1) p = true ∨ ghp g (gsec g i) p = true := fun h p => by rw [(y4 h p).1]; simp
    have dj : (gso g i = 4 ∨ gso g i = 6 ∨ gso g i = 7) → ∀ p, ghp g (i + 1) p = true → ghp g (gsec g i) p = true → False := fun h p => (y4 h p).2
    have ok := fun (l : Bool) (me : Nat → Nat) (i : Nat) (st : Bool) (w : Nat) (b : Bool) (S : gS) => ge_ok g l n me i st w b S
    have fr := fun (l : Bool) (i : Nat) (st : Bool) (w : Nat) (b : Bool) (hi : i < z) (hw : w < 26) => ge_fr hW l n me i st w b hi hw
    have nn := fun (i : Nat) (st : Bool) (w : Nat) (b : Bool) (hi : i < z) => ge_n hW hH false n me i st w b hi
    refine ge1_c2 (fun A A' => Sm (fun k => ∃ s, me s = k) (SI g i st w) (ghp g i) (st = false → ghas g i = true) A A') g true false (ge g true n) (ge g false n) me i st w b b ?_ ?_ ?_ ?_ ?_ ?_ ?_ ?_ ?_ ?_ ?_ ?_ ?_ ?_ ?_ ?_ ?_
    · intro h S S' a1 a2 a3
      have e := y3 (by omega)
      have hk0 := SI_slt (g := g) (st := st) w1 w3 hw
      have f1 := ge_fr hW true n (upN me (gxo g i) (slt i st w)) (i + 1) st w b (l1 (by omega)) hw
      have eL : gLoc true (slt i st w) (ge g true n (upN me (gxo g i) (slt i st w)) (i + 1) st w b) S = ge g true n (upN me (gxo g i) (slt i st w)) (i + 1) st w b S := by
        unfold gLoc at a1 ⊢
        split
        · next hc =>
          rw [if_pos hc] at a1
          have := (f1 (upN (sK (ge g true n (upN me (gxo g i) (slt i st w)) (i + 1) st w b S).2) (slt i st w) (if omf (ge g true n (upN me (gxo g i) (slt i st w)) (i + 1) st w b S).1 (slt i st w) then 1 else 0), sN (ge g true n (upN me (gxo g i) (slt i st w)) (i + 1) st w b S).2, true)).2.2.1.1 rfl
          rw [this] at a1
          cases a1
        · rfl
      have hc : ¬ (true && decide (sK (ge g true n (upN me (gxo g i) (slt i st w)) (i + 1) st w b S).2 (slt i st w) = 2) && lnv (ge g true n (upN me (gxo g i) (slt i st w)) (i + 1) st w b S).1 (slt i st w)) = true := by
        intro hc
        unfold gLoc at a1
        rw [if_pos hc] at a1
        have := (f1 (upN (sK (ge g true n (upN me (gxo g i) (slt i st w)) (i + 1) st w b S).2) (slt i st w) (if omf (ge g true n (upN me (gxo g i) (slt i st w)) (i + 1) st w b S).1 (slt i st w) then 1 else 0), sN (ge g true n (upN me (gxo g i) (slt i st w)) (i + 1) st w b S).2, true)).2.2.1.1 rfl
        rw [this] at a1
        cases a1
      rw [eL] at a1 a3 ⊢
      show (ge g false n (upN me (gxo g i) (slt i st w)) (i + 1) st w b S').1 = _ ∧ _
      have kk : sK (ge g true n (upN me (gxo g i) (slt i st w)) (i + 1) st w b S).2 = sK S := (f1 S).2.2.1.2.2 a1
      rw [kk] at hc
      have hko : sK S' (slt i st w) = sK S (slt i st w) := by
        refine a3 _ hk0 ?_
        by_cases q : sK S (slt i st w) = 2
        · right
          cases r : ocf (ge g true n (upN me (gxo g i) (slt i st w)) (i + 1) st w b S).1 (slt i st w) with
          | true => rfl
          | false => exact absurd (by simp [q, lnv, r]) hc
        · exact Or.inl q
      have := (ih (upN me (gxo g i) (slt i st w)) (i + 1) st w b (l1 (by omega)) hw) S S' a1 (by
        rintro k ⟨s, rfl⟩
        by_cases es : s = gxo g i
        · simp only [upN, if_pos es]; exact hko
        · simp only [upN, if_neg es]; exact a2 _ ⟨s, rfl⟩) (a3.sub (up1 (by omega)) (fun _ q => q))
      rw [e] at this
      exact ⟨this.1, fun b1 b2 b3 b4 => this.2 b1 b2 b3 (fun q => has_sub (fun p r => by rw [e]; exact r) (b4 q))⟩
    · intro h S S' a1 a2 a3
      have e := y3 (by omega)
      have a1' : sL (ge g true n me (i + 1) st w b S).2 = false := by
        unfold gTrap at a1
        dsimp only at a1
        split at a1 <;> exact a1
      obtain ⟨o1, n1⟩ := (ih me (i + 1) st w b (l1 (by omega)) hw) S S' a1' a2 (a3.sub (up1 (by omega)) (fun _ q => q))
      rw [e] at n1
      unfold gTrap
      dsimp only
      refine ⟨by rw [o1], fun b1 b2 b3 b4 => ?_⟩
      have b1' : ∃ c, omc (ge g true n me (i + 1) st w b S).1 c = true := by
        obtain ⟨c, hc⟩ := b1
        have hc' : tps (omc (ge g true n me (i + 1) st w b S).1) c = true := hc
        unfold tps at hc'
        split at hc'
        · simp only [Bool.or_eq_true] at hc'
          exact hc'.elim (fun q => ⟨_, q⟩) (fun q => ⟨_, q⟩)
        · split at hc' <;> exact ⟨_, hc'⟩
      have en := n1 b1' b2 b3 (fun q => has_sub (fun p r => by rw [e]; exact r) (b4 q))
      rw [o1]
      split
      · show (fun p => sN (ge g false n me (i + 1) st w b S').2 p && !ghp g i p) = fun p => sN (ge g true n me (i + 1) st w b S).2 p && !ghp g i p
        rw [en]
      · exact en
    · intro h hs S S' a1 a2 a3
      refine ⟨rfl, ?_⟩
      rintro ⟨c, hc⟩ b2 b3 b4
      have hb := (oS_m hc).1
      unfold gPs
      rw [hb]
      simp only [Bool.or_true, if_true]
      show (fun q => sN S' q || ghp g i q) = fun q => sN S q || ghp g i q
      rw [b2]
    · intro _ _; exact Sm.pu
    · intro _ _; exact Sm.pu
    · intro h hs S S' a1 a2 a3
      subst hs
      have hh : gso g i = 4 ∨ gso g i = 6 ∨ gso g i = 7 := Or.inl h
      have mA := fun d => ih me (i + 1) true w d (lA hh) hw
      have mB := fun d => ih me (gsec g i) true w d (lB hh) hw
      have et : tst (sK S') (me (gxo g i)) (gng g i) = tst (sK S) (me (gxo g i)) (gng g i) := by
        unfold tst
        rw [a2 _ ⟨gxo g i, rfl⟩]
      unfold gPres at a1 a3 ⊢
      rw [et]
      by_cases t0 : tst (sK S) (me (gxo g i)) (gng g i) = 0
      · simp only [if_pos t0] at a1 a3 ⊢
        exact (mB b).sub (upB hh) (hB hh) (fun _ q => by cases q) S S' a1 a2 a3
      · simp only [if_neg t0] at a1 a3 ⊢
        by_cases t1 : tst (sK S) (me (gxo g i)) (gng g i) = 1
        · simp only [if_pos t1] at a1 a3 ⊢
          exact (mA b).sub (upA hh) (hA hh) (fun _ q => by cases q) S S' a1 a2 a3
        · simp only [if_neg t1] at a1 a3 ⊢
          have l1 : sL (ge g true n me (i + 1) true w false S).2 = false := sl_back (fr true (gsec g i) true w false (lB hh) hw _).2.2.1 a1
          have k1 : sK (ge g true n me (i + 1) true w false S).2 = sK S := (fr true (i + 1) true w false (lA hh) hw S).2.2.1.2.2 l1
          have k2 : sK (ge g false n me (i + 1) true w false S').2 = sK S' := ((fr false (i + 1) true w false (lA hh) hw S').2.2.2 rfl).1
          obtain ⟨o1, -⟩ := mA false S S' l1 a2 (a3.sub (upA hh) (fun k hk => by show (ocf _ k || _) = true; rw [hk]; rfl))
          obtain ⟨o2, -⟩ := mB false (ge g true n me (i + 1) true w false S).2 (ge g false n me (i + 1) true w false S').2 a1 (by rw [k1, k2]; exact a2) (by
            rw [k1, k2]
            exact a3.sub (upB hh) (fun k hk => by show (_ || ocf _ k) = true; rw [hk]; simp))
          refine ⟨by unfold gU; dsimp only; rw [o1, o2], ?_⟩
          rintro ⟨c, hc⟩
          have zz : ∀ c, omc (gU (ge g true n me (i + 1) true w false) (ge g true n me (gsec g i) true w false) S).1 c = false := ((oU_ok (b := false) (ok true _ _ _ _ _ _) (ok true _ _ _ _ _ _)).2.2.1 rfl).1
          rw [zz] at hc
          cases hc
    · intro h hs; subst hs
      have e := y3 (by omega)
      have := ih me (i + 1) true w b (l1 (by omega)) hw
      rw [e] at this
      exact this.sub (up1 (by omega)) (fun _ q => q) (fun _ q => by cases q)
    · intro h hs; subst hs
      have hh : gso g i = 4 ∨ gso g i = 6 ∨ gso g i = 7 := by omega
      exact Sm.and (b := b) (ih me (i + 1) true w b (lA hh) hw) (fun d => (ih me (gsec g i) true w d (lB hh) hw).sub (fun _ q => q) (fun _ q => q) (fun _ q => by cases q)) (fun S => ok true _ _ _ _ _ S) (fun d S => ok true _ _ _ _ d S) (fr true (i + 1) true w b (lA hh) hw) (fun d => fr true (gsec g i) true w d (lB hh) hw) (fr false (i + 1) true w b (lA hh) hw) (nn (i + 1) true w b (lA hh)).1 (fun _ => (nn (i + 1) true w b (lA hh)).2 (fun q => by cases q) rfl) (fun _ q => by cases q) (upA hh) (upB hh) (sp hh) (Or.inl (dj hh))
    · intro h hs; subst hs
      have hh : gso g i = 4 ∨ gso g i = 6 ∨ gso g i = 7 := by omega
      exact Sm.par (b := b) (ih me (i + 1) true w b (lA hh) hw) (ih me (gsec g i) true w b (lB hh) hw) (fr true (i + 1) true w b (lA hh) hw) (fr true (gsec g i) true w b (lB hh) hw) (fr false (i + 1) true w b (lA hh) hw) (nn (i + 1) true w b (lA hh)).1 (fun _ q => by cases q) (fun _ q => by cases q) (upA hh) (upB hh) (sp hh) (dj hh)
    · intro _ _; exact Sm.pu
    · intro h hs; subst hs
      have hh : gso g i = 4 ∨ gso g i = 6 ∨ gso g i = 7 := by omega
      exact (ih me (gsec g i) false w b (lB hh) hw).sub (upB hh) (hB hh) (fun q _ => has_or (fun p r => (sp hh p).mp r) (q rfl) h.2)
    · intro h hs; subst hs
      have hh : gso g i = 4 ∨ gso g i = 6 ∨ gso g i = 7 := by omega
      exact (ih me (i + 1) false w b (lA hh) hw).sub (upA hh) (hA hh) (fun _ _ => h.2)
    · intro h hs S S' a1 a2 a3
      subst hs
      have e := y3 (by omega)
      have hl1 := l1 (by omega)
      have mA := fun d => ih me (i + 1) false w d hl1 hw
      rw [e] at mA
      have et : tst (sK S') (me (gxo g i)) (gng g i) = tst (sK S) (me (gxo g i)) (gng g i) := by
        unfold tst
        rw [a2 _ ⟨gxo g i, rfl⟩]
      have hq : (false = false → ghas g i = true) → (false = false → ghas g (i + 1) = true) := fun q _ => has_sub (fun p r => by rw [e]; exact r) (q rfl)
      unfold gSus at a1 a3 ⊢
      rw [et]
      by_cases t0 : tst (sK S) (me (gxo g i)) (gng g i) = 0
      · simp only [if_pos t0] at a1 a3 ⊢
        have hx := (mA b).sub (up1 (by omega)) (fun _ q => q) hq S S' a1 a2 a3
        exact ⟨hx.1, fun b1 b2 b3 b4 => hx.2 b1 b2 b3 (fun _ => b4 trivial)⟩
      · simp only [if_neg t0] at a1 a3 ⊢
        by_cases t1 : tst (sK S) (me (gxo g i)) (gng g i) = 1
        · simp only [if_pos t1] at a1 a3 ⊢
          refine ⟨trivial, ?_⟩
          rintro ⟨c, hc⟩ b2 b3 b4
          have hb := (oS_m hc).1
          rw [hb]
          simp only [if_true, Bool.false_eq_true, if_false]
          show (fun p => if ghp g i p then gsel g p else sN S' p) = fun p => sN S p || (gsel g p && ghp g i p)
          funext p
          rw [b2]
          cases r : ghp g i p with
          | true => rw [b3 p r]; simp
          | false => simp
        · simp only [if_neg t1] at a1 a3 ⊢
          obtain ⟨o1, -⟩ := (mA false).sub (up1 (by omega)) (fun _ q => q) hq S S' a1 a2 (a3.sub (fun _ q => q) (fun k hk => by show (ocf _ k || _) = true; rw [hk]; rfl))
          refine ⟨by unfold gU; dsimp only; rw [o1]; rfl, ?_⟩
          rintro ⟨c, hc⟩
          have zz : ∀ c, omc (gU (ge g true n me (i + 1) false w false) (gPu (oS 1 false)) S).1 c = false := ((oU_ok (b := false) (ok true _ _ _ _ _ _) (oS_ok 1 false)).2.2.1 rfl).1
          rw [zz] at hc
          cases hc
    · intro h hs; subst hs
      have hh : gso g i = 4 ∨ gso g i = 6 ∨ gso g i = 7 := by omega
      refine Sm.and (b := b) (P2 := SI g (gsec g i) true (1 + gdep g i)) (ih me (i + 1) false w b (lA hh) hw) (fun d => (ih me (gsec g i) true (1 + gdep g i) d (lB hh) (by omega)).sub (fun _ q => q) (fun _ q => q) (fun _ q => by cases q)) (fun S => ok true _ _ _ _ _ S) (fun d S => ok true _ _ _ _ d S) (fr true (i + 1) false w b (lA hh) hw) (fun d => fr true (gsec g i) true (1 + gdep g i) d (lB hh) (by omega)) (fr false (i + 1) false w b (lA hh) hw) (nn (i + 1) false w b (lA hh)).1 (fun _ => (nn (i + 1) false w b (lA hh)).2 (fun _ => h.2) rfl) (fun _ _ => h.2) (upA hh) ?_ (sp hh) (Or.inl (dj hh))
      intro k q
      obtain ⟨a1, a2, a3, a4, a5, a6⟩ := w6 hh
      obtain ⟨q1, q2, q3, q4, q5⟩ := q
      exact ⟨q1, by omega, by omega, fun e => (by cases e), fun _ => by have := q4 rfl; omega⟩
    · intro h hs; subst hs
      have hh : gso g i = 4 ∨ gso g i = 6 ∨ gso g i = 7 := by omega
      have mBr : ∀ j, j < z → Sm (fun k => ∃ s, me s = k) (SI g j false w) (ghp g j) True (gBr g (ge g true n) me j w b) (gBr g (ge g false n) me j w b) := by
        intro j hj
        unfold gBr
        by_cases hx : ghas g j = true
        · rw [if_pos hx, if_pos hx]; exact (ih me j false w b hj hw).sub (fun _ q => q) (fun _ q => q) (fun _ _ => hx)
        · rw [if_neg hx, if_neg hx]; exact Sm.pu
      have fBr : ∀ l j, j < z → Fr l (fun k => ∃ s, me s = k) (SI g j false w) b (gBr g (ge g l n) me j w b) := by
        intro l j hj
        unfold gBr
        by_cases hx : ghas g j = true
        · rw [if_pos hx]; exact fr l j false w b hj hw
        · rw [if_neg hx]; exact Fr.pu (fun k h => by simp [ocf, oS] at h)
      have nBr : ∀ j, j < z → nFr (ghp g j) (gBr g (ge g false n) me j w b) := by
        intro j hj
        unfold gBr
        by_cases hx : ghas g j = true
        · rw [if_pos hx]; exact (nn j false w b hj).1
        · rw [if_neg hx]; exact nFr.pu
      exact Sm.par (b := b) (mBr _ (lA hh)) (mBr _ (lB hh)) (fBr true _ (lA hh)) (fBr true _ (lB hh)) (fBr false _ (lA hh)) (nBr _ (lA hh)) (fun _ => trivial) (fun _ => trivial) (upA hh) (upB hh) (sp hh) (dj hh)
    · intro h hs; subst hs
      have e := y3 (by omega)
      have hl1 := l1 (by omega)
      have mA := ih me (i + 1) false w b hl1 hw
      have mB := fun d => ih me (i + 1) true (1 + gdep g i) d hl1 (by omega)
      have n1 := nn (i + 1) false w b hl1
      rw [e] at mA mB n1
      have hq : (false = false → ghas g i = true) → (false = false → ghas g (i + 1) = true) := fun q _ => has_sub (fun p r => by rw [e]; exact r) (q rfl)
      refine Sm.and (b := b) (P2 := SI g (i + 1) true (1 + gdep g i)) mA (fun d => (mB d).sub (fun _ q => q) (fun _ q => q) (fun _ q => by cases q)) (fun S => ok true _ _ _ _ _ S) (fun d S => ok true _ _ _ _ d S) (fr true (i + 1) false w b hl1 hw) (fun d => fr true (i + 1) true (1 + gdep g i) d hl1 (by omega)) (fr false (i + 1) false w b hl1 hw) n1.1 (fun q => n1.2 (hq q) rfl) hq (up1 (by omega)) ?_ (fun p => by simp) (Or.inr (fun _ => rfl))
      intro k q
      obtain ⟨a1, a2, a3⟩ := w5 (by omega)
      obtain ⟨q1, q2, q3, q4, q5⟩ := q
      exact ⟨q1, by omega, by omega, fun e => (by cases e), fun _ => by have := q4 rfl; omega⟩
    · intro _ _; exact Sm.pu
