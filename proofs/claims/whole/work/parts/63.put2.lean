def pA1 (P : pT) (so x own : Int32) (z : Nat) (a j : Nat) : Int32 :=
  if j = z ∧ a = 0 then so else if j = z ∧ a = 1 then x else if j = z ∧ a = 2 then -1 else if j = z ∧ a = 3 then own else if j = z ∧ a = 4 then P.1 5 else if j = z ∧ a = 5 then 0 else P.2 a j
theorem att_ok {B : pT} {L t z : Nat} (hL : B.1 0 = Int32.ofNat L) (hL1 : L ≤ 24) (ht : 0 < L → B.2 7 (L - 1) = Int32.ofNat t ∧ t < z) (hz : z ≤ 120) : (fp_attach B (Int32.ofNat z)).1 = B.1 ∧ ∀ a j, (fp_attach B (Int32.ofNat z)).2 a j = if 0 < L ∧ a = 2 ∧ j = t then Int32.ofNat z else if a = 8 ∧ j + 1 = L then B.2 8 j - 1 else B.2 a j := by
  unfold fp_attach
  rw [pa_1, hL]
  by_cases q : L = 0
  · subst q
    rw [if_pos (by decide)]
    exact ⟨rfl, fun a j => by rw [if_neg (by omega), if_neg (by omega)]⟩
  · rw [if_neg (fun h => q ((le0 (by omega)).mp h)), o_sub (by omega) (by omega), n_of (by omega), (ht (by omega)).1, n_of (by have := (ht (by omega)).2; omega)]
    refine ⟨rfl, fun a j => ?_⟩
    rw [pa_at, pa_at, pa_at]
    by_cases e : a = 8 ∧ j = L - 1
    · rw [if_pos e, if_neg (by omega), if_neg (by omega), if_pos (by omega), e.2]
    · rw [if_neg e]
      by_cases f : a = 2 ∧ j = t
      · rw [if_pos f, if_pos (by omega)]
      · rw [if_neg f, if_neg (by omega), if_neg (by omega)]
theorem numL_ok {L : Nat} {op : Nat → Nat} {bit : Int32} (hL1 : L ≤ 24) : ∀ (n k : Nat) (B : pT), B.1 0 = Int32.ofNat L → (∀ j, j < L → B.2 7 j = Int32.ofNat (op j) ∧ op j < 120) → L ≤ k + n → k ≤ L → (fp_numL n B bit (Int32.ofNat k)).1 = B.1 ∧ (∀ a j, a ≠ 5 → (fp_numL n B bit (Int32.ofNat k)).2 a j = B.2 a j) ∧ ∀ j p, (xb ((fp_numL n B bit (Int32.ofNat k)).2 5 j) p = true ↔ xb (B.2 5 j) p = true ∨ ((∃ l, k ≤ l ∧ l < L ∧ op l = j) ∧ xb bit p = true)) := by
  intro n
  induction n with
  | zero =>
    intro k B hL ho h1 h2
    refine ⟨rfl, fun _ _ _ => rfl, fun j p => ⟨Or.inl, fun h => h.resolve_right ?_⟩⟩
    rintro ⟨⟨l, l1, l2, -⟩, -⟩
    omega
  | succ n ih =>
    intro k B hL ho h1 h2
    rw [fp_numL, hL]
    by_cases q : L ≤ k
    · rw [if_pos ((o_le (by omega) (by omega)).mpr q)]
      refine ⟨rfl, fun _ _ _ => rfl, fun j p => ⟨Or.inl, fun h => h.resolve_right ?_⟩⟩
      rintro ⟨⟨l, l1, l2, -⟩, -⟩
      omega
    · rw [if_neg (fun t => q ((o_le (by omega) (by omega)).mp t)), n_of (by omega), (ho k (by omega)).1, n_of (by have := (ho k (by omega)).2; omega), o_add]
      obtain ⟨a, b, c⟩ := ih (k + 1) (pa B 5 (op k) (B.2 5 (op k) ||| bit)) hL (fun j hj => by rw [pa_at, if_neg (by omega)]; exact ho j hj) (by omega) (by omega)
      refine ⟨a, fun a' j ha => ?_, fun j p => ?_⟩
      · rw [b a' j ha, pa_at, if_neg (by omega)]
      · rw [c j p, pa_at]
        by_cases e : j = op k
        · rw [if_pos ⟨rfl, e⟩, xb_or, Bool.or_eq_true]
          constructor
          · rintro ((h | h) | ⟨⟨l, l1, l2, l3⟩, h⟩)
            · exact Or.inl (by rw [e]; exact h)
            · exact Or.inr ⟨⟨k, Nat.le_refl _, by omega, e.symm⟩, h⟩
            · exact Or.inr ⟨⟨l, by omega, l2, l3⟩, h⟩
          · rintro (h | ⟨-, h⟩)
            · exact Or.inl (Or.inl (by rw [← e]; exact h))
            · exact Or.inl (Or.inr h)
        · rw [if_neg (fun h => e h.2)]
          constructor
          · rintro (h | ⟨⟨l, l1, l2, l3⟩, h⟩)
            · exact Or.inl h
            · exact Or.inr ⟨⟨l, by omega, l2, l3⟩, h⟩
          · rintro (h | ⟨⟨l, l1, l2, l3⟩, h⟩)
            · exact Or.inl h
            · refine Or.inr ⟨⟨l, ?_, l2, l3⟩, h⟩
              by_cases f : l = k
              · subst f; exact absurd l3.symm e
              · omega
/-- the class after the new statement is attached -/
def pSp (P P1 : pT) (so x own : Int32) (z L t : Nat) (op : Nat → Nat) : Prop :=
  P1.1 0 = P.1 0 ∧ P1.1 1 = Int32.ofNat (z + 1) ∧ P1.1 2 = P.1 2 + (fPARTS so.toNatClampNeg - 1) ∧ P1.1 3 = P.1 3 + (if so = 1 then 1 else 0) ∧ P1.1 4 = P.1 4 + (if so = 8 then 1 else 0) ∧ P1.1 5 = P.1 5 + own ∧
  (∀ a j, a ≠ 5 → P1.2 a j = if 0 < L ∧ a = 2 ∧ j = t then Int32.ofNat z else if a = 8 ∧ j + 1 = L then P.2 8 j - 1 else pA1 P so x own z a j) ∧
  (∀ j p, (xb (P1.2 5 j) p = true ↔ (j ≠ z ∧ xb (P.2 5 j) p = true) ∨ (so = 1 ∧ (j = z ∨ ∃ l, l < L ∧ op l = j) ∧ xb ((1 : Int32) <<< (P.1 3 &&& 31)) p = true)))
/-- the statement itself -/
def pBs (P : pT) (so x own : Int32) (z : Nat) (lc : Int32) (B : pT) : Prop := B.1 0 = P.1 0 ∧ B.1 1 = P.1 1 + 1 ∧ B.1 2 = P.1 2 + (fPARTS so.toNatClampNeg - 1) ∧ B.1 3 = P.1 3 ∧ B.1 4 = P.1 4 + lc ∧ B.1 5 = P.1 5 + own ∧ ∀ a j, B.2 a j = pA1 P so x own z a j
theorem pSp_of {P B : pT} {so x own lc : Int32} {z L t : Nat} {op : Nat → Nat} (hz : P.1 1 = Int32.ofNat z) (hz1 : z < 120) (hL : P.1 0 = Int32.ofNat L) (hL1 : L ≤ 24) (ht : 0 < L → P.2 7 (L - 1) = Int32.ofNat t ∧ t < z) (ho : ∀ j, j < L → P.2 7 j = Int32.ofNat (op j) ∧ op j < z) (hlc : lc = if so = 1 then 0 else if so = 8 then 1 else 0) (hB : pBs P so x own z lc B) : pSp P (fp_attach (if so = 1 then fp_numberPause B (Int32.ofNat z) else B) (Int32.ofNat z)) so x own z L t op := by
  obtain ⟨b0, b1, b2, b3, b4, b5, b6⟩ := hB
  have p7 : ∀ j, pA1 P so x own z 7 j = P.2 7 j := fun j => by simp [pA1]
  have p8 : ∀ j, pA1 P so x own z 8 j = P.2 8 j := fun j => by simp [pA1]
  by_cases h : so = (1 : Int32)
  · have h8 : ¬ so = (8 : Int32) := by rw [h]; decide
    rw [if_pos h] at hlc ⊢
    subst hlc
    obtain ⟨n1, n2, n3⟩ := numL_ok (op := op) (bit := (1 : Int32) <<< (B.1 3 &&& 31)) hL1 25 0 (pa (pw B 3 (B.1 3 + 1)) 5 z ((1 : Int32) <<< (B.1 3 &&& 31))) (by rw [pa_1, pw_at, if_neg (by decide), b0, hL]) (fun j hj => by rw [pa_at, if_neg (by omega), pw_2, b6, p7]; exact ⟨(ho j hj).1, by have := (ho j hj).2; omega⟩) (by omega) (by omega)
    have eN : fp_numberPause B (Int32.ofNat z) = fp_numL 25 (pa (pw B 3 (B.1 3 + 1)) 5 z ((1 : Int32) <<< (B.1 3 &&& 31))) ((1 : Int32) <<< (B.1 3 &&& 31)) (Int32.ofNat 0) := by
      unfold fp_numberPause
      rw [n_of (by omega)]; rfl
    rw [← eN] at n1 n2 n3
    generalize fp_numberPause B (Int32.ofNat z) = N at *
    have c0 : N.1 0 = Int32.ofNat L := by rw [n1, pa_1, pw_at, if_neg (by decide), b0, hL]
    have nN : ∀ a j, a ≠ 5 → N.2 a j = pA1 P so x own z a j := fun a j ha => by rw [n2 a j ha, pa_at, if_neg (fun q => ha q.1), pw_2, b6]
    obtain ⟨a1, a2⟩ := att_ok (B := N) (t := t) (z := z) c0 hL1 (fun q => by rw [n2 7 _ (by decide), pa_at, if_neg (by omega), pw_2, b6, p7]; exact ht q) (by omega)
    refine ⟨?_, ?_, ?_, ?_, ?_, ?_, fun a j ha => ?_, fun j p => ?_⟩
    · rw [a1, c0, hL]
    · rw [a1, n1, pa_1, pw_at, if_neg (by decide), b1, hz, o_add]
    · rw [a1, n1, pa_1, pw_at, if_neg (by decide), b2]
    · rw [a1, n1, pa_1, pw_at, if_pos rfl, b3, if_pos h]
    · rw [a1, n1, pa_1, pw_at, if_neg (by decide), b4, if_neg h8]
    · rw [a1, n1, pa_1, pw_at, if_neg (by decide), b5]
    · rw [a2, nN 8 _ (by decide), nN a _ ha, p8]
    · rw [a2, if_neg (by omega), if_neg (by omega), n3 j p, pa_at, b3]
      by_cases e : j = z
      · subst e
        rw [if_pos ⟨rfl, rfl⟩]
        constructor
        · rintro (q | ⟨-, q⟩)
          · exact Or.inr ⟨h, Or.inl rfl, q⟩
          · exact Or.inr ⟨h, Or.inl rfl, q⟩
        · rintro (q | ⟨-, -, q⟩)
          · exact absurd rfl q.1
          · exact Or.inl q
      · rw [if_neg (fun q => e q.2), pw_2, b6]
        have : pA1 P so x own z 5 j = P.2 5 j := by simp [pA1, e]
        rw [this]
        constructor
        · rintro (q | ⟨⟨l, -, l2, l3⟩, q⟩)
          · exact Or.inl ⟨e, q⟩
          · exact Or.inr ⟨h, Or.inr ⟨l, l2, l3⟩, q⟩
        · rintro (q | ⟨-, q1 | ⟨l, l2, l3⟩, q⟩)
          · exact Or.inl q.2
          · exact absurd q1 e
          · exact Or.inr ⟨⟨l, Nat.zero_le _, l2, l3⟩, q⟩
  · rw [if_neg h] at hlc ⊢
    subst hlc
    have c0 : B.1 0 = Int32.ofNat L := by rw [b0, hL]
    obtain ⟨a1, a2⟩ := att_ok (B := B) (t := t) (z := z) c0 hL1 (fun q => by rw [b6, p7]; exact ht q) (by omega)
    refine ⟨?_, ?_, ?_, ?_, ?_, ?_, fun a j ha => ?_, fun j p => ?_⟩
    · rw [a1, c0, hL]
    · rw [a1, b1, hz, o_add]
    · rw [a1, b2]
    · rw [a1, b3, if_neg h, Int32.add_zero]
    · rw [a1, b4]
    · rw [a1, b5]
    · rw [a2, b6, b6, p8]
    · rw [a2, if_neg (by omega), if_neg (by omega), b6]
      by_cases e : j = z
      · subst e
        have : pA1 P so x own j 5 j = 0 := by simp [pA1]
        rw [this, xb_0]
        constructor
        · intro q; cases q
        · rintro (q | q)
          · exact absurd rfl q.1
          · exact absurd q.1 h
      · have : pA1 P so x own z 5 j = P.2 5 j := by simp [pA1, e]
        rw [this]
        constructor
        · intro q; exact Or.inl ⟨e, q⟩
        · rintro (q | q)
          · exact q.2
          · exact absurd q.1 h
set_option maxHeartbeats 2000000 in
theorem add_eq {P : pT} {so x : Int32} {z L t : Nat} {op : Nat → Nat} (hz : P.1 1 = Int32.ofNat z) (hz1 : z < 120) (hL : P.1 0 = Int32.ofNat L) (hL1 : L ≤ 24) (ht : 0 < L → P.2 7 (L - 1) = Int32.ofNat t ∧ t < z) (ho : ∀ j, j < L → P.2 7 j = Int32.ofNat (op j) ∧ op j < z) : ∃ P1, fp_add P so x = (if fPARTS so.toNatClampNeg ≤ 0 then fp_closeFull P1 else fp_openUp P1 (Int32.ofNat z) (fPARTS so.toNatClampNeg)) ∧ pSp P P1 so x (fp_nextWeight P) z L t op := by
  have hn := n_of (show z < 2147483648 by omega)
  have sp := fun lc (B : pT) => pSp_of (x := x) (own := fp_nextWeight P) (lc := lc) (B := B) (so := so) hz hz1 hL hL1 ht ho
  have arr : ∀ a j, (pa (pa (pa (pa (pa (pa P 0 z so) 1 z x) 2 z (-1)) 3 z (fp_nextWeight P)) 4 z (P.1 5)) 5 z 0).2 a j = pA1 P so x (fp_nextWeight P) z a j := fun a j => by
    simp only [pa_at]
    unfold pA1
    by_cases e : j = z
    · subst e
      by_cases q0 : a = 0
      · subst q0; simp
      by_cases q1 : a = 1
      · subst q1; simp
      by_cases q2 : a = 2
      · subst q2; simp
      by_cases q3 : a = 3
      · subst q3; simp
      by_cases q4 : a = 4
      · subst q4; simp
      by_cases q5 : a = 5
      · subst q5; simp
      simp [q0, q1, q2, q3, q4, q5]
    · simp [e]
  unfold fp_add
  simp only [pa_1, hz, hn]
  by_cases h8 : so = (8 : Int32)
  · have h1 : ¬ so = (1 : Int32) := by rw [h8]; decide
    have e := sp 1 (pw (pw (pw (pw (pa (pa (pa (pa (pa (pa P 0 z so) 1 z x) 2 z (-1)) 3 z (fp_nextWeight P)) 4 z (P.1 5)) 5 z 0) 1 (Int32.ofNat z + 1)) 5 (P.1 5 + fp_nextWeight P)) 2 (P.1 2 + (fPARTS so.toNatClampNeg - 1))) 4 (P.1 4 + 1)) (by rw [if_neg h1, if_pos h8]) ⟨by simp [pw_at, pa_1], by simp [pw_at, pa_1, hz], by simp [pw_at, pa_1], by simp [pw_at, pa_1], by simp [pw_at, pa_1], by simp [pw_at, pa_1], fun a j => by simp only [pw_2]; exact arr a j⟩
    rw [if_neg h1] at e
    rw [if_pos h8, if_neg h1]
    refine ⟨_, ?_, e⟩
    split <;> simp [pw_at, pa_1]
  · rw [if_neg h8]
    have lc0 : (0 : Int32) = if so = 1 then 0 else if so = 8 then 1 else 0 := by rw [if_neg h8]; simp
    have e := sp 0 (pw (pw (pw (pa (pa (pa (pa (pa (pa P 0 z so) 1 z x) 2 z (-1)) 3 z (fp_nextWeight P)) 4 z (P.1 5)) 5 z 0) 1 (Int32.ofNat z + 1)) 5 (P.1 5 + fp_nextWeight P)) 2 (P.1 2 + (fPARTS so.toNatClampNeg - 1))) lc0 ⟨by simp [pw_at, pa_1], by simp [pw_at, pa_1, hz], by simp [pw_at, pa_1], by simp [pw_at, pa_1], by simp [pw_at, pa_1], by simp [pw_at, pa_1], fun a j => by simp only [pw_2]; exact arr a j⟩
    by_cases h1 : so = (1 : Int32)
    · rw [if_pos h1] at e
      rw [if_pos h1]
      refine ⟨_, ?_, e⟩
      split <;> simp [pw_at, pa_1]
    · rw [if_neg h1] at e
      rw [if_neg h1]
      refine ⟨_, ?_, e⟩
      split <;> simp [pw_at, pa_1]
