/-! THE FORM of a whole program in the reference's arrays, and what it is in the abstract -/
theorem n_of {k : Nat} (h : k < 2147483648) : (Int32.ofNat k).toNatClampNeg = k := by
  show (Int32.ofNat k).toInt.toNat = k
  rw [Int32.toInt_ofNat_of_lt (by omega)]
  rfl
theorem o_inj {a b : Nat} (ha : a < 2147483648) (hb : b < 2147483648) (h : Int32.ofNat a = Int32.ofNat b) : a = b := by
  rw [← n_of ha, ← n_of hb, h]
theorem o_add (a : Nat) : Int32.ofNat a + (1 : Int32) = Int32.ofNat (a + 1) := (Int32.ofNat_add a 1).symm
theorem o_le {a b : Nat} (ha : a < 2147483648) (hb : b < 2147483648) : Int32.ofNat a ≤ Int32.ofNat b ↔ a ≤ b := Int32.ofNat_le_ofNat (by omega) (by omega)
theorem o_m1 {a : Nat} (ha : a < 2147483648) : ¬ Int32.ofNat a = (-1 : Int32) := fun h => by
  have := congrArg Int32.toInt h
  rw [Int32.toInt_ofNat_of_lt (by omega)] at this
  have e : (-1 : Int32).toInt = -1 := rfl
  omega
def b2i (b : Bool) : Int32 := if b then 1 else 0
theorem b2i_0 {b : Bool} : b2i b = 0 ↔ b = false := by cases b <;> decide
theorem b2i_nar (b : Bool) : vp_nar .boolean (b2i b) = b2i b := by cases b <;> rfl
def mso (M : mT) (i : Nat) : Nat := (M.2 0 i).toNatClampNeg
def men (M : mT) (i : Nat) : Nat := (M.2 4 i).toNatClampNeg
def mdp (M : mT) (i : Nat) : Nat := (M.2 5 i).toNatClampNeg
def mtr (M : mT) (i : Nat) : Nat := (M.2 6 i).toNatClampNeg
def mps (M : mT) (i : Nat) : Nat := (M.2 8 i).toNatClampNeg
def mxo (M : mT) (i : Nat) : Nat := if 0 ≤ M.2 1 i then (M.2 1 i).toNatClampNeg else ((-1 : Int32) - M.2 1 i).toNatClampNeg
def mng (M : mT) (i : Nat) : Bool := !decide (0 ≤ M.2 1 i)
def mhp (M : mT) (z i p : Nat) : Bool := decide (p < 32) && (List.range z).any (fun k => decide (i ≤ k ∧ k < men M i ∧ M.2 8 k = Int32.ofNat p))
def ysel (Y : yT) (p : Nat) : Bool := !decide (Y.2 0 p = 0)
def gOf (M : mT) (Y : yT) (z : Nat) : gP := (mso M, mxo M, mng M, fun i => (M.2 3 i).toNatClampNeg, men M, mdp M, mhp M z, ysel Y)
def m1p (s : Nat) : Prop := s = 5 ∨ s = 8 ∨ s = 9 ∨ s = 10
def m2p (s : Nat) : Prop := s = 4 ∨ s = 6 ∨ s = 7
def mFi (M : mT) (z i : Nat) : Prop :=
  (M.2 0 i = Int32.ofNat (mso M i) ∧ mso M i ≤ 10) ∧
  (M.2 4 i = Int32.ofNat (men M i) ∧ i < men M i ∧ men M i ≤ z) ∧
  (M.2 5 i = Int32.ofNat (mdp M i) ∧ mdp M i < 24) ∧
  (mtr M i ≤ 5 ∧ (mso M i = 3 → M.2 1 i = Int32.ofNat (mxo M i) ∧ mxo M i < mtr M i)) ∧
  ((mso M i = 1 → M.2 8 i = Int32.ofNat (mps M i) ∧ mps M i < 32) ∧ (mso M i ≠ 1 → M.2 8 i = (-1 : Int32))) ∧
  ((mso M i = 2 ∨ mso M i = 10) → M.2 1 i = Int32.ofNat (mxo M i) ∧ 4 ≤ mxo M i ∧ mxo M i < 16) ∧
  ((mso M i = 4 ∨ mso M i = 5) → -16 ≤ (M.2 1 i).toInt ∧ (M.2 1 i).toInt < 16) ∧
  (mso M i < 4 → men M i = i + 1 ∧ M.2 2 i = (-1 : Int32) ∧ M.2 3 i = (-1 : Int32)) ∧
  (m1p (mso M i) → M.2 2 i = Int32.ofNat (i + 1) ∧ M.2 3 i = (-1 : Int32) ∧ i + 1 < z ∧ men M (i + 1) = men M i ∧ mdp M (i + 1) = mdp M i + 1 ∧ mtr M (i + 1) = mtr M i + (if mso M i = 9 then 1 else 0)) ∧
  (m2p (mso M i) → M.2 2 i = Int32.ofNat (i + 1) ∧ M.2 3 i = Int32.ofNat (men M (i + 1)) ∧ i + 1 < men M (i + 1) ∧ men M (i + 1) < z ∧ men M (men M (i + 1)) = men M i ∧ mdp M (i + 1) = mdp M i + 1 ∧ mdp M (men M (i + 1)) = mdp M i + 1 ∧ mtr M (i + 1) = mtr M i ∧ mtr M (men M (i + 1)) = mtr M i) ∧
  (mso M i = 0 ∨ 6 ≤ mso M i ∧ mso M i ≤ 9 ∨ mso M i = 1 → mxo M i = 0)
def mF (M : mT) (z : Nat) : Prop := z ≤ 120 ∧ (∀ i, i < z → mFi M z i) ∧ (∀ i j, i < z → j < z → mso M i = 1 → mso M j = 1 → mps M i = mps M j → i = j)
section FORM
variable {M : mT} {Y : yT} {z : Nat}
theorem mxo_lt (hF : mF M z) {i : Nat} (hi : i < z) : mxo M i < 16 := by
  obtain ⟨⟨-, a⟩, -, -, ⟨t1, t2⟩, -, b1, b2, -, -, -, b3⟩ := hF.2.1 i hi
  by_cases h : mso M i = 4 ∨ mso M i = 5
  · have q := b2 h
    unfold mxo
    split
    · next h0 =>
      show (M.2 1 i).toInt.toNat < 16
      omega
    · next h0 =>
      rw [Int32.le_iff_toInt_le] at h0
      have e0 : (0 : Int32).toInt = 0 := rfl
      have e1 : ((-1 : Int32) - M.2 1 i).toInt = -1 - (M.2 1 i).toInt := by
        rw [Int32.toInt_sub, show (-1 : Int32).toInt = -1 from rfl]
        exact Int.bmod_eq_of_le (by omega) (by omega)
      show ((-1 : Int32) - M.2 1 i).toInt.toNat < 16
      omega
  · by_cases h2 : mso M i = 2 ∨ mso M i = 10
    · exact (b1 h2).2.2
    · by_cases h3 : mso M i = 3
      · have := (t2 h3).2; omega
      · have := b3 (by omega); omega
theorem gW_of (hF : mF M z) : gW (gOf M Y z) z := by
  intro i hi
  obtain ⟨⟨a1, a2⟩, ⟨e1, e2, e3⟩, ⟨d1, d2⟩, -, -, -, -, l, o, t, -⟩ := hF.2.1 i hi
  have hz := hF.1
  refine ⟨e2, e3, d2, mxo_lt hF hi, fun h => ?_, fun h => ?_⟩
  · obtain ⟨-, -, q1, q2, q3, -⟩ := o h
    exact ⟨q1, q2, q3⟩
  · obtain ⟨-, q0, q1, q2, q3, q4, q5, -⟩ := t h
    have es : gsec (gOf M Y z) i = men M (i + 1) := by
      show (M.2 3 i).toNatClampNeg = _
      rw [q0, n_of (by omega)]
    rw [es]
    exact ⟨q1, q2, rfl, q3, q4, q5⟩
theorem gT_of (hF : mF M z) : gT (gOf M Y z) z (mtr M) := by
  intro i hi
  obtain ⟨⟨a1, a2⟩, ⟨e1, e2, e3⟩, ⟨d1, d2⟩, ⟨t1, t2⟩, -, -, -, l, o, t, -⟩ := hF.2.1 i hi
  have hz := hF.1
  refine ⟨fun h => (t2 h).2, fun h => ?_, fun h => ?_, fun h => ?_⟩
  · have := (o (by unfold m1p; have : mso M i = 9 := h; omega)).2.2.2.2.2
    rw [this]; split <;> omega
  · have h' : mso M i = 5 ∨ mso M i = 8 ∨ mso M i = 10 := h
    have := (o (by unfold m1p; omega)).2.2.2.2.2
    rw [this, if_neg (by omega)]; exact Nat.le_refl _
  · obtain ⟨-, q0, q1, q2, q3, q4, q5, q6, q7⟩ := t h
    have es : gsec (gOf M Y z) i = men M (i + 1) := by
      show (M.2 3 i).toNatClampNeg = _
      rw [q0, n_of (by omega)]
    rw [es, q6, q7]
    exact ⟨Nat.le_refl _, Nat.le_refl _⟩
theorem mhp_iff {i p : Nat} : mhp M z i p = true ↔ p < 32 ∧ ∃ k, k < z ∧ i ≤ k ∧ k < men M i ∧ M.2 8 k = Int32.ofNat p := by
  simp [mhp, List.any_eq_true]
theorem m8_iff (hF : mF M z) {k p : Nat} (hk : k < z) (hp : p < 32) : M.2 8 k = Int32.ofNat p ↔ mso M k = 1 ∧ mps M k = p := by
  obtain ⟨-, -, -, -, ⟨p1, p2⟩, -⟩ := hF.2.1 k hk
  constructor
  · intro h
    by_cases e : mso M k = 1
    · refine ⟨e, ?_⟩
      have := (p1 e).1
      show (M.2 8 k).toNatClampNeg = p
      rw [h, n_of (by omega)]
    · rw [p2 e] at h
      exact absurd h.symm (o_m1 (by omega))
  · rintro ⟨e, rfl⟩
    exact (p1 e).1
theorem bool_ext {x y : Bool} (h : x = true ↔ y = true) : x = y := by cases x <;> cases y <;> simp_all
theorem gH_of (hF : mF M z) : gH (gOf M Y z) z := by
  intro i hi
  obtain ⟨⟨a1, a2⟩, ⟨e1, e2, e3⟩, ⟨d1, d2⟩, -, ⟨p1, p2⟩, -, -, l, o, t, -⟩ := hF.2.1 i hi
  have hz := hF.1
  refine ⟨a2, fun h => ?_, fun h => ?_, fun h => ?_⟩
  · have h' : mso M i = 1 := h
    refine ⟨mps M i, (p1 h').2, fun p => ?_⟩
    apply bool_ext
    show mhp M z i p = true ↔ _
    rw [mhp_iff, decide_eq_true_eq]
    have e := (l (by omega)).1
    constructor
    · rintro ⟨hp, k, k1, k2, k3, k4⟩
      have : k = i := by omega
      subst this
      exact ((m8_iff hF hi hp).mp k4).2.symm
    · rintro rfl
      exact ⟨(p1 h').2, i, hi, Nat.le_refl _, e2, (p1 h').1⟩
  · have h' : mso M i = 5 ∨ mso M i = 8 ∨ mso M i = 9 ∨ mso M i = 10 := h
    obtain ⟨-, -, q1, q2, -⟩ := o h
    funext p
    apply bool_ext
    show mhp M z (i + 1) p = true ↔ mhp M z i p = true
    rw [mhp_iff, mhp_iff, q2]
    constructor
    · rintro ⟨hp, k, k1, k2, k3, k4⟩
      exact ⟨hp, k, k1, by omega, k3, k4⟩
    · rintro ⟨hp, k, k1, k2, k3, k4⟩
      refine ⟨hp, k, k1, ?_, k3, k4⟩
      by_cases e : k = i
      · subst e
        have := ((m8_iff hF hi hp).mp k4).1
        omega
      · omega
  · have h' : mso M i = 4 ∨ mso M i = 6 ∨ mso M i = 7 := h
    obtain ⟨-, q0, q1, q2, q3, -⟩ := t h
    have es : gsec (gOf M Y z) i = men M (i + 1) := by
      show (M.2 3 i).toNatClampNeg = _
      rw [q0, n_of (by omega)]
    intro p
    rw [es]
    refine ⟨?_, ?_⟩
    · apply bool_ext
      rw [Bool.or_eq_true]
      show mhp M z i p = true ↔ mhp M z (i + 1) p = true ∨ mhp M z (men M (i + 1)) p = true
      rw [mhp_iff, mhp_iff, mhp_iff, q3]
      constructor
      · rintro ⟨hp, k, k1, k2, k3, k4⟩
        by_cases e : k = i
        · subst e
          have := ((m8_iff hF hi hp).mp k4).1
          omega
        · by_cases f : k < men M (i + 1)
          · exact Or.inl ⟨hp, k, k1, by omega, f, k4⟩
          · exact Or.inr ⟨hp, k, k1, by omega, k3, k4⟩
      · rintro (⟨hp, k, k1, k2, k3, k4⟩ | ⟨hp, k, k1, k2, k3, k4⟩)
        · have := (hF.2.1 _ q2).2.1.2.1
          exact ⟨hp, k, k1, by omega, by omega, k4⟩
        · exact ⟨hp, k, k1, by omega, k3, k4⟩
    · show mhp M z (i + 1) p = true → mhp M z (men M (i + 1)) p = true → False
      rw [mhp_iff, mhp_iff]
      rintro ⟨hp, k, k1, k2, k3, k4⟩ ⟨-, j, j1, j2, j3, j4⟩
      have x := (m8_iff hF k1 hp).mp k4
      have y := (m8_iff hF j1 hp).mp j4
      have := hF.2.2 k j k1 j1 x.1 y.1 (x.2.trans y.2.symm)
      omega
end FORM
