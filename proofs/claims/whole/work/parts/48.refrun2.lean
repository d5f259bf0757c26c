section REFL
variable {M : mT} {Y : yT} {z : Nat}
/-- the loop of 'has' -/
theorem hasL_eq (hF : mF M z) {i : Nat} (hi : i < z) : ∀ (n k : Nat), men M i ≤ k + n → k ≤ 200 → (fm_hasL n M Y (Int32.ofNat i) (Int32.ofNat k) = 0 ∨ fm_hasL n M Y (Int32.ofNat i) (Int32.ofNat k) = 1) ∧ (fm_hasL n M Y (Int32.ofNat i) (Int32.ofNat k) = 1 ↔ ∃ j, k ≤ j ∧ j < men M i ∧ mso M j = 1 ∧ ysel Y (mps M j) = true) := by
  have hz := hF.1
  obtain ⟨-, ⟨e1, e2, e3⟩, -⟩ := hF.2.1 i hi
  intro n
  induction n with
  | zero =>
    intro k hk hk2
    refine ⟨Or.inl rfl, ⟨fun h => absurd h (by show ¬ (0 : Int32) = 1; decide), ?_⟩⟩
    rintro ⟨j, j1, j2, -⟩
    omega
  | succ n ih =>
    intro k hk hk2
    have hn := n_of (k := i) (by omega)
    have hnk := n_of (k := k) (by omega)
    simp only [fm_hasL, hn, hnk, e1]
    by_cases c : Int32.ofNat (men M i) ≤ Int32.ofNat k
    · rw [if_pos c]
      rw [o_le (by omega) (by omega)] at c
      refine ⟨Or.inl rfl, ⟨fun h => absurd h (by decide), ?_⟩⟩
      rintro ⟨j, j1, j2, -⟩
      omega
    · rw [if_neg c]
      rw [o_le (by omega) (by omega)] at c
      have hkz : k < z := by omega
      obtain ⟨⟨s1, s2⟩, -, -, -, ⟨p1, p2⟩, -⟩ := hF.2.1 k hkz
      rw [o_add]
      obtain ⟨ih1, ih2⟩ := ih (k + 1) (by omega) (by omega)
      have nx : ¬ (mso M k = 1 ∧ ysel Y (mps M k) = true) → ((∃ j, k + 1 ≤ j ∧ j < men M i ∧ mso M j = 1 ∧ ysel Y (mps M j) = true) ↔ ∃ j, k ≤ j ∧ j < men M i ∧ mso M j = 1 ∧ ysel Y (mps M j) = true) := fun hno => by
        constructor
        · rintro ⟨j, j1, j2⟩; exact ⟨j, by omega, j2⟩
        · rintro ⟨j, j1, j2, j3, j4⟩
          refine ⟨j, ?_, j2, j3, j4⟩
          by_cases e : j = k
          · subst e; exact absurd ⟨j3, j4⟩ hno
          · omega
      by_cases s : mso M k = 1
      · rw [if_neg (by rw [(p1 s).1]; exact o_m1 (by have := (p1 s).2; omega))]
        by_cases y0 : Y.2 0 (M.2 8 k).toNatClampNeg = 0
        · rw [if_pos y0]
          refine ⟨ih1, ih2.trans (nx (fun q => ?_))⟩
          have := q.2
          simp only [ysel, mps, y0] at this
          exact absurd this (by decide)
        · rw [if_neg y0]
          refine ⟨Or.inr rfl, ⟨fun _ => ⟨k, Nat.le_refl _, by omega, s, ?_⟩, fun _ => rfl⟩⟩
          simp only [ysel, mps, y0]
          decide
      · rw [if_pos (p2 s)]
        exact ⟨ih1, ih2.trans (nx (fun q => s q.1))⟩
theorem has_eq (hF : mF M z) {i : Nat} (hi : i < z) : fm_has M Y (Int32.ofNat i) = b2i (ghas (gOf M Y z) i) := by
  have hz := hF.1
  obtain ⟨-, ⟨e1, e2, e3⟩, -⟩ := hF.2.1 i hi
  obtain ⟨a, b⟩ := hasL_eq (Y := Y) hF hi 121 i (by omega) (by omega)
  have key : ghas (gOf M Y z) i = true ↔ ∃ j, i ≤ j ∧ j < men M i ∧ mso M j = 1 ∧ ysel Y (mps M j) = true := by
    simp only [ghas, List.any_eq_true, Bool.and_eq_true, List.mem_range]
    constructor
    · rintro ⟨p, hp, h1, h2⟩
      obtain ⟨-, k, k1, k2, k3, k4⟩ := mhp_iff.mp h2
      have := (m8_iff hF k1 hp).mp k4
      exact ⟨k, k2, k3, this.1, by rw [this.2]; exact h1⟩
    · rintro ⟨j, j1, j2, j3, j4⟩
      obtain ⟨-, -, -, -, ⟨p1, p2⟩, -⟩ := hF.2.1 j (by omega)
      exact ⟨mps M j, (p1 j3).2, j4, mhp_iff.mpr ⟨(p1 j3).2, j, by omega, j1, j2, (p1 j3).1⟩⟩
  unfold fm_has
  cases e : ghas (gOf M Y z) i with
  | true => exact b.mpr (key.mp e)
  | false =>
    rcases a with a | a
    · exact a
    · have := key.mpr (b.mp a)
      rw [this] at e; cases e
def hpr (M : mT) (z i k p : Nat) : Bool := (List.range z).any (fun j => decide (k ≤ j ∧ j < men M i ∧ M.2 8 j = Int32.ofNat p))
theorem hpr_iff {i k p : Nat} : hpr M z i k p = true ↔ ∃ j, j < z ∧ k ≤ j ∧ j < men M i ∧ M.2 8 j = Int32.ofNat p := by
  simp [hpr, List.any_eq_true]
/-- the loops that write 'next' over a statement's pauses -/
theorem hpr_step (hF : mF M z) {i k p : Nat} (hi : i < z) (h : k < men M i) (hp : p < 32) : hpr M z i k p = (decide (M.2 8 k = Int32.ofNat p) || hpr M z i (k + 1) p) := by
  obtain ⟨-, ⟨e1, e2, e3⟩, -⟩ := hF.2.1 i hi
  apply bool_ext
  rw [Bool.or_eq_true, hpr_iff, hpr_iff, decide_eq_true_eq]
  constructor
  · rintro ⟨j, j1, j2, j3, j4⟩
    by_cases e : j = k
    · subst e; exact Or.inl j4
    · exact Or.inr ⟨j, j1, by omega, j3, j4⟩
  · rintro (q | ⟨j, j1, j2, j3, j4⟩)
    · exact ⟨k, by omega, Nat.le_refl _, h, q⟩
    · exact ⟨j, j1, by omega, j3, j4⟩
theorem hpr_end {i k p : Nat} (h : men M i ≤ k) : hpr M z i k p = false := by
  cases e : hpr M z i k p with
  | false => rfl
  | true => obtain ⟨j, j1, j2, j3, j4⟩ := hpr_iff.mp e; omega
def nLoop (V V' : vT) (h : Nat → Bool) (f : Nat → Int32) : Prop := V'.1 = V.1 ∧ (∀ a, a ≠ 0 → V'.2 a = V.2 a) ∧ ∀ p, p < 32 → V'.2 0 p = if h p then f p else V.2 0 p
theorem susL_eq (hF : mF M z) {i : Nat} (hi : i < z) {su : Int32} (hs : ¬ su = 0) : ∀ (n k : Nat) (V : vT), men M i ≤ k + n → k ≤ 200 → nLoop V (fm_susL n M Y V (Int32.ofNat i) su (Int32.ofNat k)).2 (hpr M z i k) (fun p => vp_nar .boolean (Y.2 0 p)) := by
  have hz := hF.1
  obtain ⟨-, ⟨e1, e2, e3⟩, -⟩ := hF.2.1 i hi
  intro n
  induction n with
  | zero => intro k V hk hk2; exact ⟨rfl, fun _ _ => rfl, fun p hp => by rw [hpr_end (by omega)]; rfl⟩
  | succ n ih =>
    intro k V hk hk2
    simp only [fm_susL, n_of (show i < 2147483648 by omega), n_of (show k < 2147483648 by omega), e1]
    by_cases c : Int32.ofNat (men M i) ≤ Int32.ofNat k
    · rw [if_pos c]
      rw [o_le (by omega) (by omega)] at c
      exact ⟨rfl, fun _ _ => rfl, fun p hp => by rw [hpr_end c]; rfl⟩
    · rw [if_neg c, if_neg hs]
      rw [o_le (by omega) (by omega)] at c
      have hkz : k < z := by omega
      obtain ⟨-, -, -, -, ⟨p1, p2⟩, -⟩ := hF.2.1 k hkz
      rw [o_add]
      by_cases s : mso M k = 1
      · rw [if_neg (by rw [(p1 s).1]; exact o_m1 (by have := (p1 s).2; omega))]
        obtain ⟨a1, a2, a3⟩ := ih (k + 1) (v2w V 0 ((M.2 8) k).toNatClampNeg (vp_nar .boolean ((Y.2 0) ((M.2 8) k).toNatClampNeg))) (by omega) (by omega)
        refine ⟨a1, fun a ha => (a2 a ha).trans (v2w_ne _ _ _ ha), fun p hp => ?_⟩
        rw [a3 p hp, hpr_step (k := k) hF hi (by omega) hp, v2w_at]
        have ee : (M.2 8 k = Int32.ofNat p) ↔ p = (M.2 8 k).toNatClampNeg := by
          rw [m8_iff hF hkz hp]
          exact ⟨fun q => q.2.symm, fun q => ⟨s, q.symm⟩⟩
        by_cases h1 : hpr M z i (k + 1) p = true
        · simp [h1]
        · simp only [h1, Bool.or_false, decide_eq_true_eq]
          by_cases h2 : p = (M.2 8 k).toNatClampNeg
          · rw [if_pos (ee.mpr h2), if_pos h2, if_neg (by decide), ← h2]
          · rw [if_neg (fun q => h2 (ee.mp q)), if_neg h2, if_neg (by decide)]
      · rw [if_pos (p2 s)]
        obtain ⟨a1, a2, a3⟩ := ih (k + 1) V (by omega) (by omega)
        refine ⟨a1, a2, fun p hp => ?_⟩
        rw [a3 p hp, hpr_step (k := k) hF hi (by omega) hp]
        have : decide (M.2 8 k = Int32.ofNat p) = false := by
          rw [decide_eq_false_iff_not, m8_iff hF hkz hp]
          exact fun q => s q.1
        rw [this]; rfl
theorem trpL_eq (hF : mF M z) {i : Nat} (hi : i < z) {a0 : Int32} : ∀ (n k : Nat) (V : vT), men M i ≤ k + n → k ≤ 200 → nLoop V (fm_trpL n M V (Int32.ofNat i) a0 (2 : Int32) (Int32.ofNat k)).2 (hpr M z i k) (fun _ => 0) := by
  have hz := hF.1
  obtain ⟨-, ⟨e1, e2, e3⟩, -⟩ := hF.2.1 i hi
  intro n
  induction n with
  | zero => intro k V hk hk2; exact ⟨rfl, fun _ _ => rfl, fun p hp => by rw [hpr_end (by omega)]; rfl⟩
  | succ n ih =>
    intro k V hk hk2
    simp only [fm_trpL, n_of (show i < 2147483648 by omega), n_of (show k < 2147483648 by omega), e1]
    by_cases c : Int32.ofNat (men M i) ≤ Int32.ofNat k
    · rw [if_pos c]
      rw [o_le (by omega) (by omega)] at c
      exact ⟨rfl, fun _ _ => rfl, fun p hp => by rw [hpr_end c]; rfl⟩
    · rw [if_neg c, if_pos trivial]
      rw [o_le (by omega) (by omega)] at c
      have hkz : k < z := by omega
      obtain ⟨-, -, -, -, ⟨p1, p2⟩, -⟩ := hF.2.1 k hkz
      rw [o_add]
      by_cases s : mso M k = 1
      · rw [if_neg (by rw [(p1 s).1]; exact o_m1 (by have := (p1 s).2; omega))]
        obtain ⟨a1, a2, a3⟩ := ih (k + 1) (v2w V 0 ((M.2 8) k).toNatClampNeg (vp_nar .boolean (0 : Int32))) (by omega) (by omega)
        refine ⟨a1, fun a ha => (a2 a ha).trans (v2w_ne _ _ _ ha), fun p hp => ?_⟩
        rw [a3 p hp, hpr_step (k := k) hF hi (by omega) hp, v2w_at]
        have ee : (M.2 8 k = Int32.ofNat p) ↔ p = (M.2 8 k).toNatClampNeg := by
          rw [m8_iff hF hkz hp]
          exact ⟨fun q => q.2.symm, fun q => ⟨s, q.symm⟩⟩
        by_cases h1 : hpr M z i (k + 1) p = true
        · simp [h1]
        · simp only [h1, Bool.or_false, decide_eq_true_eq]
          by_cases h2 : p = (M.2 8 k).toNatClampNeg
          · rw [if_pos (ee.mpr h2), if_pos h2, if_neg (by decide)]; rfl
          · rw [if_neg (fun q => h2 (ee.mp q)), if_neg h2, if_neg (by decide)]
      · rw [if_pos (p2 s)]
        obtain ⟨a1, a2, a3⟩ := ih (k + 1) V (by omega) (by omega)
        refine ⟨a1, a2, fun p hp => ?_⟩
        rw [a3 p hp, hpr_step (k := k) hF hi (by omega) hp]
        have : decide (M.2 8 k = Int32.ofNat p) = false := by
          rw [decide_eq_false_iff_not, m8_iff hF hkz hp]
          exact fun q => s q.1
        rw [this]; rfl
theorem trpL_no (hF : mF M z) {i : Nat} (hi : i < z) {a0 mc : Int32} (h : ¬ mc = (2 : Int32)) (n : Nat) (k : Int32) (V : vT) : (fm_trpL n M V (Int32.ofNat i) a0 mc k).2 = V := by
  cases n with
  | zero => rfl
  | succ n =>
    simp only [fm_trpL, if_neg h]
    split <;> rfl
theorem hpr_self {i p : Nat} (hp : p < 32) : hpr M z i i p = mhp M z i p := by
  simp [hpr, mhp, hp]
end REFL
