/-! A WHOLE PROGRAM -/
def wH (P : pT) (M : mT) (z W : Nat) : Prop := 0 < z ∧ mF M z ∧ pF P M z ∧ M.1 0 = Int32.ofNat z ∧ men M 0 = z ∧ mtr M 0 = 0 ∧ (P.1 5 = Int32.ofNat W ∧ W ≤ 360 ∧ ∀ i, i < z → pwb P i + pwt P i ≤ W) ∧ P.1 4 = Int32.ofNat (cn (fun i => decide (mso M i = 8)) z) ∧ (∀ i, i < z → m1p (mso M i) → P.2 2 i = Int32.ofNat (i + 1))
section WHOLE
variable {P : pT} {M : mT} {z L np W : Nat} {op lf : Nat → Nat}
theorem sm_le {f : Nat → Nat} : ∀ n, (∀ j, j < n → f j ≤ 2) → sm f n ≤ 2 * n := by
  intro n
  induction n with
  | zero => intro _; exact Nat.le_refl _
  | succ n ih =>
    intro h
    have a := ih (fun j hj => h j (by omega))
    have b := h n (by omega)
    show sm f n + f n ≤ _
    omega
theorem wH_of (hb : bX P M) (hw : P.1 2 = 0) : ∃ z W, wH P M z W := by
  obtain ⟨-, z, L, op, lf, np, W, ⟨⟨⟨a1, a2, a3⟩, ⟨a4, a5, a6⟩, ⟨a7, a8, a9⟩, ⟨a10, a11, a12⟩, a13⟩, hB, hN, hC, hE, hO, ⟨hP1, hP2, hP3⟩, ⟨hW1, hW2⟩, ⟨hR1, hR2, hR3⟩⟩, hst⟩ := hb
  rw [hw] at hR3
  have sl := sm_le (f := lf) L (fun j hj => (hB j hj).2.2.2.2.2.1)
  have d0 : (if z = 0 then 1 else sm lf L) = 0 := (eq0 (by split <;> omega)).mp hR3.symm
  have hz : 0 < z := by
    rcases Nat.eq_zero_or_pos z with q | q
    · rw [if_pos q] at d0; omega
    · exact q
  rw [if_neg (by omega)] at d0
  have hL : L = 0 := by
    rcases Nat.eq_zero_or_pos L with q | q
    · exact q
    · exfalso
      obtain ⟨k, rfl⟩ : ∃ k, L = k + 1 := ⟨L - 1, by omega⟩
      have h1 := hst q
      rw [show k + 1 - 1 = k from rfl] at h1
      have h2 : sm lf k + lf k = 0 := d0
      omega
  subst hL
  have hcl : ∀ i, Cl 0 op i := fun i j hj => absurd hj (Nat.not_lt_zero j)
  have cl := fun i hi => hE i hi (hcl i)
  have wle : ∀ n i, z ≤ i + n → i < z → pwb P i + pwt P i ≤ W := by
    intro n
    induction n with
    | zero => intro i h1 h2; omega
    | succ n ih =>
      intro i h1 h2
      by_cases q : i + 1 < z
      · have a := (hW1 i h2).1 q
        have b := ih (i + 1) (by omega) q
        omega
      · have a := (hW1 i h2).2 (by omega)
        omega
  have c1 : ∀ i, i < z → m1p (mso M i) → (mdp M (i + 1) = mdp M i + 1 ∧ mtr M (i + 1) = mtr M i + (if mso M i = 9 then 1 else 0) ∧ pwt P (i + 1) = pwt P i + (if mso M i = 8 then 1 else 0)) ∧ P.2 2 i = Int32.ofNat (i + 1) := fun i hi k => by
    obtain ⟨x1, x2, x3⟩ := hC i hi
    obtain ⟨y1, y2, y3, y4⟩ := (cl i hi).2.2.2.1 k
    have n2 : ¬ M.2 2 i = (-1 : Int32) := by rw [y1]; exact o_m1 (by omega)
    exact ⟨(x1.resolve_left n2).2.2, x3 n2 y2⟩
  have c2 : ∀ i, i < z → m2p (mso M i) → (mdp M (i + 1) = mdp M i + 1 ∧ mtr M (i + 1) = mtr M i ∧ pwt P (i + 1) = pwt P i) ∧ (mdp M (men M (i + 1)) = mdp M i + 1 ∧ mtr M (men M (i + 1)) = mtr M i ∧ pwt P (men M (i + 1)) = pwt P i + (if mso M i = 6 then 1 else 0)) ∧ P.2 2 i = M.2 3 i := fun i hi k => by
    obtain ⟨x1, x2, x3⟩ := hC i hi
    obtain ⟨y1, y2, y3, y4, y5⟩ := (cl i hi).2.2.2.2 k
    have le := (cl i hi).1.2.2
    have n2 : ¬ M.2 2 i = (-1 : Int32) := by rw [y1]; exact o_m1 (by omega)
    have n3 : ¬ M.2 3 i = (-1 : Int32) := by rw [y2]; exact o_m1 (by omega)
    obtain ⟨s, s1, s2, s3, s4, s5, s6, s7⟩ := x2.resolve_left n3
    have es : s = men M (i + 1) := by
      rw [y2] at s1
      exact (o_inj (by omega) (by omega) s1).symm
    subst es
    have t := (x1.resolve_left n2).2.2
    rw [if_neg (by unfold m2p at k; omega), if_neg (by unfold m2p at k; omega)] at t
    exact ⟨t, ⟨s4, s5, s6⟩, s7.trans s1.symm⟩
  have hF : mF M z := by
    refine ⟨a3, fun i hi => ?_, hP2⟩
    obtain ⟨n1, n2, ⟨n3, n4, n5, n6⟩, ⟨n7, n8⟩, n9, n10, n11, n12⟩ := hN i hi
    obtain ⟨e1, -, e3, e4, e5⟩ := cl i hi
    refine ⟨n1, e1, n2, ⟨n4, n6⟩, ⟨fun q => ⟨n7 q, by have := hP1 i hi q; omega⟩, n8⟩, n9, n10, e3, fun k => ?_, fun k => ?_, n11⟩
    · obtain ⟨y1, y2, y3, y4⟩ := e4 k
      obtain ⟨⟨u1, u2, -⟩, -⟩ := c1 i hi k
      exact ⟨y1, y2, by omega, y4, u1, u2⟩
    · obtain ⟨y1, y2, y3, y4, y5⟩ := e5 k
      obtain ⟨⟨u1, u2, -⟩, ⟨v1, v2, -⟩, -⟩ := c2 i hi k
      exact ⟨y1, y2, y3, by omega, y5, u1, v1, u2, v2⟩
  refine ⟨z, W, hz, hF, ⟨a2, fun i hi => ?_⟩, a1, (hR1 hz).2.2 rfl, (hR1 hz).1, ⟨a11, a12, fun i hi => wle z i (by omega) hi⟩, a13, fun i hi k => (c1 i hi k).2⟩
  obtain ⟨-, -, -, -, -, -, -, ⟨m1, m2, m3, m4, m5, m6, m7⟩⟩ := hN i hi
  refine ⟨⟨m1, m2, fun k => (c2 i hi k).2.2⟩, ⟨m3, m5⟩, m7, fun p hp => ?_, ⟨by have := wle z i (by omega) hi; omega, (hW1 i hi).1⟩, fun k => (c1 i hi k).1.2.2, fun k => ⟨(c2 i hi k).1.2.2, (c2 i hi k).2.1.2.2⟩⟩
  apply bool_ext
  rw [hP3 i hi p hp, mhp_iff]
  constructor
  · rintro ⟨k, k1, k2, k3, k4⟩
    exact ⟨hp, k, k2, k1, k3 (hcl i), k4⟩
  · rintro ⟨-, k, k1, k2, k3, k4⟩
    exact ⟨k, k2, k1, fun _ => k3, k4⟩
theorem wH_mW (h : wH P M z W) : mW M ∧ 0 < (M.1 0).toInt := by
  obtain ⟨hz, hF, -, hm, -⟩ := h
  have hz1 := hF.1
  have e : (M.1 0).toInt = z := by rw [hm, Int32.toInt_ofNat_of_lt (by omega)]
  refine ⟨⟨⟨by omega, by omega⟩, fun i hi => ?_⟩, by omega⟩
  obtain ⟨i1, i2⟩ := hi
  rw [e] at i2
  have ei := o_to i1
  have hk : i.toInt.toNat < z := by omega
  generalize i.toInt.toNat = k at ei hk
  subst ei
  have et : (Int32.ofNat k).toInt = k := Int32.toInt_ofNat_of_lt (by omega)
  have en := n_of (show k < 2147483648 by omega)
  obtain ⟨⟨x1, x2⟩, ⟨x3, x4, x5⟩, ⟨x6, x7⟩, ⟨x8, x9⟩, ⟨x10, x11⟩, x12, x13, x14, x15, x16, x17⟩ := hF.2.1 k hk
  have toI : ∀ n : Nat, n ≤ 200 → (Int32.ofNat n).toInt = n := fun n hn => Int32.toInt_ofNat_of_lt (by omega)
  have ix : ∀ n : Nat, n < z → mIx M (Int32.ofNat n) := fun n hn => ⟨by rw [toI n (by omega)]; omega, by rw [toI n (by omega), e]; omega⟩
  have vin : ∀ n m : Nat, n < m → n ≤ 200 → vp_in (Int32.ofNat n) m := fun n m h h2 => vp_in_iff.mpr ⟨by rw [toI n h2]; omega, by rw [toI n h2]; omega⟩
  have so : ∀ n : Nat, n ≤ 10 → (M.2 0 k = Int32.ofNat n ↔ mso M k = n) := fun n hn => by
    rw [x1]
    exact ⟨fun t => o_inj (by omega) (by omega) t, fun t => by rw [t]⟩
  have k4 : mso M k < 4 ∨ m1p (mso M k) ∨ m2p (mso M k) := by unfold m1p m2p; omega
  unfold mR
  rw [en, et]
  refine ⟨?_, ?_, ?_, ?_, fun q => ?_, fun q => ?_, fun q => ?_, fun q => ?_, ?_, fun q1 q2 q3 q4 => ?_, fun q => ?_, ?_⟩
  · rcases k4 with q | q | q
    · exact Or.inl (x14 q).2.1
    · have := x15 q
      rw [this.1]
      exact Or.inr ⟨ix _ (by omega), by rw [toI _ (by omega)]; omega⟩
    · have := x16 q
      rw [this.1]
      exact Or.inr ⟨ix _ (by omega), by rw [toI _ (by omega)]; omega⟩
  · rcases k4 with q | q | q
    · exact Or.inl (x14 q).2.2
    · exact Or.inl (x15 q).2.1
    · have := x16 q
      rw [this.2.1]
      exact Or.inr ⟨ix _ (by omega), by rw [toI _ (by omega)]; omega⟩
  · rw [x3, toI _ (by omega), e]; omega
  · by_cases q : mso M k = 1
    · have := x10 q
      rw [this.1]
      exact Or.inr (vin _ _ this.2 (by omega))
    · exact Or.inl (x11 q)
  · have := x10 ((so 1 (by omega)).mp q)
    rw [this.1]
    exact vin _ _ this.2 (by omega)
  · have := x12 (Or.inl ((so 2 (by omega)).mp q))
    rw [this.1]
    exact vin _ _ this.2.2 (by omega)
  · have := x12 (Or.inr ((so 10 (by omega)).mp q))
    rw [this.1]
    exact vin _ _ this.2.2 (by omega)
  · exact x13 (q.imp (so 4 (by omega)).mp (so 5 (by omega)).mp)
  · rw [x6, toI _ (by omega)]; omega
  · rcases k4 with q | q | q
    · exfalso
      have : mso M k = 0 ∨ mso M k = 1 ∨ mso M k = 2 ∨ mso M k = 3 := by omega
      rcases this with r | r | r | r
      · exact q1 ((so 0 (by omega)).mpr r)
      · exact q2 ((so 1 (by omega)).mpr r)
      · exact q3 ((so 2 (by omega)).mpr r)
      · exact q4 ((so 3 (by omega)).mpr r)
    · rw [(x15 q).1]; exact o_m1 (by omega)
    · rw [(x16 q).1]; exact o_m1 (by omega)
  · have : m2p (mso M k) := by
      unfold m2p
      exact q.imp (so 4 (by omega)).mp (fun r => r.imp (so 6 (by omega)).mp (so 7 (by omega)).mp)
    have t := x16 this
    rw [t.2.1]; exact o_m1 (by omega)
  · rw [x1, toI _ (by omega)]; omega
theorem wH_pW (h : wH P M z W) : pW P ∧ 0 < (P.1 1).toInt := by
  obtain ⟨hz, hF, hP, hm, -, -, -, -, h1p⟩ := h
  have hz1 := hF.1
  have e : (P.1 1).toInt = z := by rw [hP.1, Int32.toInt_ofNat_of_lt (by omega)]
  refine ⟨fun a a1 a2 a3 => ?_, by omega⟩
  rw [e] at a2 ⊢
  have ei := o_to a1
  have hk : a.toInt.toNat < z := by omega
  generalize a.toInt.toNat = k at ei hk
  subst ei
  have toI : ∀ n : Nat, n ≤ 200 → (Int32.ofNat n).toInt = n := fun n hn => Int32.toInt_ofNat_of_lt (by omega)
  have hs := (hF.2.1 k hk).1.2
  rw [sort_at hF hP hk, toI _ (by omega)] at a3
  rw [toI k (by omega)]
  obtain ⟨-, -, -, -, -, -, -, -, x15, x16, -⟩ := hF.2.1 k hk
  have k4 : m1p (mso M k) ∨ m2p (mso M k) := by unfold m1p m2p; omega
  rcases k4 with q | q
  · have t := x15 q
    have e2 : fp_secondOf P (Int32.ofNat k) = Int32.ofNat (k + 1) := by
      unfold fp_secondOf
      rw [has_at hF hP hk, if_neg (by decide), n_of (by omega)]
      exact h1p k hk q
    rw [e2, toI _ (by omega)]
    omega
  · have t := x16 q
    have e2 : fp_secondOf P (Int32.ofNat k) = Int32.ofNat (men M (k + 1)) := by
      unfold fp_secondOf
      rw [has_at hF hP hk, if_neg (by decide), n_of (by omega), (hP.2 k hk).1.2.2 q]
      exact t.2.1
    rw [e2, toI _ (by omega)]
    omega
end WHOLE
