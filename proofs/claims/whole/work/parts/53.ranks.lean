/-! RANKS: the class's runs of a statement are the reference's ways -/
def pwt (P : pT) (i : Nat) : Nat := (P.2 3 i).toNatClampNeg
def pwb (P : pT) (i : Nat) : Nat := (P.2 4 i).toNatClampNeg
def pFi (P : pT) (M : mT) (z i : Nat) : Prop :=
  (P.2 0 i = M.2 0 i ∧ P.2 1 i = M.2 1 i ∧ (m2p (mso M i) → P.2 2 i = M.2 3 i)) ∧
  (P.2 3 i = Int32.ofNat (pwt P i) ∧ 1 ≤ pwt P i) ∧ P.2 4 i = Int32.ofNat (pwb P i) ∧
  (∀ p, p < 32 → xb (P.2 5 i) p = mhp M z i p) ∧
  (pwb P i + pwt P i ≤ 360 ∧ (i + 1 < z → pwb P (i + 1) = pwb P i + pwt P i)) ∧
  (m1p (mso M i) → pwt P (i + 1) = pwt P i + (if mso M i = 8 then 1 else 0)) ∧
  (m2p (mso M i) → pwt P (i + 1) = pwt P i ∧ pwt P (men M (i + 1)) = pwt P i + (if mso M i = 6 then 1 else 0))
def pF (P : pT) (M : mT) (z : Nat) : Prop := P.1 1 = Int32.ofNat z ∧ ∀ i, i < z → pFi P M z i
def vl (M : mT) (i a : Nat) : Prop := a < i ∧ i < men M a ∧ (mso M a = 8 ∨ (mso M a = 6 ∧ men M (a + 1) ≤ i))
def vr (P : pT) (M : mT) (bg : Bool) (i r : Nat) (st : Bool) (w : Nat) : Prop := (r = 0 ∧ st = bg ∧ w = 0) ∨ (st = true ∧ ∃ a, vl M i a ∧ r = pwt P a ∧ w = 1 + mdp M a)
section RANK
variable {P : pT} {M : mT} {z : Nat} {bg : Bool}
theorem lam (hF : mF M z) (hP : pF P M z) : ∀ (n a a' : Nat), z ≤ a + n → a < z → a ≤ a' → a' < men M a → men M a' ≤ men M a ∧ (a < a' → mdp M a < mdp M a' ∧ pwt P a ≤ pwt P a' ∧ ((mso M a = 8 ∨ (mso M a = 6 ∧ men M (a + 1) ≤ a')) → pwt P a + 1 ≤ pwt P a')) := by
  intro n
  induction n with
  | zero => intro a a' h1 h2; omega
  | succ n ih =>
    intro a a' h1 h2 h3 h4
    by_cases e : a' = a
    · subst e
      exact ⟨Nat.le_refl _, fun h => by omega⟩
    obtain ⟨⟨-, s2⟩, ⟨-, e2, e3⟩, -, -, -, -, -, l1, o1, w2, -⟩ := hF.2.1 a h2
    obtain ⟨-, -, -, -, -, q1, q2⟩ := hP.2 a h2
    by_cases k : mso M a < 4
    · have := (l1 k).1; omega
    by_cases k1 : m1p (mso M a)
    · obtain ⟨-, -, b1, b2, b3, -⟩ := o1 k1
      have c := q1 k1
      obtain ⟨d1, d2⟩ := ih (a + 1) a' (by omega) b1 (by omega) (by omega)
      refine ⟨by omega, fun _ => ?_⟩
      by_cases e' : a + 1 = a'
      · subst e'
        refine ⟨by omega, by omega, fun h => ?_⟩
        rcases h with h | h
        · rw [if_pos h] at c; omega
        · unfold m1p at k1; omega
      · obtain ⟨d3, d4, -⟩ := d2 (by omega)
        refine ⟨by omega, by omega, fun h => ?_⟩
        rcases h with h | h
        · rw [if_pos h] at c; omega
        · unfold m1p at k1; omega
    · have k2 : m2p (mso M a) := by unfold m1p at k1; unfold m2p; omega
      obtain ⟨-, -, b1, b2, b3, b4, b5, -⟩ := w2 k2
      obtain ⟨c1, c2⟩ := q2 k2
      have b6 := (hF.2.1 _ b2).2.1
      by_cases f : a' < men M (a + 1)
      · obtain ⟨d1, d2⟩ := ih (a + 1) a' (by omega) (by omega) (by omega) (by omega)
        refine ⟨by omega, fun _ => ?_⟩
        have no : ¬ (mso M a = 8 ∨ (mso M a = 6 ∧ men M (a + 1) ≤ a')) := by unfold m2p at k2; omega
        by_cases e' : a + 1 = a'
        · subst e'
          exact ⟨by omega, by omega, fun h => absurd h no⟩
        · obtain ⟨d3, d4, -⟩ := d2 (by omega)
          exact ⟨by omega, by omega, fun h => absurd h no⟩
      · obtain ⟨d1, d2⟩ := ih (men M (a + 1)) a' (by omega) (by omega) (by omega) (by omega)
        refine ⟨by omega, fun _ => ?_⟩
        by_cases e' : men M (a + 1) = a'
        · rw [e'] at c2 b5
          refine ⟨by omega, by omega, fun h => ?_⟩
          rcases h with h | h
          · unfold m2p at k2; omega
          · rw [if_pos h.1] at c2; omega
        · obtain ⟨d3, d4, -⟩ := d2 (by omega)
          refine ⟨by omega, by omega, fun h => ?_⟩
          rcases h with h | h
          · unfold m2p at k2; omega
          · rw [if_pos h.1] at c2; omega
theorem vl_lt (hF : mF M z) (hP : pF P M z) {i a : Nat} (hi : i < z) (h : vl M i a) : pwt P a < pwt P i ∧ mdp M a < 24 ∧ men M i ≤ men M a ∧ 1 ≤ pwt P a := by
  obtain ⟨h1, h2, h3⟩ := h
  have := lam hF hP z a i (by omega) (by omega) (by omega) h2
  have t := this.2 h1
  exact ⟨by have := t.2.2 h3; omega, (hF.2.1 a (by omega)).2.2.1.2, this.1, (hP.2 a (by omega)).2.1.2⟩
theorem vl_nest (hF : mF M z) (hP : pF P M z) {i a a' : Nat} (hi : i < z) (h : vl M i a) (h' : vl M i a') (hl : a < a') : pwt P a < pwt P a' ∧ mdp M a < mdp M a' := by
  obtain ⟨h1, h2, h3⟩ := h
  obtain ⟨k1, k2, k3⟩ := h'
  obtain ⟨t1, t2⟩ := lam hF hP z a a' (by omega) (by omega) (by omega) (by omega)
  obtain ⟨t3, t4, t5⟩ := t2 hl
  refine ⟨?_, t3⟩
  refine t5 (h3.imp id (fun q => ⟨q.1, ?_⟩))
  by_cases f : men M (a + 1) ≤ a'
  · exact f
  · have k : m2p (mso M a) := by unfold m2p; omega
    have b := (hF.2.1 a (by omega)).2.2.2.2.2.2.2.2.2.1 k
    obtain ⟨u1, -⟩ := lam hF hP z (a + 1) a' (by omega) (by omega) (by omega) (by omega)
    omega
theorem vr_lt (hF : mF M z) (hP : pF P M z) {i r w : Nat} {st : Bool} (hi : i < z) (h : vr P M bg i r st w) : r < pwt P i ∧ w < 25 := by
  rcases h with ⟨h1, -, h3⟩ | ⟨-, a, h1, h2, h3⟩
  · have := (hP.2 i hi).2.1.2; omega
  · have := vl_lt hF hP hi h1; omega
theorem vr_inj (hF : mF M z) (hP : pF P M z) {i r w r' w' : Nat} {st st' : Bool} (hi : i < z) (h : vr P M bg i r st w) (h' : vr P M bg i r' st' w') : r = r' ↔ slt i st w = slt i st' w' := by
  rcases h with ⟨h1, h2, h3⟩ | ⟨h0, a, h1, h2, h3⟩ <;> rcases h' with ⟨k1, k2, k3⟩ | ⟨k0, a', k1, k2, k3⟩
  · subst h1 h2 h3 k1 k2 k3; simp
  · have := vl_lt hF hP hi k1
    subst k0
    subst h2
    unfold slt
    rw [if_pos rfl]
    constructor
    · intro e; omega
    · intro e; split at e <;> omega
  · have := vl_lt hF hP hi h1
    subst h0
    subst k2
    unfold slt
    rw [if_pos rfl]
    constructor
    · intro e; omega
    · intro e; split at e <;> omega
  · subst h0 k0
    unfold slt
    rw [if_pos rfl, if_pos rfl]
    by_cases e : a = a'
    · subst e; constructor <;> omega
    · by_cases f : a < a'
      · have := vl_nest hF hP hi h1 k1 f; constructor <;> omega
      · have := vl_nest hF hP hi k1 h1 (by omega); constructor <;> omega
theorem pwb_mono (hP : pF P M z) : ∀ (j i : Nat), i < j → j < z → pwb P i + pwt P i ≤ pwb P j := by
  intro j
  induction j with
  | zero => intro i h; omega
  | succ j ih =>
    intro i h hj
    have e := (hP.2 j (by omega)).2.2.2.2.1.2 hj
    by_cases q : i = j
    · subst q; omega
    · have := ih i (by omega) (by omega); omega
theorem vs_inj (hF : mF M z) (hP : pF P M z) {i j r w r' w' : Nat} {st st' : Bool} (hi : i < z) (hj : j < z) (h : vr P M bg i r st w) (h' : vr P M bg j r' st' w') : pwb P i + r = pwb P j + r' ↔ slt i st w = slt j st' w' := by
  by_cases e : i = j
  · subst e
    rw [← vr_inj hF hP hi h h']; omega
  · have a := vr_lt hF hP hi h
    have b := vr_lt hF hP hj h'
    have n2 : slt i st w ≠ slt j st' w' := by unfold slt; split <;> split <;> omega
    constructor
    · intro q
      rcases Nat.lt_or_gt_of_ne e with f | f
      · have := pwb_mono hP j i f hj; omega
      · have := pwb_mono hP i j f hi; omega
    · intro q; exact absurd q n2
theorem vr_child (hF : mF M z) (hP : pF P M z) {i j r w : Nat} {st : Bool} (hi : i < z) (hij : i < j) (hj : j < men M i) (h : vr P M bg i r st w) : vr P M bg j r st w := by
  rcases h with h | ⟨h0, a, h1, h2, h3⟩
  · exact Or.inl h
  · have := vl_lt hF hP hi h1
    obtain ⟨k1, k2, k3⟩ := h1
    exact Or.inr ⟨h0, a, ⟨by omega, by omega, k3.imp id (fun q => ⟨q.1, by omega⟩)⟩, h2, h3⟩
end RANK
section CUT
variable {g : gP} {z : Nat} {lrn : Bool}
theorem ge1_me {R : gR} {me me' : Nat → Nat} {i : Nat} (e0 : me (gxo g i) = me' (gxo g i)) (eU : gso g i = 10 → ∀ st w b, R (upN me (gxo g i) (slt i st w)) (i + 1) st w b = R (upN me' (gxo g i) (slt i st w)) (i + 1) st w b) (e1 : (gso g i = 4 ∨ gso g i = 6 ∨ gso g i = 7 ∨ gso g i = 5 ∨ gso g i = 8 ∨ gso g i = 9) → ∀ st w b, R me (i + 1) st w b = R me' (i + 1) st w b) (e2 : (gso g i = 4 ∨ gso g i = 6 ∨ gso g i = 7) → ∀ st w b, R me (gsec g i) st w b = R me' (gsec g i) st w b) (st : Bool) (w : Nat) (b : Bool) : ge1 g lrn R me i st w b = ge1 g lrn R me' i st w b := by
  unfold ge1
  by_cases h10 : gso g i = 10
  · rw [if_pos h10, if_pos h10, eU h10]
  rw [if_neg h10, if_neg h10]
  by_cases h9 : gso g i = 9
  · rw [if_pos h9, if_pos h9, e1 (by omega)]
  rw [if_neg h9, if_neg h9, e0]
  by_cases h4 : gso g i = 4
  · simp [h4, e1 (by omega), e2 (by omega)]
  by_cases h5 : gso g i = 5
  · simp [h5, e1 (by omega)]
  by_cases h6 : gso g i = 6
  · simp [h6, e1 (by omega), e2 (by omega)]
  by_cases h7 : gso g i = 7
  · simp [h7, gBr, e1 (by omega), e2 (by omega)]
  by_cases h8 : gso g i = 8
  · simp [h8, e1 (by omega)]
  simp only [if_neg h4, if_neg h5, if_neg h6, if_neg h7, if_neg h8]
theorem ge_cut (hW : gW g z) : ∀ (n : Nat) (me me' : Nat → Nat) (i : Nat), i < z → (∀ s, s < 16 → me s = me' s) → ∀ (st : Bool) (w : Nat) (b : Bool), ge g lrn n me i st w b = ge g lrn n me' i st w b := by
  intro n
  induction n with
  | zero => intro me me' i hi h st w b; rfl
  | succ n ih =>
    intro me me' i hi h st w b
    obtain ⟨w1, w2, w3, w4, w5, w6⟩ := hW i hi
    refine ge1_me (h _ w4) (fun q st w b => ih _ _ _ (w5 (by omega)).1 (fun s hs => ?_) st w b) (fun q st w b => ih _ _ _ ?_ h st w b) (fun q st w b => ih _ _ _ (w6 q).2.1 h st w b) st w b
    · unfold upN; split
      · rfl
      · exact h s hs
    · by_cases k : gso g i = 4 ∨ gso g i = 6 ∨ gso g i = 7
      · have := w6 k; omega
      · exact (w5 (by omega)).1
theorem ge_em (hW : gW g z) {n : Nat} {me : Nat → Nat} {i : Nat} {st : Bool} {w : Nat} {b : Bool} (hi : i < z) (hw : w < 26) : Fr lrn (fun k => ∃ s, s < 16 ∧ me s = k) (SI g i st w) b (ge g lrn n me i st w b) := by
  have e := ge_cut (lrn := lrn) hW n me (fun s => me (min s 15)) i hi (fun s hs => by rw [show min s 15 = s by omega]) st w b
  rw [e]
  intro S
  obtain ⟨a, b, c⟩ := ge_fr hW lrn n (fun s => me (min s 15)) i st w b hi hw S
  refine ⟨fun k hk => (a k hk).imp (fun ⟨s, hs⟩ => ⟨min s 15, by omega, hs⟩) id, b, c⟩
end CUT
