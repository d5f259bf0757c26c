/-! START: codes at the start, and the first loop that may end at once -/
section START
variable {P : pT} {M : mT} {z W : Nat}
/-- one step of the codes, in the abstract -/
def cd1 (s : Nat) (x c1 c2 : Int32) : Int32 := if s = 1 then 2 else if s = 3 then fc_ofExit x else if s = 4 then c1 ||| c2 else if s = 5 ∨ s = 10 then c1 else if s = 6 then (if (c1 &&& (1 : Int32)) = 0 then c1 else ((c1 &&& (-2 : Int32)) ||| c2)) else if s = 7 then fc_greaterOfPairs c1 c2 else if s = 8 then c1 &&& (-2 : Int32) else if s = 9 then fc_outsideTrap c1 else 1
def cB (t : Nat) (A : Nat → Bool) : Prop := ∀ c, A c = true → c < 2 + t
theorem codes_step (hF : mF M z) {i : Nat} (hi : i < z) {K : Int32 → Int32} (h1 : (m1p (mso M i) ∨ m2p (mso M i)) → ∃ A, cB (mtr M (i + 1)) A ∧ K (Int32.ofNat (i + 1)) = cE A) (h2 : m2p (mso M i) → ∃ A, cB (mtr M (men M (i + 1))) A ∧ K (Int32.ofNat (men M (i + 1))) = cE A) : fm_codes1 K M (Int32.ofNat i) = cd1 (mso M i) (M.2 1 i) (K (Int32.ofNat (i + 1))) (K (Int32.ofNat (men M (i + 1)))) ∧ ∃ A, cB (mtr M i) A ∧ fm_codes1 K M (Int32.ofNat i) = cE A := by
  have hz := hF.1
  obtain ⟨⟨x1, x2⟩, ⟨x3, x4, x5⟩, ⟨x6, x7⟩, ⟨x8, x9⟩, ⟨x10, x11⟩, x12, x13, x14, x15, x16, x17⟩ := hF.2.1 i hi
  have en := n_of (show i < 2147483648 by omega)
  unfold fm_codes1
  rw [en, x1]
  have ec1 : (1 : Int32) = cE (fun n => decide (n = 0)) := by decide
  have ec2 : (2 : Int32) = cE (fun n => decide (n = 1)) := by decide
  have b0 : cB (mtr M i) (fun n => decide (n = 0)) := fun c hc => by rw [decide_eq_true_eq] at hc; omega
  have b1 : cB (mtr M i) (fun n => decide (n = 1)) := fun c hc => by rw [decide_eq_true_eq] at hc; omega
  by_cases q : mso M i < 4
  · obtain ⟨l1, l2, l3⟩ := x14 q
    rw [l2, l3, if_pos rfl, if_pos rfl]
    have : mso M i = 0 ∨ mso M i = 1 ∨ mso M i = 2 ∨ mso M i = 3 := by omega
    rcases this with r | r | r | r
    · rw [r]; exact ⟨rfl, _, b0, ec1⟩
    · rw [r]; exact ⟨rfl, _, b1, ec2⟩
    · rw [r]; exact ⟨rfl, _, b0, ec1⟩
    · obtain ⟨y1, y2⟩ := x9 r
      rw [r]
      refine ⟨rfl, fun n => decide (n = 2 + mxo M i), fun c hc => by rw [decide_eq_true_eq] at hc; omega, ?_⟩
      have t : ∀ x, x < 5 → (4 : Int32) <<< (Int32.ofNat x &&& 31) = (1 : Int32) <<< (Int32.ofNat (2 + x) &&& 31) := by decide +kernel
      show (4 : Int32) <<< (M.2 1 i &&& 31) = _
      rw [y1, t _ (by omega), cE_one _ (by omega)]
  · have k4 : m1p (mso M i) ∨ m2p (mso M i) := by unfold m1p m2p; omega
    obtain ⟨A, a1, a2⟩ := h1 k4
    rcases k4 with k | k
    · obtain ⟨l1, l2, l3, l4, l5, l6⟩ := x15 k
      have n1 : ¬ Int32.ofNat (i + 1) = (-1 : Int32) := o_m1 (by omega)
      rw [l1, l2, if_neg n1, if_pos rfl, a2]
      unfold m1p at k
      have A7 : A 7 = true → (7 : Nat) < 2 + mtr M (i + 1) := a1 7
      rcases k with r | r | r | r
      · rw [r] at l6 ⊢
        refine ⟨rfl, A, ?_, rfl⟩
        rw [if_neg (by decide)] at l6
        rw [l6] at a1; exact a1
      · rw [r] at l6 ⊢
        rw [if_neg (by decide)] at l6
        refine ⟨rfl, _, ?_, cE_Z A⟩
        intro c hc
        rw [Bool.and_eq_true] at hc
        have := a1 c hc.2
        omega
      · rw [r] at l6 ⊢
        rw [if_pos rfl] at l6
        have h7 : A 7 = false := by
          cases e : A 7 with
          | false => rfl
          | true =>
            have := a1 7 e
            have := (hF.2.1 (i + 1) l3).2.2.2.1.1
            omega
        refine ⟨((cE_tps h7).1.trans (cE_tps h7).2.symm), _, ?_, (cE_tps h7).1⟩
        intro c hc
        unfold tps at hc
        by_cases e0 : c = 0
        · omega
        · rw [if_neg e0] at hc
          by_cases e1 : c = 1
          · omega
          · rw [if_neg e1] at hc
            have := a1 _ hc
            omega
      · rw [r] at l6 ⊢
        refine ⟨rfl, A, ?_, rfl⟩
        rw [if_neg (by decide)] at l6
        rw [l6] at a1; exact a1
    · obtain ⟨B, c1, c2⟩ := h2 k
      obtain ⟨l1, l2, l3, l4, l5, l6, l7, l8, l9⟩ := x16 k
      have n1 : ¬ Int32.ofNat (i + 1) = (-1 : Int32) := o_m1 (by omega)
      have n2 : ¬ Int32.ofNat (men M (i + 1)) = (-1 : Int32) := o_m1 (by omega)
      rw [l1, l2, if_neg n1, if_neg n2, a2, c2]
      rw [l8] at a1
      rw [l9] at c1
      have tr := (hF.2.1 i hi).2.2.2.1.1
      unfold m2p at k
      rcases k with r | r | r
      · rw [r]
        refine ⟨rfl, _, ?_, cE_or A B⟩
        intro c hc
        rw [Bool.or_eq_true] at hc
        exact hc.elim (a1 c) (c1 c)
      · rw [r]
        refine ⟨rfl, ?_⟩
        show ∃ A_1, cB (mtr M i) A_1 ∧ (if (cE A &&& (1 : Int32)) = 0 then cE A else ((cE A &&& (-2 : Int32)) ||| cE B)) = cE A_1
        by_cases e : (cE A &&& (1 : Int32)) = 0
        · rw [if_pos e]; exact ⟨A, a1, rfl⟩
        · rw [if_neg e, cE_Z, cE_or]
          refine ⟨_, ?_, rfl⟩
          intro c hc
          rw [Bool.or_eq_true, Bool.and_eq_true] at hc
          exact hc.elim (fun h => a1 c h.2) (c1 c)
      · rw [r]
        have e1 := cE_pairs (A := A) (B := B) (fun c hc => by have := a1 c hc; omega)
        refine ⟨e1.trans (cE_gp A B).symm, _, ?_, e1⟩
        intro c hc
        obtain ⟨u, v, u1, u2, u3⟩ := mxs_iff.mp hc
        have := a1 u u1
        have := c1 v u2
        omega
theorem cd1_l {s : Nat} {x a b a' b' : Int32} (h : s < 4) : cd1 s x a b = cd1 s x a' b' := by
  unfold cd1
  simp [show s ≠ 4 by omega, show ¬ (s = 5 ∨ s = 10) by omega, show s ≠ 6 by omega, show s ≠ 7 by omega, show s ≠ 8 by omega, show s ≠ 9 by omega]
theorem cd1_1 {s : Nat} {x a b b' : Int32} (h : m1p s) : cd1 s x a b = cd1 s x a b' := by
  unfold m1p at h
  unfold cd1
  simp [show s ≠ 4 by omega, show s ≠ 6 by omega, show s ≠ 7 by omega]
theorem codes_su (n : Nat) (M : mT) (i : Int32) : fm_codes (n + 1) M i = fm_codes1 (fm_codes n M) M i := by rw [fm_codes]
theorem codes_ok (hF : mF M z) : ∀ (n i : Nat), i < z → z ≤ i + n → (∃ A, cB (mtr M i) A ∧ fm_codes n M (Int32.ofNat i) = cE A) ∧ ∀ m, z ≤ i + m → fm_codes n M (Int32.ofNat i) = fm_codes m M (Int32.ofNat i) := by
  intro n
  induction n with
  | zero => intro i h1 h2; omega
  | succ n ih =>
    intro i hi hn
    obtain ⟨⟨x1, x2⟩, ⟨x3, x4, x5⟩, -, -, -, -, -, -, x15, x16, -⟩ := hF.2.1 i hi
    have l1 : (m1p (mso M i) ∨ m2p (mso M i)) → i + 1 < z := fun k => k.elim (fun k => (x15 k).2.2.1) (fun k => by have := x16 k; omega)
    have l2 : m2p (mso M i) → men M (i + 1) < z ∧ i + 1 < men M (i + 1) := fun k => by have := x16 k; omega
    obtain ⟨s1, s2⟩ := codes_step hF hi (K := fm_codes n M) (fun k => (ih (i + 1) (l1 k) (by omega)).1) (fun k => (ih _ (l2 k).1 (by have := l2 k; omega)).1)
    refine ⟨by rw [codes_su]; exact s2, fun m hm => ?_⟩
    obtain ⟨m, rfl⟩ : ∃ k, m = k + 1 := ⟨m - 1, by omega⟩
    obtain ⟨t1, -⟩ := codes_step hF hi (K := fm_codes m M) (fun k => by rw [← (ih (i + 1) (l1 k) (by omega)).2 m (by omega)]; exact (ih (i + 1) (l1 k) (by omega)).1) (fun k => by rw [← (ih _ (l2 k).1 (by have := l2 k; omega)).2 m (by have := l2 k; omega)]; exact (ih _ (l2 k).1 (by have := l2 k; omega)).1)
    rw [codes_su, codes_su, s1, t1]
    by_cases q : mso M i < 4
    · exact cd1_l q
    · have k4 : m1p (mso M i) ∨ m2p (mso M i) := by unfold m1p m2p; omega
      rw [(ih (i + 1) (l1 k4) (by omega)).2 m (by omega)]
      rcases k4 with k | k
      · exact cd1_1 k
      · rw [(ih _ (l2 k).1 (by have := l2 k; omega)).2 m (by have := l2 k; omega)]
/-- the codes of a statement's start -/
def cdS (M : mT) (i : Nat) : Int32 := fm_codes 121 M (Int32.ofNat i)
theorem cdS_eq (hF : mF M z) {i : Nat} (hi : i < z) : cdS M i = cd1 (mso M i) (M.2 1 i) (cdS M (i + 1)) (cdS M (men M (i + 1))) := by
  have hz := hF.1
  obtain ⟨⟨x1, x2⟩, ⟨x3, x4, x5⟩, -, -, -, -, -, -, x15, x16, -⟩ := hF.2.1 i hi
  have l1 : (m1p (mso M i) ∨ m2p (mso M i)) → i + 1 < z := fun k => k.elim (fun k => (x15 k).2.2.1) (fun k => by have := x16 k; omega)
  have l2 : m2p (mso M i) → men M (i + 1) < z ∧ i + 1 < men M (i + 1) := fun k => by have := x16 k; omega
  have e : cdS M i = fm_codes (121 + 1) M (Int32.ofNat i) := (codes_ok hF 121 i hi (by omega)).2 (121 + 1) (by omega)
  rw [e, codes_su]
  exact (codes_step hF hi (K := fm_codes 121 M) (fun k => (codes_ok hF 121 (i + 1) (l1 k) (by omega)).1) (fun k => (codes_ok hF 121 _ (l2 k).1 (by omega)).1)).1
theorem find_ok (hF : mF M z) (hP : pF P M z) {i : Nat} (hi : i < z) (h6 : ∀ j, i < j → j < z → P.2 6 j = cdS M j) : fp_findStartCodes P (Int32.ofNat i) = cdS M i := by
  have hz := hF.1
  rw [cdS_eq hF hi]
  obtain ⟨⟨x1, x2⟩, ⟨x3, x4, x5⟩, -, -, -, -, -, -, x15, x16, -⟩ := hF.2.1 i hi
  have l1 : (m1p (mso M i) ∨ m2p (mso M i)) → i + 1 < z := fun k => k.elim (fun k => (x15 k).2.2.1) (fun k => by have := x16 k; omega)
  have sc : ∀ j, i < j → j < z → fp_startCodesOf P (Int32.ofNat j) = cdS M j := fun j h1 h2 => by
    unfold fp_startCodesOf
    rw [has_at hF hP h2, if_neg (by decide), n_of (by omega)]
    exact h6 j h1 h2
  unfold fp_findStartCodes
  rw [sort_at hF hP hi, oper_at hF hP hi, o_add]
  by_cases q : mso M i < 4
  · have : mso M i = 0 ∨ mso M i = 1 ∨ mso M i = 2 ∨ mso M i = 3 := by omega
    rcases this with r | r | r | r <;> rw [r] <;> rfl
  · have k4 : m1p (mso M i) ∨ m2p (mso M i) := by unfold m1p m2p; omega
    rw [sc (i + 1) (by omega) (l1 k4)]
    rcases k4 with k | k
    · unfold m1p at k
      rcases k with r | r | r | r <;> rw [r] <;> rfl
    · have t := x16 k
      have es : fp_secondOf P (Int32.ofNat i) = Int32.ofNat (men M (i + 1)) := by
        unfold fp_secondOf
        rw [has_at hF hP hi, if_neg (by decide), n_of (by omega), (hP.2 i hi).1.2.2 k]
        exact t.2.1
      rw [es, sc _ (by omega) t.2.2.2.1]
      unfold m2p at k
      rcases k with r | r | r
      · rw [r]; rfl
      · rw [r]
        show fc_inSequence _ _ = (if (cdS M (i + 1) &&& (1 : Int32)) = 0 then cdS M (i + 1) else _)
        unfold fc_inSequence fc_haveZero fc_withoutZero
        by_cases e : (cdS M (i + 1) &&& (1 : Int32)) = 0
        · rw [if_pos e, if_pos rfl, if_pos e]
        · rw [if_neg e, if_neg (by decide), if_neg e]
      · rw [r]; rfl
/-- loops whose statement may end at once -/
def zL (M : mT) (i : Nat) : Bool := decide (mso M i = 8) && !decide ((cdS M (i + 1) &&& (1 : Int32)) = 0)
def lp (M : mT) (i : Nat) : Nat := cn (fun j => decide (mso M j = 8)) i
def fF (M : mT) : Nat → Nat → Int32
  | 0, _ => -1
  | d + 1, k => if zL M k then Int32.ofNat (lp M k) else fF M d (k + 1)
theorem firstL_ok (hF : mF M z) : ∀ (k n : Nat) (P : pT), k ≤ z → k < n → pF P M z → (∀ j, k ≤ j → j < z → P.2 6 j = cdS M j) → (fp_firstL n P (fF M (z - k) k) (Int32.ofNat (lp M k)) (Int32.ofNat k - 1)).1 = fF M z 0 ∧ (fp_firstL n P (fF M (z - k) k) (Int32.ofNat (lp M k)) (Int32.ofNat k - 1)).2.1 = P.1 ∧ ∀ a, a ≠ 6 → (fp_firstL n P (fF M (z - k) k) (Int32.ofNat (lp M k)) (Int32.ofNat k - 1)).2.2 a = P.2 a := by
  have hz := hF.1
  intro k
  induction k with
  | zero =>
    intro n P _ hn _ _
    obtain ⟨n, rfl⟩ : ∃ m, n = m + 1 := ⟨n - 1, by omega⟩
    rw [fp_firstL, if_pos (show Int32.ofNat 0 - 1 < 0 by decide)]
    exact ⟨rfl, rfl, fun _ _ => rfl⟩
  | succ k ih =>
    intro n P hk hn hP h6
    obtain ⟨n, rfl⟩ : ∃ m, n = m + 1 := ⟨n - 1, by omega⟩
    have e1 : Int32.ofNat (k + 1) - 1 = Int32.ofNat k := by rw [o_sub (by omega) (by omega)]; rfl
    have n0 : ¬ Int32.ofNat k < 0 := by
      rw [Int32.lt_iff_toInt_lt, Int32.toInt_ofNat_of_lt (by omega)]
      have : (0 : Int32).toInt = 0 := rfl
      omega
    have fnd := find_ok hF hP (i := k) (by omega) (fun j a b => h6 j (by omega) b)
    have hs := (hF.2.1 k (by omega)).1
    rw [fp_firstL, e1, if_neg n0, n_of (by omega), fnd]
    have hP' : pF (pa P 6 k (cdS M k)) M z := by
      refine ⟨hP.1, fun i hi => ?_⟩
      have := hP.2 i hi
      exact this
    have h6' : ∀ j, k ≤ j → j < z → (pa P 6 k (cdS M k)).2 6 j = cdS M j := fun j a b => by
      rw [pa_at]
      by_cases e : j = k
      · rw [if_pos ⟨rfl, e⟩, e]
      · rw [if_neg (fun t => e t.2)]; exact h6 j (by omega) b
    have e0 : (pa P 6 k (cdS M k)).2 0 k = Int32.ofNat (mso M k) := by
      rw [pa_at, if_neg (by omega), (hP.2 k (by omega)).1.1]; exact hs.1
    have hm1 : ∀ m : Nat, Int32.ofNat (m + 1) + (-1 : Int32) = Int32.ofNat m := fun m => by
      rw [← o_add, Int32.add_assoc]
      show _ + (0 : Int32) = _
      rw [Int32.add_zero]
    have ek : Int32.ofNat k + (-1 : Int32) = Int32.ofNat k - 1 := by rw [Int32.sub_eq_add_neg]
    have dz : z - k = (z - (k + 1)) + 1 := by omega
    have keep := ih n (pa P 6 k (cdS M k)) (by omega) (by omega) hP' h6'
    have fin : ∀ R : Int32 × pT, (R.1 = fF M z 0 ∧ R.2.1 = (pa P 6 k (cdS M k)).1 ∧ ∀ a, a ≠ 6 → R.2.2 a = (pa P 6 k (cdS M k)).2 a) → R.1 = fF M z 0 ∧ R.2.1 = P.1 ∧ ∀ a, a ≠ 6 → R.2.2 a = P.2 a := fun R h => ⟨h.1, h.2.1, fun a ha => (h.2.2 a ha).trans (by funext j; rw [pa_at, if_neg (fun t => ha t.1)])⟩
    rw [e0, ek]
    by_cases q : mso M k = 8
    · have q' : Int32.ofNat (mso M k) = (8 : Int32) := by rw [q]; rfl
      have l8 : lp M (k + 1) = lp M k + 1 := by
        show cn _ k + (decide (mso M k = 8)).toNat = _
        rw [q]; rfl
      have k1z := ((hF.2.1 k (by omega)).2.2.2.2.2.2.2.2.1 (by unfold m1p; omega)).2.2.1
      have sc : fp_startCodesOf (pa P 6 k (cdS M k)) (Int32.ofNat (k + 1)) = cdS M (k + 1) := by
        unfold fp_startCodesOf
        rw [has_at hF hP' k1z, if_neg (by decide), n_of (by omega)]
        exact h6' _ (by omega) k1z
      rw [if_pos q', o_add, sc, l8, hm1]
      have eF : fF M (z - k) k = if zL M k then Int32.ofNat (lp M k) else fF M (z - (k + 1)) (k + 1) := by rw [dz]; rfl
      rw [eF] at keep
      unfold fc_haveZero
      by_cases c : (cdS M (k + 1) &&& (1 : Int32)) = 0
      · have zf : zL M k = false := by unfold zL; simp [c]
        rw [zf, if_neg (by decide)] at keep
        rw [if_pos c, if_pos rfl]
        exact fin _ keep
      · have zf : zL M k = true := by unfold zL; simp [c, q]
        rw [zf, if_pos rfl] at keep
        rw [if_neg c, if_neg (by decide)]
        exact fin _ keep
    · have q' : ¬ Int32.ofNat (mso M k) = (8 : Int32) := fun t => q (o_inj (b := 8) (by omega) (by omega) t)
      have l8 : lp M (k + 1) = lp M k := by
        show cn _ k + (decide (mso M k = 8)).toNat = _
        simp [q]; rfl
      have zf : zL M k = false := by unfold zL; simp [q]
      have eF : fF M (z - k) k = fF M (z - (k + 1)) (k + 1) := by rw [dz]; show (if zL M k then _ else _) = _; rw [zf, if_neg (by decide)]
      rw [eF] at keep
      rw [if_neg q', l8]
      exact fin _ keep
theorem startL_ok (hF : mF M z) (hm : M.1 0 = Int32.ofNat z) (T : Int32) (Y : yT) : ∀ (n k : Nat), z < k + n → k ≤ z → (fF M (z - k) k = -1 ∧ fm_startL n T M Y (Int32.ofNat (lp M k)) (Int32.ofNat k) = (0, T, y1w (y1w Y 0 1) 2 1)) ∨ (∃ l, l ≤ 120 ∧ fF M (z - k) k = Int32.ofNat l ∧ fm_startL n T M Y (Int32.ofNat (lp M k)) (Int32.ofNat k) = (Int32.ofNat l + 1, T, Y)) := by
  have hz := hF.1
  intro n
  induction n with
  | zero => intro k h1 h2; omega
  | succ n ih =>
    intro k h1 h2
    rw [fm_startL, hm]
    by_cases q : z ≤ k
    · left
      rw [if_pos ((o_le (by omega) (by omega)).mpr q), show z - k = 0 by omega]
      exact ⟨rfl, rfl⟩
    · have dz : z - k = (z - (k + 1)) + 1 := by omega
      have hs := (hF.2.1 k (by omega)).1
      have eF : fF M (z - k) k = if zL M k then Int32.ofNat (lp M k) else fF M (z - (k + 1)) (k + 1) := by rw [dz]; rfl
      rw [if_neg (fun t => q ((o_le (by omega) (by omega)).mp t)), n_of (by omega), hs.1, o_add, o_add, eF]
      by_cases r : mso M k = 8
      · have r' : Int32.ofNat (mso M k) = (8 : Int32) := by rw [r]; rfl
        have l8 : lp M (k + 1) = lp M k + 1 := by
          show cn _ k + (decide (mso M k = 8)).toNat = _
          rw [r]; rfl
        have o := (hF.2.1 k (by omega)).2.2.2.2.2.2.2.2.1 (by unfold m1p; omega)
        have co := (codes_ok hF 121 (k + 1) o.2.2.1 (by omega)).1
        rw [if_pos r', o.1]
        obtain ⟨A, -, eA⟩ := co
        have e1 : (fm_codes 121 M (Int32.ofNat (k + 1)) &&& (1 : Int32)) = b2i (A 0) := by
          rw [eA]
          cases e : A 0 with
          | false => exact (cE_bit0 A).mpr e
          | true =>
            apply xb_ext
            intro j hj
            have h1 : ∀ j, j < 32 → xb (1 : Int32) j = decide (j = 0) := by decide +kernel
            show _ = xb (1 : Int32) j
            rw [xb_and, h1 j hj, cE_b A hj]
            by_cases f : j = 0
            · subst f; simp [e]
            · simp [f]
        have e2 : zL M k = A 0 := by
          unfold zL cdS
          rw [e1, r]
          cases A 0 <;> rfl
        rw [e1, e2]
        cases e : A 0 with
        | true =>
          right
          rw [if_pos (show b2i true = (1 : Int32) from rfl), if_pos rfl, ← o_add]
          refine ⟨lp M k, ?_, rfl, rfl⟩
          have := cn_n (fun j => decide (mso M j = 8)) k
          unfold lp
          omega
        | false =>
          rw [if_neg (show ¬ b2i false = (1 : Int32) by decide), if_neg (by decide), ← l8]
          exact ih (k + 1) (by omega) (by omega)
      · have r' : ¬ Int32.ofNat (mso M k) = (8 : Int32) := fun t => r (o_inj (b := 8) (by omega) (by omega) t)
        have l8 : lp M (k + 1) = lp M k := by
          show cn _ k + (decide (mso M k = 8)).toNat = _
          simp [r]; rfl
        have zf : zL M k = false := by unfold zL; simp [r]
        rw [if_neg r', zf, if_neg (by decide), ← l8]
        exact ih (k + 1) (by omega) (by omega)
end START
