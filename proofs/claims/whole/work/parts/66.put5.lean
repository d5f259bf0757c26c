section PUT5
variable {P : pT} {M : mT} {z L np W : Nat} {op lf : Nat → Nat}
theorem closeL_ok (so : Int32) : ∀ (L n m : Nat) (P : pT) (M : mT), bI P M z L op lf np W → L ≤ n → L ≤ m → ∃ L', bI (fp_closeL n P) (fm_putL m M so) z L' op lf np W ∧ (0 < L' → 0 < lf (L' - 1)) ∧ (fm_putL m M so).1 3 = M.1 3 ∧ (fp_closeL n P).1 2 = P.1 2 := by
  intro L
  induction L with
  | zero =>
    intro n m P M h _ _
    have p0 := h.1.2.1.2.1
    have m0 := h.1.2.1.1
    have e1 : fp_closeL n P = P := by
      cases n with
      | zero => rfl
      | succ n => rw [fp_closeL, p0, if_pos (by decide)]
    have e2 : fm_putL m M so = M := by
      cases m with
      | zero => rfl
      | succ m => rw [fm_putL, m0, if_pos (by decide)]
    rw [e1, e2]
    exact ⟨0, h, fun q => absurd q (Nat.lt_irrefl 0), rfl, rfl⟩
  | succ L ih =>
    intro n m P M h hn hm
    obtain ⟨n, rfl⟩ : ∃ k, n = k + 1 := ⟨n - 1, by omega⟩
    obtain ⟨m, rfl⟩ : ∃ k, m = k + 1 := ⟨m - 1, by omega⟩
    have p0 := h.1.2.1.2.1
    have m0 := h.1.2.1.1
    have hL := h.1.2.1.2.2
    have mz := h.1.1.1
    have hz := h.1.1.2.2
    obtain ⟨b1, b2, b3, b4, b5, b6, b7⟩ := h.2.1 L (by omega)
    rw [fp_closeL, fm_putL, p0, m0, o_sub (by omega) (by omega), show L + 1 - 1 = L from rfl, n_of (show L < 2147483648 by omega), b4, b5, if_neg (fun q => absurd ((le0 (by omega)).mp q) (by omega)), if_neg (fun q => absurd ((le0 (by omega)).mp q) (by omega))]
    by_cases q : lf L = 0
    · rw [if_pos ((eq0 (by omega)).mpr q), if_pos ((eq0 (by omega)).mpr q)]
      have e9 : (m1w M 4 (Int32.ofNat L)).2 9 ((m1w M 4 (Int32.ofNat L)).1 4).toNatClampNeg = Int32.ofNat (op L) := by
        rw [m1w_2, m1w_at, if_pos rfl, n_of (by omega), b1]
      have e0 : (m1w M 4 (Int32.ofNat L)).1 0 = Int32.ofNat z := by rw [m1w_at, if_neg (by decide), mz]
      rw [e9, e0, n_of (by omega)]
      obtain ⟨L', c1, c2, c3, c4⟩ := ih n m (pw P 0 (Int32.ofNat L)) (m2w (m1w M 4 (Int32.ofNat L)) 4 (op L) (Int32.ofNat z)) (h.pop q (fun k hk => by rw [pw_at, if_neg hk]) (by rw [pw_at, if_pos rfl]) (fun _ _ _ => rfl) (fun _ _ => ⟨rfl, rfl⟩) (fun k hk => by rw [m2w_1, m1w_at, if_neg hk]) (by rw [m2w_1, m1w_at, if_pos rfl]) (fun a j => by rw [m2w_at, m1w_2])) (by omega) (by omega)
      refine ⟨L', c1, c2, c3.trans ?_, c4.trans ?_⟩
      · rw [m2w_1, m1w_at, if_neg (by decide)]
      · rw [pw_at, if_neg (by decide)]
    · rw [if_neg (fun t => q ((eq0 (by omega)).mp t)), if_neg (fun t => q ((eq0 (by omega)).mp t))]
      exact ⟨L + 1, h, fun _ => Nat.pos_of_ne_zero q, rfl, rfl⟩
theorem bsort (h : bI P M z L op lf np W) {i : Nat} (hi : i < z) : fp_has P (Int32.ofNat i) = 1 ∧ fp_sortOf P (Int32.ofNat i) = Int32.ofNat (mso M i) ∧ fp_weightOf P (Int32.ofNat i) = Int32.ofNat (pwt P i) := by
  have hz := h.1.1.2.2
  have n := h.2.2.1 i hi
  have e1 : fp_has P (Int32.ofNat i) = 1 := by
    unfold fp_has
    have e1 : ¬ Int32.ofNat i < 0 := by
      rw [Int32.lt_iff_toInt_lt, Int32.toInt_ofNat_of_lt (by omega)]
      have : (0 : Int32).toInt = 0 := rfl
      omega
    have e2 : ¬ P.1 1 ≤ Int32.ofNat i := fun q => by
      rw [h.1.1.2.1] at q
      have := (o_le (by omega) (by omega)).mp q
      omega
    rw [if_neg e1, if_neg e2]
  refine ⟨e1, ?_, ?_⟩
  · unfold fp_sortOf
    rw [e1, if_neg (by decide), n_of (by omega), n.2.2.2.2.2.2.2.1]
    exact n.1.1
  · unfold fp_weightOf
    rw [e1, if_neg (by decide), n_of (by omega)]
    exact n.2.2.2.2.2.2.2.2.2.1
theorem trapsL_ok (h : bI P M z L op lf np W) : ∀ (n k : Nat), L < k + n → k ≤ L → fp_trapsL n P (Int32.ofNat (cn (fun l => decide (mso M (op l) = 9)) k)) (Int32.ofNat k) = Int32.ofNat (cn (fun l => decide (mso M (op l) = 9)) L) := by
  have hL := h.1.2.1.2.2
  intro n
  induction n with
  | zero => intro k h1 h2; omega
  | succ n ih =>
    intro k h1 h2
    rw [fp_trapsL, h.1.2.1.2.1]
    by_cases q : L ≤ k
    · rw [if_pos ((o_le (by omega) (by omega)).mpr q), show k = L by omega]
    · obtain ⟨b1, b2, b3, -⟩ := h.2.1 k (by omega)
      have hs := (h.2.2.1 _ b3).1.2
      rw [if_neg (fun t => q ((o_le (by omega) (by omega)).mp t)), n_of (by omega), b2, (bsort h b3).2.1, o_add, o_add]
      by_cases e : mso M (op k) = 9
      · rw [if_pos (by rw [e]; rfl)]
        have : cn (fun l => decide (mso M (op l) = 9)) k + 1 = cn (fun l => decide (mso M (op l) = 9)) (k + 1) := by
          show _ = cn _ k + (decide (mso M (op k) = 9)).toNat
          rw [e]; rfl
        rw [this]
        exact ih (k + 1) (by omega) (by omega)
      · have e' : ¬ Int32.ofNat (mso M (op k)) = (9 : Int32) := fun t => e (o_inj (b := 9) (by omega) (by omega) t)
        rw [if_neg e']
        have : cn (fun l => decide (mso M (op l) = 9)) k = cn (fun l => decide (mso M (op l) = 9)) (k + 1) := by
          show _ = cn _ k + (decide (mso M (op k) = 9)).toNat
          simp [e]
        rw [this]
        exact ih (k + 1) (by omega) (by omega)
theorem traps_ok (h : bI P M z L op lf np W) : fp_trapsAround P = Int32.ofNat (cn (fun l => decide (mso M (op l) = 9)) L) ∧ fm_trapsHere M = Int32.ofNat (cn (fun l => decide (mso M (op l) = 9)) L) ∧ cn (fun l => decide (mso M (op l) = 9)) L ≤ 5 := by
  have hL := h.1.2.1.2.2
  have hz := h.1.1.2.2
  refine ⟨trapsL_ok h 25 0 (by omega) (by omega), ?_⟩
  cases L with
  | zero =>
    refine ⟨?_, Nat.zero_le _⟩
    unfold fm_trapsHere
    rw [h.1.2.1.1, if_pos (show Int32.ofNat 0 = (0 : Int32) from rfl)]
    rfl
  | succ L =>
    obtain ⟨b1, b2, b3, -⟩ := h.2.1 L (by omega)
    obtain ⟨o1, o2, -⟩ := h.2.2.2.2.2.1 L (by omega)
    have n := h.2.2.1 _ b3
    have hs := n.1.2
    have e : cn (fun l => decide (mso M (op l) = 9)) (L + 1) = mtr M (op L) + (if mso M (op L) = 9 then 1 else 0) := by
      show cn _ L + (decide (mso M (op L) = 9)).toNat = _
      rw [← o2]
      by_cases q : mso M (op L) = 9 <;> simp [q]
    rw [e]
    refine ⟨?_, ?_⟩
    · unfold fm_trapsHere
      rw [h.1.2.1.1, if_neg (fun q => absurd ((eq0 (by omega)).mp q) (by omega)), o_sub (by omega) (by omega), show L + 1 - 1 = L from rfl, n_of (show L < 2147483648 by omega), b1, n_of (by omega), n.1.1, n.2.2.1.1]
      by_cases q : mso M (op L) = 9
      · rw [if_pos (by rw [q]; rfl), if_pos q, o_add]
      · have e' : ¬ Int32.ofNat (mso M (op L)) = (9 : Int32) := fun t => q (o_inj (b := 9) (by omega) (by omega) t)
        rw [if_neg e', if_neg q, Int32.add_zero]
        rfl
    · split
      · next q => have := n.2.2.1.2.2.1 q; omega
      · have := n.2.2.1.2.1; omega
theorem x_lt4 (x : Int32) : x < (4 : Int32) ↔ x ≤ (3 : Int32) := by
  rw [Int32.lt_iff_toInt_lt, Int32.le_iff_toInt_le, show (4 : Int32).toInt = 4 from rfl, show (3 : Int32).toInt = 3 from rfl]; omega
theorem x_lt16 (x : Int32) : x < (-16 : Int32) ↔ x ≤ (-17 : Int32) := by
  rw [Int32.lt_iff_toInt_lt, Int32.le_iff_toInt_le, show (-16 : Int32).toInt = -16 from rfl, show (-17 : Int32).toInt = -17 from rfl]; omega
theorem o_to {x : Int32} (h : 0 ≤ x.toInt) : x = Int32.ofNat x.toInt.toNat := by
  apply Int32.toInt_inj.mp
  have := Int32.toInt_lt x
  rw [Int32.toInt_ofNat_of_lt (by omega)]; omega
theorem al_out {so x : Int32} (h : so < 0 ∨ (10 : Int32) < so) : fp_allows P so x = 0 ∧ fm_isSaid M so x = 0 := by
  have e0 : (0 : Int32).toInt = 0 := rfl
  have e10 : (10 : Int32).toInt = 10 := rfl
  have hr : so.toInt < 0 ∨ 10 < so.toInt := by
    rw [Int32.lt_iff_toInt_lt, Int32.lt_iff_toInt_lt, e0, e10] at h; exact h
  have ne : ∀ k : Nat, k ≤ 10 → ¬ so = Int32.ofNat k := fun k hk q => by
    rw [q, Int32.toInt_ofNat_of_lt (by omega)] at hr; omega
  constructor
  · unfold fp_allows
    have k2 : ¬ so = (2 : Int32) := ne 2 (by omega)
    have k3 : ¬ so = (3 : Int32) := ne 3 (by omega)
    have k4 : ¬ so = (4 : Int32) := ne 4 (by omega)
    have k5 : ¬ so = (5 : Int32) := ne 5 (by omega)
    have k6 : ¬ so = (6 : Int32) := ne 6 (by omega)
    have k7 : ¬ so = (7 : Int32) := ne 7 (by omega)
    have k8 : ¬ so = (8 : Int32) := ne 8 (by omega)
    have k9 : ¬ so = (9 : Int32) := ne 9 (by omega)
    have k10 : ¬ so = (10 : Int32) := ne 10 (by omega)
    rw [if_neg k2, if_neg k3, if_neg k4, if_neg k5, if_neg k6, if_neg k7, if_neg k8, if_neg k9, if_neg k10]
    by_cases q : so < 0
    · rw [if_pos q]
    · rw [if_neg q, if_pos (h.resolve_left q)]
  · unfold fm_isSaid
    by_cases q : so < 0
    · rw [if_pos q]
    · have : ¬ so ≤ (10 : Int32) := fun t => by
        have u := h.resolve_left q
        rw [Int32.lt_iff_toInt_lt, e10] at u
        rw [Int32.le_iff_toInt_le, e10] at t
        omega
      rw [if_neg q, if_neg this]
theorem al_in {T s : Nat} {x : Int32} (hs : s ≤ 10) (hT : T ≤ 5) (ha : fp_trapsAround P = Int32.ofNat T) (hb : fm_trapsHere M = Int32.ofNat T) : fp_allows P (Int32.ofNat s) x = fm_isSaid M (Int32.ofNat s) x ∧ (¬ fp_allows P (Int32.ofNat s) x = 0 → nX s x T) := by
  have e0 : (0 : Int32).toInt = 0 := rfl
  have e4 : (4 : Int32).toInt = 4 := rfl
  have e16 : (16 : Int32).toInt = 16 := rfl
  have em : (-16 : Int32).toInt = -16 := rfl
  have v1 : ∀ x : Int32, (if x < (4 : Int32) then (0 : Int32) else if (16 : Int32) ≤ x then 0 else 1) = (if x ≤ (3 : Int32) then (0 : Int32) else if (16 : Int32) ≤ x then 0 else 1) := fun x => by simp only [x_lt4]
  have v2 : ∀ x : Int32, (if x < (-16 : Int32) then (0 : Int32) else if (16 : Int32) ≤ x then 0 else 1) = (if x ≤ (-17 : Int32) then (0 : Int32) else if (16 : Int32) ≤ x then 0 else 1) := fun x => by simp only [x_lt16]
  have n1 : ¬ (if x < (4 : Int32) then (0 : Int32) else if (16 : Int32) ≤ x then 0 else 1) = 0 → ∃ e, x = Int32.ofNat e ∧ 4 ≤ e ∧ e < 16 := fun h => by
    by_cases q : x < (4 : Int32)
    · rw [if_pos q] at h; exact absurd rfl h
    · rw [if_neg q] at h
      by_cases r : (16 : Int32) ≤ x
      · rw [if_pos r] at h; exact absurd rfl h
      · rw [Int32.lt_iff_toInt_lt, e4] at q
        rw [Int32.le_iff_toInt_le, e16] at r
        exact ⟨_, o_to (by omega), by omega, by omega⟩
  have n2 : ¬ (if x < (-16 : Int32) then (0 : Int32) else if (16 : Int32) ≤ x then 0 else 1) = 0 → -16 ≤ x.toInt ∧ x.toInt < 16 := fun h => by
    by_cases q : x < (-16 : Int32)
    · rw [if_pos q] at h; exact absurd rfl h
    · rw [if_neg q] at h
      by_cases r : (16 : Int32) ≤ x
      · rw [if_pos r] at h; exact absurd rfl h
      · rw [Int32.lt_iff_toInt_lt, em] at q
        rw [Int32.le_iff_toInt_le, e16] at r
        omega
  have n3 : ¬ (if x = 0 then (1 : Int32) else 0) = 0 → x = 0 := fun h => by
    by_cases q : x = 0
    · exact q
    · rw [if_neg q] at h; exact absurd rfl h
  have n4 : ¬ (if x < 0 then (0 : Int32) else if Int32.ofNat T ≤ x then 0 else 1) = 0 → ∃ e, x = Int32.ofNat e ∧ e < T := fun h => by
    by_cases q : x < 0
    · rw [if_pos q] at h; exact absurd rfl h
    · rw [if_neg q] at h
      by_cases r : Int32.ofNat T ≤ x
      · rw [if_pos r] at h; exact absurd rfl h
      · rw [Int32.lt_iff_toInt_lt, e0] at q
        rw [Int32.le_iff_toInt_le, Int32.toInt_ofNat_of_lt (by omega)] at r
        exact ⟨_, o_to (by omega), by omega⟩
  have c : s = 0 ∨ s = 1 ∨ s = 2 ∨ s = 3 ∨ s = 4 ∨ s = 5 ∨ s = 6 ∨ s = 7 ∨ s = 8 ∨ s = 9 ∨ s = 10 := by omega
  have z0 : (s = 0 ∨ s = 1 ∨ s = 6 ∨ s = 7 ∨ s = 8 ∨ s = 9) → fp_allows P (Int32.ofNat s) x = (if x = 0 then (1 : Int32) else 0) ∧ fm_isSaid M (Int32.ofNat s) x = (if x = 0 then (1 : Int32) else 0) := fun c => by
    rcases c with q | q | q | q | q | q <;> subst q <;> exact ⟨rfl, rfl⟩
  have z1 : (s = 2 ∨ s = 10) → fp_allows P (Int32.ofNat s) x = (if x < (4 : Int32) then (0 : Int32) else if (16 : Int32) ≤ x then 0 else 1) ∧ fm_isSaid M (Int32.ofNat s) x = (if x ≤ (3 : Int32) then (0 : Int32) else if (16 : Int32) ≤ x then 0 else 1) := fun c => by
    rcases c with q | q <;> subst q <;> exact ⟨rfl, rfl⟩
  have z2 : (s = 4 ∨ s = 5) → fp_allows P (Int32.ofNat s) x = (if x < (-16 : Int32) then (0 : Int32) else if (16 : Int32) ≤ x then 0 else 1) ∧ fm_isSaid M (Int32.ofNat s) x = (if x ≤ (-17 : Int32) then (0 : Int32) else if (16 : Int32) ≤ x then 0 else 1) := fun c => by
    rcases c with q | q <;> subst q <;> exact ⟨rfl, rfl⟩
  have z3 : s = 3 → fp_allows P (Int32.ofNat s) x = (if x < 0 then (0 : Int32) else if Int32.ofNat T ≤ x then 0 else 1) ∧ fm_isSaid M (Int32.ofNat s) x = (if x < 0 then (0 : Int32) else if Int32.ofNat T ≤ x then 0 else 1) := fun q => by
    subst q
    rw [← ha]
    refine ⟨rfl, ?_⟩
    rw [ha, ← hb]
    rfl
  by_cases k0 : s = 0 ∨ s = 1 ∨ s = 6 ∨ s = 7 ∨ s = 8 ∨ s = 9
  · obtain ⟨w1, w2⟩ := z0 k0
    rw [w1, w2]
    exact ⟨rfl, fun h => ⟨fun q => by omega, fun q => by omega, fun q => by omega, fun _ => n3 h⟩⟩
  · by_cases k1 : s = 2 ∨ s = 10
    · obtain ⟨w1, w2⟩ := z1 k1
      rw [w1, w2]
      exact ⟨v1 x, fun h => ⟨fun q => by omega, fun _ => n1 h, fun q => by omega, fun q => by omega⟩⟩
    · by_cases k2 : s = 4 ∨ s = 5
      · obtain ⟨w1, w2⟩ := z2 k2
        rw [w1, w2]
        exact ⟨v2 x, fun h => ⟨fun q => by omega, fun q => by omega, fun _ => n2 h, fun q => by omega⟩⟩
      · have k3 : s = 3 := by omega
        obtain ⟨w1, w2⟩ := z3 k3
        rw [w1, w2]
        exact ⟨rfl, fun h => ⟨fun _ => n4 h, fun q => by omega, fun q => by omega, fun q => by omega⟩⟩
end PUT5
