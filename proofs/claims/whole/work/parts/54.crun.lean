/-! THE CLASS'S RUN is the abstract one with learning -/
def XK (K : Nat → Nat) (me : Nat → Nat) (X : xT) (s : Nat) : Prop := xb (X.1 3) s = !decide (K (me s) = 2) ∧ xb (X.1 4) s = decide (K (me s) = 1)
def X0 (P : pT) (M : mT) (Y : yT) (z : Nat) (bg : Bool) (X : xT) (S : gS) : Prop :=
  (∀ p, p < 32 → xb (X.1 0) p = ysel Y p) ∧ X.1 2 = b2i (!bg) ∧ (∀ p, p < 32 → xb (X.1 1) p = sN S p) ∧ X.1 5 = b2i (sL S) ∧ (∀ k, sK S k ≤ 2) ∧
  (∀ i r st w, i < z → mso M i = 10 → vr P M bg i r st w → X.2.1 (pwb P i + r) = Int32.ofNat (sK S (slt i st w)))
def XR (P : pT) (M : mT) (Y : yT) (z : Nat) (bg : Bool) (me : Nat → Nat) (X : xT) (S : gS) : Prop := X0 P M Y z bg X S ∧ ∀ s, s < 16 → XK (sK S) me X s
def SC (P : pT) (M : mT) (Y : yT) (z : Nat) (bg : Bool) (me : Nat → Nat) (A : xT → Int64 × xT) (B : gM) : Prop := ∀ X S, XR P M Y z bg me X S → oC me (A X).1 (B S).1 ∧ XR P M Y z bg me (A X).2 (B S).2
section CRUN
variable {P : pT} {M : mT} {Y : yT} {z : Nat} {bg : Bool} {me : Nat → Nat}
theorem SC.pure {A : xT → Int64 × xT} {o : gO} {v : Int64} (h : oC me v o) (e : ∀ X, A X = (v, X)) : SC P M Y z bg me A (gPu o) := fun X S hX => by
  rw [e]; exact ⟨h, hX⟩
theorem SC.cg {A A' : xT → Int64 × xT} {B : gM} (h : SC P M Y z bg me A B) (e : ∀ X, A' X = A X) : SC P M Y z bg me A' B := fun X S hX => by
  rw [e]; exact h X S hX
theorem SC.two {A A' C : xT → Int64 × xT} {B B' : gM} {f : Int64 → Int64 → Int64} {h : gO → gO → gO} (hA : SC P M Y z bg me A B) (hA' : SC P M Y z bg me A' B') (ho : ∀ w v p q, oC me w p → oC me v q → oC me (f w v) (h p q)) (e : ∀ X, C X = (f (A X).1 (A' (A X).2).1, (A' (A X).2).2)) : SC P M Y z bg me C (fun S => (h (B S).1 (B' (B S).2).1, (B' (B S).2).2)) := fun X S hX => by
  rw [e]
  obtain ⟨a1, a2⟩ := hA X S hX
  obtain ⟨b1, b2⟩ := hA' _ _ a2
  exact ⟨ho _ _ _ _ a1 b1, b2⟩
theorem SC.and {A C : xT → Int64 × xT} {B : gM} {B' : Bool → gM} {R : krT} {at_ rk : Int32} (hA : SC P M Y z bg me A B) (hR : ∀ d, SC P M Y z bg me (fun X => R X at_ rk (b2i d)) (B' d)) (e : ∀ X, C X = fr_andThen R (A X).2 (A X).1 at_ rk) : SC P M Y z bg me C (gAnd B B') := fun X S hX => by
  rw [e]
  obtain ⟨a1, a2⟩ := hA X S hX
  unfold fr_andThen gAnd
  rw [oC_cz a1, oC_mz a1]
  cases q : occ (B S).1 0 with
  | false =>
    rw [if_pos (show b2i false = 0 from rfl), if_neg (by decide)]
    exact ⟨a1, a2⟩
  | true =>
    rw [if_neg (by decide), if_pos rfl]
    obtain ⟨b1, b2⟩ := hR (omc (B S).1 0) _ _ a2
    exact ⟨oC_U (oC_Z a1) b1, b2⟩
theorem xw_at (X : xT) (k j : Nat) (v : Int32) : (xw X k v).1 j = if j = k then v else X.1 j := by simp [xw, va_up]
theorem xw_2 (X : xT) (k : Nat) (v : Int32) : (xw X k v).2 = X.2 := rfl
theorem xa_1 (X : xT) (i : Nat) (v : Int32) : (xa X i v).1 = X.1 := rfl
theorem xa_2 (X : xT) (i j : Nat) (v : Int32) : (xa X i v).2.1 j = if j = i then v else X.2.1 j := by simp [xa, upd]
def stK (X : xT) (x : Int32) (v : Int32) : xT := xw (xw X 3 (if v = (2 : Int32) then X.1 3 &&& (((1 : Int32) <<< (x &&& 31)) ^^^ (-1 : Int32)) else X.1 3 ||| ((1 : Int32) <<< (x &&& 31)))) 4 (if v = (1 : Int32) then X.1 4 ||| ((1 : Int32) <<< (x &&& 31)) else X.1 4 &&& (((1 : Int32) <<< (x &&& 31)) ^^^ (-1 : Int32)))
theorem rws_eq (R : krT) (X : xT) (at_ rk b : Int32) : fr_runWithStatus R P X at_ rk b = R (stK X (fp_operandOf P at_) (fr_statusAt X (fp_weightBefore P at_ + rk))) (at_ + (1 : Int32)) rk b := by
  unfold fr_runWithStatus stK
  have e : ∀ v, (xw X 3 v).1 4 = X.1 4 := fun v => by rw [xw_at, if_neg (by decide)]
  simp only [e]
  by_cases h2 : fr_statusAt X (fp_weightBefore P at_ + rk) = (2 : Int32)
  · by_cases h1 : fr_statusAt X (fp_weightBefore P at_ + rk) = (1 : Int32)
    · simp only [if_pos h2, if_pos h1]
    · simp only [if_pos h2, if_neg h1]
  · by_cases h1 : fr_statusAt X (fp_weightBefore P at_ + rk) = (1 : Int32)
    · simp only [if_neg h2, if_pos h1]
    · simp only [if_neg h2, if_neg h1]
theorem X0.cg34 {X X' : xT} {S : gS} (h : X0 P M Y z bg X S) (h0 : X'.1 0 = X.1 0) (h1 : X'.1 1 = X.1 1) (h2 : X'.1 2 = X.1 2) (h5 : X'.1 5 = X.1 5) (hs : X'.2.1 = X.2.1) : X0 P M Y z bg X' S := by
  obtain ⟨a, b, c, d, e, f⟩ := h
  refine ⟨fun p hp => ?_, ?_, fun p hp => ?_, ?_, e, fun i r st w x1 x2 x3 => ?_⟩
  · rw [h0]; exact a p hp
  · rw [h2]; exact b
  · rw [h1]; exact c p hp
  · rw [h5]; exact d
  · rw [hs]; exact f i r st w x1 x2 x3
theorem stK_XR {X : xT} {S : gS} {x k : Nat} (hx : x < 16) (h0 : X0 P M Y z bg X S) (hk : ∀ s, s < 16 → s ≠ x → XK (sK S) me X s) : XR P M Y z bg (upN me x k) (stK X (Int32.ofNat x) (Int32.ofNat (sK S k))) S := by
  have hK := h0.2.2.2.2.1 k
  refine ⟨h0.cg34 rfl rfl rfl rfl rfl, fun s hs => ?_⟩
  have e3 : (stK X (Int32.ofNat x) (Int32.ofNat (sK S k))).1 3 = if Int32.ofNat (sK S k) = (2 : Int32) then X.1 3 &&& (((1 : Int32) <<< (Int32.ofNat x &&& 31)) ^^^ (-1 : Int32)) else X.1 3 ||| ((1 : Int32) <<< (Int32.ofNat x &&& 31)) := by
    unfold stK; rw [xw_at, if_neg (by decide), xw_at, if_pos rfl]
  have e4 : (stK X (Int32.ofNat x) (Int32.ofNat (sK S k))).1 4 = if Int32.ofNat (sK S k) = (1 : Int32) then X.1 4 ||| ((1 : Int32) <<< (Int32.ofNat x &&& 31)) else X.1 4 &&& (((1 : Int32) <<< (Int32.ofNat x &&& 31)) ^^^ (-1 : Int32)) := by
    unfold stK; rw [xw_at, if_pos rfl]
  have i2 : Int32.ofNat (sK S k) = (2 : Int32) ↔ sK S k = 2 := ⟨fun q => o_inj (b := 2) (by omega) (by omega) q, fun q => by rw [q]; rfl⟩
  have i1 : Int32.ofNat (sK S k) = (1 : Int32) ↔ sK S k = 1 := ⟨fun q => o_inj (b := 1) (by omega) (by omega) q, fun q => by rw [q]; rfl⟩
  unfold XK
  rw [e3, e4]
  have b1 : ∀ y, xb (y ||| ((1 : Int32) <<< (Int32.ofNat x &&& 31))) s = (xb y s || decide (s = x)) := fun y => by rw [xb_or, xb_one (by omega) (by omega)]
  have b2 : ∀ y, xb (y &&& (((1 : Int32) <<< (Int32.ofNat x &&& 31)) ^^^ (-1 : Int32))) s = (xb y s && !decide (s = x)) := fun y => by rw [xb_and, xb_not (by omega), xb_one (by omega) (by omega)]
  by_cases e : s = x
  · subst e
    have u : upN me s k s = k := by simp [upN]
    rw [u]
    constructor
    · by_cases q : sK S k = 2
      · rw [if_pos (i2.mpr q), b2]; simp [q]
      · rw [if_neg (fun r => q (i2.mp r)), b1]; simp [q]
    · by_cases q : sK S k = 1
      · rw [if_pos (i1.mpr q), b1]; simp [q]
      · rw [if_neg (fun r => q (i1.mp r)), b2]; simp [q]
  · have u : upN me x k s = me s := by simp [upN, e]
    rw [u]
    obtain ⟨c1, c2⟩ := hk s hs e
    constructor
    · rw [← c1]
      split
      · rw [b2]; simp [e]
      · rw [b1]; simp [e]
    · rw [← c2]
      split
      · rw [b1]; simp [e]
      · rw [b2]; simp [e]
theorem stat_at {X : xT} {n : Nat} (h : n < 360) : fr_statusAt X (Int32.ofNat n) = X.2.1 n := by
  unfold fr_statusAt
  have e1 : ¬ Int32.ofNat n < 0 := by
    rw [Int32.lt_iff_toInt_lt, Int32.toInt_ofNat_of_lt (by omega)]
    have : (0 : Int32).toInt = 0 := rfl
    omega
  have e2 : ¬ (360 : Int32) ≤ Int32.ofNat n := fun q => by
    have := (o_le (a := 360) (b := n) (by omega) (by omega)).mp q
    omega
  rw [if_neg e1, if_neg e2, n_of (by omega)]
theorem lrn_at {X : xT} {n : Nat} {v : Int32} (h : n < 360) : fr_learnStatus X (Int32.ofNat n) v = xw (xa X n v) 5 1 := by
  unfold fr_learnStatus
  have e1 : ¬ Int32.ofNat n < 0 := by
    rw [Int32.lt_iff_toInt_lt, Int32.toInt_ofNat_of_lt (by omega)]
    have : (0 : Int32).toInt = 0 := rfl
    omega
  have e2 : ¬ (360 : Int32) ≤ Int32.ofNat n := fun q => by
    have := (o_le (a := 360) (b := n) (by omega) (by omega)).mp q
    omega
  rw [if_neg e1, if_neg e2, n_of (by omega)]
theorem has_at (hF : mF M z) (hP : pF P M z) {i : Nat} (hi : i < z) : fp_has P (Int32.ofNat i) = 1 := by
  have hz := hF.1
  unfold fp_has
  have e1 : ¬ Int32.ofNat i < 0 := by
    rw [Int32.lt_iff_toInt_lt, Int32.toInt_ofNat_of_lt (by omega)]
    have : (0 : Int32).toInt = 0 := rfl
    omega
  have e2 : ¬ P.1 1 ≤ Int32.ofNat i := fun q => by
    rw [hP.1] at q
    have := (o_le (by omega) (by omega)).mp q
    omega
  rw [if_neg e1, if_neg e2]
theorem sort_at (hF : mF M z) (hP : pF P M z) {i : Nat} (hi : i < z) : fp_sortOf P (Int32.ofNat i) = Int32.ofNat (mso M i) := by
  have hz := hF.1
  unfold fp_sortOf
  rw [has_at hF hP hi, if_neg (by decide), n_of (by omega), (hP.2 i hi).1.1]
  exact (hF.2.1 i hi).1.1
theorem oper_at (hF : mF M z) (hP : pF P M z) {i : Nat} (hi : i < z) : fp_operandOf P (Int32.ofNat i) = M.2 1 i := by
  have hz := hF.1
  unfold fp_operandOf
  rw [has_at hF hP hi, if_neg (by decide), n_of (by omega), (hP.2 i hi).1.2.1]
theorem sec_at (hF : mF M z) (hP : pF P M z) {i : Nat} (hi : i < z) (h : m2p (mso M i)) : fp_secondOf P (Int32.ofNat i) = Int32.ofNat (gsec (gOf M Y z) i) := by
  have hz := hF.1
  have q := (hF.2.1 i hi).2.2.2.2.2.2.2.2.2.1 h
  unfold fp_secondOf
  rw [has_at hF hP hi, if_neg (by decide), n_of (by omega), (hP.2 i hi).1.2.2 h]
  show M.2 3 i = Int32.ofNat (M.2 3 i).toNatClampNeg
  rw [q.2.1, n_of (by omega)]
theorem wt_at (hF : mF M z) (hP : pF P M z) {i : Nat} (hi : i < z) : fp_weightOf P (Int32.ofNat i) = Int32.ofNat (pwt P i) := by
  have hz := hF.1
  unfold fp_weightOf
  rw [has_at hF hP hi, if_neg (by decide), n_of (by omega)]
  exact (hP.2 i hi).2.1.1
theorem wb_at (hF : mF M z) (hP : pF P M z) {i : Nat} (hi : i < z) : fp_weightBefore P (Int32.ofNat i) = Int32.ofNat (pwb P i) := by
  have hz := hF.1
  unfold fp_weightBefore
  rw [has_at hF hP hi, if_neg (by decide), n_of (by omega)]
  exact (hP.2 i hi).2.2.1
theorem pau_at (hF : mF M z) (hP : pF P M z) {i : Nat} (hi : i < z) {p : Nat} (hp : p < 32) : xb (fp_pausesIn P (Int32.ofNat i)) p = mhp M z i p := by
  have hz := hF.1
  unfold fp_pausesIn
  rw [has_at hF hP hi, if_neg (by decide), n_of (by omega)]
  exact (hP.2 i hi).2.2.2.1 p hp
theorem sel_at (hF : mF M z) (hP : pF P M z) {i : Nat} (hi : i < z) {X : xT} (hX : ∀ p, p < 32 → xb (X.1 0) p = ysel Y p) : fr_isSelectedIn P X (Int32.ofNat i) = b2i (ghas (gOf M Y z) i) := by
  have h : (X.1 0 &&& fp_pausesIn P (Int32.ofNat i)) = 0 ↔ ghas (gOf M Y z) i = false := by
    constructor
    · intro q
      simp only [ghas, List.any_eq_false, List.mem_range, Bool.and_eq_true, not_and, Bool.not_eq_true]
      intro p hp h1
      have : xb (X.1 0 &&& fp_pausesIn P (Int32.ofNat i)) p = false := by rw [q]; exact xb_0 p
      rw [xb_and, hX p hp, pau_at hF hP hi hp] at this
      have h1' : ysel Y p = true := h1
      rw [h1', Bool.true_and] at this
      exact this
    · intro q
      simp only [ghas, List.any_eq_false, List.mem_range, Bool.and_eq_true, not_and, Bool.not_eq_true] at q
      apply xb_ext
      intro p hp
      rw [xb_and, hX p hp, pau_at hF hP hi hp, xb_0]
      cases e : ysel Y p with
      | false => rfl
      | true => exact q p hp e
  unfold fr_isSelectedIn
  cases q : ghas (gOf M Y z) i with
  | false => rw [if_pos (h.mpr q)]; rfl
  | true => rw [if_neg (fun r => by rw [h.mp r] at q; cases q)]; rfl
theorem stin_eq {K : Nat → Nat} {X : xT} {s : Nat} (hs : s < 16) (h2 : K (me s) ≤ 2) (h : XK K me X s) : fk_statusIn (X.1 3) (X.1 4) (Int32.ofNat s) = Int32.ofNat (K (me s)) := by
  unfold fk_statusIn
  rw [hasBit_eq (by omega), hasBit_eq (by omega), h.1, h.2]
  have : K (me s) = 0 ∨ K (me s) = 1 ∨ K (me s) = 2 := by omega
  rcases this with q | q | q <;> rw [q] <;> rfl
theorem tested_eq (hF : mF M z) {K : Nat → Nat} {X : xT} {i : Nat} (hi : i < z) (h45 : mso M i = 4 ∨ mso M i = 5) (h2 : ∀ k, K k ≤ 2) (h : ∀ s, s < 16 → XK K me X s) : fr_tested X (M.2 1 i) = Int32.ofNat (tst K (me (mxo M i)) (mng M i)) := by
  have hx := mxo_lt hF hi
  have q := (hF.2.1 i hi).2.2.2.2.2.2.1 h45
  have st := stin_eq hx (h2 _) (h _ hx)
  have h3 := h2 (me (mxo M i))
  have e0 : (0 : Int32).toInt = 0 := rfl
  unfold fr_tested
  by_cases p : 0 ≤ M.2 1 i
  · have ex : M.2 1 i = Int32.ofNat (mxo M i) := by
      unfold mxo
      rw [if_pos p]
      have p' := p
      rw [Int32.le_iff_toInt_le, e0] at p'
      apply Int32.toInt_inj.mp
      have : (M.2 1 i).toNatClampNeg = (M.2 1 i).toInt.toNat := rfl
      rw [Int32.toInt_ofNat_of_lt (by omega), this]
      omega
    have en : mng M i = false := by unfold mng; simp [p]
    have nl : ¬ M.2 1 i < 0 := by rw [Int32.lt_iff_toInt_lt, e0]; rw [Int32.le_iff_toInt_le, e0] at p; omega
    rw [if_pos p, if_neg nl, ite_self, en]
    have st' : fk_statusIn (X.1 3) (X.1 4) (M.2 1 i) = Int32.ofNat (K (me (mxo M i))) := by rw [← st]; exact congrArg _ ex
    rw [st']
    unfold tst
    split
    · next w => rw [w]
    · rfl
  · have ex : (-1 : Int32) - M.2 1 i = Int32.ofNat (mxo M i) := by
      unfold mxo
      rw [if_neg p]
      have p' := p
      rw [Int32.le_iff_toInt_le, e0] at p'
      have e1 : ((-1 : Int32) - M.2 1 i).toInt = -1 - (M.2 1 i).toInt := by
        rw [Int32.toInt_sub, show (-1 : Int32).toInt = -1 from rfl]
        exact Int.bmod_eq_of_le (by omega) (by omega)
      apply Int32.toInt_inj.mp
      have : ((-1 : Int32) - M.2 1 i).toNatClampNeg = ((-1 : Int32) - M.2 1 i).toInt.toNat := rfl
      rw [Int32.toInt_ofNat_of_lt (by omega), this]
      omega
    have en : mng M i = true := by unfold mng; simp [p]
    have nl : M.2 1 i < 0 := by rw [Int32.lt_iff_toInt_lt, e0]; rw [Int32.le_iff_toInt_le, e0] at p; omega
    rw [if_neg p, if_pos nl, en, ex, st]
    unfold tst
    have : K (me (mxo M i)) = 0 ∨ K (me (mxo M i)) = 1 ∨ K (me (mxo M i)) = 2 := by omega
    rcases this with q | q | q <;> rw [q] <;> rfl
end CRUN
