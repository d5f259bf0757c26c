/-! PUT: what it writes, place by place -/
theorem pw_at (P : pT) (k j : Nat) (v : Int32) : (pw P k v).1 j = if j = k then v else P.1 j := by simp [pw, va_up]
theorem pw_2 (P : pT) (k : Nat) (v : Int32) : (pw P k v).2 = P.2 := rfl
theorem pa_1 (P : pT) (a i : Nat) (v : Int32) : (pa P a i v).1 = P.1 := rfl
theorem pa_at (P : pT) (a i : Nat) (v : Int32) (c j : Nat) : (pa P a i v).2 c j = if c = a ∧ j = i then v else P.2 c j := by
  by_cases h : c = a
  · subst h; simp [pa, va_up, upd]
  · simp [pa, va_up, h]
theorem m1w_at (M : mT) (k j : Nat) (v : Int32) : (m1w M k v).1 j = if j = k then v else M.1 j := by simp [m1w, va_up]
theorem m1w_2 (M : mT) (k : Nat) (v : Int32) : (m1w M k v).2 = M.2 := rfl
theorem m2w_1 (M : mT) (a i : Nat) (v : Int32) : (m2w M a i v).1 = M.1 := rfl
theorem m2w_at (M : mT) (a i : Nat) (v : Int32) (c j : Nat) : (m2w M a i v).2 c j = if c = a ∧ j = i then v else M.2 c j := by
  by_cases h : c = a
  · subst h; simp [m2w, va_up, upd]
  · simp [m2w, va_up, h]
/-- the new statement itself, in the reference -/
def mA1 (M : mT) (so x tr he : Int32) (z L : Nat) (a j : Nat) : Int32 :=
  if j = z ∧ a = 0 then so else if j = z ∧ a = 1 then x else if j = z ∧ (a = 2 ∨ a = 3) then -1 else if j = z ∧ a = 5 then Int32.ofNat L else if j = z ∧ a = 6 then tr else if j = z ∧ a = 7 then he else if j = z ∧ a = 8 then (if so = 1 then M.1 1 else -1) else M.2 a j
theorem trH_cg {M M' : mT} (h1 : M'.1 4 = M.1 4) (h9 : M'.2 9 = M.2 9) (h0 : ¬ M.1 4 = 0 → M'.2 0 (M.2 9 (M.1 4 - 1).toNatClampNeg).toNatClampNeg = M.2 0 (M.2 9 (M.1 4 - 1).toNatClampNeg).toNatClampNeg ∧ M'.2 6 (M.2 9 (M.1 4 - 1).toNatClampNeg).toNatClampNeg = M.2 6 (M.2 9 (M.1 4 - 1).toNatClampNeg).toNatClampNeg) : fm_trapsHere M' = fm_trapsHere M := by
  unfold fm_trapsHere
  rw [h1, h9]
  by_cases q : M.1 4 = 0
  · rw [if_pos q, if_pos q]
  · rw [if_neg q, if_neg q, (h0 q).1, (h0 q).2]
theorem putA_ok {M : mT} {so x pa ot he : Int32} {z L : Nat} (hz : M.1 0 = Int32.ofNat z) (hz1 : z ≤ 120) (hL : M.1 4 = Int32.ofNat L) (ht : ¬ M.1 4 = 0 → (M.2 9 (M.1 4 - 1).toNatClampNeg).toNatClampNeg ≠ z) :
    (fm_putA M so x pa ot he).1 = Int32.ofNat z ∧ (fm_putA M so x pa ot he).2.1 0 = M.1 0 ∧ (fm_putA M so x pa ot he).2.1 1 = M.1 1 + (if so = 1 then 1 else 0) ∧ (fm_putA M so x pa ot he).2.1 2 = M.1 2 + he ∧ (fm_putA M so x pa ot he).2.1 3 = M.1 3 ∧ (fm_putA M so x pa ot he).2.1 4 = M.1 4 ∧ ∀ a j, (fm_putA M so x pa ot he).2.2 a j = mA1 M so x (fm_trapsHere M) he z L a j := by
  have hn := n_of (show z < 2147483648 by omega)
  have tr : ∀ v, fm_trapsHere (m2w (m2w (m2w (m2w (m2w M 0 z so) 1 z x) 2 z (-1)) 3 z (-1)) 5 z v) = fm_trapsHere M := fun v => trH_cg rfl (by funext j; simp [m2w_at]) (fun q => by simp [m2w_at, ht q])
  unfold fm_putA
  simp only [hz, hn, m2w_1, m1w_at, hL]
  by_cases h : so = (1 : Int32)
  · simp only [if_pos h, if_true]
    refine ⟨trivial, ?_, ?_, ?_, ?_, ?_, fun a j => ?_⟩
    · simp [m1w_at, m2w_1, hz]
    · simp [m1w_at, m2w_1, hz]
    · simp [m1w_at, m2w_1, hz]
    · simp [m1w_at, m2w_1, hz]
    · simp [m1w_at, m2w_1, hL]
    · unfold mA1
      rw [tr]
      simp only [m1w_2, m2w_at, h, if_true]
      by_cases e : j = z
      · subst e
        by_cases q0 : a = 0
        · subst q0; simp
        by_cases q1 : a = 1
        · subst q1; simp
        by_cases q2 : a = 2
        · subst q2; simp
        by_cases q3 : a = 3
        · subst q3; simp
        by_cases q5 : a = 5
        · subst q5; simp
        by_cases q6 : a = 6
        · subst q6; simp
        by_cases q7 : a = 7
        · subst q7; simp
        by_cases q8 : a = 8
        · subst q8; simp
        simp [q0, q1, q2, q3, q5, q6, q7, q8]
      · simp [e]
  · simp only [if_neg h]
    refine ⟨trivial, ?_, ?_, ?_, ?_, ?_, fun a j => ?_⟩
    · simp [m1w_at, m2w_1, hz]
    · simp [m1w_at, m2w_1, hz]
    · simp [m1w_at, m2w_1, hz]
    · simp [m1w_at, m2w_1, hz]
    · simp [m1w_at, m2w_1, hL]
    · unfold mA1
      rw [tr]
      simp only [m1w_2, m2w_at, if_neg h]
      by_cases e : j = z
      · subst e
        by_cases q0 : a = 0
        · subst q0; simp
        by_cases q1 : a = 1
        · subst q1; simp
        by_cases q2 : a = 2
        · subst q2; simp
        by_cases q3 : a = 3
        · subst q3; simp
        by_cases q5 : a = 5
        · subst q5; simp
        by_cases q6 : a = 6
        · subst q6; simp
        by_cases q7 : a = 7
        · subst q7; simp
        by_cases q8 : a = 8
        · subst q8; simp
        simp [q0, q1, q2, q3, q5, q6, q7, q8]
      · simp [e]
theorem le0 {L : Nat} (h : L < 2147483648) : Int32.ofNat L ≤ 0 ↔ L = 0 := by
  have := o_le (a := L) (b := 0) h (by omega)
  exact ⟨fun q => by have := this.mp q; omega, fun q => by rw [q]; decide⟩
theorem eq0 {L : Nat} (h : L < 2147483648) : Int32.ofNat L = 0 ↔ L = 0 := ⟨fun q => o_inj (b := 0) h (by omega) q, fun q => by rw [q]; rfl⟩
theorem o_sub {L : Nat} (h0 : 0 < L) (h : L < 2147483648) : Int32.ofNat L - (1 : Int32) = Int32.ofNat (L - 1) := by
  obtain ⟨k, rfl⟩ : ∃ k, L = k + 1 := ⟨L - 1, by omega⟩
  rw [← o_add]
  show _ + _ - _ = _
  rw [Int32.add_sub_cancel]
  rfl
/-- the reference after the new statement is attached and pushed -/
def mC1 (M : mT) (so x tr he : Int32) (z L t c : Nat) (a j : Nat) : Int32 :=
  if a = 10 ∧ j = L then fm_partsOf so else if a = 9 ∧ j = L then Int32.ofNat z else if a = 10 ∧ j + 1 = L then M.2 10 j - 1 else if 0 < L ∧ a = c ∧ j = t then Int32.ofNat z else mA1 M so x tr he z L a j
theorem putC_ok {M : mT} {so x he : Int32} {z L t : Nat} {ot : Bool} (hz : M.1 0 = Int32.ofNat z) (hz1 : z ≤ 120) (hL : M.1 4 = Int32.ofNat L) (hL1 : L ≤ 24) (ht : 0 < L → M.2 9 (L - 1) = Int32.ofNat t ∧ t < z) :
    (fm_putC (fm_putB (fm_putA M so x (if L = 0 then -1 else Int32.ofNat t) (b2i ot) he).2 so x (if L = 0 then -1 else Int32.ofNat t) (b2i ot) (fm_putA M so x (if L = 0 then -1 else Int32.ofNat t) (b2i ot) he).1) so x (fm_putA M so x (if L = 0 then -1 else Int32.ofNat t) (b2i ot) he).1).1 0 = Int32.ofNat (z + 1) ∧
    (fm_putC (fm_putB (fm_putA M so x (if L = 0 then -1 else Int32.ofNat t) (b2i ot) he).2 so x (if L = 0 then -1 else Int32.ofNat t) (b2i ot) (fm_putA M so x (if L = 0 then -1 else Int32.ofNat t) (b2i ot) he).1) so x (fm_putA M so x (if L = 0 then -1 else Int32.ofNat t) (b2i ot) he).1).1 1 = M.1 1 + (if so = 1 then 1 else 0) ∧
    (fm_putC (fm_putB (fm_putA M so x (if L = 0 then -1 else Int32.ofNat t) (b2i ot) he).2 so x (if L = 0 then -1 else Int32.ofNat t) (b2i ot) (fm_putA M so x (if L = 0 then -1 else Int32.ofNat t) (b2i ot) he).1) so x (fm_putA M so x (if L = 0 then -1 else Int32.ofNat t) (b2i ot) he).1).1 2 = M.1 2 + he ∧
    (fm_putC (fm_putB (fm_putA M so x (if L = 0 then -1 else Int32.ofNat t) (b2i ot) he).2 so x (if L = 0 then -1 else Int32.ofNat t) (b2i ot) (fm_putA M so x (if L = 0 then -1 else Int32.ofNat t) (b2i ot) he).1) so x (fm_putA M so x (if L = 0 then -1 else Int32.ofNat t) (b2i ot) he).1).1 3 = M.1 3 ∧
    (fm_putC (fm_putB (fm_putA M so x (if L = 0 then -1 else Int32.ofNat t) (b2i ot) he).2 so x (if L = 0 then -1 else Int32.ofNat t) (b2i ot) (fm_putA M so x (if L = 0 then -1 else Int32.ofNat t) (b2i ot) he).1) so x (fm_putA M so x (if L = 0 then -1 else Int32.ofNat t) (b2i ot) he).1).1 4 = Int32.ofNat (L + 1) ∧
    ∀ a j, (fm_putC (fm_putB (fm_putA M so x (if L = 0 then -1 else Int32.ofNat t) (b2i ot) he).2 so x (if L = 0 then -1 else Int32.ofNat t) (b2i ot) (fm_putA M so x (if L = 0 then -1 else Int32.ofNat t) (b2i ot) he).1) so x (fm_putA M so x (if L = 0 then -1 else Int32.ofNat t) (b2i ot) he).1).2 a j = mC1 M so x (fm_trapsHere M) he z L t (if ot then 3 else 2) a j := by
  obtain ⟨a1, a2, a3, a4, a5, a6, a7⟩ := putA_ok (so := so) (x := x) (pa := if L = 0 then -1 else Int32.ofNat t) (ot := b2i ot) (he := he) hz hz1 hL (fun q => by
    have h0 : 0 < L := by
      rcases Nat.eq_zero_or_pos L with e | e
      · rw [hL, e] at q; exact absurd rfl q
      · exact e
    rw [hL, o_sub h0 (by omega), n_of (by omega), (ht h0).1, n_of (by have := (ht h0).2; omega)]
    have := (ht h0).2
    omega)
  generalize fm_putA M so x (if L = 0 then -1 else Int32.ofNat t) (b2i ot) he = A at *
  obtain ⟨ix, A⟩ := A
  dsimp only at *
  subst a1
  have e6 : ∀ j, A.2 10 j = M.2 10 j := fun j => by rw [a7]; simp [mA1]
  have e9 : ∀ j, A.2 9 j = M.2 9 j := fun j => by rw [a7]; simp [mA1]
  have hB : (fm_putB A so x (if L = 0 then -1 else Int32.ofNat t) (b2i ot) (Int32.ofNat z)).1 = A.1 ∧ ∀ a j, (fm_putB A so x (if L = 0 then -1 else Int32.ofNat t) (b2i ot) (Int32.ofNat z)).2 a j = if 0 < L ∧ a = (if ot then 3 else 2) ∧ j = t then Int32.ofNat z else A.2 a j := by
    unfold fm_putB
    by_cases q : L = 0
    · rw [if_pos q, if_pos rfl, if_pos rfl]
      exact ⟨rfl, fun a j => by rw [if_neg (by omega)]⟩
    · have tl := (ht (by omega)).2
      rw [if_neg q, if_neg (o_m1 (by omega)), if_neg (o_m1 (by omega)), n_of (by omega)]
      cases ot with
      | true =>
        rw [if_neg (by decide)]
        refine ⟨rfl, fun a j => ?_⟩
        rw [m2w_at]
        simp [show 0 < L by omega]
      | false =>
        rw [if_pos (show b2i false = 0 from rfl)]
        refine ⟨rfl, fun a j => ?_⟩
        rw [m2w_at]
        simp [show 0 < L by omega]
  generalize fm_putB A so x (if L = 0 then -1 else Int32.ofNat t) (b2i ot) (Int32.ofNat z) = B at *
  obtain ⟨b1, b2⟩ := hB
  have g0 : B.1 0 = Int32.ofNat z := by rw [b1, a2, hz]
  have g4 : B.1 4 = Int32.ofNat L := by rw [b1, a6, hL]
  unfold fm_putC
  simp only [m1w_at, m2w_1, show ((4 : Nat) = 0) = False from by simp, if_false, g4, g0, n_of (show L < 2147483648 by omega), o_add]
  by_cases q : L = 0
  · subst q
    rw [if_pos (show Int32.ofNat 0 ≤ 0 by decide)]
    refine ⟨?_, ?_, ?_, ?_, ?_, fun a j => ?_⟩
    · simp [m1w_at, m2w_1]
    · simp [m1w_at, m2w_1, b1, a3]
    · simp [m1w_at, m2w_1, b1, a4]
    · simp [m1w_at, m2w_1, b1, a5]
    · simp [m1w_at, m2w_1]
    · simp only [m1w_2, m2w_at, b2, a7]
      unfold mC1
      by_cases h10 : a = 10 ∧ j = 0
      · rw [if_pos h10, if_pos h10]
      · rw [if_neg h10, if_neg h10]
        by_cases h9 : a = 9 ∧ j = 0
        · rw [if_pos h9, if_pos h9]
        · rw [if_neg h9, if_neg h9, if_neg (by omega), if_neg (by omega)]
  · rw [if_neg (fun h => q ((le0 (by omega)).mp h))]
    have tl := (ht (by omega)).2
    rw [o_sub (by omega) (by omega), n_of (by omega)]
    have c3 : ¬ ((10 : Nat) = if ot = true then 3 else 2) := by cases ot <;> decide
    have e10 : B.2 10 (L - 1) = M.2 10 (L - 1) := by rw [b2, if_neg (fun h => c3 h.2.1), e6]
    refine ⟨?_, ?_, ?_, ?_, ?_, fun a j => ?_⟩
    · simp [m1w_at, m2w_1]
    · simp [m1w_at, m2w_1, b1, a3]
    · simp [m1w_at, m2w_1, b1, a4]
    · simp [m1w_at, m2w_1, b1, a5]
    · simp [m1w_at, m2w_1]
    · simp only [m1w_2, m2w_at, e10]
      unfold mC1
      by_cases h10 : a = 10 ∧ j = L
      · rw [if_pos h10, if_pos h10]
      · rw [if_neg h10, if_neg h10]
        by_cases h9 : a = 9 ∧ j = L
        · rw [if_pos h9, if_pos h9]
        · rw [if_neg h9, if_neg h9]
          by_cases hd : a = 10 ∧ j = L - 1
          · rw [if_pos hd, if_pos (by omega), hd.2]
          · rw [if_neg hd, if_neg (by omega), b2, a7]
