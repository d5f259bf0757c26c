section FOUND2
variable {P : pT} {M : mT} {Y : yT} {z : Nat} {bg : Bool}
theorem passL_0 {n : Nat} {X : xT} {ps : Int32} (h : X.1 5 = 0) : fr_passL (n + 1) P X ps = (if fr_mustCodes X = 0 then 0 else 1, X) := by
  rw [fr_passL, if_pos h]
  split <;> rfl
theorem passL_ok (hF : mF M z) (hP : pF P M z) (h0 : 0 < z) (hg0 : men M 0 = z) (hsel : bg = false → ghas (gOf M Y z) 0 = true) {K0 : Nat → Nat} {m : Nat} (hi0 : kInv (gOf M Y z) 121 bg K0) (hk0 : ∀ k, 4 ≤ k → (K0 k = 2 ∨ (K0 k = 0 ∧ 16 + 27 * z ≤ k))) (hfix : ∀ k, stp (gOf M Y z) 121 bg (itK (gOf M Y z) 121 bg K0 m) k = itK (gOf M Y z) 121 bg K0 m k) : ∀ (n p : Nat) (X : xT) (K : Nat → Nat), p + n = 401 → ¬ X.1 5 = 0 → mu X + p ≤ 376 → pI P M Y z bg X K → leK K (itK (gOf M Y z) 121 bg K0 m) → (∀ k, k < 4 → K k = K0 k) → pD M Y z bg (itK (gOf M Y z) 121 bg K0 m) (fr_passL n P X (Int32.ofNat p)).1 (fr_passL n P X (Int32.ofNat p)).2 := by
  intro n
  induction n with
  | zero => intro p X K h1 h2 h3; omega
  | succ n ih =>
    intro p X K h1 h2 h3 hX hle hin
    have n4 : ¬ (400 : Int32) ≤ Int32.ofNat p := fun t => by
      have := (o_le (a := 400) (b := p) (by omega) (by omega)).mp t
      omega
    rw [fr_passL, if_neg h2, if_neg n4, o_add]
    obtain ⟨c1, c2⟩ := cpass hF hP h0 hg0 hsel hi0 hk0 hfix hX hle hin rfl
    generalize fr_learnSignals (xl ((fr_run 121 P (xw (xw X 5 (0 : Int32)) 1 (0 : Int32)) (0 : Int32) (0 : Int32) (1 : Int32)).2) ((fr_run 121 P (xw (xw X 5 (0 : Int32)) 1 (0 : Int32)) (0 : Int32) (0 : Int32) (1 : Int32)).1)) = X2 at c1 c2 ⊢
    by_cases q : X2.1 5 = 0
    · obtain ⟨n', rfl⟩ : ∃ n', n = n' + 1 := ⟨n - 1, by omega⟩
      rw [passL_0 q]
      exact c1 q
    · obtain ⟨d1, K2, d2, d3, d4⟩ := c2 q
      exact ih (p + 1) X2 K2 (by omega) q (by omega) d2 d3 d4
theorem forgetL_eq {W : Nat} (hW : P.1 5 = Int32.ofNat W) (hl : W ≤ 360) : ∀ (n k : Nat) (X : xT), 360 ≤ k + n → k ≤ 360 → (fr_forgetL n P X (Int32.ofNat k)).1 = X.1 ∧ (∀ j, k ≤ j → j < W → (fr_forgetL n P X (Int32.ofNat k)).2.1 j = (2 : Int32)) ∧ (∀ j, j < k → (fr_forgetL n P X (Int32.ofNat k)).2.1 j = X.2.1 j) := by
  intro n
  induction n with
  | zero => intro k X h1 h2; exact ⟨rfl, fun j a b => by omega, fun _ _ => rfl⟩
  | succ n ih =>
    intro k X h1 h2
    rw [fr_forgetL, hW]
    by_cases q : W ≤ k
    · rw [if_pos ((o_le (by omega) (by omega)).mpr q)]
      exact ⟨rfl, fun j a b => by omega, fun _ _ => rfl⟩
    · have n3 : ¬ (360 : Int32) ≤ Int32.ofNat k := fun t => by
        have := (o_le (a := 360) (b := k) (by omega) (by omega)).mp t
        omega
      rw [if_neg (fun t => q ((o_le (by omega) (by omega)).mp t)), if_neg n3, n_of (by omega), o_add]
      obtain ⟨a, b, c⟩ := ih (k + 1) (xa X k 2) (by omega) (by omega)
      refine ⟨a, fun j j1 j2 => ?_, fun j j1 => ?_⟩
      · by_cases e : j = k
        · subst e
          rw [c j (by omega), xa_2, if_pos rfl]
        · exact b j (by omega) j2
      · rw [c j (by omega), xa_2, if_neg (by omega)]
theorem found_ok (hF : mF M z) (hP : pF P M z) (h0 : 0 < z) (hg0 : men M 0 = z) (hsel : bg = false → ghas (gOf M Y z) 0 = true) {W : Nat} (hW : P.1 5 = Int32.ofNat W) (hW1 : W ≤ 360) (hW2 : ∀ i, i < z → pwb P i + pwt P i ≤ W) {t : Nat} (ht : t < 16) {m : Nat} (hfix : ∀ k, stp (gOf M Y z) 121 bg (itK (gOf M Y z) 121 bg (k0 z (Int32.ofNat t)) m) k = itK (gOf M Y z) 121 bg (k0 z (Int32.ofNat t)) m k)
    {X : xT} (hs : ∀ p, p < 32 → xb (X.1 0) p = ysel Y p) (hb : X.1 2 = b2i (!bg)) : pD M Y z bg (itK (gOf M Y z) 121 bg (k0 z (Int32.ofNat t)) m) (fr_isFound P X (Int32.ofNat t)).1 (fr_isFound P X (Int32.ofNat t)).2 := by
  have hz := hF.1
  have hl : lm z = 16 + 27 * z := rfl
  have hWg := gW_of (Y := Y) hF
  have hi0 := k0_inv (bg := bg) (n := 121) hWg h0 (Int32.ofNat t)
  obtain ⟨f1, f2, -⟩ := forgetL_eq hW hW1 361 0 X (by omega) (by omega)
  have le0 : leK (k0 z (Int32.ofNat t)) (itK (gOf M Y z) 121 bg (k0 z (Int32.ofNat t)) m) := by
    induction m with
    | zero => exact leK.rf
    | succ m ih =>
      have : ∀ m, leK (k0 z (Int32.ofNat t)) (itK (gOf M Y z) 121 bg (k0 z (Int32.ofNat t)) m) := fun m => by
        induction m with
        | zero => exact leK.rf
        | succ m ih => exact ih.tr (stp_le _)
      exact this _
  have k2 : ∀ k, 4 ≤ k → k < lm z → k0 z (Int32.ofNat t) k = 2 := fun k a b => by unfold k0; rw [if_neg (by omega), if_pos b]
  have b15 : ∀ s, s < 16 → xb (15 : Int32) s = decide (s < 4) := by decide +kernel
  have bin : ∀ t, t < 16 → ∀ s, s < 16 → 4 ≤ s → xb (Int32.ofNat t) s = false := by decide +kernel
  unfold fr_isFound fr_forgetLocals
  refine passL_ok hF hP h0 hg0 hsel hi0 (fun k hk => ?_) hfix 401 0 _ (k0 z (Int32.ofNat t)) rfl ?_ ?_ ?_ le0 (fun _ _ => rfl)
  · by_cases q : k < lm z
    · exact Or.inl (k2 k hk q)
    · right
      refine ⟨?_, by omega⟩
      unfold k0
      rw [if_neg (by omega), if_neg q]
  · rw [xw_at, if_pos rfl]; decide
  · have a := cn_n (fun j => decide ((xw (xw (xw (fr_forgetL 361 P X 0) 3 15) 4 (Int32.ofNat t)) 5 1).2.1 j = (2 : Int32))) 360
    have b := cn_n (fun s => !xb ((xw (xw (xw (fr_forgetL 361 P X 0) 3 15) 4 (Int32.ofNat t)) 5 1).1 3) s) 16
    unfold mu
    omega
  · have e1 : (fr_forgetL 361 P X 0).1 = X.1 := f1
    refine ⟨⟨fun p hp => ?_, ?_, fun p hp => ?_, ?_, fun k => (hi0 k).1, fun i r st w x1 x2 x3 => ?_⟩, fun s hs => ?_⟩
    · simp only [xw_at, e1]; exact hs p hp
    · simp only [xw_at, e1]; exact hb
    · simp only [xw_at, e1]; exact xb_0 p
    · simp only [xw_at, e1]; rfl
    · have a := vr_lt hF hP x1 x3
      have b := hW2 i x1
      refine (f2 (pwb P i + r) (by omega) (by omega)).trans ?_
      show _ = Int32.ofNat (k0 z (Int32.ofNat t) (slt i st w))
      rw [k2 _ (by unfold slt; omega) (by unfold slt; split <;> omega)]
      rfl
    · unfold XK
      rw [me0_s hs]
      have e3 : (xw (xw (xw (xw (xw (fr_forgetL 361 P X 0) 3 15) 4 (Int32.ofNat t)) 5 1) 5 0) 1 0).1 3 = 15 := by simp [xw_at]
      have e4 : (xw (xw (xw (xw (xw (fr_forgetL 361 P X 0) 3 15) 4 (Int32.ofNat t)) 5 1) 5 0) 1 0).1 4 = Int32.ofNat t := by simp [xw_at]
      rw [e3, e4]
      show xb 15 s = (!decide (k0 z (Int32.ofNat t) s = 2)) ∧ xb (Int32.ofNat t) s = decide (k0 z (Int32.ofNat t) s = 1)
      rw [b15 s hs]
      by_cases q : s < 4
      · have : k0 z (Int32.ofNat t) s = (xb (Int32.ofNat t) s).toNat := by unfold k0; rw [if_pos q]
        rw [this]
        cases xb (Int32.ofNat t) s <;> simp [q]
      · rw [k2 s (by omega) (by omega), bin t ht s hs (by omega)]
        simp [q]
end FOUND2
