/-! THE CLASS'S PASSES come to the reference's settled assignment -/
def lsK (o : gO) (K' : Nat → Nat) (k : Nat) : Nat := if 4 ≤ k ∧ k < 16 ∧ K' k = 2 then (if omf o k then 1 else if ocf o k then 2 else 0) else K' k
def mu (X : xT) : Nat := cn (fun j => decide (X.2.1 j = (2 : Int32))) 360 + cn (fun s => !xb (X.1 3) s) 16
theorem xb_fff0 {s : Nat} (h : s < 32) : xb (65520 : Int32) s = (decide (4 ≤ s) && decide (s < 16)) := by
  have : ∀ s, s < 32 → xb (65520 : Int32) s = (decide (4 ≤ s) && decide (s < 16)) := by decide +kernel
  exact this s h
def nKn (X : xT) : Int32 := ((X.1 3 ||| (fo_must X.2.2 &&& (65520 : Int32))) ||| ((fo_can X.2.2 ^^^ (-1 : Int32)) &&& (65520 : Int32)))
theorem ls_eq (X : xT) : (fr_learnSignals X).2 = X.2 ∧ (∀ k, k ≠ 3 → k ≠ 4 → k ≠ 5 → (fr_learnSignals X).1 k = X.1 k) ∧ (fr_learnSignals X).1 3 = nKn X ∧ (fr_learnSignals X).1 4 = X.1 4 ||| (fo_must X.2.2 &&& (65520 : Int32)) ∧ (fr_learnSignals X).1 5 = if nKn X = X.1 3 then X.1 5 else 1 := by
  unfold fr_learnSignals
  change (if nKn X = X.1 3 then _ else _ : xT).2 = X.2 ∧ (∀ k, k ≠ 3 → k ≠ 4 → k ≠ 5 → (if nKn X = X.1 3 then _ else _ : xT).1 k = X.1 k) ∧ (if nKn X = X.1 3 then _ else _ : xT).1 3 = nKn X ∧ (if nKn X = X.1 3 then _ else _ : xT).1 4 = _ ∧ (if nKn X = X.1 3 then _ else _ : xT).1 5 = _
  by_cases h : nKn X = X.1 3
  · simp only [if_pos h]
    refine ⟨rfl, fun k a b c => ?_, ?_, ?_, ?_⟩
    · rw [xw_at, if_neg b, xw_at, if_neg a]
    · rw [xw_at, if_neg (by decide), xw_at, if_pos rfl]; rfl
    · rw [xw_at, if_pos rfl, xw_at, if_neg (by decide)]
    · rw [xw_at, if_neg (by decide), xw_at, if_neg (by decide)]
  · simp only [if_neg h]
    refine ⟨rfl, fun k a b c => ?_, ?_, ?_, ?_⟩
    · rw [xw_at, if_neg b, xw_at, if_neg a, xw_at, if_neg c]
    · rw [xw_at, if_neg (by decide), xw_at, if_pos rfl]; rfl
    · rw [xw_at, if_pos rfl, xw_at, if_neg (by decide), xw_at, if_neg (by decide)]
    · rw [xw_at, if_neg (by decide), xw_at, if_neg (by decide), xw_at, if_pos rfl]
section FOUND
variable {P : pT} {M : mT} {Y : yT} {z : Nat} {bg : Bool}
theorem me0_s {s : Nat} (h : s < 16) : me0 s = s := by unfold me0; omega
/-- what holds before a pass -/
def pI (P : pT) (M : mT) (Y : yT) (z : Nat) (bg : Bool) (X : xT) (K : Nat → Nat) : Prop := XR P M Y z bg me0 (xw (xw X 5 0) 1 0) (kS K)
/-- what holds when nothing was learned -/
def pD (M : mT) (Y : yT) (z : Nat) (bg : Bool) (Kf : Nat → Nat) (r : Int32) (X : xT) : Prop :=
  (∀ p, p < 32 → xb (X.1 0) p = ysel Y p) ∧ X.1 2 = b2i (!bg) ∧ (∀ s, s < 16 → XK Kf me0 X s) ∧ fr_mustCodes X = cE (omc (rF (gOf M Y z) 121 bg Kf)) ∧ r = (if cE (omc (rF (gOf M Y z) 121 bg Kf)) = 0 then 0 else 1) ∧ ((∃ c, omc (rF (gOf M Y z) 121 bg Kf) c = true) → ∀ p, p < 32 → xb (X.1 1) p = sN (rt (gOf M Y z) 121 bg false (kS Kf)).2 p)
theorem cpass (hF : mF M z) (hP : pF P M z) (h0 : 0 < z) (hg0 : men M 0 = z) (hsel : bg = false → ghas (gOf M Y z) 0 = true) {K0 : Nat → Nat} {m : Nat} (hi0 : kInv (gOf M Y z) 121 bg K0) (hk0 : ∀ k, 4 ≤ k → (K0 k = 2 ∨ (K0 k = 0 ∧ 16 + 27 * z ≤ k))) (hfix : ∀ k, stp (gOf M Y z) 121 bg (itK (gOf M Y z) 121 bg K0 m) k = itK (gOf M Y z) 121 bg K0 m k)
    {X : xT} {K : Nat → Nat} (hX : pI P M Y z bg X K) (hle : leK K (itK (gOf M Y z) 121 bg K0 m)) (hin : ∀ k, k < 4 → K k = K0 k) {X2 : xT} (e2 : X2 = fr_learnSignals (xl ((fr_run 121 P (xw (xw X 5 (0 : Int32)) 1 (0 : Int32)) (0 : Int32) (0 : Int32) (1 : Int32)).2) ((fr_run 121 P (xw (xw X 5 (0 : Int32)) 1 (0 : Int32)) (0 : Int32) (0 : Int32) (1 : Int32)).1))) :
    (X2.1 5 = 0 → pD M Y z bg (itK (gOf M Y z) 121 bg K0 m) (if fr_mustCodes X2 = 0 then 0 else 1) X2) ∧ (¬ X2.1 5 = 0 → mu X2 < mu X ∧ ∃ K2, pI P M Y z bg X2 K2 ∧ leK K2 (itK (gOf M Y z) 121 bg K0 m) ∧ ∀ k, k < 4 → K2 k = K0 k) := by
  have hz := hF.1
  have hW := gW_of (Y := Y) hF
  have hH := gH_of (Y := Y) hF
  have hfx := fx_of (it_inv hW h0 hi0 m) hfix
  have run := sc_run (Y := Y) (bg := bg) hF hP 121 me0 0 0 bg 0 true h0 (by omega) (Or.inl ⟨rfl, rfl, rfl⟩) me0_lt (fun s t hs ht q => by rw [me0_s hs, me0_s ht] at q; exact q) (xw (xw X 5 0) 1 0) (kS K) hX
  have dec := dec_run P 121 (xw (xw X 5 0) 1 0) 0 0 1
  change oC me0 (fr_run 121 P (xw (xw X 5 (0 : Int32)) 1 (0 : Int32)) (0 : Int32) (0 : Int32) (1 : Int32)).1 (rt (gOf M Y z) 121 bg true (kS K)).1 ∧ XR P M Y z bg me0 (fr_run 121 P (xw (xw X 5 (0 : Int32)) 1 (0 : Int32)) (0 : Int32) (0 : Int32) (1 : Int32)).2 (rt (gOf M Y z) 121 bg true (kS K)).2 at run
  obtain ⟨pl1, pl2⟩ := pass_le hW h0 hfx (S := kS K) hle
  have frm := ge_fr hW true 121 me0 0 bg 0 true h0 (by decide) (kS K)
  have ok := ge_ok (gOf M Y z) true 121 me0 0 bg 0 true (kS K)
  have pe := fun a b => pass_end hW hH h0 hg0 hi0 hk0 hfix (S := kS K) (fun _ => rfl) hle hin a b hsel
  change (∀ k, ocf (rt (gOf M Y z) 121 bg true (kS K)).1 k = true → _) ∧ kStep _ _ K (sK (rt (gOf M Y z) 121 bg true (kS K)).2) ∧ lStep _ (kS K) (rt (gOf M Y z) 121 bg true (kS K)).2 ∧ _ at frm
  change oOk true (rt (gOf M Y z) 121 bg true (kS K)).1 at ok
  generalize hKf : itK (gOf M Y z) 121 bg K0 m = Kf at *
  generalize rt (gOf M Y z) 121 bg true (kS K) = ro at *
  obtain ⟨o, S'⟩ := ro
  generalize fr_run 121 P (xw (xw X 5 (0 : Int32)) 1 (0 : Int32)) (0 : Int32) (0 : Int32) (1 : Int32) = w at *
  obtain ⟨w, X1⟩ := w
  dsimp only at *
  obtain ⟨oc, ⟨⟨r1, r2, r3, r4, r5, r6⟩, r7⟩⟩ := run
  obtain ⟨l1, l2, l3, l4, l5⟩ := ls_eq (xl X1 w)
  rw [← e2] at l1 l2 l3 l4 l5
  have kf : ∀ s, s < 16 → sK S' s = K s := fun s hs => by
    by_cases q : sK S' s = K s
    · exact q
    · have := ((frm.2.1 s q).1).1
      omega
  have bK : ∀ s, s < 16 → xb (X1.1 3) s = !decide (K s = 2) := fun s hs => by
    have := (r7 s hs).1
    rw [me0_s hs, kf s hs] at this
    exact this
  have bP : ∀ s, s < 16 → xb (X1.1 4) s = decide (K s = 1) := fun s hs => by
    have := (r7 s hs).2
    rw [me0_s hs, kf s hs] at this
    exact this
  have bM : ∀ s, s < 16 → xb (fo_must w) s = omf o s := fun s hs => by rw [oc.must (by omega), hB_e _ _ hs, me0_s hs]
  have bC : ∀ s, s < 16 → xb (fo_can w) s = ocf o s := fun s hs => by rw [oc.can (by omega), hB_e _ _ hs, me0_s hs]
  have n3 : ∀ s, s < 16 → xb (X2.1 3) s = (!decide (K s = 2) || (decide (4 ≤ s) && (omf o s || !ocf o s))) := fun s hs => by
    rw [l3]
    show xb ((X1.1 3 ||| (fo_must w &&& (65520 : Int32))) ||| ((fo_can w ^^^ (-1 : Int32)) &&& (65520 : Int32))) s = _
    rw [xb_or, xb_or, xb_and, xb_and, xb_not (by omega), xb_fff0 (by omega), bK s hs, bM s hs, bC s hs]
    cases omf o s <;> cases ocf o s <;> cases decide (4 ≤ s) <;> simp [hs]
  have n4 : ∀ s, s < 16 → xb (X2.1 4) s = (decide (K s = 1) || (decide (4 ≤ s) && omf o s)) := fun s hs => by
    rw [l4]
    show xb (X1.1 4 ||| (fo_must w &&& (65520 : Int32))) s = _
    rw [xb_or, xb_and, xb_fff0 (by omega), bP s hs, bM s hs]
    cases omf o s <;> simp [hs]
  have hk2 : ∀ s, K s ≤ 2 := fun s => hX.1.2.2.2.2.1 s
  -- what must be emitted is present in the settled assignment
  have mf : ∀ s, 4 ≤ s → omf o s = true → Kf s = 1 := fun s h4 q => fx1 hfx h4 (pl1.2.1 s q)
  have cf : ∀ s, 4 ≤ s → ocf o s = false → Kf s = 0 := fun s h4 q => fx0 hfx h4 (by
    cases e : ocf (rF (gOf M Y z) 121 bg Kf) s with
    | false => rfl
    | true => rw [pl1.2.2.2 s e] at q; cases q)
  have xk2 : ∀ s, s < 16 → XK (lsK o (sK S')) me0 X2 s := fun s hs => by
    unfold XK
    rw [me0_s hs, n3 s hs, n4 s hs]
    have hks := hk2 s
    unfold lsK
    rw [kf s hs]
    by_cases h4 : 4 ≤ s
    · by_cases q : K s = 2
      · rw [if_pos ⟨h4, hs, q⟩, q]
        cases hm : omf o s with
        | true => simp [h4]
        | false =>
          cases hc : ocf o s with
          | true => simp
          | false => simp [h4]
      · rw [if_neg (fun t => q t.2.2)]
        have : Kf s = K s := ((hle s).resolve_left q).symm
        by_cases q1 : K s = 1
        · rw [q1]; simp
        · have q0 : K s = 0 := by omega
          have nm : omf o s = false := by
            cases hm : omf o s with
            | false => rfl
            | true => have := mf s h4 hm; omega
          rw [q0, nm]; simp
    · rw [if_neg (fun t => h4 t.1)]
      have := (hi0 s).2.1 (by omega)
      rw [hin s (by omega)]
      have : K0 s = 0 ∨ K0 s = 1 := by omega
      rcases this with q | q <;> rw [q] <;> simp [h4]
  refine ⟨fun hz5 => ?_, fun hz5 => ?_⟩
  · -- nothing learned
    have hkn : nKn (xl X1 w) = (xl X1 w).1 3 := by
      by_cases q : nKn (xl X1 w) = (xl X1 w).1 3
      · exact q
      · rw [if_neg q] at l5
        rw [l5] at hz5
        exact absurd hz5 (by decide)
    rw [if_pos hkn] at l5
    have hx5 : X1.1 5 = 0 := l5.symm.trans hz5
    have hL : sL S' = false := by
      rw [r4] at hx5
      exact b2i_0.mp hx5
    have hsg : ∀ k, 4 ≤ k → k < 16 → K k = 2 → ocf o k = true ∧ omf o k = false := fun k h4 h16 q => by
      have t := n3 k h16
      have : xb (X2.1 3) k = xb (X1.1 3) k := by rw [l3, hkn]; rfl
      rw [this, bK k h16, q] at t
      cases hm : omf o k <;> cases hc : ocf o k <;> simp [hm, hc, h4] at t ⊢
    obtain ⟨a1, a2, a3⟩ := pe hL hsg
    have ec : fr_mustCodes X2 = cE (omc o) := by
      unfold fr_mustCodes
      rw [l1]
      exact codes_of (fun j hj => oc.must hj)
    have hK' : sK S' = K := frm.2.2.1.2.2 hL
    refine ⟨fun p hp => ?_, ?_, fun s hs => ?_, by rw [a1]; exact ec, by rw [a1, ec], fun hc p hp => ?_⟩
    · rw [l2 0 (by decide) (by decide) (by decide)]; exact r1 p hp
    · rw [l2 2 (by decide) (by decide) (by decide)]; exact r2
    · have t := xk2 s hs
      have : lsK o (sK S') (me0 s) = Kf (me0 s) := by
        rw [me0_s hs, ← a2 s hs]
        show _ = K s
        unfold lsK
        rw [hK']
        split
        · next q =>
          obtain ⟨c1, c2⟩ := hsg s q.1 q.2.1 q.2.2
          rw [c1, c2, q.2.2]; rfl
        · rfl
      unfold XK at t ⊢
      rw [this] at t
      exact t
    · rw [l2 1 (by decide) (by decide) (by decide), a3 hc]
      exact r3 p hp
  · -- something learned
    have arr : X2.2.1 = X1.2.1 := by rw [l1]; rfl
    have x3 : ∀ s, s < 16 → xb (X.1 3) s = !decide (K s = 2) := fun s hs => by
      have := (hX.2 s hs).1
      rw [me0_s hs] at this
      exact this
    have c1 : cn (fun j => decide (X2.2.1 j = (2 : Int32))) 360 ≤ cn (fun j => decide (X.2.1 j = (2 : Int32))) 360 := cn_le _ (fun j _ q => by
      rw [decide_eq_true_eq] at q ⊢
      rw [arr] at q
      exact dec.1 j q)
    have c2 : cn (fun s => !xb (X2.1 3) s) 16 ≤ cn (fun s => !xb (X.1 3) s) 16 := cn_le _ (fun s hs q => by
      rw [n3 s hs] at q
      rw [x3 s hs]
      cases e : decide (K s = 2) with
      | true => rfl
      | false => rw [e] at q; simp at q)
    refine ⟨?_, lsK o (sK S'), ?_, ?_, fun k hk => ?_⟩
    · by_cases q : X1.1 5 = 0
      · have hkn : ¬ nKn (xl X1 w) = (xl X1 w).1 3 := fun t => by
          rw [if_pos t] at l5
          exact hz5 (l5.trans q)
        have : ∃ s, s < 16 ∧ (!xb (X.1 3) s) = true ∧ (!xb (X2.1 3) s) = false := by
          by_cases ex : ∃ s, s < 16 ∧ (!xb (X.1 3) s) = true ∧ (!xb (X2.1 3) s) = false
          · exact ex
          · exfalso
            apply hkn
            rw [← l3]
            apply xb_ext
            intro j hj
            show _ = xb (X1.1 3) j
            by_cases h16 : j < 16
            · rw [bK j h16]
              cases e : decide (K j = 2) with
              | false => rw [n3 j h16, e]; rfl
              | true =>
                cases e3 : xb (X2.1 3) j with
                | false => rfl
                | true => exact absurd ⟨j, h16, by rw [x3 j h16, e]; rfl, by rw [e3]; rfl⟩ ex
            · rw [l3]
              show xb ((X1.1 3 ||| (fo_must w &&& (65520 : Int32))) ||| ((fo_can w ^^^ (-1 : Int32)) &&& (65520 : Int32))) j = _
              rw [xb_or, xb_or, xb_and, xb_and, xb_fff0 hj]
              simp [h16]
        have c3 := cn_lt 16 (fun s hs q => by
          rw [n3 s hs] at q
          rw [x3 s hs]
          cases e : decide (K s = 2) with
          | true => rfl
          | false => rw [e] at q; simp at q) this
        unfold mu
        omega
      · rcases dec.2 q with t | ⟨j, j1, j2, j3⟩
        · exact absurd rfl t
        · have c3 : cn (fun j => decide (X2.2.1 j = (2 : Int32))) 360 < cn (fun j => decide (X.2.1 j = (2 : Int32))) 360 := cn_lt _ (fun j _ q => by
            rw [decide_eq_true_eq] at q ⊢
            rw [arr] at q
            exact dec.1 j q) ⟨j, j1, decide_eq_true j2, decide_eq_false (by rw [arr]; exact j3)⟩
          unfold mu
          omega
    · refine ⟨⟨fun p hp => ?_, ?_, fun p hp => ?_, ?_, fun k => ?_, fun i r st w x1 x2 x3 => ?_⟩, fun s hs => ?_⟩
      · rw [xw_at, if_neg (by decide), xw_at, if_neg (by decide), l2 0 (by decide) (by decide) (by decide)]; exact r1 p hp
      · rw [xw_at, if_neg (by decide), xw_at, if_neg (by decide), l2 2 (by decide) (by decide) (by decide)]; exact r2
      · rw [xw_at, if_pos rfl, xb_0]; rfl
      · rw [xw_at, if_neg (by decide), xw_at, if_pos rfl]; rfl
      · show lsK o (sK S') k ≤ 2
        unfold lsK
        split
        · split
          · omega
          · split <;> omega
        · exact r5 k
      · show X2.2.1 (pwb P i + r) = Int32.ofNat (lsK o (sK S') (slt i st w))
        rw [arr, r6 i r st w x1 x2 x3]
        unfold lsK
        rw [if_neg (by unfold slt; omega)]
      · have t := xk2 s hs
        unfold XK at t ⊢
        rw [xw_at, if_neg (by decide), xw_at, if_neg (by decide), xw_at, if_neg (by decide), xw_at, if_neg (by decide)]
        exact t
    · intro k
      unfold lsK
      split
      · next q =>
        have : K k = 2 := (kf k q.2.1).symm.trans q.2.2
        cases hm : omf o k with
        | true => exact Or.inr (mf k q.1 hm).symm
        | false =>
          cases hc : ocf o k with
          | true => exact Or.inl rfl
          | false => exact Or.inr (cf k q.1 hc).symm
      · exact pl2 k
    · unfold lsK
      rw [if_neg (by omega), kf k (by omega)]
      exact hin k hk
end FOUND
