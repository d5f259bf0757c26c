section CRUN2
variable {P : pT} {M : mT} {Y : yT} {z : Nat} {bg : Bool} {me : Nat → Nat}
theorem X0.lrn (hF : mF M z) (hP : pF P M z) {X : xT} {S : gS} {i r w : Nat} {st : Bool} {v : Nat} (hi : i < z) (hr : vr P M bg i r st w) (hv : v ≤ 2) (h : X0 P M Y z bg X S) : X0 P M Y z bg (xw (xa X (pwb P i + r) (Int32.ofNat v)) 5 1) (upN (sK S) (slt i st w) v, sN S, true) := by
  obtain ⟨a, b, c, d, e, f⟩ := h
  refine ⟨a, b, c, rfl, fun k => ?_, fun j q st' w' x1 x2 x3 => ?_⟩
  · show upN (sK S) (slt i st w) v k ≤ 2
    unfold upN; split
    · exact hv
    · exact e k
  · show (xa X (pwb P i + r) (Int32.ofNat v)).2.1 (pwb P j + q) = Int32.ofNat (upN (sK S) (slt i st w) v (slt j st' w'))
    rw [xa_2]
    have u := vs_inj hF hP x1 hi x3 hr
    unfold upN
    by_cases y : pwb P j + q = pwb P i + r
    · rw [if_pos y, if_pos (u.mp y)]
    · rw [if_neg y, if_neg (fun t => y (u.mpr t))]
      exact f j q st' w' x1 x2 x3
theorem sc_local (hF : mF M z) (hP : pF P M z) {i r w : Nat} {st b : Bool} (hi : i < z) (h10 : mso M i = 10) (hr : vr P M bg i r st w) (hme : ∀ s, me s < 16 + 27 * i) (inj : ∀ s t, s < 16 → t < 16 → me s = me t → s = t) {R : krT} {B : gM} (ok : ∀ S, oOk b (B S).1) (hfr : Fr true (fun k => ∃ s, s < 16 ∧ upN me (mxo M i) (slt i st w) s = k) (SI (gOf M Y z) (i + 1) st w) b B) (hR : SC P M Y z bg (upN me (mxo M i) (slt i st w)) (fun X => R X (Int32.ofNat (i + 1)) (Int32.ofNat r) (b2i b)) B) : SC P M Y z bg me (fun X => fr_runLocal R P X (Int32.ofNat i) (Int32.ofNat r) (b2i b)) (gLoc true (slt i st w) B) := by
  have hz := hF.1
  have hx := (hF.2.1 i hi).2.2.2.2.2.1 (Or.inr h10)
  have hlt := vr_lt hF hP hi hr
  have h360 := (hP.2 i hi).2.2.2.2.1.1
  have eop : fp_operandOf P (Int32.ofNat i) = Int32.ofNat (mxo M i) := (oper_at hF hP hi).trans hx.1
  have esl : fp_weightBefore P (Int32.ofNat i) + Int32.ofNat r = Int32.ofNat (pwb P i + r) := by rw [wb_at hF hP hi]; exact (Int32.ofNat_add _ _).symm
  have hmk : ∀ s, me s ≠ slt i st w := fun s q => by have := hme s; unfold slt at q; split at q <;> omega
  have hmS : ∀ s, ¬ SI (gOf M Y z) (i + 1) st w (me s) := fun s q => by
    have := hme s
    have := q.2.1
    have := q.1
    omega
  have fro : ∀ S s, sK (B S).2 (me s) = sK S (me s) := fun S s => by
    by_cases q : sK (B S).2 (me s) = sK S (me s)
    · exact q
    · exact absurd ((hfr S).2.1 _ q).1 (hmS s)
  have em0 : ∀ S, ocf (B S).1 (me (mxo M i)) = false := fun S => by
    refine cf_false (Me := fun k => ∃ s, s < 16 ∧ upN me (mxo M i) (slt i st w) s = k) (hfr S).1 ?_ (hmS _)
    rintro ⟨s, hs, q⟩
    unfold upN at q
    split at q
    · exact hmk _ q.symm
    · next ne => exact ne (inj s _ hs hx.2.2 q)
  have run : ∀ X S, X0 P M Y z bg X S → (∀ s, s < 16 → s ≠ mxo M i → XK (sK S) me X s) → oC (upN me (mxo M i) (slt i st w)) (fr_runWithStatus R P X (Int32.ofNat i) (Int32.ofNat r) (b2i b)).1 (B S).1 ∧ XR P M Y z bg (upN me (mxo M i) (slt i st w)) (fr_runWithStatus R P X (Int32.ofNat i) (Int32.ofNat r) (b2i b)).2 (B S).2 := fun X S h0 hk => by
    rw [rws_eq, eop, esl, stat_at (by omega), h0.2.2.2.2.2 i r st w hi h10 hr, o_add]
    exact hR _ S (stK_XR hx.2.2 h0 hk)
  have fin : ∀ X S X1 w1 (S0 : gS), XR P M Y z bg me X S → (∀ s, sK S0 (me s) = sK S (me s)) → oC (upN me (mxo M i) (slt i st w)) w1 (B S0).1 → XR P M Y z bg (upN me (mxo M i) (slt i st w)) X1 (B S0).2 → oC me (fo_withoutSignal w1 (Int32.ofNat (mxo M i))) (B S0).1 ∧ XR P M Y z bg me (xw (xw X1 3 (X.1 3)) 4 (X.1 4)) (B S0).2 := fun X S X1 w1 S0 hX hS ho hX1 => by
    refine ⟨oC_wo hx.2.2 (fun s _ ne => by simp [upN, ne]) (em0 S0) (mf_false (ok S0) (em0 S0)) ho, hX1.1.cg34 rfl rfl rfl rfl rfl, fun s hs => ?_⟩
    have k := hX.2 s hs
    unfold XK
    rw [fro, hS]
    exact k
  intro X S hX
  obtain ⟨a1, a2⟩ := run X S hX.1 (fun s hs _ => hX.2 s hs)
  have es := a2.1.2.2.2.2.2 i r st w hi h10 hr
  have hK2 := a2.1.2.2.2.2.1 (slt i st w)
  dsimp only
  unfold fr_runLocal gLoc
  rw [esl, eop, stat_at (by omega), es]
  have ux : upN me (mxo M i) (slt i st w) (mxo M i) = slt i st w := by simp [upN]
  by_cases q : sK (B S).2 (slt i st w) = 2
  · have q' : Int32.ofNat (sK (B S).2 (slt i st w)) = (2 : Int32) := by rw [q]; rfl
    rw [if_pos q']
    have em : fk_hasBit (fo_must (fr_runWithStatus R P X (Int32.ofNat i) (Int32.ofNat r) (b2i b)).1) (Int32.ofNat (mxo M i)) = b2i (omf (B S).1 (slt i st w)) := by
      rw [hasBit_eq (by omega), a1.must (by omega), hB_e _ _ hx.2.2, ux]
    have ec : fk_hasBit (fo_can (fr_runWithStatus R P X (Int32.ofNat i) (Int32.ofNat r) (b2i b)).1) (Int32.ofNat (mxo M i)) = b2i (ocf (B S).1 (slt i st w)) := by
      rw [hasBit_eq (by omega), a1.can (by omega), hB_e _ _ hx.2.2, ux]
    have again : ∀ v : Nat, v ≤ 2 → oC me (fo_withoutSignal (fr_runWithStatus R P (xw (xa (fr_runWithStatus R P X (Int32.ofNat i) (Int32.ofNat r) (b2i b)).2 (pwb P i + r) (Int32.ofNat v)) 5 1) (Int32.ofNat i) (Int32.ofNat r) (b2i b)).1 (Int32.ofNat (mxo M i))) (B (upN (sK (B S).2) (slt i st w) v, sN (B S).2, true)).1 ∧ XR P M Y z bg me (xw (xw (fr_runWithStatus R P (xw (xa (fr_runWithStatus R P X (Int32.ofNat i) (Int32.ofNat r) (b2i b)).2 (pwb P i + r) (Int32.ofNat v)) 5 1) (Int32.ofNat i) (Int32.ofNat r) (b2i b)).2 3 (X.1 3)) 4 (X.1 4)) (B (upN (sK (B S).2) (slt i st w) v, sN (B S).2, true)).2 := fun v hv => by
      obtain ⟨c1, c2⟩ := run (xw (xa (fr_runWithStatus R P X (Int32.ofNat i) (Int32.ofNat r) (b2i b)).2 (pwb P i + r) (Int32.ofNat v)) 5 1) (upN (sK (B S).2) (slt i st w) v, sN (B S).2, true) (a2.1.lrn hF hP hi hr hv) (fun s hs ne => by
        have k := a2.2 s hs
        have u : upN me (mxo M i) (slt i st w) s = me s := by simp [upN, ne]
        unfold XK at k ⊢
        rw [u] at k
        have e : sK ((upN (sK (B S).2) (slt i st w) v, sN (B S).2, true) : gS) (me s) = sK (B S).2 (me s) := by
          show upN (sK (B S).2) (slt i st w) v (me s) = _
          unfold upN
          rw [if_neg (hmk s)]
        rw [e]
        exact k)
      refine fin X S _ _ _ hX (fun s => ?_) c1 c2
      show upN (sK (B S).2) (slt i st w) v (me s) = _
      unfold upN
      rw [if_neg (hmk s)]
      exact fro S s
    have eL : ∀ U : xT, fr_learnLocal U (Int32.ofNat (pwb P i + r)) (Int32.ofNat (mxo M i)) (fr_runWithStatus R P X (Int32.ofNat i) (Int32.ofNat r) (b2i b)).1 = if omf (B S).1 (slt i st w) = true then ((1 : Int32), xw (xa U (pwb P i + r) (Int32.ofNat 1)) 5 1) else if ocf (B S).1 (slt i st w) = true then ((0 : Int32), U) else ((1 : Int32), xw (xa U (pwb P i + r) (Int32.ofNat 0)) 5 1) := fun U => by
      unfold fr_learnLocal
      rw [em, ec, lrn_at (by omega), lrn_at (by omega)]
      cases omf (B S).1 (slt i st w) <;> cases ocf (B S).1 (slt i st w) <;> rfl
    rw [eL]
    cases m : omf (B S).1 (slt i st w) with
    | true =>
      rw [if_pos rfl]
      have c1 : (true && decide (sK (B S).2 (slt i st w) = 2) && lnv (B S).1 (slt i st w)) = true := by simp [q, lnv, m]
      rw [if_pos c1, if_pos rfl]
      dsimp only
      rw [if_neg (by decide)]
      exact again 1 (by omega)
    | false =>
      rw [if_neg (show ¬ false = true by decide)]
      cases cc : ocf (B S).1 (slt i st w) with
      | false =>
        rw [if_neg (show ¬ false = true by decide)]
        have c1 : (true && decide (sK (B S).2 (slt i st w) = 2) && lnv (B S).1 (slt i st w)) = true := by simp [q, lnv, m, cc]
        rw [if_pos c1, if_neg (show ¬ false = true by decide)]
        dsimp only
        rw [if_neg (by decide)]
        exact again 0 (by omega)
      | true =>
        rw [if_pos rfl]
        have c1 : ¬ (true && decide (sK (B S).2 (slt i st w) = 2) && lnv (B S).1 (slt i st w)) = true := by simp [lnv, m, cc]
        rw [if_neg c1]
        dsimp only
        rw [if_pos rfl]
        exact fin X S _ _ S hX (fun _ => rfl) a1 a2
  · have q' : ¬ Int32.ofNat (sK (B S).2 (slt i st w)) = (2 : Int32) := fun t => q (o_inj (b := 2) (by omega) (by omega) t)
    rw [if_neg q', if_neg (by simp [q])]
    exact fin X S _ _ S hX (fun _ => rfl) a1 a2
theorem cE_four {b : Bool} {o : gO} (ok : oOk b o) : cE (omc o) = (4 : Int32) ↔ omc o 2 = true := by
  constructor
  · intro h
    have a := cE_b (omc o) (j := 2) (by decide)
    rw [h] at a
    exact a.symm
  · intro h
    have : cE (omc o) = cE (fun n => decide (n = 2)) := by
      apply cE_cg
      intro c _
      cases q : omc o c with
      | true => rw [ok_u ok q h]; rfl
      | false =>
        have : c ≠ 2 := fun e => by rw [e, h] at q; cases q
        simp [this]
    rw [this]; decide
theorem sc_trap (hF : mF M z) (hP : pF P M z) {i : Nat} {rk su : Int32} {b : Bool} (hi : i < z) {R : krT} {B : gM} (ok : ∀ S, oOk b (B S).1) (cc : ∀ S c, occ (B S).1 c = true → c < 7) (hR : SC P M Y z bg me (fun X => R X (Int32.ofNat (i + 1)) rk su) B) : SC P M Y z bg me (fun X => fr_runTrap R P X (Int32.ofNat i) rk su) (gTrap (mhp M z i) B) := by
  intro X S hX
  obtain ⟨a1, a2⟩ := hR X S hX
  have o7 : occ (B S).1 7 = false := by
    cases q : occ (B S).1 7 with
    | false => rfl
    | true => have := cc S 7 q; omega
  have m7 : omc (B S).1 7 = false := by
    cases q : omc (B S).1 7 with
    | false => rfl
    | true => have := cc S 7 ((ok S).1 7 q); omega
  have e4 : fo_codesIn (fo_must (R X (Int32.ofNat (i + 1)) rk su).1) = cE (omc (B S).1) := codes_of (fun j hj => a1.must hj)
  dsimp only at a1 a2 ⊢
  unfold fr_runTrap gTrap
  rw [o_add, e4]
  cases m : omc (B S).1 2 with
  | false =>
    rw [if_neg (fun t => by rw [(cE_four (ok S)).mp t] at m; cases m), if_neg (by decide)]
    exact ⟨oC_T o7 m7 a1, a2⟩
  | true =>
    rw [if_pos ((cE_four (ok S)).mpr m), if_pos rfl]
    refine ⟨oC_T o7 m7 a1, ⟨a2.1.1, a2.1.2.1, fun p hp => ?_, a2.1.2.2.2⟩, a2.2⟩
    dsimp only
    rw [xw_at, if_pos rfl, xb_and, xb_not hp, pau_at hF hP hi hp, a2.1.2.2.1 p hp]
    rfl
end CRUN2
