/-! THE RELATION of class and reference -/
def zM (M : mT) : Nat := (M.1 0).toNatClampNeg
def cR (S : kT) (P : pT) (X : xT) (M : mT) (Y : yT) (_ : vT) : Prop :=
  bX P M ∧ (S 0 = Y.1 0 ∧ S 1 = Y.1 1) ∧ (∀ s, s < 16 → fk_statusIn (S 2) (S 3) (Int32.ofNat s) = Y.2 1 s) ∧ (∀ p, p < 32 → xb (X.1 0) p = ysel Y p ∧ Y.2 0 p = b2i (ysel Y p)) ∧
  (S 0 = 0 → S 1 = 0 ∧ (∀ s, s < 16 → Y.2 1 s = 0) ∧ ∀ p, p < 32 → ysel Y p = false) ∧
  (¬ S 0 = 0 → P.1 2 = 0 ∧ fF M (zM M) 0 = -1) ∧
  (S 0 = 1 → ∃ bg : Bool, X.1 2 = b2i (!bg) ∧ Y.1 2 = b2i bg ∧ (bg = false → ghas (gOf M Y (zM M)) 0 = true))
section REL
variable {S : kT} {P : pT} {X : xT} {M : mT} {Y : yT} {V : vT} {z W : Nat}
theorem zM_eq (h : wH P M z W) : zM M = z := by
  have := h.2.1.1
  unfold zM
  rw [h.2.2.2.1, n_of (by omega)]
theorem restK_ok (ph : Int32) : ∀ (n k : Nat) (Y : yT), 32 ≤ k + n → k ≤ 32 → yUp Y (fm_restK n Y ph (Int32.ofNat k)).2 0 k 32 (fun _ => 0) := by
  intro n
  induction n with
  | zero => intro k Y h1 h2; exact yUp.rf (by omega)
  | succ n ih =>
    intro k Y h1 h2
    rw [fm_restK]
    by_cases q : 32 ≤ k
    · have q' : (32 : Int32) ≤ Int32.ofNat k := (o_le (a := 32) (by omega) (by omega)).mpr q
      rw [if_pos q']; exact yUp.rf q
    · have q' : ¬ (32 : Int32) ≤ Int32.ofNat k := fun t => q ((o_le (a := 32) (by omega) (by omega)).mp t)
      rw [if_neg q', n_of (by omega), o_add, nar0]
      exact yUp.st (by omega) (ih (k + 1) _ (by omega) (by omega))
theorem restS_ok : ∀ (n k : Nat) (Y : yT), 16 ≤ k + n → k ≤ 16 → yUp Y (fm_restS n Y (Int32.ofNat k)).2 1 k 16 (fun _ => 0) := by
  intro n
  induction n with
  | zero => intro k Y h1 h2; exact yUp.rf (by omega)
  | succ n ih =>
    intro k Y h1 h2
    rw [fm_restS]
    by_cases q : 16 ≤ k
    · have q' : (16 : Int32) ≤ Int32.ofNat k := (o_le (a := 16) (by omega) (by omega)).mpr q
      rw [if_pos q']; exact yUp.rf q
    · have q' : ¬ (16 : Int32) ≤ Int32.ofNat k := fun t => q ((o_le (a := 16) (by omega) (by omega)).mp t)
      rw [if_neg q', n_of (by omega), o_add]
      exact yUp.st (by omega) (ih (k + 1) _ (by omega) (by omega))
theorem rest_ok (Y : yT) (ph : Int32) : (fm_rest Y ph).1 0 = ph ∧ (fm_rest Y ph).1 1 = 0 ∧ (∀ p, p < 32 → (fm_rest Y ph).2 0 p = 0) ∧ (∀ s, s < 16 → (fm_rest Y ph).2 1 s = 0) := by
  obtain ⟨a1, a2, a3⟩ := restK_ok ph 33 0 (y1w (y1w Y 0 ph) 1 0) (by omega) (by omega)
  obtain ⟨b1, b2, b3⟩ := restS_ok 17 0 (fm_restK 33 (y1w (y1w Y 0 ph) 1 0) ph (Int32.ofNat 0)).2 (by omega) (by omega)
  have e : fm_rest Y ph = (fm_restS 17 (fm_restK 33 (y1w (y1w Y 0 ph) 1 0) ph (Int32.ofNat 0)).2 (Int32.ofNat 0)).2 := rfl
  rw [e]
  refine ⟨?_, ?_, fun p hp => ?_, fun s hs => ?_⟩
  · rw [b1, a1, y1w_at, if_neg (by decide), y1w_at, if_pos rfl]
  · rw [b1, a1, y1w_at, if_pos rfl]
  · rw [b2 0 (by decide), a3, if_pos (by omega)]
  · rw [b3, if_pos (by omega)]
theorem ysel_0 {p : Nat} (h : Y.2 0 p = 0) : ysel Y p = false := by unfold ysel; simp [h]
theorem st_0 {s : Nat} (hs : s < 16) : fk_statusIn (65535 : Int32) (0 : Int32) (Int32.ofNat s) = 0 := by
  have : ∀ s, s < 16 → fk_statusIn (65535 : Int32) (0 : Int32) (Int32.ofNat s) = 0 := by decide +kernel
  exact this s hs
theorem due_0 (hb : bX P M) : M.1 3 ≤ 0 ↔ P.1 2 = 0 := by
  obtain ⟨hd, z, L, op, lf, np, W, h, -⟩ := hb
  have hR := h.2.2.2.2.2.2.2.2.2.2
  have sl := sm_le (f := lf) L (fun j hj => (h.2.1 j hj).2.2.2.2.2.1)
  have hL := h.1.2.1.2.2
  rw [hd, hR]
  have a : (if z = 0 then 1 else sm lf L) < 2147483648 := by split <;> omega
  rw [le0 a, eq0 a]
theorem whole_1 : fp_isWhole P = 0 ↔ ¬ P.1 2 = 0 := by
  unfold fp_isWhole
  by_cases q : P.1 2 = 0
  · rw [if_pos q]; exact ⟨fun t => absurd t (by decide), fun t => absurd q t⟩
  · rw [if_neg q]; exact ⟨fun _ => q, fun _ => rfl⟩
theorem rel_minv : lwR_minv cR := by
  intro S P X M Y V h
  obtain ⟨⟨-, z, L, op, lf, np, W, ⟨⟨⟨a1, a2, a3⟩, ⟨a4, a5, a6⟩, ⟨a7, a8, a9⟩, -⟩, hB, -⟩, -⟩, -⟩ := h
  have t : ∀ n : Nat, n ≤ 1000 → (Int32.ofNat n).toInt = n := fun n hn => Int32.toInt_ofNat_of_lt (by omega)
  refine ⟨?_, ?_, fun j hj => ?_, ?_⟩
  · unfold mS; rw [a1, t z (by omega)]; omega
  · unfold mL; rw [a4, t L (by omega)]; omega
  · rw [a4, t L (by omega)] at hj
    have b := hB j (by omega)
    rw [b.1]
    exact vp_in_iff.mpr ⟨by rw [t _ (by omega)]; omega, by rw [t _ (by omega)]; omega⟩
  · rw [a7, t np (by omega)]; omega
theorem rel_pinv : lwR_pinv cR := by
  intro S P X M Y V h
  obtain ⟨⟨-, z, L, op, lf, np, W, ⟨⟨⟨a1, a2, a3⟩, ⟨a4, a5, a6⟩, ⟨a7, a8, a9⟩, -⟩, hB, -⟩, -⟩, -⟩ := h
  have t : ∀ n : Nat, n ≤ 1000 → (Int32.ofNat n).toInt = n := fun n hn => Int32.toInt_ofNat_of_lt (by omega)
  refine ⟨?_, ?_, fun j hj => ?_⟩
  · unfold pS; rw [a2, t z (by omega)]; omega
  · unfold pL; rw [a5, t L (by omega)]; omega
  · rw [a5, t L (by omega)] at hj
    have b := hB j (by omega)
    rw [b.2.1]
    exact vp_in_iff.mpr ⟨by rw [t _ (by omega)]; omega, by rw [t _ (by omega)]; omega⟩
theorem rel_put : lwR_put cR := by
  intro S P X M Y V T a b h
  obtain ⟨h1, h2, h3, h4, h5, h6, h7⟩ := h
  rcases put_ok h1 T a b with ⟨x1, x2, x3⟩ | ⟨x1, x2, x3, x4⟩ | ⟨x1, x2, x3, x4, x5⟩
  · exact Or.inl ⟨x1, x2, by rw [x3]; exact ⟨h1, h2, h3, h4, h5, h6, h7⟩⟩
  · exact Or.inr (Or.inl ⟨x1, x2, x3, by rw [x4]; exact ⟨h1, h2, h3, h4, h5, h6, h7⟩⟩)
  · have s0 : S 0 = 0 := by
      by_cases q : S 0 = 0
      · exact q
      · exact absurd (h6 q).1 (whole_1.mp x1)
    exact Or.inr (Or.inr ⟨x1, x2, x3, x4, x5, h2, h3, h4, h5, fun q => absurd s0 q, fun q => absurd (s0.symm.trans q) (by decide)⟩)
theorem bX.p6 {P' : pT} (h : bX P M) (h1 : P'.1 = P.1) (h2 : ∀ a, a ≠ 6 → P'.2 a = P.2 a) : bX P' M := by
  obtain ⟨hd, z, L, op, lf, np, W, ⟨hA, hB, hN, hC, hE, hO, hP, hW, hR⟩, hst⟩ := h
  have ew : pwt P' = pwt P := by unfold pwt; rw [h2 3 (by decide)]
  have eb : pwb P' = pwb P := by unfold pwb; rw [h2 4 (by decide)]
  refine ⟨by rw [h1]; exact hd, z, L, op, lf, np, W, ⟨?_, ?_, ?_, ?_, hE, hO, ?_, ?_, ?_⟩, hst⟩
  · unfold bA at hA ⊢; rw [h1]; exact hA
  · unfold bB at hB ⊢; rw [h2 7 (by decide), h2 8 (by decide)]; exact hB
  · exact fun i hi => (hN i hi).cg (fun _ _ => rfl) (fun a ha => by rw [h2 a (by omega)])
  · intro a ha
    have := hC a ha
    unfold cF at this ⊢
    rw [ew, h2 2 (by decide)]; exact this
  · unfold bP at hP ⊢; rw [h2 5 (by decide)]; exact hP
  · unfold bW at hW ⊢; rw [ew, eb]; exact hW
  · unfold bR at hR ⊢; rw [h1]; exact hR
theorem rew_ok (S : kT) (X : xT) (ph : Int32) : (fk_rewind S X ph).1 0 = ph ∧ (fk_rewind S X ph).1 1 = 0 ∧ (fk_rewind S X ph).1 2 = 65535 ∧ (fk_rewind S X ph).1 3 = 0 ∧ (fk_rewind S X ph).2.1 0 = 0 ∧ (fk_rewind S X ph).2.1 2 = 0 := by
  unfold fk_rewind fr_rewind
  refine ⟨?_, ?_, ?_, ?_, ?_, ?_⟩ <;> simp [kw, va_up, xw_at]
theorem rel_start : lwR_start cR := by
  intro S P X M Y V T h
  obtain ⟨h1, h2, h3, h4, h5, h6, h7⟩ := h
  have d0 := due_0 h1
  have f0 : (fm_startF T M) = if P.1 2 = 0 then (0, 0) else (1, 1) := by
    unfold fm_startF
    by_cases q : P.1 2 = 0
    · rw [if_pos (d0.mpr q), if_pos q]; rfl
    · rw [if_neg (fun t => q (d0.mp t)), if_neg q]; rfl
  refine ⟨fun q => ?_, ?_⟩
  · have w : P.1 2 = 0 := by
      by_cases r : P.1 2 = 0
      · exact r
      · rw [f0, if_neg r] at q; exact absurd q (by decide)
    obtain ⟨z, W, hw⟩ := wH_of h1 w
    exact (wH_mW hw).1
  · by_cases w : P.1 2 = 0
    · right
      obtain ⟨z, W, hw⟩ := wH_of h1 w
      have hwh : ¬ fp_isWhole P = 0 := fun t => whole_1.mp t w
      have zm := zM_eq hw
      obtain ⟨hz, hF, hP, hm, hg0, ht0, hWW, hl4, -⟩ := hw
      have hz1 := hF.1
      have fl := firstL_ok hF z 121 P (Nat.le_refl _) (by omega) hP (fun j a b => by omega)
      rw [Nat.sub_self, show fF M 0 z = -1 from rfl] at fl
      have e1 : fp_firstLoopAtOnce P = fp_firstL 121 P (-1) (Int32.ofNat (lp M z)) (Int32.ofNat z - 1) := by
        unfold fp_firstLoopAtOnce lp
        rw [hl4, hP.1]
      rw [← e1] at fl
      obtain ⟨fl1, fl2, fl3⟩ := fl
      have hbX := h1.p6 fl2 fl3
      have es : fm_start T M Y = fm_startL 121 0 M (fm_rest Y 0) (Int32.ofNat (lp M 0)) (Int32.ofNat 0) := by
        unfold fm_start
        rw [f0, if_pos w, if_pos rfl]
        rfl
      obtain ⟨r1, r2, r3, r4⟩ := rest_ok Y 0
      have sl := startL_ok hF hm 0 (fm_rest Y 0) 121 0 (by omega) (by omega)
      rw [← es, Nat.sub_zero] at sl
      clear es
      generalize fm_rest Y 0 = Yr at r1 r2 r3 r4 sl
      refine ⟨hwh, ?_⟩
      rcases sl with ⟨s1, s2⟩ | ⟨l, l0, s1, s2⟩
      · rw [s1] at fl1
        rw [s2]
        unfold fk_start
        rw [if_neg hwh, if_pos fl1]
        obtain ⟨w0, w1, w2, w3, w4, w5⟩ := rew_ok S X 1
        refine ⟨rfl, rfl, hbX, ⟨?_, ?_⟩, fun s hs => ?_, fun p hp => ?_, fun q => ?_, fun _ => ⟨?_, ?_⟩, fun _ => ⟨true, ?_, ?_, fun q => by cases q⟩⟩
        · show (fk_rewind S X 1).1 0 = (y1w (y1w Yr 0 1) 2 1).1 0
          rw [w0, y1w_at, if_neg (by decide), y1w_at, if_pos rfl]
        · show (fk_rewind S X 1).1 1 = (y1w (y1w Yr 0 1) 2 1).1 1
          rw [w1, y1w_at, if_neg (by decide), y1w_at, if_neg (by decide), r2]
        · show fk_statusIn ((fk_rewind S X 1).1 2) ((fk_rewind S X 1).1 3) (Int32.ofNat s) = Yr.2 1 s
          rw [w2, w3, st_0 hs, r4 s hs]
        · have e : Yr.2 0 p = 0 := r3 p hp
          have ey : ysel (y1w (y1w Yr 0 1) 2 1) p = false := ysel_0 e
          dsimp only
          rw [w4, xb_0, ey]
          exact ⟨rfl, e⟩
        · have q' : (fk_rewind S X 1).1 0 = 0 := q
          rw [w0] at q'; exact absurd q' (by decide)
        · show (fp_firstLoopAtOnce P).2.1 2 = 0
          rw [fl2]; exact w
        · rw [zm]; exact s1
        · exact w5
        · show (y1w (y1w Yr 0 1) 2 1).1 2 = 1
          rw [y1w_at, if_pos rfl]
      · have nr : ¬ (fp_firstLoopAtOnce P).1 = (-1 : Int32) := by rw [fl1, s1]; exact o_m1 (Nat.lt_of_le_of_lt l0 (by decide))
        have s0 : S 0 = 0 := by
          by_cases q : S 0 = 0
          · exact q
          · exfalso
            have := (h6 q).2
            rw [zm, s1] at this
            exact o_m1 (Nat.lt_of_le_of_lt l0 (by decide)) this
        obtain ⟨v1, v2, v3⟩ := h5 s0
        rw [s2]
        unfold fk_start
        rw [if_neg hwh, if_neg nr]
        refine ⟨rfl, ?_, hbX, ⟨?_, ?_⟩, fun s hs => ?_, fun p hp => ?_, fun q => ⟨v1, fun s hs => r4 s hs, fun p hp => ysel_0 (r3 p hp)⟩, fun q => absurd s0 q, fun q => absurd (s0.symm.trans q) (by decide)⟩
        · show (1 : Int32) + (fp_firstLoopAtOnce P).1 = Int32.ofNat l + 1
          rw [fl1, s1, Int32.add_comm]
        · rw [r1]; exact s0
        · rw [r2]; exact v1
        · rw [h3 s hs, v2 s hs, r4 s hs]
        · have ey : ysel Yr p = false := ysel_0 (r3 p hp)
          rw [(h4 p hp).1, v3 p hp, ey, r3 p hp]
          exact ⟨rfl, rfl⟩
    · left
      have hwh : fp_isWhole P = 0 := whole_1.mpr w
      have es : fm_start T M Y = (0, 1, Y) := by
        unfold fm_start
        rw [f0, if_neg w, if_neg (by decide)]
      rw [es]
      exact ⟨hwh, rfl, h1, h2, h3, h4, h5, h6, h7⟩
theorem rel_clear : lwR_clear cR := by
  intro S P X M Y V T h
  obtain ⟨h1, h2, h3, h4, h5, h6, h7⟩ := h
  obtain ⟨w0, w1, w2, w3, w4, w5⟩ := rew_ok S X 0
  obtain ⟨r1, r2, r3, r4⟩ := rest_ok Y 0
  have e0 : P.1 1 = M.1 0 := by
    obtain ⟨-, z, L, op, lf, np, W, ⟨⟨⟨a1, a2, a3⟩, -⟩, -⟩, -⟩ := h1
    rw [a1, a2]
  refine ⟨e0, ?_⟩
  have ec : (fm_clear T M Y).2.2.2 = fm_rest Y 0 := rfl
  rw [ec]
  generalize fm_rest Y 0 = Yr at r1 r2 r3 r4
  refine ⟨⟨rfl, 0, 0, fun _ => 0, fun _ => 0, 0, 0, ⟨⟨⟨rfl, rfl, by omega⟩, ⟨rfl, rfl, by omega⟩, ⟨rfl, rfl, by omega⟩, ⟨rfl, rfl, by omega⟩, rfl⟩, fun j hj => absurd hj (Nat.not_lt_zero j), fun j hj => absurd hj (Nat.not_lt_zero j), fun j hj => absurd hj (Nat.not_lt_zero j), fun j hj => absurd hj (Nat.not_lt_zero j), fun j hj => absurd hj (Nat.not_lt_zero j), ⟨fun j hj => absurd hj (Nat.not_lt_zero j), fun j _ hj => absurd hj (Nat.not_lt_zero j), fun j hj => absurd hj (Nat.not_lt_zero j)⟩, ⟨fun j hj => absurd hj (Nat.not_lt_zero j), fun _ => rfl⟩, ⟨fun q => absurd q (Nat.lt_irrefl 0), fun _ => rfl, rfl⟩⟩, fun q => absurd q (Nat.lt_irrefl 0)⟩, ⟨?_, ?_⟩, fun s hs => ?_, fun p hp => ?_, fun _ => ⟨w1, fun s hs => r4 s hs, fun p hp => ysel_0 (r3 p hp)⟩, fun q => absurd w0 q, fun q => absurd (w0.symm.trans q) (by decide)⟩
  · exact w0.trans r1.symm
  · exact w1.trans r2.symm
  · show fk_statusIn ((fk_rewind S X 0).1 2) ((fk_rewind S X 0).1 3) (Int32.ofNat s) = Yr.2 1 s
    rw [w2, w3, st_0 hs, r4 s hs]
  · have ey : ysel Yr p = false := ysel_0 (r3 p hp)
    show xb ((fk_rewind S X 0).2.1 0) p = ysel Yr p ∧ Yr.2 0 p = b2i (ysel Yr p)
    rw [w4, xb_0, ey, r3 p hp]
    exact ⟨rfl, rfl⟩
end REL
