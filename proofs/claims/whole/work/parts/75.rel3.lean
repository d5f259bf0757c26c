section REL3
variable {S : kT} {P : pT} {X : xT} {M : mT} {Y : yT} {V : vT} {z W : Nat}
theorem rel_status : lwR_status cR := by
  intro S P X M Y V T a h
  obtain ⟨h1, h2, h3, h4, h5, h6, h7⟩ := h
  by_cases b0 : a < 0
  · left
    refine ⟨Or.inl b0, ?_⟩
    unfold fm_status
    rw [if_pos b0]; rfl
  · by_cases b1 : a < (16 : Int32)
    · right
      obtain ⟨t, ht, rfl⟩ := a_of b0 b1
      refine ⟨b0, b1, ?_, ?_⟩
      · unfold fm_status
        rw [if_neg b0, if_pos ((x_le15 _).mpr b1)]; rfl
      · unfold fm_status fk_status
        rw [if_neg b0, if_neg b0, if_pos b1, if_pos ((x_le15 _).mpr b1), h3 t ht]
        show Y.2 1 t = Y.2 1 (Int32.ofNat t).toNatClampNeg
        rw [n_of (by omega)]
    · left
      refine ⟨Or.inr b1, ?_⟩
      unfold fm_status
      rw [if_neg b0, if_neg (fun t => b1 ((x_le15 _).mp t))]; rfl
theorem rel_selected : lwR_selected cR := by
  intro S P X M Y V T a h
  obtain ⟨h1, h2, h3, h4, h5, h6, h7⟩ := h
  obtain ⟨-, z, L, op, lf, np, W, ⟨⟨-, -, ⟨a7, a8, a9⟩, -⟩, -⟩, -⟩ := h1
  rw [a8]
  by_cases b0 : a < 0
  · left
    refine ⟨Or.inl b0, ?_⟩
    unfold fm_selected
    rw [if_pos b0]; rfl
  · by_cases b1 : a < Int32.ofNat np
    · right
      have at_ : ∃ t, t < np ∧ a = Int32.ofNat t := by
        rw [Int32.lt_iff_toInt_lt, show (0 : Int32).toInt = 0 from rfl] at b0
        rw [Int32.lt_iff_toInt_lt, Int32.toInt_ofNat_of_lt (by omega)] at b1
        exact ⟨a.toInt.toNat, by omega, o_to (by omega)⟩
      obtain ⟨t, ht, rfl⟩ := at_
      refine ⟨b0, b1, ?_, ?_⟩
      · unfold fm_selected
        rw [a7, if_neg b0, if_pos b1]
        show (if Y.2 0 _ = 0 then _ else _ : Int32 × Int32).2 = 0
        split <;> rfl
      · unfold fm_selected fk_selected
        rw [a7, a8, if_neg b0, if_neg b0, if_pos b1, if_pos b1, hasBit_eq (by omega), (h4 t (by omega)).1]
        show _ ↔ (if Y.2 0 (Int32.ofNat t).toNatClampNeg = 0 then _ else _ : Int32 × Int32).1 = 0
        rw [n_of (by omega), (h4 t (by omega)).2]
        cases ysel Y t with
        | false => exact ⟨fun _ => rfl, fun _ => rfl⟩
        | true => exact ⟨fun q => absurd q (by decide), fun q => by rw [if_neg (show ¬ b2i true = 0 by decide)] at q; exact absurd q (show ¬ (1 : Int32) = 0 by decide)⟩
    · left
      refine ⟨Or.inr b1, ?_⟩
      unfold fm_selected
      rw [a7, if_neg b0, if_neg b1]; rfl
theorem reaF_eq (T : Int32) (Y : yT) : fm_reaF T Y = if Y.1 0 = 1 then (0, 0) else (1, 1) := by
  unfold fm_reaF
  by_cases h : Y.1 0 = (1 : Int32)
  · rw [if_pos h, if_pos h]; rfl
  · rw [if_neg h, if_neg h]; rfl
theorem cR.keep {X' : xT} {Y' : yT} {V V' : vT} (h : cR S P X M Y V) (hs : ∀ p, p < 32 → xb (X'.1 0) p = ysel Y p) (hy1 : Y'.1 = Y.1) (hy2 : ∀ c, c ≠ 2 → Y'.2 c = Y.2 c) (hb : S 0 = 1 → X'.1 2 = X.1 2) : cR S P X' M Y' V' := by
  obtain ⟨h1, h2, h3, h4, h5, h6, h7⟩ := h
  have es : ysel Y' = ysel Y := by unfold ysel; rw [hy2 0 (by decide)]
  refine ⟨h1, by rw [hy1]; exact h2, fun s hs => by rw [hy2 1 (by decide)]; exact h3 s hs, fun p hp => by rw [es, hy2 0 (by decide)]; exact ⟨hs p hp, (h4 p hp).2⟩, fun q => by rw [es, hy2 1 (by decide)]; exact h5 q, h6, fun q => ?_⟩
  obtain ⟨bg, g1, g2, g3⟩ := h7 q
  refine ⟨bg, by rw [hb q]; exact g1, by rw [hy1]; exact g2, ?_⟩
  have eg : gOf M Y' (zM M) = gOf M Y (zM M) := by unfold gOf; rw [es]
  rw [eg]; exact g3
theorem rel_reacts : lwR_reacts cR := by
  intro S P X M Y V T h
  have h' := h
  obtain ⟨h1, h2, h3, h4, h5, h6, h7⟩ := h
  have eF := reaF_eq T Y
  rw [← h2.1] at eF
  refine ⟨fun q => ?_, ?_⟩
  · have s1 : S 0 = 1 := by
      by_cases r : S 0 = (1 : Int32)
      · exact r
      · rw [eF, if_neg r] at q; exact absurd q (by decide)
    obtain ⟨z, W, hw, -⟩ := h'.go s1
    exact wH_mW hw
  · by_cases s1 : S 0 = (1 : Int32)
    · right
      obtain ⟨z, W, hw, zm⟩ := h'.go s1
      obtain ⟨pw1, pw2⟩ := wH_pW hw
      obtain ⟨bg, g1, g2, g3⟩ := h7 s1
      rw [zm] at g3
      refine ⟨s1, pw1, pw2, ?_⟩
      unfold fm_reacts fk_reacts
      rw [eF, if_pos s1, if_pos s1, if_pos (show ((0 : Int32), (0 : Int32)).1 = 0 from rfl)]
      generalize hA : fk_reactsL 17 P X (0 : Int32) (0 : Int32) = A
      generalize hB : fm_reaN 17 M Y V (0 : Int32) (0 : Int32) = B
      obtain ⟨r1, r2, r3, r4, r5⟩ := reacts_at hw (fun p hp => (h4 p hp).2) g2 g3 17 0 X Y V 0 0 A B rfl hA hB (by omega) (by omega) (fun p hp => (h4 p hp).1) g1 rfl (fun _ _ => rfl)
      exact ⟨rfl, r1, h'.keep r2 r4 r5 (fun _ => r3.trans g1.symm)⟩
    · left
      have e : fm_reacts T M Y V = (0, 1, Y, V) := by
        unfold fm_reacts
        rw [eF, if_neg s1, if_neg (by decide)]
      rw [e]
      exact ⟨s1, rfl, h'⟩
theorem rel_emits : lwR_emits cR := by
  intro S P X M Y V T a h
  have h' := h
  obtain ⟨h1, h2, h3, h4, h5, h6, h7⟩ := h
  have eF := emiF_eq T a Y
  rw [← h2.1] at eF
  have l4 : ¬ a < (4 : Int32) → ¬ a < 0 := fun q t => q (by
    rw [Int32.lt_iff_toInt_lt, show (0 : Int32).toInt = 0 from rfl] at t
    rw [Int32.lt_iff_toInt_lt, show (4 : Int32).toInt = 4 from rfl]
    omega)
  refine ⟨fun q => ?_, ?_⟩
  · have s1 : S 0 = 1 := by
      by_cases r : S 0 = (1 : Int32)
      · exact r
      · rw [eF, if_neg r] at q; exact absurd q (by decide)
    rw [eF, if_pos s1] at q
    have bad : ¬ (a < (4 : Int32) ∨ ¬ a < (16 : Int32)) := fun t => by rw [if_pos t] at q; exact absurd q (by decide)
    have b4 : ¬ a < (4 : Int32) := fun t => bad (Or.inl t)
    have b1 : a < (16 : Int32) := by
      by_cases t : a < (16 : Int32)
      · exact t
      · exact absurd (Or.inr t) bad
    obtain ⟨t, ht, rfl⟩ := a_of (l4 b4) b1
    obtain ⟨z, W, hw, -⟩ := h'.go s1
    obtain ⟨w1, w2⟩ := wH_mW hw
    refine ⟨w1, w2, vp_in_iff.mpr ?_⟩
    rw [Int32.toInt_ofNat_of_lt (by omega)]
    omega
  · by_cases s1 : S 0 = (1 : Int32)
    · right
      by_cases bad : a < (4 : Int32) ∨ ¬ a < (16 : Int32)
      · left
        have e : fm_emits T M Y V a = (0, 2, Y, V) := by
          unfold fm_emits
          rw [eF, if_pos s1, if_pos bad, if_neg (by decide)]
        rw [e]
        exact ⟨s1, bad, rfl, h'⟩
      · right
        have b4 : ¬ a < (4 : Int32) := fun t => bad (Or.inl t)
        have b1 : a < (16 : Int32) := by
          by_cases t : a < (16 : Int32)
          · exact t
          · exact absurd (Or.inr t) bad
        obtain ⟨t, ht, rfl⟩ := a_of (l4 b4) b1
        obtain ⟨z, W, hw, zm⟩ := h'.go s1
        obtain ⟨pw1, pw2⟩ := wH_pW hw
        obtain ⟨bg, g1, g2, g3⟩ := h7 s1
        rw [zm] at g3
        refine ⟨s1, b4, b1, pw1, pw2, ?_⟩
        unfold fm_emits fk_emits
        rw [eF, if_pos s1, if_neg bad, if_pos s1, if_neg b4, if_pos b1, if_pos (show ((0 : Int32), (0 : Int32)).1 = 0 from rfl)]
        generalize hA : fk_emitsL 17 P X (Int32.ofNat t) (0 : Int32) (0 : Int32) = A
        generalize hB : fm_emiL 17 M Y V (Int32.ofNat t) (0 : Int32) (0 : Int32) = B
        obtain ⟨r1, r2, r3, r4, r5⟩ := emits_at hw (fun p hp => (h4 p hp).2) g2 g3 ht 17 0 X Y V 0 0 A B rfl hA hB (by omega) (by omega) (fun p hp => (h4 p hp).1) g1 rfl (fun _ _ => rfl)
        exact ⟨rfl, r1, h'.keep r2 r4 r5 (fun _ => r3.trans g1.symm)⟩
    · left
      have e : fm_emits T M Y V a = (0, 1, Y, V) := by
        unfold fm_emits
        rw [eF, if_neg s1, if_neg (by decide)]
      rw [e]
      exact ⟨s1, rfl, h'⟩
theorem cntL_ok (hm : M.1 0 = Int32.ofNat z) (hz : z ≤ 120) (hs : ∀ i, i < z → M.2 0 i = Int32.ofNat (mso M i) ∧ mso M i ≤ 10) : ∀ (n k : Nat), z ≤ k + n → k ≤ z → (fm_cntL n M (Int32.ofNat (cn (fun i => decide (mso M i = 8)) k)) (Int32.ofNat k)).1 = Int32.ofNat (cn (fun i => decide (mso M i = 8)) z) := by
  intro n
  induction n with
  | zero => intro k h1 h2; rw [show k = z by omega]; rfl
  | succ n ih =>
    intro k h1 h2
    rw [fm_cntL, hm]
    by_cases q : z ≤ k
    · rw [if_pos ((o_le (by omega) (by omega)).mpr q), show k = z by omega]
    · obtain ⟨s1, s2⟩ := hs k (by omega)
      rw [if_neg (fun t => q ((o_le (by omega) (by omega)).mp t)), n_of (by omega), s1, o_add, o_add, Int32.add_zero]
      by_cases e : mso M k = 8
      · have c : cn (fun i => decide (mso M i = 8)) k + 1 = cn (fun i => decide (mso M i = 8)) (k + 1) := by
          show _ = cn _ k + (decide (mso M k = 8)).toNat
          rw [e]; rfl
        rw [if_pos (by rw [e]; rfl), c]
        exact ih (k + 1) (by omega) (by omega)
      · have c : cn (fun i => decide (mso M i = 8)) k = cn (fun i => decide (mso M i = 8)) (k + 1) := by
          show _ = cn _ k + (decide (mso M k = 8)).toNat
          simp [e]
        have e' : ¬ Int32.ofNat (mso M k) = (8 : Int32) := fun t => e (o_inj (b := 8) (by omega) (by omega) t)
        rw [if_neg e', c]
        exact ih (k + 1) (by omega) (by omega)
theorem cntS_ok {f : Nat → Bool} (hy : ∀ p, p < 32 → Y.2 0 p = b2i (f p)) : ∀ (n k : Nat), 32 ≤ k + n → k ≤ 32 → (fm_cntS n Y (Int32.ofNat (cn f k)) (Int32.ofNat k)).1 = Int32.ofNat (cn f 32) := by
  intro n
  induction n with
  | zero => intro k h1 h2; rw [show k = 32 by omega]; rfl
  | succ n ih =>
    intro k h1 h2
    rw [fm_cntS]
    by_cases q : 32 ≤ k
    · have q' : (32 : Int32) ≤ Int32.ofNat k := (o_le (a := 32) (by omega) (by omega)).mpr q
      rw [if_pos q', show k = 32 by omega]
    · have q' : ¬ (32 : Int32) ≤ Int32.ofNat k := fun t => q ((o_le (a := 32) (by omega) (by omega)).mp t)
      rw [if_neg q', n_of (by omega), hy k (by omega), o_add, o_add, Int32.add_zero]
      cases e : f k with
      | true =>
        have c : cn f k + 1 = cn f (k + 1) := by
          show _ = cn f k + (f k).toNat
          rw [e]; rfl
        rw [if_neg (by decide), c]
        exact ih (k + 1) (by omega) (by omega)
      | false =>
        have c : cn f k = cn f (k + 1) := by
          show _ = cn f k + (f k).toNat
          rw [e]; rfl
        rw [if_pos (show b2i false = 0 from rfl), c]
        exact ih (k + 1) (by omega) (by omega)
theorem rel_count : lwR_count cR := by
  intro S P X M Y V T a h
  obtain ⟨h1, h2, h3, h4, h5, h6, h7⟩ := h
  obtain ⟨hd, z, L, op, lf, np, W, ⟨⟨⟨a1, a2, a3⟩, -, ⟨a7, a8, a9⟩, ⟨a10, a11, a12⟩, a13⟩, -, hN, -⟩, -⟩ := h1
  have cl := cntL_ok a1 a3 (fun i hi => (hN i hi).1) 121 0 (by omega) (by omega)
  have cs := cntS_ok (Y := Y) (f := ysel Y) (fun p hp => (h4 p hp).2) 33 0 (by omega) (by omega)
  have eb : fj_bitCount (X.1 0) = Int32.ofNat (cn (ysel Y) 32) := by
    rw [bitCount_ok]
    congr 1
    exact cn_cg 32 (fun p hp => (h4 p hp).1)
  unfold fk_count fm_count
  by_cases k0 : a = (0 : Int32)
  · rw [if_pos k0, if_pos k0, a1, a2]
  rw [if_neg k0, if_neg k0]
  by_cases k1 : a = (1 : Int32)
  · rw [if_pos k1, if_pos k1, hd]
  rw [if_neg k1, if_neg k1]
  by_cases k2 : a = (2 : Int32)
  · rw [if_pos k2, if_pos k2, a7, a8]
  rw [if_neg k2, if_neg k2]
  by_cases k3 : a = (3 : Int32)
  · rw [if_pos k3, if_pos k3, a13]; exact cl.symm
  rw [if_neg k3, if_neg k3]
  by_cases k4 : a = (4 : Int32)
  · rw [if_pos k4, if_pos k4, a10, a11]
  rw [if_neg k4, if_neg k4]
  by_cases k5 : a = (5 : Int32)
  · rw [if_pos k5, if_pos k5]; exact h2.2
  rw [if_neg k5, if_neg k5]
  by_cases k6 : a = (6 : Int32)
  · rw [if_pos k6, if_pos k6, eb]; exact cs.symm
  rw [if_neg k6, if_neg k6]
  by_cases k7 : a = (7 : Int32)
  · rw [if_pos k7, if_pos k7]; exact h2.1
  rw [if_neg k7, if_neg k7]
theorem cR_ok : lwR cR := ⟨rel_minv, rel_pinv, rel_put, rel_start, rel_clear, rel_instant, rel_status, rel_selected, rel_reacts, rel_emits, rel_count⟩
theorem cR_00 : cR S00 P00 X00 M00 Y00 V00 := by
  refine ⟨⟨rfl, 0, 0, fun _ => 0, fun _ => 0, 0, 0, ⟨⟨⟨rfl, rfl, by omega⟩, ⟨rfl, rfl, by omega⟩, ⟨rfl, rfl, by omega⟩, ⟨rfl, rfl, by omega⟩, rfl⟩, fun j hj => absurd hj (Nat.not_lt_zero j), fun j hj => absurd hj (Nat.not_lt_zero j), fun j hj => absurd hj (Nat.not_lt_zero j), fun j hj => absurd hj (Nat.not_lt_zero j), fun j hj => absurd hj (Nat.not_lt_zero j), ⟨fun j hj => absurd hj (Nat.not_lt_zero j), fun j _ hj => absurd hj (Nat.not_lt_zero j), fun j hj => absurd hj (Nat.not_lt_zero j)⟩, ⟨fun j hj => absurd hj (Nat.not_lt_zero j), fun _ => rfl⟩, ⟨fun q => absurd q (Nat.lt_irrefl 0), fun _ => rfl, rfl⟩⟩, fun q => absurd q (Nat.lt_irrefl 0)⟩, ⟨rfl, rfl⟩, fun s hs => st_0 hs, fun p hp => ⟨xb_0 p, rfl⟩, fun _ => ⟨rfl, fun _ _ => rfl, fun _ _ => rfl⟩, fun q => absurd rfl q, fun q => absurd q (by decide)⟩
end REL3
