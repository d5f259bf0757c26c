/-! AN INSTANT'S REACTION: class and reference find the same -/
section RX
variable {P : pT} {M : mT} {z W : Nat} {bg : Bool} {X : xT} {Y : yT}
theorem mN_m1c {o : gO} (h : ∀ c, omc o c = false) : mN (omc o) = -1 ∧ cE (omc o) = 0 := ⟨mN_none h, by rw [cE_cg (B := fun _ => false) (fun c _ => h c)]; exact cE_none⟩
theorem mN_at {b : Bool} {o : gO} (ok : oOk b o) {c : Nat} (hc : c < 7) (h : omc o c = true) : mN (omc o) = Int32.ofNat c ∧ cE (omc o) = (1 : Int32) <<< (Int32.ofNat c &&& 31) := by
  refine ⟨mN_of h (fun d hd => ok_u ok hd h) hc, ?_⟩
  rw [cE_one c hc]
  apply cE_cg
  intro d _
  cases e : omc o d with
  | true => rw [ok_u ok e h]; simp
  | false =>
    have : d ≠ c := fun q => by rw [q, h] at e; cases e
    simp [this]
theorem rx_ok (hw : wH P M z W) (hs : ∀ p, p < 32 → xb (X.1 0) p = ysel Y p) (hy : ∀ p, p < 32 → Y.2 0 p = b2i (ysel Y p)) (hb : X.1 2 = b2i (!bg)) (hb' : Y.1 2 = b2i bg) (hsel : bg = false → ghas (gOf M Y z) 0 = true) (V : vT) {t : Nat} (ht : t < 16) :
    ∃ Kf : Nat → Nat, ((∀ p, p < 32 → xb ((fr_isFound P X (Int32.ofNat t)).2.1 0) p = ysel Y p) ∧ (fr_isFound P X (Int32.ofNat t)).2.1 2 = b2i (!bg)) ∧ ((fm_react M Y V (Int32.ofNat t)).2.1.1 = Y.1 ∧ ∀ c, c ≠ 2 → (fm_react M Y V (Int32.ofNat t)).2.1.2 c = Y.2 c) ∧
      (∀ s, s < 16 → Kf s ≤ 2 ∧ fk_statusIn ((fr_isFound P X (Int32.ofNat t)).2.1 3) ((fr_isFound P X (Int32.ofNat t)).2.1 4) (Int32.ofNat s) = Int32.ofNat (Kf s) ∧ xb ((fr_isFound P X (Int32.ofNat t)).2.1 4) s = decide (Kf s = 1) ∧ (fm_react M Y V (Int32.ofNat t)).2.1.2 2 s = Int32.ofNat (Kf s)) ∧
      (((fr_isFound P X (Int32.ofNat t)).1 = 0 ∧ (fm_react M Y V (Int32.ofNat t)).1 = -1) ∨
       ((fr_isFound P X (Int32.ofNat t)).1 = 1 ∧ (fm_react M Y V (Int32.ofNat t)).1 = 1 ∧ fr_mustCodes (fr_isFound P X (Int32.ofNat t)).2 = 2 ∧ ∃ N : Nat → Bool, (∀ p, p < 32 → xb ((fr_isFound P X (Int32.ofNat t)).2.1 1) p = N p) ∧ (∀ p, p < 32 → (fm_react M Y V (Int32.ofNat t)).2.2.2 0 p = b2i (N p)) ∧ ∃ p, p < 32 ∧ N p = true ∧ mhp M z 0 p = true) ∨
       ((fr_isFound P X (Int32.ofNat t)).1 = 1 ∧ (fm_react M Y V (Int32.ofNat t)).1 = 0 ∧ fr_mustCodes (fr_isFound P X (Int32.ofNat t)).2 = 1 ∧ ∀ p, p < 32 → xb ((fr_isFound P X (Int32.ofNat t)).2.1 1) p = false)) := by
  obtain ⟨h0, hF, hP, hm, hg0, ht0, ⟨hW, hW1, hW2⟩, -⟩ := hw
  have hz := hF.1
  have hWg := gW_of (Y := Y) hF
  obtain ⟨m, r1, r2, r3, r4, r5, r6⟩ := react_ok hF hm h0 hy hsel hb' V (Int32.ofNat t)
  obtain ⟨f1, f2, f3, f4, f5, f6⟩ := found_ok hF hP h0 hg0 hsel hW hW1 hW2 ht r1 hs hb
  have ok := rF_ok (g := gOf M Y z) (n := 121) (bg := bg) (itK (gOf M Y z) 121 bg (k0 z (Int32.ofNat t)) m)
  have nd := (ge_n hWg (gH_of (Y := Y) hF) false 121 me0 0 bg 0 true h0)
  have nf := nd.1 (kS (itK (gOf M Y z) 121 bg (k0 z (Int32.ofNat t)) m))
  have ne := nd.2 hsel rfl (kS (itK (gOf M Y z) 121 bg (k0 z (Int32.ofNat t)) m)) (fun _ _ => rfl)
  have c2 : ∀ c, omc (rF (gOf M Y z) 121 bg (itK (gOf M Y z) 121 bg (k0 z (Int32.ofNat t)) m)) c = true → c = 0 ∨ c = 1 := fun c hc => by
    have a := ge_cc hWg (gT_of (Y := Y) hF) false 121 me0 0 bg 0 true h0 (kS _) c (ok.1 c hc)
    rw [ht0] at a
    omega
  change ∀ p, ghp (gOf M Y z) 0 p = false → sN (rt (gOf M Y z) 121 bg false (kS (itK (gOf M Y z) 121 bg (k0 z (Int32.ofNat t)) m))).2 p = false at nf
  change (omc (rF (gOf M Y z) 121 bg (itK (gOf M Y z) 121 bg (k0 z (Int32.ofNat t)) m)) 0 = true → ∀ p, ghp (gOf M Y z) 0 p = true → sN (rt (gOf M Y z) 121 bg false (kS (itK (gOf M Y z) 121 bg (k0 z (Int32.ofNat t)) m))).2 p = false) ∧ (omc (rF (gOf M Y z) 121 bg (itK (gOf M Y z) 121 bg (k0 z (Int32.ofNat t)) m)) 1 = true → ∃ p, ghp (gOf M Y z) 0 p = true ∧ sN (rt (gOf M Y z) 121 bg false (kS (itK (gOf M Y z) 121 bg (k0 z (Int32.ofNat t)) m))).2 p = true) at ne
  generalize itK (gOf M Y z) 121 bg (k0 z (Int32.ofNat t)) m = Kf at *
  generalize fr_isFound P X (Int32.ofNat t) = F at *
  generalize fm_react M Y V (Int32.ofNat t) = R at *
  have hl16 : 16 ≤ lm z := by unfold lm; omega
  refine ⟨Kf, ⟨f1, f2⟩, ⟨r3, r4⟩, fun s hs => ?_, ?_⟩
  · have k := f3 s hs
    have y := r5 s (by omega)
    have st := stin_eq hs (by rw [me0_s hs]; exact y.2) k
    rw [me0_s hs] at st
    unfold XK at k
    rw [me0_s hs] at k
    exact ⟨y.2, st, k.2, y.1⟩
  · by_cases h1 : omc (rF (gOf M Y z) 121 bg Kf) 1 = true
    · right; left
      obtain ⟨a1, a2⟩ := mN_at ok (by decide) h1
      rw [a2] at f4 f5
      refine ⟨f5, r2.trans a1, f4, sN (rt (gOf M Y z) 121 bg false (kS Kf)).2, f6 ⟨1, h1⟩, r6, ?_⟩
      obtain ⟨p, p1, p2⟩ := ne.2 h1
      have p1' : mhp M z 0 p = true := p1
      exact ⟨p, (mhp_iff.mp p1').1, p2, p1'⟩
    · by_cases h2 : omc (rF (gOf M Y z) 121 bg Kf) 0 = true
      · right; right
        obtain ⟨a1, a2⟩ := mN_at ok (by decide) h2
        rw [a2] at f4 f5
        refine ⟨f5, r2.trans a1, f4, fun p hp => ?_⟩
        rw [f6 ⟨0, h2⟩ p hp]
        cases e : ghp (gOf M Y z) 0 p with
        | true => exact ne.1 h2 p e
        | false => exact nf p e
      · left
        have no : ∀ c, omc (rF (gOf M Y z) 121 bg Kf) c = false := fun c => by
          cases e : omc (rF (gOf M Y z) 121 bg Kf) c with
          | false => rfl
          | true =>
            rcases c2 c e with q | q
            · rw [q] at e; exact absurd e h2
            · rw [q] at e; exact absurd e h1
        obtain ⟨a1, a2⟩ := mN_m1c no
        rw [a2] at f5
        exact ⟨f5, r2.trans a1⟩
/-- the loops over all inputs -/
theorem reacts_ok (hw : wH P M z W) (hy : ∀ p, p < 32 → Y.2 0 p = b2i (ysel Y p)) (hb' : Y.1 2 = b2i bg) (hsel : bg = false → ghas (gOf M Y z) 0 = true) : ∀ (n k : Nat) (X : xT) (Y1 : yT) (V : vT) (fo : Int32), 16 < k + n → k ≤ 16 → (∀ p, p < 32 → xb (X.1 0) p = ysel Y p) → X.1 2 = b2i (!bg) → Y1.1 = Y.1 → (∀ c, c ≠ 2 → Y1.2 c = Y.2 c) →
    (fk_reactsL n P X fo (Int32.ofNat k)).1 = (fm_reaN n M Y1 V fo (Int32.ofNat k)).1 ∧ (∀ p, p < 32 → xb ((fk_reactsL n P X fo (Int32.ofNat k)).2.1 0) p = ysel Y p) ∧ (fk_reactsL n P X fo (Int32.ofNat k)).2.1 2 = b2i (!bg) ∧ (fm_reaN n M Y1 V fo (Int32.ofNat k)).2.2.1.1 = Y.1 ∧ (∀ c, c ≠ 2 → (fm_reaN n M Y1 V fo (Int32.ofNat k)).2.2.1.2 c = Y.2 c) := by
  intro n
  induction n with
  | zero => intro k X Y1 V fo h1 h2; omega
  | succ n ih =>
    intro k X Y1 V fo h1 h2 hs hb e1 e2
    rw [fk_reactsL, fm_reaN]
    by_cases q : 16 ≤ k
    · have q' : (16 : Int32) ≤ Int32.ofNat k := (o_le (a := 16) (by omega) (by omega)).mpr q
      rw [if_pos q', if_pos q']
      exact ⟨rfl, hs, hb, e1, e2⟩
    · have q' : ¬ (16 : Int32) ≤ Int32.ofNat k := fun t => q ((o_le (a := 16) (by omega) (by omega)).mp t)
      have es : ysel Y1 = ysel Y := by unfold ysel; rw [e2 0 (by decide)]
      have eg : gOf M Y1 z = gOf M Y z := by unfold gOf; rw [es]
      rw [if_neg q', if_neg q', o_add]
      obtain ⟨Kf, ⟨x1, x2⟩, ⟨y1, y2⟩, -, c⟩ := rx_ok (Y := Y1) hw (by rw [es]; exact hs) (by rw [es, e2 0 (by decide)]; exact hy) hb (by rw [e1]; exact hb') (by rw [eg]; exact hsel) V (show k < 16 by omega)
      rw [es] at x1
      have g1 : (fm_react M Y1 V (Int32.ofNat k)).2.1.1 = Y.1 := y1.trans e1
      have g2 : ∀ c, c ≠ 2 → (fm_react M Y1 V (Int32.ofNat k)).2.1.2 c = Y.2 c := fun c hc => (y2 c hc).trans (e2 c hc)
      rcases c with ⟨c1, c2⟩ | ⟨c1, c2, -⟩ | ⟨c1, c2, -⟩
      · rw [if_pos c1, if_pos c2, Int32.add_zero]
        exact ih (k + 1) _ _ _ fo (by omega) (by omega) x1 x2 g1 g2
      · rw [if_neg (by rw [c1]; decide), if_neg (by rw [c2]; decide)]
        exact ih (k + 1) _ _ _ _ (by omega) (by omega) x1 x2 g1 g2
      · rw [if_neg (by rw [c1]; decide), if_neg (by rw [c2]; decide)]
        exact ih (k + 1) _ _ _ _ (by omega) (by omega) x1 x2 g1 g2
theorem emits_ok (hw : wH P M z W) (hy : ∀ p, p < 32 → Y.2 0 p = b2i (ysel Y p)) (hb' : Y.1 2 = b2i bg) (hsel : bg = false → ghas (gOf M Y z) 0 = true) {sg : Nat} (hsg : sg < 16) : ∀ (n k : Nat) (X : xT) (Y1 : yT) (V : vT) (fo : Int32), 16 < k + n → k ≤ 16 → (∀ p, p < 32 → xb (X.1 0) p = ysel Y p) → X.1 2 = b2i (!bg) → Y1.1 = Y.1 → (∀ c, c ≠ 2 → Y1.2 c = Y.2 c) →
    (fk_emitsL n P X (Int32.ofNat sg) fo (Int32.ofNat k)).1 = (fm_emiL n M Y1 V (Int32.ofNat sg) fo (Int32.ofNat k)).1 ∧ (∀ p, p < 32 → xb ((fk_emitsL n P X (Int32.ofNat sg) fo (Int32.ofNat k)).2.1 0) p = ysel Y p) ∧ (fk_emitsL n P X (Int32.ofNat sg) fo (Int32.ofNat k)).2.1 2 = b2i (!bg) ∧ (fm_emiL n M Y1 V (Int32.ofNat sg) fo (Int32.ofNat k)).2.2.1.1 = Y.1 ∧ (∀ c, c ≠ 2 → (fm_emiL n M Y1 V (Int32.ofNat sg) fo (Int32.ofNat k)).2.2.1.2 c = Y.2 c) := by
  intro n
  induction n with
  | zero => intro k X Y1 V fo h1 h2; omega
  | succ n ih =>
    intro k X Y1 V fo h1 h2 hs hb e1 e2
    rw [fk_emitsL, fm_emiL]
    by_cases q : 16 ≤ k
    · have q' : (16 : Int32) ≤ Int32.ofNat k := (o_le (a := 16) (by omega) (by omega)).mpr q
      rw [if_pos q', if_pos q']
      exact ⟨rfl, hs, hb, e1, e2⟩
    · have q' : ¬ (16 : Int32) ≤ Int32.ofNat k := fun t => q ((o_le (a := 16) (by omega) (by omega)).mp t)
      have es : ysel Y1 = ysel Y := by unfold ysel; rw [e2 0 (by decide)]
      have eg : gOf M Y1 z = gOf M Y z := by unfold gOf; rw [es]
      rw [if_neg q', if_neg q', o_add]
      obtain ⟨Kf, ⟨x1, x2⟩, ⟨y1, y2⟩, st, c⟩ := rx_ok (Y := Y1) hw (by rw [es]; exact hs) (by rw [es, e2 0 (by decide)]; exact hy) hb (by rw [e1]; exact hb') (by rw [eg]; exact hsel) V (show k < 16 by omega)
      rw [es] at x1
      have g1 : (fm_react M Y1 V (Int32.ofNat k)).2.1.1 = Y.1 := y1.trans e1
      have g2 : ∀ c, c ≠ 2 → (fm_react M Y1 V (Int32.ofNat k)).2.1.2 c = Y.2 c := fun c hc => (y2 c hc).trans (e2 c hc)
      obtain ⟨s1, -, s3, s4⟩ := st sg hsg
      have eb : fk_hasBit ((fr_isFound P X (Int32.ofNat k)).2.1 4) (Int32.ofNat sg) = b2i (decide (Kf sg = 1)) := by rw [hasBit_eq (by omega), s3]
      have er : (fm_react M Y1 V (Int32.ofNat k)).2.1.2 2 (Int32.ofNat sg).toNatClampNeg = (1 : Int32) ↔ Kf sg = 1 := by
        rw [n_of (by omega), s4]
        exact ⟨fun t => o_inj (b := 1) (by omega) (by omega) t, fun t => by rw [t]; rfl⟩
      by_cases d : (fr_isFound P X (Int32.ofNat k)).1 = 0
      · have d' : (fm_react M Y1 V (Int32.ofNat k)).1 = (-1 : Int32) := by
          rcases c with ⟨c1, c2⟩ | ⟨c1, c2, -⟩ | ⟨c1, c2, -⟩
          · exact c2
          · rw [d] at c1; exact absurd c1 (by decide)
          · rw [d] at c1; exact absurd c1 (by decide)
        rw [if_pos d, if_pos d', Int32.or_zero]
        exact ih (k + 1) _ _ _ fo (by omega) (by omega) x1 x2 g1 g2
      · have d' : ¬ (fm_react M Y1 V (Int32.ofNat k)).1 = (-1 : Int32) := by
          rcases c with ⟨c1, c2⟩ | ⟨c1, c2, -⟩ | ⟨c1, c2, -⟩
          · exact absurd c1 d
          · rw [c2]; decide
          · rw [c2]; decide
        rw [if_neg d, if_neg d', eb]
        by_cases v : Kf sg = 1
        · rw [if_neg (by rw [v]; decide), if_pos (er.mpr v)]
          exact ih (k + 1) _ _ _ _ (by omega) (by omega) x1 x2 g1 g2
        · have v' : b2i (decide (Kf sg = 1)) = 0 := by rw [decide_eq_false v]; rfl
          rw [if_pos v', if_neg (fun t => v (er.mp t)), Int32.or_zero]
          exact ih (k + 1) _ _ _ fo (by omega) (by omega) x1 x2 g1 g2
theorem reacts_at (hw : wH P M z W) (hy : ∀ p, p < 32 → Y.2 0 p = b2i (ysel Y p)) (hb' : Y.1 2 = b2i bg) (hsel : bg = false → ghas (gOf M Y z) 0 = true) (n k : Nat) (X : xT) (Y1 : yT) (V : vT) (fo i0 : Int32) (A : Int32 × xT) (B : Int32 × Int32 × yT × vT) (h0 : i0 = Int32.ofNat k) (hA : fk_reactsL n P X fo i0 = A) (hB : fm_reaN n M Y1 V fo i0 = B) (h1 : 16 < k + n) (h2 : k ≤ 16) (h3 : ∀ p, p < 32 → xb (X.1 0) p = ysel Y p) (h4 : X.1 2 = b2i (!bg)) (h5 : Y1.1 = Y.1) (h6 : ∀ c, c ≠ 2 → Y1.2 c = Y.2 c) : A.1 = B.1 ∧ (∀ p, p < 32 → xb (A.2.1 0) p = ysel Y p) ∧ A.2.1 2 = b2i (!bg) ∧ B.2.2.1.1 = Y.1 ∧ (∀ c, c ≠ 2 → B.2.2.1.2 c = Y.2 c) := by
  subst h0 hA hB
  exact reacts_ok hw hy hb' hsel n k X Y1 V fo h1 h2 h3 h4 h5 h6
theorem emits_at (hw : wH P M z W) (hy : ∀ p, p < 32 → Y.2 0 p = b2i (ysel Y p)) (hb' : Y.1 2 = b2i bg) (hsel : bg = false → ghas (gOf M Y z) 0 = true) {sg : Nat} (hsg : sg < 16) (n k : Nat) (X : xT) (Y1 : yT) (V : vT) (fo i0 : Int32) (A : Int32 × xT) (B : Int32 × Int32 × yT × vT) (h0 : i0 = Int32.ofNat k) (hA : fk_emitsL n P X (Int32.ofNat sg) fo i0 = A) (hB : fm_emiL n M Y1 V (Int32.ofNat sg) fo i0 = B) (h1 : 16 < k + n) (h2 : k ≤ 16) (h3 : ∀ p, p < 32 → xb (X.1 0) p = ysel Y p) (h4 : X.1 2 = b2i (!bg)) (h5 : Y1.1 = Y.1) (h6 : ∀ c, c ≠ 2 → Y1.2 c = Y.2 c) : A.1 = B.1 ∧ (∀ p, p < 32 → xb (A.2.1 0) p = ysel Y p) ∧ A.2.1 2 = b2i (!bg) ∧ B.2.2.1.1 = Y.1 ∧ (∀ c, c ≠ 2 → B.2.2.1.2 c = Y.2 c) := by
  subst h0 hA hB
  exact emits_ok hw hy hb' hsel hsg n k X Y1 V fo h1 h2 h3 h4 h5 h6
end RX
