section REL2
variable {S : kT} {P : pT} {X : xT} {M : mT} {Y : yT} {V : vT} {z W : Nat}
theorem insS_ok (co : Int32) : ∀ (n k : Nat) (Y : yT), 16 ≤ k + n → k ≤ 16 → (fm_insS n Y co (Int32.ofNat k)).2.1 = Y.1 ∧ (∀ c, c ≠ 1 → (fm_insS n Y co (Int32.ofNat k)).2.2 c = Y.2 c) ∧ ∀ j, (fm_insS n Y co (Int32.ofNat k)).2.2 1 j = if k ≤ j ∧ j < 16 then Y.2 2 j else Y.2 1 j := by
  intro n
  induction n with
  | zero => intro k Y h1 h2; exact ⟨rfl, fun _ _ => rfl, fun j => by rw [if_neg (by omega)]; rfl⟩
  | succ n ih =>
    intro k Y h1 h2
    rw [fm_insS]
    by_cases q : 16 ≤ k
    · have q' : (16 : Int32) ≤ Int32.ofNat k := (o_le (a := 16) (by omega) (by omega)).mpr q
      rw [if_pos q']
      exact ⟨rfl, fun _ _ => rfl, fun j => by rw [if_neg (by omega)]⟩
    · have q' : ¬ (16 : Int32) ≤ Int32.ofNat k := fun t => q ((o_le (a := 16) (by omega) (by omega)).mp t)
      rw [if_neg q', n_of (by omega), o_add]
      obtain ⟨a, b, c⟩ := ih (k + 1) (y2w Y 1 k (Y.2 2 k)) (by omega) (by omega)
      refine ⟨a, fun c' hc => (b c' hc).trans (y2w_ne _ _ _ hc), fun j => ?_⟩
      rw [c j, y2w_ne _ _ _ (by decide), y2w_at]
      by_cases e : j = k
      · subst e
        rw [if_neg (by omega), if_pos rfl, if_pos (by omega)]
      · rw [if_neg e]
        by_cases f : k + 1 ≤ j ∧ j < 16
        · rw [if_pos f, if_pos (by omega)]
        · rw [if_neg f, if_neg (by omega)]
def kvI (V : vT) (co : Int32) (p : Nat) : Int32 := if co = 1 then (if V.2 0 p = 0 then 0 else 1) else 0
theorem insK_ok (V : vT) (co : Int32) : ∀ (n k : Nat) (Y : yT), 32 ≤ k + n → k ≤ 32 → yUp Y (fm_insK n Y V co (Int32.ofNat k)).2 0 k 32 (kvI V co) := by
  intro n
  induction n with
  | zero => intro k Y h1 h2; exact yUp.rf (by omega)
  | succ n ih =>
    intro k Y h1 h2
    rw [fm_insK]
    by_cases q : 32 ≤ k
    · have q' : (32 : Int32) ≤ Int32.ofNat k := (o_le (a := 32) (by omega) (by omega)).mpr q
      rw [if_pos q']; exact yUp.rf q
    · have q' : ¬ (32 : Int32) ≤ Int32.ofNat k := fun t => q ((o_le (a := 32) (by omega) (by omega)).mp t)
      rw [if_neg q', n_of (by omega), o_add, nar0, nar1]
      by_cases c : co = (1 : Int32)
      · rw [if_pos c]
        by_cases v : V.2 0 k = 0
        · rw [if_pos v]
          have e : kvI V co k = 0 := by unfold kvI; rw [if_pos c, if_pos v]
          refine yUp.st (by omega) ?_
          rw [e]
          exact ih (k + 1) _ (by omega) (by omega)
        · rw [if_neg v]
          have e : kvI V co k = 1 := by unfold kvI; rw [if_pos c, if_neg v]
          refine yUp.st (by omega) ?_
          rw [e]
          exact ih (k + 1) _ (by omega) (by omega)
      · rw [if_neg c]
        have e : kvI V co k = 0 := by unfold kvI; rw [if_neg c]
        refine yUp.st (by omega) ?_
        rw [e]
        exact ih (k + 1) _ (by omega) (by omega)
theorem kw_at (S : kT) (k j : Nat) (v : Int32) : kw S k v j = if j = k then v else S j := by simp [kw, va_up]
theorem x_le15 (x : Int32) : x ≤ (15 : Int32) ↔ x < (16 : Int32) := by
  rw [Int32.lt_iff_toInt_lt, Int32.le_iff_toInt_le, show (15 : Int32).toInt = 15 from rfl, show (16 : Int32).toInt = 16 from rfl]; omega
theorem insF_eq (T a : Int32) (Y : yT) : fm_insF T a (fm_insG Y a) = if Y.1 0 = 1 then (if a < 0 ∨ ¬ a < (16 : Int32) then (1, 2) else (0, 0)) else (1, 1) := by
  unfold fm_insF fm_insG
  by_cases h : Y.1 0 = (1 : Int32)
  · simp only [if_pos h]
    rw [if_neg (show ¬ (1 : Int32) = 0 by decide), if_neg (show ¬ (1 : Int32) = 0 by decide)]
    by_cases q : a < 0
    · rw [if_pos q, if_pos (Or.inl q)]; rfl
    · rw [if_neg q]
      by_cases r : a < (16 : Int32)
      · rw [if_pos ((x_le15 a).mpr r), if_neg (fun t => t.elim q (fun u => u r))]; rfl
      · rw [if_neg (fun t => r ((x_le15 a).mp t)), if_pos (Or.inr r)]; rfl
  · rw [if_neg h, if_neg h, if_pos (show (0 : Int32) = 0 from rfl), if_pos (show (0 : Int32) = 0 from rfl)]; rfl
theorem emiF_eq (T a : Int32) (Y : yT) : fm_emiF T a (fm_emiG Y a) = if Y.1 0 = 1 then (if a < (4 : Int32) ∨ ¬ a < (16 : Int32) then (1, 2) else (0, 0)) else (1, 1) := by
  unfold fm_emiF fm_emiG
  by_cases h : Y.1 0 = (1 : Int32)
  · simp only [if_pos h]
    rw [if_neg (show ¬ (1 : Int32) = 0 by decide), if_neg (show ¬ (1 : Int32) = 0 by decide)]
    by_cases q : a < (4 : Int32)
    · rw [if_pos q, if_pos (Or.inl q)]; rfl
    · rw [if_neg q]
      by_cases r : a < (16 : Int32)
      · rw [if_pos ((x_le15 a).mpr r), if_neg (fun t => t.elim q (fun u => u r))]; rfl
      · rw [if_neg (fun t => r ((x_le15 a).mp t)), if_pos (Or.inr r)]; rfl
  · rw [if_neg h, if_neg h, if_pos (show (0 : Int32) = 0 from rfl), if_pos (show (0 : Int32) = 0 from rfl)]; rfl
theorem a_of {a : Int32} (h0 : ¬ a < 0) (h1 : a < (16 : Int32)) : ∃ t, t < 16 ∧ a = Int32.ofNat t := by
  rw [Int32.lt_iff_toInt_lt, show (0 : Int32).toInt = 0 from rfl] at h0
  rw [Int32.lt_iff_toInt_lt, show (16 : Int32).toInt = 16 from rfl] at h1
  exact ⟨a.toInt.toNat, by omega, o_to (by omega)⟩
theorem cR.go {V : vT} (h : cR S P X M Y V) (h1 : S 0 = 1) : ∃ z W, wH P M z W ∧ zM M = z := by
  have n0 : ¬ S 0 = 0 := by rw [h1]; decide
  obtain ⟨z, W, hw⟩ := wH_of h.1 (h.2.2.2.2.2.1 n0).1
  exact ⟨z, W, hw, zM_eq hw⟩
theorem gOf_cg {Y' : yT} (h : ∀ p, p < 32 → ysel Y' p = ysel Y p) {z : Nat} : ghas (gOf M Y' z) 0 = ghas (gOf M Y z) 0 := by
  unfold ghas
  apply bool_ext
  simp only [List.any_eq_true, List.mem_range, Bool.and_eq_true]
  constructor
  · rintro ⟨p, p1, p2, p3⟩
    have p2' : ysel Y' p = true := p2
    rw [h p p1] at p2'
    exact ⟨p, p1, p2', p3⟩
  · rintro ⟨p, p1, p2, p3⟩
    have p2' : ysel Y p = true := p2
    rw [← h p p1] at p2'
    exact ⟨p, p1, p2', p3⟩
theorem rel_instant : lwR_instant cR := by
  intro S P X M Y V T a h
  have h' := h
  obtain ⟨h1, h2, h3, h4, h5, h6, h7⟩ := h
  have eF := insF_eq T a Y
  rw [← h2.1] at eF
  refine ⟨fun q => ?_, ?_⟩
  · have s1 : S 0 = 1 := by
      by_cases r : S 0 = (1 : Int32)
      · exact r
      · rw [eF, if_neg r] at q; exact absurd q (by decide)
    obtain ⟨z, W, hw, -⟩ := h'.go s1
    exact wH_mW hw
  · by_cases s1 : S 0 = (1 : Int32)
    · right
      by_cases bad : a < 0 ∨ ¬ a < (16 : Int32)
      · left
        have e : fm_instant T M Y V a = (0, 2, Y, V) := by
          unfold fm_instant
          rw [eF, if_pos s1, if_pos bad, if_neg (by decide)]
        rw [e]
        exact ⟨s1, bad, rfl, h'⟩
      · right
        have b0 : ¬ a < 0 := fun t => bad (Or.inl t)
        have b1 : a < (16 : Int32) := by
          by_cases t : a < (16 : Int32)
          · exact t
          · exact absurd (Or.inr t) bad
        obtain ⟨t, ht, rfl⟩ := a_of b0 b1
        obtain ⟨z, W, hw, zm⟩ := h'.go s1
        obtain ⟨pw1, pw2⟩ := wH_pW hw
        obtain ⟨bg, g1, g2, g3⟩ := h7 s1
        rw [zm] at g3
        obtain ⟨Kf, ⟨x1, x2⟩, ⟨y1, y2⟩, st, c⟩ := rx_ok hw (fun p hp => (h4 p hp).1) (fun p hp => (h4 p hp).2) g1 g2 g3 V ht
        have n0 : ¬ S 0 = 0 := by rw [s1]; decide
        refine ⟨s1, b0, b1, pw1, pw2, ?_⟩
        unfold fm_instant fk_instant
        rw [eF, if_pos s1, if_neg bad, if_pos s1, if_neg b0, if_pos b1, if_pos (show ((0 : Int32), (0 : Int32)).1 = 0 from rfl)]
        generalize fr_isFound P X (Int32.ofNat t) = F at *
        generalize fm_react M Y V (Int32.ofNat t) = R at *
        obtain ⟨is1, is2, is3⟩ := insS_ok R.1 17 0 R.2.1 (by omega) (by omega)
        generalize hI : fm_insS 17 R.2.1 R.1 (0 : Int32) = I
        have eI : fm_insS 17 R.2.1 R.1 (Int32.ofNat 0) = I := hI
        rw [eI] at is1 is2 is3
        have shown : ∀ s, s < 16 → fk_statusIn (F.2.1 3) (F.2.1 4) (Int32.ofNat s) = I.2.2 1 s := fun s hs => by
          obtain ⟨-, v2, -, v4⟩ := st s hs
          rw [v2, is3, if_pos (by omega), v4]
        have i0 : I.2.2 0 = Y.2 0 := (is2 0 (by decide)).trans (y2 0 (by decide))
        have ei : ysel I.2 = ysel Y := by unfold ysel; rw [i0]
        have iy : I.2.1 = Y.1 := is1.trans y1
        rcases c with ⟨c1, c2⟩ | ⟨c1, c2, c3, N, c4, c5, p, p1, p2, p3⟩ | ⟨c1, c2, c3, c4⟩
        · rw [if_pos c1, if_pos c2]
          refine ⟨rfl, rfl, h1, ⟨?_, ?_⟩, fun s hs => ?_, fun p hp => ?_, fun q => ?_, fun _ => h6 n0, fun _ => ⟨bg, x2, ?_, ?_⟩⟩
          · (try dsimp only); rw [kw_at, if_neg (by decide), kw_at, if_neg (by decide), iy]; exact h2.1
          · (try dsimp only); rw [kw_at, if_neg (by decide), kw_at, if_neg (by decide), iy]; exact h2.2
          · (try dsimp only); rw [kw_at, if_neg (by decide), kw_at, if_pos rfl, kw_at, if_pos rfl]; exact shown s hs
          · (try dsimp only); rw [ei, i0]; exact ⟨x1 p hp, (h4 p hp).2⟩
          · have q' : S 0 = 0 := by
              try dsimp only at q
              rw [kw_at, if_neg (by decide), kw_at, if_neg (by decide)] at q; exact q
            exact absurd q' n0
          · (try dsimp only); rw [iy]; exact g2
          · (try dsimp only); rw [zm, gOf_cg (Y := Y) (fun p _ => by rw [ei])]; exact g3
        · obtain ⟨k1, k2, k3⟩ := insK_ok R.2.2 R.1 33 0 (y1w (y1w I.2 1 (I.2.1 1 + 1)) 2 0) (by omega) (by omega)
          generalize hK : fm_insK 33 (y1w (y1w I.2 1 (I.2.1 1 + 1)) 2 0) R.2.2 R.1 (0 : Int32) = Z
          have eK : fm_insK 33 (y1w (y1w I.2 1 (I.2.1 1 + 1)) 2 0) R.2.2 R.1 (Int32.ofNat 0) = Z := hK
          rw [eK] at k1 k2 k3
          have ends : fr_ends (fr_settle F.2) = 0 := by
            unfold fr_ends
            have : fr_mustCodes (fr_settle F.2) = fr_mustCodes F.2 := rfl
            rw [this, c3, if_pos rfl]
          have z0 : ∀ p, p < 32 → Z.2.2 0 p = b2i (N p) := fun p hp => by
            rw [k3, if_pos (by omega)]
            unfold kvI
            rw [if_pos c2, c5 p hp]
            cases N p <;> rfl
          have zs : ∀ p, p < 32 → ysel Z.2 p = N p := fun p hp => by
            unfold ysel
            rw [z0 p hp]
            cases N p <;> rfl
          have nf : ¬ F.1 = 0 := by rw [c1]; decide
          have nm : ¬ R.1 = (-1 : Int32) := by rw [c2]; decide
          rw [if_neg nf, if_pos ends, if_neg nm, if_pos c2]
          simp only [if_pos c2]
          refine ⟨trivial, trivial, h1, ⟨?_, ?_⟩, fun s hs => ?_, fun p hp => ?_, fun q => ?_, fun _ => h6 n0, fun _ => ⟨false, ?_, ?_, fun _ => ?_⟩⟩
          · (try dsimp only); rw [kw_at, if_neg (by decide), kw_at, if_neg (by decide), kw_at, if_neg (by decide), y1w_at, if_pos rfl]; exact s1
          · (try dsimp only); rw [kw_at, if_pos rfl, kw_at, if_neg (by decide), kw_at, if_neg (by decide), y1w_at, if_neg (by decide), k1, y1w_at, if_neg (by decide), y1w_at, if_pos rfl, iy, h2.2]
          · (try dsimp only); rw [kw_at, if_neg (by decide), kw_at, if_neg (by decide), kw_at, if_pos rfl, kw_at, if_neg (by decide), kw_at, if_pos rfl, y1w_2, k2 1 (by decide), y1w_2, y1w_2]; exact shown s hs
          · try dsimp only
            have e1 : (fr_settle F.2).1 0 = F.2.1 1 := by unfold fr_settle; rw [xw_at, if_pos rfl, xw_at, if_neg (by decide)]
            have e2 : ysel (y1w Z.2 0 1) p = ysel Z.2 p := rfl
            rw [e1, c4 p hp, e2, zs p hp, y1w_2]
            exact ⟨rfl, z0 p hp⟩
          · have q' : S 0 = 0 := by
              try dsimp only at q
              rw [kw_at, if_neg (by decide), kw_at, if_neg (by decide), kw_at, if_neg (by decide)] at q; exact q
            exact absurd q' n0
          · (try dsimp only); unfold fr_settle; rw [xw_at, if_neg (by decide), xw_at, if_pos rfl]; rfl
          · (try dsimp only); rw [y1w_at, if_neg (by decide), k1, y1w_at, if_pos rfl]; rfl
          · try dsimp only
            rw [zm]
            simp only [ghas, List.any_eq_true, List.mem_range, Bool.and_eq_true]
            exact ⟨p, p1, (zs p p1).trans p2, p3⟩
        · have n1 : ¬ R.1 = (1 : Int32) := by rw [c2]; decide
          obtain ⟨k1, k2, k3⟩ := insK_ok R.2.2 R.1 33 0 (y1w (y1w I.2 1 (I.2.1 1 + 1)) 2 0) (by omega) (by omega)
          generalize hK : fm_insK 33 (y1w (y1w I.2 1 (I.2.1 1 + 1)) 2 0) R.2.2 R.1 (0 : Int32) = Z
          have eK : fm_insK 33 (y1w (y1w I.2 1 (I.2.1 1 + 1)) 2 0) R.2.2 R.1 (Int32.ofNat 0) = Z := hK
          rw [eK] at k1 k2 k3
          have ends : ¬ fr_ends (fr_settle F.2) = 0 := by
            unfold fr_ends
            have : fr_mustCodes (fr_settle F.2) = fr_mustCodes F.2 := rfl
            rw [this, c3, if_neg (by decide)]
            decide
          have z0 : ∀ p, p < 32 → Z.2.2 0 p = 0 := fun p hp => by
            rw [k3, if_pos (by omega)]
            unfold kvI
            rw [if_neg n1]
          have nf : ¬ F.1 = 0 := by rw [c1]; decide
          have nm : ¬ R.1 = (-1 : Int32) := by rw [c2]; decide
          rw [if_neg nf, if_neg ends, if_neg nm]
          simp only [if_neg n1]
          refine ⟨trivial, trivial, h1, ⟨?_, ?_⟩, fun s hs => ?_, fun p hp => ?_, fun q => ?_, fun _ => h6 n0, fun q => ?_⟩
          · (try dsimp only); rw [kw_at, if_pos rfl, y1w_at, if_pos rfl]
          · (try dsimp only); rw [kw_at, if_neg (by decide), kw_at, if_pos rfl, kw_at, if_neg (by decide), kw_at, if_neg (by decide), y1w_at, if_neg (by decide), k1, y1w_at, if_neg (by decide), y1w_at, if_pos rfl, iy, h2.2]
          · (try dsimp only); rw [kw_at, if_neg (by decide), kw_at, if_neg (by decide), kw_at, if_neg (by decide), kw_at, if_pos rfl, kw_at, if_neg (by decide), kw_at, if_neg (by decide), kw_at, if_pos rfl, y1w_2, k2 1 (by decide), y1w_2, y1w_2]; exact shown s hs
          · try dsimp only
            have e1 : (fr_settle F.2).1 0 = F.2.1 1 := by unfold fr_settle; rw [xw_at, if_pos rfl, xw_at, if_neg (by decide)]
            have e2 : ysel (y1w Z.2 0 2) p = false := ysel_0 (z0 p hp)
            rw [e1, c4 p hp, e2, y1w_2, z0 p hp]
            exact ⟨rfl, rfl⟩
          · try dsimp only at q
            rw [kw_at, if_pos rfl] at q
            exact absurd q (by decide)
          · try dsimp only at q
            rw [kw_at, if_pos rfl] at q
            exact absurd q (by decide)
    · left
      have e : fm_instant T M Y V a = (0, 1, Y, V) := by
        unfold fm_instant
        rw [eF, if_neg s1, if_neg (by decide)]
      rw [e]
      exact ⟨s1, rfl, h'⟩
end REL2
