/-- class and reference hold the same program under way -/
def bX (P : pT) (M : mT) : Prop := M.1 3 = P.1 2 ∧ ∃ (z L : Nat) (op lf : Nat → Nat) (np W : Nat), bI P M z L op lf np W ∧ (0 < L → 0 < lf (L - 1))
section PUT7
variable {P : pT} {M : mT} {z L np W : Nat} {op lf : Nat → Nat}
theorem bI.m3 {v : Int32} (h : bI P M z L op lf np W) : bI P (m1w M 3 v) z L op lf np W := h
def pVt (P1 : pT) (z L k : Nat) : pT := pw (pa (pa P1 7 L (Int32.ofNat z)) 8 L (Int32.ofNat k)) 0 (Int32.ofNat (L + 1))
theorem put_add (h : bI P M z L op lf np W) (hst : 0 < L → 0 < lf (L - 1)) (hd : M.1 3 = P.1 2) (hnw : z = 0 ∨ 0 < L) {s : Nat} {x : Int32} (hs : s ≤ 10) (hx : nX s x (cn (fun l => decide (mso M (op l) = 9)) L)) (hr : Rm z L np (cn (fun l => decide (mso M (op l) = 9)) L) W (hNx P M L op lf) s) {M1 : mT}
    (hM1 : M1 = fm_putC (fm_putB (fm_putA M (Int32.ofNat s) x (if L = 0 then -1 else Int32.ofNat (op (L - 1))) (b2i (otB M L op)) (Int32.ofNat (hNx P M L op lf))).2 (Int32.ofNat s) x (if L = 0 then -1 else Int32.ofNat (op (L - 1))) (b2i (otB M L op)) (fm_putA M (Int32.ofNat s) x (if L = 0 then -1 else Int32.ofNat (op (L - 1))) (b2i (otB M L op)) (Int32.ofNat (hNx P M L op lf))).1) (Int32.ofNat s) x (fm_putA M (Int32.ofNat s) x (if L = 0 then -1 else Int32.ofNat (op (L - 1))) (b2i (otB M L op)) (Int32.ofNat (hNx P M L op lf))).1) :
    (fm_putL 26 M1 (Int32.ofNat s)).1 3 + (fm_partsOf (Int32.ofNat s) - 1) = (fp_add P (Int32.ofNat s) x).1 2 ∧ ∃ (z' L' : Nat) (op' lf' : Nat → Nat) (np' W' : Nat), bI (fp_add P (Int32.ofNat s) x) (fm_putL 26 M1 (Int32.ofNat s)) z' L' op' lf' np' W' ∧ (0 < L' → 0 < lf' (L' - 1)) := by
  obtain ⟨r1, r2, r3, r4, r5⟩ := hr
  obtain ⟨⟨a1, a2, a3⟩, ⟨a4, a5, a6⟩, ⟨a7, a8, a9⟩, ⟨a10, a11, a12⟩, a13⟩ := h.1
  obtain ⟨t1, t2, t3⟩ := traps_ok h
  obtain ⟨n1, n2, n3, n4, n5⟩ := next_ok h hst (Int32.ofNat s) x
  have ht : 0 < L → M.2 9 (L - 1) = Int32.ofNat (op (L - 1)) ∧ op (L - 1) < z := fun q => by
    have b := h.2.1 (L - 1) (by omega)
    exact ⟨b.1, b.2.2.1⟩
  have ht' : 0 < L → P.2 7 (L - 1) = Int32.ofNat (op (L - 1)) ∧ op (L - 1) < z := fun q => by
    have b := h.2.1 (L - 1) (by omega)
    exact ⟨b.2.1, b.2.2.1⟩
  have ho : ∀ j, j < L → P.2 7 j = Int32.ofNat (op j) ∧ op j < z := fun j hj => ⟨(h.2.1 j hj).2.1, (h.2.1 j hj).2.2.1⟩
  obtain ⟨c0, c1, c2, c3, c4, c5⟩ := putC_ok (so := Int32.ofNat s) (x := x) (he := Int32.ofNat (hNx P M L op lf)) (t := op (L - 1)) (ot := otB M L op) a1 (by omega) a4 (by omega) ht
  rw [← hM1] at c0 c1 c2 c3 c4 c5
  rw [a7] at c1
  rw [a10] at c2
  rw [t2] at c5
  obtain ⟨P1, e1, e2⟩ := add_eq (so := Int32.ofNat s) (x := x) a2 r1 a5 (by omega) ht' ho
  rw [n1] at e2
  obtain ⟨p1, p2, p3⟩ := parts_eq hs
  have hot : 0 < L → (otB M L op = false ↔ M.2 2 (op (L - 1)) = (-1 : Int32)) := fun q => by
    unfold otB; simp [q]
  have pu := bI.push (Pv := pVt P1 z L (pr s)) (M1 := M1) (P1 := P1) h hst hnw hs hx rfl t3 r4 r2 r1 r3 rfl r5 hot c0 c1 c2 c4 c5 e2 (fun k hk => by unfold pVt; rw [pw_at, if_neg hk, pa_1, pa_1]) (by unfold pVt; rw [pw_at, if_pos rfl]) (fun a j => by
    unfold pVt
    rw [pw_2, pa_at, pa_at]
    by_cases q8 : a = 8 ∧ j = L
    · rw [if_pos q8, if_neg (by omega), if_pos q8]
    · rw [if_neg q8]
      by_cases q7 : a = 7 ∧ j = L
      · rw [if_pos q7, if_pos q7]
      · rw [if_neg q7, if_neg q7, if_neg q8])
  have lfL : lfN L (pr s) lf L = pr s := by unfold lfN; rw [if_pos rfl]
  have opL : opN L z op L = z := by unfold opN; rw [if_pos rfl]
  have m10 : M1.2 10 L = Int32.ofNat (pr s) := by
    have := (pu.2.1 L (by omega)).2.2.2.1
    rw [lfL] at this
    exact this
  have m9 : M1.2 9 L = Int32.ofNat z := by
    have := (pu.2.1 L (by omega)).1
    rw [opL] at this
    exact this
  have due : M1.1 3 + (fm_partsOf (Int32.ofNat s) - 1) = P1.1 2 := by rw [c3, hd, e2.2.2.1, p1, p2]
  have q4 : ¬ M1.1 4 ≤ 0 := fun t => by rw [c4] at t; exact absurd ((le0 (by omega)).mp t) (by omega)
  have q5 : (M1.1 4 - (1 : Int32)) = Int32.ofNat L := by rw [c4, o_sub (by omega) (by omega)]; rfl
  rw [e1, p2]
  by_cases k : pr s = 0
  · -- a leaf
    have u : fm_putL 26 M1 (Int32.ofNat s) = fm_putL 25 (m2w (m1w M1 4 (Int32.ofNat L)) 4 z (Int32.ofNat (z + 1))) (Int32.ofNat s) := by
      have e9 : (m1w M1 4 (Int32.ofNat L)).2 9 ((m1w M1 4 (Int32.ofNat L)).1 4).toNatClampNeg = Int32.ofNat z := by
        rw [m1w_2, m1w_at, if_pos rfl, n_of (by omega), m9]
      have e0 : (m1w M1 4 (Int32.ofNat L)).1 0 = Int32.ofNat (z + 1) := by rw [m1w_at, if_neg (by decide), c0]
      rw [fm_putL, if_neg q4, q5, n_of (by omega), m10, if_pos ((eq0 (by omega)).mpr k), e9, e0, n_of (by omega)]
    rw [if_pos ((le0 (by omega)).mpr k), u]
    have pp := pu.pop (P' := P1) (M' := m2w (m1w M1 4 (Int32.ofNat L)) 4 z (Int32.ofNat (z + 1))) (lfL.trans k) (fun k hk => by unfold pVt; rw [pw_at, if_neg hk, pa_1, pa_1]) (e2.1.trans a5) (fun a h7 h8 => by
      funext j
      unfold pVt
      rw [pw_2, pa_at, pa_at, if_neg (fun t => h8 t.1), if_neg (fun t => h7 t.1)]) (fun j hj => by
      unfold pVt
      rw [pw_2, pa_at, pa_at, pa_at, pa_at, if_neg (by omega), if_neg (by omega), if_neg (by omega), if_neg (by omega)]
      exact ⟨rfl, rfl⟩) (fun k hk => by rw [m2w_1, m1w_at, if_neg hk]) (by rw [m2w_1, m1w_at, if_pos rfl]) (fun a j => by rw [m2w_at, m1w_2, opL])
    obtain ⟨L', d1, d2, d3, d4⟩ := closeL_ok (Int32.ofNat s) L 25 25 P1 (m2w (m1w M1 4 (Int32.ofNat L)) 4 z (Int32.ofNat (z + 1))) pp (by omega) (by omega)
    refine ⟨?_, z + 1, L', _, _, _, _, d1, d2⟩
    rw [d3]
    show _ = (fp_closeL 25 P1).1 2
    rw [d4, m2w_1, m1w_at, if_neg (by decide)]
    exact due
  · -- one with parts
    have u : fm_putL 26 M1 (Int32.ofNat s) = M1 := by
      rw [fm_putL, if_neg q4, q5, n_of (by omega), m10, if_neg (fun t => k ((eq0 (by omega)).mp t))]
    have v : fp_openUp P1 (Int32.ofNat z) (Int32.ofNat (pr s)) = pVt P1 z L (pr s) := by
      have e0 : P1.1 0 = Int32.ofNat L := e2.1.trans a5
      have n24 : ¬ (24 : Int32) ≤ Int32.ofNat L := fun t => by
        have := (o_le (a := 24) (b := L) (by omega) (by omega)).mp t
        omega
      unfold fp_openUp pVt
      rw [pa_1, pa_1, pa_1, e0, if_neg n24, n_of (by omega), o_add]
    rw [if_neg (fun t => k ((le0 (by omega)).mp t)), u, v]
    refine ⟨?_, z + 1, L + 1, _, _, _, _, pu, fun _ => ?_⟩
    · rw [due]
      unfold pVt
      rw [pw_at, if_neg (by decide), pa_1, pa_1]
    · show 0 < lfN L (pr s) lf L
      rw [lfL]; omega
theorem put_ok (hb : bX P M) (T a b : Int32) :
    (¬ fp_isWhole P = 0 ∧ (fm_put T M a b).2.1 = 1 ∧ (fm_put T M a b).2.2 = M) ∨
    (fp_isWhole P = 0 ∧ fp_allows P a b = 0 ∧ (fm_put T M a b).2.1 = 2 ∧ (fm_put T M a b).2.2 = M) ∨
    (fp_isWhole P = 0 ∧ ¬ fp_allows P a b = 0 ∧ (fm_put T M a b).2.1 = 0 ∧ (fk_put P a b).1 = (fm_put T M a b).1 ∧ bX (fk_put P a b).2 (fm_put T M a b).2.2) := by
  obtain ⟨hd, z, L, op, lf, np, W, h, hst⟩ := hb
  by_cases w : P.1 2 = 0
  · left
    have e1 : fp_isWhole P = 1 := by unfold fp_isWhole; rw [if_pos w]
    have e2 : fm_putW M a b = 1 := by unfold fm_putW; rw [hd, if_pos w]
    have e3 : fm_putF T M a b 1 = (1, 1) := rfl
    refine ⟨by rw [e1]; decide, ?_⟩
    unfold fm_put
    rw [e2, e3, if_neg (show ¬ (1 : Int32) = 0 by decide)]
    exact ⟨rfl, rfl⟩
  · right
    have e1 : fp_isWhole P = 0 := by unfold fp_isWhole; rw [if_neg w]
    have e2 : fm_putW M a b = 0 := by unfold fm_putW; rw [hd, if_neg w]
    have no : fm_isSaid M a b = 0 → (fm_put T M a b).2.1 = 2 ∧ (fm_put T M a b).2.2 = M := fun q => by
      have e3 : fm_putF T M a b 0 = (1, 2) := by unfold fm_putF; rw [if_pos rfl, if_pos q]; rfl
      unfold fm_put
      rw [e2, e3, if_neg (show ¬ (1 : Int32) = 0 by decide)]
      exact ⟨rfl, rfl⟩
    by_cases out : a < 0 ∨ (10 : Int32) < a
    · left
      obtain ⟨x1, x2⟩ := al_out (P := P) (M := M) (x := b) out
      exact ⟨e1, x1, no x2⟩
    · have ea : a = Int32.ofNat a.toInt.toNat ∧ a.toInt.toNat ≤ 10 := by
        rw [Int32.lt_iff_toInt_lt, Int32.lt_iff_toInt_lt, show (0 : Int32).toInt = 0 from rfl, show (10 : Int32).toInt = 10 from rfl] at out
        exact ⟨o_to (by omega), by omega⟩
      obtain ⟨ea, hs⟩ := ea
      generalize a.toInt.toNat = s at *
      subst ea
      obtain ⟨t1, t2, t3⟩ := traps_ok h
      obtain ⟨x1, x2⟩ := al_in (P := P) (M := M) (x := b) hs t3 t1 t2
      by_cases al : fp_allows P (Int32.ofNat s) b = 0
      · left
        exact ⟨e1, al, no (x1.symm.trans al)⟩
      · right
        have e3 : fm_putF T M (Int32.ofNat s) b 0 = (0, 0) := by unfold fm_putF; rw [if_pos rfl, ← x1, if_neg al]; rfl
        obtain ⟨n1, n2, n3, n4, n5⟩ := next_ok h hst (Int32.ofNat s) b
        obtain ⟨k1, k2⟩ := room_ok h hs t3 n5 t1 t2 n1 b (if L = 0 then (-1 : Int32) else Int32.ofNat (op (L - 1))) (b2i (otB M L op))
        refine ⟨e1, al, ?_⟩
        unfold fm_put fk_put
        rw [e2, e3, e1, n2, n3, n4, if_pos (show (0 : Int32) = 0 from rfl), if_pos (show (0 : Int32) = 0 from rfl), if_neg al]
        by_cases R : Rm z L np (cn (fun l => decide (mso M (op l) = 9)) L) W (hNx P M L op lf) s
        · obtain ⟨j1, j2⟩ := k1 R
          rw [j1, j2, if_neg (show ¬ (1 : Int32) = 0 by decide), if_pos (show (0 : Int32) = 0 from rfl)]
          have hnw : z = 0 ∨ 0 < L := by
            by_cases q : z = 0
            · exact Or.inl q
            · right
              rcases Nat.eq_zero_or_pos L with r | r
              · exfalso
                apply w
                rw [h.2.2.2.2.2.2.2.2.2.2, if_neg q, r]
                rfl
              · exact r
          obtain ⟨y1, z', L', op', lf', np', W', y2, y3⟩ := put_add h hst hd hnw hs (x2 al) R rfl
          refine ⟨rfl, ?_, ?_, z', L', op', lf', np', W', y2.m3, y3⟩
          · exact y1.symm
          · exact y1
        · obtain ⟨j1, j2⟩ := k2 R
          rw [j1, j2, if_neg (show ¬ (1 : Int32) = 0 by decide), if_pos (show (0 : Int32) = 0 from rfl)]
          exact ⟨rfl, rfl, hd, z, L, op, lf, np, W, h, hst⟩
end PUT7
