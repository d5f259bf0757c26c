section REFN
variable {M : mT} {Y : yT} {z : Nat} {K : Nat → Nat}
theorem f1_0 {R : kmT} {V : vT} {i st su : Int32} (h : M.2 0 i.toNatClampNeg = (0 : Int32)) : fm_run1 R M Y V i st su = fm_simple M V i su := by
  unfold fm_run1; rw [h]; rfl
theorem f1_1 {R : kmT} {V : vT} {i su : Int32} (h : M.2 0 i.toNatClampNeg = (1 : Int32)) : fm_run1 R M Y V i 1 su = fm_simple M V i su := by
  unfold fm_run1; rw [h]; rfl
theorem f1_1r {R : kmT} {V : vT} {i su : Int32} (h : M.2 0 i.toNatClampNeg = (1 : Int32)) : fm_run1 R M Y V i 0 su = if su = 0 then (fm_outcome 1 (-1), V) else (fm_outcome 1 0, V) := by
  unfold fm_run1; rw [h]; rfl
theorem f1_2 {R : kmT} {V : vT} {i st su : Int32} (h : M.2 0 i.toNatClampNeg = (2 : Int32)) : fm_run1 R M Y V i st su = fm_simple M V i su := by
  unfold fm_run1; rw [h]; rfl
theorem f1_3 {R : kmT} {V : vT} {i st su : Int32} (h : M.2 0 i.toNatClampNeg = (3 : Int32)) : fm_run1 R M Y V i st su = fm_simple M V i su := by
  unfold fm_run1; rw [h]; rfl
theorem f1_4 {R : kmT} {V : vT} {i st su : Int32} (h : M.2 0 i.toNatClampNeg = (4 : Int32)) : fm_run1 R M Y V i st su = fm_present R M Y V i st su := by
  unfold fm_run1; rw [h]; rfl
theorem f1_5 {R : kmT} {V : vT} {i st su : Int32} (h : M.2 0 i.toNatClampNeg = (5 : Int32)) : fm_run1 R M Y V i st su = fm_suspend R M Y V i st su := by
  unfold fm_run1; rw [h]; rfl
theorem f1_6 {R : kmT} {V : vT} {i su : Int32} (h : M.2 0 i.toNatClampNeg = (6 : Int32)) : fm_run1 R M Y V i 1 su = fm_behind R M (R V ((M.2 2) i.toNatClampNeg) 1 su).2 i (R V ((M.2 2) i.toNatClampNeg) 1 su).1 ((M.2 3) i.toNatClampNeg) 1 su := by
  unfold fm_run1; rw [h]; rfl
theorem f1_6r {R : kmT} {V : vT} {i su : Int32} (h : M.2 0 i.toNatClampNeg = (6 : Int32)) : fm_run1 R M Y V i 0 su = if fm_has M Y ((M.2 2) i.toNatClampNeg) = 0 then R V ((M.2 3) i.toNatClampNeg) 0 su else fm_behind R M (R V ((M.2 2) i.toNatClampNeg) 0 su).2 i (R V ((M.2 2) i.toNatClampNeg) 0 su).1 ((M.2 3) i.toNatClampNeg) 0 su := by
  unfold fm_run1; rw [h]; rfl
theorem f1_7 {R : kmT} {V : vT} {i st su : Int32} (h : M.2 0 i.toNatClampNeg = (7 : Int32)) : fm_run1 R M Y V i st su = fm_parallel R M Y V i st su := by
  unfold fm_run1; rw [h]; rfl
theorem f1_8 {R : kmT} {V : vT} {i su : Int32} (h : M.2 0 i.toNatClampNeg = (8 : Int32)) : fm_run1 R M Y V i 1 su = R V ((M.2 2) i.toNatClampNeg) 1 su := by
  unfold fm_run1; rw [h]; rfl
theorem f1_8r {R : kmT} {V : vT} {i su : Int32} (h : M.2 0 i.toNatClampNeg = (8 : Int32)) : fm_run1 R M Y V i 0 su = fm_behind R M (R V ((M.2 2) i.toNatClampNeg) 0 su).2 i (R V ((M.2 2) i.toNatClampNeg) 0 su).1 ((M.2 2) i.toNatClampNeg) 0 su := by
  unfold fm_run1; rw [h]; rfl
theorem f1_9 {R : kmT} {V : vT} {i st su : Int32} (h : M.2 0 i.toNatClampNeg = (9 : Int32)) : fm_run1 R M Y V i st su = fm_trap R M V i st su := by
  unfold fm_run1; rw [h]; rfl
theorem f1_10 {R : kmT} {V : vT} {i st su : Int32} (h : M.2 0 i.toNatClampNeg = (10 : Int32)) : fm_run1 R M Y V i st su = fm_local R M Y V i st su := by
  unfold fm_run1; rw [h]; rfl
theorem par_eq (R : kmT) (M : mT) (Y : yT) (V : vT) (i st su : Int32) : fm_parallel R M Y V i st su = (fm_outcome (fm_pairs (fm_canOf (fm_side R M Y V ((M.2 2) i.toNatClampNeg) st su).1) (fm_canOf (fm_side R M Y (fm_side R M Y V ((M.2 2) i.toNatClampNeg) st su).2 ((M.2 3) i.toNatClampNeg) st su).1)) (if fm_mustOf (fm_side R M Y V ((M.2 2) i.toNatClampNeg) st su).1 = (-1 : Int32) then -1 else if fm_mustOf (fm_side R M Y (fm_side R M Y V ((M.2 2) i.toNatClampNeg) st su).2 ((M.2 3) i.toNatClampNeg) st su).1 = (-1 : Int32) then -1 else if fm_mustOf (fm_side R M Y V ((M.2 2) i.toNatClampNeg) st su).1 ≤ fm_mustOf (fm_side R M Y (fm_side R M Y V ((M.2 2) i.toNatClampNeg) st su).2 ((M.2 3) i.toNatClampNeg) st su).1 then fm_mustOf (fm_side R M Y (fm_side R M Y V ((M.2 2) i.toNatClampNeg) st su).2 ((M.2 3) i.toNatClampNeg) st su).1 else fm_mustOf (fm_side R M Y V ((M.2 2) i.toNatClampNeg) st su).1), (fm_side R M Y (fm_side R M Y V ((M.2 2) i.toNatClampNeg) st su).2 ((M.2 3) i.toNatClampNeg) st su).2) := by
  unfold fm_parallel fm_parK
  generalize fm_side R M Y V ((M.2 2) i.toNatClampNeg) st su = p
  generalize fm_side R M Y p.2 ((M.2 3) i.toNatClampNeg) st su = q
  by_cases h1 : fm_mustOf p.1 = (-1 : Int32)
  · simp [h1]
  · by_cases h2 : fm_mustOf q.1 = (-1 : Int32)
    · simp [h1, h2]
    · by_cases h3 : fm_mustOf p.1 ≤ fm_mustOf q.1 <;> simp [h1, h2, h3]
theorem simple_eq (hF : mF M z) {i : Nat} (hi : i < z) (h : mso M i = 0 ∨ mso M i = 1 ∨ mso M i = 3) (V : vT) (b : Bool) : fm_simple M V (Int32.ofNat i) (b2i b) = (fm_outcome (cE (occ (oS (if mso M i = 1 then 1 else if mso M i = 3 then 2 + mxo M i else 0) b))) (mN (omc (oS (if mso M i = 1 then 1 else if mso M i = 3 then 2 + mxo M i else 0) b))), if mso M i = 1 ∧ b = true then v2w V 0 (mps M i) 1 else V) := by
  have hz := hF.1
  obtain ⟨⟨s1, s2⟩, -, -, ⟨t1, t2⟩, ⟨p1, p2⟩, -⟩ := hF.2.1 i hi
  have hn := n_of (show i < 2147483648 by omega)
  have eC : fm_simC M (Int32.ofNat i) (b2i b) = Int32.ofNat (if mso M i = 1 then 1 else if mso M i = 3 then 2 + mxo M i else 0) := by
    unfold fm_simC
    rw [hn, s1]
    rcases h with h | h | h
    · rw [h]; rfl
    · rw [h]; rfl
    · rw [h, (t2 h).1]
      exact (Int32.ofNat_add 2 (mxo M i)).symm
  have hc : (if mso M i = 1 then 1 else if mso M i = 3 then 2 + mxo M i else 0) < 7 := by
    split
    · omega
    · split
      · next q => have := (t2 q).2; omega
      · omega
  have eE : fm_simE M V (Int32.ofNat i) (b2i b) (fm_simC M (Int32.ofNat i) (b2i b)) = V := by
    unfold fm_simE
    rw [hn, s1, if_neg]
    intro q
    have := o_inj (b := 2) (by omega) (by decide) q
    omega
  have eP : fm_simP M V (Int32.ofNat i) (b2i b) (fm_simC M (Int32.ofNat i) (b2i b)) = if mso M i = 1 ∧ b = true then v2w V 0 (mps M i) 1 else V := by
    unfold fm_simP
    rw [hn, s1]
    by_cases q : mso M i = 1
    · rw [if_pos (by rw [q]; rfl)]
      cases b with
      | true => rw [if_neg (by decide), if_pos ⟨q, rfl⟩]; rfl
      | false => rw [if_pos (by decide), if_neg (fun r => by cases r.2)]
    · have q' : ¬ Int32.ofNat (mso M i) = (1 : Int32) := fun r => q (o_inj (b := 1) (by omega) (by decide) r)
      rw [if_neg q', if_neg (fun r => q r.1)]
  rw [← oR_S hc b]
  unfold fm_simple
  rw [eE, eP, eC]
  cases b <;> rfl
theorem sr_local (hF : mF M z) (hK : ∀ k, k < 16 + 27 * z → Y.2 2 k = Int32.ofNat (K k) ∧ K k ≤ 2) {i : Nat} (hi : i < z) (h : mso M i = 10) {me : Nat → Nat} {st : Bool} {w : Nat} (hw : w < 26) {b : Bool} {R : kmT} {B : gM} (hR : SR (16 + 27 * z) K (eV (upN me (mxo M i) (slt i st w)) st w) (fun V => R V (Int32.ofNat (i + 1)) (b2i st) (b2i b)) B) : SR (16 + 27 * z) K (eV me st w) (fun V => fm_local R M Y V (Int32.ofNat i) (b2i st) (b2i b)) B := by
  intro V S m0 c0 hV hS hv
  have hz := hF.1
  obtain ⟨-, -, -, -, -, x1, -, -, o1, -⟩ := hF.2.1 i hi
  obtain ⟨f1, -, f3, -⟩ := o1 (by unfold m1p; omega)
  obtain ⟨x1, x2, x3⟩ := x1 (Or.inr h)
  have hn := n_of (show i < 2147483648 by omega)
  have hx := n_of (show mxo M i < 2147483648 by omega)
  have hsl : slt i st w < 16 + 27 * z := by unfold slt; split <;> omega
  have e27 : ∀ t : Nat, ((16 : Int32) + (27 : Int32) * Int32.ofNat i) + Int32.ofNat t = Int32.ofNat (16 + 27 * i + t) := fun t => by
    rw [Int32.ofNat_add, Int32.ofNat_add, Int32.ofNat_mul]; rfl
  have emi : ∀ kp, fm_locM V (Int32.ofNat i) (b2i st) (b2i b) kp = Int32.ofNat (slt i st w) := fun kp => by
    unfold fm_locM slt
    cases st with
    | true => rw [if_neg (by decide), hV.2 rfl, e27]; rfl
    | false => rw [if_pos (by decide)]; exact e27 26
  show oR (fm_local R M Y V (Int32.ofNat i) (b2i st) (b2i b)).1 _ ∧ _
  have eL : fm_local R M Y V (Int32.ofNat i) (b2i st) (b2i b) = ((R (fm_locD Y (v2w V 3 (mxo M i) (Int32.ofNat (slt i st w))) (Int32.ofNat i) (b2i st) (b2i b) (V.2 3 (mxo M i)) (Int32.ofNat (slt i st w))) (Int32.ofNat (i + 1)) (b2i st) (b2i b)).1, v2w (R (fm_locD Y (v2w V 3 (mxo M i) (Int32.ofNat (slt i st w))) (Int32.ofNat i) (b2i st) (b2i b) (V.2 3 (mxo M i)) (Int32.ofNat (slt i st w))) (Int32.ofNat (i + 1)) (b2i st) (b2i b)).2 3 (mxo M i) (V.2 3 (mxo M i))) := by
    unfold fm_local
    rw [hn, x1, hx, emi, f1]
  generalize hV1 : fm_locD Y (v2w V 3 (mxo M i) (Int32.ofNat (slt i st w))) (Int32.ofNat i) (b2i st) (b2i b) (V.2 3 (mxo M i)) (Int32.ofNat (slt i st w)) = V1 at eL
  have v2 : V1.2 = (v2w V 3 (mxo M i) (Int32.ofNat (slt i st w))).2 := by
    rw [← hV1]; unfold fm_locD
    split
    · split
      · rfl
      · split <;> rfl
    · rfl
  have v0 : V1.1 0 = V.1 0 := by
    rw [← hV1]; unfold fm_locD
    split
    · split
      · simp [v1w_at, v2w_1]
      · split <;> simp [v1w_at, v2w_1]
    · simp [v1w_at, v2w_1]
  have vd : (∀ k, 16 ≤ k → k < 16 + 27 * z → K k ≠ 2) → V.1 1 = 0 → V1.1 1 = 0 := fun q1 q2 => by
    have hk := hK _ hsl
    have hne : ¬ Y.2 2 (Int32.ofNat (slt i st w)).toNatClampNeg = (2 : Int32) := by
      rw [n_of (by omega), hk.1]
      intro q
      have h16 : 16 ≤ slt i st w := by unfold slt; omega
      exact q1 _ h16 hsl (o_inj (b := 2) (by omega) (by decide) q)
    rw [← hV1]; unfold fm_locD
    rw [v2w_1, if_pos q2]
    split
    · simp [v1w_at]
    · simp [v1w_at]
  obtain ⟨a1, a2, a3, a4, a5⟩ := hR V1 S m0 c0 ⟨fun s hs => by
      rw [v2, v2w_at]
      by_cases e : s = mxo M i
      · rw [if_pos e]; simp [upN, e]
      · rw [if_neg e]; simp only [upN, if_neg e]; exact hV.1 s hs, fun e => v0.trans (hV.2 e)⟩ hS ⟨fun k hk => by rw [v2, v2w_ne _ _ _ (by decide)]; exact hv.1 k hk, fun k hk => by rw [v2, v2w_ne _ _ _ (by decide)]; exact hv.2.1 k hk, fun k hk => by rw [v2, v2w_ne _ _ _ (by decide)]; exact hv.2.2 k hk⟩
  dsimp only
  rw [eL]
  refine ⟨a1, a2.trans v0, fun s hs => ?_, ⟨fun k hk => ?_, fun k hk => ?_, fun k hk => ?_⟩, fun q1 q2 => a5 q1 (vd q1 q2)⟩
  · show (v2w _ 3 _ _).2 3 s = _
    rw [v2w_at]
    by_cases e : s = mxo M i
    · rw [if_pos e, e]
    · rw [if_neg e, a3 s hs, v2, v2w_at, if_neg e]
  · show (v2w _ 3 _ _).2 1 k = _
    rw [v2w_ne _ _ _ (by decide)]; exact a4.1 k hk
  · show (v2w _ 3 _ _).2 2 k = _
    rw [v2w_ne _ _ _ (by decide)]; exact a4.2.1 k hk
  · show (v2w _ 3 _ _).2 0 k = _
    rw [v2w_ne _ _ _ (by decide)]; exact a4.2.2 k hk
theorem sr_trap (hF : mF M z) {i : Nat} (hi : i < z) (h : mso M i = 9) {me : Nat → Nat} {st : Bool} {w : Nat} {b : Bool} {R : kmT} {B : gM} (ok : ∀ S, oOk b (B S).1) (cp : ∀ S c, occ (B S).1 c = true → c < 7) (hR : SR (16 + 27 * z) K (eV me st w) (fun V => R V (Int32.ofNat (i + 1)) (b2i st) (b2i b)) B) : SR (16 + 27 * z) K (eV me st w) (fun V => fm_trap R M V (Int32.ofNat i) (b2i st) (b2i b)) (gTrap (mhp M z i) B) := by
  intro V S m0 c0 hV hS hv
  have hz := hF.1
  obtain ⟨-, ⟨e1, e2, e3⟩, -, -, -, -, -, -, o1, -⟩ := hF.2.1 i hi
  obtain ⟨f1, -, f3, -⟩ := o1 (by unfold m1p; omega)
  have hn := n_of (show i < 2147483648 by omega)
  obtain ⟨a1, a2, a3, a4, a5⟩ := hR V S m0 c0 hV hS hv
  have h2 : fm_mustOf (R V (Int32.ofNat (i + 1)) (b2i st) (b2i b)).1 = (2 : Int32) ↔ omc (B S).1 2 = true := by
    rw [a1.must]
    constructor
    · intro q
      by_cases hn' : ∀ c, omc (B S).1 c = false
      · rw [mN_none hn'] at q; exact absurd q (by decide)
      · obtain ⟨c, hc⟩ := or_none (b := b) hn'
        rw [mN_some (ok S) (cp S) hc] at q
        have := cp S c ((ok S).1 c hc)
        have := o_inj (b := 2) (by omega) (by decide) q
        rw [← this]; exact hc
    · intro q; exact mN_some (ok S) (cp S) q
  have eT : fm_trap R M V (Int32.ofNat i) (b2i st) (b2i b) = (fm_outcome (fm_caught (fm_canOf (R V (Int32.ofNat (i + 1)) (b2i st) (b2i b)).1)) (if fm_mustOf (R V (Int32.ofNat (i + 1)) (b2i st) (b2i b)).1 = (2 : Int32) then 0 else if fm_mustOf (R V (Int32.ofNat (i + 1)) (b2i st) (b2i b)).1 ≤ (2 : Int32) then fm_mustOf (R V (Int32.ofNat (i + 1)) (b2i st) (b2i b)).1 else fm_mustOf (R V (Int32.ofNat (i + 1)) (b2i st) (b2i b)).1 - 1), (fm_trpL 121 M (R V (Int32.ofNat (i + 1)) (b2i st) (b2i b)).2 (Int32.ofNat i) (R V (Int32.ofNat (i + 1)) (b2i st) (b2i b)).1 (fm_mustOf (R V (Int32.ofNat (i + 1)) (b2i st) (b2i b)).1) (Int32.ofNat i)).2) := by
    unfold fm_trap
    rw [hn, f1]
    generalize R V (Int32.ofNat (i + 1)) (b2i st) (b2i b) = r
    by_cases q1 : fm_mustOf r.1 = (2 : Int32)
    · rw [if_pos q1, if_pos q1]
    · rw [if_neg q1, if_neg q1]
      by_cases q2 : fm_mustOf r.1 ≤ (2 : Int32)
      · rw [if_pos q2, if_pos q2]
      · rw [if_neg q2, if_neg q2]
  show oR (fm_trap R M V (Int32.ofNat i) (b2i st) (b2i b)).1 _ ∧ _
  dsimp only at a1 a2 a3 a4 a5 ⊢
  rw [eT]
  have lp : nLoop (R V (Int32.ofNat (i + 1)) (b2i st) (b2i b)).2 (fm_trpL 121 M (R V (Int32.ofNat (i + 1)) (b2i st) (b2i b)).2 (Int32.ofNat i) (R V (Int32.ofNat (i + 1)) (b2i st) (b2i b)).1 (fm_mustOf (R V (Int32.ofNat (i + 1)) (b2i st) (b2i b)).1) (Int32.ofNat i)).2 (fun p => omc (B S).1 2 && hpr M z i i p) (fun _ => 0) := by
    cases m : omc (B S).1 2 with
    | true =>
      rw [h2.mpr m]
      simpa using trpL_eq hF hi 121 i (R V (Int32.ofNat (i + 1)) (b2i st) (b2i b)).2 (by omega) (by omega)
    | false =>
      rw [trpL_no hF hi (fun q => by rw [h2.mp q] at m; cases m)]
      exact ⟨rfl, fun _ _ => rfl, fun p hp => by simp⟩
  obtain ⟨l1, l2, l3⟩ := lp
  refine ⟨oR_trap (ok S) (cp S) a1, by dsimp only; rw [l1]; exact a2, fun s hs => by dsimp only; rw [l2 3 (by decide)]; exact a3 s hs, ⟨fun k hk => ?_, fun k hk => ?_, fun p hp => ?_⟩, fun q1 q2 => by dsimp only; rw [l1]; exact a5 q1 q2⟩
  · dsimp only; rw [l2 1 (by decide)]; exact a4.1 k hk
  · dsimp only; rw [l2 2 (by decide)]; exact a4.2.1 k hk
  · dsimp only
    rw [l3 p hp]
    simp only [hpr_self hp, a4.2.2 p hp]
    unfold gTrap
    dsimp only
    cases m : omc (B S).1 2 with
    | true =>
      simp only [Bool.true_and, if_true]
      show _ = b2i (sN (B S).2 p && !mhp M z i p)
      cases q : mhp M z i p <;> simp [b2i]
    | false => simp

theorem sr_side (hF : mF M z) {j : Nat} (hj : j < z) {me : Nat → Nat} {st : Bool} {w : Nat} {b : Bool} {R : kmT} {Rg : gR} (hR : (st = false → ghas (gOf M Y z) j = true) → SR (16 + 27 * z) K (eV me st w) (fun V => R V (Int32.ofNat j) (b2i st) (b2i b)) (Rg me j st w b)) : SR (16 + 27 * z) K (eV me st w) (fun V => fm_side R M Y V (Int32.ofNat j) (b2i st) (b2i b)) (if st = true then Rg me j true w b else gBr (gOf M Y z) Rg me j w b) := by
  cases st with
  | true =>
    rw [if_pos rfl]
    exact hR (fun q => by cases q)
  | false =>
    rw [if_neg (by decide)]
    unfold gBr
    by_cases hh : ghas (gOf M Y z) j = true
    · rw [if_pos hh]
      have e : ∀ V, fm_side R M Y V (Int32.ofNat j) (b2i false) (b2i b) = R V (Int32.ofNat j) (b2i false) (b2i b) := fun V => by
        unfold fm_side
        rw [if_pos (by decide), has_eq hF hj, hh, if_neg (by decide)]
      simp only [e]
      exact hR (fun _ => hh)
    · rw [if_neg hh]
      have hh' : ghas (gOf M Y z) j = false := by simpa using hh
      refine SR.pure (fun V _ => ?_) (fun k => by simp [omf, oS]) (fun k => by simp [ocf, oS])
      show fm_side R M Y V (Int32.ofNat j) (b2i false) (b2i b) = _
      rw [← oR_S (c := 0) (by decide) b]
      unfold fm_side
      rw [if_pos (by decide), has_eq hF hj, hh', if_pos (by decide)]
      cases b <;> rfl
theorem no_has (hF : mF M z) {i : Nat} (hi : i < z) (h : mso M i = 2 ∨ mso M i = 3) : ¬ ghas (gOf M Y z) i = true := by
  intro q
  obtain ⟨-, -, -, -, -, -, -, l, -⟩ := hF.2.1 i hi
  have e := (l (by omega)).1
  simp only [ghas, List.any_eq_true, Bool.and_eq_true, List.mem_range] at q
  obtain ⟨p, hp, -, h2⟩ := q
  obtain ⟨-, k, k1, k2, k3, k4⟩ := mhp_iff.mp h2
  have : k = i := by omega
  subst this
  have := ((m8_iff hF hi hp).mp k4).1
  omega
end REFN
