section PUT4
variable {P Pv : pT} {M M1 : mT} {z L np W : Nat} {op lf : Nat → Nat}
def opN (L z : Nat) (op : Nat → Nat) (j : Nat) : Nat := if j = L then z else op j
def lfN (L k : Nat) (lf : Nat → Nat) (j : Nat) : Nat := if j = L then k else if j + 1 = L then lf j - 1 else lf j
theorem o_as {A k : Nat} (h : 1 ≤ A) : Int32.ofNat A + (Int32.ofNat k - (1 : Int32)) = Int32.ofNat (A + k - 1) := by
  obtain ⟨B, rfl⟩ : ∃ B, A = B + 1 := ⟨A - 1, by omega⟩
  rw [show B + 1 + k - 1 = B + k by omega, ← o_add, Int32.ofNat_add, Int32.add_assoc]
  congr 1
  rw [Int32.add_comm, Int32.sub_add_cancel]
theorem parts_eq {s : Nat} (h : s ≤ 10) : fm_partsOf (Int32.ofNat s) = Int32.ofNat (pr s) ∧ fPARTS (Int32.ofNat s).toNatClampNeg = Int32.ofNat (pr s) ∧ pr s ≤ 2 := by
  have : ∀ s, s ≤ 10 → fm_partsOf (Int32.ofNat s) = Int32.ofNat (pr s) ∧ fPARTS (Int32.ofNat s).toNatClampNeg = Int32.ofNat (pr s) ∧ pr s ≤ 2 := by decide +kernel
  exact this s h
theorem sm_push {k : Nat} (h : 0 < L → 0 < lf (L - 1)) : sm (lfN L k lf) (L + 1) = (if L = 0 then 0 else sm lf L - 1) + k := by
  show sm (lfN L k lf) L + lfN L k lf L = _
  have e : lfN L k lf L = k := by unfold lfN; rw [if_pos rfl]
  rw [e]
  congr 1
  cases L with
  | zero => rfl
  | succ n =>
    rw [if_neg (by omega)]
    show sm (lfN (n + 1) k lf) n + lfN (n + 1) k lf n = sm lf n + lf n - 1
    rw [sm_cg (g := lf) n (fun j hj => by unfold lfN; rw [if_neg (by omega), if_neg (by omega)])]
    have : lfN (n + 1) k lf n = lf n - 1 := by unfold lfN; rw [if_neg (by omega), if_pos rfl]
    rw [this]
    have h1 : 0 < lf n := by have := h (by omega); simpa using this
    omega
theorem due_push {k : Nat} (hst : 0 < L → 0 < lf (L - 1)) (hnw : z = 0 ∨ 0 < L) (hR2 : z = 0 → L = 0) : Int32.ofNat (if z = 0 then 1 else sm lf L) + (Int32.ofNat k - (1 : Int32)) = Int32.ofNat (sm (lfN L k lf) (L + 1)) := by
  rw [sm_push hst]
  by_cases e : L = 0
  · have h0 : z = 0 := by omega
    rw [if_pos h0, if_pos e, o_as (Nat.le_refl 1), show 1 + k - 1 = 0 + k by omega]
  · have hz0 : z ≠ 0 := fun q => e (hR2 q)
    have p1 : 1 ≤ sm lf L := by
      obtain ⟨k, rfl⟩ : ∃ k, L = k + 1 := ⟨L - 1, by omega⟩
      have := hst (by omega)
      show 1 ≤ sm lf k + lf k
      rw [show k + 1 - 1 = k from rfl] at this
      omega
    rw [if_neg hz0, if_neg e, o_as p1, show sm lf L + k - 1 = sm lf L - 1 + k by omega]
set_option maxHeartbeats 4000000 in
/-- a new statement begins -/
theorem bI.push (h : bI P M z L op lf np W) (hst : 0 < L → 0 < lf (L - 1)) (hnw : z = 0 ∨ 0 < L) {s T hh : Nat} {x : Int32} {ot : Bool} (hs : s ≤ 10) (hx : nX s x T) (hT : T = cn (fun l => decide (mso M (op l) = 9)) L) (hT5 : T ≤ 5) (h9 : s = 9 → T < 5) (hL : L < 24) (hz : z < 120) (hnp : s = 1 → np < 32)
    (hw : hh = if L = 0 then 1 else pwt P (op (L - 1)) + (if mso M (op (L - 1)) = 8 ∨ (mso M (op (L - 1)) = 6 ∧ lf (L - 1) = 1) then 1 else 0)) (hW : W + hh ≤ 360) (hot : 0 < L → (ot = false ↔ M.2 2 (op (L - 1)) = (-1 : Int32)))
    (m10 : M1.1 0 = Int32.ofNat (z + 1)) (m11 : M1.1 1 = Int32.ofNat np + (if Int32.ofNat s = 1 then 1 else 0)) (m12 : M1.1 2 = Int32.ofNat W + Int32.ofNat hh) (m14 : M1.1 4 = Int32.ofNat (L + 1)) (ma : ∀ a j, M1.2 a j = mC1 M (Int32.ofNat s) x (Int32.ofNat T) (Int32.ofNat hh) z L (op (L - 1)) (if ot then 3 else 2) a j)
    {P1 : pT} (hp : pSp P P1 (Int32.ofNat s) x (Int32.ofNat hh) z L (op (L - 1)) op) (q1 : ∀ k, k ≠ 0 → Pv.1 k = P1.1 k) (q0 : Pv.1 0 = Int32.ofNat (L + 1)) (qa : ∀ a j, Pv.2 a j = if a = 7 ∧ j = L then Int32.ofNat z else if a = 8 ∧ j = L then Int32.ofNat (pr s) else P1.2 a j) :
    bI Pv M1 (z + 1) (L + 1) (opN L z op) (lfN L (pr s) lf) (np + (if s = 1 then 1 else 0)) (W + hh) := by
  obtain ⟨⟨⟨a1, a2, a3⟩, ⟨a4, a5, a6⟩, ⟨a7, a8, a9⟩, ⟨a10, a11, a12⟩, a13⟩, hB, hN, hC, hE, hO, ⟨hP1, hP2, hP3⟩, ⟨hW1, hW2⟩, ⟨hR1, hR2, hR3⟩⟩ := h
  obtain ⟨x0, x1, x2, x3, x4, x5, x6, x7⟩ := hp
  have s1 : Int32.ofNat s = (1 : Int32) ↔ s = 1 := ⟨fun q => o_inj (b := 1) (by omega) (by omega) q, fun q => by rw [q]; rfl⟩
  have s8 : Int32.ofNat s = (8 : Int32) ↔ s = 8 := ⟨fun q => o_inj (b := 8) (by omega) (by omega) q, fun q => by rw [q]; rfl⟩
  have tz : 0 < L → op (L - 1) < z := fun q => (hB (L - 1) (by omega)).2.2.1
  have c23 : (if ot then 3 else 2 : Nat) = 2 ∨ (if ot then 3 else 2 : Nat) = 3 := by cases ot <;> simp
  -- the arrays
  have ea : ∀ a, a = 0 ∨ a = 1 ∨ a = 4 ∨ a = 5 ∨ a = 6 ∨ a = 7 ∨ a = 8 → ∀ i, i ≠ z → M1.2 a i = M.2 a i := fun a ha i hi => by
    rw [ma]; unfold mC1 mA1
    rw [if_neg (by omega), if_neg (by omega), if_neg (by omega), if_neg (by omega)]
    simp [hi]
  have e4 : ∀ i, M1.2 4 i = M.2 4 i := fun i => by
    rw [ma]; unfold mC1 mA1
    rw [if_neg (by omega), if_neg (by omega), if_neg (by omega), if_neg (by omega)]
    simp
  have e2 : ∀ i, i ≠ z → M1.2 2 i = if 0 < L ∧ ot = false ∧ i = op (L - 1) then Int32.ofNat z else M.2 2 i := fun i hi => by
    rw [ma]; unfold mC1 mA1
    rw [if_neg (by omega), if_neg (by omega), if_neg (by omega)]
    cases ot <;> simp [hi]
  have e3 : ∀ i, i ≠ z → M1.2 3 i = if 0 < L ∧ ot = true ∧ i = op (L - 1) then Int32.ofNat z else M.2 3 i := fun i hi => by
    rw [ma]; unfold mC1 mA1
    rw [if_neg (by omega), if_neg (by omega), if_neg (by omega)]
    cases ot <;> simp [hi]
  have nt : ¬ (0 < L ∧ z = op (L - 1)) := fun q => by have := tz q.1; omega
  have z0 : ∀ a, M1.2 a z = if a = 10 ∧ z = L then fm_partsOf (Int32.ofNat s) else if a = 9 ∧ z = L then Int32.ofNat z else if a = 10 ∧ z + 1 = L then M.2 10 z - 1 else mA1 M (Int32.ofNat s) x (Int32.ofNat T) (Int32.ofNat hh) z L a z := fun a => by
    rw [ma]; unfold mC1
    congr 1
    congr 1
    congr 1
    rw [if_neg (fun q => nt ⟨q.1, q.2.2⟩)]
  have zz0 : M1.2 0 z = Int32.ofNat s := by rw [z0]; simp [mA1]
  have zz1 : M1.2 1 z = x := by rw [z0]; simp [mA1]
  have zz2 : M1.2 2 z = (-1 : Int32) := by rw [z0]; simp [mA1]
  have zz3 : M1.2 3 z = (-1 : Int32) := by rw [z0]; simp [mA1]
  have zz5 : M1.2 5 z = Int32.ofNat L := by rw [z0]; simp [mA1]
  have zz6 : M1.2 6 z = Int32.ofNat T := by rw [z0]; simp [mA1]
  have zz7 : M1.2 7 z = Int32.ofNat hh := by rw [z0]; simp [mA1]
  have zz8 : M1.2 8 z = if s = 1 then Int32.ofNat np else -1 := by
    rw [z0]
    by_cases q : s = 1
    · rw [if_pos q]; simp [mA1, a7, s1.mpr q]
    · have q' : ¬ Int32.ofNat s = (1 : Int32) := fun t => q (s1.mp t)
      rw [if_neg q]; simp [mA1, q']
  have pa' : ∀ a, a = 0 ∨ a = 1 ∨ a = 3 ∨ a = 4 → ∀ i, i ≠ z → Pv.2 a i = P.2 a i := fun a ha i hi => by
    rw [qa, if_neg (by omega), if_neg (by omega), x6 a i (by omega), if_neg (by omega), if_neg (by omega)]
    unfold pA1; simp [hi]
  have p2' : ∀ i, i ≠ z → Pv.2 2 i = if 0 < L ∧ i = op (L - 1) then Int32.ofNat z else P.2 2 i := fun i hi => by
    rw [qa, if_neg (by omega), if_neg (by omega), x6 2 i (by omega)]
    by_cases q : 0 < L ∧ i = op (L - 1)
    · rw [if_pos ⟨q.1, rfl, q.2⟩, if_pos q]
    · rw [if_neg (fun t => q ⟨t.1, t.2.2⟩), if_neg q, if_neg (by omega)]
      unfold pA1; simp [hi]
  have pz : ∀ a, a ≠ 5 → a ≠ 7 → a ≠ 8 → Pv.2 a z = pA1 P (Int32.ofNat s) x (Int32.ofNat hh) z a z := fun a h5 h7 h8 => by
    rw [qa, if_neg (by omega), if_neg (by omega), x6 a z h5, if_neg (fun q => nt ⟨q.1, q.2.2⟩), if_neg (by omega)]
  have pz0 : Pv.2 0 z = Int32.ofNat s := by rw [pz 0 (by decide) (by decide) (by decide)]; simp [pA1]
  have pz1 : Pv.2 1 z = x := by rw [pz 1 (by decide) (by decide) (by decide)]; simp [pA1]
  have pz3 : Pv.2 3 z = Int32.ofNat hh := by rw [pz 3 (by decide) (by decide) (by decide)]; simp [pA1]
  have pz4 : Pv.2 4 z = Int32.ofNat W := by rw [pz 4 (by decide) (by decide) (by decide)]; simp [pA1, a11]
  have hh1 : 1 ≤ hh := by
    rw [hw]
    by_cases q : L = 0
    · rw [if_pos q]; omega
    · rw [if_neg q]
      have := (hN _ (tz (by omega))).2.2.2.2.2.2.2.2.2.2.2.1
      omega
  obtain ⟨nz, sz, dz, trz, wz, bz, pz'⟩ := nF.new (P := Pv) (M := M1) (i := z) hs hx hT5 h9 hL ⟨hh1, by omega⟩ a12 (show np ≤ 32 from a9) zz0 zz1 zz5 zz6 zz7 zz8 pz0 pz1 pz3 pz4
  -- the readings
  have so' : ∀ i, i ≠ z → mso M1 i = mso M i := fun i hi => by unfold mso; rw [ea 0 (by omega) i hi]
  have dp' : ∀ i, i ≠ z → mdp M1 i = mdp M i := fun i hi => by unfold mdp; rw [ea 5 (by omega) i hi]
  have tr' : ∀ i, i ≠ z → mtr M1 i = mtr M i := fun i hi => by unfold mtr; rw [ea 6 (by omega) i hi]
  have ps' : ∀ i, i ≠ z → mps M1 i = mps M i := fun i hi => by unfold mps; rw [ea 8 (by omega) i hi]
  have en' : ∀ i, men M1 i = men M i := fun i => by unfold men; rw [e4]
  have wt' : ∀ i, i ≠ z → pwt Pv i = pwt P i := fun i hi => by unfold pwt; rw [pa' 3 (by omega) i hi]
  have wb' : ∀ i, i ≠ z → pwb Pv i = pwb P i := fun i hi => by unfold pwb; rw [pa' 4 (by omega) i hi]
  have opj : ∀ j, j < L → opN L z op j = op j := fun j hj => by unfold opN; rw [if_neg (by omega)]
  have opL : opN L z op L = z := by unfold opN; rw [if_pos rfl]
  have oz : ∀ j, j < L → op j ≠ z := fun j hj => by have := (hB j hj).2.2.1; omega
  have clo : ∀ i, Cl (L + 1) (opN L z op) i ↔ (i ≠ z ∧ Cl L op i) := fun i => by
    constructor
    · intro q
      refine ⟨fun e => q L (by omega) (by rw [opL, e]), fun j hj => ?_⟩
      have := q j (by omega)
      rw [opj j hj] at this
      exact this
    · rintro ⟨q1, q2⟩ j hj
      by_cases e : j = L
      · rw [e, opL]; exact fun t => q1 t.symm
      · rw [opj j (by omega)]; exact q2 j (by omega)
  have tp : 0 < L → mdp M (op (L - 1)) = L - 1 ∧ T = mtr M (op (L - 1)) + (if mso M (op (L - 1)) = 9 then 1 else 0) := fun q => by
    obtain ⟨o1, o2, -⟩ := hO (L - 1) (by omega)
    refine ⟨o1, ?_⟩
    obtain ⟨k, rfl⟩ : ∃ k, L = k + 1 := ⟨L - 1, by omega⟩
    rw [hT]
    show cn _ k + (decide (mso M (op k) = 9)).toNat = mtr M (op (k + 1 - 1)) + _
    rw [show k + 1 - 1 = k from rfl] at o2 ⊢
    rw [← o2]
    by_cases e : mso M (op k) = 9 <;> simp [e]
  -- what the topmost lacks
  have top : 0 < L → (ot = false ∧ lf (L - 1) = pr (mso M (op (L - 1))) ∧ M.2 2 (op (L - 1)) = (-1 : Int32) ∧ M.2 3 (op (L - 1)) = (-1 : Int32) ∧ z = op (L - 1) + 1) ∨ (ot = true ∧ lf (L - 1) = 1 ∧ m2p (mso M (op (L - 1))) ∧ M.2 2 (op (L - 1)) = Int32.ofNat (op (L - 1) + 1) ∧ M.2 3 (op (L - 1)) = (-1 : Int32) ∧ Cl L op (op (L - 1) + 1) ∧ men M (op (L - 1) + 1) = z ∧ op (L - 1) + 1 < z) := fun q => by
    have hl := hst q
    have t := tz q
    obtain ⟨-, -, o⟩ := hO (L - 1) (by omega)
    have le2 : pr (mso M (op (L - 1))) ≤ 2 := (parts_eq (hN _ t).1.2).2.2
    rcases o with ⟨o1, o2, o3, o4, o5⟩ | ⟨o1, o2, o3, o4⟩ | ⟨o1, o2, o3, o4, o5, o6, o7, o8⟩
    · exact Or.inl ⟨(hot q).mpr o2, o1, o2, o3, o5⟩
    · right
      have n1 : ¬ M.2 2 (op (L - 1)) = (-1 : Int32) := by rw [o2]; exact o_m1 (by omega)
      have m2 : m2p (mso M (op (L - 1))) := by
        unfold m2p
        unfold pr at o1
        by_cases q1 : mso M (op (L - 1)) < 4
        · rw [if_pos q1] at o1; omega
        · rw [if_neg q1] at o1
          by_cases q2 : mso M (op (L - 1)) = 4 ∨ mso M (op (L - 1)) = 6 ∨ mso M (op (L - 1)) = 7
          · exact q2
          · rw [if_neg q2] at o1; omega
      obtain ⟨v1, v2, v3⟩ := o4.2 (by omega)
      refine ⟨?_, by omega, m2, o2, o3, v1, v2, v3⟩
      cases e : ot with
      | true => rfl
      | false => exact absurd ((hot q).mp e) n1
    · omega
  have hWt : 0 < L → hh = pwt P (op (L - 1)) + (if mso M (op (L - 1)) = 8 ∨ (mso M (op (L - 1)) = 6 ∧ lf (L - 1) = 1) then 1 else 0) := fun q => by rw [hw, if_neg (by omega)]
  refine ⟨⟨⟨m10, by rw [q1 1 (by decide), x1], by omega⟩, ⟨m14, q0, by omega⟩, ⟨?_, ?_, ?_⟩, ⟨by rw [m12]; exact (Int32.ofNat_add _ _).symm, by rw [q1 5 (by decide), x5, a11]; exact (Int32.ofNat_add _ _).symm, hW⟩, ?_⟩, fun j hj => ?_, fun i hi => ?_, fun a ha => ?_, fun i hi hc => ?_, fun j hj => ?_, ⟨fun i hi q => ?_, fun i j hi hj q r t => ?_, fun i hi p hp => ?_⟩, ⟨fun i hi => ?_, fun q => by omega⟩, ⟨fun _ => ⟨?_, fun _ => ?_, fun q => by omega⟩, fun q => by omega, ?_⟩⟩
  · rw [m11]
    by_cases q : s = 1
    · rw [if_pos (s1.mpr q), if_pos q, o_add]
    · rw [if_neg (fun t => q (s1.mp t)), if_neg q, Int32.add_zero]; rfl
  · rw [q1 3 (by decide), x3, a8]
    by_cases q : s = 1
    · rw [if_pos (s1.mpr q), if_pos q, o_add]
    · rw [if_neg (fun t => q (s1.mp t)), if_neg q, Int32.add_zero]; rfl
  · split
    · next q => have := hnp q; omega
    · omega
  · rw [q1 4 (by decide), x4, a13]
    have e : cn (fun i => decide (mso M1 i = 8)) (z + 1) = cn (fun i => decide (mso M i = 8)) z + (if s = 8 then 1 else 0) := by
      show cn _ z + (decide (mso M1 z = 8)).toNat = _
      rw [cn_cg (g := fun i => decide (mso M i = 8)) z (fun j hj => by rw [so' j (by omega)]), sz]
      by_cases q : s = 8 <;> simp [q]
    rw [e]
    by_cases q : s = 8
    · rw [if_pos (s8.mpr q), if_pos q, o_add]
    · rw [if_neg (fun t => q (s8.mp t)), if_neg q, Int32.add_zero]; rfl
  · -- the stack
    have pl := (parts_eq hs)
    by_cases e : j = L
    · subst e
      rw [opL]
      have l : lfN j (pr s) lf j = pr s := by unfold lfN; rw [if_pos rfl]
      rw [l]
      refine ⟨?_, ?_, by omega, ?_, ?_, pl.2.2, fun l hl => ?_⟩
      · rw [ma]; unfold mC1; rw [if_neg (by omega), if_pos ⟨rfl, rfl⟩]
      · rw [qa, if_pos ⟨rfl, rfl⟩]
      · rw [ma]; unfold mC1; rw [if_pos ⟨rfl, rfl⟩]; exact pl.1
      · rw [qa, if_neg (by omega), if_pos ⟨rfl, rfl⟩]
      · rw [opj l hl]; exact (hB l hl).2.2.1
    · obtain ⟨b1, b2, b3, b4, b5, b6, b7⟩ := hB j (by omega)
      rw [opj j (by omega)]
      have k9 : M1.2 9 j = M.2 9 j := by
        rw [ma]; unfold mC1 mA1; rw [if_neg (by omega), if_neg (by omega), if_neg (by omega), if_neg (by omega)]; simp
      have k10 : M1.2 10 j = if j + 1 = L then M.2 10 j - 1 else M.2 10 j := by
        rw [ma]; unfold mC1 mA1; rw [if_neg (by omega), if_neg (by omega)]
        by_cases r : j + 1 = L
        · rw [if_pos ⟨rfl, r⟩, if_pos r]
        · rw [if_neg (fun t => r t.2), if_neg r, if_neg (by omega)]; simp
      have k7 : Pv.2 7 j = P.2 7 j := by
        rw [qa, if_neg (by omega), if_neg (by omega), x6 7 j (by decide), if_neg (by omega), if_neg (by omega)]; unfold pA1; simp
      have k8 : Pv.2 8 j = if j + 1 = L then P.2 8 j - 1 else P.2 8 j := by
        rw [qa, if_neg (by omega), if_neg (by omega), x6 8 j (by decide), if_neg (by omega)]
        by_cases r : j + 1 = L
        · rw [if_pos ⟨rfl, r⟩, if_pos r]
        · rw [if_neg (fun t => r t.2), if_neg r]; unfold pA1; simp
      rw [k9, k10, k7, k8, b4, b5]
      unfold lfN
      rw [if_neg e]
      refine ⟨b1, b2, by omega, ?_, ?_, ?_, fun l hl => by rw [opj l (by omega)]; exact b7 l hl⟩
      · by_cases r : j + 1 = L
        · rw [if_pos r, if_pos r, o_sub (by have := hst (by omega); rw [show L - 1 = j by omega] at this; exact this) (by omega)]
        · rw [if_neg r, if_neg r]
      · by_cases r : j + 1 = L
        · rw [if_pos r, if_pos r, o_sub (by have := hst (by omega); rw [show L - 1 = j by omega] at this; exact this) (by omega)]
        · rw [if_neg r, if_neg r]
      · split <;> omega
  · by_cases e : i = z
    · rw [e]; exact nz
    · exact (hN i (by omega)).cg (fun a ha => ea a (by omega) i e) (fun a ha => pa' a ha i e)
  · -- parts
    by_cases e : a = z
    · subst e
      exact ⟨Or.inl zz2, Or.inl zz3, fun q => absurd zz2 q⟩
    · have hc := hC a (by omega)
      by_cases et : 0 < L ∧ a = op (L - 1)
      · obtain ⟨q, et⟩ := et
        subst et
        obtain ⟨tp1, tp2⟩ := tp q
        have hwt := hWt q
        unfold cF
        rw [so' _ e, dp' _ e, tr' _ e, wt' _ e, e2 _ e, e3 _ e, p2' _ e, if_pos (show 0 < L ∧ op (L - 1) = op (L - 1) from ⟨q, rfl⟩)]
        rcases top q with ⟨t1, t2, t3, t4, t5⟩ | ⟨t1, t2, t3, t4, t5, t6, t7, t8⟩
        · have n1 : ¬ (0 < L ∧ ot = true ∧ op (L - 1) = op (L - 1)) := by rw [t1]; simp
          rw [if_pos (show 0 < L ∧ ot = false ∧ op (L - 1) = op (L - 1) from ⟨q, t1, rfl⟩), if_neg n1, t4]
          refine ⟨Or.inr ⟨by rw [← t5], by omega, ?_, ?_, ?_⟩, Or.inl rfl, fun _ _ => by rw [← t5]⟩
          · rw [← t5, dz]; omega
          · rw [← t5, trz, tp2]
          · rw [← t5, wz, hwt]
            congr 1
            have : ¬ (mso M (op (L - 1)) = 6 ∧ lf (L - 1) = 1) := fun r => by
              rw [t2, r.1] at r
              exact absurd r.2 (by decide)
            by_cases r8 : mso M (op (L - 1)) = 8
            · rw [if_pos (Or.inl r8), if_pos r8]
            · rw [if_neg (fun t => t.elim r8 this), if_neg r8]
        · have n1 : ¬ (0 < L ∧ ot = false ∧ op (L - 1) = op (L - 1)) := by rw [t1]; simp
          rw [if_neg n1, if_pos (show 0 < L ∧ ot = true ∧ op (L - 1) = op (L - 1) from ⟨q, t1, rfl⟩), t4]
          have hm9 : ¬ mso M (op (L - 1)) = 9 := by unfold m2p at t3; omega
          have hm8 : ¬ mso M (op (L - 1)) = 8 := by unfold m2p at t3; omega
          have c1 := hc.1
          rw [t4] at c1
          have c1' := c1.resolve_left (o_m1 (by omega))
          refine ⟨Or.inr ⟨rfl, by omega, ?_, ?_, ?_⟩, Or.inr ⟨z, rfl, t8, by omega, ?_, ?_, ?_, rfl⟩, fun _ r => absurd r (o_m1 (by omega))⟩
          · rw [dp' _ (by omega)]; exact c1'.2.2.1
          · rw [tr' _ (by omega)]; exact c1'.2.2.2.1
          · rw [wt' _ (by omega)]; exact c1'.2.2.2.2
          · rw [dz]; omega
          · rw [trz, tp2, if_neg hm9, Nat.add_zero]
          · rw [wz, hwt]
            congr 1
            by_cases r6 : mso M (op (L - 1)) = 6
            · rw [if_pos (Or.inr ⟨r6, t2⟩), if_pos r6]
            · rw [if_neg (fun t => t.elim hm8 (fun u => r6 u.1)), if_neg r6]
      · obtain ⟨c1, c2, c3⟩ := hc
        have n2 : ¬ (0 < L ∧ ot = false ∧ a = op (L - 1)) := fun r => et ⟨r.1, r.2.2⟩
        have n3 : ¬ (0 < L ∧ ot = true ∧ a = op (L - 1)) := fun r => et ⟨r.1, r.2.2⟩
        unfold cF
        rw [so' _ e, dp' _ e, tr' _ e, wt' _ e, e2 _ e, e3 _ e, p2' _ e, if_neg n2, if_neg n3, if_neg et]
        refine ⟨c1.imp id (fun r => ⟨r.1, by omega, ?_⟩), c2.imp id (fun ⟨y, y1, y2, y3, y4, y5, y6, y7⟩ => ⟨y, y1, y2, by omega, ?_, ?_, ?_, y7⟩), c3⟩
        · rw [dp' _ (by omega), tr' _ (by omega), wt' _ (by omega)]; exact r.2.2
        · rw [dp' _ (by omega)]; exact y4
        · rw [tr' _ (by omega)]; exact y5
        · rw [wt' _ (by omega)]; exact y6
  · -- closed ones
    obtain ⟨ne, hc'⟩ := (clo i).mp hc
    have hi' : i < z := by omega
    have net : ¬ (0 < L ∧ i = op (L - 1)) := fun r => hc' (L - 1) (by omega) r.2.symm
    obtain ⟨⟨f1, f2, f3⟩, f4, f5, f6, f7⟩ := hE i hi' hc'
    unfold clF
    rw [so' _ ne, e4, e2 _ ne, e3 _ ne, if_neg (fun r => net ⟨r.1, r.2.2⟩), if_neg (fun r => net ⟨r.1, r.2.2⟩)]
    simp only [en']
    refine ⟨⟨f1, f2, by omega⟩, fun j hj => ?_, f5, f6, f7⟩
    by_cases r : j = L
    · rw [r, opL]; exact Or.inr f3
    · rw [opj j (by omega)]; exact f4 j (by omega)
  · -- open ones
    by_cases e : j = L
    · subst e
      unfold opF
      rw [opL, dz, trz, sz]
      refine ⟨rfl, ?_, Or.inl ⟨by unfold lfN; rw [if_pos rfl], zz2, zz3, rfl, rfl⟩⟩
      rw [hT]
      exact cn_cg _ (fun l hl => by rw [opj l hl, so' _ (oz l hl)])
    · have hj' : j < L := by omega
      have ne := oz j hj'
      obtain ⟨o1, o2, o3⟩ := hO j hj'
      unfold opF
      rw [opj j hj', dp' _ ne, tr' _ ne, so' _ ne, e2 _ ne, e3 _ ne]
      simp only [en']
      refine ⟨o1, ?_, ?_⟩
      · rw [o2]
        exact cn_cg _ (fun l hl => by rw [opj l (by omega), so' _ (oz l (by omega))])
      · by_cases et : j + 1 = L
        · have ej : op j = op (L - 1) := by rw [show j = L - 1 by omega]
          have ejl : lf j = lf (L - 1) := by rw [show j = L - 1 by omega]
          have hl := hst (by omega)
          have l : lfN L (pr s) lf j = lf (L - 1) - 1 := by unfold lfN; rw [if_neg e, if_pos et, ejl]
          rw [l, ej]
          rcases top (by omega) with ⟨t1, t2, t3, t4, t5⟩ | ⟨t1, t2, t3, t4, t5, t6, t7, t8⟩
          · have n1 : ¬ (0 < L ∧ ot = true ∧ op (L - 1) = op (L - 1)) := by rw [t1]; simp
            rw [if_pos (show 0 < L ∧ ot = false ∧ op (L - 1) = op (L - 1) from ⟨by omega, t1, rfl⟩), if_neg n1]
            refine Or.inr (Or.inl ⟨by omega, by rw [← t5], t4, fun _ => ?_, fun r => by omega⟩)
            rw [et, opL]; exact t5
          · have n1 : ¬ (0 < L ∧ ot = false ∧ op (L - 1) = op (L - 1)) := by rw [t1]; simp
            rw [if_neg n1, if_pos (show 0 < L ∧ ot = true ∧ op (L - 1) = op (L - 1) from ⟨by omega, t1, rfl⟩), t7]
            refine Or.inr (Or.inr ⟨?_, t4, rfl, (clo _).mpr ⟨by omega, t6⟩, t8, by omega, by omega, fun _ => ?_, fun r => by omega⟩)
            · unfold pr
              unfold m2p at t3
              rw [if_neg (by omega), if_pos t3]
              omega
            · rw [et, opL]
        · have net : ¬ op j = op (L - 1) := fun r => by
            have := (hB (L - 1) (by omega)).2.2.2.2.2.2 j (by omega)
            omega
          have l : lfN L (pr s) lf j = lf j := by unfold lfN; rw [if_neg e, if_neg et]
          rw [l, if_neg (fun r => net r.2.2), if_neg (fun r => net r.2.2)]
          rcases o3 with ⟨_, _, _, r4, _⟩ | ⟨r1, r2, r3, r4⟩ | ⟨r1, r2, r3, r4, r5, r6, r7, r8⟩
          · exact absurd r4 et
          · refine Or.inr (Or.inl ⟨r1, r2, r3, fun _ => ?_, fun r => by omega⟩)
            rw [opj _ (by omega)]; exact r4.1 (by omega)
          · refine Or.inr (Or.inr ⟨r1, r2, r3, (clo _).mpr ⟨by omega, r4⟩, r5, by omega, by omega, fun _ => ?_, fun r => by omega⟩)
            rw [opj _ (by omega)]; exact r8.1 (by omega)
  · by_cases e : i = z
    · subst e
      rw [sz] at q
      rw [pz' q, if_pos q]; omega
    · rw [so' _ e] at q
      rw [ps' _ e]
      have := hP1 i (by omega) q
      omega
  · by_cases ei : i = z
    · by_cases ej : j = z
      · omega
      · subst ei
        rw [sz] at q
        rw [so' _ ej] at r
        rw [pz' q, ps' _ ej] at t
        have := hP1 j (by omega) r
        omega
    · by_cases ej : j = z
      · subst ej
        rw [sz] at r
        rw [so' _ ei] at q
        rw [pz' r, ps' _ ei] at t
        have := hP1 i (by omega) q
        omega
      · rw [so' _ ei] at q
        rw [so' _ ej] at r
        rw [ps' _ ei, ps' _ ej] at t
        exact hP2 i j (by omega) (by omega) q r t
  · -- pauses
    rw [qa, if_neg (by omega), if_neg (by omega), x7 i p, a8]
    have bit : s = 1 → (xb ((1 : Int32) <<< (Int32.ofNat np &&& 31)) p = true ↔ p = np) := fun q => by rw [xb_one (hnp q) hp, decide_eq_true_eq]
    have z8 : M1.2 8 z = Int32.ofNat p ↔ s = 1 ∧ p = np := by
      rw [zz8]
      by_cases q : s = 1
      · rw [if_pos q]
        exact ⟨fun r => ⟨q, (o_inj (by omega) (by omega) r).symm⟩, fun r => by rw [r.2]⟩
      · rw [if_neg q]
        exact ⟨fun r => absurd r.symm (o_m1 (by omega)), fun r => absurd r.1 q⟩
    constructor
    · rintro (⟨ne, r⟩ | ⟨r1, r2, r3⟩)
      · obtain ⟨k, k1, k2, k3, k4⟩ := (hP3 i (by omega) p hp).mp r
        refine ⟨k, k1, by omega, fun hc => ?_, by rw [ea 8 (by omega) k (by omega)]; exact k4⟩
        rw [en']; exact k3 ((clo i).mp hc).2
      · have r1' := s1.mp r1
        refine ⟨z, by omega, by omega, fun hc => ?_, z8.mpr ⟨r1', (bit r1').mp r3⟩⟩
        obtain ⟨c1, c2⟩ := (clo i).mp hc
        rcases r2 with e | ⟨l, l1, l2⟩
        · exact absurd e c1
        · exact absurd l2 (c2 l l1)
    · rintro ⟨k, k1, k2, k3, k4⟩
      by_cases ek : k = z
      · subst ek
        obtain ⟨r1, r2⟩ := z8.mp k4
        refine Or.inr ⟨s1.mpr r1, ?_, (bit r1).mpr r2⟩
        by_cases e : i = k
        · exact Or.inl e
        · right
          by_cases c : ∃ l, l < L ∧ op l = i
          · exact c
          · exfalso
            have hc : Cl L op i := fun l hl t => c ⟨l, hl, t⟩
            have a := k3 ((clo i).mpr ⟨e, hc⟩)
            have b := (hE i (by omega) hc).1.2.2
            rw [en'] at a
            omega
      · have e : i ≠ z := by omega
        refine Or.inl ⟨e, (hP3 i (by omega) p hp).mpr ⟨k, k1, by omega, fun hc => ?_, by rw [← ea 8 (by omega) k ek]; exact k4⟩⟩
        have := k3 ((clo i).mpr ⟨e, hc⟩)
        rw [en'] at this
        exact this
  · by_cases e : i = z
    · subst e
      exact ⟨fun q => by omega, fun _ => by rw [wz, bz]⟩
    · rw [wt' _ e, wb' _ e]
      refine ⟨fun q => ?_, fun q => by omega⟩
      by_cases r : i + 1 = z
      · rw [r, bz]; exact (hW1 i (by omega)).2 r
      · rw [wb' _ r]; exact (hW1 i (by omega)).1 (by omega)
  · by_cases e : z = 0
    · have l0 := hR2 e
      have := trz
      rw [e] at this
      rw [this, hT, l0]; rfl
    · rw [tr' 0 (by omega)]; exact (hR1 (by omega)).1
  · by_cases e : 0 = L
    · have hz0 : z = 0 := hnw.resolve_right (by rw [← e]; exact Nat.lt_irrefl 0)
      show (if 0 = L then z else op 0) = 0
      rw [if_pos e]; exact hz0
    · have hl : 0 < L := Nat.pos_of_ne_zero (fun t => e t.symm)
      have hz0 : 0 < z := Nat.lt_of_le_of_lt (Nat.zero_le _) (tz hl)
      rw [opj 0 hl]
      exact (hR1 hz0).2.1 hl
  · have e1 : Pv.1 2 = Int32.ofNat (if z = 0 then 1 else sm lf L) + (Int32.ofNat (pr s) - 1) := by rw [q1 2 (by decide), x2, hR3, (parts_eq hs).2.1]
    rw [e1, due_push hst hnw hR2, if_neg (show ¬ z + 1 = 0 by omega)]
end PUT4
