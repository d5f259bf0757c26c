/-! BITS of the class's numbers -/
def xb (x : Int32) (j : Nat) : Bool := x.toBitVec.getLsbD j
def wb (w : Int64) (j : Nat) : Bool := w.toBitVec.getLsbD j
theorem xb_ge {x : Int32} {j : Nat} (h : 32 ≤ j) : xb x j = false := BitVec.getLsbD_of_ge _ _ h
theorem xb_ext {x y : Int32} (h : ∀ j, j < 32 → xb x j = xb y j) : x = y := Int32.toBitVec_inj.mp (BitVec.eq_of_getLsbD_eq h)
theorem xb_or (x y : Int32) (j : Nat) : xb (x ||| y) j = (xb x j || xb y j) := by simp [xb]
theorem xb_and (x y : Int32) (j : Nat) : xb (x &&& y) j = (xb x j && xb y j) := by simp [xb]
theorem xb_not {x : Int32} {j : Nat} (h : j < 32) : xb (x ^^^ (-1 : Int32)) j = !xb x j := by
  have : ∀ j, j < 32 → ((-1 : Int32).toBitVec.getLsbD j) = true := by decide
  unfold xb
  rw [Int32.toBitVec_xor, BitVec.getLsbD_xor, this j h, Bool.xor_true]
theorem xb_0 (j : Nat) : xb 0 j = false := by simp [xb]
theorem wb_0 (j : Nat) : wb 0 j = false := by simp [wb]
theorem xb_one {k j : Nat} (hk : k < 32) (hj : j < 32) : xb ((1 : Int32) <<< (Int32.ofNat k &&& 31)) j = decide (j = k) := by
  have : ∀ k, k < 32 → ∀ j, j < 32 → xb ((1 : Int32) <<< (Int32.ofNat k &&& 31)) j = decide (j = k) := by decide +kernel
  exact this k hk j hj
theorem xb_sh {x : Int32} {k : Nat} (hk : k < 32) : (((x >>> (Int32.ofNat k &&& 31)) &&& (1 : Int32)) = 0 ↔ xb x k = false) := by
  have e : (Int32.ofNat k &&& 31).toBitVec.smod 32 = BitVec.ofNat 32 k := by
    have : ∀ k, k < 32 → (Int32.ofNat k &&& 31).toBitVec.smod 32 = BitVec.ofNat 32 k := by decide +kernel
    exact this k hk
  have e2 : (BitVec.ofNat 32 k).toNat = k := by simp; omega
  have h1 : ∀ j, xb (1 : Int32) j = decide (j = 0) := fun j => by
    by_cases h : j < 32
    · have : ∀ j, j < 32 → xb (1 : Int32) j = decide (j = 0) := by decide +kernel
      exact this j h
    · rw [xb_ge (by omega)]; simp; omega
  have h2 : ∀ j, j < 32 → xb (x >>> (Int32.ofNat k &&& 31)) j = (if k + j < 32 then xb x (k + j) else xb x 31) := fun j hj => by
    unfold xb
    rw [Int32.toBitVec_shiftRight, BitVec.sshiftRight_eq', BitVec.getLsbD_sshiftRight, e, e2]
    simp [hj, show ¬ 32 ≤ j by omega]
    split
    · rfl
    · rw [BitVec.msb_eq_getLsbD_last]; rfl
  constructor
  · intro h
    have a : xb ((x >>> (Int32.ofNat k &&& 31)) &&& (1 : Int32)) 0 = false := by rw [h]; exact xb_0 0
    rw [xb_and, h1, h2 0 (by decide), if_pos (by omega)] at a
    simpa using a
  · intro h
    apply xb_ext
    intro j hj
    rw [xb_and, h1, xb_0]
    by_cases e : j = 0
    · subst e
      rw [h2 0 (by decide), if_pos (by omega)]
      simp [h]
    · simp [e]
theorem hasBit_eq {x : Int32} {k : Nat} (hk : k < 32) : fk_hasBit x (Int32.ofNat k) = b2i (xb x k) := by
  unfold fk_hasBit
  cases h : xb x k with
  | false => rw [if_pos ((xb_sh hk).mpr h)]; rfl
  | true => rw [if_neg (fun q => by rw [(xb_sh hk).mp q] at h; cases h)]; rfl
theorem wb_ext {x y : Int64} (h : ∀ j, j < 64 → wb x j = wb y j) : x = y := Int64.toBitVec_inj.mp (BitVec.eq_of_getLsbD_eq h)
theorem wb_or (x y : Int64) (j : Nat) : wb (x ||| y) j = (wb x j || wb y j) := by simp [wb]
theorem wb_and (x y : Int64) (j : Nat) : wb (x &&& y) j = (wb x j && wb y j) := by simp [wb]
theorem can_b {w : Int64} {j : Nat} (h : j < 32) : xb (fo_can w) j = wb w j := by
  unfold fo_can xb wb
  rw [Int64.toBitVec_toInt32, BitVec.getLsbD_signExtend]
  simp [h, show j < 64 by omega]
theorem must_b {w : Int64} {j : Nat} (h : j < 32) : xb (fo_must w) j = wb w (j + 32) := by
  unfold fo_must xb wb
  have e : ((32 : Int32).toInt64.toUInt64 &&& Int64.toUInt64 63) = 32 := by decide
  rw [e, Int64.toBitVec_toInt32, BitVec.getLsbD_signExtend]
  simp [h, show j < 64 by omega, Nat.add_comm]
theorem wb_whole {m c : Int32} (h31 : xb c 31 = false) {j : Nat} (hj : j < 64) : wb (fo_whole m c) j = if j < 32 then xb c j else xb m (j - 32) := by
  unfold fo_whole
  have e : ((32 : Int32).toInt64 &&& 63) = 32 := by decide
  rw [e, wb_or]
  unfold wb xb at *
  have e2 : (32 : Int64).toBitVec.smod 64 = 32#64 := by decide
  rw [Int64.toBitVec_shiftLeft, Int32.toBitVec_toInt64, Int32.toBitVec_toInt64, e2]
  rw [BitVec.shiftLeft_eq', BitVec.getLsbD_shiftLeft, BitVec.getLsbD_signExtend, BitVec.getLsbD_signExtend, BitVec.msb_eq_getLsbD_last, BitVec.msb_eq_getLsbD_last]
  have h31' : c.toBitVec.getLsbD (32 - 1) = false := h31
  rw [h31']
  have e3 : (32#64).toNat = 32 := rfl
  rw [e3]
  by_cases q : j < 32
  · simp [q, hj]
  · have q1 : j - 32 < 64 := by omega
    have q2 : j - 32 < 32 := by omega
    simp [q, hj, q1, q2]
/-- what a half of an outcome says -/
def hBit (c e : Nat → Bool) (j : Nat) : Bool := if j < 16 then e j else (decide (j < 23) && c (j - 16))
def oBit (me : Nat → Nat) (o : gO) (j : Nat) : Bool := if j < 32 then hBit (occ o) (fun s => ocf o (me s)) j else hBit (omc o) (fun s => omf o (me s)) (j - 32)
def oC (me : Nat → Nat) (w : Int64) (o : gO) : Prop := ∀ j, j < 64 → wb w j = oBit me o j
theorem oC.can {me : Nat → Nat} {w : Int64} {o : gO} (h : oC me w o) {j : Nat} (hj : j < 32) : xb (fo_can w) j = hBit (occ o) (fun s => ocf o (me s)) j := by
  rw [can_b hj, h j (by omega)]
  unfold oBit
  rw [if_pos hj]
theorem oC.must {me : Nat → Nat} {w : Int64} {o : gO} (h : oC me w o) {j : Nat} (hj : j < 32) : xb (fo_must w) j = hBit (omc o) (fun s => omf o (me s)) j := by
  rw [must_b hj, h _ (by omega)]
  unfold oBit
  rw [if_neg (by omega), show j + 32 - 32 = j by omega]
theorem oC_whole {me : Nat → Nat} {m c : Int32} {o : gO} (hm : ∀ j, j < 32 → xb m j = hBit (omc o) (fun s => omf o (me s)) j) (hc : ∀ j, j < 32 → xb c j = hBit (occ o) (fun s => ocf o (me s)) j) : oC me (fo_whole m c) o := by
  intro j hj
  rw [wb_whole (by rw [hc 31 (by decide)]; rfl) hj]
  unfold oBit
  by_cases q : j < 32
  · rw [if_pos q, if_pos q, hc j q]
  · rw [if_neg q, if_neg q, hm _ (by omega)]
theorem cE_b (A : Nat → Bool) {j : Nat} (hj : j < 32) : xb (cE A) j = (decide (j < 7) && A j) := by
  have : ∀ a0 a1 a2 a3 a4 a5 a6 : Bool, ∀ j, j < 32 → xb (Int32.ofNat (a0.toNat + 2 * a1.toNat + 4 * a2.toNat + 8 * a3.toNat + 16 * a4.toNat + 32 * a5.toNat + 64 * a6.toNat)) j = (match j with | 0 => a0 | 1 => a1 | 2 => a2 | 3 => a3 | 4 => a4 | 5 => a5 | 6 => a6 | _ => false) := by decide +kernel
  have t := this (A 0) (A 1) (A 2) (A 3) (A 4) (A 5) (A 6) j hj
  unfold cE cN
  rw [t]
  match j with
  | 0 | 1 | 2 | 3 | 4 | 5 | 6 => rfl
  | n + 7 => rw [show decide (n + 7 < 7) = false from decide_eq_false (by omega)]; rfl
theorem hB_c (c e : Nat → Bool) (j : Nat) : hBit c e (j + 16) = (decide (j < 7) && c j) := by
  unfold hBit
  rw [if_neg (by omega), show j + 16 - 16 = j by omega]
  congr 1
  exact decide_eq_decide.mpr (by omega)
theorem hB_e (c e : Nat → Bool) {j : Nat} (h : j < 16) : hBit c e j = e j := by
  unfold hBit
  rw [if_pos h]
theorem xb_s16 (x : Int32) {j : Nat} (hj : j < 32) : xb (x >>> ((16 : Int32) &&& 31)) j = (if j < 16 then xb x (j + 16) else xb x 31) := by
  unfold xb
  have e : ((16 : Int32) &&& 31).toBitVec.smod 32 = 16#32 := by decide
  have e2 : (16#32).toNat = 16 := rfl
  rw [Int32.toBitVec_shiftRight, BitVec.sshiftRight_eq', BitVec.getLsbD_sshiftRight, e, e2, BitVec.msb_eq_getLsbD_last]
  simp only [show ¬ 32 ≤ j by omega, decide_false, Bool.not_false, Bool.true_and]
  rw [Nat.add_comm 16 j]
  by_cases h : j < 16
  · rw [if_pos (by omega), if_pos h]
  · rw [if_neg (by omega), if_neg h]
theorem xb_l16 (x : Int32) {j : Nat} (hj : j < 32) : xb (x <<< ((16 : Int32) &&& 31)) j = (decide (16 ≤ j) && xb x (j - 16)) := by
  unfold xb
  have e : ((16 : Int32) &&& 31).toBitVec.smod 32 = 16#32 := by decide
  have e2 : (16#32).toNat = 16 := rfl
  rw [Int32.toBitVec_shiftLeft, e, BitVec.shiftLeft_eq', BitVec.getLsbD_shiftLeft, e2]
  by_cases h : 16 ≤ j
  · simp [hj, h, show ¬ j < 16 by omega]
  · simp [hj, h, show j < 16 by omega]
theorem codes_of {x : Int32} {c e : Nat → Bool} (h : ∀ j, j < 32 → xb x j = hBit c e j) : fo_codesIn x = cE c := by
  unfold fo_codesIn
  apply xb_ext
  intro j hj
  rw [xb_s16 x hj, cE_b c hj]
  by_cases q : j < 16
  · rw [if_pos q, h _ (by omega), hB_c]
  · rw [if_neg q, h 31 (by decide), show decide (j < 7) = false from decide_eq_false (by omega)]
    rfl
theorem emit_of {x : Int32} {j : Nat} (hj : j < 32) : xb (fo_emittedIn x) j = (decide (j < 16) && xb x j) := by
  have : ∀ j, j < 32 → xb (65535 : Int32) j = decide (j < 16) := by decide +kernel
  unfold fo_emittedIn
  rw [xb_and, this j hj, Bool.and_comm]
theorem half_of {x : Int32} {c e : Nat → Bool} (h0 : ∀ j, j < 32 → xb x j = (decide (j < 16) && e j)) {j : Nat} (hj : j < 32) : xb (fo_half x (cE c)) j = hBit c e j := by
  unfold fo_half
  rw [xb_or, xb_l16 _ hj, h0 j hj]
  by_cases q : j < 16
  · rw [hB_e c e q]
    simp [q, show ¬ 16 ≤ j by omega]
  · rw [show j = (j - 16) + 16 by omega, hB_c, cE_b c (by omega)]
    simp [show ¬ (j - 16 + 16 < 16) by omega]
theorem oC_S (me : Nat → Nat) {c : Nat} (hc : c < 7) (b : Bool) : oC me (fo_of 0 ((1 : Int32) <<< (Int32.ofNat c &&& 31)) (b2i b)) (oS c b) := by
  rw [cE_one c hc]
  have hh : ∀ j, j < 32 → xb (fo_half 0 (cE (fun n => decide (n = c)))) j = hBit (fun n => decide (n = c)) (fun _ => false) j := fun j hj => half_of (fun j hj => by rw [xb_0]; simp) hj
  unfold fo_of
  cases b with
  | true =>
    rw [if_neg (by decide)]
    refine oC_whole (fun j hj => ?_) hh
    rw [hh j hj]
    simp [omc, omf, oS]
  | false =>
    rw [if_pos (by decide)]
    refine oC_whole (fun j hj => ?_) hh
    rw [xb_0]
    simp [omc, omf, oS, hBit]
theorem oC_E {me : Nat → Nat} {x : Nat} (hx : x < 16) (inj : ∀ s, s < 16 → me s = me x → s = x) (b : Bool) : oC me (fo_of ((1 : Int32) <<< (Int32.ofNat x &&& 31)) 1 (b2i b)) (oE (me x) b) := by
  have e1 : (1 : Int32) = cE (fun n => decide (n = 0)) := by decide
  have hj16 : ∀ j, j < 16 → decide (j = x) = decide (me j = me x) := fun j hj => decide_eq_decide.mpr ⟨fun h => by rw [h], fun h => inj j hj h⟩
  have hh : ∀ j, j < 32 → xb (fo_half ((1 : Int32) <<< (Int32.ofNat x &&& 31)) 1) j = hBit (fun n => decide (n = 0)) (fun s => decide (me s = me x)) j := fun j hj => by
    rw [show fo_half ((1 : Int32) <<< (Int32.ofNat x &&& 31)) 1 = fo_half ((1 : Int32) <<< (Int32.ofNat x &&& 31)) (cE (fun n => decide (n = 0))) from congrArg _ e1]
    refine half_of (fun j hj => ?_) hj
    rw [xb_one (by omega) hj]
    by_cases q : j < 16
    · rw [← hj16 j q]; simp [q]
    · simp [q]; omega
  unfold fo_of
  cases b with
  | true =>
    rw [if_neg (by decide)]
    refine oC_whole (fun j hj => ?_) hh
    rw [hh j hj]
    simp [omc, omf, oE]
  | false =>
    rw [if_pos (by decide)]
    refine oC_whole (fun j hj => ?_) hh
    rw [xb_0]
    simp [omc, omf, oE, hBit]
theorem oC_U {me : Nat → Nat} {w v : Int64} {p q : gO} (hw : oC me w p) (hv : oC me v q) : oC me (w ||| v) (oU p q) := by
  intro j hj
  rw [wb_or, hw j hj, hv j hj]
  simp only [oBit, hBit, occ, ocf, omc, omf, oU]
  by_cases q : j < 32
  · simp only [if_pos q]
    by_cases q2 : j < 16
    · simp only [if_pos q2]
    · simp only [if_neg q2]
      cases decide (j < 23) <;> rfl
  · simp only [if_neg q]
    by_cases q2 : j - 32 < 16
    · simp only [if_pos q2]
    · simp only [if_neg q2]
      cases decide (j - 32 < 23) <;> rfl
theorem oC_Z {me : Nat → Nat} {w : Int64} {p : gO} (hw : oC me w p) : oC me (fo_withoutZero w) (oZ p) := by
  intro j hj
  have : ∀ j, j < 64 → wb (-281474976776193 : Int64) j = !(decide (j = 16) || decide (j = 48)) := by decide +kernel
  unfold fo_withoutZero
  rw [wb_and, this j hj, hw j hj]
  simp only [oBit, hBit, occ, ocf, omc, omf, oZ]
  by_cases q : j < 32
  · simp only [if_pos q]
    by_cases q2 : j < 16
    · simp only [if_pos q2]
      simp [show j ≠ 16 by omega, show j ≠ 48 by omega]
    · simp only [if_neg q2]
      by_cases e : j = 16
      · subst e; simp
      · simp [e, show j ≠ 48 by omega, show j - 16 ≠ 0 by omega]
  · simp only [if_neg q]
    by_cases q2 : j - 32 < 16
    · simp only [if_pos q2]
      simp [show j ≠ 16 by omega, show j ≠ 48 by omega]
    · simp only [if_neg q2]
      by_cases e : j = 48
      · subst e; simp
      · simp [e, show j ≠ 16 by omega, show j - 32 - 16 ≠ 0 by omega]
theorem wb_bit {w : Int64} {m : Int64} {k : Nat} (hk : k < 64) (hm : ∀ j, j < 64 → wb m j = decide (j = k)) : (lg_cmp (w &&& m) 0 = 0) ↔ wb w k = false := by
  have : lg_cmp (w &&& m) 0 = 0 ↔ (w &&& m) = 0 := by
    unfold lg_cmp
    constructor
    · intro h
      by_cases a : w &&& m > 0
      · rw [if_pos a] at h; cases h
      · rw [if_neg a] at h
        by_cases b : w &&& m = 0
        · exact b
        · rw [if_neg b] at h; cases h
    · intro h
      rw [h]; rfl
  rw [this]
  constructor
  · intro h
    have a : wb (w &&& m) k = false := by rw [h]; exact wb_0 k
    rw [wb_and, hm k hk] at a
    simpa using a
  · intro h
    apply wb_ext
    intro j hj
    rw [wb_and, hm j hj, wb_0]
    by_cases e : j = k
    · subst e; simp [h]
    · simp [e]
theorem oC_cz {me : Nat → Nat} {w : Int64} {p : gO} (hw : oC me w p) : fo_canEndWithZero w = b2i (occ p 0) := by
  have h := wb_bit (w := w) (m := 65536) (k := 16) (by decide) (by decide +kernel)
  have e : wb w 16 = occ p 0 := by rw [hw 16 (by decide)]; rfl
  rw [e] at h
  unfold fo_canEndWithZero
  cases q : occ p 0 with
  | false => rw [if_pos (h.mpr q)]; rfl
  | true => rw [if_neg (fun r => by rw [h.mp r] at q; cases q)]; rfl
theorem oC_mz {me : Nat → Nat} {w : Int64} {p : gO} (hw : oC me w p) : fo_mustEndWithZero w = b2i (omc p 0) := by
  have h := wb_bit (w := w) (m := 281474976710656) (k := 48) (by decide) (by decide +kernel)
  have e : wb w 48 = omc p 0 := by rw [hw 48 (by decide)]; rfl
  rw [e] at h
  unfold fo_mustEndWithZero
  cases q : omc p 0 with
  | false => rw [if_pos (h.mpr q)]; rfl
  | true => rw [if_neg (fun r => by rw [h.mp r] at q; cases q)]; rfl
theorem join_of {x y : Int32} {c e c' e' : Nat → Bool} (hx : ∀ j, j < 32 → xb x j = hBit c e j) (hy : ∀ j, j < 32 → xb y j = hBit c' e' j) {j : Nat} (hj : j < 32) : xb (fo_joined x y) j = hBit (mxs c c') (fun s => e s || e' s) j := by
  unfold fo_joined
  rw [codes_of hx, codes_of hy, cE_gp]
  refine half_of (fun j hj => ?_) hj
  rw [emit_of hj, xb_or, hx j hj, hy j hj]
  by_cases q : j < 16
  · rw [hB_e _ _ q, hB_e _ _ q]
  · simp [q]
theorem oC_P {me : Nat → Nat} {w v : Int64} {p q : gO} (hw : oC me w p) (hv : oC me v q) : oC me (fo_inParallel w v) (oP p q) :=
  oC_whole (fun j hj => (join_of (fun j hj => hw.must hj) (fun j hj => hv.must hj) hj).trans rfl) (fun j hj => (join_of (fun j hj => hw.can hj) (fun j hj => hv.can hj) hj).trans rfl)
theorem trap_of {x : Int32} {c e : Nat → Bool} (h7 : c 7 = false) (hx : ∀ j, j < 32 → xb x j = hBit c e j) {j : Nat} (hj : j < 32) : xb (fo_outsideTrapHalf x) j = hBit (tps c) e j := by
  unfold fo_outsideTrapHalf
  rw [codes_of hx, (cE_tps h7).2]
  refine half_of (fun j hj => ?_) hj
  rw [emit_of hj, hx j hj]
  by_cases q : j < 16
  · rw [hB_e _ _ q]
  · simp [q]
theorem oC_T {me : Nat → Nat} {w : Int64} {p : gO} (hc : occ p 7 = false) (hm : omc p 7 = false) (hw : oC me w p) : oC me (fo_outsideTrap w) (oTr p) :=
  oC_whole (fun j hj => (trap_of hm (fun j hj => hw.must hj) hj).trans rfl) (fun j hj => (trap_of hc (fun j hj => hw.can hj) hj).trans rfl)
theorem oC_wo {me me' : Nat → Nat} {w : Int64} {p : gO} {x : Nat} (hx : x < 16) (he : ∀ s, s < 16 → s ≠ x → me' s = me s) (h0 : ocf p (me x) = false) (h1 : omf p (me x) = false) (hw : oC me' w p) : oC me (fo_withoutSignal w (Int32.ofNat x)) p := by
  have : ∀ x, x < 16 → ∀ j, j < 64 → wb ((((1 : Int64) <<< ((Int32.ofNat x).toInt64 &&& 63)) ||| (((1 : Int64) <<< ((Int32.ofNat x).toInt64 &&& 63)) <<< ((32 : Int32).toInt64 &&& 63))) ^^^ (-1 : Int64)) j = !(decide (j = x) || decide (j = x + 32)) := by decide +kernel
  intro j hj
  unfold fo_withoutSignal
  rw [wb_and, this x hx j hj, hw j hj]
  simp only [oBit, hBit]
  by_cases q : j < 32
  · rw [if_pos q, if_pos q]
    by_cases q2 : j < 16
    · rw [if_pos q2, if_pos q2]
      by_cases e : j = x
      · subst e; simp [h0]
      · rw [he j q2 e]; simp [e]; omega
    · rw [if_neg q2, if_neg q2]
      simp [show j ≠ x by omega, show j ≠ x + 32 by omega]
  · rw [if_neg q, if_neg q]
    by_cases q2 : j - 32 < 16
    · rw [if_pos q2, if_pos q2]
      by_cases e : j - 32 = x
      · rw [e]; simp [h1, show j = x + 32 by omega]
      · rw [he _ q2 e]; simp [show j ≠ x by omega, show j ≠ x + 32 by omega]
    · rw [if_neg q2, if_neg q2]
      simp [show j ≠ x by omega, show j ≠ x + 32 by omega]
