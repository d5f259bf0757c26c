section PUT6
variable {P : pT} {M : mT} {z L np W : Nat} {op lf : Nat → Nat}
def hNx (P : pT) (M : mT) (L : Nat) (op lf : Nat → Nat) : Nat := if L = 0 then 1 else pwt P (op (L - 1)) + (if mso M (op (L - 1)) = 8 ∨ (mso M (op (L - 1)) = 6 ∧ lf (L - 1) = 1) then 1 else 0)
def otB (M : mT) (L : Nat) (op : Nat → Nat) : Bool := decide (0 < L) && !decide (M.2 2 (op (L - 1)) = (-1 : Int32))
theorem lf_one (h : bI P M z L op lf np W) (hst : 0 < L → 0 < lf (L - 1)) (q : 0 < L) (h6 : mso M (op (L - 1)) = 6) : lf (L - 1) = 1 ↔ ¬ M.2 2 (op (L - 1)) = (-1 : Int32) := by
  obtain ⟨-, -, o⟩ := h.2.2.2.2.2.1 (L - 1) (by omega)
  have b3 := (h.2.1 (L - 1) (by omega)).2.2.1
  have hz := h.1.1.2.2
  have e : pr (mso M (op (L - 1))) = 2 := by rw [h6]; rfl
  rw [e] at o
  have hl := hst q
  rcases o with ⟨o1, o2, -⟩ | ⟨o1, o2, -⟩ | ⟨o1, o2, -⟩
  · exact ⟨fun t => by omega, fun t => absurd o2 t⟩
  · exact ⟨fun _ => by rw [o2]; exact o_m1 (by omega), fun _ => by omega⟩
  · omega
theorem next_ok (h : bI P M z L op lf np W) (hst : 0 < L → 0 < lf (L - 1)) (so x : Int32) : fp_nextWeight P = Int32.ofNat (hNx P M L op lf) ∧ fm_putP M so x = (if L = 0 then (-1 : Int32) else Int32.ofNat (op (L - 1))) ∧ fm_putO M so x (if L = 0 then (-1 : Int32) else Int32.ofNat (op (L - 1))) = b2i (otB M L op) ∧ fm_putH M so x (if L = 0 then (-1 : Int32) else Int32.ofNat (op (L - 1))) (b2i (otB M L op)) = Int32.ofNat (hNx P M L op lf) ∧ hNx P M L op lf ≤ 361 := by
  have hL := h.1.2.1.2.2
  have hz := h.1.1.2.2
  by_cases q : L = 0
  · subst q
    have p0 : P.1 0 = (0 : Int32) := h.1.2.1.2.1
    have m0 : M.1 4 = (0 : Int32) := h.1.2.1.1
    refine ⟨?_, ?_, ?_, ?_, ?_⟩
    · unfold fp_nextWeight; rw [if_pos p0]; rfl
    · unfold fm_putP; rw [if_pos m0]; rfl
    · rfl
    · rfl
    · show 1 ≤ 361; omega
  · have q' : 0 < L := by omega
    obtain ⟨b1, b2, b3, b4, b5, b6, b7⟩ := h.2.1 (L - 1) (by omega)
    have n := h.2.2.1 _ b3
    have hs := n.1.2
    obtain ⟨s1, s2, s3⟩ := bsort h b3
    have hl6 := lf_one h hst q'
    have w7 := n.2.2.2.2.2.2.2.2.2.2.1
    have wle := n.2.2.2.2.2.2.2.2.2.2.2.2.1
    have p0 : ¬ P.1 0 = 0 := fun t => by rw [h.1.2.1.2.1] at t; exact q ((eq0 (by omega)).mp t)
    have m0 : ¬ M.1 4 = 0 := fun t => by rw [h.1.2.1.1] at t; exact q ((eq0 (by omega)).mp t)
    have pl : (P.1 0 - (1 : Int32)).toNatClampNeg = L - 1 := by rw [h.1.2.1.2.1, o_sub q' (by omega), n_of (by omega)]
    have ml : (M.1 4 - (1 : Int32)).toNatClampNeg = L - 1 := by rw [h.1.2.1.1, o_sub q' (by omega), n_of (by omega)]
    have nt : ¬ Int32.ofNat (op (L - 1)) = (-1 : Int32) := o_m1 (by omega)
    have i6 : Int32.ofNat (mso M (op (L - 1))) = (6 : Int32) ↔ mso M (op (L - 1)) = 6 := ⟨fun t => o_inj (b := 6) (by omega) (by omega) t, fun t => by rw [t]; rfl⟩
    have i8 : Int32.ofNat (mso M (op (L - 1))) = (8 : Int32) ↔ mso M (op (L - 1)) = 8 := ⟨fun t => o_inj (b := 8) (by omega) (by omega) t, fun t => by rw [t]; rfl⟩
    have il : Int32.ofNat (lf (L - 1)) = (1 : Int32) ↔ lf (L - 1) = 1 := ⟨fun t => o_inj (b := 1) (by omega) (by omega) t, fun t => by rw [t]; rfl⟩
    rw [if_neg q]
    have eo : fm_putO M so x (Int32.ofNat (op (L - 1))) = b2i (otB M L op) := by
      unfold fm_putO otB
      rw [if_neg nt, n_of (by omega)]
      by_cases r : M.2 2 (op (L - 1)) = (-1 : Int32)
      · rw [if_pos r]; simp [r, b2i]
      · rw [if_neg r]; simp [r, q', b2i]
    refine ⟨?_, ?_, eo, ?_, ?_⟩
    · unfold fp_nextWeight hNx
      rw [if_neg p0, if_neg q, pl, b2, b5, s2, s3]
      by_cases r6 : mso M (op (L - 1)) = 6
      · have r8 : ¬ mso M (op (L - 1)) = 8 := by omega
        rw [if_pos (i6.mpr r6)]
        by_cases rl : lf (L - 1) = 1
        · rw [if_pos (il.mpr rl), if_neg (fun t => r8 (i8.mp t)), if_neg (show ¬ (1 : Int32) = 0 by decide), if_pos (Or.inr ⟨r6, rl⟩), o_add]
        · rw [if_neg (fun t => rl (il.mp t)), if_neg (fun t => r8 (i8.mp t)), if_pos (show (0 : Int32) = 0 from rfl), if_neg (fun t => t.elim r8 (fun u => rl u.2)), Int32.add_zero]; rfl
      · rw [if_neg (fun t => r6 (i6.mp t))]
        by_cases r8 : mso M (op (L - 1)) = 8
        · rw [if_pos (i8.mpr r8), if_pos (Or.inl r8), o_add]
        · rw [if_neg (fun t => r8 (i8.mp t)), if_pos (show (0 : Int32) = 0 from rfl), if_neg (fun t => t.elim r8 (fun u => r6 u.1)), Int32.add_zero]; rfl
    · unfold fm_putP
      rw [if_neg m0, ml, b1]
    · unfold fm_putH hNx
      rw [if_neg nt, if_neg q, n_of (by omega), n.1.1, w7]
      by_cases r8 : mso M (op (L - 1)) = 8
      · rw [if_pos (i8.mpr r8), if_pos (Or.inl r8), o_add]
      · rw [if_neg (fun t => r8 (i8.mp t))]
        by_cases r6 : mso M (op (L - 1)) = 6
        · rw [if_pos (i6.mpr r6)]
          have hh := hl6 r6
          by_cases rl : lf (L - 1) = 1
          · have r2 := hh.mp rl
            have eb : otB M L op = true := by unfold otB; simp [r2, q']
            rw [eb, if_neg (show ¬ b2i true = 0 by decide), if_pos (Or.inr ⟨r6, rl⟩), o_add]
          · have r2 : M.2 2 (op (L - 1)) = (-1 : Int32) := by
              by_cases u : M.2 2 (op (L - 1)) = (-1 : Int32)
              · exact u
              · exact absurd (hh.mpr u) rl
            have eb : otB M L op = false := by unfold otB; simp [r2]
            rw [eb, if_pos (show b2i false = 0 from rfl), if_neg (fun t => t.elim r8 (fun u => rl u.2)), Int32.add_zero]; rfl
        · rw [if_neg (fun t => r6 (i6.mp t)), if_neg (fun t => t.elim r8 (fun u => r6 u.1)), Int32.add_zero]; rfl
    · unfold hNx
      rw [if_neg q]
      split <;> omega
def Rm (z L np T W hh s : Nat) : Prop := z < 120 ∧ L < 24 ∧ (s = 1 → np < 32) ∧ (s = 9 → T < 5) ∧ W + hh ≤ 360
theorem room_ok (h : bI P M z L op lf np W) {T hh s : Nat} (hs : s ≤ 10) (hT : T ≤ 5) (hh1 : hh ≤ 361) (t1 : fp_trapsAround P = Int32.ofNat T) (t2 : fm_trapsHere M = Int32.ofNat T) (w1 : fp_nextWeight P = Int32.ofNat hh) (x pa ot : Int32) : (Rm z L np T W hh s → fp_hasRoomFor P (Int32.ofNat s) = 1 ∧ fm_putM M (Int32.ofNat s) x pa ot (Int32.ofNat hh) = 0) ∧ (¬ Rm z L np T W hh s → fp_hasRoomFor P (Int32.ofNat s) = 0 ∧ fm_putM M (Int32.ofNat s) x pa ot (Int32.ofNat hh) = 1) := by
  obtain ⟨⟨a1, a2, a3⟩, ⟨a4, a5, a6⟩, ⟨a7, a8, a9⟩, ⟨a10, a11, a12⟩, a13⟩ := h.1
  have c1 : (120 : Int32) ≤ Int32.ofNat z ↔ ¬ z < 120 := by
    have := o_le (a := 120) (b := z) (by omega) (by omega)
    exact ⟨fun t => by have := this.mp t; omega, fun t => this.mpr (by omega)⟩
  have c1' : Int32.ofNat z = (120 : Int32) ↔ ¬ z < 120 := ⟨fun t => by have := o_inj (b := 120) (by omega) (by omega) t; omega, fun t => by rw [show z = 120 by omega]; rfl⟩
  have c2 : (24 : Int32) ≤ Int32.ofNat L ↔ ¬ L < 24 := by
    have := o_le (a := 24) (b := L) (by omega) (by omega)
    exact ⟨fun t => by have := this.mp t; omega, fun t => this.mpr (by omega)⟩
  have c2' : Int32.ofNat L = (24 : Int32) ↔ ¬ L < 24 := ⟨fun t => by have := o_inj (b := 24) (by omega) (by omega) t; omega, fun t => by rw [show L = 24 by omega]; rfl⟩
  have c3 : (32 : Int32) ≤ Int32.ofNat np ↔ ¬ np < 32 := by
    have := o_le (a := 32) (b := np) (by omega) (by omega)
    exact ⟨fun t => by have := this.mp t; omega, fun t => this.mpr (by omega)⟩
  have c3' : Int32.ofNat np = (32 : Int32) ↔ ¬ np < 32 := ⟨fun t => by have := o_inj (b := 32) (by omega) (by omega) t; omega, fun t => by rw [show np = 32 by omega]; rfl⟩
  have c4 : (5 : Int32) ≤ Int32.ofNat T ↔ ¬ T < 5 := by
    have := o_le (a := 5) (b := T) (by omega) (by omega)
    exact ⟨fun t => by have := this.mp t; omega, fun t => this.mpr (by omega)⟩
  have c4' : Int32.ofNat T = (5 : Int32) ↔ ¬ T < 5 := ⟨fun t => by have := o_inj (b := 5) (by omega) (by omega) t; omega, fun t => by rw [show T = 5 by omega]; rfl⟩
  have c5' : Int32.ofNat W + Int32.ofNat hh ≤ (360 : Int32) ↔ W + hh ≤ 360 := by
    rw [← Int32.ofNat_add]
    have := o_le (a := W + hh) (b := 360) (by omega) (by omega)
    exact this
  have c5 : (360 : Int32) < Int32.ofNat W + Int32.ofNat hh ↔ ¬ W + hh ≤ 360 := by
    rw [← c5', Int32.lt_iff_toInt_lt, Int32.le_iff_toInt_le]
    omega
  have d1 : Int32.ofNat s = (1 : Int32) ↔ s = 1 := ⟨fun q => o_inj (b := 1) (by omega) (by omega) q, fun q => by rw [q]; rfl⟩
  have d9 : Int32.ofNat s = (9 : Int32) ↔ s = 9 := ⟨fun q => o_inj (b := 9) (by omega) (by omega) q, fun q => by rw [q]; rfl⟩
  unfold fp_hasRoomFor fm_putM Rm
  rw [a1, a2, a4, a5, a7, a8, a10, a11, t1, t2, w1]
  simp only [c1, c1', c2, c2', c3, c3', c4, c4', c5, c5', d1, d9]
  by_cases e1 : z < 120 <;> by_cases e2 : L < 24 <;> by_cases e3 : s = 1 <;> by_cases e4 : np < 32 <;> by_cases e5 : s = 9 <;> by_cases e6 : T < 5 <;> by_cases e7 : W + hh ≤ 360 <;> simp [e1, e2, e3, e4, e5, e6, e7] <;> omega
end PUT6
