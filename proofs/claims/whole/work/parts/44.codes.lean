/-! CODES: sets of codes 0 .. 6 as numbers -/
def cN (A : Nat → Bool) : Nat := (A 0).toNat + 2 * (A 1).toNat + 4 * (A 2).toNat + 8 * (A 3).toNat + 16 * (A 4).toNat + 32 * (A 5).toNat + 64 * (A 6).toNat
def cE (A : Nat → Bool) : Int32 := Int32.ofNat (cN A)
theorem cN_lt (A : Nat → Bool) : cN A < 128 := by
  unfold cN
  have h : ∀ b : Bool, b.toNat ≤ 1 := Bool.toNat_le
  have := h (A 0); have := h (A 1); have := h (A 2); have := h (A 3); have := h (A 4); have := h (A 5); have := h (A 6)
  omega
theorem cE_cg {A B : Nat → Bool} (h : ∀ c, c < 7 → A c = B c) : cE A = cE B := by
  unfold cE cN
  rw [h 0 (by decide), h 1 (by decide), h 2 (by decide), h 3 (by decide), h 4 (by decide), h 5 (by decide), h 6 (by decide)]
set_option maxRecDepth 100000 in
set_option maxHeartbeats 4000000 in
theorem k_or : ∀ a0 a1 a2 a3 a4 a5 a6 b0 b1 b2 b3 b4 b5 b6 : Bool, (Int32.ofNat ((a0).toNat + 2 * (a1).toNat + 4 * (a2).toNat + 8 * (a3).toNat + 16 * (a4).toNat + 32 * (a5).toNat + 64 * (a6).toNat)) ||| (Int32.ofNat ((b0).toNat + 2 * (b1).toNat + 4 * (b2).toNat + 8 * (b3).toNat + 16 * (b4).toNat + 32 * (b5).toNat + 64 * (b6).toNat)) = Int32.ofNat ((a0 || b0).toNat + 2 * (a1 || b1).toNat + 4 * (a2 || b2).toNat + 8 * (a3 || b3).toNat + 16 * (a4 || b4).toNat + 32 * (a5 || b5).toNat + 64 * (a6 || b6).toNat) := by
  decide +kernel
set_option maxRecDepth 100000 in
set_option maxHeartbeats 4000000 in
theorem k_and2 : ∀ a0 a1 a2 a3 a4 a5 a6 : Bool, (Int32.ofNat ((a0).toNat + 2 * (a1).toNat + 4 * (a2).toNat + 8 * (a3).toNat + 16 * (a4).toNat + 32 * (a5).toNat + 64 * (a6).toNat)) &&& (-2 : Int32) = Int32.ofNat ((false).toNat + 2 * (a1).toNat + 4 * (a2).toNat + 8 * (a3).toNat + 16 * (a4).toNat + 32 * (a5).toNat + 64 * (a6).toNat) := by
  decide +kernel
set_option maxRecDepth 100000 in
set_option maxHeartbeats 4000000 in
theorem k_tr : ∀ a0 a1 a2 a3 a4 a5 a6 : Bool, fm_caught (Int32.ofNat ((a0).toNat + 2 * (a1).toNat + 4 * (a2).toNat + 8 * (a3).toNat + 16 * (a4).toNat + 32 * (a5).toNat + 64 * (a6).toNat)) = Int32.ofNat (((a0 || a2)).toNat + 2 * (a1).toNat + 4 * (a3).toNat + 8 * (a4).toNat + 16 * (a5).toNat + 32 * (a6).toNat + 64 * (false).toNat) ∧ fc_outsideTrap (Int32.ofNat ((a0).toNat + 2 * (a1).toNat + 4 * (a2).toNat + 8 * (a3).toNat + 16 * (a4).toNat + 32 * (a5).toNat + 64 * (a6).toNat)) = Int32.ofNat (((a0 || a2)).toNat + 2 * (a1).toNat + 4 * (a3).toNat + 8 * (a4).toNat + 16 * (a5).toNat + 32 * (a6).toNat + 64 * (false).toNat) := by
  decide +kernel
set_option maxRecDepth 100000 in
set_option maxHeartbeats 4000000 in
theorem k_bit0 : ∀ a0 a1 a2 a3 a4 a5 a6 : Bool, (((Int32.ofNat ((a0).toNat + 2 * (a1).toNat + 4 * (a2).toNat + 8 * (a3).toNat + 16 * (a4).toNat + 32 * (a5).toNat + 64 * (a6).toNat)) &&& (1 : Int32)) = 0 ↔ a0 = false) := by
  decide +kernel
set_option maxRecDepth 100000 in
set_option maxHeartbeats 4000000 in
theorem k_gp : ∀ a0 a1 a2 a3 a4 a5 a6 b0 b1 b2 b3 b4 b5 b6 : Bool, fc_greaterOfPairs (Int32.ofNat ((a0).toNat + 2 * (a1).toNat + 4 * (a2).toNat + 8 * (a3).toNat + 16 * (a4).toNat + 32 * (a5).toNat + 64 * (a6).toNat)) (Int32.ofNat ((b0).toNat + 2 * (b1).toNat + 4 * (b2).toNat + 8 * (b3).toNat + 16 * (b4).toNat + 32 * (b5).toNat + 64 * (b6).toNat)) = Int32.ofNat ((((a0 && (b0 || false)) || (b0 && (a0 || false)))).toNat + 2 * (((a1 && (b0 || (b1 || false))) || (b1 && (a0 || (a1 || false))))).toNat + 4 * (((a2 && (b0 || (b1 || (b2 || false)))) || (b2 && (a0 || (a1 || (a2 || false)))))).toNat + 8 * (((a3 && (b0 || (b1 || (b2 || (b3 || false))))) || (b3 && (a0 || (a1 || (a2 || (a3 || false))))))).toNat + 16 * (((a4 && (b0 || (b1 || (b2 || (b3 || (b4 || false)))))) || (b4 && (a0 || (a1 || (a2 || (a3 || (a4 || false)))))))).toNat + 32 * (((a5 && (b0 || (b1 || (b2 || (b3 || (b4 || (b5 || false))))))) || (b5 && (a0 || (a1 || (a2 || (a3 || (a4 || (a5 || false))))))))).toNat + 64 * (((a6 && (b0 || (b1 || (b2 || (b3 || (b4 || (b5 || (b6 || false)))))))) || (b6 && (a0 || (a1 || (a2 || (a3 || (a4 || (a5 || (a6 || false)))))))))).toNat) := by
  decide +kernel
set_option maxRecDepth 100000 in
set_option maxHeartbeats 4000000 in
theorem k_outN : ∀ a0 a1 a2 a3 a4 a5 a6 : Bool, fm_canOf (fm_outcome (Int32.ofNat ((a0).toNat + 2 * (a1).toNat + 4 * (a2).toNat + 8 * (a3).toNat + 16 * (a4).toNat + 32 * (a5).toNat + 64 * (a6).toNat)) (-1 : Int32)) = (Int32.ofNat ((a0).toNat + 2 * (a1).toNat + 4 * (a2).toNat + 8 * (a3).toNat + 16 * (a4).toNat + 32 * (a5).toNat + 64 * (a6).toNat)) ∧ fm_mustOf (fm_outcome (Int32.ofNat ((a0).toNat + 2 * (a1).toNat + 4 * (a2).toNat + 8 * (a3).toNat + 16 * (a4).toNat + 32 * (a5).toNat + 64 * (a6).toNat)) (-1 : Int32)) = (-1 : Int32) := by
  decide +kernel
set_option maxRecDepth 100000 in
set_option maxHeartbeats 4000000 in
theorem k_out0 : ∀ a0 a1 a2 a3 a4 a5 a6 : Bool, fm_canOf (fm_outcome (Int32.ofNat ((a0).toNat + 2 * (a1).toNat + 4 * (a2).toNat + 8 * (a3).toNat + 16 * (a4).toNat + 32 * (a5).toNat + 64 * (a6).toNat)) (0 : Int32)) = (Int32.ofNat ((a0).toNat + 2 * (a1).toNat + 4 * (a2).toNat + 8 * (a3).toNat + 16 * (a4).toNat + 32 * (a5).toNat + 64 * (a6).toNat)) ∧ fm_mustOf (fm_outcome (Int32.ofNat ((a0).toNat + 2 * (a1).toNat + 4 * (a2).toNat + 8 * (a3).toNat + 16 * (a4).toNat + 32 * (a5).toNat + 64 * (a6).toNat)) (0 : Int32)) = (0 : Int32) := by
  decide +kernel
set_option maxRecDepth 100000 in
set_option maxHeartbeats 4000000 in
theorem k_out1 : ∀ a0 a1 a2 a3 a4 a5 a6 : Bool, fm_canOf (fm_outcome (Int32.ofNat ((a0).toNat + 2 * (a1).toNat + 4 * (a2).toNat + 8 * (a3).toNat + 16 * (a4).toNat + 32 * (a5).toNat + 64 * (a6).toNat)) (1 : Int32)) = (Int32.ofNat ((a0).toNat + 2 * (a1).toNat + 4 * (a2).toNat + 8 * (a3).toNat + 16 * (a4).toNat + 32 * (a5).toNat + 64 * (a6).toNat)) ∧ fm_mustOf (fm_outcome (Int32.ofNat ((a0).toNat + 2 * (a1).toNat + 4 * (a2).toNat + 8 * (a3).toNat + 16 * (a4).toNat + 32 * (a5).toNat + 64 * (a6).toNat)) (1 : Int32)) = (1 : Int32) := by
  decide +kernel
set_option maxRecDepth 100000 in
set_option maxHeartbeats 4000000 in
theorem k_out2 : ∀ a0 a1 a2 a3 a4 a5 a6 : Bool, fm_canOf (fm_outcome (Int32.ofNat ((a0).toNat + 2 * (a1).toNat + 4 * (a2).toNat + 8 * (a3).toNat + 16 * (a4).toNat + 32 * (a5).toNat + 64 * (a6).toNat)) (2 : Int32)) = (Int32.ofNat ((a0).toNat + 2 * (a1).toNat + 4 * (a2).toNat + 8 * (a3).toNat + 16 * (a4).toNat + 32 * (a5).toNat + 64 * (a6).toNat)) ∧ fm_mustOf (fm_outcome (Int32.ofNat ((a0).toNat + 2 * (a1).toNat + 4 * (a2).toNat + 8 * (a3).toNat + 16 * (a4).toNat + 32 * (a5).toNat + 64 * (a6).toNat)) (2 : Int32)) = (2 : Int32) := by
  decide +kernel
set_option maxRecDepth 100000 in
set_option maxHeartbeats 4000000 in
theorem k_out3 : ∀ a0 a1 a2 a3 a4 a5 a6 : Bool, fm_canOf (fm_outcome (Int32.ofNat ((a0).toNat + 2 * (a1).toNat + 4 * (a2).toNat + 8 * (a3).toNat + 16 * (a4).toNat + 32 * (a5).toNat + 64 * (a6).toNat)) (3 : Int32)) = (Int32.ofNat ((a0).toNat + 2 * (a1).toNat + 4 * (a2).toNat + 8 * (a3).toNat + 16 * (a4).toNat + 32 * (a5).toNat + 64 * (a6).toNat)) ∧ fm_mustOf (fm_outcome (Int32.ofNat ((a0).toNat + 2 * (a1).toNat + 4 * (a2).toNat + 8 * (a3).toNat + 16 * (a4).toNat + 32 * (a5).toNat + 64 * (a6).toNat)) (3 : Int32)) = (3 : Int32) := by
  decide +kernel
set_option maxRecDepth 100000 in
set_option maxHeartbeats 4000000 in
theorem k_out4 : ∀ a0 a1 a2 a3 a4 a5 a6 : Bool, fm_canOf (fm_outcome (Int32.ofNat ((a0).toNat + 2 * (a1).toNat + 4 * (a2).toNat + 8 * (a3).toNat + 16 * (a4).toNat + 32 * (a5).toNat + 64 * (a6).toNat)) (4 : Int32)) = (Int32.ofNat ((a0).toNat + 2 * (a1).toNat + 4 * (a2).toNat + 8 * (a3).toNat + 16 * (a4).toNat + 32 * (a5).toNat + 64 * (a6).toNat)) ∧ fm_mustOf (fm_outcome (Int32.ofNat ((a0).toNat + 2 * (a1).toNat + 4 * (a2).toNat + 8 * (a3).toNat + 16 * (a4).toNat + 32 * (a5).toNat + 64 * (a6).toNat)) (4 : Int32)) = (4 : Int32) := by
  decide +kernel
set_option maxRecDepth 100000 in
set_option maxHeartbeats 4000000 in
theorem k_out5 : ∀ a0 a1 a2 a3 a4 a5 a6 : Bool, fm_canOf (fm_outcome (Int32.ofNat ((a0).toNat + 2 * (a1).toNat + 4 * (a2).toNat + 8 * (a3).toNat + 16 * (a4).toNat + 32 * (a5).toNat + 64 * (a6).toNat)) (5 : Int32)) = (Int32.ofNat ((a0).toNat + 2 * (a1).toNat + 4 * (a2).toNat + 8 * (a3).toNat + 16 * (a4).toNat + 32 * (a5).toNat + 64 * (a6).toNat)) ∧ fm_mustOf (fm_outcome (Int32.ofNat ((a0).toNat + 2 * (a1).toNat + 4 * (a2).toNat + 8 * (a3).toNat + 16 * (a4).toNat + 32 * (a5).toNat + 64 * (a6).toNat)) (5 : Int32)) = (5 : Int32) := by
  decide +kernel
set_option maxRecDepth 100000 in
set_option maxHeartbeats 4000000 in
theorem k_out6 : ∀ a0 a1 a2 a3 a4 a5 a6 : Bool, fm_canOf (fm_outcome (Int32.ofNat ((a0).toNat + 2 * (a1).toNat + 4 * (a2).toNat + 8 * (a3).toNat + 16 * (a4).toNat + 32 * (a5).toNat + 64 * (a6).toNat)) (6 : Int32)) = (Int32.ofNat ((a0).toNat + 2 * (a1).toNat + 4 * (a2).toNat + 8 * (a3).toNat + 16 * (a4).toNat + 32 * (a5).toNat + 64 * (a6).toNat)) ∧ fm_mustOf (fm_outcome (Int32.ofNat ((a0).toNat + 2 * (a1).toNat + 4 * (a2).toNat + 8 * (a3).toNat + 16 * (a4).toNat + 32 * (a5).toNat + 64 * (a6).toNat)) (6 : Int32)) = (6 : Int32) := by
  decide +kernel
set_option maxRecDepth 100000 in
set_option maxHeartbeats 4000000 in
theorem k_pj0 : ∀ b0 b1 b2 b3 b4 b5 b6 : Bool, (fm_pairsJ 9 ((1 : Int32) <<< ((0 : Int32) &&& 31)) (Int32.ofNat ((b0).toNat + 2 * (b1).toNat + 4 * (b2).toNat + 8 * (b3).toNat + 16 * (b4).toNat + 32 * (b5).toNat + 64 * (b6).toNat)) (0 : Int32) 0 0).1 = Int32.ofNat (((b0 || false)).toNat + 2 * (b1).toNat + 4 * (b2).toNat + 8 * (b3).toNat + 16 * (b4).toNat + 32 * (b5).toNat + 64 * (b6).toNat) := by
  decide +kernel
set_option maxRecDepth 100000 in
set_option maxHeartbeats 4000000 in
theorem k_pj1 : ∀ b0 b1 b2 b3 b4 b5 b6 : Bool, (fm_pairsJ 9 ((1 : Int32) <<< ((1 : Int32) &&& 31)) (Int32.ofNat ((b0).toNat + 2 * (b1).toNat + 4 * (b2).toNat + 8 * (b3).toNat + 16 * (b4).toNat + 32 * (b5).toNat + 64 * (b6).toNat)) (1 : Int32) 0 0).1 = Int32.ofNat ((false).toNat + 2 * ((b0 || (b1 || false))).toNat + 4 * (b2).toNat + 8 * (b3).toNat + 16 * (b4).toNat + 32 * (b5).toNat + 64 * (b6).toNat) := by
  decide +kernel
set_option maxRecDepth 100000 in
set_option maxHeartbeats 4000000 in
theorem k_pj2 : ∀ b0 b1 b2 b3 b4 b5 b6 : Bool, (fm_pairsJ 9 ((1 : Int32) <<< ((2 : Int32) &&& 31)) (Int32.ofNat ((b0).toNat + 2 * (b1).toNat + 4 * (b2).toNat + 8 * (b3).toNat + 16 * (b4).toNat + 32 * (b5).toNat + 64 * (b6).toNat)) (2 : Int32) 0 0).1 = Int32.ofNat ((false).toNat + 2 * (false).toNat + 4 * ((b0 || (b1 || (b2 || false)))).toNat + 8 * (b3).toNat + 16 * (b4).toNat + 32 * (b5).toNat + 64 * (b6).toNat) := by
  decide +kernel
set_option maxRecDepth 100000 in
set_option maxHeartbeats 4000000 in
theorem k_pj3 : ∀ b0 b1 b2 b3 b4 b5 b6 : Bool, (fm_pairsJ 9 ((1 : Int32) <<< ((3 : Int32) &&& 31)) (Int32.ofNat ((b0).toNat + 2 * (b1).toNat + 4 * (b2).toNat + 8 * (b3).toNat + 16 * (b4).toNat + 32 * (b5).toNat + 64 * (b6).toNat)) (3 : Int32) 0 0).1 = Int32.ofNat ((false).toNat + 2 * (false).toNat + 4 * (false).toNat + 8 * ((b0 || (b1 || (b2 || (b3 || false))))).toNat + 16 * (b4).toNat + 32 * (b5).toNat + 64 * (b6).toNat) := by
  decide +kernel
set_option maxRecDepth 100000 in
set_option maxHeartbeats 4000000 in
theorem k_pj4 : ∀ b0 b1 b2 b3 b4 b5 b6 : Bool, (fm_pairsJ 9 ((1 : Int32) <<< ((4 : Int32) &&& 31)) (Int32.ofNat ((b0).toNat + 2 * (b1).toNat + 4 * (b2).toNat + 8 * (b3).toNat + 16 * (b4).toNat + 32 * (b5).toNat + 64 * (b6).toNat)) (4 : Int32) 0 0).1 = Int32.ofNat ((false).toNat + 2 * (false).toNat + 4 * (false).toNat + 8 * (false).toNat + 16 * ((b0 || (b1 || (b2 || (b3 || (b4 || false)))))).toNat + 32 * (b5).toNat + 64 * (b6).toNat) := by
  decide +kernel
set_option maxRecDepth 100000 in
set_option maxHeartbeats 4000000 in
theorem k_pj5 : ∀ b0 b1 b2 b3 b4 b5 b6 : Bool, (fm_pairsJ 9 ((1 : Int32) <<< ((5 : Int32) &&& 31)) (Int32.ofNat ((b0).toNat + 2 * (b1).toNat + 4 * (b2).toNat + 8 * (b3).toNat + 16 * (b4).toNat + 32 * (b5).toNat + 64 * (b6).toNat)) (5 : Int32) 0 0).1 = Int32.ofNat ((false).toNat + 2 * (false).toNat + 4 * (false).toNat + 8 * (false).toNat + 16 * (false).toNat + 32 * ((b0 || (b1 || (b2 || (b3 || (b4 || (b5 || false))))))).toNat + 64 * (b6).toNat) := by
  decide +kernel
set_option maxRecDepth 100000 in
set_option maxHeartbeats 4000000 in
theorem k_pj6 : ∀ b0 b1 b2 b3 b4 b5 b6 : Bool, (fm_pairsJ 9 ((1 : Int32) <<< ((6 : Int32) &&& 31)) (Int32.ofNat ((b0).toNat + 2 * (b1).toNat + 4 * (b2).toNat + 8 * (b3).toNat + 16 * (b4).toNat + 32 * (b5).toNat + 64 * (b6).toNat)) (6 : Int32) 0 0).1 = Int32.ofNat ((false).toNat + 2 * (false).toNat + 4 * (false).toNat + 8 * (false).toNat + 16 * (false).toNat + 32 * (false).toNat + 64 * ((b0 || (b1 || (b2 || (b3 || (b4 || (b5 || (b6 || false)))))))).toNat) := by
  decide +kernel
set_option maxRecDepth 100000 in
set_option maxHeartbeats 4000000 in
theorem k_sh0 : ∀ a0 a1 a2 a3 a4 a5 a6 : Bool, ((((Int32.ofNat ((a0).toNat + 2 * (a1).toNat + 4 * (a2).toNat + 8 * (a3).toNat + 16 * (a4).toNat + 32 * (a5).toNat + 64 * (a6).toNat)) >>> ((0 : Int32) &&& 31)) &&& (1 : Int32)) = (1 : Int32) ↔ a0 = true) := by
  decide +kernel
set_option maxRecDepth 100000 in
set_option maxHeartbeats 4000000 in
theorem k_sh1 : ∀ a0 a1 a2 a3 a4 a5 a6 : Bool, ((((Int32.ofNat ((a0).toNat + 2 * (a1).toNat + 4 * (a2).toNat + 8 * (a3).toNat + 16 * (a4).toNat + 32 * (a5).toNat + 64 * (a6).toNat)) >>> ((1 : Int32) &&& 31)) &&& (1 : Int32)) = (1 : Int32) ↔ a1 = true) := by
  decide +kernel
set_option maxRecDepth 100000 in
set_option maxHeartbeats 4000000 in
theorem k_sh2 : ∀ a0 a1 a2 a3 a4 a5 a6 : Bool, ((((Int32.ofNat ((a0).toNat + 2 * (a1).toNat + 4 * (a2).toNat + 8 * (a3).toNat + 16 * (a4).toNat + 32 * (a5).toNat + 64 * (a6).toNat)) >>> ((2 : Int32) &&& 31)) &&& (1 : Int32)) = (1 : Int32) ↔ a2 = true) := by
  decide +kernel
set_option maxRecDepth 100000 in
set_option maxHeartbeats 4000000 in
theorem k_sh3 : ∀ a0 a1 a2 a3 a4 a5 a6 : Bool, ((((Int32.ofNat ((a0).toNat + 2 * (a1).toNat + 4 * (a2).toNat + 8 * (a3).toNat + 16 * (a4).toNat + 32 * (a5).toNat + 64 * (a6).toNat)) >>> ((3 : Int32) &&& 31)) &&& (1 : Int32)) = (1 : Int32) ↔ a3 = true) := by
  decide +kernel
set_option maxRecDepth 100000 in
set_option maxHeartbeats 4000000 in
theorem k_sh4 : ∀ a0 a1 a2 a3 a4 a5 a6 : Bool, ((((Int32.ofNat ((a0).toNat + 2 * (a1).toNat + 4 * (a2).toNat + 8 * (a3).toNat + 16 * (a4).toNat + 32 * (a5).toNat + 64 * (a6).toNat)) >>> ((4 : Int32) &&& 31)) &&& (1 : Int32)) = (1 : Int32) ↔ a4 = true) := by
  decide +kernel
set_option maxRecDepth 100000 in
set_option maxHeartbeats 4000000 in
theorem k_sh5 : ∀ a0 a1 a2 a3 a4 a5 a6 : Bool, ((((Int32.ofNat ((a0).toNat + 2 * (a1).toNat + 4 * (a2).toNat + 8 * (a3).toNat + 16 * (a4).toNat + 32 * (a5).toNat + 64 * (a6).toNat)) >>> ((5 : Int32) &&& 31)) &&& (1 : Int32)) = (1 : Int32) ↔ a5 = true) := by
  decide +kernel
set_option maxRecDepth 100000 in
set_option maxHeartbeats 4000000 in
theorem k_sh6 : ∀ a0 a1 a2 a3 a4 a5 a6 : Bool, ((((Int32.ofNat ((a0).toNat + 2 * (a1).toNat + 4 * (a2).toNat + 8 * (a3).toNat + 16 * (a4).toNat + 32 * (a5).toNat + 64 * (a6).toNat)) >>> ((6 : Int32) &&& 31)) &&& (1 : Int32)) = (1 : Int32) ↔ a6 = true) := by
  decide +kernel
set_option maxRecDepth 100000 in
set_option maxHeartbeats 4000000 in
theorem k_sh7 : ∀ a0 a1 a2 a3 a4 a5 a6 : Bool, ((((Int32.ofNat ((a0).toNat + 2 * (a1).toNat + 4 * (a2).toNat + 8 * (a3).toNat + 16 * (a4).toNat + 32 * (a5).toNat + 64 * (a6).toNat)) >>> ((7 : Int32) &&& 31)) &&& (1 : Int32)) = (1 : Int32) ↔ False) := by
  decide +kernel
