/-! bitCount counts bits -/
def nt (x : Int32) : Nat := x.toBitVec.toNat
theorem nt_lt (x : Int32) : nt x < 4294967296 := x.toBitVec.isLt
theorem nt_add (x y : Int32) : nt (x + y) = (nt x + nt y) % 4294967296 := by unfold nt; rw [Int32.toBitVec_add, BitVec.toNat_add]
theorem nt_and (x y : Int32) : nt (x &&& y) = nt x &&& nt y := by unfold nt; rw [Int32.toBitVec_and, BitVec.toNat_and]
theorem nt_sub (x y : Int32) (h : nt y ≤ nt x) : nt (x - y) = nt x - nt y := by
  have := nt_lt x
  have := nt_lt y
  unfold nt at *
  rw [Int32.toBitVec_sub, BitVec.toNat_sub]
  omega
theorem nt_sh (x c : Int32) (k : Nat) (hk : (c.toUInt32 &&& Int32.toUInt32 31).toNat % 32 = k) : nt ((x.toUInt32 >>> (c.toUInt32 &&& Int32.toUInt32 31)).toInt32) = nt x / 2 ^ k := by
  have e : nt ((x.toUInt32 >>> (c.toUInt32 &&& Int32.toUInt32 31)).toInt32) = (x.toUInt32 >>> (c.toUInt32 &&& Int32.toUInt32 31)).toNat := rfl
  rw [e, UInt32.toNat_shiftRight, hk, Nat.shiftRight_eq_div_pow]
  rfl
theorem xb_nt (x : Int32) (j : Nat) : xb x j = (nt x).testBit j := rfl
theorem and_d {a c m q : Nat} (ha : a < 256) (hc : c < 256) : (256 * m + a) &&& (256 * q + c) = 256 * (m &&& q) + (a &&& c) := by
  apply Nat.eq_of_testBit_eq
  intro i
  have h1 : (a &&& c) < 2 ^ 8 := Nat.and_lt_two_pow _ hc
  have t1 := Nat.testBit_two_pow_mul_add m (b := a) (i := 8) ha i
  have t2 := Nat.testBit_two_pow_mul_add q (b := c) (i := 8) hc i
  have t3 := Nat.testBit_two_pow_mul_add (m &&& q) (b := a &&& c) (i := 8) h1 i
  rw [show (2 : Nat) ^ 8 = 256 from rfl] at t1 t2 t3
  rw [Nat.testBit_and, t1, t2, t3]
  by_cases h : i < 8
  · rw [if_pos h, if_pos h, if_pos h, Nat.testBit_and]
  · rw [if_neg h, if_neg h, if_neg h, Nat.testBit_and]
theorem and_4 {a b c d a' b' c' d' : Nat} (ha : a < 256) (hb : b < 256) (hc : c < 256) (ha' : a' < 256) (hb' : b' < 256) (hc' : c' < 256) : (256 * (256 * (256 * d + c) + b) + a) &&& (256 * (256 * (256 * d' + c') + b') + a') = 256 * (256 * (256 * (d &&& d') + (c &&& c')) + (b &&& b')) + (a &&& a') := by
  rw [and_d ha ha', and_d hb hb', and_d hc hc']
def pc8 (a : Nat) : Nat := cn (fun i => a.testBit i) 8
def bq1 (a : Nat) : Nat := a - (a / 2 &&& 85)
def bq2 (a : Nat) : Nat := (a &&& 51) + (a / 4 &&& 51)
theorem bf1 : ∀ a, a < 256 → ∀ e, e < 2 → (a / 2 + 128 * e) &&& 85 = (a / 2 &&& 85) ∧ (a / 2 &&& 85) ≤ a ∧ bq1 a < 256 := by decide +kernel
theorem bf2 : ∀ a, a < 256 → ∀ e, e < 4 → (a / 4 + 64 * e) &&& 51 = (a / 4 &&& 51) ∧ (a &&& 51) < 52 ∧ (a / 4 &&& 51) < 52 := by decide +kernel
theorem bf3 : ∀ a, a < 256 → bq2 (bq1 a) % 16 ≤ 4 ∧ bq2 (bq1 a) / 16 ≤ 4 ∧ (∀ e, e < 5 → (bq2 (bq1 a) + bq2 (bq1 a) / 16 + 16 * e) &&& 15 = pc8 a) ∧ pc8 a ≤ 8 := by decide +kernel
theorem cn_sh {f g : Nat → Bool} {m : Nat} : ∀ n, (∀ i, i < n → f (m + i) = g i) → cn f (m + n) = cn f m + cn g n := by
  intro n
  induction n with
  | zero => intro _; rfl
  | succ n ih =>
    intro h
    show cn f (m + n) + (f (m + n)).toNat = cn f m + (cn g n + (g n).toNat)
    rw [ih (fun i hi => h i (by omega)), h n (by omega)]
    omega
theorem pc_add {m a : Nat} (ha : a < 256) (n : Nat) : cn (fun i => (256 * m + a).testBit i) (8 + n) = pc8 a + cn (fun i => m.testBit i) n := by
  have t := fun i => Nat.testBit_two_pow_mul_add m (b := a) (i := 8) ha i
  rw [show (2 : Nat) ^ 8 = 256 from rfl] at t
  rw [cn_sh (m := 8) (g := fun i => m.testBit i) n (fun i _ => by
    show (256 * m + a).testBit (8 + i) = m.testBit i
    rw [t, if_neg (by omega), show 8 + i - 8 = i by omega])]
  congr 1
  exact cn_cg 8 (fun j hj => by
    show (256 * m + a).testBit j = a.testBit j
    rw [t, if_pos hj])
theorem bitCount_ok (x : Int32) : fj_bitCount x = Int32.ofNat (cn (fun p => xb x p) 32) := by
  have hx := nt_lt x
  obtain ⟨a, b, c, d, ha, hb, hc, hd, e⟩ : ∃ a b c d, a < 256 ∧ b < 256 ∧ c < 256 ∧ d < 256 ∧ nt x = 256 * (256 * (256 * d + c) + b) + a := ⟨nt x % 256, nt x / 256 % 256, nt x / 65536 % 256, nt x / 16777216, by omega, by omega, by omega, by omega, by omega⟩
  have k1 : ((1 : Int32).toUInt32 &&& Int32.toUInt32 31).toNat % 32 = 1 := by decide
  have k2 : ((2 : Int32).toUInt32 &&& Int32.toUInt32 31).toNat % 32 = 2 := by decide
  have k4 : ((4 : Int32).toUInt32 &&& Int32.toUInt32 31).toNat % 32 = 4 := by decide
  have k8 : ((8 : Int32).toUInt32 &&& Int32.toUInt32 31).toNat % 32 = 8 := by decide
  have k16 : ((16 : Int32).toUInt32 &&& Int32.toUInt32 31).toNat % 32 = 16 := by decide
  have c5 : nt (1431655765 : Int32) = 256 * (256 * (256 * 85 + 85) + 85) + 85 := by decide
  have c3 : nt (858993459 : Int32) = 256 * (256 * (256 * 51 + 51) + 51) + 51 := by decide
  have cf : nt (252645135 : Int32) = 256 * (256 * (256 * 15 + 15) + 15) + 15 := by decide
  have c63 : nt (63 : Int32) = 63 := by decide
  unfold fj_bitCount
  -- y
  have hy : ∃ y : Int32, y = x - (((x.toUInt32 >>> ((1 : Int32).toUInt32 &&& Int32.toUInt32 31)).toInt32) &&& (1431655765 : Int32)) ∧ nt y = 256 * (256 * (256 * bq1 d + bq1 c) + bq1 b) + bq1 a := by
    refine ⟨_, rfl, ?_⟩
    have s : nt (((x.toUInt32 >>> ((1 : Int32).toUInt32 &&& Int32.toUInt32 31)).toInt32) &&& (1431655765 : Int32)) = 256 * (256 * (256 * (d / 2 &&& 85) + (c / 2 &&& 85)) + (b / 2 &&& 85)) + (a / 2 &&& 85) := by
      rw [nt_and, nt_sh x 1 1 k1, c5, e]
      have : (256 * (256 * (256 * d + c) + b) + a) / 2 ^ 1 = 256 * (256 * (256 * (d / 2) + (c / 2 + 128 * (d % 2))) + (b / 2 + 128 * (c % 2))) + (a / 2 + 128 * (b % 2)) := by omega
      rw [this, and_4 (by omega) (by omega) (by omega) (by omega) (by omega) (by omega), (bf1 a ha (b % 2) (by omega)).1, (bf1 b hb (c % 2) (by omega)).1, (bf1 c hc (d % 2) (by omega)).1]
    have la := (bf1 a ha 0 (by omega)).2.1
    have lb := (bf1 b hb 0 (by omega)).2.1
    have lc := (bf1 c hc 0 (by omega)).2.1
    have ld := (bf1 d hd 0 (by omega)).2.1
    rw [nt_sub _ _ (by rw [s, e]; omega), s, e]
    unfold bq1
    omega
  obtain ⟨y, ey, ny⟩ := hy
  rw [← ey]
  have ya := (bf1 a ha 0 (by omega)).2.2
  have yb := (bf1 b hb 0 (by omega)).2.2
  have yc := (bf1 c hc 0 (by omega)).2.2
  have yd := (bf1 d hd 0 (by omega)).2.2
  have hz : ∃ v : Int32, v = (y &&& (858993459 : Int32)) + (((y.toUInt32 >>> ((2 : Int32).toUInt32 &&& Int32.toUInt32 31)).toInt32) &&& (858993459 : Int32)) ∧ nt v = 256 * (256 * (256 * bq2 (bq1 d) + bq2 (bq1 c)) + bq2 (bq1 b)) + bq2 (bq1 a) := by
    refine ⟨_, rfl, ?_⟩
    have s1 : nt (y &&& (858993459 : Int32)) = 256 * (256 * (256 * (bq1 d &&& 51) + (bq1 c &&& 51)) + (bq1 b &&& 51)) + (bq1 a &&& 51) := by
      rw [nt_and, c3, ny, and_4 ya yb yc (by omega) (by omega) (by omega)]
    have s2 : nt (((y.toUInt32 >>> ((2 : Int32).toUInt32 &&& Int32.toUInt32 31)).toInt32) &&& (858993459 : Int32)) = 256 * (256 * (256 * (bq1 d / 4 &&& 51) + (bq1 c / 4 &&& 51)) + (bq1 b / 4 &&& 51)) + (bq1 a / 4 &&& 51) := by
      rw [nt_and, nt_sh y 2 2 k2, c3, ny]
      have : (256 * (256 * (256 * bq1 d + bq1 c) + bq1 b) + bq1 a) / 2 ^ 2 = 256 * (256 * (256 * (bq1 d / 4) + (bq1 c / 4 + 64 * (bq1 d % 4))) + (bq1 b / 4 + 64 * (bq1 c % 4))) + (bq1 a / 4 + 64 * (bq1 b % 4)) := by omega
      rw [this, and_4 (by omega) (by omega) (by omega) (by omega) (by omega) (by omega), (bf2 _ ya (bq1 b % 4) (by omega)).1, (bf2 _ yb (bq1 c % 4) (by omega)).1, (bf2 _ yc (bq1 d % 4) (by omega)).1]
    have la := (bf2 _ ya 0 (by omega)).2
    have lb := (bf2 _ yb 0 (by omega)).2
    have lc := (bf2 _ yc 0 (by omega)).2
    have ld := (bf2 _ yd 0 (by omega)).2
    rw [nt_add, s1, s2]
    unfold bq2
    omega
  obtain ⟨v, ev, nv⟩ := hz
  rw [← ev]
  obtain ⟨pa1, pa2, pa3, pa4⟩ := bf3 a ha
  obtain ⟨pb1, pb2, pb3, pb4⟩ := bf3 b hb
  obtain ⟨pc1, pc2, pc3, pc4⟩ := bf3 c hc
  obtain ⟨pd1, pd2, pd3, pd4⟩ := bf3 d hd
  have hw : ∃ w : Int32, w = (v + ((v.toUInt32 >>> ((4 : Int32).toUInt32 &&& Int32.toUInt32 31)).toInt32)) &&& (252645135 : Int32) ∧ nt w = 256 * (256 * (256 * pc8 d + pc8 c) + pc8 b) + pc8 a := by
    refine ⟨_, rfl, ?_⟩
    have s : nt (v + ((v.toUInt32 >>> ((4 : Int32).toUInt32 &&& Int32.toUInt32 31)).toInt32)) = 256 * (256 * (256 * (bq2 (bq1 d) + bq2 (bq1 d) / 16 + 16 * 0) + (bq2 (bq1 c) + bq2 (bq1 c) / 16 + 16 * (bq2 (bq1 d) % 16))) + (bq2 (bq1 b) + bq2 (bq1 b) / 16 + 16 * (bq2 (bq1 c) % 16))) + (bq2 (bq1 a) + bq2 (bq1 a) / 16 + 16 * (bq2 (bq1 b) % 16)) := by
      rw [nt_add, nt_sh v 4 4 k4, nv]
      generalize bq2 (bq1 a) = A at *
      generalize bq2 (bq1 b) = B at *
      generalize bq2 (bq1 c) = C at *
      generalize bq2 (bq1 d) = D at *
      have : (256 * (256 * (256 * D + C) + B) + A) / 2 ^ 4 = 256 * (256 * (256 * (D / 16) + (C / 16 + 16 * (D % 16))) + (B / 16 + 16 * (C % 16))) + (A / 16 + 16 * (B % 16)) := by omega
      rw [this]
      omega
    rw [nt_and, s, cf, and_4 (by omega) (by omega) (by omega) (by omega) (by omega) (by omega), pa3 _ (by omega), pb3 _ (by omega), pc3 _ (by omega), pd3 _ (by omega)]
  obtain ⟨w, ew, nw⟩ := hw
  rw [← ew]
  have hu : ∃ u : Int32, u = w + ((w.toUInt32 >>> ((8 : Int32).toUInt32 &&& Int32.toUInt32 31)).toInt32) ∧ nt u = nt w + nt w / 256 := by
    refine ⟨_, rfl, ?_⟩
    rw [nt_add, nt_sh w 8 8 k8, nw]
    omega
  obtain ⟨u, eu, nu⟩ := hu
  rw [← eu]
  have fin : nt ((u + ((u.toUInt32 >>> ((16 : Int32).toUInt32 &&& Int32.toUInt32 31)).toInt32)) &&& (63 : Int32)) = pc8 a + pc8 b + pc8 c + pc8 d := by
    rw [nt_and, c63, nt_add, nt_sh u 16 16 k16]
    have m63 : ∀ n, n &&& 63 = n % 64 := fun n => Nat.and_two_pow_sub_one_eq_mod n 6
    have q1 : nt w / 256 = 256 * (256 * pc8 d + pc8 c) + pc8 b := by rw [nw]; omega
    have q2 : nt u = 16777216 * pc8 d + 65536 * (pc8 c + pc8 d) + 256 * (pc8 b + pc8 c) + (pc8 a + pc8 b) := by rw [nu, q1, nw]; omega
    have q3 : nt u / 2 ^ 16 = 256 * pc8 d + (pc8 c + pc8 d) := by
      rw [q2]
      clear q1 q2 nu nw nv ny e
      omega
    rw [m63, q3, q2]
    clear q1 q2 q3 nu nw nv ny e
    omega
  have tot : cn (fun p => xb x p) 32 = pc8 a + pc8 b + pc8 c + pc8 d := by
    have e0 : cn (fun p => xb x p) 32 = cn (fun i => (256 * (256 * (256 * d + c) + b) + a).testBit i) (8 + (8 + (8 + 8))) := by
      refine cn_cg 32 (fun j _ => ?_)
      rw [xb_nt, e]
    rw [e0, pc_add ha, pc_add hb, pc_add hc]
    show _ + (_ + (_ + pc8 d)) = _
    omega
  rw [tot]
  apply Int32.toBitVec_inj.mp
  apply BitVec.eq_of_toNat_eq
  refine Eq.trans fin ?_
  show _ = (BitVec.ofNat 32 _).toNat
  rw [BitVec.toNat_ofNat]
  omega
