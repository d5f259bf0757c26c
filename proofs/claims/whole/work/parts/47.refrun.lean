/-! THE REFERENCE'S RUN is the abstract one without learning -/
theorem v2w_at (V : vT) (a j : Nat) (v : Int32) (p : Nat) : (v2w V a j v).2 a p = if p = j then v else V.2 a p := by
  simp [v2w, va_up, upd]
theorem v2w_ne (V : vT) {a c : Nat} (j : Nat) (v : Int32) (h : c ≠ a) : (v2w V a j v).2 c = V.2 c := by
  simp [v2w, va_up, h]
theorem v2w_1 (V : vT) (a j : Nat) (v : Int32) : (v2w V a j v).1 = V.1 := rfl
theorem v1w_2 (V : vT) (a : Nat) (v : Int32) : (v1w V a v).2 = V.2 := rfl
theorem v1w_at (V : vT) (a c : Nat) (v : Int32) : (v1w V a v).1 c = if c = a then v else V.1 c := by
  simp [v1w, va_up]
def vR (lim : Nat) (m0 c0 N : Nat → Bool) (V : vT) : Prop := (∀ k, k < lim → V.2 1 k = b2i (m0 k)) ∧ (∀ k, k < lim → V.2 2 k = b2i (c0 k)) ∧ (∀ p, p < 32 → V.2 0 p = b2i (N p))
def oR (x : Int32) (o : gO) : Prop := x = fm_outcome (cE (occ o)) (mN (omc o))
def eV (me : Nat → Nat) (st : Bool) (w : Nat) (V : vT) : Prop := (∀ s, s < 16 → V.2 3 s = Int32.ofNat (me s)) ∧ (st = true → V.1 0 = Int32.ofNat w)
def SR (lim : Nat) (K : Nat → Nat) (env : vT → Prop) (A : vT → Int32 × vT) (B : gM) : Prop := ∀ (V : vT) (S : gS) (m0 c0 : Nat → Bool), env V → sK S = K → vR lim m0 c0 (sN S) V →
  oR (A V).1 (B S).1 ∧ (A V).2.1 0 = V.1 0 ∧ (∀ s, s < 16 → (A V).2.2 3 s = V.2 3 s) ∧ vR lim (fun k => m0 k || omf (B S).1 k) (fun k => c0 k || ocf (B S).1 k) (sN (B S).2) (A V).2 ∧ ((∀ k, 16 ≤ k → k < lim → K k ≠ 2) → V.1 1 = 0 → (A V).2.1 1 = 0)
theorem oR.can {x : Int32} {o : gO} (h : oR x o) : fm_canOf x = cE (occ o) := by
  unfold oR at h
  rw [h]
  exact (out_ok _ _).1
theorem oR.must {x : Int32} {o : gO} (h : oR x o) : fm_mustOf x = mN (omc o) := by
  unfold oR at h
  rw [h]
  exact (out_ok _ _).2
theorem mN_z {A : Nat → Bool} : mN A = 0 ↔ A 0 = true := by
  unfold mN
  cases A 0 <;> cases A 1 <;> cases A 2 <;> cases A 3 <;> cases A 4 <;> cases A 5 <;> cases A 6 <;> simp
theorem oR_S {c : Nat} (hc : c < 7) (b : Bool) : fm_outcome ((1 : Int32) <<< (Int32.ofNat c &&& 31)) (if b then Int32.ofNat c else -1) = fm_outcome (cE (occ (oS c b))) (mN (omc (oS c b))) := by
  rw [cE_one c hc]
  cases b with
  | true => rw [mN_of (A := omc (oS c true)) (c := c) (by simp [omc, oS]) (fun d hd => (oS_m hd).2) hc]; rfl
  | false => rw [mN_none (A := omc (oS c false)) (fun c => by simp [omc, oS])]; rfl
theorem mN_cg {A B : Nat → Bool} (h : ∀ c, A c = B c) : mN A = mN B := by rw [show A = B from funext h]
/-- what is behind a statement that may end with 0 -/
theorem oR_and {b : Bool} {x y : Int32} {p q : gO} (hp : oOk b p) (hq : oOk (omc p 0) q) (hx : oR x p) (hy : oR y q) (h0 : occ p 0 = true) : oR (fm_outcome ((fm_canOf x &&& (-2 : Int32)) ||| fm_canOf y) (if omc p 0 then fm_mustOf y else fm_mustOf x)) (oU (oZ p) q) := by
  unfold oR
  rw [hx.can, hy.can, hx.must, hy.must, cE_Z, cE_or]
  congr 1
  cases m : omc p 0 with
  | true =>
    rw [if_pos rfl]
    apply mN_cg
    intro c
    show omc q c = ((decide (c ≠ 0) && omc p c) || omc q c)
    cases e : omc p c with
    | false => simp
    | true => rw [ok_u hp e m]; simp
  | false =>
    rw [if_neg (by decide)]
    apply mN_cg
    intro c
    show omc p c = ((decide (c ≠ 0) && omc p c) || omc q c)
    rw [m] at hq
    rw [(hq.2.2.1 rfl).1 c]
    by_cases e : c = 0
    · subst e; rw [m]; simp
    · simp [e]
theorem oR_U {x y : Int32} {p q : gO} (hp : oOk false p) (hq : oOk false q) (hx : oR x p) (hy : fm_canOf y = cE (occ q)) : oR (fm_outcome (fm_canOf x ||| fm_canOf y) (-1)) (oU p q) := by
  unfold oR
  rw [hx.can, hy, cE_or]
  congr 1
  refine (mN_none (fun c => ?_)).symm
  show (omc p c || omc q c) = false
  rw [(hp.2.2.1 rfl).1 c, (hq.2.2.1 rfl).1 c]
  rfl
theorem mN_m1 {b : Bool} {o : gO} (h : oOk b o) (hb : ∀ c, occ o c = true → c < 7) : mN (omc o) = -1 ↔ ∀ c, omc o c = false := by
  constructor
  · intro e c
    cases q : omc o c with
    | false => rfl
    | true =>
      exfalso
      rw [mN_of q (fun d hd => ok_u h hd q) (hb c (h.1 c q))] at e
      exact o_m1 (by have := hb c (h.1 c q); omega) e
  · exact mN_none
theorem mN_some {b : Bool} {o : gO} (h : oOk b o) (hb : ∀ c, occ o c = true → c < 7) {c : Nat} (q : omc o c = true) : mN (omc o) = Int32.ofNat c := mN_of q (fun d hd => ok_u h hd q) (hb c (h.1 c q))
theorem or_none {b : Bool} {o : gO} (h : ¬ ∀ c, omc o c = false) : ∃ c, omc o c = true := by
  false_or_by_contra
  next hn => exact h (fun c => by
    cases e : omc o c with
    | false => rfl
    | true => exact absurd ⟨c, e⟩ hn)
theorem oR_par {b : Bool} {x y : Int32} {p q : gO} (hp : oOk b p) (hq : oOk b q) (cp : ∀ c, occ p c = true → c < 7) (cq : ∀ c, occ q c = true → c < 7) (hx : oR x p) (hy : oR y q) :
    oR (fm_outcome (fm_pairs (fm_canOf x) (fm_canOf y)) (if fm_mustOf x = (-1 : Int32) then -1 else if fm_mustOf y = (-1 : Int32) then -1 else if fm_mustOf x ≤ fm_mustOf y then fm_mustOf y else fm_mustOf x)) (oP p q) := by
  unfold oR
  rw [hx.can, hy.can, hx.must, hy.must, cE_pairs cp]
  congr 1
  by_cases h1 : ∀ c, omc p c = false
  · rw [if_pos ((mN_m1 hp cp).mpr h1)]
    refine (mN_none (fun c => ?_)).symm
    cases e : omc (oP p q) c with
    | false => rfl
    | true =>
      obtain ⟨a, d, ha, -⟩ := mxs_iff.mp (show mxs (omc p) (omc q) c = true from e)
      rw [h1 a] at ha; cases ha
  · obtain ⟨a, ha⟩ := or_none (b := b) h1
    rw [mN_some hp cp ha, if_neg (o_m1 (by have := cp a (hp.1 a ha); omega))]
    by_cases h2 : ∀ c, omc q c = false
    · rw [if_pos ((mN_m1 hq cq).mpr h2)]
      refine (mN_none (fun c => ?_)).symm
      cases e : omc (oP p q) c with
      | false => rfl
      | true =>
        obtain ⟨a, d, -, hd, -⟩ := mxs_iff.mp (show mxs (omc p) (omc q) c = true from e)
        rw [h2 d] at hd; cases hd
    · obtain ⟨d, hd⟩ := or_none (b := b) h2
      have la := cp a (hp.1 a ha)
      have ld := cq d (hq.1 d hd)
      rw [mN_some hq cq hd, if_neg (o_m1 (by omega))]
      have e : mN (omc (oP p q)) = Int32.ofNat (max a d) := mN_of (A := omc (oP p q)) (mxs_iff.mpr ⟨a, d, ha, hd, rfl⟩) (fun c hc => by
        obtain ⟨a', d', ha', hd', e⟩ := mxs_iff.mp (show mxs (omc p) (omc q) c = true from hc)
        rw [ok_u hp ha' ha, ok_u hq hd' hd] at e
        exact e) (by omega)
      rw [e]
      by_cases h : a ≤ d
      · rw [if_pos ((o_le (by omega) (by omega)).mpr h), show max a d = d by omega]
      · rw [if_neg (fun q => h ((o_le (by omega) (by omega)).mp q)), show max a d = a by omega]
theorem oR_trap {b : Bool} {x : Int32} {p : gO} (hp : oOk b p) (cp : ∀ c, occ p c = true → c < 7) (hx : oR x p) : oR (fm_outcome (fm_caught (fm_canOf x)) (if fm_mustOf x = (2 : Int32) then 0 else if fm_mustOf x ≤ (2 : Int32) then fm_mustOf x else fm_mustOf x - 1)) (oTr p) := by
  unfold oR
  have h7 : occ p 7 = false := by
    cases e : occ p 7 with
    | false => rfl
    | true => have := cp 7 e; omega
  rw [hx.can, hx.must, (cE_tps h7).1]
  congr 1
  by_cases h1 : ∀ c, omc p c = false
  · rw [mN_none h1]
    refine (if_neg (by decide)).trans ((if_pos (by decide)).trans (mN_none (fun c => ?_)).symm)
    show tps (omc p) c = false
    unfold tps
    simp [h1]
  · obtain ⟨a, ha⟩ := or_none (b := b) h1
    have la := cp a (hp.1 a ha)
    rw [mN_some hp cp ha]
    have e : mN (omc (oTr p)) = Int32.ofNat (if a = 2 then 0 else if a < 2 then a else a - 1) := mN_of (A := omc (oTr p)) (by
      show tps (omc p) _ = true
      unfold tps
      match a, la, ha with
      | 0, _, ha => simp [ha]
      | 1, _, ha => simp [ha]
      | 2, _, ha => simp [ha]
      | 3, _, ha => simp [ha]
      | 4, _, ha => simp [ha]
      | 5, _, ha => simp [ha]
      | 6, _, ha => simp [ha]) (fun c hc => by
      have hc' : tps (omc p) c = true := hc
      unfold tps at hc'
      split at hc'
      · simp only [Bool.or_eq_true] at hc'
        rcases hc' with q | q
        · have := ok_u hp q ha; subst this; rw [if_neg (by omega), if_pos (by omega)]; omega
        · have := ok_u hp q ha; subst this; rw [if_pos rfl]; omega
      · split at hc'
        · have := ok_u hp hc' ha; subst this; rw [if_neg (by omega), if_pos (by omega)]; omega
        · have := ok_u hp hc' ha; rw [if_neg (by omega), if_neg (by omega)]; omega) (by split <;> (try split) <;> omega)
    rw [e]
    match a, la with
    | 0, _ => rfl
    | 1, _ => rfl
    | 2, _ => rfl
    | 3, _ => rfl
    | 4, _ => rfl
    | 5, _ => rfl
    | 6, _ => rfl
