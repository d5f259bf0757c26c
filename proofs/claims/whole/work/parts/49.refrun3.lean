section REFM
variable {M : mT} {Y : yT} {z lim : Nat} {K : Nat → Nat}
theorem vR.cg {m0 m1 c0 c1 N N1 : Nat → Bool} {V : vT} (h : vR lim m0 c0 N V) (hm : ∀ k, m1 k = m0 k) (hc : ∀ k, c1 k = c0 k) (hN : ∀ k, N1 k = N k) : vR lim m1 c1 N1 V := by
  rw [show m1 = m0 from funext hm, show c1 = c0 from funext hc, show N1 = N from funext hN]
  exact h
theorem SR.pure {E : vT → Prop} {A : vT → Int32 × vT} {o : gO} (hA : ∀ V, E V → A V = (fm_outcome (cE (occ o)) (mN (omc o)), V)) (hm : ∀ k, omf o k = false) (hc : ∀ k, ocf o k = false) : SR lim K E A (gPu o) := by
  intro V S m0 c0 hE hK hv
  rw [hA V hE]
  exact ⟨rfl, rfl, fun _ _ => rfl, hv.cg (fun k => by show (m0 k || omf o k) = _; rw [hm]; simp) (fun k => by show (c0 k || ocf o k) = _; rw [hc]; simp) (fun _ => rfl), fun _ h => h⟩
theorem SR.two {E : vT → Prop} {A A' : vT → Int32 × vT} {B B' : gM} {f : Int32 → Int32 → Int32} {h : gO → gO → gO} (hA : SR lim K E A B) (hA' : SR lim K E A' B') (hE : ∀ V V' : vT, E V → V'.1 0 = V.1 0 → (∀ s, s < 16 → V'.2 3 s = V.2 3 s) → E V') (hk : ∀ S, sK (B S).2 = sK S) (ho : ∀ S x y, oR x (B S).1 → oR y (B' (B S).2).1 → oR (f x y) (h (B S).1 (B' (B S).2).1)) (hf : ∀ p q k, ocf (h p q) k = (ocf p k || ocf q k) ∧ omf (h p q) k = (omf p k || omf q k)) : SR lim K E (fun V => (f (A V).1 (A' (A V).2).1, (A' (A V).2).2)) (fun S => (h (B S).1 (B' (B S).2).1, (B' (B S).2).2)) := by
  intro V S m0 c0 hV hS hv
  obtain ⟨a1, a2, a3, a4, a5⟩ := hA V S m0 c0 hV hS hv
  obtain ⟨b1, b2, b3, b4, b5⟩ := hA' (A V).2 (B S).2 _ _ (hE V _ hV a2 a3) ((hk S).trans hS) a4
  refine ⟨ho S _ _ a1 b1, b2.trans a2, fun s hs => (b3 s hs).trans (a3 s hs), b4.cg (fun k => ?_) (fun k => ?_) (fun _ => rfl), fun q1 q2 => b5 q1 (a5 q1 q2)⟩
  · show (m0 k || omf (h _ _) k) = _
    rw [(hf _ _ k).2, Bool.or_assoc]
  · show (c0 k || ocf (h _ _) k) = _
    rw [(hf _ _ k).1, Bool.or_assoc]
theorem eV_keep {me : Nat → Nat} {st : Bool} {w : Nat} (V V' : vT) (h : eV me st w V) (h1 : V'.1 0 = V.1 0) (h2 : ∀ s, s < 16 → V'.2 3 s = V.2 3 s) : eV me st w V' := ⟨fun s hs => (h2 s hs).trans (h.1 s hs), fun e => h1.trans (h.2 e)⟩
theorem test_eq (hF : mF M z) (hK : ∀ k, k < 16 + 27 * z → Y.2 2 k = Int32.ofNat (K k) ∧ K k ≤ 2) {i : Nat} (hi : i < z) (h45 : mso M i = 4 ∨ mso M i = 5) {me : Nat → Nat} {st : Bool} {w : Nat} (hme : ∀ s, me s < 16 + 27 * i) {V : vT} (hV : eV me st w V) : fm_test Y V (M.2 1 i) = Int32.ofNat (tst K (me (mxo M i)) (mng M i)) := by
  have hz := hF.1
  have hx := mxo_lt hF hi
  have hm := hme (mxo M i)
  have hk := hK (me (mxo M i)) (by omega)
  have e1 : V.2 3 (mxo M i) = Int32.ofNat (me (mxo M i)) := hV.1 _ hx
  have e2 := n_of (show me (mxo M i) < 2147483648 by omega)
  unfold fm_test tst
  by_cases h0 : 0 ≤ M.2 1 i
  · have ex : (M.2 1 i).toNatClampNeg = mxo M i := (if_pos h0 : mxo M i = _).symm
    have en : mng M i = false := by simp [mng, h0]
    have hn : ¬ M.2 1 i < 0 := by
      rw [Int32.lt_iff_toInt_lt]
      rw [Int32.le_iff_toInt_le] at h0
      omega
    rw [if_pos h0, ex, e1, e2, hk.1, if_neg hn, en]
    by_cases c : K (me (mxo M i)) = 2
    · rw [if_pos (by rw [c]; rfl), if_pos c, c]
    · have c2 : ¬ Int32.ofNat (K (me (mxo M i))) = (2 : Int32) := fun q => c (o_inj (b := 2) (by omega) (by decide) q)
      rw [if_neg c2, if_neg c, if_neg (by decide)]
  · have ex : ((-1 : Int32) - M.2 1 i).toNatClampNeg = mxo M i := (if_neg h0 : mxo M i = _).symm
    have en : mng M i = true := by simp [mng, h0]
    have hn : M.2 1 i < 0 := by
      rw [Int32.lt_iff_toInt_lt]
      rw [Int32.le_iff_toInt_le] at h0
      omega
    rw [if_neg h0, ex, e1, e2, hk.1, if_pos hn, en]
    by_cases c : K (me (mxo M i)) = 2
    · rw [if_pos (by rw [c]; rfl), if_pos c, c]
    · have c2 : ¬ Int32.ofNat (K (me (mxo M i))) = (2 : Int32) := fun q => c (o_inj (b := 2) (by omega) (by decide) q)
      rw [if_neg c2, if_neg c, if_pos rfl]
      have : K (me (mxo M i)) = 0 ∨ K (me (mxo M i)) = 1 := by omega
      rcases this with q | q <;> rw [q] <;> rfl
theorem tst_lt {k : Nat} {ng : Bool} (h : K k ≤ 2) : tst K k ng ≤ 2 := by
  unfold tst
  split
  · omega
  · split <;> omega
/-- 'behind', in a plainer form -/
theorem behind_eq (R : kmT) (M : mT) (V : vT) (i be th st su : Int32) : fm_behind R M V i be th st su = if (fm_canOf be &&& (1 : Int32)) = 0 then (be, V) else
    (fm_outcome ((fm_canOf be &&& (-2 : Int32)) ||| fm_canOf (R (if st = 0 then v1w V 0 ((1 : Int32) + (M.2 5) i.toNatClampNeg) else v1w V 0 (V.1 0)) th 1 (if su = 0 then 0 else if fm_mustOf be = 0 then 1 else 0)).1) (if fm_mustOf be = 0 then fm_mustOf (R (if st = 0 then v1w V 0 ((1 : Int32) + (M.2 5) i.toNatClampNeg) else v1w V 0 (V.1 0)) th 1 (if su = 0 then 0 else if fm_mustOf be = 0 then 1 else 0)).1 else fm_mustOf be),
     v1w (R (if st = 0 then v1w V 0 ((1 : Int32) + (M.2 5) i.toNatClampNeg) else v1w V 0 (V.1 0)) th 1 (if su = 0 then 0 else if fm_mustOf be = 0 then 1 else 0)).2 0 (V.1 0)) := by
  unfold fm_behind fm_behM fm_behW
  by_cases h : (fm_canOf be &&& (1 : Int32)) = 0
  · rw [if_pos h, if_pos h]
  · rw [if_neg h, if_neg h]
    by_cases s : su = 0
    · rw [if_pos s]
      by_cases m : fm_mustOf be = 0 <;> simp [m, s]
    · rw [if_neg s]
      by_cases m : fm_mustOf be = 0 <;> simp [m, s]
theorem SR.behind {me : Nat → Nat} {st : Bool} {w w2 : Nat} {b : Bool} {R : kmT} {A : vT → Int32 × vT} {B : gM} {B' : Bool → gM} {i th : Int32} (hA : SR lim K (eV me st w) A B) (hR : ∀ d, SR lim K (eV me true w2) (fun V => R V th 1 (b2i d)) (B' d)) (ok : ∀ S, oOk b (B S).1) (okB : ∀ d S, oOk d (B' d S).1) (hk : ∀ S, sK (B S).2 = sK S) (hw : st = true → w2 = w) (hd : st = false → (1 : Int32) + M.2 5 i.toNatClampNeg = Int32.ofNat w2) : SR lim K (eV me st w) (fun V => fm_behind R M (A V).2 i (A V).1 th (b2i st) (b2i b)) (gAnd B B') := by
  intro V S m0 c0 hV hS hv
  obtain ⟨a1, a2, a3, a4, a5⟩ := hA V S m0 c0 hV hS hv
  show oR (fm_behind R M (A V).2 i (A V).1 th (b2i st) (b2i b)).1 _ ∧ _
  have hc : (fm_canOf (A V).1 &&& (1 : Int32)) = 0 ↔ occ (B S).1 0 = false := by rw [a1.can]; exact cE_bit0 _
  have hm : fm_mustOf (A V).1 = 0 ↔ omc (B S).1 0 = true := by rw [a1.must]; exact mN_z
  by_cases h0 : occ (B S).1 0 = true
  · have e : gAnd B B' S = (oU (oZ (B S).1) (B' (omc (B S).1 0) (B S).2).1, (B' (omc (B S).1 0) (B S).2).2) := if_pos h0
    have eb : fm_behind R M (A V).2 i (A V).1 th (b2i st) (b2i b) = _ := (behind_eq R M (A V).2 i (A V).1 th (b2i st) (b2i b)).trans (if_neg (fun q => by rw [hc.mp q] at h0; cases h0))
    have esu : (if b2i b = 0 then (0 : Int32) else if fm_mustOf (A V).1 = 0 then 1 else 0) = b2i (omc (B S).1 0) := by
      cases m : omc (B S).1 0 with
      | true =>
        have := ok_b (ok S) m
        subst this
        rw [if_neg (by decide), if_pos (hm.mpr m)]; rfl
      | false =>
        have m' : ¬ fm_mustOf (A V).1 = 0 := fun q => by rw [hm.mp q] at m; cases m
        simp only [if_neg m']
        split <;> rfl
    rw [esu] at eb
    have em : ∀ x y : Int32, (if fm_mustOf (A V).1 = 0 then x else y) = if omc (B S).1 0 = true then x else y := fun x y => by
      by_cases m : omc (B S).1 0 = true
      · rw [if_pos m, if_pos (hm.mpr m)]
      · rw [if_neg m, if_neg (fun q => m (hm.mp q))]
    rw [em] at eb
    generalize hV2 : (if b2i st = 0 then v1w (A V).2 0 ((1 : Int32) + (M.2 5) i.toNatClampNeg) else v1w (A V).2 0 ((A V).2.1 0)) = V2 at eb
    have v2 : V2.2 = (A V).2.2 := by
      rw [← hV2]; split <;> rfl
    have v21 : V2.1 1 = (A V).2.1 1 := by
      rw [← hV2]; split <;> simp [v1w_at]
    have hV3 : eV me true w2 V2 := by
      refine ⟨fun s hs => ?_, fun _ => ?_⟩
      · rw [v2]; exact (a3 s hs).trans (hV.1 s hs)
      · rw [← hV2]
        cases st with
        | true => rw [if_neg (by decide)]; simp only [v1w_at, if_true]; rw [a2, hV.2 rfl, hw rfl]
        | false => rw [if_pos (by decide)]; simp only [v1w_at, if_true]; exact hd rfl
    obtain ⟨b1, b2, b3, b4, b5⟩ := hR (omc (B S).1 0) V2 (B S).2 _ _ hV3 ((hk S).trans hS) ⟨fun k hk => by rw [v2]; exact a4.1 k hk, fun k hk => by rw [v2]; exact a4.2.1 k hk, fun p hp => by rw [v2]; exact a4.2.2 p hp⟩
    rw [e]
    dsimp only
    rw [eb]
    refine ⟨oR_and (ok S) (okB _ _) a1 b1 h0, ?_, ?_, ?_, ?_⟩
    · show (v1w _ 0 _).1 0 = _
      simp only [v1w_at, if_true]
      exact a2
    · intro s hs
      show (v1w _ 0 _).2 3 s = _
      rw [v1w_2, b3 s hs, v2]
      exact a3 s hs
    · refine ⟨fun k hk => ?_, fun k hk => ?_, fun p hp => ?_⟩
      · show (v1w _ 0 _).2 1 k = _
        rw [v1w_2, b4.1 k hk]
        dsimp only
        rw [(oZU_fl _ _ k).2, Bool.or_assoc]
      · show (v1w _ 0 _).2 2 k = _
        rw [v1w_2, b4.2.1 k hk]
        dsimp only
        rw [(oZU_fl _ _ k).1, Bool.or_assoc]
      · show (v1w _ 0 _).2 0 p = _
        rw [v1w_2, b4.2.2 p hp]
    · intro q1 q2
      show (v1w _ 0 _).1 1 = 0
      rw [v1w_at, if_neg (by decide)]
      exact b5 q1 (by rw [v21]; exact a5 q1 q2)
  · have e : gAnd B B' S = B S := if_neg h0
    have eb : fm_behind R M (A V).2 i (A V).1 th (b2i st) (b2i b) = ((A V).1, (A V).2) := (behind_eq R M (A V).2 i (A V).1 th (b2i st) (b2i b)).trans (if_pos (hc.mpr (by simpa using h0)))
    rw [e]
    dsimp only
    rw [eb]
    exact ⟨a1, a2, a3, a4, a5⟩
theorem SR.sub {E E' : vT → Prop} {A : vT → Int32 × vT} {B : gM} (h : SR lim K E A B) (hE : ∀ V, E' V → E V) : SR lim K E' A B := fun V S m0 c0 hV => h V S m0 c0 (hE V hV)
end REFM
