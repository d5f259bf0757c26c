/-! THE PROGRAM UNDER WAY: what class and reference know of it -/
def sm (f : Nat → Nat) : Nat → Nat
  | 0 => 0
  | n + 1 => sm f n + f n
def pr (s : Nat) : Nat := if s < 4 then 0 else if s = 4 ∨ s = 6 ∨ s = 7 then 2 else 1
def Cl (L : Nat) (op : Nat → Nat) (i : Nat) : Prop := ∀ j, j < L → op j ≠ i
def nF (P : pT) (M : mT) (i : Nat) : Prop :=
  (M.2 0 i = Int32.ofNat (mso M i) ∧ mso M i ≤ 10) ∧ (M.2 5 i = Int32.ofNat (mdp M i) ∧ mdp M i < 24) ∧
  (M.2 6 i = Int32.ofNat (mtr M i) ∧ mtr M i ≤ 5 ∧ (mso M i = 9 → mtr M i < 5) ∧ (mso M i = 3 → M.2 1 i = Int32.ofNat (mxo M i) ∧ mxo M i < mtr M i)) ∧
  ((mso M i = 1 → M.2 8 i = Int32.ofNat (mps M i)) ∧ (mso M i ≠ 1 → M.2 8 i = (-1 : Int32))) ∧
  ((mso M i = 2 ∨ mso M i = 10) → M.2 1 i = Int32.ofNat (mxo M i) ∧ 4 ≤ mxo M i ∧ mxo M i < 16) ∧
  ((mso M i = 4 ∨ mso M i = 5) → -16 ≤ (M.2 1 i).toInt ∧ (M.2 1 i).toInt < 16) ∧
  (mso M i = 0 ∨ 6 ≤ mso M i ∧ mso M i ≤ 9 ∨ mso M i = 1 → mxo M i = 0) ∧
  (P.2 0 i = M.2 0 i ∧ P.2 1 i = M.2 1 i ∧ P.2 3 i = Int32.ofNat (pwt P i) ∧ M.2 7 i = Int32.ofNat (pwt P i) ∧ 1 ≤ pwt P i ∧ pwt P i ≤ 360 ∧ P.2 4 i = Int32.ofNat (pwb P i))
def cF (P : pT) (M : mT) (z a : Nat) : Prop :=
  (M.2 2 a = (-1 : Int32) ∨ (M.2 2 a = Int32.ofNat (a + 1) ∧ a + 1 < z ∧ mdp M (a + 1) = mdp M a + 1 ∧ mtr M (a + 1) = mtr M a + (if mso M a = 9 then 1 else 0) ∧ pwt P (a + 1) = pwt P a + (if mso M a = 8 then 1 else 0))) ∧
  (M.2 3 a = (-1 : Int32) ∨ ∃ s, M.2 3 a = Int32.ofNat s ∧ a + 1 < s ∧ s < z ∧ mdp M s = mdp M a + 1 ∧ mtr M s = mtr M a ∧ pwt P s = pwt P a + (if mso M a = 6 then 1 else 0) ∧ P.2 2 a = Int32.ofNat s) ∧
  (¬ M.2 2 a = (-1 : Int32) → M.2 3 a = (-1 : Int32) → P.2 2 a = Int32.ofNat (a + 1))
def clF (M : mT) (z L : Nat) (op : Nat → Nat) (i : Nat) : Prop :=
  (M.2 4 i = Int32.ofNat (men M i) ∧ i < men M i ∧ men M i ≤ z) ∧ (∀ j, j < L → op j < i ∨ men M i ≤ op j) ∧
  (mso M i < 4 → men M i = i + 1 ∧ M.2 2 i = (-1 : Int32) ∧ M.2 3 i = (-1 : Int32)) ∧
  (m1p (mso M i) → M.2 2 i = Int32.ofNat (i + 1) ∧ M.2 3 i = (-1 : Int32) ∧ i + 1 < men M i ∧ men M (i + 1) = men M i) ∧
  (m2p (mso M i) → M.2 2 i = Int32.ofNat (i + 1) ∧ M.2 3 i = Int32.ofNat (men M (i + 1)) ∧ i + 1 < men M (i + 1) ∧ men M (i + 1) < men M i ∧ men M (men M (i + 1)) = men M i)
def lst (M : mT) (z L : Nat) (op : Nat → Nat) (j c : Nat) : Prop := (j + 1 < L → op (j + 1) = c) ∧ (j + 1 = L → Cl L op c ∧ men M c = z ∧ c < z)
def opF (M : mT) (z L : Nat) (op lf : Nat → Nat) (j : Nat) : Prop :=
  mdp M (op j) = j ∧ mtr M (op j) = cn (fun l => decide (mso M (op l) = 9)) j ∧
  ((lf j = pr (mso M (op j)) ∧ M.2 2 (op j) = (-1 : Int32) ∧ M.2 3 (op j) = (-1 : Int32) ∧ j + 1 = L ∧ z = op j + 1) ∨
   (lf j + 1 = pr (mso M (op j)) ∧ M.2 2 (op j) = Int32.ofNat (op j + 1) ∧ M.2 3 (op j) = (-1 : Int32) ∧ lst M z L op j (op j + 1)) ∨
   (lf j + 2 = pr (mso M (op j)) ∧ M.2 2 (op j) = Int32.ofNat (op j + 1) ∧ M.2 3 (op j) = Int32.ofNat (men M (op j + 1)) ∧ Cl L op (op j + 1) ∧ op j + 1 < men M (op j + 1) ∧ op j + 1 < z ∧ men M (op j + 1) < z ∧ lst M z L op j (men M (op j + 1))))
def bA (P : pT) (M : mT) (z L np W : Nat) : Prop := (M.1 0 = Int32.ofNat z ∧ P.1 1 = Int32.ofNat z ∧ z ≤ 120) ∧ (M.1 4 = Int32.ofNat L ∧ P.1 0 = Int32.ofNat L ∧ L ≤ 24) ∧ (M.1 1 = Int32.ofNat np ∧ P.1 3 = Int32.ofNat np ∧ np ≤ 32) ∧ (M.1 2 = Int32.ofNat W ∧ P.1 5 = Int32.ofNat W ∧ W ≤ 360) ∧ P.1 4 = Int32.ofNat (cn (fun i => decide (mso M i = 8)) z)
def bB (P : pT) (M : mT) (z L : Nat) (op lf : Nat → Nat) : Prop := ∀ j, j < L → M.2 9 j = Int32.ofNat (op j) ∧ P.2 7 j = Int32.ofNat (op j) ∧ op j < z ∧ M.2 10 j = Int32.ofNat (lf j) ∧ P.2 8 j = Int32.ofNat (lf j) ∧ lf j ≤ 2 ∧ (∀ l, l < j → op l < op j)
def bP (P : pT) (M : mT) (z L : Nat) (op : Nat → Nat) (np : Nat) : Prop := (∀ i, i < z → mso M i = 1 → mps M i < np) ∧ (∀ i j, i < z → j < z → mso M i = 1 → mso M j = 1 → mps M i = mps M j → i = j) ∧ ∀ i, i < z → ∀ p, p < 32 → (xb (P.2 5 i) p = true ↔ ∃ k, i ≤ k ∧ k < z ∧ (Cl L op i → k < men M i) ∧ M.2 8 k = Int32.ofNat p)
def bW (P : pT) (z W : Nat) : Prop := (∀ i, i < z → (i + 1 < z → pwb P (i + 1) = pwb P i + pwt P i) ∧ (i + 1 = z → W = pwb P i + pwt P i)) ∧ (z = 0 → W = 0)
def bR (P : pT) (M : mT) (z L : Nat) (op lf : Nat → Nat) : Prop := (0 < z → mtr M 0 = 0 ∧ (0 < L → op 0 = 0) ∧ (L = 0 → men M 0 = z)) ∧ (z = 0 → L = 0) ∧ P.1 2 = Int32.ofNat (if z = 0 then 1 else sm lf L)
def bI (P : pT) (M : mT) (z L : Nat) (op lf : Nat → Nat) (np W : Nat) : Prop := bA P M z L np W ∧ bB P M z L op lf ∧ (∀ i, i < z → nF P M i) ∧ (∀ a, a < z → cF P M z a) ∧ (∀ i, i < z → Cl L op i → clF M z L op i) ∧ (∀ j, j < L → opF M z L op lf j) ∧ bP P M z L op np ∧ bW P z W ∧ bR P M z L op lf
theorem pr_lt {s : Nat} (h : 0 = pr s) : s < 4 := by
  unfold pr at h
  by_cases q : s < 4
  · exact q
  · rw [if_neg q] at h
    by_cases r : s = 4 ∨ s = 6 ∨ s = 7
    · rw [if_pos r] at h; omega
    · rw [if_neg r] at h; omega
section PUT3
variable {P P' : pT} {M M' : mT} {z L np W : Nat} {op lf : Nat → Nat}
theorem nF.cg {i : Nat} (h : nF P M i) (hm : ∀ a, a = 0 ∨ a = 1 ∨ a = 5 ∨ a = 6 ∨ a = 7 ∨ a = 8 → M'.2 a i = M.2 a i) (hp : ∀ a, a = 0 ∨ a = 1 ∨ a = 3 ∨ a = 4 → P'.2 a i = P.2 a i) : nF P' M' i := by
  have a0 := hm 0 (by omega); have a1 := hm 1 (by omega); have a5 := hm 5 (by omega); have a6 := hm 6 (by omega); have a7 := hm 7 (by omega); have a8 := hm 8 (by omega)
  have b0 := hp 0 (by omega); have b1 := hp 1 (by omega); have b3 := hp 3 (by omega); have b4 := hp 4 (by omega)
  unfold nF mso mdp mtr mps mxo pwt pwb at *
  rw [a0, a1, a5, a6, a7, a8, b0, b1, b3, b4]
  exact h
/-- a new statement -/
def nX (s : Nat) (x : Int32) (T : Nat) : Prop := (s = 3 → ∃ e, x = Int32.ofNat e ∧ e < T) ∧ ((s = 2 ∨ s = 10) → ∃ e, x = Int32.ofNat e ∧ 4 ≤ e ∧ e < 16) ∧ ((s = 4 ∨ s = 5) → -16 ≤ x.toInt ∧ x.toInt < 16) ∧ (s = 0 ∨ 6 ≤ s ∧ s ≤ 9 ∨ s = 1 → x = 0)
theorem mxo_of {i e : Nat} (h : M.2 1 i = Int32.ofNat e) (he : e < 2147483648) : mxo M i = e := by
  have : 0 ≤ Int32.ofNat e := (o_le (a := 0) (by omega) he).mpr (by omega)
  unfold mxo
  rw [h, if_pos this, n_of he]
theorem nF.new {i s T h b n0 : Nat} {x : Int32} (hs : s ≤ 10) (hx : nX s x T) (hT : T ≤ 5) (h9 : s = 9 → T < 5) (hL : L < 24) (hh : 1 ≤ h ∧ h ≤ 360) (hb : b ≤ 360) (hn : n0 ≤ 32) (m0 : M.2 0 i = Int32.ofNat s) (m1 : M.2 1 i = x) (m5 : M.2 5 i = Int32.ofNat L) (m6 : M.2 6 i = Int32.ofNat T) (m7 : M.2 7 i = Int32.ofNat h) (m8 : M.2 8 i = if s = 1 then Int32.ofNat n0 else -1) (p0 : P.2 0 i = Int32.ofNat s) (p1 : P.2 1 i = x) (p3 : P.2 3 i = Int32.ofNat h) (p4 : P.2 4 i = Int32.ofNat b) : nF P M i ∧ mso M i = s ∧ mdp M i = L ∧ mtr M i = T ∧ pwt P i = h ∧ pwb P i = b ∧ (s = 1 → mps M i = n0) := by
  have e0 : mso M i = s := by unfold mso; rw [m0, n_of (by omega)]
  have e5 : mdp M i = L := by unfold mdp; rw [m5, n_of (by omega)]
  have e6 : mtr M i = T := by unfold mtr; rw [m6, n_of (by omega)]
  have eh : pwt P i = h := by unfold pwt; rw [p3, n_of (by omega)]
  have eb : pwb P i = b := by unfold pwb; rw [p4, n_of (by omega)]
  have ep : s = 1 → mps M i = n0 := fun q => by unfold mps; rw [m8, if_pos q, n_of (by omega)]
  refine ⟨?_, e0, e5, e6, eh, eb, ep⟩
  unfold nF
  rw [e0, e5, e6, eh, eb]
  refine ⟨⟨m0, hs⟩, ⟨m5, hL⟩, ⟨m6, hT, h9, fun q => ?_⟩, ⟨fun q => ?_, fun q => ?_⟩, fun q => ?_, fun q => ?_, fun q => ?_, ⟨by rw [p0, m0], by rw [p1, m1], p3, m7, hh.1, hh.2, p4⟩⟩
  · obtain ⟨e, x1, x2⟩ := hx.1 q
    have := mxo_of (m1.trans x1) (by omega)
    rw [this]
    exact ⟨m1.trans x1, x2⟩
  · rw [m8, if_pos q, ep q]
  · rw [m8, if_neg q]
  · obtain ⟨e, x1, x2, x3⟩ := hx.2.1 q
    have := mxo_of (m1.trans x1) (by omega)
    rw [this]
    exact ⟨m1.trans x1, x2, x3⟩
  · rw [m1]; exact hx.2.2.1 q
  · exact mxo_of (e := 0) (m1.trans (hx.2.2.2 q)) (by omega)
theorem sm_cg {f g : Nat → Nat} : ∀ n, (∀ j, j < n → f j = g j) → sm f n = sm g n := by
  intro n
  induction n with
  | zero => intro _; rfl
  | succ n ih => intro h; show sm f n + f n = sm g n + g n; rw [ih (fun j hj => h j (by omega)), h n (by omega)]
theorem cn_cg {f g : Nat → Bool} : ∀ n, (∀ j, j < n → f j = g j) → cn f n = cn g n := by
  intro n
  induction n with
  | zero => intro _; rfl
  | succ n ih => intro h; show cn f n + (f n).toNat = cn g n + (g n).toNat; rw [ih (fun j hj => h j (by omega)), h n (by omega)]
/-- leaving the topmost, which lacks nothing -/
theorem bI.pop (h : bI P M z (L + 1) op lf np W) (h0 : lf L = 0) (hp1 : ∀ k, k ≠ 0 → P'.1 k = P.1 k) (hp0 : P'.1 0 = Int32.ofNat L) (hp2 : ∀ a, a ≠ 7 → a ≠ 8 → P'.2 a = P.2 a) (hp7 : ∀ j, j < L → P'.2 7 j = P.2 7 j ∧ P'.2 8 j = P.2 8 j) (hm1 : ∀ k, k ≠ 4 → M'.1 k = M.1 k) (hm4 : M'.1 4 = Int32.ofNat L) (hm : ∀ a j, M'.2 a j = if a = 4 ∧ j = op L then Int32.ofNat z else M.2 a j) : bI P' M' z L op lf np W := by
  obtain ⟨⟨⟨a1, a2, a3⟩, ⟨a4, a5, a6⟩, ⟨a7, a8, a9⟩, ⟨a10, a11, a12⟩, a13⟩, hB, hN, hC, hE, hO, ⟨hP1, hP2, hP3⟩, hW, ⟨hR1, hR2, hR3⟩⟩ := h
  obtain ⟨t1, t2, t3, t4, t5, t6, t7⟩ := hB L (by omega)
  have hmA : ∀ a, a ≠ 4 → M'.2 a = M.2 a := fun a ha => by funext j; rw [hm, if_neg (fun q => ha q.1)]
  have hm4' : ∀ j, j ≠ op L → M'.2 4 j = M.2 4 j := fun j hj => by rw [hm, if_neg (fun q => hj q.2)]
  have e0 : mso M' = mso M := by unfold mso; rw [hmA 0 (by decide)]
  have e5 : mdp M' = mdp M := by unfold mdp; rw [hmA 5 (by decide)]
  have e6 : mtr M' = mtr M := by unfold mtr; rw [hmA 6 (by decide)]
  have e8 : mps M' = mps M := by unfold mps; rw [hmA 8 (by decide)]
  have ew : pwt P' = pwt P := by unfold pwt; rw [hp2 3 (by decide) (by decide)]
  have eb : pwb P' = pwb P := by unfold pwb; rw [hp2 4 (by decide) (by decide)]
  have en : ∀ j, j ≠ op L → men M' j = men M j := fun j hj => by unfold men; rw [hm4' j hj]
  have et : men M' (op L) = z := by unfold men; rw [hm, if_pos ⟨rfl, rfl⟩, n_of (by omega)]
  have hcl : ∀ i, Cl L op i → i ≠ op L → Cl (L + 1) op i := fun i hi hne j hj => by
    by_cases q : j = L
    · rw [q]; exact fun e => hne e.symm
    · exact hi j (by omega)
  have nin : ∀ i, i < z → Cl (L + 1) op i → ∀ k, i ≤ k → k < men M i → k ≠ op L := fun i hi hc k k1 k2 e => by
    have := (hE i hi hc).2.1 L (by omega)
    omega
  refine ⟨⟨⟨by rw [hm1 0 (by decide)]; exact a1, by rw [hp1 1 (by decide)]; exact a2, a3⟩, ⟨hm4, hp0, by omega⟩, ⟨by rw [hm1 1 (by decide)]; exact a7, by rw [hp1 3 (by decide)]; exact a8, a9⟩, ⟨by rw [hm1 2 (by decide)]; exact a10, by rw [hp1 5 (by decide)]; exact a11, a12⟩, by rw [hp1 4 (by decide), e0]; exact a13⟩, fun j hj => ?_, fun i hi => ?_, fun a ha => ?_, fun i hi hc => ?_, fun j hj => ?_, ⟨?_, ?_, fun i hi p hp => ?_⟩, ?_, ⟨fun q => ⟨?_, fun q2 => ?_, fun q2 => ?_⟩, fun q => ?_, ?_⟩⟩
  · obtain ⟨b1, b2, b3, b4, b5, b6, b7⟩ := hB j (by omega)
    rw [hmA 9 (by decide), hmA 10 (by decide), (hp7 j hj).1, (hp7 j hj).2]
    exact ⟨b1, b2, b3, b4, b5, b6, b7⟩
  · exact (hN i hi).cg (fun a ha => by rw [hmA a (by omega)]) (fun a ha => by rw [hp2 a (by omega) (by omega)])
  · have c := hC a ha
    unfold cF at c ⊢
    rw [e0, e5, e6, ew, hmA 2 (by decide), hmA 3 (by decide), hp2 2 (by decide) (by decide)]
    exact c
  · by_cases q : i = op L
    · subst q
      unfold clF
      rw [et, e0, hmA 2 (by decide), hmA 3 (by decide)]
      refine ⟨⟨by rw [hm, if_pos ⟨rfl, rfl⟩], t3, Nat.le_refl _⟩, fun j hj => Or.inl (t7 j hj), ?_⟩
      obtain ⟨-, -, o⟩ := hO L (by omega)
      rw [h0] at o
      have hs := (hN _ t3).1.2
      rcases o with ⟨o1, o2, o3, o4, o5⟩ | ⟨o1, o2, o3, o4⟩ | ⟨o1, o2, o3, o4, o5, o6, o7, o8⟩
      · have l4 := pr_lt o1
        refine ⟨fun _ => ⟨o5, o2, o3⟩, fun k => ?_, fun k => ?_⟩
        · unfold m1p at k; omega
        · unfold m2p at k; omega
      · obtain ⟨v1, v2, v3⟩ := o4.2 rfl
        have ne : op L + 1 ≠ op L := by omega
        refine ⟨fun k => ?_, fun k => ⟨o2, o3, by omega, by rw [en _ ne]; exact v2⟩, fun k => ?_⟩
        · unfold pr at o1; rw [if_pos k] at o1; omega
        · unfold pr at o1; unfold m2p at k; rw [if_neg (by omega), if_pos k] at o1; omega
      · obtain ⟨v1, v2, v3⟩ := o8.2 rfl
        have ne : op L + 1 ≠ op L := by omega
        have ne2 : men M (op L + 1) ≠ op L := by omega
        refine ⟨fun k => ?_, fun k => ?_, fun k => ⟨o2, by rw [en _ ne]; exact o3, by rw [en _ ne]; exact o5, by rw [en _ ne]; exact o7, by rw [en _ ne, en _ ne2]; exact v2⟩⟩
        · unfold pr at o1; rw [if_pos k] at o1; omega
        · unfold pr at o1; unfold m1p at k; rw [if_neg (by omega), if_neg (by omega)] at o1; omega
    · have hc' := hcl i hc q
      have old := hE i hi hc'
      have ni := nin i hi hc'
      obtain ⟨⟨f1, f2, f3⟩, f4, f5, f6, f7⟩ := old
      unfold clF
      rw [en i q, e0, hmA 2 (by decide), hmA 3 (by decide), hm4' i q]
      refine ⟨⟨f1, f2, f3⟩, fun j hj => f4 j (by omega), f5, fun k => ?_, fun k => ?_⟩
      · have := f6 k
        rw [en _ (ni (i + 1) (by omega) this.2.2.1)]
        exact this
      · have := f7 k
        have n1 := ni (i + 1) (by omega) (by omega)
        rw [en _ n1, en _ (ni (men M (i + 1)) (by omega) (by omega))]
        exact this
  · obtain ⟨d1, d2, o⟩ := hO j (by omega)
    obtain ⟨b1, b2, b3, b4, b5, b6, b7⟩ := hB j (by omega)
    have ol := t7 j hj
    unfold opF
    rw [e0, e5, e6, hmA 2 (by decide), hmA 3 (by decide)]
    refine ⟨d1, d2, ?_⟩
    rcases o with ⟨o1, o2, o3, o4, o5⟩ | ⟨o1, o2, o3, o4⟩ | ⟨o1, o2, o3, o4, o5, o6, o7, o8⟩
    · omega
    · refine Or.inr (Or.inl ⟨o1, o2, o3, fun q => o4.1 (by omega), fun q => ?_⟩)
      have c := o4.1 (by omega)
      rw [q] at c
      rw [← c, et]
      exact ⟨fun l hl => by have := t7 l hl; omega, rfl, t3⟩
    · have ne : op j + 1 ≠ op L := fun e => o4 L (by omega) e.symm
      rw [en _ ne]
      refine Or.inr (Or.inr ⟨o1, o2, o3, fun l hl => o4 l (by omega), o5, o6, o7, fun q => o8.1 (by omega), fun q => ?_⟩)
      have c := o8.1 (by omega)
      rw [q] at c
      rw [← c, et]
      exact ⟨fun l hl => by have := t7 l hl; omega, rfl, t3⟩
  · rw [e0, e8]; exact hP1
  · rw [e0, e8]; exact hP2
  · rw [hp2 5 (by decide) (by decide), hP3 i hi p hp, hmA 8 (by decide)]
    constructor
    · rintro ⟨k, k1, k2, k3, k4⟩
      refine ⟨k, k1, k2, fun hc => ?_, k4⟩
      by_cases q : i = op L
      · rw [q, et]; exact k2
      · rw [en i q]; exact k3 (hcl i hc q)
    · rintro ⟨k, k1, k2, k3, k4⟩
      refine ⟨k, k1, k2, fun hc => ?_, k4⟩
      have q : i ≠ op L := fun e => hc L (by omega) e.symm
      have := k3 (fun j hj => hc j (by omega))
      rw [en i q] at this
      exact this
  · unfold bW at hW ⊢; rw [ew, eb]; exact hW
  · rw [e6]; exact (hR1 q).1
  · exact (hR1 q).2.1 (by omega)
  · have c := (hR1 q).2.1 (by omega)
    rw [q2, c] at et
    exact et
  · have := hR2 q; omega
  · rw [hp1 2 (by decide), hR3]
    congr 1
    split
    · rfl
    · show sm lf L + lf L = sm lf L
      omega
end PUT3
