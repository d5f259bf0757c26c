/-! THE REFERENCE'S REACTION comes to a settled assignment -/
def lm (z : Nat) : Nat := 16 + 27 * z
section REACT
variable {M : mT} {z : Nat}
theorem lm_eq (hm : M.1 0 = Int32.ofNat z) : (16 : Int32) + (27 : Int32) * M.1 0 = Int32.ofNat (lm z) := by
  rw [hm]
  show Int32.ofNat 16 + Int32.ofNat 27 * Int32.ofNat z = _
  rw [← Int32.ofNat_mul, ← Int32.ofNat_add]; rfl
theorem nar0 : vp_nar .boolean (0 : Int32) = 0 := b2i_nar false
theorem nar1 : vp_nar .boolean (1 : Int32) = 1 := b2i_nar true
theorem y2w_at (Y : yT) (a j : Nat) (v : Int32) (p : Nat) : (y2w Y a j v).2 a p = if p = j then v else Y.2 a p := by simp [y2w, va_up, upd]
theorem y2w_ne (Y : yT) {a c : Nat} (j : Nat) (v : Int32) (h : c ≠ a) : (y2w Y a j v).2 c = Y.2 c := by simp [y2w, va_up, h]
theorem y2w_1 (Y : yT) (a j : Nat) (v : Int32) : (y2w Y a j v).1 = Y.1 := rfl
theorem y1w_2 (Y : yT) (a : Nat) (v : Int32) : (y1w Y a v).2 = Y.2 := rfl
theorem y1w_at (Y : yT) (a c : Nat) (v : Int32) : (y1w Y a v).1 c = if c = a then v else Y.1 c := by simp [y1w, va_up]
/-- only array a is written, in the places from k to lim, with v -/
def yUp (Y Y' : yT) (a k lim : Nat) (v : Nat → Int32) : Prop := Y'.1 = Y.1 ∧ (∀ c, c ≠ a → Y'.2 c = Y.2 c) ∧ ∀ j, Y'.2 a j = if k ≤ j ∧ j < lim then v j else Y.2 a j
theorem yUp.rf {Y : yT} {a k lim : Nat} {v : Nat → Int32} (h : lim ≤ k) : yUp Y Y a k lim v := ⟨rfl, fun _ _ => rfl, fun j => by rw [if_neg (by omega)]⟩
theorem yUp.st {Y Y' : yT} {a k lim : Nat} {v : Nat → Int32} (hk : k < lim) (h : yUp (y2w Y a k (v k)) Y' a (k + 1) lim v) : yUp Y Y' a k lim v := by
  obtain ⟨h1, h2, h3⟩ := h
  refine ⟨h1, fun c hc => (h2 c hc).trans (y2w_ne _ _ _ hc), fun j => ?_⟩
  rw [h3 j, y2w_at]
  by_cases e : j = k
  · subst e
    rw [if_neg (by omega), if_pos rfl, if_pos (by omega)]
  · rw [if_neg e]
    by_cases f : k + 1 ≤ j ∧ j < lim
    · rw [if_pos f, if_pos (by omega)]
    · rw [if_neg f, if_neg (by omega)]
theorem yUp.sk {Y Y' : yT} {a k lim : Nat} {v : Nat → Int32} (hv : v k = Y.2 a k) (h : yUp Y Y' a (k + 1) lim v) : yUp Y Y' a k lim v := by
  obtain ⟨h1, h2, h3⟩ := h
  refine ⟨h1, h2, fun j => ?_⟩
  rw [h3 j]
  by_cases e : j = k
  · subst e
    rw [if_neg (by omega)]
    split
    · exact hv.symm
    · rfl
  · by_cases f : k + 1 ≤ j ∧ j < lim
    · rw [if_pos f, if_pos (by omega)]
    · rw [if_neg f, if_neg (by omega)]
theorem sh1 {x : Int32} {k : Nat} (hk : k < 32) : ((x >>> (Int32.ofNat k &&& 31)) &&& (1 : Int32)) = b2i (xb x k) := by
  cases h : xb x k with
  | false => exact (xb_sh hk).mpr h
  | true =>
    have h1 : ∀ j, j < 32 → xb (1 : Int32) j = decide (j = 0) := by decide +kernel
    have n : ¬ ((x >>> (Int32.ofNat k &&& 31)) &&& (1 : Int32)) = 0 := fun q => by rw [(xb_sh hk).mp q] at h; cases h
    have c : xb ((x >>> (Int32.ofNat k &&& 31)) &&& (1 : Int32)) 0 = true := by
      cases e : xb ((x >>> (Int32.ofNat k &&& 31)) &&& (1 : Int32)) 0 with
      | true => rfl
      | false =>
        exfalso
        apply n
        apply xb_ext
        intro j hj
        rw [xb_0]
        by_cases f : j = 0
        · subst f; exact e
        · rw [xb_and, h1 j hj]; simp [f]
    apply xb_ext
    intro j hj
    show _ = xb (1 : Int32) j
    rw [h1 j hj]
    by_cases f : j = 0
    · subst f; rw [c]; rfl
    · rw [xb_and, h1 j hj]; simp [f]
def k0 (z : Nat) (inp : Int32) (k : Nat) : Nat := if k < 4 then (xb inp k).toNat else if k < lm z then 2 else 0
theorem reaA_eq (hm : M.1 0 = Int32.ofNat z) (hz : z ≤ 120) (inp : Int32) : ∀ (n k : Nat) (Y : yT), lm z ≤ k + n → k ≤ lm z → yUp Y (fm_reaA n M Y inp (Int32.ofNat k)).2 2 k (lm z) (fun j => Int32.ofNat (k0 z inp j)) := by
  have hl : lm z ≤ 3256 := by unfold lm; omega
  have hl16 : 16 ≤ lm z := by unfold lm; omega
  intro n
  induction n with
  | zero => intro k Y h1 h2; exact yUp.rf (by omega)
  | succ n ih =>
    intro k Y h1 h2
    rw [fm_reaA, lm_eq hm]
    by_cases q : lm z ≤ k
    · rw [if_pos ((o_le (by omega) (by omega)).mpr q)]
      exact yUp.rf q
    · rw [if_neg (fun t => q ((o_le (by omega) (by omega)).mp t)), n_of (by omega), o_add]
      by_cases q4 : 4 ≤ k
      · have : (4 : Int32) ≤ Int32.ofNat k := (o_le (a := 4) (by omega) (by omega)).mpr q4
        rw [if_pos this]
        have e : k0 z inp k = 2 := by unfold k0; rw [if_neg (by omega), if_pos (by omega)]
        refine yUp.st (by omega) ?_
        rw [e]
        exact ih (k + 1) _ (by omega) (by omega)
      · have : ¬ (4 : Int32) ≤ Int32.ofNat k := fun t => q4 ((o_le (a := 4) (by omega) (by omega)).mp t)
        rw [if_neg this, sh1 (by omega)]
        have e : Int32.ofNat (k0 z inp k) = b2i (xb inp k) := by unfold k0; rw [if_pos (by omega)]; cases xb inp k <;> rfl
        refine yUp.st (by omega) ?_
        rw [e]
        exact ih (k + 1) _ (by omega) (by omega)
theorem reaB_eq (hm : M.1 0 = Int32.ofNat z) (hz : z ≤ 120) (mo co : Int32) : ∀ (n k : Nat) (V : vT), lm z ≤ k + n → k ≤ lm z → (fm_reaB n M V mo co (Int32.ofNat k)).2.1 = V.1 ∧ ∀ c j, (fm_reaB n M V mo co (Int32.ofNat k)).2.2 c j = if (c = 1 ∨ c = 2) ∧ k ≤ j ∧ j < lm z then 0 else V.2 c j := by
  have hl : lm z ≤ 3256 := by unfold lm; omega
  intro n
  induction n with
  | zero => intro k V h1 h2; exact ⟨rfl, fun c j => by rw [if_neg (by omega)]; rfl⟩
  | succ n ih =>
    intro k V h1 h2
    rw [fm_reaB, lm_eq hm]
    by_cases q : lm z ≤ k
    · rw [if_pos ((o_le (by omega) (by omega)).mpr q)]
      exact ⟨rfl, fun c j => by rw [if_neg (by omega)]⟩
    · rw [if_neg (fun t => q ((o_le (by omega) (by omega)).mp t)), n_of (by omega), o_add, nar0]
      obtain ⟨a, b⟩ := ih (k + 1) (v2w (v2w V 1 k 0) 2 k 0) (by omega) (by omega)
      refine ⟨a, fun c j => ?_⟩
      rw [b c j]
      by_cases c2 : c = 2
      · subst c2
        rw [v2w_at, v2w_ne _ _ _ (by decide)]
        by_cases e : j = k
        · subst e; rw [if_neg (by omega), if_pos rfl, if_pos (by omega)]
        · rw [if_neg e]
          by_cases f : k + 1 ≤ j ∧ j < lm z
          · rw [if_pos (by omega), if_pos (by omega)]
          · rw [if_neg (by omega), if_neg (by omega)]
      · rw [v2w_ne _ _ _ c2]
        by_cases c1 : c = 1
        · subst c1
          rw [v2w_at]
          by_cases e : j = k
          · subst e; rw [if_neg (by omega), if_pos rfl, if_pos (by omega)]
          · rw [if_neg e]
            by_cases f : k + 1 ≤ j ∧ j < lm z
            · rw [if_pos (by omega), if_pos (by omega)]
            · rw [if_neg (by omega), if_neg (by omega)]
        · rw [v2w_ne _ _ _ c1, if_neg (by omega), if_neg (by omega)]
theorem reaC_eq (mo co : Int32) : ∀ (n k : Nat) (V : vT), 16 ≤ k + n → k ≤ 16 → (fm_reaC n V mo co (Int32.ofNat k)).2.1 = V.1 ∧ ∀ c j, (fm_reaC n V mo co (Int32.ofNat k)).2.2 c j = if c = 3 ∧ k ≤ j ∧ j < 16 then Int32.ofNat j else V.2 c j := by
  intro n
  induction n with
  | zero => intro k V h1 h2; exact ⟨rfl, fun c j => by rw [if_neg (by omega)]; rfl⟩
  | succ n ih =>
    intro k V h1 h2
    rw [fm_reaC]
    by_cases q : 16 ≤ k
    · have : (16 : Int32) ≤ Int32.ofNat k := (o_le (a := 16) (by omega) (by omega)).mpr q
      rw [if_pos this]
      exact ⟨rfl, fun c j => by rw [if_neg (by omega)]⟩
    · have : ¬ (16 : Int32) ≤ Int32.ofNat k := fun t => q ((o_le (a := 16) (by omega) (by omega)).mp t)
      rw [if_neg this, n_of (by omega), o_add]
      obtain ⟨a, b⟩ := ih (k + 1) (v2w V 3 k (Int32.ofNat k)) (by omega) (by omega)
      refine ⟨a, fun c j => ?_⟩
      rw [b c j]
      by_cases c2 : c = 3
      · subst c2
        rw [v2w_at]
        by_cases e : j = k
        · subst e; rw [if_neg (by omega), if_pos rfl, if_pos (by omega)]
        · rw [if_neg e]
          by_cases f : k + 1 ≤ j ∧ j < 16
          · rw [if_pos (by omega), if_pos (by omega)]
          · rw [if_neg (by omega), if_neg (by omega)]
      · rw [v2w_ne _ _ _ c2, if_neg (by omega), if_neg (by omega)]
theorem reaD_eq (mo co : Int32) : ∀ (n k : Nat) (V : vT), 32 ≤ k + n → k ≤ 32 → (fm_reaD n V mo co (Int32.ofNat k)).2.1 = V.1 ∧ ∀ c j, (fm_reaD n V mo co (Int32.ofNat k)).2.2 c j = if c = 0 ∧ k ≤ j ∧ j < 32 then 0 else V.2 c j := by
  intro n
  induction n with
  | zero => intro k V h1 h2; exact ⟨rfl, fun c j => by rw [if_neg (by omega)]; rfl⟩
  | succ n ih =>
    intro k V h1 h2
    rw [fm_reaD]
    by_cases q : 32 ≤ k
    · have : (32 : Int32) ≤ Int32.ofNat k := (o_le (a := 32) (by omega) (by omega)).mpr q
      rw [if_pos this]
      exact ⟨rfl, fun c j => by rw [if_neg (by omega)]⟩
    · have : ¬ (32 : Int32) ≤ Int32.ofNat k := fun t => q ((o_le (a := 32) (by omega) (by omega)).mp t)
      rw [if_neg this, n_of (by omega), o_add, nar0]
      obtain ⟨a, b⟩ := ih (k + 1) (v2w V 0 k 0) (by omega) (by omega)
      refine ⟨a, fun c j => ?_⟩
      rw [b c j]
      by_cases c2 : c = 0
      · subst c2
        rw [v2w_at]
        by_cases e : j = k
        · subst e; rw [if_neg (by omega), if_pos rfl, if_pos (by omega)]
        · rw [if_neg e]
          by_cases f : k + 1 ≤ j ∧ j < 32
          · rw [if_pos (by omega), if_pos (by omega)]
          · rw [if_neg (by omega), if_neg (by omega)]
      · rw [v2w_ne _ _ _ c2, if_neg (by omega), if_neg (by omega)]
def nwS (Y : yT) (V : vT) (j : Nat) : Int32 := if Y.2 2 j = (2 : Int32) ∧ (V.2 1 j ≠ 0 ∨ V.2 2 j = 0) then (if V.2 1 j = 0 then 0 else 1) else Y.2 2 j
theorem lrnL_eq (hm : M.1 0 = Int32.ofNat z) (hz : z ≤ 120) (V : vT) (W : Nat → Int32) : ∀ (n k : Nat) (Y : yT) (mo : Int32), lm z ≤ k + n → k ≤ lm z → (∀ j, k ≤ j → j < lm z → nwS Y V j = W j) → yUp Y (fm_lrnL n M Y V mo (Int32.ofNat k)).2.2 2 k (lm z) W ∧ ((fm_lrnL n M Y V mo (Int32.ofNat k)).1 = 0 → mo = 0 ∧ ∀ j, k ≤ j → j < lm z → W j = Y.2 2 j) ∧ ((fm_lrnL n M Y V mo (Int32.ofNat k)).1 ≠ 0 → mo ≠ 0 ∨ ∃ j, k ≤ j ∧ j < lm z ∧ Y.2 2 j = (2 : Int32) ∧ W j ≠ (2 : Int32)) := by
  have hl : lm z ≤ 3256 := by unfold lm; omega
  intro n
  induction n with
  | zero => intro k Y mo h1 h2 h3; exact ⟨yUp.rf (by omega), fun h => ⟨h, fun j a b => by omega⟩, fun h => Or.inl h⟩
  | succ n ih =>
    intro k Y mo h1 h2 h3
    rw [fm_lrnL, lm_eq hm]
    by_cases q : lm z ≤ k
    · rw [if_pos ((o_le (by omega) (by omega)).mpr q)]
      exact ⟨yUp.rf q, fun h => ⟨h, fun j a b => by omega⟩, fun h => Or.inl h⟩
    rw [if_neg (fun t => q ((o_le (by omega) (by omega)).mp t)), n_of (by omega), o_add]
    have hk := h3 k (Nat.le_refl _) (by omega)
    have keep : nwS Y V k = Y.2 2 k → yUp Y (fm_lrnL n M Y V mo (Int32.ofNat (k + 1))).2.2 2 k (lm z) W ∧ ((fm_lrnL n M Y V mo (Int32.ofNat (k + 1))).1 = 0 → mo = 0 ∧ ∀ j, k ≤ j → j < lm z → W j = Y.2 2 j) ∧ ((fm_lrnL n M Y V mo (Int32.ofNat (k + 1))).1 ≠ 0 → mo ≠ 0 ∨ ∃ j, k ≤ j ∧ j < lm z ∧ Y.2 2 j = (2 : Int32) ∧ W j ≠ (2 : Int32)) := fun e => by
      obtain ⟨a, b, c⟩ := ih (k + 1) Y mo (by omega) (by omega) (fun j a b => h3 j (by omega) b)
      refine ⟨a.sk (hk.symm.trans e), fun h => ⟨(b h).1, fun j x y => ?_⟩, fun h => (c h).imp id (fun ⟨j, x1, x2⟩ => ⟨j, by omega, x2⟩)⟩
      by_cases f : j = k
      · subst f; exact hk.symm.trans e
      · exact (b h).2 j (by omega) y
    have chg : ∀ v : Int32, (v = 0 ∨ v = 1) → Y.2 2 k = (2 : Int32) → nwS Y V k = v → yUp Y (fm_lrnL n M (y2w Y 2 k v) V 1 (Int32.ofNat (k + 1))).2.2 2 k (lm z) W ∧ ((fm_lrnL n M (y2w Y 2 k v) V 1 (Int32.ofNat (k + 1))).1 = 0 → mo = 0 ∧ ∀ j, k ≤ j → j < lm z → W j = Y.2 2 j) ∧ ((fm_lrnL n M (y2w Y 2 k v) V 1 (Int32.ofNat (k + 1))).1 ≠ 0 → mo ≠ 0 ∨ ∃ j, k ≤ j ∧ j < lm z ∧ Y.2 2 j = (2 : Int32) ∧ W j ≠ (2 : Int32)) := fun v hv h2' e => by
      have ek : W k = v := hk.symm.trans e
      obtain ⟨a, b, c⟩ := ih (k + 1) (y2w Y 2 k v) 1 (by omega) (by omega) (fun j x y => by
        have : nwS (y2w Y 2 k v) V j = nwS Y V j := by
          have t : (y2w Y 2 k v).2 2 j = Y.2 2 j := by rw [y2w_at, if_neg (by omega)]
          unfold nwS
          rw [t]
        rw [this]; exact h3 j (by omega) y)
      refine ⟨yUp.st (by omega) (by rw [ek]; exact a), fun h => absurd (b h).1 (by decide), fun h => Or.inr ⟨k, Nat.le_refl _, by omega, h2', ?_⟩⟩
      rw [ek]
      rcases hv with r | r <;> rw [r] <;> decide
    by_cases s : Y.2 2 k = (2 : Int32)
    · rw [if_pos s]
      by_cases m : V.2 1 k = 0
      · rw [if_pos m]
        by_cases c : V.2 2 k = 0
        · rw [if_pos c, if_pos m]
          exact chg 0 (Or.inl rfl) s (by unfold nwS; rw [if_pos ⟨s, Or.inr c⟩, if_pos m])
        · rw [if_neg c]
          refine keep ?_
          unfold nwS
          rw [if_neg]
          rintro ⟨-, t | t⟩
          · exact t m
          · exact c t
      · rw [if_neg m, if_neg m]
        exact chg 1 (Or.inr rfl) s (by unfold nwS; rw [if_pos ⟨s, Or.inl m⟩, if_neg m])
    · rw [if_neg s]
      refine keep ?_
      unfold nwS
      rw [if_neg (fun t => s t.1)]
end REACT
