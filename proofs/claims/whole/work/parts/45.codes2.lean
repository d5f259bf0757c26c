theorem cE_or (A B : Nat → Bool) : cE A ||| cE B = cE (fun n => A n || B n) := k_or _ _ _ _ _ _ _ _ _ _ _ _ _ _
theorem cE_Z (A : Nat → Bool) : cE A &&& (-2 : Int32) = cE (fun n => decide (n ≠ 0) && A n) := (k_and2 _ _ _ _ _ _ _).trans rfl
theorem cE_tps {A : Nat → Bool} (h : A 7 = false) : fm_caught (cE A) = cE (tps A) ∧ fc_outsideTrap (cE A) = cE (tps A) := by
  have e : cE (tps A) = Int32.ofNat (((A 0 || A 2)).toNat + 2 * (A 1).toNat + 4 * (A 3).toNat + 8 * (A 4).toNat + 16 * (A 5).toNat + 32 * (A 6).toNat + 64 * (false).toNat) := by
    unfold cE cN
    rw [show tps A 6 = false from h]
    rfl
  rw [e]
  exact k_tr _ _ _ _ _ _ _
theorem cE_bit0 (A : Nat → Bool) : (cE A &&& (1 : Int32)) = 0 ↔ A 0 = false := k_bit0 _ _ _ _ _ _ _
theorem cE_gp (A B : Nat → Bool) : fc_greaterOfPairs (cE A) (cE B) = cE (mxs A B) := k_gp _ _ _ _ _ _ _ _ _ _ _ _ _ _
theorem cE_none : cE (fun _ => false) = 0 := by decide
def mN (A : Nat → Bool) : Int32 := if A 0 then 0 else if A 1 then 1 else if A 2 then 2 else if A 3 then 3 else if A 4 then 4 else if A 5 then 5 else if A 6 then 6 else -1
theorem mN_cases (A : Nat → Bool) : mN A = -1 ∨ mN A = 0 ∨ mN A = 1 ∨ mN A = 2 ∨ mN A = 3 ∨ mN A = 4 ∨ mN A = 5 ∨ mN A = 6 := by
  unfold mN
  cases A 0 <;> cases A 1 <;> cases A 2 <;> cases A 3 <;> cases A 4 <;> cases A 5 <;> cases A 6 <;> simp
theorem out_ok (A B : Nat → Bool) : fm_canOf (fm_outcome (cE A) (mN B)) = cE A ∧ fm_mustOf (fm_outcome (cE A) (mN B)) = mN B := by
  rcases mN_cases B with h | h | h | h | h | h | h | h <;> rw [h]
  · exact k_outN _ _ _ _ _ _ _
  · exact k_out0 _ _ _ _ _ _ _
  · exact k_out1 _ _ _ _ _ _ _
  · exact k_out2 _ _ _ _ _ _ _
  · exact k_out3 _ _ _ _ _ _ _
  · exact k_out4 _ _ _ _ _ _ _
  · exact k_out5 _ _ _ _ _ _ _
  · exact k_out6 _ _ _ _ _ _ _
theorem mN_none {A : Nat → Bool} (h : ∀ c, A c = false) : mN A = -1 := by
  unfold mN
  simp [h]
theorem mN_of {A : Nat → Bool} {c : Nat} (h : A c = true) (u : ∀ d, A d = true → d = c) (hc : c < 7) : mN A = Int32.ofNat c := by
  have f : ∀ d, d ≠ c → A d = false := fun d hd => by
    cases e : A d with
    | false => rfl
    | true => exact absurd (u d e) hd
  unfold mN
  match c, hc, h, f with
  | 0, _, h, f => simp [h]
  | 1, _, h, f => simp [h, f 0 (by decide)]
  | 2, _, h, f => simp [h, f 0 (by decide), f 1 (by decide)]
  | 3, _, h, f => simp [h, f 0 (by decide), f 1 (by decide), f 2 (by decide)]
  | 4, _, h, f => simp [h, f 0 (by decide), f 1 (by decide), f 2 (by decide), f 3 (by decide)]
  | 5, _, h, f => simp [h, f 0 (by decide), f 1 (by decide), f 2 (by decide), f 3 (by decide), f 4 (by decide)]
  | 6, _, h, f => simp [h, f 0 (by decide), f 1 (by decide), f 2 (by decide), f 3 (by decide), f 4 (by decide), f 5 (by decide)]
theorem pj_or (x y k : Int32) : ∀ (n : Nat) (al j : Int32), fm_pairsJ n x y k al j = (al ||| (fm_pairsJ n x y k 0 j).1, (fm_pairsJ n x y k 0 j).2) := by
  intro n
  induction n with
  | zero => intro al j; simp [fm_pairsJ]
  | succ n ih =>
    intro al j
    simp only [fm_pairsJ]
    split
    · simp
    · split
      · split
        · split
          · rw [ih (al ||| _), ih (0 ||| _)]; simp [Int32.or_assoc]
          · rw [ih (al ||| _), ih (0 ||| _)]; simp [Int32.or_assoc]
        · rw [ih al]
      · rw [ih al]
theorem pj_x {x x' k : Int32} (y : Int32) (h : ((x >>> (k &&& 31)) &&& (1 : Int32)) = (1 : Int32)) (h' : ((x' >>> (k &&& 31)) &&& (1 : Int32)) = (1 : Int32)) : ∀ (n : Nat) (al j : Int32), fm_pairsJ n x y k al j = fm_pairsJ n x' y k al j := by
  intro n
  induction n with
  | zero => intro al j; rfl
  | succ n ih =>
    intro al j
    simp only [fm_pairsJ, if_pos h, if_pos h', ih]
theorem pj_no {x k : Int32} (y : Int32) (h : ¬ ((x >>> (k &&& 31)) &&& (1 : Int32)) = (1 : Int32)) : ∀ (n : Nat) (al j : Int32), (fm_pairsJ n x y k al j).1 = al := by
  intro n
  induction n with
  | zero => intro al j; rfl
  | succ n ih =>
    intro al j
    simp only [fm_pairsJ, if_neg h]
    split
    · rfl
    · exact ih _ _
theorem pairs_unf (x y : Int32) : fm_pairs x y = ((((((((0 ||| (fm_pairsJ 9 x y 0 0 0).1) ||| (fm_pairsJ 9 x y 1 0 0).1) ||| (fm_pairsJ 9 x y 2 0 0).1) ||| (fm_pairsJ 9 x y 3 0 0).1) ||| (fm_pairsJ 9 x y 4 0 0).1) ||| (fm_pairsJ 9 x y 5 0 0).1) ||| (fm_pairsJ 9 x y 6 0 0).1) ||| (fm_pairsJ 9 x y 7 0 0).1) := by
  have st : ∀ (n : Nat) (al k : Int32), ¬ (8 : Int32) ≤ k → fm_pairsK (n + 1) x y al k = fm_pairsK n x y (al ||| (fm_pairsJ 9 x y k 0 0).1) (k + 1) := fun n al k h => by
    rw [fm_pairsK, if_neg h, pj_or]
  unfold fm_pairs
  rw [st 8 _ _ (by decide), st 7 _ _ (by decide), st 6 _ _ (by decide), st 5 _ _ (by decide), st 4 _ _ (by decide), st 3 _ _ (by decide), st 2 _ _ (by decide), st 1 _ _ (by decide)]
  rfl
theorem pj_k {A B : Nat → Bool} {k : Int32} {c : Nat} {R : Nat → Bool} (hx : ((cE A >>> (k &&& 31)) &&& (1 : Int32)) = (1 : Int32) ↔ A c = true) (h1 : ((((1 : Int32) <<< (k &&& 31)) >>> (k &&& 31)) &&& (1 : Int32)) = (1 : Int32)) (hR : (fm_pairsJ 9 ((1 : Int32) <<< (k &&& 31)) (cE B) k 0 0).1 = cE R) : (fm_pairsJ 9 (cE A) (cE B) k 0 0).1 = cE (fun n => A c && R n) := by
  cases e : A c with
  | true =>
    rw [pj_x (cE B) (hx.mpr e) h1, hR]
    simp
  | false =>
    rw [pj_no (cE B) (fun q => by rw [hx.mp q] at e; cases e)]
    simp only [Bool.false_and]
    exact cE_none.symm
def mk1 (k : Nat) (B : Nat → Bool) : Nat → Bool := mxs (fun n => decide (n = k)) B
theorem mk1_iff {k n : Nat} {B : Nat → Bool} : mk1 k B n = true ↔ ∃ b, B b = true ∧ n = max k b := by
  unfold mk1
  rw [mxs_iff]
  constructor
  · rintro ⟨a, b, h1, h2, h3⟩
    simp only [decide_eq_true_eq] at h1
    subst h1
    exact ⟨b, h2, h3⟩
  · rintro ⟨b, h2, h3⟩
    exact ⟨k, b, by simp, h2, h3⟩
set_option maxRecDepth 100000 in
theorem pj_0 (A B : Nat → Bool) : (fm_pairsJ 9 (cE A) (cE B) 0 0 0).1 = cE (fun n => A 0 && mk1 0 B n) := pj_k (k_sh0 _ _ _ _ _ _ _) (by decide) ((k_pj0 _ _ _ _ _ _ _).trans (cE_cg (B := mk1 0 B) (A := fun n => match n with | 0 => (B 0 || false) | n + 1 => B (n + 1)) (fun c hc => by
    match c, hc with
    | 0, _ => (simp [mk1, mxs, blw, List.range, List.range.loop]) <;> (try (intro h; simp [h]))
    | 1, _ => (simp [mk1, mxs, blw, List.range, List.range.loop]) <;> (try (intro h; simp [h]))
    | 2, _ => (simp [mk1, mxs, blw, List.range, List.range.loop]) <;> (try (intro h; simp [h]))
    | 3, _ => (simp [mk1, mxs, blw, List.range, List.range.loop]) <;> (try (intro h; simp [h]))
    | 4, _ => (simp [mk1, mxs, blw, List.range, List.range.loop]) <;> (try (intro h; simp [h]))
    | 5, _ => (simp [mk1, mxs, blw, List.range, List.range.loop]) <;> (try (intro h; simp [h]))
    | 6, _ => (simp [mk1, mxs, blw, List.range, List.range.loop]) <;> (try (intro h; simp [h])))))
set_option maxRecDepth 100000 in
theorem pj_1 (A B : Nat → Bool) : (fm_pairsJ 9 (cE A) (cE B) 1 0 0).1 = cE (fun n => A 1 && mk1 1 B n) := pj_k (k_sh1 _ _ _ _ _ _ _) (by decide) ((k_pj1 _ _ _ _ _ _ _).trans (cE_cg (B := mk1 1 B) (A := fun n => match n with | 0 => false | 1 => (B 0 || (B 1 || false)) | n + 2 => B (n + 2)) (fun c hc => by
    match c, hc with
    | 0, _ => (simp [mk1, mxs, blw, List.range, List.range.loop]) <;> (try (intro h; simp [h]))
    | 1, _ => (simp [mk1, mxs, blw, List.range, List.range.loop]) <;> (try (intro h; simp [h]))
    | 2, _ => (simp [mk1, mxs, blw, List.range, List.range.loop]) <;> (try (intro h; simp [h]))
    | 3, _ => (simp [mk1, mxs, blw, List.range, List.range.loop]) <;> (try (intro h; simp [h]))
    | 4, _ => (simp [mk1, mxs, blw, List.range, List.range.loop]) <;> (try (intro h; simp [h]))
    | 5, _ => (simp [mk1, mxs, blw, List.range, List.range.loop]) <;> (try (intro h; simp [h]))
    | 6, _ => (simp [mk1, mxs, blw, List.range, List.range.loop]) <;> (try (intro h; simp [h])))))
set_option maxRecDepth 100000 in
theorem pj_2 (A B : Nat → Bool) : (fm_pairsJ 9 (cE A) (cE B) 2 0 0).1 = cE (fun n => A 2 && mk1 2 B n) := pj_k (k_sh2 _ _ _ _ _ _ _) (by decide) ((k_pj2 _ _ _ _ _ _ _).trans (cE_cg (B := mk1 2 B) (A := fun n => match n with | 0 => false | 1 => false | 2 => (B 0 || (B 1 || (B 2 || false))) | n + 3 => B (n + 3)) (fun c hc => by
    match c, hc with
    | 0, _ => (simp [mk1, mxs, blw, List.range, List.range.loop]) <;> (try (intro h; simp [h]))
    | 1, _ => (simp [mk1, mxs, blw, List.range, List.range.loop]) <;> (try (intro h; simp [h]))
    | 2, _ => (simp [mk1, mxs, blw, List.range, List.range.loop]) <;> (try (intro h; simp [h]))
    | 3, _ => (simp [mk1, mxs, blw, List.range, List.range.loop]) <;> (try (intro h; simp [h]))
    | 4, _ => (simp [mk1, mxs, blw, List.range, List.range.loop]) <;> (try (intro h; simp [h]))
    | 5, _ => (simp [mk1, mxs, blw, List.range, List.range.loop]) <;> (try (intro h; simp [h]))
    | 6, _ => (simp [mk1, mxs, blw, List.range, List.range.loop]) <;> (try (intro h; simp [h])))))
set_option maxRecDepth 100000 in
theorem pj_3 (A B : Nat → Bool) : (fm_pairsJ 9 (cE A) (cE B) 3 0 0).1 = cE (fun n => A 3 && mk1 3 B n) := pj_k (k_sh3 _ _ _ _ _ _ _) (by decide) ((k_pj3 _ _ _ _ _ _ _).trans (cE_cg (B := mk1 3 B) (A := fun n => match n with | 0 => false | 1 => false | 2 => false | 3 => (B 0 || (B 1 || (B 2 || (B 3 || false)))) | n + 4 => B (n + 4)) (fun c hc => by
    match c, hc with
    | 0, _ => (simp [mk1, mxs, blw, List.range, List.range.loop]) <;> (try (intro h; simp [h]))
    | 1, _ => (simp [mk1, mxs, blw, List.range, List.range.loop]) <;> (try (intro h; simp [h]))
    | 2, _ => (simp [mk1, mxs, blw, List.range, List.range.loop]) <;> (try (intro h; simp [h]))
    | 3, _ => (simp [mk1, mxs, blw, List.range, List.range.loop]) <;> (try (intro h; simp [h]))
    | 4, _ => (simp [mk1, mxs, blw, List.range, List.range.loop]) <;> (try (intro h; simp [h]))
    | 5, _ => (simp [mk1, mxs, blw, List.range, List.range.loop]) <;> (try (intro h; simp [h]))
    | 6, _ => (simp [mk1, mxs, blw, List.range, List.range.loop]) <;> (try (intro h; simp [h])))))
set_option maxRecDepth 100000 in
theorem pj_4 (A B : Nat → Bool) : (fm_pairsJ 9 (cE A) (cE B) 4 0 0).1 = cE (fun n => A 4 && mk1 4 B n) := pj_k (k_sh4 _ _ _ _ _ _ _) (by decide) ((k_pj4 _ _ _ _ _ _ _).trans (cE_cg (B := mk1 4 B) (A := fun n => match n with | 0 => false | 1 => false | 2 => false | 3 => false | 4 => (B 0 || (B 1 || (B 2 || (B 3 || (B 4 || false))))) | n + 5 => B (n + 5)) (fun c hc => by
    match c, hc with
    | 0, _ => (simp [mk1, mxs, blw, List.range, List.range.loop]) <;> (try (intro h; simp [h]))
    | 1, _ => (simp [mk1, mxs, blw, List.range, List.range.loop]) <;> (try (intro h; simp [h]))
    | 2, _ => (simp [mk1, mxs, blw, List.range, List.range.loop]) <;> (try (intro h; simp [h]))
    | 3, _ => (simp [mk1, mxs, blw, List.range, List.range.loop]) <;> (try (intro h; simp [h]))
    | 4, _ => (simp [mk1, mxs, blw, List.range, List.range.loop]) <;> (try (intro h; simp [h]))
    | 5, _ => (simp [mk1, mxs, blw, List.range, List.range.loop]) <;> (try (intro h; simp [h]))
    | 6, _ => (simp [mk1, mxs, blw, List.range, List.range.loop]) <;> (try (intro h; simp [h])))))
set_option maxRecDepth 100000 in
theorem pj_5 (A B : Nat → Bool) : (fm_pairsJ 9 (cE A) (cE B) 5 0 0).1 = cE (fun n => A 5 && mk1 5 B n) := pj_k (k_sh5 _ _ _ _ _ _ _) (by decide) ((k_pj5 _ _ _ _ _ _ _).trans (cE_cg (B := mk1 5 B) (A := fun n => match n with | 0 => false | 1 => false | 2 => false | 3 => false | 4 => false | 5 => (B 0 || (B 1 || (B 2 || (B 3 || (B 4 || (B 5 || false)))))) | n + 6 => B (n + 6)) (fun c hc => by
    match c, hc with
    | 0, _ => (simp [mk1, mxs, blw, List.range, List.range.loop]) <;> (try (intro h; simp [h]))
    | 1, _ => (simp [mk1, mxs, blw, List.range, List.range.loop]) <;> (try (intro h; simp [h]))
    | 2, _ => (simp [mk1, mxs, blw, List.range, List.range.loop]) <;> (try (intro h; simp [h]))
    | 3, _ => (simp [mk1, mxs, blw, List.range, List.range.loop]) <;> (try (intro h; simp [h]))
    | 4, _ => (simp [mk1, mxs, blw, List.range, List.range.loop]) <;> (try (intro h; simp [h]))
    | 5, _ => (simp [mk1, mxs, blw, List.range, List.range.loop]) <;> (try (intro h; simp [h]))
    | 6, _ => (simp [mk1, mxs, blw, List.range, List.range.loop]) <;> (try (intro h; simp [h])))))
set_option maxRecDepth 100000 in
theorem pj_6 (A B : Nat → Bool) : (fm_pairsJ 9 (cE A) (cE B) 6 0 0).1 = cE (fun n => A 6 && mk1 6 B n) := pj_k (k_sh6 _ _ _ _ _ _ _) (by decide) ((k_pj6 _ _ _ _ _ _ _).trans (cE_cg (B := mk1 6 B) (A := fun n => match n with | 0 => false | 1 => false | 2 => false | 3 => false | 4 => false | 5 => false | 6 => (B 0 || (B 1 || (B 2 || (B 3 || (B 4 || (B 5 || (B 6 || false))))))) | n + 7 => B (n + 7)) (fun c hc => by
    match c, hc with
    | 0, _ => (simp [mk1, mxs, blw, List.range, List.range.loop]) <;> (try (intro h; simp [h]))
    | 1, _ => (simp [mk1, mxs, blw, List.range, List.range.loop]) <;> (try (intro h; simp [h]))
    | 2, _ => (simp [mk1, mxs, blw, List.range, List.range.loop]) <;> (try (intro h; simp [h]))
    | 3, _ => (simp [mk1, mxs, blw, List.range, List.range.loop]) <;> (try (intro h; simp [h]))
    | 4, _ => (simp [mk1, mxs, blw, List.range, List.range.loop]) <;> (try (intro h; simp [h]))
    | 5, _ => (simp [mk1, mxs, blw, List.range, List.range.loop]) <;> (try (intro h; simp [h]))
    | 6, _ => (simp [mk1, mxs, blw, List.range, List.range.loop]) <;> (try (intro h; simp [h])))))
theorem pj_7 (A B : Nat → Bool) : (fm_pairsJ 9 (cE A) (cE B) 7 0 0).1 = 0 := pj_no (cE B) (fun q => (k_sh7 _ _ _ _ _ _ _).mp q) 9 0 0
theorem cE_pairs {A B : Nat → Bool} (hA : ∀ c, A c = true → c < 7) : fm_pairs (cE A) (cE B) = cE (mxs A B) := by
  rw [pairs_unf, pj_0, pj_1, pj_2, pj_3, pj_4, pj_5, pj_6, pj_7]
  simp only [Int32.zero_or, Int32.or_zero, cE_or]
  apply cE_cg
  intro c hc
  have e : ∀ x y : Bool, (x = true ↔ y = true) → x = y := by decide
  apply e
  simp only [Bool.or_eq_true, Bool.and_eq_true, mk1_iff, mxs_iff]
  constructor
  · rintro ((((((⟨h, b, hb, q⟩ | ⟨h, b, hb, q⟩) | ⟨h, b, hb, q⟩) | ⟨h, b, hb, q⟩) | ⟨h, b, hb, q⟩) | ⟨h, b, hb, q⟩) | ⟨h, b, hb, q⟩) <;> exact ⟨_, b, h, hb, q⟩
  · rintro ⟨a, b, ha, hb, q⟩
    have := hA a ha
    match a, this, ha, q with
    | 0, _, ha, q => exact Or.inl (Or.inl (Or.inl (Or.inl (Or.inl (Or.inl ⟨ha, b, hb, q⟩)))))
    | 1, _, ha, q => exact Or.inl (Or.inl (Or.inl (Or.inl (Or.inl (Or.inr ⟨ha, b, hb, q⟩)))))
    | 2, _, ha, q => exact Or.inl (Or.inl (Or.inl (Or.inl (Or.inr ⟨ha, b, hb, q⟩))))
    | 3, _, ha, q => exact Or.inl (Or.inl (Or.inl (Or.inr ⟨ha, b, hb, q⟩)))
    | 4, _, ha, q => exact Or.inl (Or.inl (Or.inr ⟨ha, b, hb, q⟩))
    | 5, _, ha, q => exact Or.inl (Or.inr ⟨ha, b, hb, q⟩)
    | 6, _, ha, q => exact Or.inr ⟨ha, b, hb, q⟩
theorem cE_one : ∀ c, c < 7 → (1 : Int32) <<< (Int32.ofNat c &&& 31) = cE (fun n => decide (n = c)) := by
  intro c hc
  match c, hc with
  | 0, _ => decide
  | 1, _ => decide
  | 2, _ => decide
  | 3, _ => decide
  | 4, _ => decide
  | 5, _ => decide
  | 6, _ => decide
