def cn (f : Nat → Bool) : Nat → Nat
  | 0 => 0
  | n + 1 => cn f n + (f n).toNat
theorem cn_le {f f' : Nat → Bool} : ∀ n, (∀ j, j < n → f' j = true → f j = true) → cn f' n ≤ cn f n := by
  intro n
  induction n with
  | zero => intro _; exact Nat.le_refl _
  | succ n ih =>
    intro h
    have a := ih (fun j hj => h j (by omega))
    have b := h n (by omega)
    show cn f' n + (f' n).toNat ≤ cn f n + (f n).toNat
    cases e : f' n with
    | false => simp; omega
    | true => rw [b e]; simp; omega
theorem cn_lt {f f' : Nat → Bool} : ∀ n, (∀ j, j < n → f' j = true → f j = true) → (∃ j, j < n ∧ f j = true ∧ f' j = false) → cn f' n < cn f n := by
  intro n
  induction n with
  | zero => rintro _ ⟨j, hj, -⟩; omega
  | succ n ih =>
    rintro h ⟨j, hj, h1, h2⟩
    show cn f' n + (f' n).toNat < cn f n + (f n).toNat
    by_cases e : j = n
    · subst e
      have a := cn_le (f := f) (f' := f') j (fun i hi => h i (by omega))
      rw [h1, h2]; simp; omega
    · have a := ih (fun i hi => h i (by omega)) ⟨j, by omega, h1, h2⟩
      have b := h n (by omega)
      cases e : f' n with
      | false => simp; omega
      | true => rw [b e]; simp; omega
theorem cn_n (f : Nat → Bool) : ∀ n, cn f n ≤ n := by
  intro n
  induction n with
  | zero => exact Nat.le_refl _
  | succ n ih =>
    show cn f n + (f n).toNat ≤ n + 1
    have := Bool.toNat_le (f n)
    omega
def YK (z : Nat) (Y : yT) (K : Nat → Nat) : Prop := ∀ k, k < lm z → Y.2 2 k = Int32.ofNat (K k) ∧ K k ≤ 2
section REACT2
variable {M : mT} {z : Nat} {bg : Bool} {Y0 : yT}
/-- where a pass begins -/
def vB (M : mT) (V : vT) (mo co : Int32) : vT := v1w (v1w ((fm_reaD 33 ((fm_reaC 17 ((fm_reaB 3257 M V mo co (0 : Int32)).2) mo co (0 : Int32)).2) mo co (0 : Int32)).2) 0 (0 : Int32)) 1 (0 : Int32)
theorem vB_ok (hm : M.1 0 = Int32.ofNat z) (hz : z ≤ 120) (V : vT) (mo co : Int32) : eV me0 bg 0 (vB M V mo co) ∧ vR (16 + 27 * z) (fun _ => false) (fun _ => false) (fun _ => false) (vB M V mo co) ∧ (vB M V mo co).1 1 = 0 := by
  have hl : lm z ≤ 3256 := by unfold lm; omega
  obtain ⟨b1, b2⟩ := reaB_eq hm hz mo co 3257 0 V (by omega) (by omega)
  obtain ⟨c1, c2⟩ := reaC_eq mo co 17 0 (fm_reaB 3257 M V mo co (0 : Int32)).2 (by omega) (by omega)
  obtain ⟨d1, d2⟩ := reaD_eq mo co 33 0 (fm_reaC 17 (fm_reaB 3257 M V mo co (0 : Int32)).2 mo co (0 : Int32)).2 (by omega) (by omega)
  have e : ∀ c j, (vB M V mo co).2 c j = if c = 0 ∧ 0 ≤ j ∧ j < 32 then 0 else if c = 3 ∧ 0 ≤ j ∧ j < 16 then Int32.ofNat j else if (c = 1 ∨ c = 2) ∧ 0 ≤ j ∧ j < lm z then 0 else V.2 c j := fun c j => by
    refine (d2 c j).trans ?_
    congr 1
    refine (c2 c j).trans ?_
    congr 1
    exact b2 c j
  refine ⟨⟨fun s hs => ?_, fun _ => ?_⟩, ⟨fun k hk => ?_, fun k hk => ?_, fun p hp => ?_⟩, ?_⟩
  · rw [e, if_neg (by omega), if_pos (by omega)]
    unfold me0
    rw [show s % 16 = s by omega]
  · show (v1w (v1w _ 0 _) 1 _).1 0 = _
    rw [v1w_at, if_neg (by decide), v1w_at, if_pos rfl]; rfl
  · rw [e, if_neg (by omega), if_neg (by omega), if_pos ⟨Or.inl rfl, by omega, hk⟩]; rfl
  · rw [e, if_neg (by omega), if_neg (by omega), if_pos ⟨Or.inr rfl, by omega, hk⟩]; rfl
  · rw [e, if_pos (by omega)]; rfl
  · show (v1w (v1w _ 0 _) 1 _).1 1 = _
    rw [v1w_at, if_pos rfl]
theorem pass_ok (hF : mF M z) (hm : M.1 0 = Int32.ofNat z) (h0 : 0 < z) {K : Nat → Nat} {Y : yT} (hg : Y.2 0 = Y0.2 0) (hY : ∀ p, p < 32 → Y0.2 0 p = b2i (ysel Y0 p)) (hsel : bg = false → ghas (gOf M Y0 z) 0 = true) (hb : Y.1 2 = b2i bg) (hK : YK z Y K) (V : vT) (mo co : Int32) :
    (fm_run 121 M Y (vB M V mo co) (0 : Int32) (Y.1 2) (1 : Int32)).1 = fm_outcome (cE (occ (rF (gOf M Y0 z) 121 bg K))) (mN (omc (rF (gOf M Y0 z) 121 bg K))) ∧ vR (lm z) (omf (rF (gOf M Y0 z) 121 bg K)) (ocf (rF (gOf M Y0 z) 121 bg K)) (sN (rt (gOf M Y0 z) 121 bg false (kS K)).2) (fm_run 121 M Y (vB M V mo co) (0 : Int32) (Y.1 2) (1 : Int32)).2 ∧ ((∀ k, 16 ≤ k → k < lm z → K k ≠ 2) → (fm_run 121 M Y (vB M V mo co) (0 : Int32) (Y.1 2) (1 : Int32)).2.1 1 = 0) := by
  have hz := hF.1
  have es : ysel Y = ysel Y0 := by unfold ysel; rw [hg]
  have eg : gOf M Y z = gOf M Y0 z := by unfold gOf; rw [es]
  obtain ⟨a1, a2, a3⟩ := vB_ok (bg := bg) hm hz V mo co
  have r := sr_run (Y := Y) hF (K := K) hK (fun p hp => by rw [hg, es]; exact hY p hp) 121 me0 0 bg 0 true h0 (by omega) (by decide) me0_lt (by rw [eg]; exact hsel) (vB M V mo co) (kS K) (fun _ => false) (fun _ => false) a1 rfl a2
  obtain ⟨b1, -, -, b4, b5⟩ := r
  rw [eg] at b1 b4
  dsimp only at b1 b4 b5
  rw [hb]
  refine ⟨b1, b4.cg (fun k => ?_) (fun k => ?_) (fun _ => rfl), fun q => b5 q a3⟩
  · rfl
  · rfl
theorem stp_lt4 {g : gP} {n : Nat} {K : Nat → Nat} {k : Nat} (h : k < 4) : stp g n bg K k = K k := by
  unfold stp
  rw [if_neg (by omega)]
theorem stp_n2 {g : gP} {n : Nat} {K : Nat → Nat} {k : Nat} (h : K k ≠ 2) : stp g n bg K k = K k := by
  unfold stp
  rw [if_neg (fun q => h q.2)]
theorem stp_2 {g : gP} {n : Nat} {K : Nat → Nat} {k : Nat} (h : K k ≤ 2) : stp g n bg K k ≤ 2 := by
  unfold stp
  split
  · split
    · omega
    · split <;> omega
  · exact h
theorem learn_ok (hm : M.1 0 = Int32.ofNat z) (hz : z ≤ 120) {g : gP} {K : Nat → Nat} {N : Nat → Bool} {Y : yT} {V : vT} (hK : YK z Y K) (h0 : ∀ k, lm z ≤ k → K k = 0) (hV : vR (lm z) (omf (rF g 121 bg K)) (ocf (rF g 121 bg K)) N V) :
    (fm_learns M Y V).2.1 = Y.1 ∧ (∀ c, c ≠ 2 → (fm_learns M Y V).2.2 c = Y.2 c) ∧ YK z (fm_learns M Y V).2 (stp g 121 bg K) ∧ ((fm_learns M Y V).1 = 0 → ∀ k, stp g 121 bg K k = K k) ∧ ((fm_learns M Y V).1 ≠ 0 → ∃ j, j < lm z ∧ K j = 2 ∧ stp g 121 bg K j ≠ 2) := by
  have hl : lm z ≤ 3256 := by unfold lm; omega
  have hl16 : 16 ≤ lm z := by unfold lm; omega
  have i2 : ∀ k, k < lm z → (Y.2 2 k = (2 : Int32) ↔ K k = 2) := fun k hk => by
    rw [(hK k hk).1]
    exact ⟨fun q => o_inj (b := 2) (by have := (hK k hk).2; omega) (by omega) q, fun q => by rw [q]; rfl⟩
  have hw : ∀ j, 4 ≤ j → j < lm z → nwS Y V j = Int32.ofNat (stp g 121 bg K j) := fun j h4 hj => by
    unfold nwS stp
    rw [hV.1 j hj, hV.2.1 j hj]
    by_cases q : K j = 2
    · have q' := (i2 j hj).mpr q
      rw [if_pos (show 4 ≤ j ∧ K j = 2 from ⟨h4, q⟩)]
      cases m : omf (rF g 121 bg K) j with
      | true => rw [if_pos ⟨q', Or.inl (by decide)⟩]; rfl
      | false =>
        cases c : ocf (rF g 121 bg K) j with
        | true =>
          rw [if_neg (fun t => t.2.elim (fun u => u rfl) (fun u => by revert u; decide))]
          exact q'
        | false => rw [if_pos ⟨q', Or.inr rfl⟩]; rfl
    · rw [if_neg (fun t => q ((i2 j hj).mp t.1)), if_neg (fun t => q t.2)]
      exact (hK j hj).1
  obtain ⟨a, b, c⟩ := lrnL_eq hm hz V (fun j => Int32.ofNat (stp g 121 bg K j)) 3257 4 Y 0 (by omega) (by omega) hw
  obtain ⟨a1, a2, a3⟩ := a
  refine ⟨a1, a2, fun k hk => ⟨?_, stp_2 (hK k hk).2⟩, fun h k => ?_, fun h => ?_⟩
  · refine (a3 k).trans ?_
    by_cases q : 4 ≤ k
    · rw [if_pos ⟨q, hk⟩]
    · rw [if_neg (by omega), stp_lt4 (by omega)]
      exact (hK k hk).1
  · by_cases q : 4 ≤ k ∧ k < lm z
    · have t := (b h).2 k q.1 q.2
      rw [(hK k q.2).1] at t
      exact o_inj (by have := stp_2 (bg := bg) (g := g) (n := 121) (hK k q.2).2; omega) (by have := (hK k q.2).2; omega) t
    · by_cases q4 : k < 4
      · exact stp_lt4 q4
      · exact stp_n2 (by rw [h0 k (by omega)]; decide)
  · rcases c h with t | ⟨j, j1, j2, j3, j4⟩
    · exact absurd rfl t
    · exact ⟨j, j2, (i2 j j2).mp j3, fun t => j4 (by rw [t]; rfl)⟩
theorem reaW_0 (n : Nat) (M : mT) (Y : yT) (V : vT) (co : Int32) : fm_reaW n M Y V 0 co = (0, co, Y, V) := by
  cases n with
  | zero => rfl
  | succ n => rw [fm_reaW, if_pos rfl]
theorem itK_sh {g : gP} {n : Nat} {K : Nat → Nat} (m : Nat) : itK g n bg (stp g n bg K) m = itK g n bg K (m + 1) := by
  induction m with
  | zero => rfl
  | succ m ih => show stp g n bg (itK g n bg (stp g n bg K) m) = _; rw [ih]; rfl
theorem reaW_ok (hF : mF M z) (hm : M.1 0 = Int32.ofNat z) (hz0 : 0 < z) (hY : ∀ p, p < 32 → Y0.2 0 p = b2i (ysel Y0 p)) (hsel : bg = false → ghas (gOf M Y0 z) 0 = true) : ∀ (n : Nat) (K : Nat → Nat) (Y : yT) (V : vT) (mo co : Int32), ¬ mo = 0 → Y.2 0 = Y0.2 0 → Y.1 2 = b2i bg → YK z Y K → (∀ k, lm z ≤ k → K k = 0) → cn (fun k => decide (K k = 2)) (lm z) < n →
    ∃ m, (∀ k, stp (gOf M Y0 z) 121 bg (itK (gOf M Y0 z) 121 bg K m) k = itK (gOf M Y0 z) 121 bg K m k) ∧ (fm_reaW n M Y V mo co).2.1 = mN (omc (rF (gOf M Y0 z) 121 bg (itK (gOf M Y0 z) 121 bg K m))) ∧ (fm_reaW n M Y V mo co).2.2.1.1 = Y.1 ∧ (∀ c, c ≠ 2 → (fm_reaW n M Y V mo co).2.2.1.2 c = Y.2 c) ∧ YK z (fm_reaW n M Y V mo co).2.2.1 (itK (gOf M Y0 z) 121 bg K m) ∧ (∀ p, p < 32 → (fm_reaW n M Y V mo co).2.2.2.2 0 p = b2i (sN (rt (gOf M Y0 z) 121 bg false (kS (itK (gOf M Y0 z) 121 bg K m))).2 p)) ∧ ((∀ k, 16 ≤ k → k < lm z → itK (gOf M Y0 z) 121 bg K m k ≠ 2) → (fm_reaW n M Y V mo co).2.2.2.1 1 = 0) := by
  have hz := hF.1
  intro n
  induction n with
  | zero => intro K Y V mo co _ _ _ _ _ h; omega
  | succ n ih =>
    intro K Y V mo co hmo hg hb hK h0 hn
    obtain ⟨p1, p2, p3⟩ := pass_ok hF hm hz0 hg hY hsel hb hK V mo co
    obtain ⟨l1, l2, l3, l4, l5⟩ := learn_ok hm hz hK h0 p2
    rw [fm_reaW, if_neg hmo]
    change ∃ m, _ ∧ (fm_reaW n M (fm_learns M Y (fm_run 121 M Y (vB M V mo co) (0 : Int32) (Y.1 2) (1 : Int32)).2).2 (fm_run 121 M Y (vB M V mo co) (0 : Int32) (Y.1 2) (1 : Int32)).2 (fm_learns M Y (fm_run 121 M Y (vB M V mo co) (0 : Int32) (Y.1 2) (1 : Int32)).2).1 (fm_mustOf (fm_run 121 M Y (vB M V mo co) (0 : Int32) (Y.1 2) (1 : Int32)).1)).2.1 = _ ∧ (fm_reaW n M (fm_learns M Y (fm_run 121 M Y (vB M V mo co) (0 : Int32) (Y.1 2) (1 : Int32)).2).2 (fm_run 121 M Y (vB M V mo co) (0 : Int32) (Y.1 2) (1 : Int32)).2 (fm_learns M Y (fm_run 121 M Y (vB M V mo co) (0 : Int32) (Y.1 2) (1 : Int32)).2).1 (fm_mustOf (fm_run 121 M Y (vB M V mo co) (0 : Int32) (Y.1 2) (1 : Int32)).1)).2.2.1.1 = _ ∧ (∀ c, _ → (fm_reaW n M (fm_learns M Y (fm_run 121 M Y (vB M V mo co) (0 : Int32) (Y.1 2) (1 : Int32)).2).2 (fm_run 121 M Y (vB M V mo co) (0 : Int32) (Y.1 2) (1 : Int32)).2 (fm_learns M Y (fm_run 121 M Y (vB M V mo co) (0 : Int32) (Y.1 2) (1 : Int32)).2).1 (fm_mustOf (fm_run 121 M Y (vB M V mo co) (0 : Int32) (Y.1 2) (1 : Int32)).1)).2.2.1.2 c = _) ∧ YK z (fm_reaW n M (fm_learns M Y (fm_run 121 M Y (vB M V mo co) (0 : Int32) (Y.1 2) (1 : Int32)).2).2 (fm_run 121 M Y (vB M V mo co) (0 : Int32) (Y.1 2) (1 : Int32)).2 (fm_learns M Y (fm_run 121 M Y (vB M V mo co) (0 : Int32) (Y.1 2) (1 : Int32)).2).1 (fm_mustOf (fm_run 121 M Y (vB M V mo co) (0 : Int32) (Y.1 2) (1 : Int32)).1)).2.2.1 _ ∧ (∀ p, _ → (fm_reaW n M (fm_learns M Y (fm_run 121 M Y (vB M V mo co) (0 : Int32) (Y.1 2) (1 : Int32)).2).2 (fm_run 121 M Y (vB M V mo co) (0 : Int32) (Y.1 2) (1 : Int32)).2 (fm_learns M Y (fm_run 121 M Y (vB M V mo co) (0 : Int32) (Y.1 2) (1 : Int32)).2).1 (fm_mustOf (fm_run 121 M Y (vB M V mo co) (0 : Int32) (Y.1 2) (1 : Int32)).1)).2.2.2.2 0 p = _) ∧ (_ → (fm_reaW n M (fm_learns M Y (fm_run 121 M Y (vB M V mo co) (0 : Int32) (Y.1 2) (1 : Int32)).2).2 (fm_run 121 M Y (vB M V mo co) (0 : Int32) (Y.1 2) (1 : Int32)).2 (fm_learns M Y (fm_run 121 M Y (vB M V mo co) (0 : Int32) (Y.1 2) (1 : Int32)).2).1 (fm_mustOf (fm_run 121 M Y (vB M V mo co) (0 : Int32) (Y.1 2) (1 : Int32)).1)).2.2.2.1 1 = 0)
    revert p1 p2 p3 l1 l2 l3 l4 l5
    generalize fm_run 121 M Y (vB M V mo co) (0 : Int32) (Y.1 2) (1 : Int32) = r
    generalize fm_learns M Y r.2 = L
    intro p1 p2 p3 l1 l2 l3 l4 l5
    by_cases q : L.1 = 0
    · have e := l4 q
      have e' : stp (gOf M Y0 z) 121 bg K = K := funext e
      rw [q, reaW_0]
      refine ⟨0, e, ?_, l1, l2, ?_, fun p hp => p2.2.2 p hp, p3⟩
      · show fm_mustOf r.1 = _
        rw [p1]
        exact (out_ok _ _).2
      · rw [e'] at l3
        exact l3
    · obtain ⟨m, x1, x2, x3, x4, x5, x6, x7⟩ := ih (stp (gOf M Y0 z) 121 bg K) L.2 r.2 L.1 (fm_mustOf r.1) q ((l2 0 (by decide)).trans hg) (by rw [l1]; exact hb) l3 (fun k hk => by rw [stp_n2 (by rw [h0 k hk]; decide)]; exact h0 k hk) (by
        have : cn (fun k => decide (stp (gOf M Y0 z) 121 bg K k = 2)) (lm z) < cn (fun k => decide (K k = 2)) (lm z) := by
          refine cn_lt _ (fun j _ t => ?_) ?_
          · rw [decide_eq_true_eq] at t ⊢
            by_cases u : K j = 2
            · exact u
            · rw [stp_n2 u] at t; exact t
          · obtain ⟨j, j1, j2, j3⟩ := l5 q
            exact ⟨j, j1, decide_eq_true j2, decide_eq_false j3⟩
        omega)
      rw [itK_sh] at x1 x2 x5 x6 x7
      exact ⟨m + 1, x1, x2, x3.trans l1, fun c hc => (x4 c hc).trans (l2 c hc), x5, x6, x7⟩
end REACT2
