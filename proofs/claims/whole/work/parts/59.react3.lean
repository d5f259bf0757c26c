section REACT3
variable {M : mT} {z : Nat} {bg : Bool} {Y : yT}
theorem reaE_ok (Y : yT) (co : Int32) : ∀ (n k : Nat) (V : vT), 16 ≤ k + n → k ≤ 16 → (fm_reaE n Y V co (Int32.ofNat k)).2.2 = V.2 ∧ ((fm_reaE n Y V co (Int32.ofNat k)).2.1 1 = 0 ↔ V.1 1 = 0 ∧ ∀ j, k ≤ j → j < 16 → Y.2 2 j ≠ (2 : Int32)) := by
  intro n
  induction n with
  | zero => intro k V h1 h2; exact ⟨rfl, ⟨fun h => ⟨h, fun j _ _ => by omega⟩, fun h => h.1⟩⟩
  | succ n ih =>
    intro k V h1 h2
    rw [fm_reaE]
    by_cases q : 16 ≤ k
    · have : (16 : Int32) ≤ Int32.ofNat k := (o_le (a := 16) (by omega) (by omega)).mpr q
      rw [if_pos this]
      exact ⟨rfl, ⟨fun h => ⟨h, fun j _ _ => by omega⟩, fun h => h.1⟩⟩
    · have : ¬ (16 : Int32) ≤ Int32.ofNat k := fun t => q ((o_le (a := 16) (by omega) (by omega)).mp t)
      rw [if_neg this, n_of (by omega), o_add]
      by_cases v : V.1 1 = 0
      · rw [if_pos v]
        by_cases s : Y.2 2 k = (2 : Int32)
        · rw [if_pos s]
          obtain ⟨a, b⟩ := ih (k + 1) (v1w V 1 1) (by omega) (by omega)
          refine ⟨a, ?_⟩
          rw [b, v1w_at, if_pos rfl]
          exact ⟨fun h => absurd h.1 (by decide), fun h => absurd s (h.2 k (Nat.le_refl _) (by omega))⟩
        · rw [if_neg s]
          obtain ⟨a, b⟩ := ih (k + 1) (v1w V 1 0) (by omega) (by omega)
          refine ⟨a, ?_⟩
          rw [b, v1w_at, if_pos rfl]
          refine ⟨fun h => ⟨v, fun j x y => ?_⟩, fun h => ⟨rfl, fun j x y => h.2 j (by omega) y⟩⟩
          by_cases e : j = k
          · subst e; exact s
          · exact h.2 j (by omega) y
      · rw [if_neg v]
        obtain ⟨a, b⟩ := ih (k + 1) (v1w V 1 1) (by omega) (by omega)
        refine ⟨a, ?_⟩
        rw [b, v1w_at, if_pos rfl]
        exact ⟨fun h => absurd h.1 (by decide), fun h => absurd h.1 v⟩
theorem rF_out {g : gP} (hW : gW g z) (h0 : 0 < z) {n : Nat} {K : Nat → Nat} {k : Nat} (hk : lm z ≤ k) : ocf (rF g n bg K) k = false := by
  have hl : lm z = 16 + 27 * z := rfl
  refine cf_false (Me := fun k => ∃ s, me0 s = k) (ge_fr hW false n me0 0 bg 0 true h0 (by decide) (kS K)).1 ?_ ?_
  · rintro ⟨s, hs⟩
    have := me0_lt s
    omega
  · intro q
    have a := q.2.2.1
    have b := (hW 0 h0).2.1
    omega
theorem k0_inv {g : gP} (hW : gW g z) (h0 : 0 < z) {n : Nat} (inp : Int32) : kInv g n bg (k0 z inp) := by
  intro k
  refine ⟨?_, fun h => ?_, fun h => ⟨fun q => ?_, fun q => ?_⟩⟩
  · unfold k0
    split
    · have := Bool.toNat_le (xb inp k); omega
    · split <;> omega
  · unfold k0
    rw [if_pos h]
    exact Bool.toNat_le _
  · unfold k0 at q
    rw [if_neg (by omega)] at q
    split at q
    · omega
    · exact rF_out hW h0 (by omega)
  · unfold k0 at q
    rw [if_neg (by omega)] at q
    split at q <;> omega
theorem it_inv {g : gP} (hW : gW g z) (h0 : 0 < z) {n : Nat} {K : Nat → Nat} (h : kInv g n bg K) (m : Nat) : kInv g n bg (itK g n bg K m) := by
  induction m with
  | zero => exact h
  | succ m ih => exact stp_inv hW h0 ih
theorem rF_c7 (hF : mF M z) (h0 : 0 < z) {K : Nat → Nat} {c : Nat} (h : occ (rF (gOf M Y z) 121 bg K) c = true) : c < 7 := by
  have a := ge_cc (gW_of (Y := Y) hF) (gT_of (Y := Y) hF) false 121 me0 0 bg 0 true h0 (kS K) c h
  have := (hF.2.1 0 h0).2.2.2.1.1
  omega
theorem react_ok (hF : mF M z) (hm : M.1 0 = Int32.ofNat z) (h0 : 0 < z) (hY : ∀ p, p < 32 → Y.2 0 p = b2i (ysel Y p)) (hsel : bg = false → ghas (gOf M Y z) 0 = true) (hb : Y.1 2 = b2i bg) (V : vT) (inp : Int32) :
    ∃ m, (∀ k, stp (gOf M Y z) 121 bg (itK (gOf M Y z) 121 bg (k0 z inp) m) k = itK (gOf M Y z) 121 bg (k0 z inp) m k) ∧ (fm_react M Y V inp).1 = mN (omc (rF (gOf M Y z) 121 bg (itK (gOf M Y z) 121 bg (k0 z inp) m))) ∧ (fm_react M Y V inp).2.1.1 = Y.1 ∧ (∀ c, c ≠ 2 → (fm_react M Y V inp).2.1.2 c = Y.2 c) ∧ YK z (fm_react M Y V inp).2.1 (itK (gOf M Y z) 121 bg (k0 z inp) m) ∧ (∀ p, p < 32 → (fm_react M Y V inp).2.2.2 0 p = b2i (sN (rt (gOf M Y z) 121 bg false (kS (itK (gOf M Y z) 121 bg (k0 z inp) m))).2 p)) := by
  have hz := hF.1
  have hl : lm z ≤ 3256 := by unfold lm; omega
  have hl16 : 16 ≤ lm z := by unfold lm; omega
  have hW := gW_of (Y := Y) hF
  obtain ⟨a1, a2, a3⟩ := reaA_eq hm hz inp 3257 0 Y (by omega) (by omega)
  have hi := k0_inv (bg := bg) (n := 121) hW h0 inp
  obtain ⟨m, w1, w2, w3, w4, w5, w6, w7⟩ := reaW_ok (Y0 := Y) hF hm h0 hY hsel 3260 (k0 z inp) (fm_reaA 3257 M Y inp (0 : Int32)).2 V 1 (-1) (by decide) (a2 0 (by decide)) (by
      have : (fm_reaA 3257 M Y inp (0 : Int32)).2.1 = Y.1 := a1
      rw [this]; exact hb) (fun k hk => ⟨by
      refine (a3 k).trans ?_
      rw [if_pos ⟨Nat.zero_le _, hk⟩], (hi k).1⟩) (fun k hk => by unfold k0; rw [if_neg (by omega), if_neg (by omega)]) (by
      have := cn_n (fun k => decide (k0 z inp k = 2)) (lm z)
      omega)
  refine ⟨m, w1, ?_⟩
  have iv := it_inv hW h0 hi m
  have fx := fx_of iv w1
  unfold fm_react
  revert w2 w3 w4 w5 w6 w7
  generalize fm_reaW 3260 M (fm_reaA 3257 M Y inp (0 : Int32)).2 V (1 : Int32) (-1 : Int32) = R
  intro w2 w3 w4 w5 w6 w7
  obtain ⟨e1, e2⟩ := reaE_ok R.2.2.1 R.2.1 17 4 R.2.2.2 (by omega) (by omega)
  have d : (fm_reaE 17 R.2.2.1 R.2.2.2 R.2.1 (4 : Int32)).2.1 1 = 0 ∨ R.2.1 = (-1 : Int32) := by
    by_cases q : ∃ c, omc (rF (gOf M Y z) 121 bg (itK (gOf M Y z) 121 bg (k0 z inp) m)) c = true
    · left
      obtain ⟨c, hc⟩ := q
      have nu : ∀ k, 4 ≤ k → itK (gOf M Y z) 121 bg (k0 z inp) m k ≠ 2 := fun k hk t => by
        obtain ⟨x1, x2⟩ := (fx k hk).2.1 t
        have := ((rF_ok (itK (gOf M Y z) 121 bg (k0 z inp) m)).2.2.2 c hc).2 k x1
        rw [x2] at this
        cases this
      refine e2.mpr ⟨w7 (fun k hk _ => nu k (by omega)), fun j j1 j2 t => ?_⟩
      rw [(w5 j (by omega)).1] at t
      exact nu j j1 (o_inj (b := 2) (by have := (w5 j (by omega)).2; omega) (by omega) t)
    · right
      rw [w2]
      exact mN_none (fun c => by
        cases e : omc (rF (gOf M Y z) 121 bg (itK (gOf M Y z) 121 bg (k0 z inp) m)) c with
        | false => rfl
        | true => exact absurd ⟨c, e⟩ q)
  have c4 : ∀ c, c ≠ 2 → R.2.2.1.2 c = Y.2 c := fun c hc => (w4 c hc).trans (a2 c hc)
  have v6 : ∀ p, p < 32 → (fm_reaE 17 R.2.2.1 R.2.2.2 R.2.1 (4 : Int32)).2.2 0 p = b2i (sN (rt (gOf M Y z) 121 bg false (kS (itK (gOf M Y z) 121 bg (k0 z inp) m))).2 p) := fun p hp => by
    have : (fm_reaE 17 R.2.2.1 R.2.2.2 R.2.1 (4 : Int32)).2.2 = R.2.2.2.2 := e1
    rw [this]
    exact w6 p hp
  by_cases f : (fm_reaE 17 R.2.2.1 R.2.2.2 R.2.1 (4 : Int32)).2.1 1 = 0
  · rw [if_pos f]
    exact ⟨w2, w3.trans a1, c4, w5, v6⟩
  · rw [if_neg f]
    exact ⟨(d.resolve_left f).symm.trans w2, w3.trans a1, c4, w5, v6⟩
end REACT3
/-! passes of the class end -/
def Dec (X X' : xT) : Prop := (∀ j, X'.2.1 j = (2 : Int32) → X.2.1 j = (2 : Int32)) ∧ (¬ X'.1 5 = 0 → ¬ X.1 5 = 0 ∨ ∃ j, j < 360 ∧ X.2.1 j = (2 : Int32) ∧ ¬ X'.2.1 j = (2 : Int32))
theorem Dec.rf {X : xT} : Dec X X := ⟨fun _ h => h, Or.inl⟩
theorem Dec.tr {X X1 X2 : xT} (h1 : Dec X X1) (h2 : Dec X1 X2) : Dec X X2 := by
  refine ⟨fun j h => h1.1 j (h2.1 j h), fun h => ?_⟩
  rcases h2.2 h with q | ⟨j, j1, j2, j3⟩
  · rcases h1.2 q with q | ⟨j, j1, j2, j3⟩
    · exact Or.inl q
    · exact Or.inr ⟨j, j1, j2, fun t => j3 (h2.1 j t)⟩
  · exact Or.inr ⟨j, j1, h1.1 j j2, j3⟩
theorem Dec.w {X : xT} {k : Nat} {v : Int32} (h : k ≠ 5) : Dec X (xw X k v) := ⟨fun _ h => h, fun q => by rw [xw_at, if_neg (by omega)] at q; exact Or.inl q⟩
theorem Dec.w' {X X' : xT} {k : Nat} {v : Int32} (h : k ≠ 5) (d : Dec X X') : Dec X (xw X' k v) := d.tr (Dec.w h)
section DEC
variable {P : pT} {R : krT}
theorem dec_and (hR : ∀ X a r b, Dec X (R X a r b).2) {X0 X : xT} (d : Dec X0 X) (w : Int64) (a r : Int32) : Dec X0 (fr_andThen R X w a r).2 := by
  unfold fr_andThen
  split
  · exact d
  · exact d.tr (hR _ _ _ _)
theorem dec_pre (hR : ∀ X a r b, Dec X (R X a r b).2) (X : xT) (a r b : Int32) : Dec X (fr_beginPresent R P X a r b).2 := by
  unfold fr_beginPresent
  split
  · exact hR _ _ _ _
  · split
    · exact hR _ _ _ _
    · exact (hR _ _ _ _).tr (hR _ _ _ _)
theorem dec_beg (hR : ∀ X a r b, Dec X (R X a r b).2) (X : xT) (a r b : Int32) : Dec X (fr_begin R P X a r b).2 := by
  unfold fr_begin
  split
  · exact Dec.w (by decide)
  split
  · exact Dec.rf
  split
  · exact Dec.rf
  split
  · exact dec_pre hR _ _ _ _
  split
  · exact hR _ _ _ _
  split
  · exact dec_and hR (hR _ _ _ _) _ _ _
  split
  · exact (hR _ _ _ _).tr (hR _ _ _ _)
  split
  · exact hR _ _ _ _
  · exact Dec.rf
theorem dec_br (hR : ∀ X a r b, Dec X (R X a r b).2) (X : xT) (a b : Int32) : Dec X (fr_resumeBranch R P X a b).2 := by
  unfold fr_resumeBranch
  split
  · exact Dec.rf
  · exact hR _ _ _ _
theorem dec_sus (hR : ∀ X a r b, Dec X (R X a r b).2) (X : xT) (a b : Int32) : Dec X (fr_resumeSuspend R P X a b).2 := by
  unfold fr_resumeSuspend
  split
  · exact hR _ _ _ _
  split
  · exact Dec.w (by decide)
  · exact hR _ _ _ _
theorem dec_res (hR : ∀ X a r b, Dec X (R X a r b).2) (X : xT) (a b : Int32) : Dec X (fr_resume R P X a b).2 := by
  unfold fr_resume
  split
  · split <;> exact hR _ _ _ _
  split
  · exact dec_sus hR _ _ _
  split
  · split
    · exact hR _ _ _ _
    · exact dec_and hR (hR _ _ _ _) _ _ _
  split
  · exact (dec_br hR _ _ _).tr (dec_br hR _ _ _)
  split
  · exact dec_and hR (hR _ _ _ _) _ _ _
  · exact Dec.rf
theorem dec_trap (hR : ∀ X a r b, Dec X (R X a r b).2) (X : xT) (a r b : Int32) : Dec X (fr_runTrap R P X a r b).2 := by
  unfold fr_runTrap
  split
  · exact (hR _ _ _ _).w' (by decide)
  · exact hR _ _ _ _
theorem dec_rws (hR : ∀ X a r b, Dec X (R X a r b).2) (X : xT) (a r b : Int32) : Dec X (fr_runWithStatus R P X a r b).2 := by
  rw [rws_eq]
  exact ((Dec.w (by decide)).w' (by decide)).tr (hR _ _ _ _)
theorem dec_lrn (hR : ∀ X a r b, Dec X (R X a r b).2) {X : xT} {sl v : Int32} (h : fr_statusAt X sl = (2 : Int32)) (hv : ¬ v = (2 : Int32)) : Dec X (fr_learnStatus X sl v) := by
  unfold fr_learnStatus
  unfold fr_statusAt at h
  by_cases q1 : sl < 0
  · rw [if_pos q1]; exact Dec.rf
  rw [if_neg q1] at h ⊢
  by_cases q2 : (360 : Int32) ≤ sl
  · rw [if_pos q2]; exact Dec.rf
  rw [if_neg q2] at h ⊢
  have hn : sl.toNatClampNeg < 360 := by
    rw [Int32.lt_iff_toInt_lt, show (0 : Int32).toInt = 0 from rfl] at q1
    rw [Int32.le_iff_toInt_le, show (360 : Int32).toInt = 360 from rfl] at q2
    show sl.toInt.toNat < 360
    omega
  refine ⟨fun j hj => ?_, fun _ => Or.inr ⟨_, hn, h, ?_⟩⟩
  · have hj' : (xa X sl.toNatClampNeg v).2.1 j = (2 : Int32) := hj
    rw [xa_2] at hj'
    split at hj'
    · exact absurd hj' hv
    · exact hj'
  · show ¬ (xa X sl.toNatClampNeg v).2.1 sl.toNatClampNeg = (2 : Int32)
    rw [xa_2, if_pos rfl]
    exact hv
theorem dec_ll (hR : ∀ X a r b, Dec X (R X a r b).2) {X : xT} {sl sg : Int32} {w : Int64} (h : fr_statusAt X sl = (2 : Int32)) : Dec X (fr_learnLocal X sl sg w).2 := by
  unfold fr_learnLocal
  split
  · split
    · exact dec_lrn hR h (by decide)
    · exact Dec.rf
  · exact dec_lrn hR h (by decide)
theorem dec_loc (hR : ∀ X a r b, Dec X (R X a r b).2) (X : xT) (a r b : Int32) : Dec X (fr_runLocal R P X a r b).2 := by
  unfold fr_runLocal
  split
  · next h =>
    split
    · exact (((dec_rws hR _ _ _ _).tr (dec_ll hR h)).w' (by decide)).w' (by decide)
    · exact ((((dec_rws hR _ _ _ _).tr (dec_ll hR h)).tr (dec_rws hR _ _ _ _)).w' (by decide)).w' (by decide)
  · exact ((dec_rws hR _ _ _ _).w' (by decide)).w' (by decide)
theorem dec_run1 (hR : ∀ X a r b, Dec X (R X a r b).2) (X : xT) (a r b : Int32) : Dec X (fr_run1 R P X a r b).2 := by
  unfold fr_run1
  split
  · exact dec_trap hR _ _ _ _
  split
  · exact dec_loc hR _ _ _ _
  split
  · split
    · exact dec_beg hR _ _ _ _
    · exact dec_res hR _ _ _
  · exact dec_beg hR _ _ _ _
end DEC
theorem dec_run (P : pT) : ∀ (n : Nat) (X : xT) (a r b : Int32), Dec X (fr_run n P X a r b).2 := by
  intro n
  induction n with
  | zero => intro X a r b; exact Dec.rf
  | succ n ih => intro X a r b; exact dec_run1 ih X a r b
