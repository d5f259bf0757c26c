section MV
variable {K : kmT} {Cn : Int32 → Prop} {M : mT} {Y : yT} {V : vT} {i st su : Int32}
theorem present_v (HV : ∀ (V : vT) (a b c : Int32), Cn a → vI V → vI (K V a b c).2) (hc1 : Cn ((M.2 2) i.toNatClampNeg)) (hc2 : Cn ((M.2 3) i.toNatClampNeg)) (hv : vI V) : vI (fm_present K M Y V i st su).2 := by
  unfold fm_present
  repeat' split
  all_goals first | exact HV _ _ _ _ hc1 hv | exact HV _ _ _ _ hc2 hv | exact HV _ _ _ _ hc2 (HV _ _ _ _ hc1 hv)
theorem susL_v : ∀ (n : Nat) (V : vT) (k : Int32), vI V → vI (fm_susL n M Y V i su k).2 := by
  intro n
  induction n with
  | zero => intro V k hv; exact hv
  | succ n ih =>
    intro V k hv
    unfold fm_susL
    repeat' split
    all_goals first | exact hv | exact ih _ _ hv
theorem suspend_v (HV : ∀ (V : vT) (a b c : Int32), Cn a → vI V → vI (K V a b c).2) (hc1 : Cn ((M.2 2) i.toNatClampNeg)) (hv : vI V) : vI (fm_suspend K M Y V i st su).2 := by
  unfold fm_suspend
  by_cases a : fm_susT M Y V i st su = 0
  · rw [if_pos a]; exact HV _ _ _ _ hc1 hv
  rw [if_neg a]
  by_cases b : fm_susT M Y V i st su = (2 : Int32)
  · rw [if_pos b]; exact HV _ _ _ _ hc1 hv
  rw [if_neg b]
  by_cases c : su = 0
  · rw [if_pos c]; exact susL_v _ _ _ hv
  · rw [if_neg c]; exact susL_v _ _ _ hv
theorem behind_v {be th : Int32} (hw : mW M) (hi : mIx M i) (HV : ∀ (V : vT) (a b c : Int32), Cn a → vI V → vI (K V a b c).2) (hc1 : Cn th) (hv : vI V) : vI (fm_behind K M V i be th st su).2 := by
  unfold fm_behind
  repeat' split
  all_goals first | exact hv | exact way_v hv (HV _ _ _ _ hc1 (behW_v hw hi hv))
theorem parallel_v (HV : ∀ (V : vT) (a b c : Int32), Cn a → vI V → vI (K V a b c).2) (hc1 : Cn ((M.2 2) i.toNatClampNeg)) (hc2 : Cn ((M.2 3) i.toNatClampNeg)) (hv : vI V) : vI (fm_parallel K M Y V i st su).2 := by
  unfold fm_parallel
  repeat' split
  all_goals exact side_v HV hc2 (side_v HV hc1 hv)
theorem trpL_v {a mc : Int32} : ∀ (n : Nat) (V : vT) (k : Int32), vI V → vI (fm_trpL n M V i a mc k).2 := by
  intro n
  induction n with
  | zero => intro V k hv; exact hv
  | succ n ih =>
    intro V k hv
    unfold fm_trpL
    repeat' split
    all_goals first | exact hv | exact ih _ _ hv
theorem trap_v (HV : ∀ (V : vT) (a b c : Int32), Cn a → vI V → vI (K V a b c).2) (hc1 : Cn ((M.2 2) i.toNatClampNeg)) (hv : vI V) : vI (fm_trap K M V i st su).2 := by
  unfold fm_trap
  repeat' split
  all_goals exact trpL_v _ _ _ (HV _ _ _ _ hc1 hv)
theorem local_v (hw : mW M) (hi : mIx M i) (hx : vp_in ((M.2 1) i.toNatClampNeg) 16) (HV : ∀ (V : vT) (a b c : Int32), Cn a → vI V → vI (K V a b c).2) (hc1 : Cn ((M.2 2) i.toNatClampNeg)) (hv : vI V) : vI (fm_local K M Y V i st su).2 := by
  unfold fm_local
  exact meant_v (HV _ _ _ _ hc1 (locD_v (meant_v hv (mine_in hw hi hv)))) (vI_at hv hx)
theorem run1_v (hw : mW M) (HV : ∀ (V : vT) (a b c : Int32), Cn a → vI V → vI (K V a b c).2) (hi : mIx M i)
    (hk1 : ¬ (M.2 0) i.toNatClampNeg = (0 : Int32) → ¬ (M.2 0) i.toNatClampNeg = (1 : Int32) → ¬ (M.2 0) i.toNatClampNeg = (2 : Int32) → ¬ (M.2 0) i.toNatClampNeg = (3 : Int32) → Cn ((M.2 2) i.toNatClampNeg))
    (hk2 : (M.2 0) i.toNatClampNeg = (4 : Int32) ∨ (M.2 0) i.toNatClampNeg = (6 : Int32) ∨ (M.2 0) i.toNatClampNeg = (7 : Int32) → Cn ((M.2 3) i.toNatClampNeg)) (hv : vI V) : vI (fm_run1 K M Y V i st su).2 := by
  unfold fm_run1
  by_cases n0 : (M.2 0) i.toNatClampNeg = (0 : Int32)
  · rw [if_pos n0]
    exact fm_simple_v hv
  rw [if_neg n0]
  by_cases n1 : (M.2 0) i.toNatClampNeg = (1 : Int32)
  · rw [if_pos n1]
    by_cases a : st = 0
    · rw [if_pos a]
      by_cases b : su = 0
      · rw [if_pos b]; exact hv
      · rw [if_neg b]; exact hv
    · rw [if_neg a]; exact fm_simple_v hv
  rw [if_neg n1]
  by_cases n2 : (M.2 0) i.toNatClampNeg = (2 : Int32)
  · rw [if_pos n2]
    exact fm_simple_v hv
  rw [if_neg n2]
  by_cases n3 : (M.2 0) i.toNatClampNeg = (3 : Int32)
  · rw [if_pos n3]
    exact fm_simple_v hv
  rw [if_neg n3]
  have h1 := hk1 n0 n1 n2 n3
  by_cases n4 : (M.2 0) i.toNatClampNeg = (4 : Int32)
  · rw [if_pos n4]
    exact present_v HV h1 (hk2 (Or.inl n4)) hv
  rw [if_neg n4]
  by_cases n5 : (M.2 0) i.toNatClampNeg = (5 : Int32)
  · rw [if_pos n5]
    exact suspend_v HV h1 hv
  rw [if_neg n5]
  by_cases n6 : (M.2 0) i.toNatClampNeg = (6 : Int32)
  · rw [if_pos n6]
    have h2 := hk2 (Or.inr (Or.inl n6))
    by_cases a : st = 0
    · rw [if_pos a]
      by_cases b : fm_has M Y ((M.2 2) i.toNatClampNeg) = 0
      · rw [if_pos b]; exact HV _ _ _ _ h2 hv
      · rw [if_neg b]; exact behind_v hw hi HV h2 (HV _ _ _ _ h1 hv)
    · rw [if_neg a]; exact behind_v hw hi HV h2 (HV _ _ _ _ h1 hv)
  rw [if_neg n6]
  by_cases n7 : (M.2 0) i.toNatClampNeg = (7 : Int32)
  · rw [if_pos n7]
    exact parallel_v HV h1 (hk2 (Or.inr (Or.inr n7))) hv
  rw [if_neg n7]
  by_cases n8 : (M.2 0) i.toNatClampNeg = (8 : Int32)
  · rw [if_pos n8]
    by_cases a : st = 0
    · rw [if_pos a]; exact behind_v hw hi HV h1 (HV _ _ _ _ h1 hv)
    · rw [if_neg a]; exact HV _ _ _ _ h1 hv
  rw [if_neg n8]
  by_cases n9 : (M.2 0) i.toNatClampNeg = (9 : Int32)
  · rw [if_pos n9]
    exact trap_v HV h1 hv
  rw [if_neg n9]
  exact local_v hw hi ((hw.2 i hi).2.2.2.2.2.2.1 (so_10 (hw.2 i hi) n0 n1 n2 n3 n4 n5 n6 n7 n8 n9)) HV h1 hv
end MV
def fm_run : Nat → mT → yT → kmT
  | 0, _, _ => fun V _ _ _ => (0, V)
  | n + 1, M, Y => fun V a b c => fm_run1 (fm_run n M Y) M Y V a b c
def mC (M : mT) (n : Nat) (a : Int32) : Prop := mIx M a ∧ (M.1 0).toInt ≤ a.toInt + n
theorem mC_1 {M : mT} {n : Nat} {a : Int32} (hw : mW M) (h : mC M (n + 1) a) (h0 : ¬ (M.2 0) a.toNatClampNeg = (0 : Int32)) (h1 : ¬ (M.2 0) a.toNatClampNeg = (1 : Int32)) (h2 : ¬ (M.2 0) a.toNatClampNeg = (2 : Int32)) (h3 : ¬ (M.2 0) a.toNatClampNeg = (3 : Int32)) : mC M n ((M.2 2) a.toNatClampNeg) := by
  have r := hw.2 a h.1
  have q := r.1.resolve_left (r.2.2.2.2.2.2.2.2.2.1 h0 h1 h2 h3)
  have e := h.2
  exact ⟨q.1, by have := q.2; omega⟩
theorem mC_2 {M : mT} {n : Nat} {a : Int32} (hw : mW M) (h : mC M (n + 1) a) (h2 : (M.2 0) a.toNatClampNeg = (4 : Int32) ∨ (M.2 0) a.toNatClampNeg = (6 : Int32) ∨ (M.2 0) a.toNatClampNeg = (7 : Int32)) : mC M n ((M.2 3) a.toNatClampNeg) := by
  have r := hw.2 a h.1
  have q := r.2.1.resolve_left (r.2.2.2.2.2.2.2.2.2.2.1 h2)
  have e := h.2
  exact ⟨q.1, by have := q.2; omega⟩
theorem fm_run_v {M : mT} {Y : yT} (hw : mW M) : ∀ (n : Nat) (V : vT) (a b c : Int32), mC M n a → vI V → vI (fm_run n M Y V a b c).2 := by
  intro n
  induction n with
  | zero => intro V a b c h hv; exact hv
  | succ n ih =>
    intro V a b c h hv
    exact run1_v (Cn := mC M n) hw ih h.1 (fun h0 h1 h2 h3 => mC_1 hw h h0 h1 h2 h3) (fun q => mC_2 hw h q) hv
theorem tM_runN {l : Launch} {D : va_G} {A : Nat → Prop} {ad : Nat → Nat} {tP : Nat} {cI cZ : ClassId} {S : kT} {P : pT} {X : xT} {tl : List va_E} {tyr : List (ClassId × FieldType)} (T : Int32) (M : mT) (Y : yT) (hw : mW M) : ∀ (n : Nat) (V : vT) (a b c : Int32), mC M n a → vI V → aw_M l yM_run (Cond.code yM_run cM_run 4 (some .int) :: aw_big) (fr_d n) D vwCl ((cI, .int) :: (cZ, .boolean) :: tyr) A ad (zC A tP) [.ref (ad 13), .int a, .int b, .int c] (hC ad cI S P X ++ (hM ad cI cZ T M Y V ++ tl)) (some (.int (fm_run n M Y V a b c).1)) (hC ad cI S P X ++ (hM ad cI cZ T M Y (fm_run n M Y V a b c).2 ++ tl)) := by
  intro n
  induction n with
  | zero =>
    intro V a b c h hv
    have h1 := h.1.2
    have h2 := h.2
    exfalso
    omega
  | succ n ih =>
    intro V a b c h hv
    exact tM_run T M Y V a b c (fr_d6 n) hw (K := fm_run n M Y) (Cn := mC M n) (fun _ q => q.1) (fm_run_v hw n) ih h.1 (fun h0 h1 h2 h3 => mC_1 hw h h0 h1 h2 h3) (fun q => mC_2 hw h q) hv
