/-! THE LAW'S LOOP over a relation of the class's state and the reference's -/
def lwR_minv (R : kT → pT → xT → mT → yT → vT → Prop) : Prop := ∀ {S : kT} {P : pT} {X : xT} {M : mT} {Y : yT} {V : vT}, R S P X M Y V → mS M ∧ mL M ∧ mO M ∧ (M.1 1).toInt ≤ 32
def lwR_pinv (R : kT → pT → xT → mT → yT → vT → Prop) : Prop := ∀ {S : kT} {P : pT} {X : xT} {M : mT} {Y : yT} {V : vT}, R S P X M Y V → pS P ∧ pL P ∧ pO P
def lwR_put (R : kT → pT → xT → mT → yT → vT → Prop) : Prop := ∀ {S : kT} {P : pT} {X : xT} {M : mT} {Y : yT} {V : vT} (T a b : Int32), R S P X M Y V →
    (¬ fp_isWhole P = 0 ∧ (fm_put T M a b).2.1 = 1 ∧ R S P X (fm_put T M a b).2.2 Y V) ∨
    (fp_isWhole P = 0 ∧ fp_allows P a b = 0 ∧ (fm_put T M a b).2.1 = 2 ∧ R S P X (fm_put T M a b).2.2 Y V) ∨
    (fp_isWhole P = 0 ∧ ¬ fp_allows P a b = 0 ∧ (fm_put T M a b).2.1 = 0 ∧ (fk_put P a b).1 = (fm_put T M a b).1 ∧ R S (fk_put P a b).2 X (fm_put T M a b).2.2 Y V)
def lwR_start (R : kT → pT → xT → mT → yT → vT → Prop) : Prop := ∀ {S : kT} {P : pT} {X : xT} {M : mT} {Y : yT} {V : vT} (T : Int32), R S P X M Y V → ((fm_startF T M).1 = 0 → mW M) ∧
    ((fp_isWhole P = 0 ∧ (fm_start T M Y).2.1 = 1 ∧ R S P X M (fm_start T M Y).2.2 V) ∨
     (¬ fp_isWhole P = 0 ∧ (fm_start T M Y).2.1 = 0 ∧ (fk_start S P X).1 = (fm_start T M Y).1 ∧ R (fk_start S P X).2.1 (fk_start S P X).2.2.1 (fk_start S P X).2.2.2 M (fm_start T M Y).2.2 V))
def lwR_clear (R : kT → pT → xT → mT → yT → vT → Prop) : Prop := ∀ {S : kT} {P : pT} {X : xT} {M : mT} {Y : yT} {V : vT} (T : Int32), R S P X M Y V → (fk_clear S P X).1 = (fm_clear T M Y).1 ∧
    R (fk_clear S P X).2.1 (fk_clear S P X).2.2.1 (fk_clear S P X).2.2.2 (fm_clear T M Y).2.2.1 (fm_clear T M Y).2.2.2 V
def lwR_instant (R : kT → pT → xT → mT → yT → vT → Prop) : Prop := ∀ {S : kT} {P : pT} {X : xT} {M : mT} {Y : yT} {V : vT} (T a : Int32), R S P X M Y V → ((fm_insF T a (fm_insG Y a)).1 = 0 → mW M ∧ 0 < (M.1 0).toInt) ∧
    ((¬ S 0 = (1 : Int32) ∧ (fm_instant T M Y V a).2.1 = 1 ∧ R S P X M (fm_instant T M Y V a).2.2.1 (fm_instant T M Y V a).2.2.2) ∨
     (S 0 = (1 : Int32) ∧ (a < 0 ∨ ¬ a < (16 : Int32)) ∧ (fm_instant T M Y V a).2.1 = 2 ∧ R S P X M (fm_instant T M Y V a).2.2.1 (fm_instant T M Y V a).2.2.2) ∨
     (S 0 = (1 : Int32) ∧ ¬ a < 0 ∧ a < (16 : Int32) ∧ pW P ∧ 0 < (P.1 1).toInt ∧ (fm_instant T M Y V a).2.1 = 0 ∧ (fk_instant S P X a).1 = (fm_instant T M Y V a).1 ∧ R (fk_instant S P X a).2.1 P (fk_instant S P X a).2.2 M (fm_instant T M Y V a).2.2.1 (fm_instant T M Y V a).2.2.2))
def lwR_status (R : kT → pT → xT → mT → yT → vT → Prop) : Prop := ∀ {S : kT} {P : pT} {X : xT} {M : mT} {Y : yT} {V : vT} (T a : Int32), R S P X M Y V →
    ((a < 0 ∨ ¬ a < (16 : Int32)) ∧ (fm_status T Y a).2 = 1) ∨
    (¬ a < 0 ∧ a < (16 : Int32) ∧ (fm_status T Y a).2 = 0 ∧ fk_status S a = (fm_status T Y a).1)
def lwR_selected (R : kT → pT → xT → mT → yT → vT → Prop) : Prop := ∀ {S : kT} {P : pT} {X : xT} {M : mT} {Y : yT} {V : vT} (T a : Int32), R S P X M Y V →
    ((a < 0 ∨ ¬ a < (P.1 3)) ∧ (fm_selected T M Y a).2 = 1) ∨
    (¬ a < 0 ∧ a < (P.1 3) ∧ (fm_selected T M Y a).2 = 0 ∧ (fk_selected P X a = 0 ↔ (fm_selected T M Y a).1 = 0))
def lwR_reacts (R : kT → pT → xT → mT → yT → vT → Prop) : Prop := ∀ {S : kT} {P : pT} {X : xT} {M : mT} {Y : yT} {V : vT} (T : Int32), R S P X M Y V → ((fm_reaF T Y).1 = 0 → mW M ∧ 0 < (M.1 0).toInt) ∧
    ((¬ S 0 = (1 : Int32) ∧ (fm_reacts T M Y V).2.1 = 1 ∧ R S P X M (fm_reacts T M Y V).2.2.1 (fm_reacts T M Y V).2.2.2) ∨
     (S 0 = (1 : Int32) ∧ pW P ∧ 0 < (P.1 1).toInt ∧ (fm_reacts T M Y V).2.1 = 0 ∧ (fk_reacts S P X).1 = (fm_reacts T M Y V).1 ∧ R S P (fk_reacts S P X).2 M (fm_reacts T M Y V).2.2.1 (fm_reacts T M Y V).2.2.2))
def lwR_emits (R : kT → pT → xT → mT → yT → vT → Prop) : Prop := ∀ {S : kT} {P : pT} {X : xT} {M : mT} {Y : yT} {V : vT} (T a : Int32), R S P X M Y V → ((fm_emiF T a (fm_emiG Y a)).1 = 0 → mW M ∧ 0 < (M.1 0).toInt ∧ vp_in a 3256) ∧
    ((¬ S 0 = (1 : Int32) ∧ (fm_emits T M Y V a).2.1 = 1 ∧ R S P X M (fm_emits T M Y V a).2.2.1 (fm_emits T M Y V a).2.2.2) ∨
     (S 0 = (1 : Int32) ∧ (a < (4 : Int32) ∨ ¬ a < (16 : Int32)) ∧ (fm_emits T M Y V a).2.1 = 2 ∧ R S P X M (fm_emits T M Y V a).2.2.1 (fm_emits T M Y V a).2.2.2) ∨
     (S 0 = (1 : Int32) ∧ ¬ a < (4 : Int32) ∧ a < (16 : Int32) ∧ pW P ∧ 0 < (P.1 1).toInt ∧ (fm_emits T M Y V a).2.1 = 0 ∧ (fk_emits S P X a).1 = (fm_emits T M Y V a).1 ∧ R S P (fk_emits S P X a).2 M (fm_emits T M Y V a).2.2.1 (fm_emits T M Y V a).2.2.2))
def lwR_count (R : kT → pT → xT → mT → yT → vT → Prop) : Prop := ∀ {S : kT} {P : pT} {X : xT} {M : mT} {Y : yT} {V : vT} (T a : Int32), R S P X M Y V → fk_count S P X a = (fm_count T M Y a).1
def lwR (R : kT → pT → xT → mT → yT → vT → Prop) : Prop := lwR_minv R ∧ lwR_pinv R ∧ lwR_put R ∧ lwR_start R ∧ lwR_clear R ∧ lwR_instant R ∧ lwR_status R ∧ lwR_selected R ∧ lwR_reacts R ∧ lwR_emits R ∧ lwR_count R
theorem lwR.minv {R : kT → pT → xT → mT → yT → vT → Prop} (h : lwR R) : ∀ {S : kT} {P : pT} {X : xT} {M : mT} {Y : yT} {V : vT}, R S P X M Y V → mS M ∧ mL M ∧ mO M ∧ (M.1 1).toInt ≤ 32 := h.1
theorem lwR.pinv {R : kT → pT → xT → mT → yT → vT → Prop} (h : lwR R) : ∀ {S : kT} {P : pT} {X : xT} {M : mT} {Y : yT} {V : vT}, R S P X M Y V → pS P ∧ pL P ∧ pO P := h.2.1
theorem lwR.put {R : kT → pT → xT → mT → yT → vT → Prop} (h : lwR R) : ∀ {S : kT} {P : pT} {X : xT} {M : mT} {Y : yT} {V : vT} (T a b : Int32), R S P X M Y V →
    (¬ fp_isWhole P = 0 ∧ (fm_put T M a b).2.1 = 1 ∧ R S P X (fm_put T M a b).2.2 Y V) ∨
    (fp_isWhole P = 0 ∧ fp_allows P a b = 0 ∧ (fm_put T M a b).2.1 = 2 ∧ R S P X (fm_put T M a b).2.2 Y V) ∨
    (fp_isWhole P = 0 ∧ ¬ fp_allows P a b = 0 ∧ (fm_put T M a b).2.1 = 0 ∧ (fk_put P a b).1 = (fm_put T M a b).1 ∧ R S (fk_put P a b).2 X (fm_put T M a b).2.2 Y V) := h.2.2.1
theorem lwR.start {R : kT → pT → xT → mT → yT → vT → Prop} (h : lwR R) : ∀ {S : kT} {P : pT} {X : xT} {M : mT} {Y : yT} {V : vT} (T : Int32), R S P X M Y V → ((fm_startF T M).1 = 0 → mW M) ∧
    ((fp_isWhole P = 0 ∧ (fm_start T M Y).2.1 = 1 ∧ R S P X M (fm_start T M Y).2.2 V) ∨
     (¬ fp_isWhole P = 0 ∧ (fm_start T M Y).2.1 = 0 ∧ (fk_start S P X).1 = (fm_start T M Y).1 ∧ R (fk_start S P X).2.1 (fk_start S P X).2.2.1 (fk_start S P X).2.2.2 M (fm_start T M Y).2.2 V)) := h.2.2.2.1
theorem lwR.clear {R : kT → pT → xT → mT → yT → vT → Prop} (h : lwR R) : ∀ {S : kT} {P : pT} {X : xT} {M : mT} {Y : yT} {V : vT} (T : Int32), R S P X M Y V → (fk_clear S P X).1 = (fm_clear T M Y).1 ∧
    R (fk_clear S P X).2.1 (fk_clear S P X).2.2.1 (fk_clear S P X).2.2.2 (fm_clear T M Y).2.2.1 (fm_clear T M Y).2.2.2 V := h.2.2.2.2.1
theorem lwR.instant {R : kT → pT → xT → mT → yT → vT → Prop} (h : lwR R) : ∀ {S : kT} {P : pT} {X : xT} {M : mT} {Y : yT} {V : vT} (T a : Int32), R S P X M Y V → ((fm_insF T a (fm_insG Y a)).1 = 0 → mW M ∧ 0 < (M.1 0).toInt) ∧
    ((¬ S 0 = (1 : Int32) ∧ (fm_instant T M Y V a).2.1 = 1 ∧ R S P X M (fm_instant T M Y V a).2.2.1 (fm_instant T M Y V a).2.2.2) ∨
     (S 0 = (1 : Int32) ∧ (a < 0 ∨ ¬ a < (16 : Int32)) ∧ (fm_instant T M Y V a).2.1 = 2 ∧ R S P X M (fm_instant T M Y V a).2.2.1 (fm_instant T M Y V a).2.2.2) ∨
     (S 0 = (1 : Int32) ∧ ¬ a < 0 ∧ a < (16 : Int32) ∧ pW P ∧ 0 < (P.1 1).toInt ∧ (fm_instant T M Y V a).2.1 = 0 ∧ (fk_instant S P X a).1 = (fm_instant T M Y V a).1 ∧ R (fk_instant S P X a).2.1 P (fk_instant S P X a).2.2 M (fm_instant T M Y V a).2.2.1 (fm_instant T M Y V a).2.2.2)) := h.2.2.2.2.2.1
theorem lwR.status {R : kT → pT → xT → mT → yT → vT → Prop} (h : lwR R) : ∀ {S : kT} {P : pT} {X : xT} {M : mT} {Y : yT} {V : vT} (T a : Int32), R S P X M Y V →
    ((a < 0 ∨ ¬ a < (16 : Int32)) ∧ (fm_status T Y a).2 = 1) ∨
    (¬ a < 0 ∧ a < (16 : Int32) ∧ (fm_status T Y a).2 = 0 ∧ fk_status S a = (fm_status T Y a).1) := h.2.2.2.2.2.2.1
theorem lwR.selected {R : kT → pT → xT → mT → yT → vT → Prop} (h : lwR R) : ∀ {S : kT} {P : pT} {X : xT} {M : mT} {Y : yT} {V : vT} (T a : Int32), R S P X M Y V →
    ((a < 0 ∨ ¬ a < (P.1 3)) ∧ (fm_selected T M Y a).2 = 1) ∨
    (¬ a < 0 ∧ a < (P.1 3) ∧ (fm_selected T M Y a).2 = 0 ∧ (fk_selected P X a = 0 ↔ (fm_selected T M Y a).1 = 0)) := h.2.2.2.2.2.2.2.1
theorem lwR.reacts {R : kT → pT → xT → mT → yT → vT → Prop} (h : lwR R) : ∀ {S : kT} {P : pT} {X : xT} {M : mT} {Y : yT} {V : vT} (T : Int32), R S P X M Y V → ((fm_reaF T Y).1 = 0 → mW M ∧ 0 < (M.1 0).toInt) ∧
    ((¬ S 0 = (1 : Int32) ∧ (fm_reacts T M Y V).2.1 = 1 ∧ R S P X M (fm_reacts T M Y V).2.2.1 (fm_reacts T M Y V).2.2.2) ∨
     (S 0 = (1 : Int32) ∧ pW P ∧ 0 < (P.1 1).toInt ∧ (fm_reacts T M Y V).2.1 = 0 ∧ (fk_reacts S P X).1 = (fm_reacts T M Y V).1 ∧ R S P (fk_reacts S P X).2 M (fm_reacts T M Y V).2.2.1 (fm_reacts T M Y V).2.2.2)) := h.2.2.2.2.2.2.2.2.1
theorem lwR.emits {R : kT → pT → xT → mT → yT → vT → Prop} (h : lwR R) : ∀ {S : kT} {P : pT} {X : xT} {M : mT} {Y : yT} {V : vT} (T a : Int32), R S P X M Y V → ((fm_emiF T a (fm_emiG Y a)).1 = 0 → mW M ∧ 0 < (M.1 0).toInt ∧ vp_in a 3256) ∧
    ((¬ S 0 = (1 : Int32) ∧ (fm_emits T M Y V a).2.1 = 1 ∧ R S P X M (fm_emits T M Y V a).2.2.1 (fm_emits T M Y V a).2.2.2) ∨
     (S 0 = (1 : Int32) ∧ (a < (4 : Int32) ∨ ¬ a < (16 : Int32)) ∧ (fm_emits T M Y V a).2.1 = 2 ∧ R S P X M (fm_emits T M Y V a).2.2.1 (fm_emits T M Y V a).2.2.2) ∨
     (S 0 = (1 : Int32) ∧ ¬ a < (4 : Int32) ∧ a < (16 : Int32) ∧ pW P ∧ 0 < (P.1 1).toInt ∧ (fm_emits T M Y V a).2.1 = 0 ∧ (fk_emits S P X a).1 = (fm_emits T M Y V a).1 ∧ R S P (fk_emits S P X a).2 M (fm_emits T M Y V a).2.2.1 (fm_emits T M Y V a).2.2.2)) := h.2.2.2.2.2.2.2.2.2.1
theorem lwR.count {R : kT → pT → xT → mT → yT → vT → Prop} (h : lwR R) : ∀ {S : kT} {P : pT} {X : xT} {M : mT} {Y : yT} {V : vT} (T a : Int32), R S P X M Y V → fk_count S P X a = (fm_count T M Y a).1 := h.2.2.2.2.2.2.2.2.2.2
theorem lw_toInt3 {N : Nat} (h : N ≤ 1536) : (Int32.ofNat N - (3 : Int32)).toInt = (N : Int) - 3 := by
  have h1 : (Int32.ofNat N).toInt = N := Int32.toInt_ofNat_of_lt (by omega)
  rw [Int32.toInt_sub, h1, show (3 : Int32).toInt = 3 from rfl]
  exact Int.bmod_eq_of_le (by omega) (by omega)
theorem lw_ge {N : Nat} {ii : Int32} (h : N ≤ 1536) (c : ¬ (Int32.ofNat N - (3 : Int32)) < ii) : ii.toInt + 3 ≤ N := by
  rw [Int32.lt_iff_toInt_lt, lw_toInt3 h] at c
  omega
theorem lw_plus {ii : Int32} {k : Int32} {z : Int} (hk : k.toInt = z) (h0 : 0 ≤ ii.toInt) (h1 : ii.toInt ≤ 1600) (hz : 0 ≤ z ∧ z ≤ 10) : (ii + k).toInt = ii.toInt + z := by
  rw [Int32.toInt_add, hk]
  exact Int.bmod_eq_of_le (by omega) (by omega)
theorem lw_in {x : Int32} {N : Nat} (h0 : 0 ≤ x.toInt) (h1 : x.toInt < N) : vp_in x N := vp_in_iff.mpr ⟨h0, h1⟩
theorem up0 {O : oT} {z : Int64} : vp_updL O (0 : Int32).toNatClampNeg z 0 = z := by
  show vp_updL O 0 z 0 = z
  simp [vp_updL]
theorem up0_of {O : oT} {x y : Int32} (h : x = y) : vp_updL O (0 : Int32).toNatClampNeg x.toInt64 0 = y.toInt64 := by rw [h]; exact up0
set_option maxRecDepth 100000 in
set_option maxHeartbeats 4000000 in
theorem lw_loop {l : Launch} {D : va_G} {A : Nat → Prop} {ad : Nat → Nat} {tP : Nat} {cI cZ cJ : ClassId} {b N : Nat} {xs : Nat → Int32} {p : Program} {e : Env} {s : State} {m : MethodId} {args : Array Value} {below : List Frame} {meth : Method} {c : Code} {Q : State → Prop} {R : kT → pT → xT → mT → yT → vT → Prop} (hR : lwR R) (hl : l.stackTraces = false)
    (F : aw_F p s m c args cL_law 7 (Cond.initialized "ReactionDeskLaw" :: aw_big) yL_law.cls D vwCl [(cI, .int), (cZ, .boolean), (cJ, .long)]) (Zs : zC A tP s) (hX : va_X b N xs s s.heap) (hbl : b < s.heap.size) (hbA : ¬ A b) (hN : N ≤ 1536)
    (kend : ∀ (cells slots : Nat) (S : kT) (P : pT) (X : xT) (T : Int32) (M : mT) (Y : yT) (V : vT) (O : oT) (ii : Int32), cells ≤ room_1.cells → slots ≤ room_1.slots → aW p l e room_1 s m args below meth c cells slots Q D vwCl A ad 7 (hC ad cI S P X ++ (hM ad cI cZ T M Y V ++ hQ cJ O)) [some (.ref b), some (.ref (ad 0)), some (.ref (ad 13)), some (.ref (ad 32)), some (.int ii), none, none] 519 []) :
    ∀ (n cells slots : Nat) (S : kT) (P : pT) (X : xT) (T : Int32) (M : mT) (Y : yT) (V : vT) (O : oT) (ii : Int32), R S P X M Y V → 0 ≤ ii.toInt → ii.toInt ≤ 1590 → (N : Int) < ii.toInt + 3 + 3 * n → cells + n ≤ room_1.cells → slots + 6 * n ≤ room_1.slots →
      aW p l e room_1 s m args below meth c cells slots Q D vwCl A ad 7 (hC ad cI S P X ++ (hM ad cI cZ T M Y V ++ hQ cJ O)) [some (.ref b), some (.ref (ad 0)), some (.ref (ad 13)), some (.ref (ad 32)), some (.int ii), none, none] 23 [] := by
  intro n
  induction n with
  | zero =>
    intro cells slots S P X T M Y V O ii hr h0 h1 h2 h3 h4
    have hx : ¬ (Int32.ofNat N - (3 : Int32)) < ii → False := fun c => by
      have := lw_ge hN c
      omega
    exact tL_law_X23 F Zs S P X T M Y V O ii hX hbl hbA (fun c => (hx c).elim) (fun c => (hx c).elim) (fun c => (hx c).elim) (fun c => (hx c).elim) (fun c => (hx c).elim) (fun c => (hx c).elim) (fun c => (hx c).elim) (fun c => (hx c).elim) (fun c => (hx c).elim) (fun c => (hx c).elim) (fun c => (hx c).elim) (kend _ _ _ _ _ _ _ _ _ _ _ (by omega) (by omega))
  | succ n ih =>
    intro cells slots S P X T M Y V O ii hr h0 h1 h2 h3 h4
    have hcs : cells + 1 ≤ room_1.cells ∧ slots + 6 ≤ room_1.slots := ⟨by omega, by omega⟩
    have hc0 : cells ≤ room_1.cells ∧ slots ≤ room_1.slots := ⟨by omega, by omega⟩
    have h33 : ¬ (Int32.ofNat N - (3 : Int32)) < ii → (ii + (3 : Int32)).toInt = ii.toInt + 3 := fun c => lw_plus (z := 3) rfl h0 (by omega) ⟨by omega, by omega⟩
    have hi1 : ¬ (Int32.ofNat N - (3 : Int32)) < ii → vp_in (ii + (1 : Int32)) N := fun c => by
      have hg := lw_ge hN c
      have e1 := lw_plus (k := 1) (z := 1) rfl h0 (by omega) ⟨by omega, by omega⟩
      exact lw_in (by omega) (by omega)
    have hi2 : ¬ (Int32.ofNat N - (3 : Int32)) < ii → vp_in (ii + (2 : Int32)) N := fun c => by
      have hg := lw_ge hN c
      have e1 := lw_plus (k := 2) (z := 2) rfl h0 (by omega) ⟨by omega, by omega⟩
      exact lw_in (by omega) (by omega)
    have go : ∀ (S : kT) (P : pT) (X : xT) (T : Int32) (M : mT) (Y : yT) (V : vT) (O : oT), R S P X M Y V → ¬ (Int32.ofNat N - (3 : Int32)) < ii → aW p l e room_1 s m args below meth c (cells + 1) (slots + 6) Q D vwCl A ad 7 (hC ad cI S P X ++ (hM ad cI cZ T M Y V ++ hQ cJ O)) [some (.ref b), some (.ref (ad 0)), some (.ref (ad 13)), some (.ref (ad 32)), some (.int ii), none, none] 513 [] := by
      intro S P X T M Y V O hr' c
      have hg := lw_ge hN c
      refine tL_law_X513 (N := N) (xs := xs) F Zs S P X T M Y V O ii ?_
      exact ih (cells + 1) (slots + 6) S P X T M Y V O (ii + (3 : Int32)) hr' (by rw [h33 c]; omega) (by rw [h33 c]; omega) (by rw [h33 c]; omega) (by omega) (by omega)
    obtain ⟨mi1, mi2, mi3, mi4⟩ := hR.minv hr
    obtain ⟨pi1, pi2, pi3⟩ := hR.pinv hr
    refine tL_law_X23 F Zs S P X T M Y V O ii hX hbl hbA ?_ ?_ ?_ ?_ ?_ ?_ ?_ ?_ ?_ ?_ ?_ (kend _ _ _ _ _ _ _ _ _ _ _ (by omega) (by omega))
    · intro c
      have hg := lw_ge hN c
      exact lw_in h0 (by omega)
    · intro c _
      rcases hR.put T (xs (ii + (1 : Int32)).toNatClampNeg) (xs (ii + (2 : Int32)).toNatClampNeg) hr with ⟨a1, a2, a3⟩ | ⟨a1, a2, a3, a4⟩ | ⟨a1, a2, a3, a4, a5⟩
      · exact tL_law_X88 F Zs S P X T M Y V O ii S P X O 1 14 1 6 (by decide) (by decide) (by decide) hX hbl hbA hcs (uL_put_1 hl S P X T M Y V O _ _ a1) (hi1 c) (hi2 c) mi1 mi2 mi3 a2 (fun h => absurd h (by decide)) (go _ _ _ _ _ _ _ _ a3 c)
      · exact tL_law_X88 F Zs S P X T M Y V O ii S P X O 2 14 1 6 (by decide) (by decide) (by decide) hX hbl hbA hcs (uL_put_2 hl S P X T M Y V O _ _ pi1 pi2 a1 a2) (hi1 c) (hi2 c) mi1 mi2 mi3 a3 (fun h => absurd h (by decide)) (go _ _ _ _ _ _ _ _ a4 c)
      · exact tL_law_X88 F Zs S P X T M Y V O ii S _ X _ _ _ 0 0 (Nat.le_of_ble_eq_true rfl) (by decide) (by decide) hX hbl hbA hcs (tL_put S P X T M Y V O _ _ pi1 pi2 pi3 a1 a2) (hi1 c) (hi2 c) mi1 mi2 mi3 a3 (fun _ => up0_of (O := O) a4) (go _ _ _ _ _ _ _ _ a5 c)
    · intro c _
      obtain ⟨hw, hh⟩ := hR.start T hr
      rcases hh with ⟨a1, a2, a3⟩ | ⟨a1, a2, a3, a4⟩
      · exact tL_law_X156 F Zs S P X T M Y V O ii S P X O 1 14 1 6 (by decide) (by decide) (by decide) hX hbl hbA hcs (uL_start_1 hl S P X T M Y V O a1) hw a2 (fun h => absurd h (by decide)) (go _ _ _ _ _ _ _ _ a3 c)
      · exact tL_law_X156 F Zs S P X T M Y V O ii _ _ _ _ _ _ 0 0 (Nat.le_of_ble_eq_true rfl) (by decide) (by decide) hX hbl hbA hcs (tL_start S P X T M Y V O pi1 a1) hw a2 (fun _ => up0_of (O := O) a3) (go _ _ _ _ _ _ _ _ a4 c)
    · intro c _
      obtain ⟨a1, a2⟩ := hR.clear T hr
      exact tL_law_X200 (N := N) (xs := xs) F Zs S P X T M Y V O ii hX hbl hbA hc0 a1 (aw_widen (Nat.le_add_right _ 1) (Nat.le_add_right _ 6) (go _ _ _ _ _ _ _ _ a2 c))
    · intro c _
      obtain ⟨hw, hh⟩ := hR.instant T (xs (ii + (1 : Int32)).toNatClampNeg) hr
      rcases hh with ⟨a1, a2, a3⟩ | ⟨a1, a2, a3, a4⟩ | ⟨a1, a2, a3, a4, a5, a6, a7, a8⟩
      · exact tL_law_X213 F Zs S P X T M Y V O ii S P X O 1 14 1 6 (by decide) (by decide) (by decide) hX hbl hbA hcs (uL_instant_1 hl S P X T M Y V O _ a1) (hi1 c) hw a2 (fun h => absurd h (by decide)) (go _ _ _ _ _ _ _ _ a3 c)
      · exact tL_law_X213 F Zs S P X T M Y V O ii S P X O 2 14 1 6 (by decide) (by decide) (by decide) hX hbl hbA hcs (uL_instant_2 hl S P X T M Y V O _ a1 a2) (hi1 c) hw a3 (fun h => absurd h (by decide)) (go _ _ _ _ _ _ _ _ a4 c)
      · exact tL_law_X213 F Zs S P X T M Y V O ii _ P _ _ _ _ 0 0 (Nat.le_of_ble_eq_true rfl) (by decide) (by decide) hX hbl hbA hcs (tL_instant S P X T M Y V O _ pi1 a4 a5 a1 a2 a3) (hi1 c) hw a6 (fun _ => up0_of (O := O) a7) (go _ _ _ _ _ _ _ _ a8 c)
    · intro c _
      rcases hR.status T (xs (ii + (1 : Int32)).toNatClampNeg) hr with ⟨a1, a2⟩ | ⟨a1, a2, a3, a4⟩
      · exact tL_law_X269 F Zs S P X T M Y V O ii S P X O 1 14 1 6 (by decide) (by decide) (by decide) hX hbl hbA hcs (uL_status_1 hl S P X T M Y V O _ a1) (hi1 c) a2 (fun h => absurd h (by decide)) (go _ _ _ _ _ _ _ _ hr c)
      · exact tL_law_X269 F Zs S P X T M Y V O ii S P X _ _ _ 0 0 (Nat.le_of_ble_eq_true rfl) (by decide) (by decide) hX hbl hbA hcs (tL_status S P X T M Y V O _ a1 a2) (hi1 c) a3 (fun _ => up0_of (O := O) a4) (go _ _ _ _ _ _ _ _ hr c)
    · intro c _
      rcases hR.selected T (xs (ii + (1 : Int32)).toNatClampNeg) hr with ⟨a1, a2⟩ | ⟨a1, a2, a3, a4⟩
      · exact tL_law_X325 F Zs S P X T M Y V O ii S P X O 1 14 1 6 (by decide) (by decide) (by decide) hX hbl hbA hcs (uL_selected_1 hl S P X T M Y V O _ a1) (hi1 c) mi4 a2 (fun h => absurd h (by decide)) (go _ _ _ _ _ _ _ _ hr c)
      · refine tL_law_X325 F Zs S P X T M Y V O ii S P X _ _ _ 0 0 (Nat.le_of_ble_eq_true rfl) (by decide) (by decide) hX hbl hbA hcs (tL_selected S P X T M Y V O _ a1 a2) (hi1 c) mi4 ?_ ?_ (go _ _ _ _ _ _ _ _ hr c)
        · rw [a3]; unfold fl_selected; split <;> rfl
        · intro _
          unfold fl_selected
          by_cases hz : fk_selected P X (xs (ii + (1 : Int32)).toNatClampNeg) = 0
          · rw [if_pos hz, if_pos (a4.mp hz)]; exact up0 (O := O)
          · rw [if_neg hz, if_neg (fun h => hz (a4.mpr h))]; exact up0 (O := O)
    · intro c _
      obtain ⟨hw, hh⟩ := hR.reacts T hr
      rcases hh with ⟨a1, a2, a3⟩ | ⟨a1, a4, a5, a6, a7, a8⟩
      · exact tL_law_X388 F Zs S P X T M Y V O ii S P X O 1 14 1 6 (by decide) (by decide) (by decide) hX hbl hbA hcs (uL_reacts_1 hl S P X T M Y V O a1) hw a2 (fun h => absurd h (by decide)) (go _ _ _ _ _ _ _ _ a3 c)
      · exact tL_law_X388 F Zs S P X T M Y V O ii S P _ _ _ _ 0 0 (Nat.le_of_ble_eq_true rfl) (by decide) (by decide) hX hbl hbA hcs (tL_reacts S P X T M Y V O pi1 a4 a5 a1) hw a6 (fun _ => up0_of (O := O) a7) (go _ _ _ _ _ _ _ _ a8 c)
    · intro c _
      obtain ⟨hw, hh⟩ := hR.emits T (xs (ii + (1 : Int32)).toNatClampNeg) hr
      rcases hh with ⟨a1, a2, a3⟩ | ⟨a1, a2, a3, a4⟩ | ⟨a1, a2, a3, a4, a5, a6, a7, a8⟩
      · exact tL_law_X432 F Zs S P X T M Y V O ii S P X O 1 14 1 6 (by decide) (by decide) (by decide) hX hbl hbA hcs (uL_emits_1 hl S P X T M Y V O _ a1) (hi1 c) hw a2 (fun h => absurd h (by decide)) (go _ _ _ _ _ _ _ _ a3 c)
      · exact tL_law_X432 F Zs S P X T M Y V O ii S P X O 2 14 1 6 (by decide) (by decide) (by decide) hX hbl hbA hcs (uL_emits_2 hl S P X T M Y V O _ a1 a2) (hi1 c) hw a3 (fun h => absurd h (by decide)) (go _ _ _ _ _ _ _ _ a4 c)
      · exact tL_law_X432 F Zs S P X T M Y V O ii S P _ _ _ _ 0 0 (Nat.le_of_ble_eq_true rfl) (by decide) (by decide) hX hbl hbA hcs (tL_emits S P X T M Y V O _ pi1 a4 a5 a1 a2 a3) (hi1 c) hw a6 (fun _ => up0_of (O := O) a7) (go _ _ _ _ _ _ _ _ a8 c)
    · intro c _
      exact tL_law_X488 F Zs S P X T M Y V O ii hX hbl hbA hc0 (hi1 c) mi1 (hR.count T _ hr) (aw_widen (Nat.le_add_right _ 1) (Nat.le_add_right _ 6) (go _ _ _ _ _ _ _ _ hr c))
    · intro c
      exact aw_widen (Nat.le_add_right _ 1) (Nat.le_add_right _ 6) (go _ _ _ _ _ _ _ _ hr c)
