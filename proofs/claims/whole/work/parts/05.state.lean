/-! THE CLASS'S STATE: S the desk's numbers, P the program (numbers, arrays), X the reaction (numbers, statuses of locals, the outcome) -/
abbrev kT : Type := Nat → Int32
abbrev pT : Type := (Nat → Int32) × (Nat → Nat → Int32)
abbrev xT : Type := (Nat → Int32) × (Nat → Int32) × Int64
def kw (S : kT) (k : Nat) (v : Int32) : kT := va_up S k v
def pw (P : pT) (k : Nat) (v : Int32) : pT := (va_up P.1 k v, P.2)
def pa (P : pT) (a i : Nat) (v : Int32) : pT := (P.1, va_up P.2 a (upd (P.2 a) i v))
def xw (X : xT) (k : Nat) (v : Int32) : xT := (va_up X.1 k v, X.2)
def xa (X : xT) (i : Nat) (v : Int32) : xT := (X.1, upd X.2.1 i v, X.2.2)
def xl (X : xT) (v : Int64) : xT := (X.1, X.2.1, v)
def fsS (ad : Nat → Nat) (S : kT) : List Value := [.ref (ad 1), .ref (ad 11), .int (S 0), .int (S 1), .int (S 2), .int (S 3)]
def fsP (ad : Nat → Nat) (P : pT) : List Value := [.ref (ad 2), .ref (ad 3), .ref (ad 4), .ref (ad 5), .ref (ad 6), .ref (ad 7), .ref (ad 8), .ref (ad 9), .ref (ad 10), .int (P.1 0), .int (P.1 1), .int (P.1 2), .int (P.1 3), .int (P.1 4), .int (P.1 5)]
def fsX (ad : Nat → Nat) (X : xT) : List Value := [.ref (ad 1), .ref (ad 12), .int (X.1 0), .int (X.1 1), .int (X.1 2), .int (X.1 3), .int (X.1 4), .int (X.1 5), .long (X.2.2)]
def hC (ad : Nat → Nat) (cI : ClassId) (S : kT) (P : pT) (X : xT) : List va_E :=
  [.inr (0, fsS ad S),
   .inr (1, fsP ad P),
   .inl (cI, 120, .inl (P.2 0)),
   .inl (cI, 120, .inl (P.2 1)),
   .inl (cI, 120, .inl (P.2 2)),
   .inl (cI, 120, .inl (P.2 3)),
   .inl (cI, 120, .inl (P.2 4)),
   .inl (cI, 120, .inl (P.2 5)),
   .inl (cI, 120, .inl (P.2 6)),
   .inl (cI, 24, .inl (P.2 7)),
   .inl (cI, 24, .inl (P.2 8)),
   .inr (2, fsX ad X),
   .inl (cI, 360, .inl (X.2.1))]
theorem hC_at0 {ad : Nat → Nat} {cI : ClassId} {S : kT} {P : pT} {X : xT} {tl : List va_E} : (hC ad cI S P X ++ tl)[0]? = some (.inr (0, fsS ad S)) := rfl
theorem hC_st0_2 {ad : Nat → Nat} {cI : ClassId} {S : kT} {P : pT} {X : xT} {tl : List va_E} {v : Int32} : (hC ad cI S P X ++ tl).set 0 (.inr (0, (fsS ad S).set 2 (.int v))) = hC ad cI (kw S 0 v) P X ++ tl := rfl
theorem hC_st0_3 {ad : Nat → Nat} {cI : ClassId} {S : kT} {P : pT} {X : xT} {tl : List va_E} {v : Int32} : (hC ad cI S P X ++ tl).set 0 (.inr (0, (fsS ad S).set 3 (.int v))) = hC ad cI (kw S 1 v) P X ++ tl := rfl
theorem hC_st0_4 {ad : Nat → Nat} {cI : ClassId} {S : kT} {P : pT} {X : xT} {tl : List va_E} {v : Int32} : (hC ad cI S P X ++ tl).set 0 (.inr (0, (fsS ad S).set 4 (.int v))) = hC ad cI (kw S 2 v) P X ++ tl := rfl
theorem hC_st0_5 {ad : Nat → Nat} {cI : ClassId} {S : kT} {P : pT} {X : xT} {tl : List va_E} {v : Int32} : (hC ad cI S P X ++ tl).set 0 (.inr (0, (fsS ad S).set 5 (.int v))) = hC ad cI (kw S 3 v) P X ++ tl := rfl
theorem hC_at1 {ad : Nat → Nat} {cI : ClassId} {S : kT} {P : pT} {X : xT} {tl : List va_E} : (hC ad cI S P X ++ tl)[1]? = some (.inr (1, fsP ad P)) := rfl
theorem hC_st1_9 {ad : Nat → Nat} {cI : ClassId} {S : kT} {P : pT} {X : xT} {tl : List va_E} {v : Int32} : (hC ad cI S P X ++ tl).set 1 (.inr (1, (fsP ad P).set 9 (.int v))) = hC ad cI S (pw P 0 v) X ++ tl := rfl
theorem hC_st1_10 {ad : Nat → Nat} {cI : ClassId} {S : kT} {P : pT} {X : xT} {tl : List va_E} {v : Int32} : (hC ad cI S P X ++ tl).set 1 (.inr (1, (fsP ad P).set 10 (.int v))) = hC ad cI S (pw P 1 v) X ++ tl := rfl
theorem hC_st1_11 {ad : Nat → Nat} {cI : ClassId} {S : kT} {P : pT} {X : xT} {tl : List va_E} {v : Int32} : (hC ad cI S P X ++ tl).set 1 (.inr (1, (fsP ad P).set 11 (.int v))) = hC ad cI S (pw P 2 v) X ++ tl := rfl
theorem hC_st1_12 {ad : Nat → Nat} {cI : ClassId} {S : kT} {P : pT} {X : xT} {tl : List va_E} {v : Int32} : (hC ad cI S P X ++ tl).set 1 (.inr (1, (fsP ad P).set 12 (.int v))) = hC ad cI S (pw P 3 v) X ++ tl := rfl
theorem hC_st1_13 {ad : Nat → Nat} {cI : ClassId} {S : kT} {P : pT} {X : xT} {tl : List va_E} {v : Int32} : (hC ad cI S P X ++ tl).set 1 (.inr (1, (fsP ad P).set 13 (.int v))) = hC ad cI S (pw P 4 v) X ++ tl := rfl
theorem hC_st1_14 {ad : Nat → Nat} {cI : ClassId} {S : kT} {P : pT} {X : xT} {tl : List va_E} {v : Int32} : (hC ad cI S P X ++ tl).set 1 (.inr (1, (fsP ad P).set 14 (.int v))) = hC ad cI S (pw P 5 v) X ++ tl := rfl
theorem hC_at2 {ad : Nat → Nat} {cI : ClassId} {S : kT} {P : pT} {X : xT} {tl : List va_E} : (hC ad cI S P X ++ tl)[2]? = some (.inl (cI, 120, .inl (P.2 0))) := rfl
theorem hC_st2 {ad : Nat → Nat} {cI : ClassId} {S : kT} {P : pT} {X : xT} {tl : List va_E} {i : Nat} {v : Int32} : (hC ad cI S P X ++ tl).set 2 (.inl (cI, 120, .inl (upd (P.2 0) i v))) = hC ad cI S (pa P 0 i v) X ++ tl := rfl
theorem hC_at3 {ad : Nat → Nat} {cI : ClassId} {S : kT} {P : pT} {X : xT} {tl : List va_E} : (hC ad cI S P X ++ tl)[3]? = some (.inl (cI, 120, .inl (P.2 1))) := rfl
theorem hC_st3 {ad : Nat → Nat} {cI : ClassId} {S : kT} {P : pT} {X : xT} {tl : List va_E} {i : Nat} {v : Int32} : (hC ad cI S P X ++ tl).set 3 (.inl (cI, 120, .inl (upd (P.2 1) i v))) = hC ad cI S (pa P 1 i v) X ++ tl := rfl
theorem hC_at4 {ad : Nat → Nat} {cI : ClassId} {S : kT} {P : pT} {X : xT} {tl : List va_E} : (hC ad cI S P X ++ tl)[4]? = some (.inl (cI, 120, .inl (P.2 2))) := rfl
theorem hC_st4 {ad : Nat → Nat} {cI : ClassId} {S : kT} {P : pT} {X : xT} {tl : List va_E} {i : Nat} {v : Int32} : (hC ad cI S P X ++ tl).set 4 (.inl (cI, 120, .inl (upd (P.2 2) i v))) = hC ad cI S (pa P 2 i v) X ++ tl := rfl
theorem hC_at5 {ad : Nat → Nat} {cI : ClassId} {S : kT} {P : pT} {X : xT} {tl : List va_E} : (hC ad cI S P X ++ tl)[5]? = some (.inl (cI, 120, .inl (P.2 3))) := rfl
theorem hC_st5 {ad : Nat → Nat} {cI : ClassId} {S : kT} {P : pT} {X : xT} {tl : List va_E} {i : Nat} {v : Int32} : (hC ad cI S P X ++ tl).set 5 (.inl (cI, 120, .inl (upd (P.2 3) i v))) = hC ad cI S (pa P 3 i v) X ++ tl := rfl
theorem hC_at6 {ad : Nat → Nat} {cI : ClassId} {S : kT} {P : pT} {X : xT} {tl : List va_E} : (hC ad cI S P X ++ tl)[6]? = some (.inl (cI, 120, .inl (P.2 4))) := rfl
theorem hC_st6 {ad : Nat → Nat} {cI : ClassId} {S : kT} {P : pT} {X : xT} {tl : List va_E} {i : Nat} {v : Int32} : (hC ad cI S P X ++ tl).set 6 (.inl (cI, 120, .inl (upd (P.2 4) i v))) = hC ad cI S (pa P 4 i v) X ++ tl := rfl
theorem hC_at7 {ad : Nat → Nat} {cI : ClassId} {S : kT} {P : pT} {X : xT} {tl : List va_E} : (hC ad cI S P X ++ tl)[7]? = some (.inl (cI, 120, .inl (P.2 5))) := rfl
theorem hC_st7 {ad : Nat → Nat} {cI : ClassId} {S : kT} {P : pT} {X : xT} {tl : List va_E} {i : Nat} {v : Int32} : (hC ad cI S P X ++ tl).set 7 (.inl (cI, 120, .inl (upd (P.2 5) i v))) = hC ad cI S (pa P 5 i v) X ++ tl := rfl
theorem hC_at8 {ad : Nat → Nat} {cI : ClassId} {S : kT} {P : pT} {X : xT} {tl : List va_E} : (hC ad cI S P X ++ tl)[8]? = some (.inl (cI, 120, .inl (P.2 6))) := rfl
theorem hC_st8 {ad : Nat → Nat} {cI : ClassId} {S : kT} {P : pT} {X : xT} {tl : List va_E} {i : Nat} {v : Int32} : (hC ad cI S P X ++ tl).set 8 (.inl (cI, 120, .inl (upd (P.2 6) i v))) = hC ad cI S (pa P 6 i v) X ++ tl := rfl
theorem hC_at9 {ad : Nat → Nat} {cI : ClassId} {S : kT} {P : pT} {X : xT} {tl : List va_E} : (hC ad cI S P X ++ tl)[9]? = some (.inl (cI, 24, .inl (P.2 7))) := rfl
theorem hC_st9 {ad : Nat → Nat} {cI : ClassId} {S : kT} {P : pT} {X : xT} {tl : List va_E} {i : Nat} {v : Int32} : (hC ad cI S P X ++ tl).set 9 (.inl (cI, 24, .inl (upd (P.2 7) i v))) = hC ad cI S (pa P 7 i v) X ++ tl := rfl
theorem hC_at10 {ad : Nat → Nat} {cI : ClassId} {S : kT} {P : pT} {X : xT} {tl : List va_E} : (hC ad cI S P X ++ tl)[10]? = some (.inl (cI, 24, .inl (P.2 8))) := rfl
theorem hC_st10 {ad : Nat → Nat} {cI : ClassId} {S : kT} {P : pT} {X : xT} {tl : List va_E} {i : Nat} {v : Int32} : (hC ad cI S P X ++ tl).set 10 (.inl (cI, 24, .inl (upd (P.2 8) i v))) = hC ad cI S (pa P 8 i v) X ++ tl := rfl
theorem hC_at11 {ad : Nat → Nat} {cI : ClassId} {S : kT} {P : pT} {X : xT} {tl : List va_E} : (hC ad cI S P X ++ tl)[11]? = some (.inr (2, fsX ad X)) := rfl
theorem hC_st11_2 {ad : Nat → Nat} {cI : ClassId} {S : kT} {P : pT} {X : xT} {tl : List va_E} {v : Int32} : (hC ad cI S P X ++ tl).set 11 (.inr (2, (fsX ad X).set 2 (.int v))) = hC ad cI S P (xw X 0 v) ++ tl := rfl
theorem hC_st11_3 {ad : Nat → Nat} {cI : ClassId} {S : kT} {P : pT} {X : xT} {tl : List va_E} {v : Int32} : (hC ad cI S P X ++ tl).set 11 (.inr (2, (fsX ad X).set 3 (.int v))) = hC ad cI S P (xw X 1 v) ++ tl := rfl
theorem hC_st11_4 {ad : Nat → Nat} {cI : ClassId} {S : kT} {P : pT} {X : xT} {tl : List va_E} {v : Int32} : (hC ad cI S P X ++ tl).set 11 (.inr (2, (fsX ad X).set 4 (.int v))) = hC ad cI S P (xw X 2 v) ++ tl := rfl
theorem hC_st11_5 {ad : Nat → Nat} {cI : ClassId} {S : kT} {P : pT} {X : xT} {tl : List va_E} {v : Int32} : (hC ad cI S P X ++ tl).set 11 (.inr (2, (fsX ad X).set 5 (.int v))) = hC ad cI S P (xw X 3 v) ++ tl := rfl
theorem hC_st11_6 {ad : Nat → Nat} {cI : ClassId} {S : kT} {P : pT} {X : xT} {tl : List va_E} {v : Int32} : (hC ad cI S P X ++ tl).set 11 (.inr (2, (fsX ad X).set 6 (.int v))) = hC ad cI S P (xw X 4 v) ++ tl := rfl
theorem hC_st11_7 {ad : Nat → Nat} {cI : ClassId} {S : kT} {P : pT} {X : xT} {tl : List va_E} {v : Int32} : (hC ad cI S P X ++ tl).set 11 (.inr (2, (fsX ad X).set 7 (.int v))) = hC ad cI S P (xw X 5 v) ++ tl := rfl
theorem hC_st11_8 {ad : Nat → Nat} {cI : ClassId} {S : kT} {P : pT} {X : xT} {tl : List va_E} {v : Int64} : (hC ad cI S P X ++ tl).set 11 (.inr (2, (fsX ad X).set 8 (.long v))) = hC ad cI S P (xl X v) ++ tl := rfl
theorem hC_at12 {ad : Nat → Nat} {cI : ClassId} {S : kT} {P : pT} {X : xT} {tl : List va_E} : (hC ad cI S P X ++ tl)[12]? = some (.inl (cI, 360, .inl (X.2.1))) := rfl
theorem hC_st12 {ad : Nat → Nat} {cI : ClassId} {S : kT} {P : pT} {X : xT} {tl : List va_E} {i : Nat} {v : Int32} : (hC ad cI S P X ++ tl).set 12 (.inl (cI, 360, .inl (upd (X.2.1) i v))) = hC ad cI S P (xa X i v) ++ tl := rfl
def zNc : List (String × String) := [("java/lang/IllegalStateException", "java/lang/IllegalArgumentException"), ("java/lang/IllegalStateException", "java/lang/IndexOutOfBoundsException"), ("java/lang/IllegalArgumentException", "java/lang/IllegalStateException"), ("java/lang/IllegalArgumentException", "java/lang/IndexOutOfBoundsException"), ("java/lang/IndexOutOfBoundsException", "java/lang/IllegalStateException"), ("java/lang/IndexOutOfBoundsException", "java/lang/IllegalArgumentException")]

def fPARTS (j : Nat) : Int32 := [0, 0, 0, 0, 2, 1, 2, 2, 1, 1, 1].getD j 0
/-- what every state of the run knows beside its cells: links in the nest, texts, the table PARTS, what throwing wants -/
def zC (A : Nat → Prop) (tP : Nat) (U : State) : Prop :=
  (∀ a i x h, Cond.methodLinkNest a i x h ∈ lw_tbl → va_Nw (.methodLinkNest a i x h) U) ∧
  (∀ a i b n d h, Cond.fieldLinkNest a i b n d h ∈ lw_tbl → va_Nw (.fieldLinkNest a i b n d h) U) ∧
  (∀ x, Cond.declares x ∈ lw_tbl → va_Nw (.declares x) U) ∧
  (∀ a b, Cond.castable a b ∈ lw_tbl → va_Nw (.castable a b) U) ∧
  (∀ a i t, Cond.stringRef a i t ∈ lw_tbl → ∃ sa, vk_R a i t sa U) ∧
  (∀ a b, (a, b) ∈ zNc → va_Nc a b U) ∧
  va_Z "ReactionDesk" "PARTS" "[I" (.ref tP) A U U.heap ∧ va_T .int tP 11 (fun j => .int (fPARTS j)) A U U.heap ∧
  vx_Zq Bundle.tN "UNASSIGNED_STACK" Bundle.steD A U U.heap ∧ vx_Zq Bundle.tN "SUPPRESSED_SENTINEL" Bundle.listD A U U.heap ∧ (∀ q : Nat, U.heap.size ≤ q → A q)
theorem zC_ok {A : Nat → Prop} {tP : Nat} : aw_Zok A (zC A tP) := by
  intro s U hW hz hk h
  obtain ⟨h1, h2, h3, h4, h5, h6, h7, h8, h9, h10, h11⟩ := h
  refine ⟨fun a i x w q => (h1 a i x w q).warmM hW, fun a i b n d w q => (h2 a i b n d w q).warmF hW, fun x q => (h3 x q).warmD hW, fun a b q => (h4 a b q).warmC hW, fun a i t q => ?_, fun a b q => (h6 a b q).moved hW.alike, (h7.moved hW.alike).kept hk, (h8.moved hW.alike).kept hk, (h9.moved hW.alike).kept hk, (h10.moved hW.alike).kept hk, fun q hq => h11 q (Nat.le_trans hz hq)⟩
  obtain ⟨sa, hs⟩ := h5 a i t q
  exact ⟨sa, hs.warm hW⟩
theorem nw_m {A : Nat → Prop} {tP : Nat} {U : State} {a : String} {i : Nat} {x : MethodName} {h : String} (Z : zC A tP U) (q : Cond.methodLinkNest a i x h ∈ lw_tbl) : va_Nw (.methodLinkNest a i x h) U := Z.1 a i x h q
theorem nw_f {A : Nat → Prop} {tP : Nat} {U : State} {a : String} {i : Nat} {b n d h : String} (Z : zC A tP U) (q : Cond.fieldLinkNest a i b n d h ∈ lw_tbl) : va_Nw (.fieldLinkNest a i b n d h) U := Z.2.1 a i b n d h q
theorem wd_mmax : Cond.code Lib.Math.max.name Lib.Math.max.code 2 (some .int) ∈ aw_big := big_of 421 (by decide +kernel) (by decide +kernel)
theorem inr_c {x y : Int32} {n : Nat} (hy : y.toInt ≤ n) (h0 : 0 ≤ x) (h1 : x < y) : vp_in x n := by
  rw [vp_in_iff]
  rw [Int32.le_iff_toInt_le, Int32.toInt_zero] at h0
  rw [Int32.lt_iff_toInt_lt] at h1
  omega

