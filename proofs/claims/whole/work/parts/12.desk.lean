def fj_bitCount   (x : Int32) : Int32 :=
  ((((((((x - (((x.toUInt32 >>> ((1 : Int32).toUInt32 &&& Int32.toUInt32 31)).toInt32) &&& (1431655765 : Int32))) &&& (858993459 : Int32)) + ((((x - (((x.toUInt32 >>> ((1 : Int32).toUInt32 &&& Int32.toUInt32 31)).toInt32) &&& (1431655765 : Int32))).toUInt32 >>> ((2 : Int32).toUInt32 &&& Int32.toUInt32 31)).toInt32) &&& (858993459 : Int32))) + (((((x - (((x.toUInt32 >>> ((1 : Int32).toUInt32 &&& Int32.toUInt32 31)).toInt32) &&& (1431655765 : Int32))) &&& (858993459 : Int32)) + ((((x - (((x.toUInt32 >>> ((1 : Int32).toUInt32 &&& Int32.toUInt32 31)).toInt32) &&& (1431655765 : Int32))).toUInt32 >>> ((2 : Int32).toUInt32 &&& Int32.toUInt32 31)).toInt32) &&& (858993459 : Int32))).toUInt32 >>> ((4 : Int32).toUInt32 &&& Int32.toUInt32 31)).toInt32)) &&& (252645135 : Int32)) + (((((((x - (((x.toUInt32 >>> ((1 : Int32).toUInt32 &&& Int32.toUInt32 31)).toInt32) &&& (1431655765 : Int32))) &&& (858993459 : Int32)) + ((((x - (((x.toUInt32 >>> ((1 : Int32).toUInt32 &&& Int32.toUInt32 31)).toInt32) &&& (1431655765 : Int32))).toUInt32 >>> ((2 : Int32).toUInt32 &&& Int32.toUInt32 31)).toInt32) &&& (858993459 : Int32))) + (((((x - (((x.toUInt32 >>> ((1 : Int32).toUInt32 &&& Int32.toUInt32 31)).toInt32) &&& (1431655765 : Int32))) &&& (858993459 : Int32)) + ((((x - (((x.toUInt32 >>> ((1 : Int32).toUInt32 &&& Int32.toUInt32 31)).toInt32) &&& (1431655765 : Int32))).toUInt32 >>> ((2 : Int32).toUInt32 &&& Int32.toUInt32 31)).toInt32) &&& (858993459 : Int32))).toUInt32 >>> ((4 : Int32).toUInt32 &&& Int32.toUInt32 31)).toInt32)) &&& (252645135 : Int32)).toUInt32 >>> ((8 : Int32).toUInt32 &&& Int32.toUInt32 31)).toInt32)) + ((((((((x - (((x.toUInt32 >>> ((1 : Int32).toUInt32 &&& Int32.toUInt32 31)).toInt32) &&& (1431655765 : Int32))) &&& (858993459 : Int32)) + ((((x - (((x.toUInt32 >>> ((1 : Int32).toUInt32 &&& Int32.toUInt32 31)).toInt32) &&& (1431655765 : Int32))).toUInt32 >>> ((2 : Int32).toUInt32 &&& Int32.toUInt32 31)).toInt32) &&& (858993459 : Int32))) + (((((x - (((x.toUInt32 >>> ((1 : Int32).toUInt32 &&& Int32.toUInt32 31)).toInt32) &&& (1431655765 : Int32))) &&& (858993459 : Int32)) + ((((x - (((x.toUInt32 >>> ((1 : Int32).toUInt32 &&& Int32.toUInt32 31)).toInt32) &&& (1431655765 : Int32))).toUInt32 >>> ((2 : Int32).toUInt32 &&& Int32.toUInt32 31)).toInt32) &&& (858993459 : Int32))).toUInt32 >>> ((4 : Int32).toUInt32 &&& Int32.toUInt32 31)).toInt32)) &&& (252645135 : Int32)) + (((((((x - (((x.toUInt32 >>> ((1 : Int32).toUInt32 &&& Int32.toUInt32 31)).toInt32) &&& (1431655765 : Int32))) &&& (858993459 : Int32)) + ((((x - (((x.toUInt32 >>> ((1 : Int32).toUInt32 &&& Int32.toUInt32 31)).toInt32) &&& (1431655765 : Int32))).toUInt32 >>> ((2 : Int32).toUInt32 &&& Int32.toUInt32 31)).toInt32) &&& (858993459 : Int32))) + (((((x - (((x.toUInt32 >>> ((1 : Int32).toUInt32 &&& Int32.toUInt32 31)).toInt32) &&& (1431655765 : Int32))) &&& (858993459 : Int32)) + ((((x - (((x.toUInt32 >>> ((1 : Int32).toUInt32 &&& Int32.toUInt32 31)).toInt32) &&& (1431655765 : Int32))).toUInt32 >>> ((2 : Int32).toUInt32 &&& Int32.toUInt32 31)).toInt32) &&& (858993459 : Int32))).toUInt32 >>> ((4 : Int32).toUInt32 &&& Int32.toUInt32 31)).toInt32)) &&& (252645135 : Int32)).toUInt32 >>> ((8 : Int32).toUInt32 &&& Int32.toUInt32 31)).toInt32)).toUInt32 >>> ((16 : Int32).toUInt32 &&& Int32.toUInt32 31)).toInt32)) &&& (63 : Int32))
set_option maxRecDepth 100000 in
set_option maxHeartbeats 4000000 in
theorem tI_bitCount {l : Launch} {D : va_G} {A : Nat → Prop} {ad : Nat → Nat} {tP : Nat} {cI : ClassId} {tl : List va_E} {tyr : List (ClassId × FieldType)} (S : kT) (P : pT) (X : xT) (x : Int32)  : aw_M l yI_bitCount (Cond.code yI_bitCount cI_bitCount 1 (some .int) :: aw_big) 0 D vwCl ((cI, .int) :: tyr) A ad (zC A tP) [.int x] (hC ad cI S P X ++ tl) (some (.int (fj_bitCount x))) (hC ad cI S P X ++ tl) := by
  refine aw_met cI_bitCount 1 (some .int) [some (.int x)] (by decide) rfl (Nat.le_of_ble_eq_true rfl) rfl ?_
  intro p e s m args below meth c F Zs hr hlk
  refine aw_iload_n (pc := 0) (i := 0) (x := x) F dI_bitCount_0 rfl rfl ?_
  refine aw_iload_n (pc := 1) (i := 0) (x := x) F dI_bitCount_1 rfl rfl ?_
  refine aw_iconst (pc := 2) (v := 1) F dI_bitCount_2 (by decide) ?_
  refine aw_iushr (pc := 3) (v := (x.toUInt32 >>> ((1 : Int32).toUInt32 &&& Int32.toUInt32 31)).toInt32) F dI_bitCount_3 rfl ?_
  refine aw_ldcw (pc := 4) (v := 1431655765) F dI_bitCount_4 (mw wd_225) ?_
  refine aw_iand (pc := 7) F dI_bitCount_7 ?_
  refine aw_isub (pc := 8) F dI_bitCount_8 ?_
  refine aw_istore_n (pc := 9) (i := 0) (L' := [some (.int (x - (((x.toUInt32 >>> ((1 : Int32).toUInt32 &&& Int32.toUInt32 31)).toInt32) &&& (1431655765 : Int32))))]) F dI_bitCount_9 rfl (by decide) rfl ?_
  refine aw_iload_n (pc := 10) (i := 0) (x := x - (((x.toUInt32 >>> ((1 : Int32).toUInt32 &&& Int32.toUInt32 31)).toInt32) &&& (1431655765 : Int32))) F dI_bitCount_10 rfl rfl ?_
  refine aw_ldcw (pc := 11) (v := 858993459) F dI_bitCount_11 (mw wd_226) ?_
  refine aw_iand (pc := 14) F dI_bitCount_14 ?_
  refine aw_iload_n (pc := 15) (i := 0) (x := x - (((x.toUInt32 >>> ((1 : Int32).toUInt32 &&& Int32.toUInt32 31)).toInt32) &&& (1431655765 : Int32))) F dI_bitCount_15 rfl rfl ?_
  refine aw_iconst (pc := 16) (v := 2) F dI_bitCount_16 (by decide) ?_
  refine aw_iushr (pc := 17) (v := ((x - (((x.toUInt32 >>> ((1 : Int32).toUInt32 &&& Int32.toUInt32 31)).toInt32) &&& (1431655765 : Int32))).toUInt32 >>> ((2 : Int32).toUInt32 &&& Int32.toUInt32 31)).toInt32) F dI_bitCount_17 rfl ?_
  refine aw_ldcw (pc := 18) (v := 858993459) F dI_bitCount_18 (mw wd_226) ?_
  refine aw_iand (pc := 21) F dI_bitCount_21 ?_
  refine aw_iadd (pc := 22) F dI_bitCount_22 ?_
  refine aw_istore_n (pc := 23) (i := 0) (L' := [some (.int (((x - (((x.toUInt32 >>> ((1 : Int32).toUInt32 &&& Int32.toUInt32 31)).toInt32) &&& (1431655765 : Int32))) &&& (858993459 : Int32)) + ((((x - (((x.toUInt32 >>> ((1 : Int32).toUInt32 &&& Int32.toUInt32 31)).toInt32) &&& (1431655765 : Int32))).toUInt32 >>> ((2 : Int32).toUInt32 &&& Int32.toUInt32 31)).toInt32) &&& (858993459 : Int32))))]) F dI_bitCount_23 rfl (by decide) rfl ?_
  refine aw_iload_n (pc := 24) (i := 0) (x := ((x - (((x.toUInt32 >>> ((1 : Int32).toUInt32 &&& Int32.toUInt32 31)).toInt32) &&& (1431655765 : Int32))) &&& (858993459 : Int32)) + ((((x - (((x.toUInt32 >>> ((1 : Int32).toUInt32 &&& Int32.toUInt32 31)).toInt32) &&& (1431655765 : Int32))).toUInt32 >>> ((2 : Int32).toUInt32 &&& Int32.toUInt32 31)).toInt32) &&& (858993459 : Int32))) F dI_bitCount_24 rfl rfl ?_
  refine aw_iload_n (pc := 25) (i := 0) (x := ((x - (((x.toUInt32 >>> ((1 : Int32).toUInt32 &&& Int32.toUInt32 31)).toInt32) &&& (1431655765 : Int32))) &&& (858993459 : Int32)) + ((((x - (((x.toUInt32 >>> ((1 : Int32).toUInt32 &&& Int32.toUInt32 31)).toInt32) &&& (1431655765 : Int32))).toUInt32 >>> ((2 : Int32).toUInt32 &&& Int32.toUInt32 31)).toInt32) &&& (858993459 : Int32))) F dI_bitCount_25 rfl rfl ?_
  refine aw_iconst (pc := 26) (v := 4) F dI_bitCount_26 (by decide) ?_
  refine aw_iushr (pc := 27) (v := ((((x - (((x.toUInt32 >>> ((1 : Int32).toUInt32 &&& Int32.toUInt32 31)).toInt32) &&& (1431655765 : Int32))) &&& (858993459 : Int32)) + ((((x - (((x.toUInt32 >>> ((1 : Int32).toUInt32 &&& Int32.toUInt32 31)).toInt32) &&& (1431655765 : Int32))).toUInt32 >>> ((2 : Int32).toUInt32 &&& Int32.toUInt32 31)).toInt32) &&& (858993459 : Int32))).toUInt32 >>> ((4 : Int32).toUInt32 &&& Int32.toUInt32 31)).toInt32) F dI_bitCount_27 rfl ?_
  refine aw_iadd (pc := 28) F dI_bitCount_28 ?_
  refine aw_ldcw (pc := 29) (v := 252645135) F dI_bitCount_29 (mw wd_227) ?_
  refine aw_iand (pc := 32) F dI_bitCount_32 ?_
  refine aw_istore_n (pc := 33) (i := 0) (L' := [some (.int (((((x - (((x.toUInt32 >>> ((1 : Int32).toUInt32 &&& Int32.toUInt32 31)).toInt32) &&& (1431655765 : Int32))) &&& (858993459 : Int32)) + ((((x - (((x.toUInt32 >>> ((1 : Int32).toUInt32 &&& Int32.toUInt32 31)).toInt32) &&& (1431655765 : Int32))).toUInt32 >>> ((2 : Int32).toUInt32 &&& Int32.toUInt32 31)).toInt32) &&& (858993459 : Int32))) + (((((x - (((x.toUInt32 >>> ((1 : Int32).toUInt32 &&& Int32.toUInt32 31)).toInt32) &&& (1431655765 : Int32))) &&& (858993459 : Int32)) + ((((x - (((x.toUInt32 >>> ((1 : Int32).toUInt32 &&& Int32.toUInt32 31)).toInt32) &&& (1431655765 : Int32))).toUInt32 >>> ((2 : Int32).toUInt32 &&& Int32.toUInt32 31)).toInt32) &&& (858993459 : Int32))).toUInt32 >>> ((4 : Int32).toUInt32 &&& Int32.toUInt32 31)).toInt32)) &&& (252645135 : Int32)))]) F dI_bitCount_33 rfl (by decide) rfl ?_
  refine aw_iload_n (pc := 34) (i := 0) (x := ((((x - (((x.toUInt32 >>> ((1 : Int32).toUInt32 &&& Int32.toUInt32 31)).toInt32) &&& (1431655765 : Int32))) &&& (858993459 : Int32)) + ((((x - (((x.toUInt32 >>> ((1 : Int32).toUInt32 &&& Int32.toUInt32 31)).toInt32) &&& (1431655765 : Int32))).toUInt32 >>> ((2 : Int32).toUInt32 &&& Int32.toUInt32 31)).toInt32) &&& (858993459 : Int32))) + (((((x - (((x.toUInt32 >>> ((1 : Int32).toUInt32 &&& Int32.toUInt32 31)).toInt32) &&& (1431655765 : Int32))) &&& (858993459 : Int32)) + ((((x - (((x.toUInt32 >>> ((1 : Int32).toUInt32 &&& Int32.toUInt32 31)).toInt32) &&& (1431655765 : Int32))).toUInt32 >>> ((2 : Int32).toUInt32 &&& Int32.toUInt32 31)).toInt32) &&& (858993459 : Int32))).toUInt32 >>> ((4 : Int32).toUInt32 &&& Int32.toUInt32 31)).toInt32)) &&& (252645135 : Int32)) F dI_bitCount_34 rfl rfl ?_
  refine aw_iload_n (pc := 35) (i := 0) (x := ((((x - (((x.toUInt32 >>> ((1 : Int32).toUInt32 &&& Int32.toUInt32 31)).toInt32) &&& (1431655765 : Int32))) &&& (858993459 : Int32)) + ((((x - (((x.toUInt32 >>> ((1 : Int32).toUInt32 &&& Int32.toUInt32 31)).toInt32) &&& (1431655765 : Int32))).toUInt32 >>> ((2 : Int32).toUInt32 &&& Int32.toUInt32 31)).toInt32) &&& (858993459 : Int32))) + (((((x - (((x.toUInt32 >>> ((1 : Int32).toUInt32 &&& Int32.toUInt32 31)).toInt32) &&& (1431655765 : Int32))) &&& (858993459 : Int32)) + ((((x - (((x.toUInt32 >>> ((1 : Int32).toUInt32 &&& Int32.toUInt32 31)).toInt32) &&& (1431655765 : Int32))).toUInt32 >>> ((2 : Int32).toUInt32 &&& Int32.toUInt32 31)).toInt32) &&& (858993459 : Int32))).toUInt32 >>> ((4 : Int32).toUInt32 &&& Int32.toUInt32 31)).toInt32)) &&& (252645135 : Int32)) F dI_bitCount_35 rfl rfl ?_
  refine aw_bipush (pc := 36) (v := 8) F dI_bitCount_36 (by decide) ?_
  refine aw_iushr (pc := 38) (v := ((((((x - (((x.toUInt32 >>> ((1 : Int32).toUInt32 &&& Int32.toUInt32 31)).toInt32) &&& (1431655765 : Int32))) &&& (858993459 : Int32)) + ((((x - (((x.toUInt32 >>> ((1 : Int32).toUInt32 &&& Int32.toUInt32 31)).toInt32) &&& (1431655765 : Int32))).toUInt32 >>> ((2 : Int32).toUInt32 &&& Int32.toUInt32 31)).toInt32) &&& (858993459 : Int32))) + (((((x - (((x.toUInt32 >>> ((1 : Int32).toUInt32 &&& Int32.toUInt32 31)).toInt32) &&& (1431655765 : Int32))) &&& (858993459 : Int32)) + ((((x - (((x.toUInt32 >>> ((1 : Int32).toUInt32 &&& Int32.toUInt32 31)).toInt32) &&& (1431655765 : Int32))).toUInt32 >>> ((2 : Int32).toUInt32 &&& Int32.toUInt32 31)).toInt32) &&& (858993459 : Int32))).toUInt32 >>> ((4 : Int32).toUInt32 &&& Int32.toUInt32 31)).toInt32)) &&& (252645135 : Int32)).toUInt32 >>> ((8 : Int32).toUInt32 &&& Int32.toUInt32 31)).toInt32) F dI_bitCount_38 rfl ?_
  refine aw_iadd (pc := 39) F dI_bitCount_39 ?_
  refine aw_istore_n (pc := 40) (i := 0) (L' := [some (.int ((((((x - (((x.toUInt32 >>> ((1 : Int32).toUInt32 &&& Int32.toUInt32 31)).toInt32) &&& (1431655765 : Int32))) &&& (858993459 : Int32)) + ((((x - (((x.toUInt32 >>> ((1 : Int32).toUInt32 &&& Int32.toUInt32 31)).toInt32) &&& (1431655765 : Int32))).toUInt32 >>> ((2 : Int32).toUInt32 &&& Int32.toUInt32 31)).toInt32) &&& (858993459 : Int32))) + (((((x - (((x.toUInt32 >>> ((1 : Int32).toUInt32 &&& Int32.toUInt32 31)).toInt32) &&& (1431655765 : Int32))) &&& (858993459 : Int32)) + ((((x - (((x.toUInt32 >>> ((1 : Int32).toUInt32 &&& Int32.toUInt32 31)).toInt32) &&& (1431655765 : Int32))).toUInt32 >>> ((2 : Int32).toUInt32 &&& Int32.toUInt32 31)).toInt32) &&& (858993459 : Int32))).toUInt32 >>> ((4 : Int32).toUInt32 &&& Int32.toUInt32 31)).toInt32)) &&& (252645135 : Int32)) + (((((((x - (((x.toUInt32 >>> ((1 : Int32).toUInt32 &&& Int32.toUInt32 31)).toInt32) &&& (1431655765 : Int32))) &&& (858993459 : Int32)) + ((((x - (((x.toUInt32 >>> ((1 : Int32).toUInt32 &&& Int32.toUInt32 31)).toInt32) &&& (1431655765 : Int32))).toUInt32 >>> ((2 : Int32).toUInt32 &&& Int32.toUInt32 31)).toInt32) &&& (858993459 : Int32))) + (((((x - (((x.toUInt32 >>> ((1 : Int32).toUInt32 &&& Int32.toUInt32 31)).toInt32) &&& (1431655765 : Int32))) &&& (858993459 : Int32)) + ((((x - (((x.toUInt32 >>> ((1 : Int32).toUInt32 &&& Int32.toUInt32 31)).toInt32) &&& (1431655765 : Int32))).toUInt32 >>> ((2 : Int32).toUInt32 &&& Int32.toUInt32 31)).toInt32) &&& (858993459 : Int32))).toUInt32 >>> ((4 : Int32).toUInt32 &&& Int32.toUInt32 31)).toInt32)) &&& (252645135 : Int32)).toUInt32 >>> ((8 : Int32).toUInt32 &&& Int32.toUInt32 31)).toInt32)))]) F dI_bitCount_40 rfl (by decide) rfl ?_
  refine aw_iload_n (pc := 41) (i := 0) (x := (((((x - (((x.toUInt32 >>> ((1 : Int32).toUInt32 &&& Int32.toUInt32 31)).toInt32) &&& (1431655765 : Int32))) &&& (858993459 : Int32)) + ((((x - (((x.toUInt32 >>> ((1 : Int32).toUInt32 &&& Int32.toUInt32 31)).toInt32) &&& (1431655765 : Int32))).toUInt32 >>> ((2 : Int32).toUInt32 &&& Int32.toUInt32 31)).toInt32) &&& (858993459 : Int32))) + (((((x - (((x.toUInt32 >>> ((1 : Int32).toUInt32 &&& Int32.toUInt32 31)).toInt32) &&& (1431655765 : Int32))) &&& (858993459 : Int32)) + ((((x - (((x.toUInt32 >>> ((1 : Int32).toUInt32 &&& Int32.toUInt32 31)).toInt32) &&& (1431655765 : Int32))).toUInt32 >>> ((2 : Int32).toUInt32 &&& Int32.toUInt32 31)).toInt32) &&& (858993459 : Int32))).toUInt32 >>> ((4 : Int32).toUInt32 &&& Int32.toUInt32 31)).toInt32)) &&& (252645135 : Int32)) + (((((((x - (((x.toUInt32 >>> ((1 : Int32).toUInt32 &&& Int32.toUInt32 31)).toInt32) &&& (1431655765 : Int32))) &&& (858993459 : Int32)) + ((((x - (((x.toUInt32 >>> ((1 : Int32).toUInt32 &&& Int32.toUInt32 31)).toInt32) &&& (1431655765 : Int32))).toUInt32 >>> ((2 : Int32).toUInt32 &&& Int32.toUInt32 31)).toInt32) &&& (858993459 : Int32))) + (((((x - (((x.toUInt32 >>> ((1 : Int32).toUInt32 &&& Int32.toUInt32 31)).toInt32) &&& (1431655765 : Int32))) &&& (858993459 : Int32)) + ((((x - (((x.toUInt32 >>> ((1 : Int32).toUInt32 &&& Int32.toUInt32 31)).toInt32) &&& (1431655765 : Int32))).toUInt32 >>> ((2 : Int32).toUInt32 &&& Int32.toUInt32 31)).toInt32) &&& (858993459 : Int32))).toUInt32 >>> ((4 : Int32).toUInt32 &&& Int32.toUInt32 31)).toInt32)) &&& (252645135 : Int32)).toUInt32 >>> ((8 : Int32).toUInt32 &&& Int32.toUInt32 31)).toInt32)) F dI_bitCount_41 rfl rfl ?_
  refine aw_iload_n (pc := 42) (i := 0) (x := (((((x - (((x.toUInt32 >>> ((1 : Int32).toUInt32 &&& Int32.toUInt32 31)).toInt32) &&& (1431655765 : Int32))) &&& (858993459 : Int32)) + ((((x - (((x.toUInt32 >>> ((1 : Int32).toUInt32 &&& Int32.toUInt32 31)).toInt32) &&& (1431655765 : Int32))).toUInt32 >>> ((2 : Int32).toUInt32 &&& Int32.toUInt32 31)).toInt32) &&& (858993459 : Int32))) + (((((x - (((x.toUInt32 >>> ((1 : Int32).toUInt32 &&& Int32.toUInt32 31)).toInt32) &&& (1431655765 : Int32))) &&& (858993459 : Int32)) + ((((x - (((x.toUInt32 >>> ((1 : Int32).toUInt32 &&& Int32.toUInt32 31)).toInt32) &&& (1431655765 : Int32))).toUInt32 >>> ((2 : Int32).toUInt32 &&& Int32.toUInt32 31)).toInt32) &&& (858993459 : Int32))).toUInt32 >>> ((4 : Int32).toUInt32 &&& Int32.toUInt32 31)).toInt32)) &&& (252645135 : Int32)) + (((((((x - (((x.toUInt32 >>> ((1 : Int32).toUInt32 &&& Int32.toUInt32 31)).toInt32) &&& (1431655765 : Int32))) &&& (858993459 : Int32)) + ((((x - (((x.toUInt32 >>> ((1 : Int32).toUInt32 &&& Int32.toUInt32 31)).toInt32) &&& (1431655765 : Int32))).toUInt32 >>> ((2 : Int32).toUInt32 &&& Int32.toUInt32 31)).toInt32) &&& (858993459 : Int32))) + (((((x - (((x.toUInt32 >>> ((1 : Int32).toUInt32 &&& Int32.toUInt32 31)).toInt32) &&& (1431655765 : Int32))) &&& (858993459 : Int32)) + ((((x - (((x.toUInt32 >>> ((1 : Int32).toUInt32 &&& Int32.toUInt32 31)).toInt32) &&& (1431655765 : Int32))).toUInt32 >>> ((2 : Int32).toUInt32 &&& Int32.toUInt32 31)).toInt32) &&& (858993459 : Int32))).toUInt32 >>> ((4 : Int32).toUInt32 &&& Int32.toUInt32 31)).toInt32)) &&& (252645135 : Int32)).toUInt32 >>> ((8 : Int32).toUInt32 &&& Int32.toUInt32 31)).toInt32)) F dI_bitCount_42 rfl rfl ?_
  refine aw_bipush (pc := 43) (v := 16) F dI_bitCount_43 (by decide) ?_
  refine aw_iushr (pc := 45) (v := (((((((x - (((x.toUInt32 >>> ((1 : Int32).toUInt32 &&& Int32.toUInt32 31)).toInt32) &&& (1431655765 : Int32))) &&& (858993459 : Int32)) + ((((x - (((x.toUInt32 >>> ((1 : Int32).toUInt32 &&& Int32.toUInt32 31)).toInt32) &&& (1431655765 : Int32))).toUInt32 >>> ((2 : Int32).toUInt32 &&& Int32.toUInt32 31)).toInt32) &&& (858993459 : Int32))) + (((((x - (((x.toUInt32 >>> ((1 : Int32).toUInt32 &&& Int32.toUInt32 31)).toInt32) &&& (1431655765 : Int32))) &&& (858993459 : Int32)) + ((((x - (((x.toUInt32 >>> ((1 : Int32).toUInt32 &&& Int32.toUInt32 31)).toInt32) &&& (1431655765 : Int32))).toUInt32 >>> ((2 : Int32).toUInt32 &&& Int32.toUInt32 31)).toInt32) &&& (858993459 : Int32))).toUInt32 >>> ((4 : Int32).toUInt32 &&& Int32.toUInt32 31)).toInt32)) &&& (252645135 : Int32)) + (((((((x - (((x.toUInt32 >>> ((1 : Int32).toUInt32 &&& Int32.toUInt32 31)).toInt32) &&& (1431655765 : Int32))) &&& (858993459 : Int32)) + ((((x - (((x.toUInt32 >>> ((1 : Int32).toUInt32 &&& Int32.toUInt32 31)).toInt32) &&& (1431655765 : Int32))).toUInt32 >>> ((2 : Int32).toUInt32 &&& Int32.toUInt32 31)).toInt32) &&& (858993459 : Int32))) + (((((x - (((x.toUInt32 >>> ((1 : Int32).toUInt32 &&& Int32.toUInt32 31)).toInt32) &&& (1431655765 : Int32))) &&& (858993459 : Int32)) + ((((x - (((x.toUInt32 >>> ((1 : Int32).toUInt32 &&& Int32.toUInt32 31)).toInt32) &&& (1431655765 : Int32))).toUInt32 >>> ((2 : Int32).toUInt32 &&& Int32.toUInt32 31)).toInt32) &&& (858993459 : Int32))).toUInt32 >>> ((4 : Int32).toUInt32 &&& Int32.toUInt32 31)).toInt32)) &&& (252645135 : Int32)).toUInt32 >>> ((8 : Int32).toUInt32 &&& Int32.toUInt32 31)).toInt32)).toUInt32 >>> ((16 : Int32).toUInt32 &&& Int32.toUInt32 31)).toInt32) F dI_bitCount_45 rfl ?_
  refine aw_iadd (pc := 46) F dI_bitCount_46 ?_
  refine aw_istore_n (pc := 47) (i := 0) (L' := [some (.int (((((((x - (((x.toUInt32 >>> ((1 : Int32).toUInt32 &&& Int32.toUInt32 31)).toInt32) &&& (1431655765 : Int32))) &&& (858993459 : Int32)) + ((((x - (((x.toUInt32 >>> ((1 : Int32).toUInt32 &&& Int32.toUInt32 31)).toInt32) &&& (1431655765 : Int32))).toUInt32 >>> ((2 : Int32).toUInt32 &&& Int32.toUInt32 31)).toInt32) &&& (858993459 : Int32))) + (((((x - (((x.toUInt32 >>> ((1 : Int32).toUInt32 &&& Int32.toUInt32 31)).toInt32) &&& (1431655765 : Int32))) &&& (858993459 : Int32)) + ((((x - (((x.toUInt32 >>> ((1 : Int32).toUInt32 &&& Int32.toUInt32 31)).toInt32) &&& (1431655765 : Int32))).toUInt32 >>> ((2 : Int32).toUInt32 &&& Int32.toUInt32 31)).toInt32) &&& (858993459 : Int32))).toUInt32 >>> ((4 : Int32).toUInt32 &&& Int32.toUInt32 31)).toInt32)) &&& (252645135 : Int32)) + (((((((x - (((x.toUInt32 >>> ((1 : Int32).toUInt32 &&& Int32.toUInt32 31)).toInt32) &&& (1431655765 : Int32))) &&& (858993459 : Int32)) + ((((x - (((x.toUInt32 >>> ((1 : Int32).toUInt32 &&& Int32.toUInt32 31)).toInt32) &&& (1431655765 : Int32))).toUInt32 >>> ((2 : Int32).toUInt32 &&& Int32.toUInt32 31)).toInt32) &&& (858993459 : Int32))) + (((((x - (((x.toUInt32 >>> ((1 : Int32).toUInt32 &&& Int32.toUInt32 31)).toInt32) &&& (1431655765 : Int32))) &&& (858993459 : Int32)) + ((((x - (((x.toUInt32 >>> ((1 : Int32).toUInt32 &&& Int32.toUInt32 31)).toInt32) &&& (1431655765 : Int32))).toUInt32 >>> ((2 : Int32).toUInt32 &&& Int32.toUInt32 31)).toInt32) &&& (858993459 : Int32))).toUInt32 >>> ((4 : Int32).toUInt32 &&& Int32.toUInt32 31)).toInt32)) &&& (252645135 : Int32)).toUInt32 >>> ((8 : Int32).toUInt32 &&& Int32.toUInt32 31)).toInt32)) + ((((((((x - (((x.toUInt32 >>> ((1 : Int32).toUInt32 &&& Int32.toUInt32 31)).toInt32) &&& (1431655765 : Int32))) &&& (858993459 : Int32)) + ((((x - (((x.toUInt32 >>> ((1 : Int32).toUInt32 &&& Int32.toUInt32 31)).toInt32) &&& (1431655765 : Int32))).toUInt32 >>> ((2 : Int32).toUInt32 &&& Int32.toUInt32 31)).toInt32) &&& (858993459 : Int32))) + (((((x - (((x.toUInt32 >>> ((1 : Int32).toUInt32 &&& Int32.toUInt32 31)).toInt32) &&& (1431655765 : Int32))) &&& (858993459 : Int32)) + ((((x - (((x.toUInt32 >>> ((1 : Int32).toUInt32 &&& Int32.toUInt32 31)).toInt32) &&& (1431655765 : Int32))).toUInt32 >>> ((2 : Int32).toUInt32 &&& Int32.toUInt32 31)).toInt32) &&& (858993459 : Int32))).toUInt32 >>> ((4 : Int32).toUInt32 &&& Int32.toUInt32 31)).toInt32)) &&& (252645135 : Int32)) + (((((((x - (((x.toUInt32 >>> ((1 : Int32).toUInt32 &&& Int32.toUInt32 31)).toInt32) &&& (1431655765 : Int32))) &&& (858993459 : Int32)) + ((((x - (((x.toUInt32 >>> ((1 : Int32).toUInt32 &&& Int32.toUInt32 31)).toInt32) &&& (1431655765 : Int32))).toUInt32 >>> ((2 : Int32).toUInt32 &&& Int32.toUInt32 31)).toInt32) &&& (858993459 : Int32))) + (((((x - (((x.toUInt32 >>> ((1 : Int32).toUInt32 &&& Int32.toUInt32 31)).toInt32) &&& (1431655765 : Int32))) &&& (858993459 : Int32)) + ((((x - (((x.toUInt32 >>> ((1 : Int32).toUInt32 &&& Int32.toUInt32 31)).toInt32) &&& (1431655765 : Int32))).toUInt32 >>> ((2 : Int32).toUInt32 &&& Int32.toUInt32 31)).toInt32) &&& (858993459 : Int32))).toUInt32 >>> ((4 : Int32).toUInt32 &&& Int32.toUInt32 31)).toInt32)) &&& (252645135 : Int32)).toUInt32 >>> ((8 : Int32).toUInt32 &&& Int32.toUInt32 31)).toInt32)).toUInt32 >>> ((16 : Int32).toUInt32 &&& Int32.toUInt32 31)).toInt32)))]) F dI_bitCount_47 rfl (by decide) rfl ?_
  refine aw_iload_n (pc := 48) (i := 0) (x := ((((((x - (((x.toUInt32 >>> ((1 : Int32).toUInt32 &&& Int32.toUInt32 31)).toInt32) &&& (1431655765 : Int32))) &&& (858993459 : Int32)) + ((((x - (((x.toUInt32 >>> ((1 : Int32).toUInt32 &&& Int32.toUInt32 31)).toInt32) &&& (1431655765 : Int32))).toUInt32 >>> ((2 : Int32).toUInt32 &&& Int32.toUInt32 31)).toInt32) &&& (858993459 : Int32))) + (((((x - (((x.toUInt32 >>> ((1 : Int32).toUInt32 &&& Int32.toUInt32 31)).toInt32) &&& (1431655765 : Int32))) &&& (858993459 : Int32)) + ((((x - (((x.toUInt32 >>> ((1 : Int32).toUInt32 &&& Int32.toUInt32 31)).toInt32) &&& (1431655765 : Int32))).toUInt32 >>> ((2 : Int32).toUInt32 &&& Int32.toUInt32 31)).toInt32) &&& (858993459 : Int32))).toUInt32 >>> ((4 : Int32).toUInt32 &&& Int32.toUInt32 31)).toInt32)) &&& (252645135 : Int32)) + (((((((x - (((x.toUInt32 >>> ((1 : Int32).toUInt32 &&& Int32.toUInt32 31)).toInt32) &&& (1431655765 : Int32))) &&& (858993459 : Int32)) + ((((x - (((x.toUInt32 >>> ((1 : Int32).toUInt32 &&& Int32.toUInt32 31)).toInt32) &&& (1431655765 : Int32))).toUInt32 >>> ((2 : Int32).toUInt32 &&& Int32.toUInt32 31)).toInt32) &&& (858993459 : Int32))) + (((((x - (((x.toUInt32 >>> ((1 : Int32).toUInt32 &&& Int32.toUInt32 31)).toInt32) &&& (1431655765 : Int32))) &&& (858993459 : Int32)) + ((((x - (((x.toUInt32 >>> ((1 : Int32).toUInt32 &&& Int32.toUInt32 31)).toInt32) &&& (1431655765 : Int32))).toUInt32 >>> ((2 : Int32).toUInt32 &&& Int32.toUInt32 31)).toInt32) &&& (858993459 : Int32))).toUInt32 >>> ((4 : Int32).toUInt32 &&& Int32.toUInt32 31)).toInt32)) &&& (252645135 : Int32)).toUInt32 >>> ((8 : Int32).toUInt32 &&& Int32.toUInt32 31)).toInt32)) + ((((((((x - (((x.toUInt32 >>> ((1 : Int32).toUInt32 &&& Int32.toUInt32 31)).toInt32) &&& (1431655765 : Int32))) &&& (858993459 : Int32)) + ((((x - (((x.toUInt32 >>> ((1 : Int32).toUInt32 &&& Int32.toUInt32 31)).toInt32) &&& (1431655765 : Int32))).toUInt32 >>> ((2 : Int32).toUInt32 &&& Int32.toUInt32 31)).toInt32) &&& (858993459 : Int32))) + (((((x - (((x.toUInt32 >>> ((1 : Int32).toUInt32 &&& Int32.toUInt32 31)).toInt32) &&& (1431655765 : Int32))) &&& (858993459 : Int32)) + ((((x - (((x.toUInt32 >>> ((1 : Int32).toUInt32 &&& Int32.toUInt32 31)).toInt32) &&& (1431655765 : Int32))).toUInt32 >>> ((2 : Int32).toUInt32 &&& Int32.toUInt32 31)).toInt32) &&& (858993459 : Int32))).toUInt32 >>> ((4 : Int32).toUInt32 &&& Int32.toUInt32 31)).toInt32)) &&& (252645135 : Int32)) + (((((((x - (((x.toUInt32 >>> ((1 : Int32).toUInt32 &&& Int32.toUInt32 31)).toInt32) &&& (1431655765 : Int32))) &&& (858993459 : Int32)) + ((((x - (((x.toUInt32 >>> ((1 : Int32).toUInt32 &&& Int32.toUInt32 31)).toInt32) &&& (1431655765 : Int32))).toUInt32 >>> ((2 : Int32).toUInt32 &&& Int32.toUInt32 31)).toInt32) &&& (858993459 : Int32))) + (((((x - (((x.toUInt32 >>> ((1 : Int32).toUInt32 &&& Int32.toUInt32 31)).toInt32) &&& (1431655765 : Int32))) &&& (858993459 : Int32)) + ((((x - (((x.toUInt32 >>> ((1 : Int32).toUInt32 &&& Int32.toUInt32 31)).toInt32) &&& (1431655765 : Int32))).toUInt32 >>> ((2 : Int32).toUInt32 &&& Int32.toUInt32 31)).toInt32) &&& (858993459 : Int32))).toUInt32 >>> ((4 : Int32).toUInt32 &&& Int32.toUInt32 31)).toInt32)) &&& (252645135 : Int32)).toUInt32 >>> ((8 : Int32).toUInt32 &&& Int32.toUInt32 31)).toInt32)).toUInt32 >>> ((16 : Int32).toUInt32 &&& Int32.toUInt32 31)).toInt32)) F dI_bitCount_48 rfl rfl ?_
  refine aw_bipush (pc := 49) (v := 63) F dI_bitCount_49 (by decide) ?_
  refine aw_iand (pc := 51) F dI_bitCount_51 ?_
  exact aw_iret (pc := 52) F hr hlk dI_bitCount_52 (by first | rfl | (unfold fj_bitCount; rfl)) rfl
theorem nz_hasBit {x y : Int32} : narrow .boolean (.int (fk_hasBit x y)) = .int (fk_hasBit x y) := by
  unfold fk_hasBit
  split <;> rfl
theorem room_sz {P : pT} {so : Int32} (h : ¬ fp_hasRoomFor P so = 0) : (P.1 1).toInt < 120 := by
  by_cases q : (120 : Int32) ≤ (P.1 1)
  · rw [fp_hasRoomFor, if_pos q] at h
    exact absurd rfl h
  · have a := i_lt q
    have b : (120 : Int32).toInt = 120 := rfl
    omega
theorem allows_so {P : pT} {so x : Int32} (h : ¬ fp_allows P so x = 0) : vp_in so 11 := by
  rw [vp_in_iff]
  by_cases c2 : so = (2 : Int32)
  · rw [c2]; decide
  by_cases c3 : so = (3 : Int32)
  · rw [c3]; decide
  by_cases c4 : so = (4 : Int32)
  · rw [c4]; decide
  by_cases c5 : so = (5 : Int32)
  · rw [c5]; decide
  by_cases c6 : so = (6 : Int32)
  · rw [c6]; decide
  by_cases c7 : so = (7 : Int32)
  · rw [c7]; decide
  by_cases c8 : so = (8 : Int32)
  · rw [c8]; decide
  by_cases c9 : so = (9 : Int32)
  · rw [c9]; decide
  by_cases c10 : so = (10 : Int32)
  · rw [c10]; decide
  rw [fp_allows, if_neg c2, if_neg c3, if_neg c4, if_neg c5, if_neg c6, if_neg c7, if_neg c8, if_neg c9, if_neg c10] at h
  by_cases a : so < 0
  · rw [if_pos a] at h
    exact absurd rfl h
  · by_cases b : (10 : Int32) < so
    · rw [if_neg a, if_pos b] at h
      exact absurd rfl h
    · have x1 := i_nlt a
      have x2 := i_nlt b
      rw [i_0] at x1
      have e : (10 : Int32).toInt = 10 := rfl
      omega
def fk_rewind  (S : kT) (X : xT) (ph : Int32) : kT × xT :=
  ((kw (kw (kw (kw S 0 ph) 1 (0 : Int32)) 2 (65535 : Int32)) 3 (0 : Int32)), (fr_rewind X))
set_option maxRecDepth 100000 in
set_option maxHeartbeats 4000000 in
theorem tK_rewind {l : Launch} {D : va_G} {A : Nat → Prop} {ad : Nat → Nat} {tP : Nat} {cI : ClassId} {tl : List va_E} {tyr : List (ClassId × FieldType)} (S : kT) (P : pT) (X : xT) (ph : Int32)  : aw_M l yK_rewind (Cond.code yK_rewind cK_rewind 2 none :: aw_big) 1 D vwCl ((cI, .int) :: tyr) A ad (zC A tP) [.ref (ad 0), .int ph] (hC ad cI S P X ++ tl) none (hC ad cI ((fk_rewind S X ph).1) P ((fk_rewind S X ph).2) ++ tl) := by
  refine aw_met cK_rewind 2 none [some (.ref (ad 0)), some (.int ph)] (by decide) rfl (Nat.le_of_ble_eq_true rfl) rfl ?_
  intro p e s m args below meth c F Zs hr hlk
  refine aw_aload_n (pc := 0) (i := 0) (x := ad 0) F dK_rewind_0 rfl rfl ?_
  refine aw_iload_n (pc := 1) (i := 1) (x := ph) F dK_rewind_1 rfl rfl ?_
  refine aw_put (pc := 2) (hp' := (hC ad cI (kw S 0 ph) P X ++ tl)) F 0 hC_at0 rfl 2 (by decide) (fun w h => mw (iw_K w h)) tyK tyK_ok nmK (mw wd_185) (ty := .int) rfl (by decide +kernel) rfl rfl (Nat.le_of_ble_eq_true rfl) hC_st0_2 dK_rewind_2 ?_
  refine aw_aload_n (pc := 5) (i := 0) (x := ad 0) F dK_rewind_5 rfl rfl ?_
  refine aw_iconst (pc := 6) (v := 0) F dK_rewind_6 (by decide) ?_
  refine aw_put (pc := 7) (hp' := (hC ad cI (kw (kw S 0 ph) 1 (0 : Int32)) P X ++ tl)) F 0 hC_at0 rfl 3 (by decide) (fun w h => mw (iw_K w h)) tyK tyK_ok nmK (mw wd_186) (ty := .int) rfl (by decide +kernel) rfl rfl (Nat.le_of_ble_eq_true rfl) hC_st0_3 dK_rewind_7 ?_
  refine aw_aload_n (pc := 10) (i := 0) (x := ad 0) F dK_rewind_10 rfl rfl ?_
  refine aw_ldc (pc := 11) (v := 65535) F dK_rewind_11 (mw wd_182) ?_
  refine aw_put (pc := 13) (hp' := (hC ad cI (kw (kw (kw S 0 ph) 1 (0 : Int32)) 2 (65535 : Int32)) P X ++ tl)) F 0 hC_at0 rfl 4 (by decide) (fun w h => mw (iw_K w h)) tyK tyK_ok nmK (mw wd_187) (ty := .int) rfl (by decide +kernel) rfl rfl (Nat.le_of_ble_eq_true rfl) hC_st0_4 dK_rewind_13 ?_
  refine aw_aload_n (pc := 16) (i := 0) (x := ad 0) F dK_rewind_16 rfl rfl ?_
  refine aw_iconst (pc := 17) (v := 0) F dK_rewind_17 (by decide) ?_
  refine aw_put (pc := 18) (hp' := (hC ad cI (kw (kw (kw (kw S 0 ph) 1 (0 : Int32)) 2 (65535 : Int32)) 3 (0 : Int32)) P X ++ tl)) F 0 hC_at0 rfl 5 (by decide) (fun w h => mw (iw_K w h)) tyK tyK_ok nmK (mw wd_188) (ty := .int) rfl (by decide +kernel) rfl rfl (Nat.le_of_ble_eq_true rfl) hC_st0_5 dK_rewind_18 ?_
  refine aw_aload_n (pc := 21) (i := 0) (x := ad 0) F dK_rewind_21 rfl rfl ?_
  refine aw_get (pc := 22) (v := .ref (ad 11)) F 0 hC_at0 rfl 1 (by decide) (fun w h => mw (iw_K w h)) (mw wd_184) rfl dK_rewind_22 ?_
  refine aw_goVN (pc := 25) (As := []) (rest := []) F zC_ok Zs 11 hC_at11 rfl (tX_rewind  (kw (kw (kw (kw S 0 ph) 1 (0 : Int32)) 2 (65535 : Int32)) 3 (0 : Int32)) P X) ⟨va_cnB 0 F.1.2.2.2.2 (gi_0 wd_213) rfl rfl rfl (nw_m Zs nl_210) (F.1.2.2.2.2 _ (mw wd_66)) (by decide +kernel) ⟨Nat.le_of_ble_eq_true rfl, Nat.le_of_ble_eq_true rfl⟩, F.1.2.2.2.2 _ (mw wd_212), F.1.2.2.2.2 _ (mw wd_1)⟩ rfl (Nat.le_of_ble_eq_true rfl) ⟨Nat.zero_le _, Nat.zero_le _⟩ rfl dK_rewind_25 ?_
  show aW _ _ _ _ _ _ _ _ _ _ _ _ _ _ _ _ _ _ _ _ _ []
  exact aw_vret (pc := 28) F hr hlk dK_rewind_28 (by first | rfl | (unfold fk_rewind; rfl))
def fk_put  (P : pT) (so : Int32) (x : Int32) : Int32 × pT :=
  if (fp_isWhole P) = 0 then
    if (fp_allows P so x) = 0 then
      (0, P)
    else
      if (fp_hasRoomFor P so) = 0 then ((-1 : Int32), P) else (((fp_add P so x).1 2), (fp_add P so x))
  else
    (0, P)
set_option maxRecDepth 100000 in
set_option maxHeartbeats 4000000 in
theorem tK_put {l : Launch} {D : va_G} {A : Nat → Prop} {ad : Nat → Nat} {tP : Nat} {cI : ClassId} {tl : List va_E} {tyr : List (ClassId × FieldType)} (S : kT) (P : pT) (X : xT) (so : Int32) (x : Int32) (hS : pS P) (hL : pL P) (hO : pO P) (hn1 : fp_isWhole P = 0) (hn2 : ¬ fp_allows P so x = 0) : aw_M l yK_put (Cond.code yK_put cK_put 3 (some .int) :: aw_big) 4 D vwCl ((cI, .int) :: tyr) A ad (zC A tP) [.ref (ad 0), .int so, .int x] (hC ad cI S P X ++ tl) (some (.int ((fk_put P so x).1))) (hC ad cI S ((fk_put P so x).2) X ++ tl) := by
  refine aw_met cK_put 3 (some .int) [some (.ref (ad 0)), some (.int so), some (.int x)] (by decide) rfl (Nat.le_of_ble_eq_true rfl) rfl ?_
  intro p e s m args below meth c F Zs hr hlk
  refine aw_aload_n (pc := 0) (i := 0) (x := ad 0) F dK_put_0 rfl rfl ?_
  refine aw_get (pc := 1) (v := .ref (ad 1)) F 0 hC_at0 rfl 0 (by decide) (fun w h => mw (iw_K w h)) (mw wd_183) rfl dK_put_1 ?_
  refine aw_goVN (pc := 4) (As := []) (rest := []) F zC_ok Zs 1 hC_at1 rfl (tG_isWhole  S P X) ⟨va_cnB 0 F.1.2.2.2.2 (gi_0 wd_240) rfl rfl rfl (nw_m Zs nl_237) (F.1.2.2.2.2 _ (mw wd_65)) (by decide +kernel) ⟨Nat.le_of_ble_eq_true rfl, Nat.le_of_ble_eq_true rfl⟩, F.1.2.2.2.2 _ (mw wd_239), F.1.2.2.2.2 _ (mw wd_3)⟩ rfl (Nat.le_of_ble_eq_true rfl) ⟨Nat.zero_le _, Nat.zero_le _⟩ rfl dK_put_4 ?_
  show aW _ _ _ _ _ _ _ _ _ _ _ _ _ _ _ _ _ _ _ _ _ [.int (fp_isWhole P)]
  refine aw_if_eq (pc := 7) F 20 dK_put_7 (by decide) (fun c_7 => ?_) (fun c_7 => ?_)
  · skip
    refine aw_aload_n (pc := 20) (i := 0) (x := ad 0) F dK_put_20 rfl rfl ?_
    refine aw_get (pc := 21) (v := .ref (ad 1)) F 0 hC_at0 rfl 0 (by decide) (fun w h => mw (iw_K w h)) (mw wd_183) rfl dK_put_21 ?_
    refine aw_iload_n (pc := 24) (i := 1) (x := so) F dK_put_24 rfl rfl ?_
    refine aw_iload_n (pc := 25) (i := 2) (x := x) F dK_put_25 rfl rfl ?_
    refine aw_goVN (pc := 26) (As := [.int so, .int x]) (rest := []) F zC_ok Zs 1 hC_at1 rfl (tG_allows  S P X so x hS hL) ⟨va_cnB 2 F.1.2.2.2.2 (gi_0 wd_312) rfl rfl rfl (nw_m Zs nl_309) (F.1.2.2.2.2 _ (mw wd_65)) (by decide +kernel) ⟨Nat.le_of_ble_eq_true rfl, Nat.le_of_ble_eq_true rfl⟩, F.1.2.2.2.2 _ (mw wd_311), F.1.2.2.2.2 _ (mw wd_5)⟩ rfl (Nat.le_of_ble_eq_true rfl) ⟨Nat.zero_le _, Nat.zero_le _⟩ rfl dK_put_26 ?_
    show aW _ _ _ _ _ _ _ _ _ _ _ _ _ _ _ _ _ _ _ _ _ [.int (fp_allows P so x)]
    refine aw_if_ne (pc := 29) F 42 dK_put_29 (by decide) (fun c_29 => ?_) (fun c_29 => ?_)
    · skip
      refine aw_aload_n (pc := 42) (i := 0) (x := ad 0) F dK_put_42 rfl rfl ?_
      refine aw_get (pc := 43) (v := .ref (ad 1)) F 0 hC_at0 rfl 0 (by decide) (fun w h => mw (iw_K w h)) (mw wd_183) rfl dK_put_43 ?_
      refine aw_iload_n (pc := 46) (i := 1) (x := so) F dK_put_46 rfl rfl ?_
      refine aw_goVN (pc := 47) (As := [.int so]) (rest := []) F zC_ok Zs 1 hC_at1 rfl (tG_hasRoomFor  S P X so hS hL) ⟨va_cnB 1 F.1.2.2.2.2 (gi_0 wd_344) rfl rfl rfl (nw_m Zs nl_341) (F.1.2.2.2.2 _ (mw wd_65)) (by decide +kernel) ⟨Nat.le_of_ble_eq_true rfl, Nat.le_of_ble_eq_true rfl⟩, F.1.2.2.2.2 _ (mw wd_343), F.1.2.2.2.2 _ (mw wd_9)⟩ rfl (Nat.le_of_ble_eq_true rfl) ⟨Nat.zero_le _, Nat.zero_le _⟩ rfl dK_put_47 ?_
      show aW _ _ _ _ _ _ _ _ _ _ _ _ _ _ _ _ _ _ _ _ _ [.int (fp_hasRoomFor P so)]
      refine aw_if_ne (pc := 50) F 55 dK_put_50 (by decide) (fun c_50 => ?_) (fun c_50 => ?_)
      · skip
        refine aw_aload_n (pc := 55) (i := 0) (x := ad 0) F dK_put_55 rfl rfl ?_
        refine aw_get (pc := 56) (v := .ref (ad 1)) F 0 hC_at0 rfl 0 (by decide) (fun w h => mw (iw_K w h)) (mw wd_183) rfl dK_put_56 ?_
        refine aw_iload_n (pc := 59) (i := 1) (x := so) F dK_put_59 rfl rfl ?_
        refine aw_iload_n (pc := 60) (i := 2) (x := x) F dK_put_60 rfl rfl ?_
        refine aw_goVN (pc := 61) (As := [.int so, .int x]) (rest := []) F zC_ok Zs 1 hC_at1 rfl (tG_add  S P X so x hS hL hO (room_sz c_50) (allows_so hn2)) ⟨va_cnB 2 F.1.2.2.2.2 (gi_0 wd_356) rfl rfl rfl (nw_m Zs nl_353) (F.1.2.2.2.2 _ (mw wd_65)) (by decide +kernel) ⟨Nat.le_of_ble_eq_true rfl, Nat.le_of_ble_eq_true rfl⟩, F.1.2.2.2.2 _ (mw wd_355), F.1.2.2.2.2 _ (mw wd_12)⟩ rfl (Nat.le_of_ble_eq_true rfl) ⟨Nat.zero_le _, Nat.zero_le _⟩ rfl dK_put_61 ?_
        show aW _ _ _ _ _ _ _ _ _ _ _ _ _ _ _ _ _ _ _ _ _ []
        refine aw_aload_n (pc := 64) (i := 0) (x := ad 0) F dK_put_64 rfl rfl ?_
        refine aw_get (pc := 65) (v := .ref (ad 1)) F 0 hC_at0 rfl 0 (by decide) (fun w h => mw (iw_K w h)) (mw wd_183) rfl dK_put_65 ?_
        refine aw_getN (pc := 68) (v := .int ((fp_add P so x).1 2)) F 1 hC_at1 rfl 11 (by decide) (fun w h => mw (iw_G w h)) (nw_f Zs nl_105) rfl dK_put_68 ?_
        exact aw_iret (pc := 71) F hr hlk dK_put_71 (by rw [fk_put, if_pos c_7, if_neg c_29, if_neg c_50]) (by rw [fk_put, if_pos c_7, if_neg c_29, if_neg c_50])
      · skip
        refine aw_iconst (pc := 53) (v := -1) F dK_put_53 (by decide) ?_
        exact aw_iret (pc := 54) F hr hlk dK_put_54 (by rw [fk_put, if_pos c_7, if_neg c_29, if_pos c_50]) (by rw [fk_put, if_pos c_7, if_neg c_29, if_pos c_50])
    · skip
      exact absurd c_29 hn2
  · skip
    exact absurd hn1 c_7
def fk_start  (S : kT) (P : pT) (X : xT)  : Int32 × kT × pT × xT :=
  if (fp_isWhole P) = 0 then
    (0, S, P, X)
  else
    if ((fp_firstLoopAtOnce P).1) = (-1 : Int32) then
      ((0 : Int32), ((fk_rewind S X (1 : Int32)).1), ((fp_firstLoopAtOnce P).2), ((fk_rewind S X (1 : Int32)).2))
    else
      ((1 : Int32) + ((fp_firstLoopAtOnce P).1), S, ((fp_firstLoopAtOnce P).2), X)
set_option maxRecDepth 100000 in
set_option maxHeartbeats 4000000 in
theorem tK_start {l : Launch} {D : va_G} {A : Nat → Prop} {ad : Nat → Nat} {tP : Nat} {cI : ClassId} {tl : List va_E} {tyr : List (ClassId × FieldType)} (S : kT) (P : pT) (X : xT)  (hS : pS P) (hn1 : ¬ fp_isWhole P = 0) : aw_M l yK_start (Cond.code yK_start cK_start 2 (some .int) :: aw_big) 4 D vwCl ((cI, .int) :: tyr) A ad (zC A tP) [.ref (ad 0)] (hC ad cI S P X ++ tl) (some (.int ((fk_start S P X).1))) (hC ad cI ((fk_start S P X).2.1) ((fk_start S P X).2.2.1) ((fk_start S P X).2.2.2) ++ tl) := by
  refine aw_met cK_start 2 (some .int) [some (.ref (ad 0)), none] (by decide) rfl (Nat.le_of_ble_eq_true rfl) rfl ?_
  intro p e s m args below meth c F Zs hr hlk
  refine aw_aload_n (pc := 0) (i := 0) (x := ad 0) F dK_start_0 rfl rfl ?_
  refine aw_get (pc := 1) (v := .ref (ad 1)) F 0 hC_at0 rfl 0 (by decide) (fun w h => mw (iw_K w h)) (mw wd_183) rfl dK_start_1 ?_
  refine aw_goVN (pc := 4) (As := []) (rest := []) F zC_ok Zs 1 hC_at1 rfl (tG_isWhole  S P X) ⟨va_cnB 0 F.1.2.2.2.2 (gi_0 wd_240) rfl rfl rfl (nw_m Zs nl_237) (F.1.2.2.2.2 _ (mw wd_65)) (by decide +kernel) ⟨Nat.le_of_ble_eq_true rfl, Nat.le_of_ble_eq_true rfl⟩, F.1.2.2.2.2 _ (mw wd_239), F.1.2.2.2.2 _ (mw wd_3)⟩ rfl (Nat.le_of_ble_eq_true rfl) ⟨Nat.zero_le _, Nat.zero_le _⟩ rfl dK_start_4 ?_
  show aW _ _ _ _ _ _ _ _ _ _ _ _ _ _ _ _ _ _ _ _ _ [.int (fp_isWhole P)]
  refine aw_if_ne (pc := 7) F 20 dK_start_7 (by decide) (fun c_7 => ?_) (fun c_7 => ?_)
  · skip
    refine aw_aload_n (pc := 20) (i := 0) (x := ad 0) F dK_start_20 rfl rfl ?_
    refine aw_get (pc := 21) (v := .ref (ad 1)) F 0 hC_at0 rfl 0 (by decide) (fun w h => mw (iw_K w h)) (mw wd_183) rfl dK_start_21 ?_
    refine aw_goVN (pc := 24) (As := []) (rest := []) F zC_ok Zs 1 hC_at1 rfl (tG_firstLoopAtOnce  S P X  hS) ⟨va_cnB 0 F.1.2.2.2.2 (gi_0 wd_386) rfl rfl rfl (nw_m Zs nl_383) (F.1.2.2.2.2 _ (mw wd_65)) (by decide +kernel) ⟨Nat.le_of_ble_eq_true rfl, Nat.le_of_ble_eq_true rfl⟩, F.1.2.2.2.2 _ (mw wd_385), F.1.2.2.2.2 _ (mw wd_17)⟩ rfl (Nat.le_of_ble_eq_true rfl) ⟨Nat.zero_le _, Nat.zero_le _⟩ rfl dK_start_24 ?_
    show aW _ _ _ _ _ _ _ _ _ _ _ _ _ _ _ _ _ _ _ _ _ [.int ((fp_firstLoopAtOnce P).1)]
    refine aw_istore_n (pc := 27) (i := 1) (L' := [some (.ref (ad 0)), some (.int ((fp_firstLoopAtOnce P).1))]) F dK_start_27 rfl (by decide) rfl ?_
    refine aw_iload_n (pc := 28) (i := 1) (x := ((fp_firstLoopAtOnce P).1)) F dK_start_28 rfl rfl ?_
    refine aw_iconst (pc := 29) (v := -1) F dK_start_29 (by decide) ?_
    refine aw_icmp_eq (pc := 30) F 37 dK_start_30 (by decide) (fun c_30 => ?_) (fun c_30 => ?_)
    · skip
      refine aw_aload_n (pc := 37) (i := 0) (x := ad 0) F dK_start_37 rfl rfl ?_
      refine aw_iconst (pc := 38) (v := 1) F dK_start_38 (by decide) ?_
      refine aw_goV (pc := 39) (As := [.int (1 : Int32)]) (rest := []) F zC_ok Zs 0 hC_at0 rfl (tK_rewind  S ((fp_firstLoopAtOnce P).2) X (1 : Int32)) (cwV 1 F.1.2.2.2.2 (gi_V wd_206 wd_208 wd_0 wd_64 wd_209) rfl rfl rfl (by decide +kernel) ⟨Nat.le_of_ble_eq_true rfl, Nat.le_of_ble_eq_true rfl⟩) rfl (Nat.le_of_ble_eq_true rfl) ⟨Nat.zero_le _, Nat.zero_le _⟩ rfl dK_start_39 ?_
      show aW _ _ _ _ _ _ _ _ _ _ _ _ _ _ _ _ _ _ _ _ _ []
      refine aw_iconst (pc := 42) (v := 0) F dK_start_42 (by decide) ?_
      exact aw_iret (pc := 43) F hr hlk dK_start_43 (by rw [fk_start, if_neg c_7, if_pos c_30]) (by rw [fk_start, if_neg c_7, if_pos c_30])
    · skip
      refine aw_iconst (pc := 33) (v := 1) F dK_start_33 (by decide) ?_
      refine aw_iload_n (pc := 34) (i := 1) (x := ((fp_firstLoopAtOnce P).1)) F dK_start_34 rfl rfl ?_
      refine aw_iadd (pc := 35) F dK_start_35 ?_
      exact aw_iret (pc := 36) F hr hlk dK_start_36 (by rw [fk_start, if_neg c_7, if_neg c_30]) (by rw [fk_start, if_neg c_7, if_neg c_30])
  · skip
    exact absurd c_7 hn1
def fk_clear  (S : kT) (P : pT) (X : xT)  : Int32 × kT × pT × xT :=
  (((fp_forget P).1), ((fk_rewind S X (0 : Int32)).1), ((fp_forget P).2), ((fk_rewind S X (0 : Int32)).2))
set_option maxRecDepth 100000 in
set_option maxHeartbeats 4000000 in
theorem tK_clear {l : Launch} {D : va_G} {A : Nat → Prop} {ad : Nat → Nat} {tP : Nat} {cI : ClassId} {tl : List va_E} {tyr : List (ClassId × FieldType)} (S : kT) (P : pT) (X : xT)   : aw_M l yK_clear (Cond.code yK_clear cK_clear 1 (some .int) :: aw_big) 2 D vwCl ((cI, .int) :: tyr) A ad (zC A tP) [.ref (ad 0)] (hC ad cI S P X ++ tl) (some (.int ((fk_clear S P X).1))) (hC ad cI ((fk_clear S P X).2.1) ((fk_clear S P X).2.2.1) ((fk_clear S P X).2.2.2) ++ tl) := by
  refine aw_met cK_clear 1 (some .int) [some (.ref (ad 0))] (by decide) rfl (Nat.le_of_ble_eq_true rfl) rfl ?_
  intro p e s m args below meth c F Zs hr hlk
  refine aw_aload_n (pc := 0) (i := 0) (x := ad 0) F dK_clear_0 rfl rfl ?_
  refine aw_iconst (pc := 1) (v := 0) F dK_clear_1 (by decide) ?_
  refine aw_goV (pc := 2) (As := [.int (0 : Int32)]) (rest := []) F zC_ok Zs 0 hC_at0 rfl (tK_rewind  S P X (0 : Int32)) (cwV 1 F.1.2.2.2.2 (gi_V wd_206 wd_208 wd_0 wd_64 wd_209) rfl rfl rfl (by decide +kernel) ⟨Nat.le_of_ble_eq_true rfl, Nat.le_of_ble_eq_true rfl⟩) rfl (Nat.le_of_ble_eq_true rfl) ⟨Nat.zero_le _, Nat.zero_le _⟩ rfl dK_clear_2 ?_
  show aW _ _ _ _ _ _ _ _ _ _ _ _ _ _ _ _ _ _ _ _ _ []
  refine aw_aload_n (pc := 5) (i := 0) (x := ad 0) F dK_clear_5 rfl rfl ?_
  refine aw_get (pc := 6) (v := .ref (ad 1)) F 0 hC_at0 rfl 0 (by decide) (fun w h => mw (iw_K w h)) (mw wd_183) rfl dK_clear_6 ?_
  refine aw_goVN (pc := 9) (As := []) (rest := []) F zC_ok Zs 1 hC_at1 rfl (tG_forget  ((fk_rewind S X (0 : Int32)).1) P ((fk_rewind S X (0 : Int32)).2)) ⟨va_cnB 0 F.1.2.2.2.2 (gi_0 wd_217) rfl rfl rfl (nw_m Zs nl_214) (F.1.2.2.2.2 _ (mw wd_65)) (by decide +kernel) ⟨Nat.le_of_ble_eq_true rfl, Nat.le_of_ble_eq_true rfl⟩, F.1.2.2.2.2 _ (mw wd_216), F.1.2.2.2.2 _ (mw wd_2)⟩ rfl (Nat.le_of_ble_eq_true rfl) ⟨Nat.zero_le _, Nat.zero_le _⟩ rfl dK_clear_9 ?_
  show aW _ _ _ _ _ _ _ _ _ _ _ _ _ _ _ _ _ _ _ _ _ [.int ((fp_forget P).1)]
  exact aw_iret (pc := 12) F hr hlk dK_clear_12 (by first | rfl | (unfold fk_clear; rfl)) (by first | rfl | (unfold fk_clear; rfl))
def fk_instant  (S : kT) (P : pT) (X : xT) (inp : Int32) : Int32 × kT × xT :=
  if (S 0) = (1 : Int32) then
    if inp < 0 then
      (0, S, X)
    else
      if inp < (16 : Int32) then
        if ((fr_isFound P X inp).1) = 0 then
          ((2 : Int32), (kw (kw S 2 (((fr_isFound P X inp).2).1 3)) 3 (((fr_isFound P X inp).2).1 4)), ((fr_isFound P X inp).2))
        else
          if (fr_ends (fr_settle ((fr_isFound P X inp).2))) = 0 then
            ((0 : Int32), (kw (kw (kw S 2 (((fr_isFound P X inp).2).1 3)) 3 (((fr_isFound P X inp).2).1 4)) 1 (((kw (kw S 2 (((fr_isFound P X inp).2).1 3)) 3 (((fr_isFound P X inp).2).1 4)) 1) + (1 : Int32))), (fr_settle ((fr_isFound P X inp).2)))
          else
            ((1 : Int32), (kw (kw (kw (kw S 2 (((fr_isFound P X inp).2).1 3)) 3 (((fr_isFound P X inp).2).1 4)) 1 (((kw (kw S 2 (((fr_isFound P X inp).2).1 3)) 3 (((fr_isFound P X inp).2).1 4)) 1) + (1 : Int32))) 0 (2 : Int32)), (fr_settle ((fr_isFound P X inp).2)))
      else
        (0, S, X)
  else
    (0, S, X)
set_option maxRecDepth 100000 in
set_option maxHeartbeats 4000000 in
theorem tK_instant {l : Launch} {D : va_G} {A : Nat → Prop} {ad : Nat → Nat} {tP : Nat} {cI : ClassId} {tl : List va_E} {tyr : List (ClassId × FieldType)} (S : kT) (P : pT) (X : xT) (inp : Int32) (hS : pS P) (hW : pW P) (h0 : 0 < (P.1 1).toInt) (hn1 : S 0 = (1 : Int32)) (hn2 : ¬ inp < 0) (hn3 : inp < (16 : Int32)) : aw_M l yK_instant (Cond.code yK_instant cK_instant 3 (some .int) :: aw_big) 402 D vwCl ((cI, .int) :: tyr) A ad (zC A tP) [.ref (ad 0), .int inp] (hC ad cI S P X ++ tl) (some (.int ((fk_instant S P X inp).1))) (hC ad cI ((fk_instant S P X inp).2.1) P ((fk_instant S P X inp).2.2) ++ tl) := by
  refine aw_met cK_instant 3 (some .int) [some (.ref (ad 0)), some (.int inp), none] (by decide) rfl (Nat.le_of_ble_eq_true rfl) rfl ?_
  intro p e s m args below meth c F Zs hr hlk
  refine aw_aload_n (pc := 0) (i := 0) (x := ad 0) F dK_instant_0 rfl rfl ?_
  refine aw_get (pc := 1) (v := .int (S 0)) F 0 hC_at0 rfl 2 (by decide) (fun w h => mw (iw_K w h)) (mw wd_185) rfl dK_instant_1 ?_
  refine aw_iconst (pc := 4) (v := 1) F dK_instant_4 (by decide) ?_
  refine aw_icmp_eq (pc := 5) F 18 dK_instant_5 (by decide) (fun c_5 => ?_) (fun c_5 => ?_)
  · skip
    refine aw_iload_n (pc := 18) (i := 1) (x := inp) F dK_instant_18 rfl rfl ?_
    refine aw_if_lt (pc := 19) F 28 dK_instant_19 (by decide) (fun c_19 => ?_) (fun c_19 => ?_)
    · skip
      first | exact absurd c_19 hn2 | exact absurd hn3 c_25
    · skip
      refine aw_iload_n (pc := 22) (i := 1) (x := inp) F dK_instant_22 rfl rfl ?_
      refine aw_bipush (pc := 23) (v := 16) F dK_instant_23 (by decide) ?_
      refine aw_icmp_lt (pc := 25) F 38 dK_instant_25 (by decide) (fun c_25 => ?_) (fun c_25 => ?_)
      · skip
        refine aw_aload_n (pc := 38) (i := 0) (x := ad 0) F dK_instant_38 rfl rfl ?_
        refine aw_get (pc := 39) (v := .ref (ad 11)) F 0 hC_at0 rfl 1 (by decide) (fun w h => mw (iw_K w h)) (mw wd_184) rfl dK_instant_39 ?_
        refine aw_iload_n (pc := 42) (i := 1) (x := inp) F dK_instant_42 rfl rfl ?_
        refine aw_goVN (pc := 43) (As := [.int inp]) (rest := []) F zC_ok Zs 11 hC_at11 rfl (tX_isFound  S P X inp hS hW h0) ⟨va_cnB 1 F.1.2.2.2.2 (gi_0 wd_438) rfl rfl rfl (nw_m Zs nl_435) (F.1.2.2.2.2 _ (mw wd_66)) (by decide +kernel) ⟨Nat.le_of_ble_eq_true rfl, Nat.le_of_ble_eq_true rfl⟩, F.1.2.2.2.2 _ (mw wd_437), F.1.2.2.2.2 _ (mw wd_22)⟩ rfl (Nat.le_of_ble_eq_true rfl) ⟨Nat.zero_le _, Nat.zero_le _⟩ rfl dK_instant_43 ?_
        show aW _ _ _ _ _ _ _ _ _ _ _ _ _ _ _ _ _ _ _ _ _ [.int ((fr_isFound P X inp).1)]
        refine aw_istore_n (pc := 46) (i := 2) (L' := [some (.ref (ad 0)), some (.int inp), some (.int ((fr_isFound P X inp).1))]) F dK_instant_46 rfl (by decide) rfl ?_
        refine aw_aload_n (pc := 47) (i := 0) (x := ad 0) F dK_instant_47 rfl rfl ?_
        refine aw_aload_n (pc := 48) (i := 0) (x := ad 0) F dK_instant_48 rfl rfl ?_
        refine aw_get (pc := 49) (v := .ref (ad 11)) F 0 hC_at0 rfl 1 (by decide) (fun w h => mw (iw_K w h)) (mw wd_184) rfl dK_instant_49 ?_
        refine aw_getN (pc := 52) (v := .int (((fr_isFound P X inp).2).1 3)) F 11 hC_at11 rfl 5 (by decide) (fun w h => mw (iw_X w h)) (nw_f Zs nl_158) rfl dK_instant_52 ?_
        refine aw_put (pc := 55) (hp' := (hC ad cI (kw S 2 (((fr_isFound P X inp).2).1 3)) P ((fr_isFound P X inp).2) ++ tl)) F 0 hC_at0 rfl 4 (by decide) (fun w h => mw (iw_K w h)) tyK tyK_ok nmK (mw wd_187) (ty := .int) rfl (by decide +kernel) rfl rfl (Nat.le_of_ble_eq_true rfl) hC_st0_4 dK_instant_55 ?_
        refine aw_aload_n (pc := 58) (i := 0) (x := ad 0) F dK_instant_58 rfl rfl ?_
        refine aw_aload_n (pc := 59) (i := 0) (x := ad 0) F dK_instant_59 rfl rfl ?_
        refine aw_get (pc := 60) (v := .ref (ad 11)) F 0 hC_at0 rfl 1 (by decide) (fun w h => mw (iw_K w h)) (mw wd_184) rfl dK_instant_60 ?_
        refine aw_getN (pc := 63) (v := .int (((fr_isFound P X inp).2).1 4)) F 11 hC_at11 rfl 6 (by decide) (fun w h => mw (iw_X w h)) (nw_f Zs nl_160) rfl dK_instant_63 ?_
        refine aw_put (pc := 66) (hp' := (hC ad cI (kw (kw S 2 (((fr_isFound P X inp).2).1 3)) 3 (((fr_isFound P X inp).2).1 4)) P ((fr_isFound P X inp).2) ++ tl)) F 0 hC_at0 rfl 5 (by decide) (fun w h => mw (iw_K w h)) tyK tyK_ok nmK (mw wd_188) (ty := .int) rfl (by decide +kernel) rfl rfl (Nat.le_of_ble_eq_true rfl) hC_st0_5 dK_instant_66 ?_
        refine aw_iload_n (pc := 69) (i := 2) (x := ((fr_isFound P X inp).1)) F dK_instant_69 rfl rfl ?_
        refine aw_if_ne (pc := 70) F 75 dK_instant_70 (by decide) (fun c_70 => ?_) (fun c_70 => ?_)
        · skip
          refine aw_aload_n (pc := 75) (i := 0) (x := ad 0) F dK_instant_75 rfl rfl ?_
          refine aw_dup (pc := 76) F dK_instant_76 rfl ?_
          refine aw_get (pc := 77) (v := .int ((kw (kw S 2 (((fr_isFound P X inp).2).1 3)) 3 (((fr_isFound P X inp).2).1 4)) 1)) F 0 hC_at0 rfl 3 (by decide) (fun w h => mw (iw_K w h)) (mw wd_186) rfl dK_instant_77 ?_
          refine aw_iconst (pc := 80) (v := 1) F dK_instant_80 (by decide) ?_
          refine aw_iadd (pc := 81) F dK_instant_81 ?_
          refine aw_put (pc := 82) (hp' := (hC ad cI (kw (kw (kw S 2 (((fr_isFound P X inp).2).1 3)) 3 (((fr_isFound P X inp).2).1 4)) 1 (((kw (kw S 2 (((fr_isFound P X inp).2).1 3)) 3 (((fr_isFound P X inp).2).1 4)) 1) + (1 : Int32))) P ((fr_isFound P X inp).2) ++ tl)) F 0 hC_at0 rfl 3 (by decide) (fun w h => mw (iw_K w h)) tyK tyK_ok nmK (mw wd_186) (ty := .int) rfl (by decide +kernel) rfl rfl (Nat.le_of_ble_eq_true rfl) hC_st0_3 dK_instant_82 ?_
          refine aw_aload_n (pc := 85) (i := 0) (x := ad 0) F dK_instant_85 rfl rfl ?_
          refine aw_get (pc := 86) (v := .ref (ad 11)) F 0 hC_at0 rfl 1 (by decide) (fun w h => mw (iw_K w h)) (mw wd_184) rfl dK_instant_86 ?_
          refine aw_goVN (pc := 89) (As := []) (rest := []) F zC_ok Zs 11 hC_at11 rfl (tX_settle  (kw (kw (kw S 2 (((fr_isFound P X inp).2).1 3)) 3 (((fr_isFound P X inp).2).1 4)) 1 (((kw (kw S 2 (((fr_isFound P X inp).2).1 3)) 3 (((fr_isFound P X inp).2).1 4)) 1) + (1 : Int32))) P ((fr_isFound P X inp).2)) ⟨va_cnB 0 F.1.2.2.2.2 (gi_0 wd_590) rfl rfl rfl (nw_m Zs nl_587) (F.1.2.2.2.2 _ (mw wd_66)) (by decide +kernel) ⟨Nat.le_of_ble_eq_true rfl, Nat.le_of_ble_eq_true rfl⟩, F.1.2.2.2.2 _ (mw wd_589), F.1.2.2.2.2 _ (mw wd_43)⟩ rfl (Nat.le_of_ble_eq_true rfl) ⟨Nat.zero_le _, Nat.zero_le _⟩ rfl dK_instant_89 ?_
          show aW _ _ _ _ _ _ _ _ _ _ _ _ _ _ _ _ _ _ _ _ _ []
          refine aw_aload_n (pc := 92) (i := 0) (x := ad 0) F dK_instant_92 rfl rfl ?_
          refine aw_get (pc := 93) (v := .ref (ad 11)) F 0 hC_at0 rfl 1 (by decide) (fun w h => mw (iw_K w h)) (mw wd_184) rfl dK_instant_93 ?_
          refine aw_goVN (pc := 96) (As := []) (rest := []) F zC_ok Zs 11 hC_at11 rfl (tX_ends  (kw (kw (kw S 2 (((fr_isFound P X inp).2).1 3)) 3 (((fr_isFound P X inp).2).1 4)) 1 (((kw (kw S 2 (((fr_isFound P X inp).2).1 3)) 3 (((fr_isFound P X inp).2).1 4)) 1) + (1 : Int32))) P (fr_settle ((fr_isFound P X inp).2))) ⟨va_cnB 0 F.1.2.2.2.2 (gi_0 wd_594) rfl rfl rfl (nw_m Zs nl_591) (F.1.2.2.2.2 _ (mw wd_66)) (by decide +kernel) ⟨Nat.le_of_ble_eq_true rfl, Nat.le_of_ble_eq_true rfl⟩, F.1.2.2.2.2 _ (mw wd_593), F.1.2.2.2.2 _ (mw wd_44)⟩ rfl (Nat.le_of_ble_eq_true rfl) ⟨Nat.zero_le _, Nat.zero_le _⟩ rfl dK_instant_96 ?_
          show aW _ _ _ _ _ _ _ _ _ _ _ _ _ _ _ _ _ _ _ _ _ [.int (fr_ends (fr_settle ((fr_isFound P X inp).2)))]
          refine aw_if_eq (pc := 99) F 109 dK_instant_99 (by decide) (fun c_99 => ?_) (fun c_99 => ?_)
          · skip
            refine aw_iconst (pc := 109) (v := 0) F dK_instant_109 (by decide) ?_
            exact aw_iret (pc := 110) F hr hlk dK_instant_110 (by rw [fk_instant, if_pos c_5, if_neg c_19, if_pos c_25, if_neg c_70, if_pos c_99]) (by rw [fk_instant, if_pos c_5, if_neg c_19, if_pos c_25, if_neg c_70, if_pos c_99])
          · skip
            refine aw_aload_n (pc := 102) (i := 0) (x := ad 0) F dK_instant_102 rfl rfl ?_
            refine aw_iconst (pc := 103) (v := 2) F dK_instant_103 (by decide) ?_
            refine aw_put (pc := 104) (hp' := (hC ad cI (kw (kw (kw (kw S 2 (((fr_isFound P X inp).2).1 3)) 3 (((fr_isFound P X inp).2).1 4)) 1 (((kw (kw S 2 (((fr_isFound P X inp).2).1 3)) 3 (((fr_isFound P X inp).2).1 4)) 1) + (1 : Int32))) 0 (2 : Int32)) P (fr_settle ((fr_isFound P X inp).2)) ++ tl)) F 0 hC_at0 rfl 2 (by decide) (fun w h => mw (iw_K w h)) tyK tyK_ok nmK (mw wd_185) (ty := .int) rfl (by decide +kernel) rfl rfl (Nat.le_of_ble_eq_true rfl) hC_st0_2 dK_instant_104 ?_
            refine aw_iconst (pc := 107) (v := 1) F dK_instant_107 (by decide) ?_
            exact aw_iret (pc := 108) F hr hlk dK_instant_108 (by rw [fk_instant, if_pos c_5, if_neg c_19, if_pos c_25, if_neg c_70, if_neg c_99]) (by rw [fk_instant, if_pos c_5, if_neg c_19, if_pos c_25, if_neg c_70, if_neg c_99])
        · skip
          refine aw_iconst (pc := 73) (v := 2) F dK_instant_73 (by decide) ?_
          exact aw_iret (pc := 74) F hr hlk dK_instant_74 (by rw [fk_instant, if_pos c_5, if_neg c_19, if_pos c_25, if_pos c_70]) (by rw [fk_instant, if_pos c_5, if_neg c_19, if_pos c_25, if_pos c_70])
      · skip
        first | exact absurd c_19 hn2 | exact absurd hn3 c_25
  · skip
    exact absurd hn1 c_5
def fk_status  (S : kT) (sg : Int32) : Int32 :=
  if sg < 0 then 0 else if sg < (16 : Int32) then (fk_statusIn (S 2) (S 3) sg) else 0
set_option maxRecDepth 100000 in
set_option maxHeartbeats 4000000 in
theorem tK_status {l : Launch} {D : va_G} {A : Nat → Prop} {ad : Nat → Nat} {tP : Nat} {cI : ClassId} {tl : List va_E} {tyr : List (ClassId × FieldType)} (S : kT) (P : pT) (X : xT) (sg : Int32) (hn2 : ¬ sg < 0) (hn3 : sg < (16 : Int32)) : aw_M l yK_status (Cond.code yK_status cK_status 2 (some .int) :: aw_big) 2 D vwCl ((cI, .int) :: tyr) A ad (zC A tP) [.ref (ad 0), .int sg] (hC ad cI S P X ++ tl) (some (.int (fk_status S sg))) (hC ad cI S P X ++ tl) := by
  refine aw_met cK_status 2 (some .int) [some (.ref (ad 0)), some (.int sg)] (by decide) rfl (Nat.le_of_ble_eq_true rfl) rfl ?_
  intro p e s m args below meth c F Zs hr hlk
  refine aw_iload_n (pc := 0) (i := 1) (x := sg) F dK_status_0 rfl rfl ?_
  refine aw_if_lt (pc := 1) F 10 dK_status_1 (by decide) (fun c_1 => ?_) (fun c_1 => ?_)
  · skip
    first | exact absurd c_1 hn2 | exact absurd hn3 c_7
  · skip
    refine aw_iload_n (pc := 4) (i := 1) (x := sg) F dK_status_4 rfl rfl ?_
    refine aw_bipush (pc := 5) (v := 16) F dK_status_5 (by decide) ?_
    refine aw_icmp_lt (pc := 7) F 20 dK_status_7 (by decide) (fun c_7 => ?_) (fun c_7 => ?_)
    · skip
      refine aw_aload_n (pc := 20) (i := 0) (x := ad 0) F dK_status_20 rfl rfl ?_
      refine aw_get (pc := 21) (v := .int (S 2)) F 0 hC_at0 rfl 4 (by decide) (fun w h => mw (iw_K w h)) (mw wd_187) rfl dK_status_21 ?_
      refine aw_aload_n (pc := 24) (i := 0) (x := ad 0) F dK_status_24 rfl rfl ?_
      refine aw_get (pc := 25) (v := .int (S 3)) F 0 hC_at0 rfl 5 (by decide) (fun w h => mw (iw_K w h)) (mw wd_188) rfl dK_status_25 ?_
      refine aw_iload_n (pc := 28) (i := 1) (x := sg) F dK_status_28 rfl rfl ?_
      refine aw_goS (pc := 29) (As := [.int (S 2), .int (S 3), .int sg]) (rest := []) F zC_ok Zs (tK_statusIn  S P X (S 2) (S 3) sg) (va_cwS 3 F.1.2.2.2.2 (gi_S wd_619 wd_535 wd_64 wd_536) rfl rfl rfl (by decide +kernel) ⟨Nat.le_of_ble_eq_true rfl, Nat.le_of_ble_eq_true rfl⟩) rfl (Nat.le_of_ble_eq_true rfl) ⟨Nat.zero_le _, Nat.zero_le _⟩ rfl dK_status_29 ?_
      show aW _ _ _ _ _ _ _ _ _ _ _ _ _ _ _ _ _ _ _ _ _ [.int (fk_statusIn (S 2) (S 3) sg)]
      exact aw_iret (pc := 32) F hr hlk dK_status_32 (by rw [fk_status, if_neg c_1, if_pos c_7]) rfl
    · skip
      first | exact absurd c_1 hn2 | exact absurd hn3 c_7
def fk_selected  (P : pT) (X : xT) (k : Int32) : Int32 :=
  if k < 0 then 0 else if k < (P.1 3) then (fk_hasBit (X.1 0) k) else 0
set_option maxRecDepth 100000 in
set_option maxHeartbeats 4000000 in
theorem tK_selected {l : Launch} {D : va_G} {A : Nat → Prop} {ad : Nat → Nat} {tP : Nat} {cI : ClassId} {tl : List va_E} {tyr : List (ClassId × FieldType)} (S : kT) (P : pT) (X : xT) (k : Int32) (hn2 : ¬ k < 0) (hn3 : k < (P.1 3)) : aw_M l yK_selected (Cond.code yK_selected cK_selected 2 (some .boolean) :: aw_big) 1 D vwCl ((cI, .int) :: tyr) A ad (zC A tP) [.ref (ad 0), .int k] (hC ad cI S P X ++ tl) (some (.int (fk_selected P X k))) (hC ad cI S P X ++ tl) := by
  refine aw_met cK_selected 2 (some .boolean) [some (.ref (ad 0)), some (.int k)] (by decide) rfl (Nat.le_of_ble_eq_true rfl) rfl ?_
  intro p e s m args below meth c F Zs hr hlk
  refine aw_iload_n (pc := 0) (i := 1) (x := k) F dK_selected_0 rfl rfl ?_
  refine aw_if_lt (pc := 1) F 15 dK_selected_1 (by decide) (fun c_1 => ?_) (fun c_1 => ?_)
  · skip
    first | exact absurd c_1 hn2 | exact absurd hn3 c_12
  · skip
    refine aw_iload_n (pc := 4) (i := 1) (x := k) F dK_selected_4 rfl rfl ?_
    refine aw_aload_n (pc := 5) (i := 0) (x := ad 0) F dK_selected_5 rfl rfl ?_
    refine aw_get (pc := 6) (v := .ref (ad 1)) F 0 hC_at0 rfl 0 (by decide) (fun w h => mw (iw_K w h)) (mw wd_183) rfl dK_selected_6 ?_
    refine aw_getN (pc := 9) (v := .int (P.1 3)) F 1 hC_at1 rfl 12 (by decide) (fun w h => mw (iw_G w h)) (nw_f Zs nl_107) rfl dK_selected_9 ?_
    refine aw_icmp_lt (pc := 12) F 25 dK_selected_12 (by decide) (fun c_12 => ?_) (fun c_12 => ?_)
    · skip
      refine aw_aload_n (pc := 25) (i := 0) (x := ad 0) F dK_selected_25 rfl rfl ?_
      refine aw_get (pc := 26) (v := .ref (ad 11)) F 0 hC_at0 rfl 1 (by decide) (fun w h => mw (iw_K w h)) (mw wd_184) rfl dK_selected_26 ?_
      refine aw_getN (pc := 29) (v := .int (X.1 0)) F 11 hC_at11 rfl 2 (by decide) (fun w h => mw (iw_X w h)) (nw_f Zs nl_154) rfl dK_selected_29 ?_
      refine aw_iload_n (pc := 32) (i := 1) (x := k) F dK_selected_32 rfl rfl ?_
      refine aw_goS (pc := 33) (As := [.int (X.1 0), .int k]) (rest := []) F zC_ok Zs (tK_hasBit  S P X (X.1 0) k) (va_cwS 2 F.1.2.2.2.2 (gi_S wd_537 wd_506 wd_64 wd_507) rfl rfl rfl (by decide +kernel) ⟨Nat.le_of_ble_eq_true rfl, Nat.le_of_ble_eq_true rfl⟩) rfl (Nat.le_of_ble_eq_true rfl) ⟨Nat.zero_le _, Nat.zero_le _⟩ rfl dK_selected_33 ?_
      show aW _ _ _ _ _ _ _ _ _ _ _ _ _ _ _ _ _ _ _ _ _ [.int (fk_hasBit (X.1 0) k)]
      exact aw_zret (pc := 36) F hr hlk dK_selected_36 nz_hasBit (by rw [fk_selected, if_neg c_1, if_pos c_12]) rfl
    · skip
      first | exact absurd c_1 hn2 | exact absurd hn3 c_12
def fk_reactsL : Nat → pT → xT → Int32 → Int32 → Int32 × xT
  | 0, P, X, fo, inp => (0, X)
  | n + 1, P, X, fo, inp =>
      if (16 : Int32) ≤ inp then
      (fo, X)
    else
      if ((fr_isFound P X inp).1) = 0 then
        (fk_reactsL n P ((fr_isFound P X inp).2) fo (inp + (1 : Int32)))
      else
        (fk_reactsL n P ((fr_isFound P X inp).2) (fo + (1 : Int32)) (inp + (1 : Int32)))
set_option maxRecDepth 100000 in
set_option maxHeartbeats 4000000 in
theorem tK_reacts_L22 {l : Launch} {D : va_G} {A : Nat → Prop} {ad : Nat → Nat} {tP : Nat} {cI : ClassId} {tl : List va_E} {tyr : List (ClassId × FieldType)} {p : Program} {e : Env} {s : State} {m : MethodId} {args : Array Value} {below : List Frame} {meth : Method} {c : Code} (F : aw_F p s m c args cK_reacts 3 (Cond.code yK_reacts cK_reacts 3 (some .int) :: aw_big) yK_reacts.cls D vwCl ((cI, .int) :: tyr)) (Zs : zC A tP s) (hr : meth.sig.returnType = (some .int)) (hlk : meth.locks = false) :
    ∀ (n : Nat) (S : kT) (P : pT) (X : xT)  (fo : Int32) (inp : Int32) (hS : pS P) (hW : pW P) (h0 : 0 < (P.1 1).toInt) (h1 : 0 ≤ inp.toInt) (h2 : inp.toInt ≤ 16) (hm : 16 < inp.toInt + n), aW p l e (aw_rm 402) s m args below meth c 0 0 (MQ below (aw_Q D vwCl A ad (some (.int ((fk_reactsL n P X fo inp).1))) (hC ad cI S P ((fk_reactsL n P X fo inp).2) ++ tl)) args s 0 0 A) D vwCl A ad 3 (hC ad cI S P X ++ tl) [some (.ref (ad 0)), some (.int fo), some (.int inp)] 22 [] := by
  intro n
  induction n with
  | zero =>
    intro S P X fo inp hS hW h0 h1 h2 hm
    exfalso; omega
  | succ n ih =>
    intro S P X fo inp hS hW h0 h1 h2 hm
    refine aw_iload_n (pc := 22) (i := 2) (x := inp) F dK_reacts_22 rfl rfl ?_
    refine aw_bipush (pc := 23) (v := 16) F dK_reacts_23 (by decide) ?_
    refine aw_icmp_ge (pc := 25) F 48 dK_reacts_25 (by decide) (fun c_25 => ?_) (fun c_25 => ?_)
    · skip
      refine aw_iload_n (pc := 48) (i := 1) (x := fo) F dK_reacts_48 rfl rfl ?_
      exact aw_iret (pc := 49) F hr hlk dK_reacts_49 (by rw [fk_reactsL, if_pos c_25]) (by rw [fk_reactsL, if_pos c_25])
    · skip
      refine aw_aload_n (pc := 28) (i := 0) (x := ad 0) F dK_reacts_28 rfl rfl ?_
      refine aw_get (pc := 29) (v := .ref (ad 11)) F 0 hC_at0 rfl 1 (by decide) (fun w h => mw (iw_K w h)) (mw wd_184) rfl dK_reacts_29 ?_
      refine aw_iload_n (pc := 32) (i := 2) (x := inp) F dK_reacts_32 rfl rfl ?_
      refine aw_goVN (pc := 33) (As := [.int inp]) (rest := []) F zC_ok Zs 11 hC_at11 rfl (tX_isFound  S P X inp hS hW h0) ⟨va_cnB 1 F.1.2.2.2.2 (gi_0 wd_438) rfl rfl rfl (nw_m Zs nl_435) (F.1.2.2.2.2 _ (mw wd_66)) (by decide +kernel) ⟨Nat.le_of_ble_eq_true rfl, Nat.le_of_ble_eq_true rfl⟩, F.1.2.2.2.2 _ (mw wd_437), F.1.2.2.2.2 _ (mw wd_22)⟩ rfl (Nat.le_of_ble_eq_true rfl) ⟨Nat.zero_le _, Nat.zero_le _⟩ rfl dK_reacts_33 ?_
      show aW _ _ _ _ _ _ _ _ _ _ _ _ _ _ _ _ _ _ _ _ _ [.int ((fr_isFound P X inp).1)]
      refine aw_if_eq (pc := 36) F 42 dK_reacts_36 (by decide) (fun c_36 => ?_) (fun c_36 => ?_)
      · skip
        refine aw_iinc (pc := 42) (x := inp) (v := inp + (1 : Int32)) (L' := [some (.ref (ad 0)), some (.int fo), some (.int (inp + (1 : Int32)))]) F dK_reacts_42 rfl rfl (by decide) rfl ?_
        refine aw_goto (pc := 45) F 22 dK_reacts_45 (by decide) ?_
        rw [show (fk_reactsL (n + 1) P X fo inp) = (fk_reactsL n P ((fr_isFound P X inp).2) fo (inp + (1 : Int32))) from by rw [fk_reactsL, if_neg c_25, if_pos c_36]]
        exact ih S P ((fr_isFound P X inp).2)  fo (inp + (1 : Int32)) hS hW h0 (by have a := i_up (i_lt c_25); omega) (by have a := i_up (i_lt c_25); have b := i_lt c_25; have e : (16 : Int32).toInt = 16 := rfl; omega) (by have a := i_up (i_lt c_25); omega)
      · skip
        refine aw_iinc (pc := 39) (x := fo) (v := fo + (1 : Int32)) (L' := [some (.ref (ad 0)), some (.int (fo + (1 : Int32))), some (.int inp)]) F dK_reacts_39 rfl rfl (by decide) rfl ?_
        refine aw_iinc (pc := 42) (x := inp) (v := inp + (1 : Int32)) (L' := [some (.ref (ad 0)), some (.int (fo + (1 : Int32))), some (.int (inp + (1 : Int32)))]) F dK_reacts_42 rfl rfl (by decide) rfl ?_
        refine aw_goto (pc := 45) F 22 dK_reacts_45 (by decide) ?_
        rw [show (fk_reactsL (n + 1) P X fo inp) = (fk_reactsL n P ((fr_isFound P X inp).2) (fo + (1 : Int32)) (inp + (1 : Int32))) from by rw [fk_reactsL, if_neg c_25, if_neg c_36]]
        exact ih S P ((fr_isFound P X inp).2)  (fo + (1 : Int32)) (inp + (1 : Int32)) hS hW h0 (by have a := i_up (i_lt c_25); omega) (by have a := i_up (i_lt c_25); have b := i_lt c_25; have e : (16 : Int32).toInt = 16 := rfl; omega) (by have a := i_up (i_lt c_25); omega)
def fk_reacts  (S : kT) (P : pT) (X : xT)  : Int32 × xT :=
  if (S 0) = (1 : Int32) then (fk_reactsL 17 P X (0 : Int32) (0 : Int32)) else (0, X)
set_option maxRecDepth 100000 in
set_option maxHeartbeats 4000000 in
theorem tK_reacts {l : Launch} {D : va_G} {A : Nat → Prop} {ad : Nat → Nat} {tP : Nat} {cI : ClassId} {tl : List va_E} {tyr : List (ClassId × FieldType)} (S : kT) (P : pT) (X : xT)  (hS : pS P) (hW : pW P) (h0 : 0 < (P.1 1).toInt) (hn1 : S 0 = (1 : Int32)) : aw_M l yK_reacts (Cond.code yK_reacts cK_reacts 3 (some .int) :: aw_big) 402 D vwCl ((cI, .int) :: tyr) A ad (zC A tP) [.ref (ad 0)] (hC ad cI S P X ++ tl) (some (.int ((fk_reacts S P X).1))) (hC ad cI S P ((fk_reacts S P X).2) ++ tl) := by
  refine aw_met cK_reacts 3 (some .int) [some (.ref (ad 0)), none, none] (by decide) rfl (Nat.le_of_ble_eq_true rfl) rfl ?_
  intro p e s m args below meth c F Zs hr hlk
  refine aw_aload_n (pc := 0) (i := 0) (x := ad 0) F dK_reacts_0 rfl rfl ?_
  refine aw_get (pc := 1) (v := .int (S 0)) F 0 hC_at0 rfl 2 (by decide) (fun w h => mw (iw_K w h)) (mw wd_185) rfl dK_reacts_1 ?_
  refine aw_iconst (pc := 4) (v := 1) F dK_reacts_4 (by decide) ?_
  refine aw_icmp_eq (pc := 5) F 18 dK_reacts_5 (by decide) (fun c_5 => ?_) (fun c_5 => ?_)
  · skip
    refine aw_iconst (pc := 18) (v := 0) F dK_reacts_18 (by decide) ?_
    refine aw_istore_n (pc := 19) (i := 1) (L' := [some (.ref (ad 0)), some (.int (0 : Int32)), none]) F dK_reacts_19 rfl (by decide) rfl ?_
    refine aw_iconst (pc := 20) (v := 0) F dK_reacts_20 (by decide) ?_
    refine aw_istore_n (pc := 21) (i := 2) (L' := [some (.ref (ad 0)), some (.int (0 : Int32)), some (.int (0 : Int32))]) F dK_reacts_21 rfl (by decide) rfl ?_
    rw [show (fk_reacts S P X) = (fk_reactsL 17 P X (0 : Int32) (0 : Int32)) from by rw [fk_reacts, if_pos c_5]]
    exact tK_reacts_L22  F Zs hr hlk 17 S P X  (0 : Int32) (0 : Int32) hS hW h0 (by rw [i_0]; omega) (by rw [i_0]; omega) (by rw [i_0]; omega)
  · skip
    exact absurd hn1 c_5
def fk_emitsL : Nat → pT → xT → Int32 → Int32 → Int32 → Int32 × xT
  | 0, P, X, sg, fo, inp => (0, X)
  | n + 1, P, X, sg, fo, inp =>
      if (16 : Int32) ≤ inp then
      (fo, X)
    else
      if ((fr_isFound P X inp).1) = 0 then
        (fk_emitsL n P ((fr_isFound P X inp).2) sg fo (inp + (1 : Int32)))
      else
        if (fk_hasBit (((fr_isFound P X inp).2).1 4) sg) = 0 then
          (fk_emitsL n P ((fr_isFound P X inp).2) sg fo (inp + (1 : Int32)))
        else
          (fk_emitsL n P ((fr_isFound P X inp).2) sg (fo ||| ((1 : Int32) <<< (inp &&& 31))) (inp + (1 : Int32)))
set_option maxRecDepth 100000 in
set_option maxHeartbeats 4000000 in
theorem tK_emits_L43 {l : Launch} {D : va_G} {A : Nat → Prop} {ad : Nat → Nat} {tP : Nat} {cI : ClassId} {tl : List va_E} {tyr : List (ClassId × FieldType)} {p : Program} {e : Env} {s : State} {m : MethodId} {args : Array Value} {below : List Frame} {meth : Method} {c : Code} (F : aw_F p s m c args cK_emits 4 (Cond.code yK_emits cK_emits 4 (some .int) :: aw_big) yK_emits.cls D vwCl ((cI, .int) :: tyr)) (Zs : zC A tP s) (hr : meth.sig.returnType = (some .int)) (hlk : meth.locks = false) :
    ∀ (n : Nat) (S : kT) (P : pT) (X : xT) (sg : Int32) (fo : Int32) (inp : Int32) (hS : pS P) (hW : pW P) (h0 : 0 < (P.1 1).toInt) (h1 : 0 ≤ inp.toInt) (h2 : inp.toInt ≤ 16) (hm : 16 < inp.toInt + n), aW p l e (aw_rm 402) s m args below meth c 0 0 (MQ below (aw_Q D vwCl A ad (some (.int ((fk_emitsL n P X sg fo inp).1))) (hC ad cI S P ((fk_emitsL n P X sg fo inp).2) ++ tl)) args s 0 0 A) D vwCl A ad 4 (hC ad cI S P X ++ tl) [some (.ref (ad 0)), some (.int sg), some (.int fo), some (.int inp)] 43 [] := by
  intro n
  induction n with
  | zero =>
    intro S P X sg fo inp hS hW h0 h1 h2 hm
    exfalso; omega
  | succ n ih =>
    intro S P X sg fo inp hS hW h0 h1 h2 hm
    refine aw_iload_n (pc := 43) (i := 3) (x := inp) F dK_emits_43 rfl rfl ?_
    refine aw_bipush (pc := 44) (v := 16) F dK_emits_44 (by decide) ?_
    refine aw_icmp_ge (pc := 46) F 86 dK_emits_46 (by decide) (fun c_46 => ?_) (fun c_46 => ?_)
    · skip
      refine aw_iload_n (pc := 86) (i := 2) (x := fo) F dK_emits_86 rfl rfl ?_
      exact aw_iret (pc := 87) F hr hlk dK_emits_87 (by rw [fk_emitsL, if_pos c_46]) (by rw [fk_emitsL, if_pos c_46])
    · skip
      refine aw_aload_n (pc := 49) (i := 0) (x := ad 0) F dK_emits_49 rfl rfl ?_
      refine aw_get (pc := 50) (v := .ref (ad 11)) F 0 hC_at0 rfl 1 (by decide) (fun w h => mw (iw_K w h)) (mw wd_184) rfl dK_emits_50 ?_
      refine aw_iload_n (pc := 53) (i := 3) (x := inp) F dK_emits_53 rfl rfl ?_
      refine aw_goVN (pc := 54) (As := [.int inp]) (rest := []) F zC_ok Zs 11 hC_at11 rfl (tX_isFound  S P X inp hS hW h0) ⟨va_cnB 1 F.1.2.2.2.2 (gi_0 wd_438) rfl rfl rfl (nw_m Zs nl_435) (F.1.2.2.2.2 _ (mw wd_66)) (by decide +kernel) ⟨Nat.le_of_ble_eq_true rfl, Nat.le_of_ble_eq_true rfl⟩, F.1.2.2.2.2 _ (mw wd_437), F.1.2.2.2.2 _ (mw wd_22)⟩ rfl (Nat.le_of_ble_eq_true rfl) ⟨Nat.zero_le _, Nat.zero_le _⟩ rfl dK_emits_54 ?_
      show aW _ _ _ _ _ _ _ _ _ _ _ _ _ _ _ _ _ _ _ _ _ [.int ((fr_isFound P X inp).1)]
      refine aw_if_eq (pc := 57) F 80 dK_emits_57 (by decide) (fun c_57 => ?_) (fun c_57 => ?_)
      · skip
        refine aw_iinc (pc := 80) (x := inp) (v := inp + (1 : Int32)) (L' := [some (.ref (ad 0)), some (.int sg), some (.int fo), some (.int (inp + (1 : Int32)))]) F dK_emits_80 rfl rfl (by decide) rfl ?_
        refine aw_goto (pc := 83) F 43 dK_emits_83 (by decide) ?_
        rw [show (fk_emitsL (n + 1) P X sg fo inp) = (fk_emitsL n P ((fr_isFound P X inp).2) sg fo (inp + (1 : Int32))) from by rw [fk_emitsL, if_neg c_46, if_pos c_57]]
        exact ih S P ((fr_isFound P X inp).2) sg fo (inp + (1 : Int32)) hS hW h0 (by have a := i_up (i_lt c_46); omega) (by have a := i_up (i_lt c_46); have b := i_lt c_46; have e : (16 : Int32).toInt = 16 := rfl; omega) (by have a := i_up (i_lt c_46); omega)
      · skip
        refine aw_aload_n (pc := 60) (i := 0) (x := ad 0) F dK_emits_60 rfl rfl ?_
        refine aw_get (pc := 61) (v := .ref (ad 11)) F 0 hC_at0 rfl 1 (by decide) (fun w h => mw (iw_K w h)) (mw wd_184) rfl dK_emits_61 ?_
        refine aw_getN (pc := 64) (v := .int (((fr_isFound P X inp).2).1 4)) F 11 hC_at11 rfl 6 (by decide) (fun w h => mw (iw_X w h)) (nw_f Zs nl_160) rfl dK_emits_64 ?_
        refine aw_iload_n (pc := 67) (i := 1) (x := sg) F dK_emits_67 rfl rfl ?_
        refine aw_goS (pc := 68) (As := [.int (((fr_isFound P X inp).2).1 4), .int sg]) (rest := []) F zC_ok Zs (tK_hasBit  S P ((fr_isFound P X inp).2) (((fr_isFound P X inp).2).1 4) sg) (va_cwS 2 F.1.2.2.2.2 (gi_S wd_537 wd_506 wd_64 wd_507) rfl rfl rfl (by decide +kernel) ⟨Nat.le_of_ble_eq_true rfl, Nat.le_of_ble_eq_true rfl⟩) rfl (Nat.le_of_ble_eq_true rfl) ⟨Nat.zero_le _, Nat.zero_le _⟩ rfl dK_emits_68 ?_
        show aW _ _ _ _ _ _ _ _ _ _ _ _ _ _ _ _ _ _ _ _ _ [.int (fk_hasBit (((fr_isFound P X inp).2).1 4) sg)]
        refine aw_if_eq (pc := 71) F 80 dK_emits_71 (by decide) (fun c_71 => ?_) (fun c_71 => ?_)
        · skip
          refine aw_iinc (pc := 80) (x := inp) (v := inp + (1 : Int32)) (L' := [some (.ref (ad 0)), some (.int sg), some (.int fo), some (.int (inp + (1 : Int32)))]) F dK_emits_80 rfl rfl (by decide) rfl ?_
          refine aw_goto (pc := 83) F 43 dK_emits_83 (by decide) ?_
          rw [show (fk_emitsL (n + 1) P X sg fo inp) = (fk_emitsL n P ((fr_isFound P X inp).2) sg fo (inp + (1 : Int32))) from by rw [fk_emitsL, if_neg c_46, if_neg c_57, if_pos c_71]]
          exact ih S P ((fr_isFound P X inp).2) sg fo (inp + (1 : Int32)) hS hW h0 (by have a := i_up (i_lt c_46); omega) (by have a := i_up (i_lt c_46); have b := i_lt c_46; have e : (16 : Int32).toInt = 16 := rfl; omega) (by have a := i_up (i_lt c_46); omega)
        · skip
          refine aw_iload_n (pc := 74) (i := 2) (x := fo) F dK_emits_74 rfl rfl ?_
          refine aw_iconst (pc := 75) (v := 1) F dK_emits_75 (by decide) ?_
          refine aw_iload_n (pc := 76) (i := 3) (x := inp) F dK_emits_76 rfl rfl ?_
          refine aw_ishl (pc := 77) F dK_emits_77 ?_
          refine aw_ior (pc := 78) F dK_emits_78 ?_
          refine aw_istore_n (pc := 79) (i := 2) (L' := [some (.ref (ad 0)), some (.int sg), some (.int (fo ||| ((1 : Int32) <<< (inp &&& 31)))), some (.int inp)]) F dK_emits_79 rfl (by decide) rfl ?_
          refine aw_iinc (pc := 80) (x := inp) (v := inp + (1 : Int32)) (L' := [some (.ref (ad 0)), some (.int sg), some (.int (fo ||| ((1 : Int32) <<< (inp &&& 31)))), some (.int (inp + (1 : Int32)))]) F dK_emits_80 rfl rfl (by decide) rfl ?_
          refine aw_goto (pc := 83) F 43 dK_emits_83 (by decide) ?_
          rw [show (fk_emitsL (n + 1) P X sg fo inp) = (fk_emitsL n P ((fr_isFound P X inp).2) sg (fo ||| ((1 : Int32) <<< (inp &&& 31))) (inp + (1 : Int32))) from by rw [fk_emitsL, if_neg c_46, if_neg c_57, if_neg c_71]]
          exact ih S P ((fr_isFound P X inp).2) sg (fo ||| ((1 : Int32) <<< (inp &&& 31))) (inp + (1 : Int32)) hS hW h0 (by have a := i_up (i_lt c_46); omega) (by have a := i_up (i_lt c_46); have b := i_lt c_46; have e : (16 : Int32).toInt = 16 := rfl; omega) (by have a := i_up (i_lt c_46); omega)
def fk_emits  (S : kT) (P : pT) (X : xT) (sg : Int32) : Int32 × xT :=
  if (S 0) = (1 : Int32) then
    if sg < (4 : Int32) then
      (0, X)
    else
      if sg < (16 : Int32) then (fk_emitsL 17 P X sg (0 : Int32) (0 : Int32)) else (0, X)
  else
    (0, X)
set_option maxRecDepth 100000 in
set_option maxHeartbeats 4000000 in
theorem tK_emits {l : Launch} {D : va_G} {A : Nat → Prop} {ad : Nat → Nat} {tP : Nat} {cI : ClassId} {tl : List va_E} {tyr : List (ClassId × FieldType)} (S : kT) (P : pT) (X : xT) (sg : Int32) (hS : pS P) (hW : pW P) (h0 : 0 < (P.1 1).toInt) (hn1 : S 0 = (1 : Int32)) (hn2 : ¬ sg < (4 : Int32)) (hn3 : sg < (16 : Int32)) : aw_M l yK_emits (Cond.code yK_emits cK_emits 4 (some .int) :: aw_big) 402 D vwCl ((cI, .int) :: tyr) A ad (zC A tP) [.ref (ad 0), .int sg] (hC ad cI S P X ++ tl) (some (.int ((fk_emits S P X sg).1))) (hC ad cI S P ((fk_emits S P X sg).2) ++ tl) := by
  refine aw_met cK_emits 4 (some .int) [some (.ref (ad 0)), some (.int sg), none, none] (by decide) rfl (Nat.le_of_ble_eq_true rfl) rfl ?_
  intro p e s m args below meth c F Zs hr hlk
  refine aw_aload_n (pc := 0) (i := 0) (x := ad 0) F dK_emits_0 rfl rfl ?_
  refine aw_get (pc := 1) (v := .int (S 0)) F 0 hC_at0 rfl 2 (by decide) (fun w h => mw (iw_K w h)) (mw wd_185) rfl dK_emits_1 ?_
  refine aw_iconst (pc := 4) (v := 1) F dK_emits_4 (by decide) ?_
  refine aw_icmp_eq (pc := 5) F 18 dK_emits_5 (by decide) (fun c_5 => ?_) (fun c_5 => ?_)
  · skip
    refine aw_iload_n (pc := 18) (i := 1) (x := sg) F dK_emits_18 rfl rfl ?_
    refine aw_iconst (pc := 19) (v := 4) F dK_emits_19 (by decide) ?_
    refine aw_icmp_lt (pc := 20) F 29 dK_emits_20 (by decide) (fun c_20 => ?_) (fun c_20 => ?_)
    · skip
      first | exact absurd c_20 hn2 | exact absurd hn3 c_26
    · skip
      refine aw_iload_n (pc := 23) (i := 1) (x := sg) F dK_emits_23 rfl rfl ?_
      refine aw_bipush (pc := 24) (v := 16) F dK_emits_24 (by decide) ?_
      refine aw_icmp_lt (pc := 26) F 39 dK_emits_26 (by decide) (fun c_26 => ?_) (fun c_26 => ?_)
      · skip
        refine aw_iconst (pc := 39) (v := 0) F dK_emits_39 (by decide) ?_
        refine aw_istore_n (pc := 40) (i := 2) (L' := [some (.ref (ad 0)), some (.int sg), some (.int (0 : Int32)), none]) F dK_emits_40 rfl (by decide) rfl ?_
        refine aw_iconst (pc := 41) (v := 0) F dK_emits_41 (by decide) ?_
        refine aw_istore_n (pc := 42) (i := 3) (L' := [some (.ref (ad 0)), some (.int sg), some (.int (0 : Int32)), some (.int (0 : Int32))]) F dK_emits_42 rfl (by decide) rfl ?_
        rw [show (fk_emits S P X sg) = (fk_emitsL 17 P X sg (0 : Int32) (0 : Int32)) from by rw [fk_emits, if_pos c_5, if_neg c_20, if_pos c_26]]
        exact tK_emits_L43  F Zs hr hlk 17 S P X sg (0 : Int32) (0 : Int32) hS hW h0 (by rw [i_0]; omega) (by rw [i_0]; omega) (by rw [i_0]; omega)
      · skip
        first | exact absurd c_20 hn2 | exact absurd hn3 c_26
  · skip
    exact absurd hn1 c_5
def fk_count  (S : kT) (P : pT) (X : xT) (what : Int32) : Int32 :=
  if what = (0 : Int32) then (P.1 1)
  else if what = (1 : Int32) then (P.1 2)
  else if what = (2 : Int32) then (P.1 3)
  else if what = (3 : Int32) then (P.1 4)
  else if what = (4 : Int32) then (P.1 5)
  else if what = (5 : Int32) then (S 1)
  else if what = (6 : Int32) then (fj_bitCount (X.1 0))
  else if what = (7 : Int32) then (S 0)
  else (-1 : Int32)
set_option maxRecDepth 100000 in
set_option maxHeartbeats 4000000 in
theorem tK_count {l : Launch} {D : va_G} {A : Nat → Prop} {ad : Nat → Nat} {tP : Nat} {cI : ClassId} {tl : List va_E} {tyr : List (ClassId × FieldType)} (S : kT) (P : pT) (X : xT) (what : Int32)  : aw_M l yK_count (Cond.code yK_count cK_count 2 (some .int) :: aw_big) 1 D vwCl ((cI, .int) :: tyr) A ad (zC A tP) [.ref (ad 0), .int what] (hC ad cI S P X ++ tl) (some (.int (fk_count S P X what))) (hC ad cI S P X ++ tl) := by
  refine aw_met cK_count 2 (some .int) [some (.ref (ad 0)), some (.int what)] (by decide) rfl (Nat.le_of_ble_eq_true rfl) rfl ?_
  intro p e s m args below meth c F Zs hr hlk
  refine aw_iload_n (pc := 0) (i := 1) (x := what) F dK_count_0 rfl rfl ?_
  by_cases s_1_0 : what = (0 : Int32)
  · refine aw_tableIn (pc := 1) F 48 dK_count_1 (by rw [s_1_0]; decide) (by rw [s_1_0]; decide) (off := 47) (by rw [s_1_0]; rfl) (by decide) ?_
    refine aw_aload_n (pc := 48) (i := 0) (x := ad 0) F dK_count_48 rfl rfl ?_
    refine aw_get (pc := 49) (v := .ref (ad 1)) F 0 hC_at0 rfl 0 (by decide) (fun w h => mw (iw_K w h)) (mw wd_183) rfl dK_count_49 ?_
    refine aw_getN (pc := 52) (v := .int (P.1 1)) F 1 hC_at1 rfl 10 (by decide) (fun w h => mw (iw_G w h)) (nw_f Zs nl_103) rfl dK_count_52 ?_
    exact aw_iret (pc := 55) F hr hlk dK_count_55 (by rw [fk_count, if_pos s_1_0]) rfl
  by_cases s_1_1 : what = (1 : Int32)
  · refine aw_tableIn (pc := 1) F 56 dK_count_1 (by rw [s_1_1]; decide) (by rw [s_1_1]; decide) (off := 55) (by rw [s_1_1]; rfl) (by decide) ?_
    refine aw_aload_n (pc := 56) (i := 0) (x := ad 0) F dK_count_56 rfl rfl ?_
    refine aw_get (pc := 57) (v := .ref (ad 1)) F 0 hC_at0 rfl 0 (by decide) (fun w h => mw (iw_K w h)) (mw wd_183) rfl dK_count_57 ?_
    refine aw_getN (pc := 60) (v := .int (P.1 2)) F 1 hC_at1 rfl 11 (by decide) (fun w h => mw (iw_G w h)) (nw_f Zs nl_105) rfl dK_count_60 ?_
    exact aw_iret (pc := 63) F hr hlk dK_count_63 (by rw [fk_count, if_neg s_1_0, if_pos s_1_1]) rfl
  by_cases s_1_2 : what = (2 : Int32)
  · refine aw_tableIn (pc := 1) F 64 dK_count_1 (by rw [s_1_2]; decide) (by rw [s_1_2]; decide) (off := 63) (by rw [s_1_2]; rfl) (by decide) ?_
    refine aw_aload_n (pc := 64) (i := 0) (x := ad 0) F dK_count_64 rfl rfl ?_
    refine aw_get (pc := 65) (v := .ref (ad 1)) F 0 hC_at0 rfl 0 (by decide) (fun w h => mw (iw_K w h)) (mw wd_183) rfl dK_count_65 ?_
    refine aw_getN (pc := 68) (v := .int (P.1 3)) F 1 hC_at1 rfl 12 (by decide) (fun w h => mw (iw_G w h)) (nw_f Zs nl_107) rfl dK_count_68 ?_
    exact aw_iret (pc := 71) F hr hlk dK_count_71 (by rw [fk_count, if_neg s_1_0, if_neg s_1_1, if_pos s_1_2]) rfl
  by_cases s_1_3 : what = (3 : Int32)
  · refine aw_tableIn (pc := 1) F 72 dK_count_1 (by rw [s_1_3]; decide) (by rw [s_1_3]; decide) (off := 71) (by rw [s_1_3]; rfl) (by decide) ?_
    refine aw_aload_n (pc := 72) (i := 0) (x := ad 0) F dK_count_72 rfl rfl ?_
    refine aw_get (pc := 73) (v := .ref (ad 1)) F 0 hC_at0 rfl 0 (by decide) (fun w h => mw (iw_K w h)) (mw wd_183) rfl dK_count_73 ?_
    refine aw_getN (pc := 76) (v := .int (P.1 4)) F 1 hC_at1 rfl 13 (by decide) (fun w h => mw (iw_G w h)) (nw_f Zs nl_109) rfl dK_count_76 ?_
    exact aw_iret (pc := 79) F hr hlk dK_count_79 (by rw [fk_count, if_neg s_1_0, if_neg s_1_1, if_neg s_1_2, if_pos s_1_3]) rfl
  by_cases s_1_4 : what = (4 : Int32)
  · refine aw_tableIn (pc := 1) F 80 dK_count_1 (by rw [s_1_4]; decide) (by rw [s_1_4]; decide) (off := 79) (by rw [s_1_4]; rfl) (by decide) ?_
    refine aw_aload_n (pc := 80) (i := 0) (x := ad 0) F dK_count_80 rfl rfl ?_
    refine aw_get (pc := 81) (v := .ref (ad 1)) F 0 hC_at0 rfl 0 (by decide) (fun w h => mw (iw_K w h)) (mw wd_183) rfl dK_count_81 ?_
    refine aw_getN (pc := 84) (v := .int (P.1 5)) F 1 hC_at1 rfl 14 (by decide) (fun w h => mw (iw_G w h)) (nw_f Zs nl_112) rfl dK_count_84 ?_
    exact aw_iret (pc := 87) F hr hlk dK_count_87 (by rw [fk_count, if_neg s_1_0, if_neg s_1_1, if_neg s_1_2, if_neg s_1_3, if_pos s_1_4]) rfl
  by_cases s_1_5 : what = (5 : Int32)
  · refine aw_tableIn (pc := 1) F 88 dK_count_1 (by rw [s_1_5]; decide) (by rw [s_1_5]; decide) (off := 87) (by rw [s_1_5]; rfl) (by decide) ?_
    refine aw_aload_n (pc := 88) (i := 0) (x := ad 0) F dK_count_88 rfl rfl ?_
    refine aw_get (pc := 89) (v := .int (S 1)) F 0 hC_at0 rfl 3 (by decide) (fun w h => mw (iw_K w h)) (mw wd_186) rfl dK_count_89 ?_
    exact aw_iret (pc := 92) F hr hlk dK_count_92 (by rw [fk_count, if_neg s_1_0, if_neg s_1_1, if_neg s_1_2, if_neg s_1_3, if_neg s_1_4, if_pos s_1_5]) rfl
  by_cases s_1_6 : what = (6 : Int32)
  · refine aw_tableIn (pc := 1) F 93 dK_count_1 (by rw [s_1_6]; decide) (by rw [s_1_6]; decide) (off := 92) (by rw [s_1_6]; rfl) (by decide) ?_
    refine aw_aload_n (pc := 93) (i := 0) (x := ad 0) F dK_count_93 rfl rfl ?_
    refine aw_get (pc := 94) (v := .ref (ad 11)) F 0 hC_at0 rfl 1 (by decide) (fun w h => mw (iw_K w h)) (mw wd_184) rfl dK_count_94 ?_
    refine aw_getN (pc := 97) (v := .int (X.1 0)) F 11 hC_at11 rfl 2 (by decide) (fun w h => mw (iw_X w h)) (nw_f Zs nl_154) rfl dK_count_97 ?_
    refine aw_goS (pc := 100) (As := [.int (X.1 0)]) (rest := []) F zC_ok Zs (tI_bitCount  S P X (X.1 0)) (va_cwS 1 F.1.2.2.2.2 (gi_S wd_222 wd_223 wd_77 wd_224) rfl rfl rfl (by decide +kernel) ⟨Nat.le_of_ble_eq_true rfl, Nat.le_of_ble_eq_true rfl⟩) rfl (Nat.le_of_ble_eq_true rfl) ⟨Nat.zero_le _, Nat.zero_le _⟩ rfl dK_count_100 ?_
    show aW _ _ _ _ _ _ _ _ _ _ _ _ _ _ _ _ _ _ _ _ _ [.int (fj_bitCount (X.1 0))]
    exact aw_iret (pc := 103) F hr hlk dK_count_103 (by rw [fk_count, if_neg s_1_0, if_neg s_1_1, if_neg s_1_2, if_neg s_1_3, if_neg s_1_4, if_neg s_1_5, if_pos s_1_6]) rfl
  by_cases s_1_7 : what = (7 : Int32)
  · refine aw_tableIn (pc := 1) F 104 dK_count_1 (by rw [s_1_7]; decide) (by rw [s_1_7]; decide) (off := 103) (by rw [s_1_7]; rfl) (by decide) ?_
    refine aw_aload_n (pc := 104) (i := 0) (x := ad 0) F dK_count_104 rfl rfl ?_
    refine aw_get (pc := 105) (v := .int (S 0)) F 0 hC_at0 rfl 2 (by decide) (fun w h => mw (iw_K w h)) (mw wd_185) rfl dK_count_105 ?_
    exact aw_iret (pc := 108) F hr hlk dK_count_108 (by rw [fk_count, if_neg s_1_0, if_neg s_1_1, if_neg s_1_2, if_neg s_1_3, if_neg s_1_4, if_neg s_1_5, if_neg s_1_6, if_pos s_1_7]) rfl
  refine aw_tableOut (pc := 1) F 109 dK_count_1 (by have := aw_ne s_1_0 (a := 0) (by decide); have := aw_ne s_1_1 (a := 1) (by decide); have := aw_ne s_1_2 (a := 2) (by decide); have := aw_ne s_1_3 (a := 3) (by decide); have := aw_ne s_1_4 (a := 4) (by decide); have := aw_ne s_1_5 (a := 5) (by decide); have := aw_ne s_1_6 (a := 6) (by decide); have := aw_ne s_1_7 (a := 7) (by decide); omega) (by decide) ?_
  refine aw_iconst (pc := 109) (v := -1) F dK_count_109 (by decide) ?_
  exact aw_iret (pc := 110) F hr hlk dK_count_110 (by rw [fk_count, if_neg s_1_0, if_neg s_1_1, if_neg s_1_2, if_neg s_1_3, if_neg s_1_4, if_neg s_1_5, if_neg s_1_6, if_neg s_1_7]) rfl
