set_option maxRecDepth 100000 in
set_option maxHeartbeats 4000000 in
theorem tL_law_X23 {l : Launch} {D : va_G} {A : Nat → Prop} {ad : Nat → Nat} {tP : Nat} {cI cZ cJ : ClassId} {b N : Nat} {xs : Nat → Int32} {cells slots : Nat} {p : Program} {e : Env} {s : State} {m : MethodId} {args : Array Value} {below : List Frame} {meth : Method} {c : Code} {Q : State → Prop} (F : aw_F p s m c args cL_law 7 (Cond.initialized "ReactionDeskLaw" :: aw_big) yL_law.cls D vwCl [(cI, .int), (cZ, .boolean), (cJ, .long)]) (Zs : zC A tP s) :
    ∀ (S : kT) (P : pT) (X : xT) (T : Int32) (M : mT) (Y : yT) (V : vT) (O : oT) (ii : Int32)  (hX : va_X b N xs s s.heap) (hbl : b < s.heap.size) (hbA : ¬ A b) (hi0 : ¬ (Int32.ofNat N - (3 : Int32)) < ii → vp_in ii N) (k0 : ¬ (Int32.ofNat N - (3 : Int32)) < ii → (xs ii.toNatClampNeg) &&& (15 : Int32) = (0 : Int32) → aW p l e room_1 s m args below meth c cells slots Q D vwCl A ad 7 (hC ad cI S P X ++ (hM ad cI cZ T M Y V ++ hQ cJ O)) [some (.ref b), some (.ref (ad 0)), some (.ref (ad 13)), some (.ref (ad 32)), some (.int ii), none, none] 88 []) (k1 : ¬ (Int32.ofNat N - (3 : Int32)) < ii → (xs ii.toNatClampNeg) &&& (15 : Int32) = (1 : Int32) → aW p l e room_1 s m args below meth c cells slots Q D vwCl A ad 7 (hC ad cI S P X ++ (hM ad cI cZ T M Y V ++ hQ cJ O)) [some (.ref b), some (.ref (ad 0)), some (.ref (ad 13)), some (.ref (ad 32)), some (.int ii), none, none] 156 []) (k2 : ¬ (Int32.ofNat N - (3 : Int32)) < ii → (xs ii.toNatClampNeg) &&& (15 : Int32) = (2 : Int32) → aW p l e room_1 s m args below meth c cells slots Q D vwCl A ad 7 (hC ad cI S P X ++ (hM ad cI cZ T M Y V ++ hQ cJ O)) [some (.ref b), some (.ref (ad 0)), some (.ref (ad 13)), some (.ref (ad 32)), some (.int ii), none, none] 200 []) (k3 : ¬ (Int32.ofNat N - (3 : Int32)) < ii → (xs ii.toNatClampNeg) &&& (15 : Int32) = (3 : Int32) → aW p l e room_1 s m args below meth c cells slots Q D vwCl A ad 7 (hC ad cI S P X ++ (hM ad cI cZ T M Y V ++ hQ cJ O)) [some (.ref b), some (.ref (ad 0)), some (.ref (ad 13)), some (.ref (ad 32)), some (.int ii), none, none] 213 []) (k4 : ¬ (Int32.ofNat N - (3 : Int32)) < ii → (xs ii.toNatClampNeg) &&& (15 : Int32) = (4 : Int32) → aW p l e room_1 s m args below meth c cells slots Q D vwCl A ad 7 (hC ad cI S P X ++ (hM ad cI cZ T M Y V ++ hQ cJ O)) [some (.ref b), some (.ref (ad 0)), some (.ref (ad 13)), some (.ref (ad 32)), some (.int ii), none, none] 269 []) (k5 : ¬ (Int32.ofNat N - (3 : Int32)) < ii → (xs ii.toNatClampNeg) &&& (15 : Int32) = (5 : Int32) → aW p l e room_1 s m args below meth c cells slots Q D vwCl A ad 7 (hC ad cI S P X ++ (hM ad cI cZ T M Y V ++ hQ cJ O)) [some (.ref b), some (.ref (ad 0)), some (.ref (ad 13)), some (.ref (ad 32)), some (.int ii), none, none] 325 []) (k6 : ¬ (Int32.ofNat N - (3 : Int32)) < ii → (xs ii.toNatClampNeg) &&& (15 : Int32) = (6 : Int32) → aW p l e room_1 s m args below meth c cells slots Q D vwCl A ad 7 (hC ad cI S P X ++ (hM ad cI cZ T M Y V ++ hQ cJ O)) [some (.ref b), some (.ref (ad 0)), some (.ref (ad 13)), some (.ref (ad 32)), some (.int ii), none, none] 388 []) (k7 : ¬ (Int32.ofNat N - (3 : Int32)) < ii → (xs ii.toNatClampNeg) &&& (15 : Int32) = (7 : Int32) → aW p l e room_1 s m args below meth c cells slots Q D vwCl A ad 7 (hC ad cI S P X ++ (hM ad cI cZ T M Y V ++ hQ cJ O)) [some (.ref b), some (.ref (ad 0)), some (.ref (ad 13)), some (.ref (ad 32)), some (.int ii), none, none] 432 []) (k8 : ¬ (Int32.ofNat N - (3 : Int32)) < ii → (xs ii.toNatClampNeg) &&& (15 : Int32) = (8 : Int32) → aW p l e room_1 s m args below meth c cells slots Q D vwCl A ad 7 (hC ad cI S P X ++ (hM ad cI cZ T M Y V ++ hQ cJ O)) [some (.ref b), some (.ref (ad 0)), some (.ref (ad 13)), some (.ref (ad 32)), some (.int ii), none, none] 488 []) (kd : ¬ (Int32.ofNat N - (3 : Int32)) < ii → aW p l e room_1 s m args below meth c cells slots Q D vwCl A ad 7 (hC ad cI S P X ++ (hM ad cI cZ T M Y V ++ hQ cJ O)) [some (.ref b), some (.ref (ad 0)), some (.ref (ad 13)), some (.ref (ad 32)), some (.int ii), none, none] 513 []), aW p l e room_1 s m args below meth c cells slots Q D vwCl A ad 7 (hC ad cI S P X ++ (hM ad cI cZ T M Y V ++ hQ cJ O)) [some (.ref b), some (.ref (ad 0)), some (.ref (ad 13)), some (.ref (ad 32)), some (.int ii), none, none] 519 [] → aW p l e room_1 s m args below meth c cells slots Q D vwCl A ad 7 (hC ad cI S P X ++ (hM ad cI cZ T M Y V ++ hQ cJ O)) [some (.ref b), some (.ref (ad 0)), some (.ref (ad 13)), some (.ref (ad 32)), some (.int ii), none, none] 23 [] := by
  intro S P X T M Y V O ii hX hbl hbA hi0 k0 k1 k2 k3 k4 k5 k6 k7 k8 kd kq
  refine aw_iload (pc := 23) (i := 4) (x := ii) F dL_law_23 rfl ?_
  refine aw_aload_n (pc := 25) (i := 0) (x := b) F dL_law_25 rfl rfl ?_
  refine aw_slen (pc := 26) F hX hbl hbA dL_law_26 ?_
  refine aw_iconst (pc := 27) (v := 3) F dL_law_27 (by decide) ?_
  refine aw_isub (pc := 28) F dL_law_28 ?_
  refine aw_icmp_gt (pc := 29) F 519 dL_law_29 (by decide) (fun c_29 => ?_) (fun c_29 => ?_)
  · skip
    exact kq
  · skip
    refine aw_aload_n (pc := 32) (i := 0) (x := b) F dL_law_32 rfl rfl ?_
    refine aw_iload (pc := 33) (i := 4) (x := ii) F dL_law_33 rfl ?_
    refine aw_sld (pc := 35) F hX hbl hbA (hi0 c_29) dL_law_35 ?_
    refine aw_bipush (pc := 36) (v := 15) F dL_law_36 (by decide) ?_
    refine aw_iand (pc := 38) F dL_law_38 ?_
    by_cases s_39_0 : ((xs ii.toNatClampNeg) &&& (15 : Int32)) = (0 : Int32)
    · refine aw_tableIn (pc := 39) F 88 dL_law_39 (by rw [s_39_0]; decide) (by rw [s_39_0]; decide) (off := 49) (by rw [s_39_0]; rfl) (by decide) ?_
      exact k0 c_29 s_39_0
    by_cases s_39_1 : ((xs ii.toNatClampNeg) &&& (15 : Int32)) = (1 : Int32)
    · refine aw_tableIn (pc := 39) F 156 dL_law_39 (by rw [s_39_1]; decide) (by rw [s_39_1]; decide) (off := 117) (by rw [s_39_1]; rfl) (by decide) ?_
      exact k1 c_29 s_39_1
    by_cases s_39_2 : ((xs ii.toNatClampNeg) &&& (15 : Int32)) = (2 : Int32)
    · refine aw_tableIn (pc := 39) F 200 dL_law_39 (by rw [s_39_2]; decide) (by rw [s_39_2]; decide) (off := 161) (by rw [s_39_2]; rfl) (by decide) ?_
      exact k2 c_29 s_39_2
    by_cases s_39_3 : ((xs ii.toNatClampNeg) &&& (15 : Int32)) = (3 : Int32)
    · refine aw_tableIn (pc := 39) F 213 dL_law_39 (by rw [s_39_3]; decide) (by rw [s_39_3]; decide) (off := 174) (by rw [s_39_3]; rfl) (by decide) ?_
      exact k3 c_29 s_39_3
    by_cases s_39_4 : ((xs ii.toNatClampNeg) &&& (15 : Int32)) = (4 : Int32)
    · refine aw_tableIn (pc := 39) F 269 dL_law_39 (by rw [s_39_4]; decide) (by rw [s_39_4]; decide) (off := 230) (by rw [s_39_4]; rfl) (by decide) ?_
      exact k4 c_29 s_39_4
    by_cases s_39_5 : ((xs ii.toNatClampNeg) &&& (15 : Int32)) = (5 : Int32)
    · refine aw_tableIn (pc := 39) F 325 dL_law_39 (by rw [s_39_5]; decide) (by rw [s_39_5]; decide) (off := 286) (by rw [s_39_5]; rfl) (by decide) ?_
      exact k5 c_29 s_39_5
    by_cases s_39_6 : ((xs ii.toNatClampNeg) &&& (15 : Int32)) = (6 : Int32)
    · refine aw_tableIn (pc := 39) F 388 dL_law_39 (by rw [s_39_6]; decide) (by rw [s_39_6]; decide) (off := 349) (by rw [s_39_6]; rfl) (by decide) ?_
      exact k6 c_29 s_39_6
    by_cases s_39_7 : ((xs ii.toNatClampNeg) &&& (15 : Int32)) = (7 : Int32)
    · refine aw_tableIn (pc := 39) F 432 dL_law_39 (by rw [s_39_7]; decide) (by rw [s_39_7]; decide) (off := 393) (by rw [s_39_7]; rfl) (by decide) ?_
      exact k7 c_29 s_39_7
    by_cases s_39_8 : ((xs ii.toNatClampNeg) &&& (15 : Int32)) = (8 : Int32)
    · refine aw_tableIn (pc := 39) F 488 dL_law_39 (by rw [s_39_8]; decide) (by rw [s_39_8]; decide) (off := 449) (by rw [s_39_8]; rfl) (by decide) ?_
      exact k8 c_29 s_39_8
    refine aw_tableOut (pc := 39) F 513 dL_law_39 (by have := aw_ne s_39_0 (a := 0) (by decide); have := aw_ne s_39_1 (a := 1) (by decide); have := aw_ne s_39_2 (a := 2) (by decide); have := aw_ne s_39_3 (a := 3) (by decide); have := aw_ne s_39_4 (a := 4) (by decide); have := aw_ne s_39_5 (a := 5) (by decide); have := aw_ne s_39_6 (a := 6) (by decide); have := aw_ne s_39_7 (a := 7) (by decide); have := aw_ne s_39_8 (a := 8) (by decide); omega) (by decide) ?_
    exact kd c_29
set_option maxRecDepth 100000 in
set_option maxHeartbeats 4000000 in
theorem tL_law_X513 {l : Launch} {D : va_G} {A : Nat → Prop} {ad : Nat → Nat} {tP : Nat} {cI cZ cJ : ClassId} {b N : Nat} {xs : Nat → Int32} {cells slots : Nat} {p : Program} {e : Env} {s : State} {m : MethodId} {args : Array Value} {below : List Frame} {meth : Method} {c : Code} {Q : State → Prop} (F : aw_F p s m c args cL_law 7 (Cond.initialized "ReactionDeskLaw" :: aw_big) yL_law.cls D vwCl [(cI, .int), (cZ, .boolean), (cJ, .long)]) (Zs : zC A tP s) :
    ∀ (S : kT) (P : pT) (X : xT) (T : Int32) (M : mT) (Y : yT) (V : vT) (O : oT) (ii : Int32)  , aW p l e room_1 s m args below meth c cells slots Q D vwCl A ad 7 (hC ad cI S P X ++ (hM ad cI cZ T M Y V ++ hQ cJ O)) [some (.ref b), some (.ref (ad 0)), some (.ref (ad 13)), some (.ref (ad 32)), some (.int (ii + (3 : Int32))), none, none] 23 [] → aW p l e room_1 s m args below meth c cells slots Q D vwCl A ad 7 (hC ad cI S P X ++ (hM ad cI cZ T M Y V ++ hQ cJ O)) [some (.ref b), some (.ref (ad 0)), some (.ref (ad 13)), some (.ref (ad 32)), some (.int ii), none, none] 513 [] := by
  intro S P X T M Y V O ii kq
  refine aw_iinc (pc := 513) (x := ii) (v := ii + (3 : Int32)) (L' := [some (.ref b), some (.ref (ad 0)), some (.ref (ad 13)), some (.ref (ad 32)), some (.int (ii + (3 : Int32))), none, none]) F dL_law_513 rfl rfl (by decide) rfl ?_
  refine aw_goto (pc := 516) F 23 dL_law_516 (by decide) ?_
  exact kq
