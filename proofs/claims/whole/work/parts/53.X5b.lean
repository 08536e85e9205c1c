theorem inX5_keeps : ∀ w ∈ wsX50, w ∈ wsX5_keeps := fun _ h => List.mem_cons_of_mem _ (List.mem_append_right _ (h))
theorem hdX5_keeps : yX5_keeps.cls = RX5 ∧ yX5_keeps.cls ≠ "java/lang/invoke/MethodHandle" ∧ yX5_keeps.cls ≠ "java/lang/invoke/VarHandle" ∧ (parseMethodDescriptor yX5_keeps.desc).map (fun d => d.parameters.length) = some 0 := by decide +kernel
def wX5_keeps_77 (R77 : Int32 × ew_M → Prop) (Q : ew_M → Prop) (v1 : Int32) (s1 : ew_M) : Prop := ((90 : Int32) ≤ v1 → Q (ew_sI s1 36 (s1.1 17))) ∧ (¬ (90 : Int32) ≤ v1 → vp_in v1 90 ∧ (vp_in v1 90 ∧ (R77 (v1 + (1 : Int32), ew_sW s1 1 v1.toNatClampNeg (s1.2.2 0 v1.toNatClampNeg)))))
def wX5_keeps_51 (R51 : Int32 × ew_M → Prop) (Q : ew_M → Prop) (v1 : Int32) (s1 : ew_M) : Prop := ((6 : Int32) ≤ v1 → ew_lp (fun (R : Int32 × ew_M → Prop) (x : Int32 × ew_M) => wX5_keeps_77 R Q x.1 x.2) ((0 : Int32), s1)) ∧ (¬ (6 : Int32) ≤ v1 → vp_in v1 6 ∧ (vp_in v1 6 ∧ (R51 (v1 + (1 : Int32), ew_sA s1 22 v1.toNatClampNeg (s1.2.1 3 v1.toNatClampNeg)))))
def wX5_keeps_2 (R2 : Int32 × ew_M → Prop) (Q : ew_M → Prop) (v1 : Int32) (s1 : ew_M) : Prop := ((5 : Int32) ≤ v1 → ew_lp (fun (R : Int32 × ew_M → Prop) (x : Int32 × ew_M) => wX5_keeps_51 R Q x.1 x.2) ((0 : Int32), s1)) ∧ (¬ (5 : Int32) ≤ v1 → vp_in v1 5 ∧ (vp_in v1 5 ∧ (vp_in v1 5 ∧ (vp_in v1 5 ∧ (vp_in v1 5 ∧ (vp_in v1 5 ∧ (∀ (z2 : ew_M), z2 = ew_sA (ew_sA (ew_sA s1 19 v1.toNatClampNeg (s1.2.1 8 v1.toNatClampNeg)) 20 v1.toNatClampNeg (s1.2.1 9 v1.toNatClampNeg)) 21 v1.toNatClampNeg (s1.2.1 10 v1.toNatClampNeg) → R2 (v1 + (1 : Int32), z2))))))))
def wX5_keeps (Q : ew_M → Prop) (s1 : ew_M) : Prop := ew_lp (fun (R : Int32 × ew_M → Prop) (x : Int32 × ew_M) => wX5_keeps_2 R Q x.1 x.2) ((0 : Int32), s1)
set_option maxHeartbeats 4000000 in
set_option maxRecDepth 100000 in
theorem tX5_keeps_77 {C : ew_C} {X : ew_X} {E : ew_M → ew_S} (hE1 : ew_GE X 50 (ew_GM X.2.1) E) (Z : ew_Z C X cX5_keeps 2 RX5 wsX5_keeps ({ frames := 0, cells := 0, slots := 0, locals := 0 } : Room) none) {Q : ew_M → Prop} {R77 : Int32 × ew_M → Prop} {v1 : Int32} {s1 : ew_M} (hR : C.2.2.2.2.2.2.2.2.2.2 = MQ C.2.2.2.2.2.2.2.1 (va_Qv (fun (u : ew_M) => Q u) (fun (u : ew_M) => ew_wd X ((fun (u : ew_M) => E u) u)) X.2.2.1) C.2.2.2.2.2.2.1 C.2.2.2.2.1 0 0 X.2.2.1) (hR77 : ∀ x : Int32 × ew_M, R77 x → ew_W C X 2 (E x.2) 77 [(0, .ref (X.2.1 50)), (1, .int x.1)] []) (h : wX5_keeps_77 R77 Q v1 s1) : ew_W C X 2 (E s1) 77 [(0, .ref (X.2.1 50)), (1, .int v1)] [] := by
  refine ez_iload_n (pc := 77) Z dX5_keeps_77 1 rfl rfl ?_
  refine ez_bipush (pc := 78) Z dX5_keeps_78 eb_90 ?_
  refine ez_icmp_ge (pc := 80) (tgt := 101) Z dX5_keeps_80 rfl (fun c1 => ?_) (fun c1 => ?_)
  · replace h := h.1 c1
    refine ez_aload_n (pc := 101) Z dX5_keeps_101 0 rfl rfl ?_
    refine ez_aload_n (pc := 102) Z dX5_keeps_102 0 rfl rfl ?_
    refine fX5_week (pc := 103) (v := s1.1 17) Z hE1 rfl inX5_keeps (List.mem_of_getElem? (i := 11) rfl) dX5_keeps_103 ?_
    refine pX5_keptWeek (pc := 106) (M := s1) (M' := ew_sI s1 36 (s1.1 17)) Z hE1 rfl inX5_keeps (List.mem_of_getElem? (i := 12) rfl) dX5_keeps_106 ?_
    exact ez_vret (pc := 109) Z hR (ew_sI s1 36 (s1.1 17)) h rfl dX5_keeps_109
  · replace h := h.2 c1
    refine ez_aload_n (pc := 83) Z dX5_keeps_83 0 rfl rfl ?_
    refine fX5_keptWeights (pc := 84) (M := s1) Z hE1 inX5_keeps (List.mem_of_getElem? (i := 9) rfl) dX5_keeps_84 ?_
    refine ez_iload_n (pc := 87) Z dX5_keeps_87 1 rfl rfl ?_
    refine ez_aload_n (pc := 88) Z dX5_keeps_88 0 rfl rfl ?_
    refine fX5_weights (pc := 89) (M := s1) Z hE1 inX5_keeps (List.mem_of_getElem? (i := 10) rfl) dX5_keeps_89 ?_
    refine ez_iload_n (pc := 92) Z dX5_keeps_92 1 rfl rfl ?_
    refine ez_lald (pc := 93) (n := 90) (a := 0) (v := s1.2.2 0 v1.toNatClampNeg) (M := s1) Z hE1 37 rfl (by decide : 0 < 3) rfl rfl h.1 dX5_keeps_93 ?_
    replace h := h.2
    refine ez_last (pc := 94) (n := 90) (a := 1) (M := s1) (M' := ew_sW s1 1 v1.toNatClampNeg (s1.2.2 0 v1.toNatClampNeg)) Z hE1 38 rfl (by decide : 1 < 3) rfl (fun _ _ _ => rfl) rfl h.1 dX5_keeps_94 ?_
    replace h := h.2
    refine ez_iinc (pc := 95) (L' := [(1, .int (v1 + (1 : Int32))), (0, .ref (X.2.1 50))]) Z dX5_keeps_95 1 rfl (ei_1 _) (by decide) rfl ?_
    refine ez_goto (pc := 98) (tgt := 77) Z dX5_keeps_98 rfl ?_
    refine ez_sub [(0, .ref (X.2.1 50)), (1, .int (v1 + (1 : Int32)))] [1, 0] rfl ?_
    exact hR77 _ h
set_option maxHeartbeats 4000000 in
set_option maxRecDepth 100000 in
theorem tX5_keeps_51 {C : ew_C} {X : ew_X} {E : ew_M → ew_S} (hE1 : ew_GE X 50 (ew_GM X.2.1) E) (Z : ew_Z C X cX5_keeps 2 RX5 wsX5_keeps ({ frames := 0, cells := 0, slots := 0, locals := 0 } : Room) none) {Q : ew_M → Prop} {R51 : Int32 × ew_M → Prop} {v1 : Int32} {s1 : ew_M} (hR : C.2.2.2.2.2.2.2.2.2.2 = MQ C.2.2.2.2.2.2.2.1 (va_Qv (fun (u : ew_M) => Q u) (fun (u : ew_M) => ew_wd X ((fun (u : ew_M) => E u) u)) X.2.2.1) C.2.2.2.2.2.2.1 C.2.2.2.2.1 0 0 X.2.2.1) (hR51 : ∀ x : Int32 × ew_M, R51 x → ew_W C X 2 (E x.2) 51 [(0, .ref (X.2.1 50)), (1, .int x.1)] []) (h : wX5_keeps_51 R51 Q v1 s1) : ew_W C X 2 (E s1) 51 [(0, .ref (X.2.1 50)), (1, .int v1)] [] := by
  refine ez_iload_n (pc := 51) Z dX5_keeps_51 1 rfl rfl ?_
  refine ez_bipush (pc := 52) Z dX5_keeps_52 eb_6 ?_
  refine ez_icmp_ge (pc := 54) (tgt := 75) Z dX5_keeps_54 rfl (fun c1 => ?_) (fun c1 => ?_)
  · replace h := h.1 c1
    refine ez_iconst (pc := 75) Z dX5_keeps_75 ec_0 ?_
    refine ez_istore_n (pc := 76) (L' := [(1, .int (0 : Int32)), (0, .ref (X.2.1 50))]) Z dX5_keeps_76 rfl (by decide) rfl ?_
    refine ez_sub [(0, .ref (X.2.1 50)), (1, .int (0 : Int32))] [1, 0] rfl ?_
    exact ew_ind (P := fun (x : Int32 × ew_M) => ew_W C X 2 (E x.2) 77 [(0, .ref (X.2.1 50)), (1, .int x.1)] []) (fun R hR9 x h => tX5_keeps_77 hE1 Z hR  hR9 h) h
  · replace h := h.2 c1
    refine ez_aload_n (pc := 57) Z dX5_keeps_57 0 rfl rfl ?_
    refine fX5_keptHad (pc := 58) (M := s1) Z hE1 inX5_keeps (List.mem_of_getElem? (i := 7) rfl) dX5_keeps_58 ?_
    refine ez_iload_n (pc := 61) Z dX5_keeps_61 1 rfl rfl ?_
    refine ez_aload_n (pc := 62) Z dX5_keeps_62 0 rfl rfl ?_
    refine fX5_had (pc := 63) (M := s1) Z hE1 inX5_keeps (List.mem_of_getElem? (i := 8) rfl) dX5_keeps_63 ?_
    refine ez_iload_n (pc := 66) Z dX5_keeps_66 1 rfl rfl ?_
    refine ez_iald (pc := 67) (n := 6) (a := 3) (v := s1.2.1 3 v1.toNatClampNeg) (M := s1) Z hE1 4 rfl (by decide : 3 < 36) rfl rfl h.1 dX5_keeps_67 ?_
    replace h := h.2
    refine ez_iast (pc := 68) (n := 6) (a := 22) (M := s1) (M' := ew_sA s1 22 v1.toNatClampNeg (s1.2.1 3 v1.toNatClampNeg)) Z hE1 23 rfl (by decide : 22 < 36) rfl rfl h.1 dX5_keeps_68 ?_
    replace h := h.2
    refine ez_iinc (pc := 69) (L' := [(1, .int (v1 + (1 : Int32))), (0, .ref (X.2.1 50))]) Z dX5_keeps_69 1 rfl (ei_1 _) (by decide) rfl ?_
    refine ez_goto (pc := 72) (tgt := 51) Z dX5_keeps_72 rfl ?_
    refine ez_sub [(0, .ref (X.2.1 50)), (1, .int (v1 + (1 : Int32)))] [1, 0] rfl ?_
    exact hR51 _ h
set_option maxHeartbeats 4000000 in
set_option maxRecDepth 100000 in
theorem tX5_keeps_2 {C : ew_C} {X : ew_X} {E : ew_M → ew_S} (hE1 : ew_GE X 50 (ew_GM X.2.1) E) (Z : ew_Z C X cX5_keeps 2 RX5 wsX5_keeps ({ frames := 0, cells := 0, slots := 0, locals := 0 } : Room) none) {Q : ew_M → Prop} {R2 : Int32 × ew_M → Prop} {v1 : Int32} {s1 : ew_M} (hR : C.2.2.2.2.2.2.2.2.2.2 = MQ C.2.2.2.2.2.2.2.1 (va_Qv (fun (u : ew_M) => Q u) (fun (u : ew_M) => ew_wd X ((fun (u : ew_M) => E u) u)) X.2.2.1) C.2.2.2.2.2.2.1 C.2.2.2.2.1 0 0 X.2.2.1) (hR2 : ∀ x : Int32 × ew_M, R2 x → ew_W C X 2 (E x.2) 2 [(0, .ref (X.2.1 50)), (1, .int x.1)] []) (h : wX5_keeps_2 R2 Q v1 s1) : ew_W C X 2 (E s1) 2 [(0, .ref (X.2.1 50)), (1, .int v1)] [] := by
  refine ez_iload_n (pc := 2) Z dX5_keeps_2 1 rfl rfl ?_
  refine ez_iconst (pc := 3) Z dX5_keeps_3 ec_5 ?_
  refine ez_icmp_ge (pc := 4) (tgt := 49) Z dX5_keeps_4 rfl (fun c1 => ?_) (fun c1 => ?_)
  · replace h := h.1 c1
    refine ez_iconst (pc := 49) Z dX5_keeps_49 ec_0 ?_
    refine ez_istore_n (pc := 50) (L' := [(1, .int (0 : Int32)), (0, .ref (X.2.1 50))]) Z dX5_keeps_50 rfl (by decide) rfl ?_
    refine ez_sub [(0, .ref (X.2.1 50)), (1, .int (0 : Int32))] [1, 0] rfl ?_
    exact ew_ind (P := fun (x : Int32 × ew_M) => ew_W C X 2 (E x.2) 51 [(0, .ref (X.2.1 50)), (1, .int x.1)] []) (fun R hR9 x h => tX5_keeps_51 hE1 Z hR  hR9 h) h
  · replace h := h.2 c1
    refine ez_aload_n (pc := 7) Z dX5_keeps_7 0 rfl rfl ?_
    refine fX5_keptRead (pc := 8) (M := s1) Z hE1 inX5_keeps (List.mem_of_getElem? (i := 1) rfl) dX5_keeps_8 ?_
    refine ez_iload_n (pc := 11) Z dX5_keeps_11 1 rfl rfl ?_
    refine ez_aload_n (pc := 12) Z dX5_keeps_12 0 rfl rfl ?_
    refine fX5_read (pc := 13) (M := s1) Z hE1 inX5_keeps (List.mem_of_getElem? (i := 2) rfl) dX5_keeps_13 ?_
    refine ez_iload_n (pc := 16) Z dX5_keeps_16 1 rfl rfl ?_
    refine ez_iald (pc := 17) (n := 5) (a := 8) (v := s1.2.1 8 v1.toNatClampNeg) (M := s1) Z hE1 9 rfl (by decide : 8 < 36) rfl rfl h.1 dX5_keeps_17 ?_
    replace h := h.2
    refine ez_iast (pc := 18) (n := 5) (a := 19) (M := s1) (M' := ew_sA s1 19 v1.toNatClampNeg (s1.2.1 8 v1.toNatClampNeg)) Z hE1 20 rfl (by decide : 19 < 36) rfl rfl h.1 dX5_keeps_18 ?_
    replace h := h.2
    refine ez_aload_n (pc := 19) Z dX5_keeps_19 0 rfl rfl ?_
    refine fX5_keptSaid (pc := 20) (M := ew_sA s1 19 v1.toNatClampNeg (s1.2.1 8 v1.toNatClampNeg)) Z hE1 inX5_keeps (List.mem_of_getElem? (i := 3) rfl) dX5_keeps_20 ?_
    refine ez_iload_n (pc := 23) Z dX5_keeps_23 1 rfl rfl ?_
    refine ez_aload_n (pc := 24) Z dX5_keeps_24 0 rfl rfl ?_
    refine fX5_said (pc := 25) (M := ew_sA s1 19 v1.toNatClampNeg (s1.2.1 8 v1.toNatClampNeg)) Z hE1 inX5_keeps (List.mem_of_getElem? (i := 4) rfl) dX5_keeps_25 ?_
    refine ez_iload_n (pc := 28) Z dX5_keeps_28 1 rfl rfl ?_
    refine ez_iald (pc := 29) (n := 5) (a := 9) (v := s1.2.1 9 v1.toNatClampNeg) (M := ew_sA s1 19 v1.toNatClampNeg (s1.2.1 8 v1.toNatClampNeg)) Z hE1 10 rfl (by decide : 9 < 36) rfl rfl h.1 dX5_keeps_29 ?_
    replace h := h.2
    refine ez_iast (pc := 30) (n := 5) (a := 20) (M := ew_sA s1 19 v1.toNatClampNeg (s1.2.1 8 v1.toNatClampNeg)) (M' := ew_sA (ew_sA s1 19 v1.toNatClampNeg (s1.2.1 8 v1.toNatClampNeg)) 20 v1.toNatClampNeg (s1.2.1 9 v1.toNatClampNeg)) Z hE1 21 rfl (by decide : 20 < 36) rfl rfl h.1 dX5_keeps_30 ?_
    replace h := h.2
    refine ez_aload_n (pc := 31) Z dX5_keeps_31 0 rfl rfl ?_
    refine fX5_keptLasted (pc := 32) (M := ew_sA (ew_sA s1 19 v1.toNatClampNeg (s1.2.1 8 v1.toNatClampNeg)) 20 v1.toNatClampNeg (s1.2.1 9 v1.toNatClampNeg)) Z hE1 inX5_keeps (List.mem_of_getElem? (i := 5) rfl) dX5_keeps_32 ?_
    refine ez_iload_n (pc := 35) Z dX5_keeps_35 1 rfl rfl ?_
    refine ez_aload_n (pc := 36) Z dX5_keeps_36 0 rfl rfl ?_
    refine fX5_lasted (pc := 37) (M := ew_sA (ew_sA s1 19 v1.toNatClampNeg (s1.2.1 8 v1.toNatClampNeg)) 20 v1.toNatClampNeg (s1.2.1 9 v1.toNatClampNeg)) Z hE1 inX5_keeps (List.mem_of_getElem? (i := 6) rfl) dX5_keeps_37 ?_
    refine ez_iload_n (pc := 40) Z dX5_keeps_40 1 rfl rfl ?_
    refine ez_iald (pc := 41) (n := 5) (a := 10) (v := s1.2.1 10 v1.toNatClampNeg) (M := ew_sA (ew_sA s1 19 v1.toNatClampNeg (s1.2.1 8 v1.toNatClampNeg)) 20 v1.toNatClampNeg (s1.2.1 9 v1.toNatClampNeg)) Z hE1 11 rfl (by decide : 10 < 36) rfl rfl h.1 dX5_keeps_41 ?_
    replace h := h.2
    refine ez_iast (pc := 42) (n := 5) (a := 21) (M := ew_sA (ew_sA s1 19 v1.toNatClampNeg (s1.2.1 8 v1.toNatClampNeg)) 20 v1.toNatClampNeg (s1.2.1 9 v1.toNatClampNeg)) (M' := ew_sA (ew_sA (ew_sA s1 19 v1.toNatClampNeg (s1.2.1 8 v1.toNatClampNeg)) 20 v1.toNatClampNeg (s1.2.1 9 v1.toNatClampNeg)) 21 v1.toNatClampNeg (s1.2.1 10 v1.toNatClampNeg)) Z hE1 22 rfl (by decide : 21 < 36) rfl rfl h.1 dX5_keeps_42 ?_
    replace h := h.2
    refine ez_nm (E := E) (fun z2 ez2 => ?_)
    replace h := h z2 ez2
    refine ez_iinc (pc := 43) (L' := [(1, .int (v1 + (1 : Int32))), (0, .ref (X.2.1 50))]) Z dX5_keeps_43 1 rfl (ei_1 _) (by decide) rfl ?_
    refine ez_goto (pc := 46) (tgt := 2) Z dX5_keeps_46 rfl ?_
    refine ez_sub [(0, .ref (X.2.1 50)), (1, .int (v1 + (1 : Int32)))] [1, 0] rfl ?_
    exact hR2 _ h
set_option maxHeartbeats 4000000 in
set_option maxRecDepth 100000 in
theorem kX5_keeps {X : ew_X} {l : Launch} (hX : ew_Ap X) {E : ew_M → ew_S} (hE1 : ew_GE X 50 (ew_GM X.2.1) E) {Q : ew_M → Prop} {s1 : ew_M} (h : wX5_keeps Q s1) : Met l yX5_keeps wsX5_keeps ({ frames := 0, cells := 0, slots := 0, locals := 0 } : Room) (va_Pc [.ref (X.2.1 50)] (ew_wd X (E s1))) (va_Qv (fun (u : ew_M) => Q u) (fun (u : ew_M) => ew_wd X ((fun (u : ew_M) => E u) u)) X.2.2.1) 0 0 X.2.2.1 := by
  refine ew_met (As := [.ref (X.2.1 50)]) (L0 := [(0, .ref (X.2.1 50))]) X l hX (by decide) rfl rfl rfl rfl (fun C hl Z hR => ?_)
  subst hl
  refine ez_iconst (pc := 0) Z dX5_keeps_0 ec_0 ?_
  refine ez_istore_n (pc := 1) (L' := [(1, .int (0 : Int32)), (0, .ref (X.2.1 50))]) Z dX5_keeps_1 rfl (by decide) rfl ?_
  refine ez_sub [(0, .ref (X.2.1 50)), (1, .int (0 : Int32))] [1, 0] rfl ?_
  exact ew_ind (P := fun (x : Int32 × ew_M) => ew_W C X 2 (E x.2) 2 [(0, .ref (X.2.1 50)), (1, .int x.1)] []) (fun R hR9 x h => tX5_keeps_2 hE1 Z hR  hR9 h) h
theorem inX5_lays : ∀ w ∈ wsX50, w ∈ wsX5_lays := fun _ h => List.mem_cons_of_mem _ (List.mem_append_right _ (h))
theorem hdX5_lays : yX5_lays.cls = RX5 ∧ yX5_lays.cls ≠ "java/lang/invoke/MethodHandle" ∧ yX5_lays.cls ≠ "java/lang/invoke/VarHandle" ∧ (parseMethodDescriptor yX5_lays.desc).map (fun d => d.parameters.length) = some 0 := by decide +kernel
def wX5_lays_77 (R77 : Int32 × ew_M → Prop) (Q : ew_M → Prop) (v1 : Int32) (s1 : ew_M) : Prop := ((90 : Int32) ≤ v1 → Q (ew_sI s1 17 (s1.1 36))) ∧ (¬ (90 : Int32) ≤ v1 → vp_in v1 90 ∧ (vp_in v1 90 ∧ (R77 (v1 + (1 : Int32), ew_sW s1 0 v1.toNatClampNeg (s1.2.2 1 v1.toNatClampNeg)))))
def wX5_lays_51 (R51 : Int32 × ew_M → Prop) (Q : ew_M → Prop) (v1 : Int32) (s1 : ew_M) : Prop := ((6 : Int32) ≤ v1 → ew_lp (fun (R : Int32 × ew_M → Prop) (x : Int32 × ew_M) => wX5_lays_77 R Q x.1 x.2) ((0 : Int32), s1)) ∧ (¬ (6 : Int32) ≤ v1 → vp_in v1 6 ∧ (vp_in v1 6 ∧ (R51 (v1 + (1 : Int32), ew_sA s1 3 v1.toNatClampNeg (s1.2.1 22 v1.toNatClampNeg)))))
def wX5_lays_2 (R2 : Int32 × ew_M → Prop) (Q : ew_M → Prop) (v1 : Int32) (s1 : ew_M) : Prop := ((5 : Int32) ≤ v1 → ew_lp (fun (R : Int32 × ew_M → Prop) (x : Int32 × ew_M) => wX5_lays_51 R Q x.1 x.2) ((0 : Int32), s1)) ∧ (¬ (5 : Int32) ≤ v1 → vp_in v1 5 ∧ (vp_in v1 5 ∧ (vp_in v1 5 ∧ (vp_in v1 5 ∧ (vp_in v1 5 ∧ (vp_in v1 5 ∧ (∀ (z2 : ew_M), z2 = ew_sA (ew_sA (ew_sA s1 8 v1.toNatClampNeg (s1.2.1 19 v1.toNatClampNeg)) 9 v1.toNatClampNeg (s1.2.1 20 v1.toNatClampNeg)) 10 v1.toNatClampNeg (s1.2.1 21 v1.toNatClampNeg) → R2 (v1 + (1 : Int32), z2))))))))
def wX5_lays (Q : ew_M → Prop) (s1 : ew_M) : Prop := ew_lp (fun (R : Int32 × ew_M → Prop) (x : Int32 × ew_M) => wX5_lays_2 R Q x.1 x.2) ((0 : Int32), s1)
set_option maxHeartbeats 4000000 in
set_option maxRecDepth 100000 in
theorem tX5_lays_77 {C : ew_C} {X : ew_X} {E : ew_M → ew_S} (hE1 : ew_GE X 50 (ew_GM X.2.1) E) (Z : ew_Z C X cX5_lays 2 RX5 wsX5_lays ({ frames := 0, cells := 0, slots := 0, locals := 0 } : Room) none) {Q : ew_M → Prop} {R77 : Int32 × ew_M → Prop} {v1 : Int32} {s1 : ew_M} (hR : C.2.2.2.2.2.2.2.2.2.2 = MQ C.2.2.2.2.2.2.2.1 (va_Qv (fun (u : ew_M) => Q u) (fun (u : ew_M) => ew_wd X ((fun (u : ew_M) => E u) u)) X.2.2.1) C.2.2.2.2.2.2.1 C.2.2.2.2.1 0 0 X.2.2.1) (hR77 : ∀ x : Int32 × ew_M, R77 x → ew_W C X 2 (E x.2) 77 [(0, .ref (X.2.1 50)), (1, .int x.1)] []) (h : wX5_lays_77 R77 Q v1 s1) : ew_W C X 2 (E s1) 77 [(0, .ref (X.2.1 50)), (1, .int v1)] [] := by
  refine ez_iload_n (pc := 77) Z dX5_lays_77 1 rfl rfl ?_
  refine ez_bipush (pc := 78) Z dX5_lays_78 eb_90 ?_
  refine ez_icmp_ge (pc := 80) (tgt := 101) Z dX5_lays_80 rfl (fun c1 => ?_) (fun c1 => ?_)
  · replace h := h.1 c1
    refine ez_aload_n (pc := 101) Z dX5_lays_101 0 rfl rfl ?_
    refine ez_aload_n (pc := 102) Z dX5_lays_102 0 rfl rfl ?_
    refine fX5_keptWeek (pc := 103) (v := s1.1 36) Z hE1 rfl inX5_lays (List.mem_of_getElem? (i := 11) rfl) dX5_lays_103 ?_
    refine pX5_week (pc := 106) (M := s1) (M' := ew_sI s1 17 (s1.1 36)) Z hE1 rfl inX5_lays (List.mem_of_getElem? (i := 12) rfl) dX5_lays_106 ?_
    exact ez_vret (pc := 109) Z hR (ew_sI s1 17 (s1.1 36)) h rfl dX5_lays_109
  · replace h := h.2 c1
    refine ez_aload_n (pc := 83) Z dX5_lays_83 0 rfl rfl ?_
    refine fX5_weights (pc := 84) (M := s1) Z hE1 inX5_lays (List.mem_of_getElem? (i := 9) rfl) dX5_lays_84 ?_
    refine ez_iload_n (pc := 87) Z dX5_lays_87 1 rfl rfl ?_
    refine ez_aload_n (pc := 88) Z dX5_lays_88 0 rfl rfl ?_
    refine fX5_keptWeights (pc := 89) (M := s1) Z hE1 inX5_lays (List.mem_of_getElem? (i := 10) rfl) dX5_lays_89 ?_
    refine ez_iload_n (pc := 92) Z dX5_lays_92 1 rfl rfl ?_
    refine ez_lald (pc := 93) (n := 90) (a := 1) (v := s1.2.2 1 v1.toNatClampNeg) (M := s1) Z hE1 38 rfl (by decide : 1 < 3) rfl rfl h.1 dX5_lays_93 ?_
    replace h := h.2
    refine ez_last (pc := 94) (n := 90) (a := 0) (M := s1) (M' := ew_sW s1 0 v1.toNatClampNeg (s1.2.2 1 v1.toNatClampNeg)) Z hE1 37 rfl (by decide : 0 < 3) rfl (fun _ _ _ => rfl) rfl h.1 dX5_lays_94 ?_
    replace h := h.2
    refine ez_iinc (pc := 95) (L' := [(1, .int (v1 + (1 : Int32))), (0, .ref (X.2.1 50))]) Z dX5_lays_95 1 rfl (ei_1 _) (by decide) rfl ?_
    refine ez_goto (pc := 98) (tgt := 77) Z dX5_lays_98 rfl ?_
    refine ez_sub [(0, .ref (X.2.1 50)), (1, .int (v1 + (1 : Int32)))] [1, 0] rfl ?_
    exact hR77 _ h
set_option maxHeartbeats 4000000 in
set_option maxRecDepth 100000 in
theorem tX5_lays_51 {C : ew_C} {X : ew_X} {E : ew_M → ew_S} (hE1 : ew_GE X 50 (ew_GM X.2.1) E) (Z : ew_Z C X cX5_lays 2 RX5 wsX5_lays ({ frames := 0, cells := 0, slots := 0, locals := 0 } : Room) none) {Q : ew_M → Prop} {R51 : Int32 × ew_M → Prop} {v1 : Int32} {s1 : ew_M} (hR : C.2.2.2.2.2.2.2.2.2.2 = MQ C.2.2.2.2.2.2.2.1 (va_Qv (fun (u : ew_M) => Q u) (fun (u : ew_M) => ew_wd X ((fun (u : ew_M) => E u) u)) X.2.2.1) C.2.2.2.2.2.2.1 C.2.2.2.2.1 0 0 X.2.2.1) (hR51 : ∀ x : Int32 × ew_M, R51 x → ew_W C X 2 (E x.2) 51 [(0, .ref (X.2.1 50)), (1, .int x.1)] []) (h : wX5_lays_51 R51 Q v1 s1) : ew_W C X 2 (E s1) 51 [(0, .ref (X.2.1 50)), (1, .int v1)] [] := by
  refine ez_iload_n (pc := 51) Z dX5_lays_51 1 rfl rfl ?_
  refine ez_bipush (pc := 52) Z dX5_lays_52 eb_6 ?_
  refine ez_icmp_ge (pc := 54) (tgt := 75) Z dX5_lays_54 rfl (fun c1 => ?_) (fun c1 => ?_)
  · replace h := h.1 c1
    refine ez_iconst (pc := 75) Z dX5_lays_75 ec_0 ?_
    refine ez_istore_n (pc := 76) (L' := [(1, .int (0 : Int32)), (0, .ref (X.2.1 50))]) Z dX5_lays_76 rfl (by decide) rfl ?_
    refine ez_sub [(0, .ref (X.2.1 50)), (1, .int (0 : Int32))] [1, 0] rfl ?_
    exact ew_ind (P := fun (x : Int32 × ew_M) => ew_W C X 2 (E x.2) 77 [(0, .ref (X.2.1 50)), (1, .int x.1)] []) (fun R hR9 x h => tX5_lays_77 hE1 Z hR  hR9 h) h
  · replace h := h.2 c1
    refine ez_aload_n (pc := 57) Z dX5_lays_57 0 rfl rfl ?_
    refine fX5_had (pc := 58) (M := s1) Z hE1 inX5_lays (List.mem_of_getElem? (i := 7) rfl) dX5_lays_58 ?_
    refine ez_iload_n (pc := 61) Z dX5_lays_61 1 rfl rfl ?_
    refine ez_aload_n (pc := 62) Z dX5_lays_62 0 rfl rfl ?_
    refine fX5_keptHad (pc := 63) (M := s1) Z hE1 inX5_lays (List.mem_of_getElem? (i := 8) rfl) dX5_lays_63 ?_
    refine ez_iload_n (pc := 66) Z dX5_lays_66 1 rfl rfl ?_
    refine ez_iald (pc := 67) (n := 6) (a := 22) (v := s1.2.1 22 v1.toNatClampNeg) (M := s1) Z hE1 23 rfl (by decide : 22 < 36) rfl rfl h.1 dX5_lays_67 ?_
    replace h := h.2
    refine ez_iast (pc := 68) (n := 6) (a := 3) (M := s1) (M' := ew_sA s1 3 v1.toNatClampNeg (s1.2.1 22 v1.toNatClampNeg)) Z hE1 4 rfl (by decide : 3 < 36) rfl rfl h.1 dX5_lays_68 ?_
    replace h := h.2
    refine ez_iinc (pc := 69) (L' := [(1, .int (v1 + (1 : Int32))), (0, .ref (X.2.1 50))]) Z dX5_lays_69 1 rfl (ei_1 _) (by decide) rfl ?_
    refine ez_goto (pc := 72) (tgt := 51) Z dX5_lays_72 rfl ?_
    refine ez_sub [(0, .ref (X.2.1 50)), (1, .int (v1 + (1 : Int32)))] [1, 0] rfl ?_
    exact hR51 _ h
set_option maxHeartbeats 4000000 in
set_option maxRecDepth 100000 in
theorem tX5_lays_2 {C : ew_C} {X : ew_X} {E : ew_M → ew_S} (hE1 : ew_GE X 50 (ew_GM X.2.1) E) (Z : ew_Z C X cX5_lays 2 RX5 wsX5_lays ({ frames := 0, cells := 0, slots := 0, locals := 0 } : Room) none) {Q : ew_M → Prop} {R2 : Int32 × ew_M → Prop} {v1 : Int32} {s1 : ew_M} (hR : C.2.2.2.2.2.2.2.2.2.2 = MQ C.2.2.2.2.2.2.2.1 (va_Qv (fun (u : ew_M) => Q u) (fun (u : ew_M) => ew_wd X ((fun (u : ew_M) => E u) u)) X.2.2.1) C.2.2.2.2.2.2.1 C.2.2.2.2.1 0 0 X.2.2.1) (hR2 : ∀ x : Int32 × ew_M, R2 x → ew_W C X 2 (E x.2) 2 [(0, .ref (X.2.1 50)), (1, .int x.1)] []) (h : wX5_lays_2 R2 Q v1 s1) : ew_W C X 2 (E s1) 2 [(0, .ref (X.2.1 50)), (1, .int v1)] [] := by
  refine ez_iload_n (pc := 2) Z dX5_lays_2 1 rfl rfl ?_
  refine ez_iconst (pc := 3) Z dX5_lays_3 ec_5 ?_
  refine ez_icmp_ge (pc := 4) (tgt := 49) Z dX5_lays_4 rfl (fun c1 => ?_) (fun c1 => ?_)
  · replace h := h.1 c1
    refine ez_iconst (pc := 49) Z dX5_lays_49 ec_0 ?_
    refine ez_istore_n (pc := 50) (L' := [(1, .int (0 : Int32)), (0, .ref (X.2.1 50))]) Z dX5_lays_50 rfl (by decide) rfl ?_
    refine ez_sub [(0, .ref (X.2.1 50)), (1, .int (0 : Int32))] [1, 0] rfl ?_
    exact ew_ind (P := fun (x : Int32 × ew_M) => ew_W C X 2 (E x.2) 51 [(0, .ref (X.2.1 50)), (1, .int x.1)] []) (fun R hR9 x h => tX5_lays_51 hE1 Z hR  hR9 h) h
  · replace h := h.2 c1
    refine ez_aload_n (pc := 7) Z dX5_lays_7 0 rfl rfl ?_
    refine fX5_read (pc := 8) (M := s1) Z hE1 inX5_lays (List.mem_of_getElem? (i := 1) rfl) dX5_lays_8 ?_
    refine ez_iload_n (pc := 11) Z dX5_lays_11 1 rfl rfl ?_
    refine ez_aload_n (pc := 12) Z dX5_lays_12 0 rfl rfl ?_
    refine fX5_keptRead (pc := 13) (M := s1) Z hE1 inX5_lays (List.mem_of_getElem? (i := 2) rfl) dX5_lays_13 ?_
    refine ez_iload_n (pc := 16) Z dX5_lays_16 1 rfl rfl ?_
    refine ez_iald (pc := 17) (n := 5) (a := 19) (v := s1.2.1 19 v1.toNatClampNeg) (M := s1) Z hE1 20 rfl (by decide : 19 < 36) rfl rfl h.1 dX5_lays_17 ?_
    replace h := h.2
    refine ez_iast (pc := 18) (n := 5) (a := 8) (M := s1) (M' := ew_sA s1 8 v1.toNatClampNeg (s1.2.1 19 v1.toNatClampNeg)) Z hE1 9 rfl (by decide : 8 < 36) rfl rfl h.1 dX5_lays_18 ?_
    replace h := h.2
    refine ez_aload_n (pc := 19) Z dX5_lays_19 0 rfl rfl ?_
    refine fX5_said (pc := 20) (M := ew_sA s1 8 v1.toNatClampNeg (s1.2.1 19 v1.toNatClampNeg)) Z hE1 inX5_lays (List.mem_of_getElem? (i := 3) rfl) dX5_lays_20 ?_
    refine ez_iload_n (pc := 23) Z dX5_lays_23 1 rfl rfl ?_
    refine ez_aload_n (pc := 24) Z dX5_lays_24 0 rfl rfl ?_
    refine fX5_keptSaid (pc := 25) (M := ew_sA s1 8 v1.toNatClampNeg (s1.2.1 19 v1.toNatClampNeg)) Z hE1 inX5_lays (List.mem_of_getElem? (i := 4) rfl) dX5_lays_25 ?_
    refine ez_iload_n (pc := 28) Z dX5_lays_28 1 rfl rfl ?_
    refine ez_iald (pc := 29) (n := 5) (a := 20) (v := s1.2.1 20 v1.toNatClampNeg) (M := ew_sA s1 8 v1.toNatClampNeg (s1.2.1 19 v1.toNatClampNeg)) Z hE1 21 rfl (by decide : 20 < 36) rfl rfl h.1 dX5_lays_29 ?_
    replace h := h.2
    refine ez_iast (pc := 30) (n := 5) (a := 9) (M := ew_sA s1 8 v1.toNatClampNeg (s1.2.1 19 v1.toNatClampNeg)) (M' := ew_sA (ew_sA s1 8 v1.toNatClampNeg (s1.2.1 19 v1.toNatClampNeg)) 9 v1.toNatClampNeg (s1.2.1 20 v1.toNatClampNeg)) Z hE1 10 rfl (by decide : 9 < 36) rfl rfl h.1 dX5_lays_30 ?_
    replace h := h.2
    refine ez_aload_n (pc := 31) Z dX5_lays_31 0 rfl rfl ?_
    refine fX5_lasted (pc := 32) (M := ew_sA (ew_sA s1 8 v1.toNatClampNeg (s1.2.1 19 v1.toNatClampNeg)) 9 v1.toNatClampNeg (s1.2.1 20 v1.toNatClampNeg)) Z hE1 inX5_lays (List.mem_of_getElem? (i := 5) rfl) dX5_lays_32 ?_
    refine ez_iload_n (pc := 35) Z dX5_lays_35 1 rfl rfl ?_
    refine ez_aload_n (pc := 36) Z dX5_lays_36 0 rfl rfl ?_
    refine fX5_keptLasted (pc := 37) (M := ew_sA (ew_sA s1 8 v1.toNatClampNeg (s1.2.1 19 v1.toNatClampNeg)) 9 v1.toNatClampNeg (s1.2.1 20 v1.toNatClampNeg)) Z hE1 inX5_lays (List.mem_of_getElem? (i := 6) rfl) dX5_lays_37 ?_
    refine ez_iload_n (pc := 40) Z dX5_lays_40 1 rfl rfl ?_
    refine ez_iald (pc := 41) (n := 5) (a := 21) (v := s1.2.1 21 v1.toNatClampNeg) (M := ew_sA (ew_sA s1 8 v1.toNatClampNeg (s1.2.1 19 v1.toNatClampNeg)) 9 v1.toNatClampNeg (s1.2.1 20 v1.toNatClampNeg)) Z hE1 22 rfl (by decide : 21 < 36) rfl rfl h.1 dX5_lays_41 ?_
    replace h := h.2
    refine ez_iast (pc := 42) (n := 5) (a := 10) (M := ew_sA (ew_sA s1 8 v1.toNatClampNeg (s1.2.1 19 v1.toNatClampNeg)) 9 v1.toNatClampNeg (s1.2.1 20 v1.toNatClampNeg)) (M' := ew_sA (ew_sA (ew_sA s1 8 v1.toNatClampNeg (s1.2.1 19 v1.toNatClampNeg)) 9 v1.toNatClampNeg (s1.2.1 20 v1.toNatClampNeg)) 10 v1.toNatClampNeg (s1.2.1 21 v1.toNatClampNeg)) Z hE1 11 rfl (by decide : 10 < 36) rfl rfl h.1 dX5_lays_42 ?_
    replace h := h.2
    refine ez_nm (E := E) (fun z2 ez2 => ?_)
    replace h := h z2 ez2
    refine ez_iinc (pc := 43) (L' := [(1, .int (v1 + (1 : Int32))), (0, .ref (X.2.1 50))]) Z dX5_lays_43 1 rfl (ei_1 _) (by decide) rfl ?_
    refine ez_goto (pc := 46) (tgt := 2) Z dX5_lays_46 rfl ?_
    refine ez_sub [(0, .ref (X.2.1 50)), (1, .int (v1 + (1 : Int32)))] [1, 0] rfl ?_
    exact hR2 _ h
set_option maxHeartbeats 4000000 in
set_option maxRecDepth 100000 in
theorem kX5_lays {X : ew_X} {l : Launch} (hX : ew_Ap X) {E : ew_M → ew_S} (hE1 : ew_GE X 50 (ew_GM X.2.1) E) {Q : ew_M → Prop} {s1 : ew_M} (h : wX5_lays Q s1) : Met l yX5_lays wsX5_lays ({ frames := 0, cells := 0, slots := 0, locals := 0 } : Room) (va_Pc [.ref (X.2.1 50)] (ew_wd X (E s1))) (va_Qv (fun (u : ew_M) => Q u) (fun (u : ew_M) => ew_wd X ((fun (u : ew_M) => E u) u)) X.2.2.1) 0 0 X.2.2.1 := by
  refine ew_met (As := [.ref (X.2.1 50)]) (L0 := [(0, .ref (X.2.1 50))]) X l hX (by decide) rfl rfl rfl rfl (fun C hl Z hR => ?_)
  subst hl
  refine ez_iconst (pc := 0) Z dX5_lays_0 ec_0 ?_
  refine ez_istore_n (pc := 1) (L' := [(1, .int (0 : Int32)), (0, .ref (X.2.1 50))]) Z dX5_lays_1 rfl (by decide) rfl ?_
  refine ez_sub [(0, .ref (X.2.1 50)), (1, .int (0 : Int32))] [1, 0] rfl ?_
  exact ew_ind (P := fun (x : Int32 × ew_M) => ew_W C X 2 (E x.2) 2 [(0, .ref (X.2.1 50)), (1, .int x.1)] []) (fun R hR9 x h => tX5_lays_2 hE1 Z hR  hR9 h) h
theorem inX5_forceIf : ∀ w ∈ wsX50, w ∈ wsX5_forceIf := fun _ h => List.mem_cons_of_mem _ (List.mem_append_right _ (h))
theorem hdX5_forceIf : yX5_forceIf.cls = RX5 ∧ yX5_forceIf.cls ≠ "java/lang/invoke/MethodHandle" ∧ yX5_forceIf.cls ≠ "java/lang/invoke/VarHandle" ∧ (parseMethodDescriptor yX5_forceIf.desc).map (fun d => d.parameters.length) = some 4 := by decide +kernel
def wX5_forceIf_53 (R25 : Int32 × ew_M → Prop) (Q : Int32 → ew_M → Prop) (v1 : Int32) (v2 : Int32) (v3 : Int32) (v4 : Int32) (v5 : Int32) (v6 : Int32) (s1 : ew_M) : Prop := wX5_passes (fun (m2 : ew_M) => R25 (v6 + (1 : Int32), m2)) s1
def wX5_forceIf_25 (R25 : Int32 × ew_M → Prop) (Q : Int32 → ew_M → Prop) (v1 : Int32) (v2 : Int32) (v3 : Int32) (v4 : Int32) (v5 : Int32) (v6 : Int32) (s1 : ew_M) : Prop := (v3 ≤ v6 → vp_in v2 5 ∧ (wX5_lays (fun (m3 : ew_M) => Q ((s1.2.1 10 v2.toNatClampNeg) - v5) m3) (ew_sI s1 29 (-1 : Int32)))) ∧ (¬ v3 ≤ v6 → (¬ v6 = v4 → wX5_forceIf_53 R25 Q v1 v2 v3 v4 v5 v6 s1) ∧ (v6 = v4 → wX5_mayRead (fun (r5 : Int32) => (r5 = 0 → wX5_forceIf_53 R25 Q v1 v2 v3 v4 v5 v6 s1) ∧ (¬ r5 = 0 → wX5_hasNowRead (fun (m9 : ew_M) => wX5_forceIf_53 R25 Q v1 v2 v3 v4 v5 v6 m9) v1 v2 s1)) v1 v2 s1))
def wX5_forceIf (Q : Int32 → ew_M → Prop) (p1 : Int32) (p2 : Int32) (p3 : Int32) (p4 : Int32) (s1 : ew_M) : Prop := wX5_keeps (fun (m2 : ew_M) => vp_in p2 5 ∧ (ew_lp (fun (R : Int32 × ew_M → Prop) (x : Int32 × ew_M) => wX5_forceIf_25 R Q p1 p2 p3 p4 (m2.2.1 10 p2.toNatClampNeg) x.1 x.2) ((0 : Int32), (ew_sI (ew_sI m2 29 p1) 30 p2)))) s1
set_option maxHeartbeats 4000000 in
set_option maxRecDepth 100000 in
theorem tX5_forceIf_53 {C : ew_C} {X : ew_X} {E : ew_M → ew_S} (hE1 : ew_GE X 50 (ew_GM X.2.1) E) (Z : ew_Z C X cX5_forceIf 7 RX5 wsX5_forceIf ({ frames := 6, cells := 0, slots := 0, locals := 134 } : Room) (some .int)) {Q : Int32 → ew_M → Prop} {R25 : Int32 × ew_M → Prop} {v1 : Int32} {v2 : Int32} {v3 : Int32} {v4 : Int32} {v5 : Int32} {v6 : Int32} {s1 : ew_M} (hR : C.2.2.2.2.2.2.2.2.2.2 = MQ C.2.2.2.2.2.2.2.1 (va_Qi (fun (r : Int32) (u : ew_M) => Q r u) (fun (u : ew_M) => ew_wd X ((fun (u : ew_M) => E u) u)) X.2.2.1) C.2.2.2.2.2.2.1 C.2.2.2.2.1 0 0 X.2.2.1) (hR25 : ∀ x : Int32 × ew_M, R25 x → ew_W C X 7 (E x.2) 25 [(0, .ref (X.2.1 50)), (1, .int v1), (2, .int v2), (3, .int v3), (4, .int v4), (5, .int v5), (6, .int x.1)] []) (h : wX5_forceIf_53 R25 Q v1 v2 v3 v4 v5 v6 s1) : ew_W C X 7 (E s1) 53 [(0, .ref (X.2.1 50)), (1, .int v1), (2, .int v2), (3, .int v3), (4, .int v4), (5, .int v5), (6, .int v6)] [] := by
  refine ez_aload_n (pc := 53) Z dX5_forceIf_53 0 rfl rfl ?_
  refine ez_callVv (pc := 54) (r := 50) (As := []) (st := []) Z (kX5_passes Z.2.2.2.2.2.2.2.2.2.1 (E := E) hE1 h) gX5_forceIf_X5_passes rfl rfl rfl hdX5_passes rfl rfl (by decide) (ew_oM hE1 _) rfl rfl rfl rfl dX5_forceIf_54 (fun m2 h => ?_)
  refine ez_iinc (pc := 57) (L' := [(6, .int (v6 + (1 : Int32))), (0, .ref (X.2.1 50)), (1, .int v1), (2, .int v2), (3, .int v3), (4, .int v4), (5, .int v5)]) Z dX5_forceIf_57 6 rfl (ei_1 _) (by decide) rfl ?_
  refine ez_goto (pc := 60) (tgt := 25) Z dX5_forceIf_60 rfl ?_
  refine ez_sub [(0, .ref (X.2.1 50)), (1, .int v1), (2, .int v2), (3, .int v3), (4, .int v4), (5, .int v5), (6, .int (v6 + (1 : Int32)))] [1, 2, 3, 4, 5, 6, 0] rfl ?_
  exact hR25 _ h
set_option maxHeartbeats 4000000 in
set_option maxRecDepth 100000 in
theorem tX5_forceIf_25 {C : ew_C} {X : ew_X} {E : ew_M → ew_S} (hE1 : ew_GE X 50 (ew_GM X.2.1) E) (Z : ew_Z C X cX5_forceIf 7 RX5 wsX5_forceIf ({ frames := 6, cells := 0, slots := 0, locals := 134 } : Room) (some .int)) {Q : Int32 → ew_M → Prop} {R25 : Int32 × ew_M → Prop} {v1 : Int32} {v2 : Int32} {v3 : Int32} {v4 : Int32} {v5 : Int32} {v6 : Int32} {s1 : ew_M} (hR : C.2.2.2.2.2.2.2.2.2.2 = MQ C.2.2.2.2.2.2.2.1 (va_Qi (fun (r : Int32) (u : ew_M) => Q r u) (fun (u : ew_M) => ew_wd X ((fun (u : ew_M) => E u) u)) X.2.2.1) C.2.2.2.2.2.2.1 C.2.2.2.2.1 0 0 X.2.2.1) (hR25 : ∀ x : Int32 × ew_M, R25 x → ew_W C X 7 (E x.2) 25 [(0, .ref (X.2.1 50)), (1, .int v1), (2, .int v2), (3, .int v3), (4, .int v4), (5, .int v5), (6, .int x.1)] []) (h : wX5_forceIf_25 R25 Q v1 v2 v3 v4 v5 v6 s1) : ew_W C X 7 (E s1) 25 [(0, .ref (X.2.1 50)), (1, .int v1), (2, .int v2), (3, .int v3), (4, .int v4), (5, .int v5), (6, .int v6)] [] := by
  refine ez_iload (pc := 25) Z dX5_forceIf_25 6 rfl ?_
  refine ez_iload_n (pc := 27) Z dX5_forceIf_27 3 rfl rfl ?_
  refine ez_icmp_ge (pc := 28) (tgt := 63) Z dX5_forceIf_28 rfl (fun c1 => ?_) (fun c1 => ?_)
  · replace h := h.1 c1
    refine ez_aload_n (pc := 63) Z dX5_forceIf_63 0 rfl rfl ?_
    refine ez_iconst (pc := 64) Z dX5_forceIf_64 ec_m1 ?_
    refine pX5_still (pc := 65) (M := s1) (M' := ew_sI s1 29 (-1 : Int32)) Z hE1 rfl inX5_forceIf (List.mem_of_getElem? (i := 2) rfl) dX5_forceIf_65 ?_
    refine ez_aload_n (pc := 68) Z dX5_forceIf_68 0 rfl rfl ?_
    refine fX5_lasted (pc := 69) (M := ew_sI s1 29 (-1 : Int32)) Z hE1 inX5_forceIf (List.mem_of_getElem? (i := 1) rfl) dX5_forceIf_69 ?_
    refine ez_iload_n (pc := 72) Z dX5_forceIf_72 2 rfl rfl ?_
    refine ez_iald (pc := 73) (n := 5) (a := 10) (v := s1.2.1 10 v2.toNatClampNeg) (M := ew_sI s1 29 (-1 : Int32)) Z hE1 11 rfl (by decide : 10 < 36) rfl rfl h.1 dX5_forceIf_73 ?_
    replace h := h.2
    refine ez_iload (pc := 74) Z dX5_forceIf_74 5 rfl ?_
    refine ez_isub (pc := 76) Z dX5_forceIf_76 ?_
    refine ez_istore (pc := 77) (L' := [(6, .int ((s1.2.1 10 v2.toNatClampNeg) - v5)), (0, .ref (X.2.1 50)), (1, .int v1), (2, .int v2), (3, .int v3), (4, .int v4), (5, .int v5)]) Z dX5_forceIf_77 (by decide) rfl ?_
    refine ez_aload_n (pc := 79) Z dX5_forceIf_79 1 rfl rfl ?_
    refine ez_callVv (pc := 80) (r := 50) (As := []) (st := []) Z (kX5_lays Z.2.2.2.2.2.2.2.2.2.1 (E := E) hE1 h) gX5_forceIf_X5_lays rfl rfl rfl hdX5_lays rfl rfl (by decide) (ew_oM hE1 _) rfl rfl rfl rfl dX5_forceIf_80 (fun m3 h => ?_)
    refine ez_iload (pc := 83) Z dX5_forceIf_83 0 rfl ?_
    exact ez_iret (pc := 85) Z hR m3 h rfl dX5_forceIf_85
  · replace h := h.2 c1
    refine ez_iload (pc := 31) Z dX5_forceIf_31 6 rfl ?_
    refine ez_iload (pc := 33) Z dX5_forceIf_33 4 rfl ?_
    refine ez_icmp_ne (pc := 35) (tgt := 53) Z dX5_forceIf_35 rfl (fun c4 => ?_) (fun c4 => ?_)
    · replace h := h.1 c4
      exact tX5_forceIf_53 hE1 Z hR hR25 h
    · replace h := h.2 c4
      refine ez_aload_n (pc := 38) Z dX5_forceIf_38 0 rfl rfl ?_
      refine ez_iload_n (pc := 39) Z dX5_forceIf_39 1 rfl rfl ?_
      refine ez_iload_n (pc := 40) Z dX5_forceIf_40 2 rfl rfl ?_
      refine ez_callVi (pc := 41) (r := 50) (As := [.int v1, .int v2]) (st := []) Z (kX5_mayRead Z.2.2.2.2.2.2.2.2.2.1 (E := E) hE1 h) gX5_forceIf_X5_mayRead rfl rfl rfl hdX5_mayRead rfl rfl (by decide) (ew_oM hE1 _) rfl rfl rfl rfl dX5_forceIf_41 (fun r5 u6 h => ?_)
      refine ez_if_eq (pc := 44) (tgt := 53) Z dX5_forceIf_44 rfl (fun c7 => ?_) (fun c7 => ?_)
      · replace h := h.1 c7
        exact tX5_forceIf_53 hE1 Z hR hR25 h
      · replace h := h.2 c7
        refine ez_aload_n (pc := 47) Z dX5_forceIf_47 0 rfl rfl ?_
        refine ez_iload_n (pc := 48) Z dX5_forceIf_48 1 rfl rfl ?_
        refine ez_iload_n (pc := 49) Z dX5_forceIf_49 2 rfl rfl ?_
        refine ez_callVv (pc := 50) (r := 50) (As := [.int v1, .int v2]) (st := []) Z (kX5_hasNowRead Z.2.2.2.2.2.2.2.2.2.1 (E := E) hE1 h) gX5_forceIf_X5_hasNowRead rfl rfl rfl hdX5_hasNowRead rfl rfl (by decide) (ew_oM hE1 _) rfl rfl rfl rfl dX5_forceIf_50 (fun m9 h => ?_)
        exact tX5_forceIf_53 hE1 Z hR hR25 h
set_option maxHeartbeats 4000000 in
set_option maxRecDepth 100000 in
theorem kX5_forceIf {X : ew_X} {l : Launch} (hX : ew_Ap X) {E : ew_M → ew_S} (hE1 : ew_GE X 50 (ew_GM X.2.1) E) {Q : Int32 → ew_M → Prop} {p1 : Int32} {p2 : Int32} {p3 : Int32} {p4 : Int32} {s1 : ew_M} (h : wX5_forceIf Q p1 p2 p3 p4 s1) : Met l yX5_forceIf wsX5_forceIf ({ frames := 6, cells := 0, slots := 0, locals := 134 } : Room) (va_Pc [.ref (X.2.1 50), .int p1, .int p2, .int p3, .int p4] (ew_wd X (E s1))) (va_Qi (fun (r : Int32) (u : ew_M) => Q r u) (fun (u : ew_M) => ew_wd X ((fun (u : ew_M) => E u) u)) X.2.2.1) 0 0 X.2.2.1 := by
  refine ew_met (As := [.ref (X.2.1 50), .int p1, .int p2, .int p3, .int p4]) (L0 := [(0, .ref (X.2.1 50)), (1, .int p1), (2, .int p2), (3, .int p3), (4, .int p4)]) X l hX (by decide) rfl rfl rfl rfl (fun C hl Z hR => ?_)
  subst hl
  refine ez_aload_n (pc := 0) Z dX5_forceIf_0 0 rfl rfl ?_
  refine ez_callVv (pc := 1) (r := 50) (As := []) (st := []) Z (kX5_keeps Z.2.2.2.2.2.2.2.2.2.1 (E := E) hE1 h) gX5_forceIf_X5_keeps rfl rfl rfl hdX5_keeps rfl rfl (by decide) (ew_oM hE1 _) rfl rfl rfl rfl dX5_forceIf_1 (fun m2 h => ?_)
  refine ez_aload_n (pc := 4) Z dX5_forceIf_4 0 rfl rfl ?_
  refine fX5_lasted (pc := 5) (M := m2) Z hE1 inX5_forceIf (List.mem_of_getElem? (i := 1) rfl) dX5_forceIf_5 ?_
  refine ez_iload_n (pc := 8) Z dX5_forceIf_8 2 rfl rfl ?_
  refine ez_iald (pc := 9) (n := 5) (a := 10) (v := m2.2.1 10 p2.toNatClampNeg) (M := m2) Z hE1 11 rfl (by decide : 10 < 36) rfl rfl h.1 dX5_forceIf_9 ?_
  replace h := h.2
  refine ez_istore (pc := 10) (L' := [(5, .int (m2.2.1 10 p2.toNatClampNeg)), (0, .ref (X.2.1 50)), (1, .int p1), (2, .int p2), (3, .int p3), (4, .int p4)]) Z dX5_forceIf_10 (by decide) rfl ?_
  refine ez_aload_n (pc := 12) Z dX5_forceIf_12 1 rfl rfl ?_
  refine ez_iload_n (pc := 13) Z dX5_forceIf_13 2 rfl rfl ?_
  refine pX5_still (pc := 14) (M := m2) (M' := ew_sI m2 29 p1) Z hE1 rfl inX5_forceIf (List.mem_of_getElem? (i := 2) rfl) dX5_forceIf_14 ?_
  refine ez_aload_n (pc := 17) Z dX5_forceIf_17 1 rfl rfl ?_
  refine ez_iload_n (pc := 18) Z dX5_forceIf_18 3 rfl rfl ?_
  refine pX5_stillPaper (pc := 19) (M := ew_sI m2 29 p1) (M' := ew_sI (ew_sI m2 29 p1) 30 p2) Z hE1 rfl inX5_forceIf (List.mem_of_getElem? (i := 3) rfl) dX5_forceIf_19 ?_
  refine ez_iconst (pc := 22) Z dX5_forceIf_22 ec_0 ?_
  refine ez_istore (pc := 23) (L' := [(6, .int (0 : Int32)), (5, .int (m2.2.1 10 p2.toNatClampNeg)), (0, .ref (X.2.1 50)), (1, .int p1), (2, .int p2), (3, .int p3), (4, .int p4)]) Z dX5_forceIf_23 (by decide) rfl ?_
  refine ez_sub [(0, .ref (X.2.1 50)), (1, .int p1), (2, .int p2), (3, .int p3), (4, .int p4), (5, .int (m2.2.1 10 p2.toNatClampNeg)), (6, .int (0 : Int32))] [2, 3, 4, 5, 6, 1, 0] rfl ?_
  exact ew_ind (P := fun (x : Int32 × ew_M) => ew_W C X 7 (E x.2) 25 [(0, .ref (X.2.1 50)), (1, .int p1), (2, .int p2), (3, .int p3), (4, .int p4), (5, .int (m2.2.1 10 p2.toNatClampNeg)), (6, .int x.1)] []) (fun R hR9 x h => tX5_forceIf_25 hE1 Z hR  hR9 h) h
theorem inX5_findsWhen : ∀ w ∈ wsX50, w ∈ wsX5_findsWhen := fun _ h => List.mem_cons_of_mem _ (List.mem_append_right _ (h))
theorem hdX5_findsWhen : yX5_findsWhen.cls = RX5 ∧ yX5_findsWhen.cls ≠ "java/lang/invoke/MethodHandle" ∧ yX5_findsWhen.cls ≠ "java/lang/invoke/VarHandle" ∧ (parseMethodDescriptor yX5_findsWhen.desc).map (fun d => d.parameters.length) = some 3 := by decide +kernel
def wX5_findsWhen_75 (R28 : Int32 × ew_M → Prop) (Q : ew_M → Prop) (v1 : Int32) (v2 : Int32) (v3 : Int32) (v4 : Int64) (v6 : Int32) (s1 : ew_M) : Prop := R28 (v6 + (1 : Int32), s1)
def wX5_findsWhen_28 (R28 : Int32 × ew_M → Prop) (Q : ew_M → Prop) (v1 : Int32) (v2 : Int32) (v3 : Int32) (v4 : Int64) (v6 : Int32) (s1 : ew_M) : Prop := (v3 < v6 → Q s1) ∧ (¬ v3 < v6 → wX5_forceIf (fun (r2 : Int32) (m3 : ew_M) => ((lg_cmp (v4 * r2.toInt64) (v4 * ((m3.1 38).toInt64))) ≤ 0 → wX5_findsWhen_75 R28 Q v1 v2 v3 v4 v6 m3) ∧ (¬ (lg_cmp (v4 * r2.toInt64) (v4 * ((m3.1 38).toInt64))) ≤ 0 → wX5_findsWhen_75 R28 Q v1 v2 v3 v4 v6 (ew_sI (ew_sI m3 37 v6) 38 r2))) v1 v2 v3 v6 s1)
def wX5_findsWhen (Q : ew_M → Prop) (p1 : Int32) (p2 : Int32) (p3 : Int32) (s1 : ew_M) : Prop := wX5_thinkAbove (fun (r1 : Int64) => wX5_forceIf (fun (r3 : Int32) (m4 : ew_M) => ew_lp (fun (R : Int32 × ew_M → Prop) (x : Int32 × ew_M) => wX5_findsWhen_28 R Q p1 p2 p3 r1 x.1 x.2) ((1 : Int32), (ew_sI m4 38 r3))) p1 p2 p3 (0 : Int32) (ew_sI s1 37 (0 : Int32))) p1 p2 s1
set_option maxHeartbeats 4000000 in
set_option maxRecDepth 100000 in
theorem tX5_findsWhen_75 {C : ew_C} {X : ew_X} {E : ew_M → ew_S} (hE1 : ew_GE X 50 (ew_GM X.2.1) E) (Z : ew_Z C X cX5_findsWhen 8 RX5 wsX5_findsWhen ({ frames := 7, cells := 0, slots := 0, locals := 160 } : Room) none) {Q : ew_M → Prop} {R28 : Int32 × ew_M → Prop} {v1 : Int32} {v2 : Int32} {v3 : Int32} {v4 : Int64} {v6 : Int32} {s1 : ew_M} (hR : C.2.2.2.2.2.2.2.2.2.2 = MQ C.2.2.2.2.2.2.2.1 (va_Qv (fun (u : ew_M) => Q u) (fun (u : ew_M) => ew_wd X ((fun (u : ew_M) => E u) u)) X.2.2.1) C.2.2.2.2.2.2.1 C.2.2.2.2.1 0 0 X.2.2.1) (hR28 : ∀ x : Int32 × ew_M, R28 x → ew_W C X 8 (E x.2) 28 [(0, .ref (X.2.1 50)), (1, .int v1), (2, .int v2), (3, .int v3), (4, .long v4), (6, .int x.1)] []) (h : wX5_findsWhen_75 R28 Q v1 v2 v3 v4 v6 s1) : ew_W C X 8 (E s1) 75 [(0, .ref (X.2.1 50)), (1, .int v1), (2, .int v2), (3, .int v3), (4, .long v4), (6, .int v6)] [] := by
  refine ez_iinc (pc := 75) (L' := [(6, .int (v6 + (1 : Int32))), (0, .ref (X.2.1 50)), (1, .int v1), (2, .int v2), (3, .int v3), (4, .long v4)]) Z dX5_findsWhen_75 5 rfl (ei_1 _) (by decide) rfl ?_
  refine ez_goto (pc := 78) (tgt := 28) Z dX5_findsWhen_78 rfl ?_
  refine ez_sub [(0, .ref (X.2.1 50)), (1, .int v1), (2, .int v2), (3, .int v3), (4, .long v4), (6, .int (v6 + (1 : Int32)))] [1, 2, 3, 4, 5, 0] rfl ?_
  exact hR28 _ h
set_option maxHeartbeats 4000000 in
set_option maxRecDepth 100000 in
theorem tX5_findsWhen_28 {C : ew_C} {X : ew_X} {E : ew_M → ew_S} (hE1 : ew_GE X 50 (ew_GM X.2.1) E) (Z : ew_Z C X cX5_findsWhen 8 RX5 wsX5_findsWhen ({ frames := 7, cells := 0, slots := 0, locals := 160 } : Room) none) {Q : ew_M → Prop} {R28 : Int32 × ew_M → Prop} {v1 : Int32} {v2 : Int32} {v3 : Int32} {v4 : Int64} {v6 : Int32} {s1 : ew_M} (hR : C.2.2.2.2.2.2.2.2.2.2 = MQ C.2.2.2.2.2.2.2.1 (va_Qv (fun (u : ew_M) => Q u) (fun (u : ew_M) => ew_wd X ((fun (u : ew_M) => E u) u)) X.2.2.1) C.2.2.2.2.2.2.1 C.2.2.2.2.1 0 0 X.2.2.1) (hR28 : ∀ x : Int32 × ew_M, R28 x → ew_W C X 8 (E x.2) 28 [(0, .ref (X.2.1 50)), (1, .int v1), (2, .int v2), (3, .int v3), (4, .long v4), (6, .int x.1)] []) (h : wX5_findsWhen_28 R28 Q v1 v2 v3 v4 v6 s1) : ew_W C X 8 (E s1) 28 [(0, .ref (X.2.1 50)), (1, .int v1), (2, .int v2), (3, .int v3), (4, .long v4), (6, .int v6)] [] := by
  refine ez_iload (pc := 28) Z dX5_findsWhen_28 5 rfl ?_
  refine ez_iload_n (pc := 30) Z dX5_findsWhen_30 3 rfl rfl ?_
  refine ez_icmp_gt (pc := 31) (tgt := 81) Z dX5_findsWhen_31 rfl (fun c1 => ?_) (fun c1 => ?_)
  · replace h := h.1 c1
    exact ez_vret (pc := 81) Z hR s1 h rfl dX5_findsWhen_81
  · replace h := h.2 c1
    refine ez_aload_n (pc := 34) Z dX5_findsWhen_34 0 rfl rfl ?_
    refine ez_iload_n (pc := 35) Z dX5_findsWhen_35 1 rfl rfl ?_
    refine ez_iload_n (pc := 36) Z dX5_findsWhen_36 2 rfl rfl ?_
    refine ez_iload_n (pc := 37) Z dX5_findsWhen_37 3 rfl rfl ?_
    refine ez_iload (pc := 38) Z dX5_findsWhen_38 5 rfl ?_
    refine ez_callVi (pc := 40) (r := 50) (As := [.int v1, .int v2, .int v3, .int v6]) (st := []) Z (kX5_forceIf Z.2.2.2.2.2.2.2.2.2.1 (E := E) hE1 h) gX5_findsWhen_X5_forceIf rfl rfl rfl hdX5_forceIf rfl rfl (by decide) (ew_oM hE1 _) rfl rfl rfl rfl dX5_findsWhen_40 (fun r2 m3 h => ?_)
    refine ez_istore (pc := 43) (L' := [(7, .int r2), (0, .ref (X.2.1 50)), (1, .int v1), (2, .int v2), (3, .int v3), (4, .long v4), (6, .int v6)]) Z dX5_findsWhen_43 (by decide) rfl ?_
    refine ez_lload (pc := 45) Z dX5_findsWhen_45 5 rfl ?_
    refine ez_iload (pc := 47) Z dX5_findsWhen_47 0 rfl ?_
    refine ez_i2l (pc := 49) Z dX5_findsWhen_49 ?_
    refine ez_lmul (pc := 50) Z dX5_findsWhen_50 ?_
    refine ez_lload (pc := 51) Z dX5_findsWhen_51 5 rfl ?_
    refine ez_aload_n (pc := 53) Z dX5_findsWhen_53 1 rfl rfl ?_
    refine fX5_bestWeeks (pc := 54) (v := m3.1 38) Z hE1 rfl inX5_findsWhen (List.mem_of_getElem? (i := 2) rfl) dX5_findsWhen_54 ?_
    refine ez_i2l (pc := 57) Z dX5_findsWhen_57 ?_
    refine ez_lmul (pc := 58) Z dX5_findsWhen_58 ?_
    refine ez_lcmp (pc := 59) Z dX5_findsWhen_59 ?_
    refine ez_if_le (pc := 60) (tgt := 75) Z dX5_findsWhen_60 rfl (fun c4 => ?_) (fun c4 => ?_)
    · replace h := h.1 c4
      refine ez_sub [(0, .ref (X.2.1 50)), (1, .int v1), (2, .int v2), (3, .int v3), (4, .long v4), (6, .int v6)] [1, 2, 3, 4, 5, 6] rfl ?_
      exact tX5_findsWhen_75 hE1 Z hR hR28 h
    · replace h := h.2 c4
      refine ez_aload_n (pc := 63) Z dX5_findsWhen_63 1 rfl rfl ?_
      refine ez_iload (pc := 64) Z dX5_findsWhen_64 6 rfl ?_
      refine pX5_bestWhen (pc := 66) (M := m3) (M' := ew_sI m3 37 v6) Z hE1 rfl inX5_findsWhen (List.mem_of_getElem? (i := 1) rfl) dX5_findsWhen_66 ?_
      refine ez_aload_n (pc := 69) Z dX5_findsWhen_69 1 rfl rfl ?_
      refine ez_iload (pc := 70) Z dX5_findsWhen_70 0 rfl ?_
      refine pX5_bestWeeks (pc := 72) (M := ew_sI m3 37 v6) (M' := ew_sI (ew_sI m3 37 v6) 38 r2) Z hE1 rfl inX5_findsWhen (List.mem_of_getElem? (i := 2) rfl) dX5_findsWhen_72 ?_
      refine ez_sub [(0, .ref (X.2.1 50)), (1, .int v1), (2, .int v2), (3, .int v3), (4, .long v4), (6, .int v6)] [1, 2, 3, 4, 5, 6] rfl ?_
      exact tX5_findsWhen_75 hE1 Z hR hR28 h
set_option maxHeartbeats 4000000 in
set_option maxRecDepth 100000 in
theorem kX5_findsWhen {X : ew_X} {l : Launch} (hX : ew_Ap X) {E : ew_M → ew_S} (hE1 : ew_GE X 50 (ew_GM X.2.1) E) {Q : ew_M → Prop} {p1 : Int32} {p2 : Int32} {p3 : Int32} {s1 : ew_M} (h : wX5_findsWhen Q p1 p2 p3 s1) : Met l yX5_findsWhen wsX5_findsWhen ({ frames := 7, cells := 0, slots := 0, locals := 160 } : Room) (va_Pc [.ref (X.2.1 50), .int p1, .int p2, .int p3] (ew_wd X (E s1))) (va_Qv (fun (u : ew_M) => Q u) (fun (u : ew_M) => ew_wd X ((fun (u : ew_M) => E u) u)) X.2.2.1) 0 0 X.2.2.1 := by
  refine ew_met (As := [.ref (X.2.1 50), .int p1, .int p2, .int p3]) (L0 := [(0, .ref (X.2.1 50)), (1, .int p1), (2, .int p2), (3, .int p3)]) X l hX (by decide) rfl rfl rfl rfl (fun C hl Z hR => ?_)
  subst hl
  refine ez_aload_n (pc := 0) Z dX5_findsWhen_0 0 rfl rfl ?_
  refine ez_iload_n (pc := 1) Z dX5_findsWhen_1 1 rfl rfl ?_
  refine ez_iload_n (pc := 2) Z dX5_findsWhen_2 2 rfl rfl ?_
  refine ez_callVl (pc := 3) (r := 50) (As := [.int p1, .int p2]) (st := []) Z (kX5_thinkAbove Z.2.2.2.2.2.2.2.2.2.1 (E := E) hE1 h) gX5_findsWhen_X5_thinkAbove rfl rfl rfl hdX5_thinkAbove rfl rfl (by decide) (ew_oM hE1 _) rfl rfl rfl rfl dX5_findsWhen_3 (fun r1 u2 h => ?_)
  refine ez_lstore (pc := 6) (L' := [(4, .long r1), (0, .ref (X.2.1 50)), (1, .int p1), (2, .int p2), (3, .int p3)]) Z dX5_findsWhen_6 (by decide) rfl ?_
  refine ez_aload_n (pc := 8) Z dX5_findsWhen_8 1 rfl rfl ?_
  refine ez_iconst (pc := 9) Z dX5_findsWhen_9 ec_0 ?_
  refine pX5_bestWhen (pc := 10) (M := s1) (M' := ew_sI s1 37 (0 : Int32)) Z hE1 rfl inX5_findsWhen (List.mem_of_getElem? (i := 1) rfl) dX5_findsWhen_10 ?_
  refine ez_aload_n (pc := 13) Z dX5_findsWhen_13 1 rfl rfl ?_
  refine ez_aload_n (pc := 14) Z dX5_findsWhen_14 1 rfl rfl ?_
  refine ez_iload_n (pc := 15) Z dX5_findsWhen_15 2 rfl rfl ?_
  refine ez_iload_n (pc := 16) Z dX5_findsWhen_16 3 rfl rfl ?_
  refine ez_iload_n (pc := 17) Z dX5_findsWhen_17 4 rfl rfl ?_
  refine ez_iconst (pc := 18) Z dX5_findsWhen_18 ec_0 ?_
  refine ez_callVi (pc := 19) (r := 50) (As := [.int p1, .int p2, .int p3, .int (0 : Int32)]) (st := [.ref (X.2.1 50)]) Z (kX5_forceIf Z.2.2.2.2.2.2.2.2.2.1 (E := E) hE1 h) gX5_findsWhen_X5_forceIf rfl rfl rfl hdX5_forceIf rfl rfl (by decide) (ew_oM hE1 _) rfl rfl rfl rfl dX5_findsWhen_19 (fun r3 m4 h => ?_)
  refine pX5_bestWeeks (pc := 22) (M := m4) (M' := ew_sI m4 38 r3) Z hE1 rfl inX5_findsWhen (List.mem_of_getElem? (i := 2) rfl) dX5_findsWhen_22 ?_
  refine ez_iconst (pc := 25) Z dX5_findsWhen_25 ec_1 ?_
  refine ez_istore (pc := 26) (L' := [(6, .int (1 : Int32)), (4, .long r1), (0, .ref (X.2.1 50)), (1, .int p1), (2, .int p2), (3, .int p3)]) Z dX5_findsWhen_26 (by decide) rfl ?_
  refine ez_sub [(0, .ref (X.2.1 50)), (1, .int p1), (2, .int p2), (3, .int p3), (4, .long r1), (6, .int (1 : Int32))] [2, 3, 4, 5, 1, 0] rfl ?_
  exact ew_ind (P := fun (x : Int32 × ew_M) => ew_W C X 8 (E x.2) 28 [(0, .ref (X.2.1 50)), (1, .int p1), (2, .int p2), (3, .int p3), (4, .long r1), (6, .int x.1)] []) (fun R hR9 x h => tX5_findsWhen_28 hE1 Z hR  hR9 h) h
theorem inX5_whenWrong : ∀ w ∈ wsX50, w ∈ wsX5_whenWrong := fun _ h => List.mem_cons_of_mem _ (List.mem_append_right _ (h))
theorem hdX5_whenWrong : yX5_whenWrong.cls = RX5 ∧ yX5_whenWrong.cls ≠ "java/lang/invoke/MethodHandle" ∧ yX5_whenWrong.cls ≠ "java/lang/invoke/VarHandle" ∧ (parseMethodDescriptor yX5_whenWrong.desc).map (fun d => d.parameters.length) = some 3 := by decide +kernel
def wX5_whenWrong (Q : Int32 → Prop) (p1 : Int32) (p2 : Int32) (p3 : Int32) (s1 : ew_M) : Prop := ((1 : Int32) ≤ p1 → (p1 ≤ (20 : Int32) → wX5_isBound (fun (r3 : Int32) => (r3 = 0 → Q (-3 : Int32) ) ∧ (¬ r3 = 0 → wX5_hasRead (fun (r6 : Int32) => (r6 = 0 → Q (0 : Int32) ) ∧ (¬ r6 = 0 → Q (-3 : Int32) )) p2 p3 s1)) p2 p3 s1) ∧ (¬ p1 ≤ (20 : Int32) → Q (-6 : Int32) )) ∧ (¬ (1 : Int32) ≤ p1 → Q (-4 : Int32) )
set_option maxHeartbeats 4000000 in
set_option maxRecDepth 100000 in
theorem kX5_whenWrong {X : ew_X} {l : Launch} (hX : ew_Ap X) {E : ew_M → ew_S} (hE1 : ew_GE X 50 (ew_GM X.2.1) E) {Q : Int32 → Prop} {p1 : Int32} {p2 : Int32} {p3 : Int32} {s1 : ew_M} (h : wX5_whenWrong Q p1 p2 p3 s1) : Met l yX5_whenWrong wsX5_whenWrong ({ frames := 1, cells := 0, slots := 0, locals := 22 } : Room) (va_Pc [.ref (X.2.1 50), .int p1, .int p2, .int p3] (ew_wd X (E s1))) (va_Qi (fun (r : Int32) (_ : Unit) => Q r) (fun (u : Unit) => ew_wd X ((fun (_ : Unit) => E s1) u)) X.2.2.1) 0 0 X.2.2.1 := by
  refine ew_met (As := [.ref (X.2.1 50), .int p1, .int p2, .int p3]) (L0 := [(0, .ref (X.2.1 50)), (1, .int p1), (2, .int p2), (3, .int p3)]) X l hX (by decide) rfl rfl rfl rfl (fun C hl Z hR => ?_)
  subst hl
  refine ez_iload_n (pc := 0) Z dX5_whenWrong_0 1 rfl rfl ?_
  refine ez_iconst (pc := 1) Z dX5_whenWrong_1 ec_1 ?_
  refine ez_icmp_ge (pc := 2) (tgt := 10) Z dX5_whenWrong_2 rfl (fun c1 => ?_) (fun c1 => ?_)
  · replace h := h.1 c1
    refine ez_iload_n (pc := 10) Z dX5_whenWrong_10 1 rfl rfl ?_
    refine ez_bipush (pc := 11) Z dX5_whenWrong_11 eb_20 ?_
    refine ez_icmp_le (pc := 13) (tgt := 21) Z dX5_whenWrong_13 rfl (fun c2 => ?_) (fun c2 => ?_)
    · replace h := h.1 c2
      refine ez_aload_n (pc := 21) Z dX5_whenWrong_21 0 rfl rfl ?_
      refine ez_iload_n (pc := 22) Z dX5_whenWrong_22 2 rfl rfl ?_
      refine ez_iload_n (pc := 23) Z dX5_whenWrong_23 3 rfl rfl ?_
      refine ez_callVi (pc := 24) (r := 50) (As := [.int p2, .int p3]) (st := []) Z (kX5_isBound Z.2.2.2.2.2.2.2.2.2.1 (E := E) hE1 h) gX5_whenWrong_X5_isBound rfl rfl rfl hdX5_isBound rfl rfl (by decide) (ew_oM hE1 _) rfl rfl rfl rfl dX5_whenWrong_24 (fun r3 u4 h => ?_)
      refine ez_if_eq (pc := 27) (tgt := 39) Z dX5_whenWrong_27 rfl (fun c5 => ?_) (fun c5 => ?_)
      · replace h := h.1 c5
        refine ez_bipush (pc := 39) Z dX5_whenWrong_39 eb_m3 ?_
        refine ez_goto (pc := 41) (tgt := 45) Z dX5_whenWrong_41 rfl ?_
        exact ez_iret (pc := 45) Z hR () h rfl dX5_whenWrong_45
      · replace h := h.2 c5
        refine ez_aload_n (pc := 30) Z dX5_whenWrong_30 0 rfl rfl ?_
        refine ez_iload_n (pc := 31) Z dX5_whenWrong_31 2 rfl rfl ?_
        refine ez_iload_n (pc := 32) Z dX5_whenWrong_32 3 rfl rfl ?_
        refine ez_callVi (pc := 33) (r := 50) (As := [.int p2, .int p3]) (st := []) Z (kX5_hasRead Z.2.2.2.2.2.2.2.2.2.1 (E := E) hE1 h) gX5_whenWrong_X5_hasRead rfl rfl rfl hdX5_hasRead rfl rfl (by decide) (ew_oM hE1 _) rfl rfl rfl rfl dX5_whenWrong_33 (fun r6 u7 h => ?_)
        refine ez_if_eq (pc := 36) (tgt := 44) Z dX5_whenWrong_36 rfl (fun c8 => ?_) (fun c8 => ?_)
        · replace h := h.1 c8
          refine ez_iconst (pc := 44) Z dX5_whenWrong_44 ec_0 ?_
          exact ez_iret (pc := 45) Z hR () h rfl dX5_whenWrong_45
        · replace h := h.2 c8
          refine ez_bipush (pc := 39) Z dX5_whenWrong_39 eb_m3 ?_
          refine ez_goto (pc := 41) (tgt := 45) Z dX5_whenWrong_41 rfl ?_
          exact ez_iret (pc := 45) Z hR () h rfl dX5_whenWrong_45
    · replace h := h.2 c2
      refine ez_bipush (pc := 16) Z dX5_whenWrong_16 eb_m6 ?_
      refine ez_goto (pc := 18) (tgt := 45) Z dX5_whenWrong_18 rfl ?_
      exact ez_iret (pc := 45) Z hR () h rfl dX5_whenWrong_45
  · replace h := h.2 c1
    refine ez_bipush (pc := 5) Z dX5_whenWrong_5 eb_m4 ?_
    refine ez_goto (pc := 7) (tgt := 45) Z dX5_whenWrong_7 rfl ?_
    exact ez_iret (pc := 45) Z hR () h rfl dX5_whenWrong_45
theorem inX5_when : ∀ w ∈ wsX50, w ∈ wsX5_when := fun _ h => List.mem_cons_of_mem _ (List.mem_append_right _ (h))
theorem hdX5_when : yX5_when.cls = RX5 ∧ yX5_when.cls ≠ "java/lang/invoke/MethodHandle" ∧ yX5_when.cls ≠ "java/lang/invoke/VarHandle" ∧ (parseMethodDescriptor yX5_when.desc).map (fun d => d.parameters.length) = some 3 := by decide +kernel
def wX5_when_16  (Q : Int32 → ew_M → Prop) (s1 : ew_M) : Prop := wX5_refuse (fun (r1 : Int32) (m2 : ew_M) => Q r1 m2) (-1 : Int32) s1
def wX5_when (Q : Int32 → ew_M → Prop) (p1 : Int32) (p2 : Int32) (p3 : Int32) (s1 : ew_M) : Prop := wX5_isPerson (fun (r1 : Int32) => (r1 = 0 → wX5_when_16 Q s1) ∧ (¬ r1 = 0 → wX5_isPaper (fun (r4 : Int32) => (¬ r4 = 0 → wX5_whenWrong (fun (r7 : Int32) => (r7 = 0 → wX5_findsWhen (fun (m11 : ew_M) => Q (m11.1 37) m11) p1 p2 p3 s1) ∧ (¬ r7 = 0 → wX5_refuse (fun (r12 : Int32) (m13 : ew_M) => Q r12 m13) r7 s1)) p3 p1 p2 s1) ∧ (r4 = 0 → wX5_when_16 Q s1)) p2 s1)) p1 s1
set_option maxHeartbeats 4000000 in
set_option maxRecDepth 100000 in
theorem tX5_when_16 {C : ew_C} {X : ew_X} {E : ew_M → ew_S} (hE1 : ew_GE X 50 (ew_GM X.2.1) E) (Z : ew_Z C X cX5_when 5 RX5 wsX5_when ({ frames := 8, cells := 0, slots := 0, locals := 187 } : Room) (some .int)) {Q : Int32 → ew_M → Prop}  {s1 : ew_M} (hR : C.2.2.2.2.2.2.2.2.2.2 = MQ C.2.2.2.2.2.2.2.1 (va_Qi (fun (r : Int32) (u : ew_M) => Q r u) (fun (u : ew_M) => ew_wd X ((fun (u : ew_M) => E u) u)) X.2.2.1) C.2.2.2.2.2.2.1 C.2.2.2.2.1 0 0 X.2.2.1) (h : wX5_when_16 Q s1) : ew_W C X 5 (E s1) 16 [(0, .ref (X.2.1 50))] [] := by
  refine ez_aload_n (pc := 16) Z dX5_when_16 0 rfl rfl ?_
  refine ez_iconst (pc := 17) Z dX5_when_17 ec_m1 ?_
  refine ez_callVi (pc := 18) (r := 50) (As := [.int (-1 : Int32)]) (st := []) Z (kX5_refuse Z.2.2.2.2.2.2.2.2.2.1 (E := E) hE1 h) gX5_when_X5_refuse rfl rfl rfl hdX5_refuse rfl rfl (by decide) (ew_oM hE1 _) rfl rfl rfl rfl dX5_when_18 (fun r1 m2 h => ?_)
  exact ez_iret (pc := 21) Z hR m2 h rfl dX5_when_21
set_option maxHeartbeats 4000000 in
set_option maxRecDepth 100000 in
theorem kX5_when {X : ew_X} {l : Launch} (hX : ew_Ap X) {E : ew_M → ew_S} (hE1 : ew_GE X 50 (ew_GM X.2.1) E) {Q : Int32 → ew_M → Prop} {p1 : Int32} {p2 : Int32} {p3 : Int32} {s1 : ew_M} (h : wX5_when Q p1 p2 p3 s1) : Met l yX5_when wsX5_when ({ frames := 8, cells := 0, slots := 0, locals := 187 } : Room) (va_Pc [.ref (X.2.1 50), .int p1, .int p2, .int p3] (ew_wd X (E s1))) (va_Qi (fun (r : Int32) (u : ew_M) => Q r u) (fun (u : ew_M) => ew_wd X ((fun (u : ew_M) => E u) u)) X.2.2.1) 0 0 X.2.2.1 := by
  refine ew_met (As := [.ref (X.2.1 50), .int p1, .int p2, .int p3]) (L0 := [(0, .ref (X.2.1 50)), (1, .int p1), (2, .int p2), (3, .int p3)]) X l hX (by decide) rfl rfl rfl rfl (fun C hl Z hR => ?_)
  subst hl
  refine ez_aload_n (pc := 0) Z dX5_when_0 0 rfl rfl ?_
  refine ez_iload_n (pc := 1) Z dX5_when_1 1 rfl rfl ?_
  refine ez_callVi (pc := 2) (r := 50) (As := [.int p1]) (st := []) Z (kX5_isPerson Z.2.2.2.2.2.2.2.2.2.1 (E := E) hE1 h) gX5_when_X5_isPerson rfl rfl rfl hdX5_isPerson rfl rfl (by decide) (ew_oM hE1 _) rfl rfl rfl rfl dX5_when_2 (fun r1 u2 h => ?_)
  refine ez_if_eq (pc := 5) (tgt := 16) Z dX5_when_5 rfl (fun c3 => ?_) (fun c3 => ?_)
  · replace h := h.1 c3
    refine ez_sub [(0, .ref (X.2.1 50))] [0] rfl ?_
    exact tX5_when_16 hE1 Z hR  h
  · replace h := h.2 c3
    refine ez_aload_n (pc := 8) Z dX5_when_8 0 rfl rfl ?_
    refine ez_iload_n (pc := 9) Z dX5_when_9 2 rfl rfl ?_
    refine ez_callVi (pc := 10) (r := 50) (As := [.int p2]) (st := []) Z (kX5_isPaper Z.2.2.2.2.2.2.2.2.2.1 (E := E) hE1 h) gX5_when_X5_isPaper rfl rfl rfl hdX5_isPaper rfl rfl (by decide) (ew_oM hE1 _) rfl rfl rfl rfl dX5_when_10 (fun r4 u5 h => ?_)
    refine ez_if_ne (pc := 13) (tgt := 22) Z dX5_when_13 rfl (fun c6 => ?_) (fun c6 => ?_)
    · replace h := h.1 c6
      refine ez_aload_n (pc := 22) Z dX5_when_22 0 rfl rfl ?_
      refine ez_iload_n (pc := 23) Z dX5_when_23 3 rfl rfl ?_
      refine ez_iload_n (pc := 24) Z dX5_when_24 1 rfl rfl ?_
      refine ez_iload_n (pc := 25) Z dX5_when_25 2 rfl rfl ?_
      refine ez_callVi (pc := 26) (r := 50) (As := [.int p3, .int p1, .int p2]) (st := []) Z (kX5_whenWrong Z.2.2.2.2.2.2.2.2.2.1 (E := E) hE1 h) gX5_when_X5_whenWrong rfl rfl rfl hdX5_whenWrong rfl rfl (by decide) (ew_oM hE1 _) rfl rfl rfl rfl dX5_when_26 (fun r7 u8 h => ?_)
      refine ez_istore (pc := 29) (L' := [(4, .int r7), (0, .ref (X.2.1 50)), (1, .int p1), (2, .int p2), (3, .int p3)]) Z dX5_when_29 (by decide) rfl ?_
      refine ez_iload (pc := 31) Z dX5_when_31 0 rfl ?_
      refine ez_if_eq (pc := 33) (tgt := 43) Z dX5_when_33 rfl (fun c9 => ?_) (fun c9 => ?_)
      · replace h := h.1 c9
        refine ez_aload_n (pc := 43) Z dX5_when_43 1 rfl rfl ?_
        refine ez_iload_n (pc := 44) Z dX5_when_44 2 rfl rfl ?_
        refine ez_iload_n (pc := 45) Z dX5_when_45 3 rfl rfl ?_
        refine ez_iload_n (pc := 46) Z dX5_when_46 4 rfl rfl ?_
        refine ez_callVv (pc := 47) (r := 50) (As := [.int p1, .int p2, .int p3]) (st := []) Z (kX5_findsWhen Z.2.2.2.2.2.2.2.2.2.1 (E := E) hE1 h) gX5_when_X5_findsWhen rfl rfl rfl hdX5_findsWhen rfl rfl (by decide) (ew_oM hE1 _) rfl rfl rfl rfl dX5_when_47 (fun m11 h => ?_)
        refine ez_aload_n (pc := 50) Z dX5_when_50 1 rfl rfl ?_
        refine fX5_bestWhen (pc := 51) (v := m11.1 37) Z hE1 rfl inX5_when (List.mem_of_getElem? (i := 1) rfl) dX5_when_51 ?_
        exact ez_iret (pc := 54) Z hR m11 h rfl dX5_when_54
      · replace h := h.2 c9
        refine ez_aload_n (pc := 36) Z dX5_when_36 1 rfl rfl ?_
        refine ez_iload (pc := 37) Z dX5_when_37 0 rfl ?_
        refine ez_callVi (pc := 39) (r := 50) (As := [.int r7]) (st := []) Z (kX5_refuse Z.2.2.2.2.2.2.2.2.2.1 (E := E) hE1 h) gX5_when_X5_refuse rfl rfl rfl hdX5_refuse rfl rfl (by decide) (ew_oM hE1 _) rfl rfl rfl rfl dX5_when_39 (fun r12 m13 h => ?_)
        exact ez_iret (pc := 42) Z hR m13 h rfl dX5_when_42
    · replace h := h.2 c6
      refine ez_sub [(0, .ref (X.2.1 50))] [0] rfl ?_
      exact tX5_when_16 hE1 Z hR  h
theorem inX5_mean : ∀ w ∈ wsX50, w ∈ wsX5_mean := fun _ h => List.mem_cons_of_mem _ (List.mem_append_right _ (h))
theorem hdX5_mean : yX5_mean.cls = RX5 ∧ yX5_mean.cls ≠ "java/lang/invoke/MethodHandle" ∧ yX5_mean.cls ≠ "java/lang/invoke/VarHandle" ∧ (parseMethodDescriptor yX5_mean.desc).map (fun d => d.parameters.length) = some 4 := by decide +kernel
def wX5_mean_16  (Q : Int64 → ew_M → Prop) (s1 : ew_M) : Prop := wX5_refuseLong (fun (r1 : Int64) (m2 : ew_M) => Q r1 m2) (-1 : Int32) s1
def wX5_mean (Q : Int64 → ew_M → Prop) (p1 : Int32) (p2 : Int32) (p3 : Int32) (p4 : Int32) (s1 : ew_M) : Prop := wX5_isPerson (fun (r1 : Int32) => (r1 = 0 → wX5_mean_16 Q s1) ∧ (¬ r1 = 0 → wX5_isPaper (fun (r4 : Int32) => (¬ r4 = 0 → wX5_in (fun (r7 : Int32) => (¬ r7 = 0 → wX5_whenWrong (fun (r10 : Int32) => (r10 = 0 → wX5_findsWhen (fun (m14 : ew_M) => wX5_thinkAbove (fun (r15 : Int64) => wX5_thinkBelow (fun (r17 : Int64) => wX5_lowest (fun (r19 : Int64) => Q r19 m14) (r15 * ((m14.1 38).toInt64)) r17 p4) p1 p2 m14) p1 p2 m14) p1 p2 p3 s1) ∧ (¬ r10 = 0 → wX5_refuseLong (fun (r21 : Int64) (m22 : ew_M) => Q r21 m22) r10 s1)) p3 p1 p2 s1) ∧ (r7 = 0 → wX5_refuseLong (fun (r23 : Int64) (m24 : ew_M) => Q r23 m24) (-2 : Int32) s1)) p4 (0 : Int32) (1 : Int32)) ∧ (r4 = 0 → wX5_mean_16 Q s1)) p2 s1)) p1 s1
set_option maxHeartbeats 4000000 in
set_option maxRecDepth 100000 in
theorem tX5_mean_16 {C : ew_C} {X : ew_X} {E : ew_M → ew_S} (hE1 : ew_GE X 50 (ew_GM X.2.1) E) (Z : ew_Z C X cX5_mean 6 RX5 wsX5_mean ({ frames := 8, cells := 0, slots := 0, locals := 187 } : Room) (some .long)) {Q : Int64 → ew_M → Prop}  {s1 : ew_M} (hR : C.2.2.2.2.2.2.2.2.2.2 = MQ C.2.2.2.2.2.2.2.1 (va_Ql (fun (r : Int64) (u : ew_M) => Q r u) (fun (u : ew_M) => ew_wd X ((fun (u : ew_M) => E u) u)) X.2.2.1) C.2.2.2.2.2.2.1 C.2.2.2.2.1 0 0 X.2.2.1) (h : wX5_mean_16 Q s1) : ew_W C X 6 (E s1) 16 [(0, .ref (X.2.1 50))] [] := by
  refine ez_aload_n (pc := 16) Z dX5_mean_16 0 rfl rfl ?_
  refine ez_iconst (pc := 17) Z dX5_mean_17 ec_m1 ?_
  refine ez_callVl (pc := 18) (r := 50) (As := [.int (-1 : Int32)]) (st := []) Z (kX5_refuseLong Z.2.2.2.2.2.2.2.2.2.1 (E := E) hE1 h) gX5_mean_X5_refuseLong rfl rfl rfl hdX5_refuseLong rfl rfl (by decide) (ew_oM hE1 _) rfl rfl rfl rfl dX5_mean_18 (fun r1 m2 h => ?_)
  exact ez_lret (pc := 21) Z hR m2 h rfl dX5_mean_21
set_option maxHeartbeats 4000000 in
set_option maxRecDepth 100000 in
theorem kX5_mean {X : ew_X} {l : Launch} (hX : ew_Ap X) {E : ew_M → ew_S} (hE1 : ew_GE X 50 (ew_GM X.2.1) E) {Q : Int64 → ew_M → Prop} {p1 : Int32} {p2 : Int32} {p3 : Int32} {p4 : Int32} {s1 : ew_M} (h : wX5_mean Q p1 p2 p3 p4 s1) : Met l yX5_mean wsX5_mean ({ frames := 8, cells := 0, slots := 0, locals := 187 } : Room) (va_Pc [.ref (X.2.1 50), .int p1, .int p2, .int p3, .int p4] (ew_wd X (E s1))) (va_Ql (fun (r : Int64) (u : ew_M) => Q r u) (fun (u : ew_M) => ew_wd X ((fun (u : ew_M) => E u) u)) X.2.2.1) 0 0 X.2.2.1 := by
  refine ew_met (As := [.ref (X.2.1 50), .int p1, .int p2, .int p3, .int p4]) (L0 := [(0, .ref (X.2.1 50)), (1, .int p1), (2, .int p2), (3, .int p3), (4, .int p4)]) X l hX (by decide) rfl rfl rfl rfl (fun C hl Z hR => ?_)
  subst hl
  refine ez_aload_n (pc := 0) Z dX5_mean_0 0 rfl rfl ?_
  refine ez_iload_n (pc := 1) Z dX5_mean_1 1 rfl rfl ?_
  refine ez_callVi (pc := 2) (r := 50) (As := [.int p1]) (st := []) Z (kX5_isPerson Z.2.2.2.2.2.2.2.2.2.1 (E := E) hE1 h) gX5_mean_X5_isPerson rfl rfl rfl hdX5_isPerson rfl rfl (by decide) (ew_oM hE1 _) rfl rfl rfl rfl dX5_mean_2 (fun r1 u2 h => ?_)
  refine ez_if_eq (pc := 5) (tgt := 16) Z dX5_mean_5 rfl (fun c3 => ?_) (fun c3 => ?_)
  · replace h := h.1 c3
    refine ez_sub [(0, .ref (X.2.1 50))] [0] rfl ?_
    exact tX5_mean_16 hE1 Z hR  h
  · replace h := h.2 c3
    refine ez_aload_n (pc := 8) Z dX5_mean_8 0 rfl rfl ?_
    refine ez_iload_n (pc := 9) Z dX5_mean_9 2 rfl rfl ?_
    refine ez_callVi (pc := 10) (r := 50) (As := [.int p2]) (st := []) Z (kX5_isPaper Z.2.2.2.2.2.2.2.2.2.1 (E := E) hE1 h) gX5_mean_X5_isPaper rfl rfl rfl hdX5_isPaper rfl rfl (by decide) (ew_oM hE1 _) rfl rfl rfl rfl dX5_mean_10 (fun r4 u5 h => ?_)
    refine ez_if_ne (pc := 13) (tgt := 22) Z dX5_mean_13 rfl (fun c6 => ?_) (fun c6 => ?_)
    · replace h := h.1 c6
      refine ez_iload (pc := 22) Z dX5_mean_22 4 rfl ?_
      refine ez_iconst (pc := 24) Z dX5_mean_24 ec_0 ?_
      refine ez_iconst (pc := 25) Z dX5_mean_25 ec_1 ?_
      refine ez_callSi (pc := 26) (As := [.int p4, .int (0 : Int32), .int (1 : Int32)]) (st := []) Z (kX5_in Z.2.2.2.2.2.2.2.2.2.1 (S := E s1) h) gX5_mean_X5_in rfl rfl rfl hdX5_in rfl rfl rfl rfl rfl dX5_mean_26 (fun r7 u8 h => ?_)
      refine ez_if_ne (pc := 29) (tgt := 39) Z dX5_mean_29 rfl (fun c9 => ?_) (fun c9 => ?_)
      · replace h := h.1 c9
        refine ez_aload_n (pc := 39) Z dX5_mean_39 0 rfl rfl ?_
        refine ez_iload_n (pc := 40) Z dX5_mean_40 3 rfl rfl ?_
        refine ez_iload_n (pc := 41) Z dX5_mean_41 1 rfl rfl ?_
        refine ez_iload_n (pc := 42) Z dX5_mean_42 2 rfl rfl ?_
        refine ez_callVi (pc := 43) (r := 50) (As := [.int p3, .int p1, .int p2]) (st := []) Z (kX5_whenWrong Z.2.2.2.2.2.2.2.2.2.1 (E := E) hE1 h) gX5_mean_X5_whenWrong rfl rfl rfl hdX5_whenWrong rfl rfl (by decide) (ew_oM hE1 _) rfl rfl rfl rfl dX5_mean_43 (fun r10 u11 h => ?_)
        refine ez_istore (pc := 46) (L' := [(5, .int r10), (0, .ref (X.2.1 50)), (1, .int p1), (2, .int p2), (3, .int p3), (4, .int p4)]) Z dX5_mean_46 (by decide) rfl ?_
        refine ez_iload (pc := 48) Z dX5_mean_48 0 rfl ?_
        refine ez_if_eq (pc := 50) (tgt := 60) Z dX5_mean_50 rfl (fun c12 => ?_) (fun c12 => ?_)
        · replace h := h.1 c12
          refine ez_aload_n (pc := 60) Z dX5_mean_60 1 rfl rfl ?_
          refine ez_iload_n (pc := 61) Z dX5_mean_61 2 rfl rfl ?_
          refine ez_iload_n (pc := 62) Z dX5_mean_62 3 rfl rfl ?_
          refine ez_iload_n (pc := 63) Z dX5_mean_63 4 rfl rfl ?_
          refine ez_callVv (pc := 64) (r := 50) (As := [.int p1, .int p2, .int p3]) (st := []) Z (kX5_findsWhen Z.2.2.2.2.2.2.2.2.2.1 (E := E) hE1 h) gX5_mean_X5_findsWhen rfl rfl rfl hdX5_findsWhen rfl rfl (by decide) (ew_oM hE1 _) rfl rfl rfl rfl dX5_mean_64 (fun m14 h => ?_)
          refine ez_aload_n (pc := 67) Z dX5_mean_67 1 rfl rfl ?_
          refine ez_iload_n (pc := 68) Z dX5_mean_68 2 rfl rfl ?_
          refine ez_iload_n (pc := 69) Z dX5_mean_69 3 rfl rfl ?_
          refine ez_callVl (pc := 70) (r := 50) (As := [.int p1, .int p2]) (st := []) Z (kX5_thinkAbove Z.2.2.2.2.2.2.2.2.2.1 (E := E) hE1 h) gX5_mean_X5_thinkAbove rfl rfl rfl hdX5_thinkAbove rfl rfl (by decide) (ew_oM hE1 _) rfl rfl rfl rfl dX5_mean_70 (fun r15 u16 h => ?_)
          refine ez_aload_n (pc := 73) Z dX5_mean_73 1 rfl rfl ?_
          refine fX5_bestWeeks (pc := 74) (v := m14.1 38) Z hE1 rfl inX5_mean (List.mem_of_getElem? (i := 1) rfl) dX5_mean_74 ?_
          refine ez_i2l (pc := 77) Z dX5_mean_77 ?_
          refine ez_lmul (pc := 78) Z dX5_mean_78 ?_
          refine ez_aload_n (pc := 79) Z dX5_mean_79 1 rfl rfl ?_
          refine ez_iload_n (pc := 80) Z dX5_mean_80 2 rfl rfl ?_
          refine ez_iload_n (pc := 81) Z dX5_mean_81 3 rfl rfl ?_
          refine ez_callVl (pc := 82) (r := 50) (As := [.int p1, .int p2]) (st := [.long (r15 * ((m14.1 38).toInt64))]) Z (kX5_thinkBelow Z.2.2.2.2.2.2.2.2.2.1 (E := E) hE1 h) gX5_mean_X5_thinkBelow rfl rfl rfl hdX5_thinkBelow rfl rfl (by decide) (ew_oM hE1 _) rfl rfl rfl rfl dX5_mean_82 (fun r17 u18 h => ?_)
          refine ez_iload (pc := 85) Z dX5_mean_85 5 rfl ?_
          refine ez_callSl (pc := 87) (As := [.long (r15 * ((m14.1 38).toInt64)), .long r17, .int p4]) (st := []) Z (kX5_lowest Z.2.2.2.2.2.2.2.2.2.1 (S := E m14) h) gX5_mean_X5_lowest rfl rfl rfl hdX5_lowest rfl rfl rfl rfl rfl dX5_mean_87 (fun r19 u20 h => ?_)
          exact ez_lret (pc := 90) Z hR m14 h rfl dX5_mean_90
        · replace h := h.2 c12
          refine ez_aload_n (pc := 53) Z dX5_mean_53 1 rfl rfl ?_
          refine ez_iload (pc := 54) Z dX5_mean_54 0 rfl ?_
          refine ez_callVl (pc := 56) (r := 50) (As := [.int r10]) (st := []) Z (kX5_refuseLong Z.2.2.2.2.2.2.2.2.2.1 (E := E) hE1 h) gX5_mean_X5_refuseLong rfl rfl rfl hdX5_refuseLong rfl rfl (by decide) (ew_oM hE1 _) rfl rfl rfl rfl dX5_mean_56 (fun r21 m22 h => ?_)
          exact ez_lret (pc := 59) Z hR m22 h rfl dX5_mean_59
      · replace h := h.2 c9
        refine ez_aload_n (pc := 32) Z dX5_mean_32 0 rfl rfl ?_
        refine ez_bipush (pc := 33) Z dX5_mean_33 eb_m2 ?_
        refine ez_callVl (pc := 35) (r := 50) (As := [.int (-2 : Int32)]) (st := []) Z (kX5_refuseLong Z.2.2.2.2.2.2.2.2.2.1 (E := E) hE1 h) gX5_mean_X5_refuseLong rfl rfl rfl hdX5_refuseLong rfl rfl (by decide) (ew_oM hE1 _) rfl rfl rfl rfl dX5_mean_35 (fun r23 m24 h => ?_)
        exact ez_lret (pc := 38) Z hR m24 h rfl dX5_mean_38
    · replace h := h.2 c6
      refine ez_sub [(0, .ref (X.2.1 50))] [0] rfl ?_
      exact tX5_mean_16 hE1 Z hR  h
theorem inX5_leftOf : ∀ w ∈ wsX50, w ∈ wsX5_leftOf := fun _ h => List.mem_cons_of_mem _ (List.mem_append_right _ (h))
theorem hdX5_leftOf : yX5_leftOf.cls = RX5 ∧ yX5_leftOf.cls ≠ "java/lang/invoke/MethodHandle" ∧ yX5_leftOf.cls ≠ "java/lang/invoke/VarHandle" ∧ (parseMethodDescriptor yX5_leftOf.desc).map (fun d => d.parameters.length) = some 1 := by decide +kernel
def wX5_leftOf (Q : Int32 → Prop) (p1 : Int32) (s1 : ew_M) : Prop := vp_in p1 5 ∧ (vp_in p1 5 ∧ (Q ((s1.2.1 4 p1.toNatClampNeg) &&& ((s1.2.1 8 p1.toNatClampNeg) ^^^ (-1 : Int32))) ))
set_option maxHeartbeats 4000000 in
set_option maxRecDepth 100000 in
theorem kX5_leftOf {X : ew_X} {l : Launch} (hX : ew_Ap X) {E : ew_M → ew_S} (hE1 : ew_GE X 50 (ew_GM X.2.1) E) {Q : Int32 → Prop} {p1 : Int32} {s1 : ew_M} (h : wX5_leftOf Q p1 s1) : Met l yX5_leftOf wsX5_leftOf ({ frames := 0, cells := 0, slots := 0, locals := 0 } : Room) (va_Pc [.ref (X.2.1 50), .int p1] (ew_wd X (E s1))) (va_Qi (fun (r : Int32) (_ : Unit) => Q r) (fun (u : Unit) => ew_wd X ((fun (_ : Unit) => E s1) u)) X.2.2.1) 0 0 X.2.2.1 := by
  refine ew_met (As := [.ref (X.2.1 50), .int p1]) (L0 := [(0, .ref (X.2.1 50)), (1, .int p1)]) X l hX (by decide) rfl rfl rfl rfl (fun C hl Z hR => ?_)
  subst hl
  refine ez_aload_n (pc := 0) Z dX5_leftOf_0 0 rfl rfl ?_
  refine fX5_bound (pc := 1) (M := s1) Z hE1 inX5_leftOf (List.mem_of_getElem? (i := 1) rfl) dX5_leftOf_1 ?_
  refine ez_iload_n (pc := 4) Z dX5_leftOf_4 1 rfl rfl ?_
  refine ez_iald (pc := 5) (n := 5) (a := 4) (v := s1.2.1 4 p1.toNatClampNeg) (M := s1) Z hE1 5 rfl (by decide : 4 < 36) rfl rfl h.1 dX5_leftOf_5 ?_
  replace h := h.2
  refine ez_aload_n (pc := 6) Z dX5_leftOf_6 0 rfl rfl ?_
  refine fX5_read (pc := 7) (M := s1) Z hE1 inX5_leftOf (List.mem_of_getElem? (i := 2) rfl) dX5_leftOf_7 ?_
  refine ez_iload_n (pc := 10) Z dX5_leftOf_10 1 rfl rfl ?_
  refine ez_iald (pc := 11) (n := 5) (a := 8) (v := s1.2.1 8 p1.toNatClampNeg) (M := s1) Z hE1 9 rfl (by decide : 8 < 36) rfl rfl h.1 dX5_leftOf_11 ?_
  replace h := h.2
  refine ez_iconst (pc := 12) Z dX5_leftOf_12 ec_m1 ?_
  refine ez_ixor (pc := 13) Z dX5_leftOf_13 ?_
  refine ez_iand (pc := 14) Z dX5_leftOf_14 ?_
  exact ez_iret (pc := 15) Z hR () h rfl dX5_leftOf_15
theorem inX5_isRest : ∀ w ∈ wsX50, w ∈ wsX5_isRest := fun _ h => List.mem_cons_of_mem _ (List.mem_append_right _ (h))
theorem hdX5_isRest : yX5_isRest.cls = RX5 ∧ yX5_isRest.cls ≠ "java/lang/invoke/MethodHandle" ∧ yX5_isRest.cls ≠ "java/lang/invoke/VarHandle" ∧ (parseMethodDescriptor yX5_isRest.desc).map (fun d => d.parameters.length) = some 2 := by decide +kernel
def wX5_isRest_112 (R30 : Int32 → Prop) (Q : Int32 → Prop) (v1 : Int32) (v2 : Int32) (v3 : Int32) (v4 : Int32) (v5 : Int32) (s1 : ew_M) : Prop := R30 (v5 + (1 : Int32))
def wX5_isRest_106 (R30 : Int32 → Prop) (Q : Int32 → Prop) (v1 : Int32) (v2 : Int32) (v3 : Int32) (v4 : Int32) (v5 : Int32) (t0 : Int64) (t1 : Int64) (s1 : ew_M) : Prop := ((lg_cmp t1 t0) ≤ 0 → wX5_isRest_112 R30 Q v1 v2 v3 v4 v5 s1) ∧ (¬ (lg_cmp t1 t0) ≤ 0 → Q (0 : Int32) )
def wX5_isRest_95 (R30 : Int32 → Prop) (Q : Int32 → Prop) (v1 : Int32) (v2 : Int32) (v3 : Int32) (v4 : Int32) (v5 : Int32) (v7 : Int64) (t0 : Int64) (s1 : ew_M) : Prop := (v4 = 0 → wX5_isRest_106 R30 Q v1 v2 v3 v4 v5 (0 : Int64) t0 s1) ∧ (¬ v4 = 0 → wX5_isRest_106 R30 Q v1 v2 v3 v4 v5 v7 t0 s1)
def wX5_isRest_30 (R30 : Int32 → Prop) (Q : Int32 → Prop) (v1 : Int32) (v2 : Int32) (v3 : Int32) (v4 : Int32) (v5 : Int32) (s1 : ew_M) : Prop := ((s1.1 0) ≤ v5 → Q (1 : Int32) ) ∧ (¬ (s1.1 0) ≤ v5 → wX5_leftOf (fun (r2 : Int32) => (¬ ((r2 >>> (v5 &&& 31)) &&& (1 : Int32)) = (1 : Int32) → wX5_isRest_112 R30 Q v1 v2 v3 v4 v5 s1) ∧ (((r2 >>> (v5 &&& 31)) &&& (1 : Int32)) = (1 : Int32) → wX5_ones (fun (r5 : Int32) => wX5_forceBy (fun (r7 : Int32) => wX5_thinkAbove (fun (r9 : Int64) => (r7 = 0 → wX5_isRest_95 R30 Q v1 v2 v3 v4 v5 r9 (0 : Int64) s1) ∧ (¬ r7 = 0 → wX5_isRest_95 R30 Q v1 v2 v3 v4 v5 r9 r9 s1)) v5 v1 s1) v1 (s1.1 15) (v3 + r5) s1) (v2 ^^^ ((1 : Int32) <<< (v5 &&& 31))))) v1 s1)
def wX5_isRest (Q : Int32 → Prop) (p1 : Int32) (p2 : Int32) (s1 : ew_M) : Prop := vp_in p1 5 ∧ (wX5_ones (fun (r1 : Int32) => wX5_ones (fun (r3 : Int32) => wX5_forceBy (fun (r5 : Int32) => ew_lp (fun (R : Int32 → Prop) (x : Int32) => wX5_isRest_30 R Q p1 p2 r1 r5 x s1) (0 : Int32)) p1 (s1.1 15) (r1 + r3) s1) p2) (s1.2.1 8 p1.toNatClampNeg))
set_option maxHeartbeats 4000000 in
set_option maxRecDepth 100000 in
theorem tX5_isRest_112 {C : ew_C} {X : ew_X} {E : ew_M → ew_S} (hE1 : ew_GE X 50 (ew_GM X.2.1) E) (Z : ew_Z C X cX5_isRest 9 RX5 wsX5_isRest ({ frames := 2, cells := 0, slots := 0, locals := 46 } : Room) (some .boolean)) {Q : Int32 → Prop} {R30 : Int32 → Prop} {v1 : Int32} {v2 : Int32} {v3 : Int32} {v4 : Int32} {v5 : Int32} {s1 : ew_M} (hR : C.2.2.2.2.2.2.2.2.2.2 = MQ C.2.2.2.2.2.2.2.1 (va_Qi (fun (r : Int32) (_ : Unit) => Q r) (fun (u : Unit) => ew_wd X ((fun (_ : Unit) => E s1) u)) X.2.2.1) C.2.2.2.2.2.2.1 C.2.2.2.2.1 0 0 X.2.2.1) (hR30 : ∀ x : Int32, R30 x → ew_W C X 9 (E s1) 30 [(0, .ref (X.2.1 50)), (1, .int v1), (2, .int v2), (3, .int v3), (4, .int v4), (5, .int x)] []) (h : wX5_isRest_112 R30 Q v1 v2 v3 v4 v5 s1) : ew_W C X 9 (E s1) 112 [(0, .ref (X.2.1 50)), (1, .int v1), (2, .int v2), (3, .int v3), (4, .int v4), (5, .int v5)] [] := by
  refine ez_iinc (pc := 112) (L' := [(5, .int (v5 + (1 : Int32))), (0, .ref (X.2.1 50)), (1, .int v1), (2, .int v2), (3, .int v3), (4, .int v4)]) Z dX5_isRest_112 5 rfl (ei_1 _) (by decide) rfl ?_
  refine ez_goto (pc := 115) (tgt := 30) Z dX5_isRest_115 rfl ?_
  refine ez_sub [(0, .ref (X.2.1 50)), (1, .int v1), (2, .int v2), (3, .int v3), (4, .int v4), (5, .int (v5 + (1 : Int32)))] [1, 2, 3, 4, 5, 0] rfl ?_
  exact hR30 _ h
set_option maxHeartbeats 4000000 in
set_option maxRecDepth 100000 in
theorem tX5_isRest_106 {C : ew_C} {X : ew_X} {E : ew_M → ew_S} (hE1 : ew_GE X 50 (ew_GM X.2.1) E) (Z : ew_Z C X cX5_isRest 9 RX5 wsX5_isRest ({ frames := 2, cells := 0, slots := 0, locals := 46 } : Room) (some .boolean)) {Q : Int32 → Prop} {R30 : Int32 → Prop} {v1 : Int32} {v2 : Int32} {v3 : Int32} {v4 : Int32} {v5 : Int32} {t0 : Int64} {t1 : Int64} {s1 : ew_M} (hR : C.2.2.2.2.2.2.2.2.2.2 = MQ C.2.2.2.2.2.2.2.1 (va_Qi (fun (r : Int32) (_ : Unit) => Q r) (fun (u : Unit) => ew_wd X ((fun (_ : Unit) => E s1) u)) X.2.2.1) C.2.2.2.2.2.2.1 C.2.2.2.2.1 0 0 X.2.2.1) (hR30 : ∀ x : Int32, R30 x → ew_W C X 9 (E s1) 30 [(0, .ref (X.2.1 50)), (1, .int v1), (2, .int v2), (3, .int v3), (4, .int v4), (5, .int x)] []) (h : wX5_isRest_106 R30 Q v1 v2 v3 v4 v5 t0 t1 s1) : ew_W C X 9 (E s1) 106 [(0, .ref (X.2.1 50)), (1, .int v1), (2, .int v2), (3, .int v3), (4, .int v4), (5, .int v5)] [.long t0, .long t1] := by
  refine ez_lcmp (pc := 106) Z dX5_isRest_106 ?_
  refine ez_if_le (pc := 107) (tgt := 112) Z dX5_isRest_107 rfl (fun c1 => ?_) (fun c1 => ?_)
  · replace h := h.1 c1
    exact tX5_isRest_112 hE1 Z hR hR30 h
  · replace h := h.2 c1
    refine ez_iconst (pc := 110) Z dX5_isRest_110 ec_0 ?_
    exact ez_zret (pc := 111) Z hR () rfl h rfl dX5_isRest_111
set_option maxHeartbeats 4000000 in
set_option maxRecDepth 100000 in
theorem tX5_isRest_95 {C : ew_C} {X : ew_X} {E : ew_M → ew_S} (hE1 : ew_GE X 50 (ew_GM X.2.1) E) (Z : ew_Z C X cX5_isRest 9 RX5 wsX5_isRest ({ frames := 2, cells := 0, slots := 0, locals := 46 } : Room) (some .boolean)) {Q : Int32 → Prop} {R30 : Int32 → Prop} {v1 : Int32} {v2 : Int32} {v3 : Int32} {v4 : Int32} {v5 : Int32} {v7 : Int64} {t0 : Int64} {s1 : ew_M} (hR : C.2.2.2.2.2.2.2.2.2.2 = MQ C.2.2.2.2.2.2.2.1 (va_Qi (fun (r : Int32) (_ : Unit) => Q r) (fun (u : Unit) => ew_wd X ((fun (_ : Unit) => E s1) u)) X.2.2.1) C.2.2.2.2.2.2.1 C.2.2.2.2.1 0 0 X.2.2.1) (hR30 : ∀ x : Int32, R30 x → ew_W C X 9 (E s1) 30 [(0, .ref (X.2.1 50)), (1, .int v1), (2, .int v2), (3, .int v3), (4, .int v4), (5, .int x)] []) (h : wX5_isRest_95 R30 Q v1 v2 v3 v4 v5 v7 t0 s1) : ew_W C X 9 (E s1) 95 [(0, .ref (X.2.1 50)), (1, .int v1), (2, .int v2), (3, .int v3), (4, .int v4), (5, .int v5), (7, .long v7)] [.long t0] := by
  refine ez_iload (pc := 95) Z dX5_isRest_95 4 rfl ?_
  refine ez_if_eq (pc := 97) (tgt := 105) Z dX5_isRest_97 rfl (fun c1 => ?_) (fun c1 => ?_)
  · replace h := h.1 c1
    refine ez_lconst (pc := 105) Z dX5_isRest_105 el_0 ?_
    refine ez_sub [(0, .ref (X.2.1 50)), (1, .int v1), (2, .int v2), (3, .int v3), (4, .int v4), (5, .int v5)] [0, 1, 2, 3, 4, 5] rfl ?_
    exact tX5_isRest_106 hE1 Z hR hR30 h
  · replace h := h.2 c1
    refine ez_lload (pc := 100) Z dX5_isRest_100 6 rfl ?_
    refine ez_goto (pc := 102) (tgt := 106) Z dX5_isRest_102 rfl ?_
    refine ez_sub [(0, .ref (X.2.1 50)), (1, .int v1), (2, .int v2), (3, .int v3), (4, .int v4), (5, .int v5)] [0, 1, 2, 3, 4, 5] rfl ?_
    exact tX5_isRest_106 hE1 Z hR hR30 h
set_option maxHeartbeats 4000000 in
set_option maxRecDepth 100000 in
theorem tX5_isRest_30 {C : ew_C} {X : ew_X} {E : ew_M → ew_S} (hE1 : ew_GE X 50 (ew_GM X.2.1) E) (Z : ew_Z C X cX5_isRest 9 RX5 wsX5_isRest ({ frames := 2, cells := 0, slots := 0, locals := 46 } : Room) (some .boolean)) {Q : Int32 → Prop} {R30 : Int32 → Prop} {v1 : Int32} {v2 : Int32} {v3 : Int32} {v4 : Int32} {v5 : Int32} {s1 : ew_M} (hR : C.2.2.2.2.2.2.2.2.2.2 = MQ C.2.2.2.2.2.2.2.1 (va_Qi (fun (r : Int32) (_ : Unit) => Q r) (fun (u : Unit) => ew_wd X ((fun (_ : Unit) => E s1) u)) X.2.2.1) C.2.2.2.2.2.2.1 C.2.2.2.2.1 0 0 X.2.2.1) (hR30 : ∀ x : Int32, R30 x → ew_W C X 9 (E s1) 30 [(0, .ref (X.2.1 50)), (1, .int v1), (2, .int v2), (3, .int v3), (4, .int v4), (5, .int x)] []) (h : wX5_isRest_30 R30 Q v1 v2 v3 v4 v5 s1) : ew_W C X 9 (E s1) 30 [(0, .ref (X.2.1 50)), (1, .int v1), (2, .int v2), (3, .int v3), (4, .int v4), (5, .int v5)] [] := by
  refine ez_iload (pc := 30) Z dX5_isRest_30 5 rfl ?_
  refine ez_aload_n (pc := 32) Z dX5_isRest_32 0 rfl rfl ?_
  refine fX5_persons (pc := 33) (v := s1.1 0) Z hE1 rfl inX5_isRest (List.mem_of_getElem? (i := 3) rfl) dX5_isRest_33 ?_
  refine ez_icmp_ge (pc := 36) (tgt := 118) Z dX5_isRest_36 rfl (fun c1 => ?_) (fun c1 => ?_)
  · replace h := h.1 c1
    refine ez_iconst (pc := 118) Z dX5_isRest_118 ec_1 ?_
    exact ez_zret (pc := 119) Z hR () rfl h rfl dX5_isRest_119
  · replace h := h.2 c1
    refine ez_aload_n (pc := 39) Z dX5_isRest_39 0 rfl rfl ?_
    refine ez_iload_n (pc := 40) Z dX5_isRest_40 1 rfl rfl ?_
    refine ez_callVi (pc := 41) (r := 50) (As := [.int v1]) (st := []) Z (kX5_leftOf Z.2.2.2.2.2.2.2.2.2.1 (E := E) hE1 h) gX5_isRest_X5_leftOf rfl rfl rfl hdX5_leftOf rfl rfl (by decide) (ew_oM hE1 _) rfl rfl rfl rfl dX5_isRest_41 (fun r2 u3 h => ?_)
    refine ez_iload (pc := 44) Z dX5_isRest_44 5 rfl ?_
    refine ez_ishr (pc := 46) Z dX5_isRest_46 ?_
    refine ez_iconst (pc := 47) Z dX5_isRest_47 ec_1 ?_
    refine ez_iand (pc := 48) Z dX5_isRest_48 ?_
    refine ez_iconst (pc := 49) Z dX5_isRest_49 ec_1 ?_
    refine ez_icmp_ne (pc := 50) (tgt := 112) Z dX5_isRest_50 rfl (fun c4 => ?_) (fun c4 => ?_)
    · replace h := h.1 c4
      exact tX5_isRest_112 hE1 Z hR hR30 h
    · replace h := h.2 c4
      refine ez_aload_n (pc := 53) Z dX5_isRest_53 0 rfl rfl ?_
      refine ez_iload_n (pc := 54) Z dX5_isRest_54 1 rfl rfl ?_
      refine ez_aload_n (pc := 55) Z dX5_isRest_55 0 rfl rfl ?_
      refine fX5_law (pc := 56) (v := s1.1 15) Z hE1 rfl inX5_isRest (List.mem_of_getElem? (i := 2) rfl) dX5_isRest_56 ?_
      refine ez_iload_n (pc := 59) Z dX5_isRest_59 3 rfl rfl ?_
      refine ez_iload_n (pc := 60) Z dX5_isRest_60 2 rfl rfl ?_
      refine ez_iconst (pc := 61) Z dX5_isRest_61 ec_1 ?_
      refine ez_iload (pc := 62) Z dX5_isRest_62 5 rfl ?_
      refine ez_ishl (pc := 64) Z dX5_isRest_64 ?_
      refine ez_ixor (pc := 65) Z dX5_isRest_65 ?_
      refine ez_callSi (pc := 66) (As := [.int (v2 ^^^ ((1 : Int32) <<< (v5 &&& 31)))]) (st := [.int v3, .int (s1.1 15), .int v1, .ref (X.2.1 50)]) Z (kX5_ones Z.2.2.2.2.2.2.2.2.2.1 (S := E s1) h) gX5_isRest_X5_ones rfl rfl rfl hdX5_ones rfl rfl rfl rfl rfl dX5_isRest_66 (fun r5 u6 h => ?_)
      refine ez_iadd (pc := 69) Z dX5_isRest_69 ?_
      refine ez_callVi (pc := 70) (r := 50) (As := [.int v1, .int (s1.1 15), .int (v3 + r5)]) (st := []) Z (kX5_forceBy Z.2.2.2.2.2.2.2.2.2.1 (E := E) hE1 h) gX5_isRest_X5_forceBy rfl rfl rfl hdX5_forceBy rfl rfl (by decide) (ew_oM hE1 _) rfl rfl rfl rfl dX5_isRest_70 (fun r7 u8 h => ?_)
      refine ez_istore (pc := 73) (L' := [(6, .int r7), (0, .ref (X.2.1 50)), (1, .int v1), (2, .int v2), (3, .int v3), (4, .int v4), (5, .int v5)]) Z dX5_isRest_73 (by decide) rfl ?_
      refine ez_aload_n (pc := 75) Z dX5_isRest_75 1 rfl rfl ?_
      refine ez_iload (pc := 76) Z dX5_isRest_76 6 rfl ?_
      refine ez_iload_n (pc := 78) Z dX5_isRest_78 2 rfl rfl ?_
      refine ez_callVl (pc := 79) (r := 50) (As := [.int v5, .int v1]) (st := []) Z (kX5_thinkAbove Z.2.2.2.2.2.2.2.2.2.1 (E := E) hE1 h) gX5_isRest_X5_thinkAbove rfl rfl rfl hdX5_thinkAbove rfl rfl (by decide) (ew_oM hE1 _) rfl rfl rfl rfl dX5_isRest_79 (fun r9 u10 h => ?_)
      refine ez_lstore (pc := 82) (L' := [(7, .long r9), (6, .int r7), (0, .ref (X.2.1 50)), (1, .int v1), (2, .int v2), (3, .int v3), (4, .int v4), (5, .int v5)]) Z dX5_isRest_82 (by decide) rfl ?_
      refine ez_iload (pc := 84) Z dX5_isRest_84 1 rfl ?_
      refine ez_if_eq (pc := 86) (tgt := 94) Z dX5_isRest_86 rfl (fun c11 => ?_) (fun c11 => ?_)
      · replace h := h.1 c11
        refine ez_lconst (pc := 94) Z dX5_isRest_94 el_0 ?_
        refine ez_sub [(0, .ref (X.2.1 50)), (1, .int v1), (2, .int v2), (3, .int v3), (4, .int v4), (5, .int v5), (7, .long r9)] [2, 3, 4, 5, 6, 7, 0] rfl ?_
        exact tX5_isRest_95 hE1 Z hR hR30 h
      · replace h := h.2 c11
        refine ez_lload (pc := 89) Z dX5_isRest_89 0 rfl ?_
        refine ez_goto (pc := 91) (tgt := 95) Z dX5_isRest_91 rfl ?_
        refine ez_sub [(0, .ref (X.2.1 50)), (1, .int v1), (2, .int v2), (3, .int v3), (4, .int v4), (5, .int v5), (7, .long r9)] [2, 3, 4, 5, 6, 7, 0] rfl ?_
        exact tX5_isRest_95 hE1 Z hR hR30 h
set_option maxHeartbeats 4000000 in
set_option maxRecDepth 100000 in
theorem kX5_isRest {X : ew_X} {l : Launch} (hX : ew_Ap X) {E : ew_M → ew_S} (hE1 : ew_GE X 50 (ew_GM X.2.1) E) {Q : Int32 → Prop} {p1 : Int32} {p2 : Int32} {s1 : ew_M} (h : wX5_isRest Q p1 p2 s1) : Met l yX5_isRest wsX5_isRest ({ frames := 2, cells := 0, slots := 0, locals := 46 } : Room) (va_Pc [.ref (X.2.1 50), .int p1, .int p2] (ew_wd X (E s1))) (va_Qi (fun (r : Int32) (_ : Unit) => Q r) (fun (u : Unit) => ew_wd X ((fun (_ : Unit) => E s1) u)) X.2.2.1) 0 0 X.2.2.1 := by
  refine ew_met (As := [.ref (X.2.1 50), .int p1, .int p2]) (L0 := [(0, .ref (X.2.1 50)), (1, .int p1), (2, .int p2)]) X l hX (by decide) rfl rfl rfl rfl (fun C hl Z hR => ?_)
  subst hl
  refine ez_aload_n (pc := 0) Z dX5_isRest_0 0 rfl rfl ?_
  refine fX5_read (pc := 1) (M := s1) Z hE1 inX5_isRest (List.mem_of_getElem? (i := 1) rfl) dX5_isRest_1 ?_
  refine ez_iload_n (pc := 4) Z dX5_isRest_4 1 rfl rfl ?_
  refine ez_iald (pc := 5) (n := 5) (a := 8) (v := s1.2.1 8 p1.toNatClampNeg) (M := s1) Z hE1 9 rfl (by decide : 8 < 36) rfl rfl h.1 dX5_isRest_5 ?_
  replace h := h.2
  refine ez_callSi (pc := 6) (As := [.int (s1.2.1 8 p1.toNatClampNeg)]) (st := []) Z (kX5_ones Z.2.2.2.2.2.2.2.2.2.1 (S := E s1) h) gX5_isRest_X5_ones rfl rfl rfl hdX5_ones rfl rfl rfl rfl rfl dX5_isRest_6 (fun r1 u2 h => ?_)
  refine ez_istore_n (pc := 9) (L' := [(3, .int r1), (0, .ref (X.2.1 50)), (1, .int p1), (2, .int p2)]) Z dX5_isRest_9 rfl (by decide) rfl ?_
  refine ez_aload_n (pc := 10) Z dX5_isRest_10 1 rfl rfl ?_
  refine ez_iload_n (pc := 11) Z dX5_isRest_11 2 rfl rfl ?_
  refine ez_aload_n (pc := 12) Z dX5_isRest_12 1 rfl rfl ?_
  refine fX5_law (pc := 13) (v := s1.1 15) Z hE1 rfl inX5_isRest (List.mem_of_getElem? (i := 2) rfl) dX5_isRest_13 ?_
  refine ez_iload_n (pc := 16) Z dX5_isRest_16 0 rfl rfl ?_
  refine ez_iload_n (pc := 17) Z dX5_isRest_17 3 rfl rfl ?_
  refine ez_callSi (pc := 18) (As := [.int p2]) (st := [.int r1, .int (s1.1 15), .int p1, .ref (X.2.1 50)]) Z (kX5_ones Z.2.2.2.2.2.2.2.2.2.1 (S := E s1) h) gX5_isRest_X5_ones rfl rfl rfl hdX5_ones rfl rfl rfl rfl rfl dX5_isRest_18 (fun r3 u4 h => ?_)
  refine ez_iadd (pc := 21) Z dX5_isRest_21 ?_
  refine ez_callVi (pc := 22) (r := 50) (As := [.int p1, .int (s1.1 15), .int (r1 + r3)]) (st := []) Z (kX5_forceBy Z.2.2.2.2.2.2.2.2.2.1 (E := E) hE1 h) gX5_isRest_X5_forceBy rfl rfl rfl hdX5_forceBy rfl rfl (by decide) (ew_oM hE1 _) rfl rfl rfl rfl dX5_isRest_22 (fun r5 u6 h => ?_)
  refine ez_istore (pc := 25) (L' := [(4, .int r5), (3, .int r1), (0, .ref (X.2.1 50)), (1, .int p1), (2, .int p2)]) Z dX5_isRest_25 (by decide) rfl ?_
  refine ez_iconst (pc := 27) Z dX5_isRest_27 ec_0 ?_
  refine ez_istore (pc := 28) (L' := [(5, .int (0 : Int32)), (4, .int r5), (3, .int r1), (0, .ref (X.2.1 50)), (1, .int p1), (2, .int p2)]) Z dX5_isRest_28 (by decide) rfl ?_
  refine ez_sub [(0, .ref (X.2.1 50)), (1, .int p1), (2, .int p2), (3, .int r1), (4, .int r5), (5, .int (0 : Int32))] [3, 4, 5, 2, 1, 0] rfl ?_
  exact ew_ind (P := fun (x : Int32) => ew_W C X 9 (E s1) 30 [(0, .ref (X.2.1 50)), (1, .int p1), (2, .int p2), (3, .int r1), (4, .int r5), (5, .int x)] []) (fun R hR9 x h => tX5_isRest_30 hE1 Z hR  hR9 h) h
theorem inX5_rests : ∀ w ∈ wsX50, w ∈ wsX5_rests := fun _ h => List.mem_cons_of_mem _ (List.mem_append_right _ (h))
theorem hdX5_rests : yX5_rests.cls = RX5 ∧ yX5_rests.cls ≠ "java/lang/invoke/MethodHandle" ∧ yX5_rests.cls ≠ "java/lang/invoke/VarHandle" ∧ (parseMethodDescriptor yX5_rests.desc).map (fun d => d.parameters.length) = some 1 := by decide +kernel
def wX5_rests_51 (R18 : Int32 × Int32 → Prop) (Q : Int32 → ew_M → Prop) (v1 : Int32) (v3 : Int32) (t0 : Int32) (t1 : Int32) (s1 : ew_M) : Prop := R18 (t1 + t0, v3 + (1 : Int32))
def wX5_rests_50 (R18 : Int32 × Int32 → Prop) (Q : Int32 → ew_M → Prop) (v1 : Int32) (v3 : Int32) (t0 : Int32) (s1 : ew_M) : Prop := wX5_rests_51 R18 Q v1 v3 (0 : Int32) t0 s1
def wX5_rests_18 (R18 : Int32 × Int32 → Prop) (Q : Int32 → ew_M → Prop) (v1 : Int32) (v2 : Int32) (v3 : Int32) (s1 : ew_M) : Prop := ((64 : Int32) ≤ v3 → Q v2 s1) ∧ (¬ (64 : Int32) ≤ v3 → wX5_leftOf (fun (r2 : Int32) => (¬ (v3 &&& (r2 ^^^ (-1 : Int32))) = 0 → wX5_rests_50 R18 Q v1 v3 v2 s1) ∧ ((v3 &&& (r2 ^^^ (-1 : Int32))) = 0 → wX5_isRest (fun (r5 : Int32) => (r5 = 0 → wX5_rests_50 R18 Q v1 v3 v2 s1) ∧ (¬ r5 = 0 → wX5_rests_51 R18 Q v1 v3 (1 : Int32) v2 s1)) v1 v3 s1)) v1 s1)
def wX5_rests (Q : Int32 → ew_M → Prop) (p1 : Int32) (s1 : ew_M) : Prop := wX5_isPaper (fun (r1 : Int32) => (¬ r1 = 0 → ew_lp (fun (R : Int32 × Int32 → Prop) (x : Int32 × Int32) => wX5_rests_18 R Q p1 x.1 x.2 s1) ((0 : Int32), (0 : Int32))) ∧ (r1 = 0 → wX5_refuse (fun (r4 : Int32) (m5 : ew_M) => Q r4 m5) (-1 : Int32) s1)) p1 s1
set_option maxHeartbeats 4000000 in
set_option maxRecDepth 100000 in
theorem tX5_rests_51 {C : ew_C} {X : ew_X} {E : ew_M → ew_S} (hE1 : ew_GE X 50 (ew_GM X.2.1) E) (Z : ew_Z C X cX5_rests 4 RX5 wsX5_rests ({ frames := 3, cells := 0, slots := 0, locals := 74 } : Room) (some .int)) {Q : Int32 → ew_M → Prop} {R18 : Int32 × Int32 → Prop} {v1 : Int32} {v3 : Int32} {t0 : Int32} {t1 : Int32} {s1 : ew_M} (hR : C.2.2.2.2.2.2.2.2.2.2 = MQ C.2.2.2.2.2.2.2.1 (va_Qi (fun (r : Int32) (u : ew_M) => Q r u) (fun (u : ew_M) => ew_wd X ((fun (u : ew_M) => E u) u)) X.2.2.1) C.2.2.2.2.2.2.1 C.2.2.2.2.1 0 0 X.2.2.1) (hR18 : ∀ x : Int32 × Int32, R18 x → ew_W C X 4 (E s1) 18 [(0, .ref (X.2.1 50)), (1, .int v1), (2, .int x.1), (3, .int x.2)] []) (h : wX5_rests_51 R18 Q v1 v3 t0 t1 s1) : ew_W C X 4 (E s1) 51 [(0, .ref (X.2.1 50)), (1, .int v1), (3, .int v3)] [.int t0, .int t1] := by
  refine ez_iadd (pc := 51) Z dX5_rests_51 ?_
  refine ez_istore_n (pc := 52) (L' := [(2, .int (t1 + t0)), (0, .ref (X.2.1 50)), (1, .int v1), (3, .int v3)]) Z dX5_rests_52 rfl (by decide) rfl ?_
  refine ez_iinc (pc := 53) (L' := [(3, .int (v3 + (1 : Int32))), (2, .int (t1 + t0)), (0, .ref (X.2.1 50)), (1, .int v1)]) Z dX5_rests_53 3 rfl (ei_1 _) (by decide) rfl ?_
  refine ez_goto (pc := 56) (tgt := 18) Z dX5_rests_56 rfl ?_
  refine ez_sub [(0, .ref (X.2.1 50)), (1, .int v1), (2, .int (t1 + t0)), (3, .int (v3 + (1 : Int32)))] [2, 3, 1, 0] rfl ?_
  exact hR18 _ h
set_option maxHeartbeats 4000000 in
set_option maxRecDepth 100000 in
theorem tX5_rests_50 {C : ew_C} {X : ew_X} {E : ew_M → ew_S} (hE1 : ew_GE X 50 (ew_GM X.2.1) E) (Z : ew_Z C X cX5_rests 4 RX5 wsX5_rests ({ frames := 3, cells := 0, slots := 0, locals := 74 } : Room) (some .int)) {Q : Int32 → ew_M → Prop} {R18 : Int32 × Int32 → Prop} {v1 : Int32} {v3 : Int32} {t0 : Int32} {s1 : ew_M} (hR : C.2.2.2.2.2.2.2.2.2.2 = MQ C.2.2.2.2.2.2.2.1 (va_Qi (fun (r : Int32) (u : ew_M) => Q r u) (fun (u : ew_M) => ew_wd X ((fun (u : ew_M) => E u) u)) X.2.2.1) C.2.2.2.2.2.2.1 C.2.2.2.2.1 0 0 X.2.2.1) (hR18 : ∀ x : Int32 × Int32, R18 x → ew_W C X 4 (E s1) 18 [(0, .ref (X.2.1 50)), (1, .int v1), (2, .int x.1), (3, .int x.2)] []) (h : wX5_rests_50 R18 Q v1 v3 t0 s1) : ew_W C X 4 (E s1) 50 [(0, .ref (X.2.1 50)), (1, .int v1), (3, .int v3)] [.int t0] := by
  refine ez_iconst (pc := 50) Z dX5_rests_50 ec_0 ?_
  exact tX5_rests_51 hE1 Z hR hR18 h
set_option maxHeartbeats 4000000 in
set_option maxRecDepth 100000 in
theorem tX5_rests_18 {C : ew_C} {X : ew_X} {E : ew_M → ew_S} (hE1 : ew_GE X 50 (ew_GM X.2.1) E) (Z : ew_Z C X cX5_rests 4 RX5 wsX5_rests ({ frames := 3, cells := 0, slots := 0, locals := 74 } : Room) (some .int)) {Q : Int32 → ew_M → Prop} {R18 : Int32 × Int32 → Prop} {v1 : Int32} {v2 : Int32} {v3 : Int32} {s1 : ew_M} (hR : C.2.2.2.2.2.2.2.2.2.2 = MQ C.2.2.2.2.2.2.2.1 (va_Qi (fun (r : Int32) (u : ew_M) => Q r u) (fun (u : ew_M) => ew_wd X ((fun (u : ew_M) => E u) u)) X.2.2.1) C.2.2.2.2.2.2.1 C.2.2.2.2.1 0 0 X.2.2.1) (hR18 : ∀ x : Int32 × Int32, R18 x → ew_W C X 4 (E s1) 18 [(0, .ref (X.2.1 50)), (1, .int v1), (2, .int x.1), (3, .int x.2)] []) (h : wX5_rests_18 R18 Q v1 v2 v3 s1) : ew_W C X 4 (E s1) 18 [(0, .ref (X.2.1 50)), (1, .int v1), (2, .int v2), (3, .int v3)] [] := by
  refine ez_iload_n (pc := 18) Z dX5_rests_18 3 rfl rfl ?_
  refine ez_bipush (pc := 19) Z dX5_rests_19 eb_64 ?_
  refine ez_icmp_ge (pc := 21) (tgt := 59) Z dX5_rests_21 rfl (fun c1 => ?_) (fun c1 => ?_)
  · replace h := h.1 c1
    refine ez_iload_n (pc := 59) Z dX5_rests_59 2 rfl rfl ?_
    exact ez_iret (pc := 60) Z hR s1 h rfl dX5_rests_60
  · replace h := h.2 c1
    refine ez_iload_n (pc := 24) Z dX5_rests_24 2 rfl rfl ?_
    refine ez_iload_n (pc := 25) Z dX5_rests_25 3 rfl rfl ?_
    refine ez_aload_n (pc := 26) Z dX5_rests_26 0 rfl rfl ?_
    refine ez_iload_n (pc := 27) Z dX5_rests_27 1 rfl rfl ?_
    refine ez_callVi (pc := 28) (r := 50) (As := [.int v1]) (st := [.int v3, .int v2]) Z (kX5_leftOf Z.2.2.2.2.2.2.2.2.2.1 (E := E) hE1 h) gX5_rests_X5_leftOf rfl rfl rfl hdX5_leftOf rfl rfl (by decide) (ew_oM hE1 _) rfl rfl rfl rfl dX5_rests_28 (fun r2 u3 h => ?_)
    refine ez_iconst (pc := 31) Z dX5_rests_31 ec_m1 ?_
    refine ez_ixor (pc := 32) Z dX5_rests_32 ?_
    refine ez_iand (pc := 33) Z dX5_rests_33 ?_
    refine ez_if_ne (pc := 34) (tgt := 50) Z dX5_rests_34 rfl (fun c4 => ?_) (fun c4 => ?_)
    · replace h := h.1 c4
      refine ez_sub [(0, .ref (X.2.1 50)), (1, .int v1), (3, .int v3)] [0, 1, 3] rfl ?_
      exact tX5_rests_50 hE1 Z hR hR18 h
    · replace h := h.2 c4
      refine ez_aload_n (pc := 37) Z dX5_rests_37 0 rfl rfl ?_
      refine ez_iload_n (pc := 38) Z dX5_rests_38 1 rfl rfl ?_
      refine ez_iload_n (pc := 39) Z dX5_rests_39 3 rfl rfl ?_
      refine ez_callVi (pc := 40) (r := 50) (As := [.int v1, .int v3]) (st := [.int v2]) Z (kX5_isRest Z.2.2.2.2.2.2.2.2.2.1 (E := E) hE1 h) gX5_rests_X5_isRest rfl rfl rfl hdX5_isRest rfl rfl (by decide) (ew_oM hE1 _) rfl rfl rfl rfl dX5_rests_40 (fun r5 u6 h => ?_)
      refine ez_if_eq (pc := 43) (tgt := 50) Z dX5_rests_43 rfl (fun c7 => ?_) (fun c7 => ?_)
      · replace h := h.1 c7
        refine ez_sub [(0, .ref (X.2.1 50)), (1, .int v1), (3, .int v3)] [0, 1, 3] rfl ?_
        exact tX5_rests_50 hE1 Z hR hR18 h
      · replace h := h.2 c7
        refine ez_iconst (pc := 46) Z dX5_rests_46 ec_1 ?_
        refine ez_goto (pc := 47) (tgt := 51) Z dX5_rests_47 rfl ?_
        refine ez_sub [(0, .ref (X.2.1 50)), (1, .int v1), (3, .int v3)] [0, 1, 3] rfl ?_
        exact tX5_rests_51 hE1 Z hR hR18 h
set_option maxHeartbeats 4000000 in
set_option maxRecDepth 100000 in
theorem kX5_rests {X : ew_X} {l : Launch} (hX : ew_Ap X) {E : ew_M → ew_S} (hE1 : ew_GE X 50 (ew_GM X.2.1) E) {Q : Int32 → ew_M → Prop} {p1 : Int32} {s1 : ew_M} (h : wX5_rests Q p1 s1) : Met l yX5_rests wsX5_rests ({ frames := 3, cells := 0, slots := 0, locals := 74 } : Room) (va_Pc [.ref (X.2.1 50), .int p1] (ew_wd X (E s1))) (va_Qi (fun (r : Int32) (u : ew_M) => Q r u) (fun (u : ew_M) => ew_wd X ((fun (u : ew_M) => E u) u)) X.2.2.1) 0 0 X.2.2.1 := by
  refine ew_met (As := [.ref (X.2.1 50), .int p1]) (L0 := [(0, .ref (X.2.1 50)), (1, .int p1)]) X l hX (by decide) rfl rfl rfl rfl (fun C hl Z hR => ?_)
  subst hl
  refine ez_aload_n (pc := 0) Z dX5_rests_0 0 rfl rfl ?_
  refine ez_iload_n (pc := 1) Z dX5_rests_1 1 rfl rfl ?_
  refine ez_callVi (pc := 2) (r := 50) (As := [.int p1]) (st := []) Z (kX5_isPaper Z.2.2.2.2.2.2.2.2.2.1 (E := E) hE1 h) gX5_rests_X5_isPaper rfl rfl rfl hdX5_isPaper rfl rfl (by decide) (ew_oM hE1 _) rfl rfl rfl rfl dX5_rests_2 (fun r1 u2 h => ?_)
  refine ez_if_ne (pc := 5) (tgt := 14) Z dX5_rests_5 rfl (fun c3 => ?_) (fun c3 => ?_)
  · replace h := h.1 c3
    refine ez_iconst (pc := 14) Z dX5_rests_14 ec_0 ?_
    refine ez_istore_n (pc := 15) (L' := [(2, .int (0 : Int32)), (0, .ref (X.2.1 50)), (1, .int p1)]) Z dX5_rests_15 rfl (by decide) rfl ?_
    refine ez_iconst (pc := 16) Z dX5_rests_16 ec_0 ?_
    refine ez_istore_n (pc := 17) (L' := [(3, .int (0 : Int32)), (2, .int (0 : Int32)), (0, .ref (X.2.1 50)), (1, .int p1)]) Z dX5_rests_17 rfl (by decide) rfl ?_
    refine ez_sub [(0, .ref (X.2.1 50)), (1, .int p1), (2, .int (0 : Int32)), (3, .int (0 : Int32))] [2, 3, 1, 0] rfl ?_
    exact ew_ind (P := fun (x : Int32 × Int32) => ew_W C X 4 (E s1) 18 [(0, .ref (X.2.1 50)), (1, .int p1), (2, .int x.1), (3, .int x.2)] []) (fun R hR9 x h => tX5_rests_18 hE1 Z hR  hR9 h) h
  · replace h := h.2 c3
    refine ez_aload_n (pc := 8) Z dX5_rests_8 0 rfl rfl ?_
    refine ez_iconst (pc := 9) Z dX5_rests_9 ec_m1 ?_
    refine ez_callVi (pc := 10) (r := 50) (As := [.int (-1 : Int32)]) (st := []) Z (kX5_refuse Z.2.2.2.2.2.2.2.2.2.1 (E := E) hE1 h) gX5_rests_X5_refuse rfl rfl rfl hdX5_refuse rfl rfl (by decide) (ew_oM hE1 _) rfl rfl rfl rfl dX5_rests_10 (fun r4 m5 h => ?_)
    exact ez_iret (pc := 13) Z hR m5 h rfl dX5_rests_13
theorem inX5_rest : ∀ w ∈ wsX50, w ∈ wsX5_rest := fun _ h => List.mem_cons_of_mem _ (List.mem_append_right _ (h))
theorem hdX5_rest : yX5_rest.cls = RX5 ∧ yX5_rest.cls ≠ "java/lang/invoke/MethodHandle" ∧ yX5_rest.cls ≠ "java/lang/invoke/VarHandle" ∧ (parseMethodDescriptor yX5_rest.desc).map (fun d => d.parameters.length) = some 1 := by decide +kernel
def wX5_rest_45 (R16 : Int32 → Prop) (Q : Int32 → ew_M → Prop) (v1 : Int32) (v2 : Int32) (s1 : ew_M) : Prop := R16 (v2 + (1 : Int32))
def wX5_rest_16 (R16 : Int32 → Prop) (Q : Int32 → ew_M → Prop) (v1 : Int32) (v2 : Int32) (s1 : ew_M) : Prop := ((64 : Int32) ≤ v2 → Q (-9 : Int32) s1) ∧ (¬ (64 : Int32) ≤ v2 → wX5_leftOf (fun (r2 : Int32) => (¬ (v2 &&& (r2 ^^^ (-1 : Int32))) = 0 → wX5_rest_45 R16 Q v1 v2 s1) ∧ ((v2 &&& (r2 ^^^ (-1 : Int32))) = 0 → wX5_isRest (fun (r5 : Int32) => (r5 = 0 → wX5_rest_45 R16 Q v1 v2 s1) ∧ (¬ r5 = 0 → Q v2 s1)) v1 v2 s1)) v1 s1)
def wX5_rest (Q : Int32 → ew_M → Prop) (p1 : Int32) (s1 : ew_M) : Prop := wX5_isPaper (fun (r1 : Int32) => (¬ r1 = 0 → ew_lp (fun (R : Int32 → Prop) (x : Int32) => wX5_rest_16 R Q p1 x s1) (0 : Int32)) ∧ (r1 = 0 → wX5_refuse (fun (r4 : Int32) (m5 : ew_M) => Q r4 m5) (-1 : Int32) s1)) p1 s1
set_option maxHeartbeats 4000000 in
set_option maxRecDepth 100000 in
theorem tX5_rest_45 {C : ew_C} {X : ew_X} {E : ew_M → ew_S} (hE1 : ew_GE X 50 (ew_GM X.2.1) E) (Z : ew_Z C X cX5_rest 3 RX5 wsX5_rest ({ frames := 3, cells := 0, slots := 0, locals := 74 } : Room) (some .int)) {Q : Int32 → ew_M → Prop} {R16 : Int32 → Prop} {v1 : Int32} {v2 : Int32} {s1 : ew_M} (hR : C.2.2.2.2.2.2.2.2.2.2 = MQ C.2.2.2.2.2.2.2.1 (va_Qi (fun (r : Int32) (u : ew_M) => Q r u) (fun (u : ew_M) => ew_wd X ((fun (u : ew_M) => E u) u)) X.2.2.1) C.2.2.2.2.2.2.1 C.2.2.2.2.1 0 0 X.2.2.1) (hR16 : ∀ x : Int32, R16 x → ew_W C X 3 (E s1) 16 [(0, .ref (X.2.1 50)), (1, .int v1), (2, .int x)] []) (h : wX5_rest_45 R16 Q v1 v2 s1) : ew_W C X 3 (E s1) 45 [(0, .ref (X.2.1 50)), (1, .int v1), (2, .int v2)] [] := by
  refine ez_iinc (pc := 45) (L' := [(2, .int (v2 + (1 : Int32))), (0, .ref (X.2.1 50)), (1, .int v1)]) Z dX5_rest_45 2 rfl (ei_1 _) (by decide) rfl ?_
  refine ez_goto (pc := 48) (tgt := 16) Z dX5_rest_48 rfl ?_
  refine ez_sub [(0, .ref (X.2.1 50)), (1, .int v1), (2, .int (v2 + (1 : Int32)))] [1, 2, 0] rfl ?_
  exact hR16 _ h
set_option maxHeartbeats 4000000 in
set_option maxRecDepth 100000 in
theorem tX5_rest_16 {C : ew_C} {X : ew_X} {E : ew_M → ew_S} (hE1 : ew_GE X 50 (ew_GM X.2.1) E) (Z : ew_Z C X cX5_rest 3 RX5 wsX5_rest ({ frames := 3, cells := 0, slots := 0, locals := 74 } : Room) (some .int)) {Q : Int32 → ew_M → Prop} {R16 : Int32 → Prop} {v1 : Int32} {v2 : Int32} {s1 : ew_M} (hR : C.2.2.2.2.2.2.2.2.2.2 = MQ C.2.2.2.2.2.2.2.1 (va_Qi (fun (r : Int32) (u : ew_M) => Q r u) (fun (u : ew_M) => ew_wd X ((fun (u : ew_M) => E u) u)) X.2.2.1) C.2.2.2.2.2.2.1 C.2.2.2.2.1 0 0 X.2.2.1) (hR16 : ∀ x : Int32, R16 x → ew_W C X 3 (E s1) 16 [(0, .ref (X.2.1 50)), (1, .int v1), (2, .int x)] []) (h : wX5_rest_16 R16 Q v1 v2 s1) : ew_W C X 3 (E s1) 16 [(0, .ref (X.2.1 50)), (1, .int v1), (2, .int v2)] [] := by
  refine ez_iload_n (pc := 16) Z dX5_rest_16 2 rfl rfl ?_
  refine ez_bipush (pc := 17) Z dX5_rest_17 eb_64 ?_
  refine ez_icmp_ge (pc := 19) (tgt := 51) Z dX5_rest_19 rfl (fun c1 => ?_) (fun c1 => ?_)
  · replace h := h.1 c1
    refine ez_bipush (pc := 51) Z dX5_rest_51 eb_m9 ?_
    exact ez_iret (pc := 53) Z hR s1 h rfl dX5_rest_53
  · replace h := h.2 c1
    refine ez_iload_n (pc := 22) Z dX5_rest_22 2 rfl rfl ?_
    refine ez_aload_n (pc := 23) Z dX5_rest_23 0 rfl rfl ?_
    refine ez_iload_n (pc := 24) Z dX5_rest_24 1 rfl rfl ?_
    refine ez_callVi (pc := 25) (r := 50) (As := [.int v1]) (st := [.int v2]) Z (kX5_leftOf Z.2.2.2.2.2.2.2.2.2.1 (E := E) hE1 h) gX5_rest_X5_leftOf rfl rfl rfl hdX5_leftOf rfl rfl (by decide) (ew_oM hE1 _) rfl rfl rfl rfl dX5_rest_25 (fun r2 u3 h => ?_)
    refine ez_iconst (pc := 28) Z dX5_rest_28 ec_m1 ?_
    refine ez_ixor (pc := 29) Z dX5_rest_29 ?_
    refine ez_iand (pc := 30) Z dX5_rest_30 ?_
    refine ez_if_ne (pc := 31) (tgt := 45) Z dX5_rest_31 rfl (fun c4 => ?_) (fun c4 => ?_)
    · replace h := h.1 c4
      exact tX5_rest_45 hE1 Z hR hR16 h
    · replace h := h.2 c4
      refine ez_aload_n (pc := 34) Z dX5_rest_34 0 rfl rfl ?_
      refine ez_iload_n (pc := 35) Z dX5_rest_35 1 rfl rfl ?_
      refine ez_iload_n (pc := 36) Z dX5_rest_36 2 rfl rfl ?_
      refine ez_callVi (pc := 37) (r := 50) (As := [.int v1, .int v2]) (st := []) Z (kX5_isRest Z.2.2.2.2.2.2.2.2.2.1 (E := E) hE1 h) gX5_rest_X5_isRest rfl rfl rfl hdX5_isRest rfl rfl (by decide) (ew_oM hE1 _) rfl rfl rfl rfl dX5_rest_37 (fun r5 u6 h => ?_)
      refine ez_if_eq (pc := 40) (tgt := 45) Z dX5_rest_40 rfl (fun c7 => ?_) (fun c7 => ?_)
      · replace h := h.1 c7
        exact tX5_rest_45 hE1 Z hR hR16 h
      · replace h := h.2 c7
        refine ez_iload_n (pc := 43) Z dX5_rest_43 2 rfl rfl ?_
        exact ez_iret (pc := 44) Z hR s1 h rfl dX5_rest_44
set_option maxHeartbeats 4000000 in
set_option maxRecDepth 100000 in
theorem kX5_rest {X : ew_X} {l : Launch} (hX : ew_Ap X) {E : ew_M → ew_S} (hE1 : ew_GE X 50 (ew_GM X.2.1) E) {Q : Int32 → ew_M → Prop} {p1 : Int32} {s1 : ew_M} (h : wX5_rest Q p1 s1) : Met l yX5_rest wsX5_rest ({ frames := 3, cells := 0, slots := 0, locals := 74 } : Room) (va_Pc [.ref (X.2.1 50), .int p1] (ew_wd X (E s1))) (va_Qi (fun (r : Int32) (u : ew_M) => Q r u) (fun (u : ew_M) => ew_wd X ((fun (u : ew_M) => E u) u)) X.2.2.1) 0 0 X.2.2.1 := by
  refine ew_met (As := [.ref (X.2.1 50), .int p1]) (L0 := [(0, .ref (X.2.1 50)), (1, .int p1)]) X l hX (by decide) rfl rfl rfl rfl (fun C hl Z hR => ?_)
  subst hl
  refine ez_aload_n (pc := 0) Z dX5_rest_0 0 rfl rfl ?_
  refine ez_iload_n (pc := 1) Z dX5_rest_1 1 rfl rfl ?_
  refine ez_callVi (pc := 2) (r := 50) (As := [.int p1]) (st := []) Z (kX5_isPaper Z.2.2.2.2.2.2.2.2.2.1 (E := E) hE1 h) gX5_rest_X5_isPaper rfl rfl rfl hdX5_isPaper rfl rfl (by decide) (ew_oM hE1 _) rfl rfl rfl rfl dX5_rest_2 (fun r1 u2 h => ?_)
  refine ez_if_ne (pc := 5) (tgt := 14) Z dX5_rest_5 rfl (fun c3 => ?_) (fun c3 => ?_)
  · replace h := h.1 c3
    refine ez_iconst (pc := 14) Z dX5_rest_14 ec_0 ?_
    refine ez_istore_n (pc := 15) (L' := [(2, .int (0 : Int32)), (0, .ref (X.2.1 50)), (1, .int p1)]) Z dX5_rest_15 rfl (by decide) rfl ?_
    refine ez_sub [(0, .ref (X.2.1 50)), (1, .int p1), (2, .int (0 : Int32))] [1, 2, 0] rfl ?_
    exact ew_ind (P := fun (x : Int32) => ew_W C X 3 (E s1) 16 [(0, .ref (X.2.1 50)), (1, .int p1), (2, .int x)] []) (fun R hR9 x h => tX5_rest_16 hE1 Z hR  hR9 h) h
  · replace h := h.2 c3
    refine ez_aload_n (pc := 8) Z dX5_rest_8 0 rfl rfl ?_
    refine ez_iconst (pc := 9) Z dX5_rest_9 ec_m1 ?_
    refine ez_callVi (pc := 10) (r := 50) (As := [.int (-1 : Int32)]) (st := []) Z (kX5_refuse Z.2.2.2.2.2.2.2.2.2.1 (E := E) hE1 h) gX5_rest_X5_refuse rfl rfl rfl hdX5_refuse rfl rfl (by decide) (ew_oM hE1 _) rfl rfl rfl rfl dX5_rest_10 (fun r4 m5 h => ?_)
    exact ez_iret (pc := 13) Z hR m5 h rfl dX5_rest_13
theorem inX5_endsOf : ∀ w ∈ wsX50, w ∈ wsX5_endsOf := fun _ h => List.mem_cons_of_mem _ (List.mem_append_right _ (h))
theorem hdX5_endsOf : yX5_endsOf.cls = RX5 ∧ yX5_endsOf.cls ≠ "java/lang/invoke/MethodHandle" ∧ yX5_endsOf.cls ≠ "java/lang/invoke/VarHandle" ∧ (parseMethodDescriptor yX5_endsOf.desc).map (fun d => d.parameters.length) = some 1 := by decide +kernel
def wX5_endsOf_36  (Q : Int32 → Prop) (v1 : Int32) (t0 : Int32) (s1 : ew_M) : Prop := (t0 = 0 → Q (0 : Int32) ) ∧ (¬ t0 = 0 → wX5_leftOf (fun (r2 : Int32) => Q r2 ) v1 s1)
def wX5_endsOf_35  (Q : Int32 → Prop) (v1 : Int32) (s1 : ew_M) : Prop := wX5_endsOf_36 Q v1 (0 : Int32) s1
def wX5_endsOf (Q : Int32 → Prop) (p1 : Int32) (s1 : ew_M) : Prop := wX5_isForce (fun (r1 : Int32) => (r1 = 0 → wX5_endsOf_35 Q p1 s1) ∧ (¬ r1 = 0 → vp_in p1 5 ∧ (wX5_ones (fun (r4 : Int32) => wX5_forceBy (fun (r6 : Int32) => (¬ r6 = 0 → wX5_endsOf_35 Q p1 s1) ∧ (r6 = 0 → wX5_endsOf_36 Q p1 (1 : Int32) s1)) p1 (s1.1 15) (r4 + (1 : Int32)) s1) (s1.2.1 8 p1.toNatClampNeg)))) p1 s1
set_option maxHeartbeats 4000000 in
set_option maxRecDepth 100000 in
theorem tX5_endsOf_36 {C : ew_C} {X : ew_X} {E : ew_M → ew_S} (hE1 : ew_GE X 50 (ew_GM X.2.1) E) (Z : ew_Z C X cX5_endsOf 3 RX5 wsX5_endsOf ({ frames := 3, cells := 0, slots := 0, locals := 67 } : Room) (some .int)) {Q : Int32 → Prop}  {v1 : Int32} {t0 : Int32} {s1 : ew_M} (hR : C.2.2.2.2.2.2.2.2.2.2 = MQ C.2.2.2.2.2.2.2.1 (va_Qi (fun (r : Int32) (_ : Unit) => Q r) (fun (u : Unit) => ew_wd X ((fun (_ : Unit) => E s1) u)) X.2.2.1) C.2.2.2.2.2.2.1 C.2.2.2.2.1 0 0 X.2.2.1) (h : wX5_endsOf_36 Q v1 t0 s1) : ew_W C X 3 (E s1) 36 [(0, .ref (X.2.1 50)), (1, .int v1)] [.int t0] := by
  refine ez_istore_n (pc := 36) (L' := [(2, .int t0), (0, .ref (X.2.1 50)), (1, .int v1)]) Z dX5_endsOf_36 rfl (by decide) rfl ?_
  refine ez_iload_n (pc := 37) Z dX5_endsOf_37 0 rfl rfl ?_
  refine ez_if_eq (pc := 38) (tgt := 49) Z dX5_endsOf_38 rfl (fun c1 => ?_) (fun c1 => ?_)
  · replace h := h.1 c1
    refine ez_iconst (pc := 49) Z dX5_endsOf_49 ec_0 ?_
    exact ez_iret (pc := 50) Z hR () h rfl dX5_endsOf_50
  · replace h := h.2 c1
    refine ez_aload_n (pc := 41) Z dX5_endsOf_41 1 rfl rfl ?_
    refine ez_iload_n (pc := 42) Z dX5_endsOf_42 2 rfl rfl ?_
    refine ez_callVi (pc := 43) (r := 50) (As := [.int v1]) (st := []) Z (kX5_leftOf Z.2.2.2.2.2.2.2.2.2.1 (E := E) hE1 h) gX5_endsOf_X5_leftOf rfl rfl rfl hdX5_leftOf rfl rfl (by decide) (ew_oM hE1 _) rfl rfl rfl rfl dX5_endsOf_43 (fun r2 u3 h => ?_)
    refine ez_goto (pc := 46) (tgt := 50) Z dX5_endsOf_46 rfl ?_
    exact ez_iret (pc := 50) Z hR () h rfl dX5_endsOf_50
set_option maxHeartbeats 4000000 in
set_option maxRecDepth 100000 in
theorem tX5_endsOf_35 {C : ew_C} {X : ew_X} {E : ew_M → ew_S} (hE1 : ew_GE X 50 (ew_GM X.2.1) E) (Z : ew_Z C X cX5_endsOf 3 RX5 wsX5_endsOf ({ frames := 3, cells := 0, slots := 0, locals := 67 } : Room) (some .int)) {Q : Int32 → Prop}  {v1 : Int32} {s1 : ew_M} (hR : C.2.2.2.2.2.2.2.2.2.2 = MQ C.2.2.2.2.2.2.2.1 (va_Qi (fun (r : Int32) (_ : Unit) => Q r) (fun (u : Unit) => ew_wd X ((fun (_ : Unit) => E s1) u)) X.2.2.1) C.2.2.2.2.2.2.1 C.2.2.2.2.1 0 0 X.2.2.1) (h : wX5_endsOf_35 Q v1 s1) : ew_W C X 3 (E s1) 35 [(0, .ref (X.2.1 50)), (1, .int v1)] [] := by
  refine ez_iconst (pc := 35) Z dX5_endsOf_35 ec_0 ?_
  exact tX5_endsOf_36 hE1 Z hR  h
set_option maxHeartbeats 4000000 in
set_option maxRecDepth 100000 in
theorem kX5_endsOf {X : ew_X} {l : Launch} (hX : ew_Ap X) {E : ew_M → ew_S} (hE1 : ew_GE X 50 (ew_GM X.2.1) E) {Q : Int32 → Prop} {p1 : Int32} {s1 : ew_M} (h : wX5_endsOf Q p1 s1) : Met l yX5_endsOf wsX5_endsOf ({ frames := 3, cells := 0, slots := 0, locals := 67 } : Room) (va_Pc [.ref (X.2.1 50), .int p1] (ew_wd X (E s1))) (va_Qi (fun (r : Int32) (_ : Unit) => Q r) (fun (u : Unit) => ew_wd X ((fun (_ : Unit) => E s1) u)) X.2.2.1) 0 0 X.2.2.1 := by
  refine ew_met (As := [.ref (X.2.1 50), .int p1]) (L0 := [(0, .ref (X.2.1 50)), (1, .int p1)]) X l hX (by decide) rfl rfl rfl rfl (fun C hl Z hR => ?_)
  subst hl
  refine ez_aload_n (pc := 0) Z dX5_endsOf_0 0 rfl rfl ?_
  refine ez_iload_n (pc := 1) Z dX5_endsOf_1 1 rfl rfl ?_
  refine ez_callVi (pc := 2) (r := 50) (As := [.int p1]) (st := []) Z (kX5_isForce Z.2.2.2.2.2.2.2.2.2.1 (E := E) hE1 h) gX5_endsOf_X5_isForce rfl rfl rfl hdX5_isForce rfl rfl (by decide) (ew_oM hE1 _) rfl rfl rfl rfl dX5_endsOf_2 (fun r1 u2 h => ?_)
  refine ez_if_eq (pc := 5) (tgt := 35) Z dX5_endsOf_5 rfl (fun c3 => ?_) (fun c3 => ?_)
  · replace h := h.1 c3
    exact tX5_endsOf_35 hE1 Z hR  h
  · replace h := h.2 c3
    refine ez_aload_n (pc := 8) Z dX5_endsOf_8 0 rfl rfl ?_
    refine ez_iload_n (pc := 9) Z dX5_endsOf_9 1 rfl rfl ?_
    refine ez_aload_n (pc := 10) Z dX5_endsOf_10 0 rfl rfl ?_
    refine fX5_law (pc := 11) (v := s1.1 15) Z hE1 rfl inX5_endsOf (List.mem_of_getElem? (i := 1) rfl) dX5_endsOf_11 ?_
    refine ez_aload_n (pc := 14) Z dX5_endsOf_14 0 rfl rfl ?_
    refine fX5_read (pc := 15) (M := s1) Z hE1 inX5_endsOf (List.mem_of_getElem? (i := 2) rfl) dX5_endsOf_15 ?_
    refine ez_iload_n (pc := 18) Z dX5_endsOf_18 1 rfl rfl ?_
    refine ez_iald (pc := 19) (n := 5) (a := 8) (v := s1.2.1 8 p1.toNatClampNeg) (M := s1) Z hE1 9 rfl (by decide : 8 < 36) rfl rfl h.1 dX5_endsOf_19 ?_
    replace h := h.2
    refine ez_callSi (pc := 20) (As := [.int (s1.2.1 8 p1.toNatClampNeg)]) (st := [.int (s1.1 15), .int p1, .ref (X.2.1 50)]) Z (kX5_ones Z.2.2.2.2.2.2.2.2.2.1 (S := E s1) h) gX5_endsOf_X5_ones rfl rfl rfl hdX5_ones rfl rfl rfl rfl rfl dX5_endsOf_20 (fun r4 u5 h => ?_)
    refine ez_iconst (pc := 23) Z dX5_endsOf_23 ec_1 ?_
    refine ez_iadd (pc := 24) Z dX5_endsOf_24 ?_
    refine ez_callVi (pc := 25) (r := 50) (As := [.int p1, .int (s1.1 15), .int (r4 + (1 : Int32))]) (st := []) Z (kX5_forceBy Z.2.2.2.2.2.2.2.2.2.1 (E := E) hE1 h) gX5_endsOf_X5_forceBy rfl rfl rfl hdX5_forceBy rfl rfl (by decide) (ew_oM hE1 _) rfl rfl rfl rfl dX5_endsOf_25 (fun r6 u7 h => ?_)
    refine ez_if_ne (pc := 28) (tgt := 35) Z dX5_endsOf_28 rfl (fun c8 => ?_) (fun c8 => ?_)
    · replace h := h.1 c8
      exact tX5_endsOf_35 hE1 Z hR  h
    · replace h := h.2 c8
      refine ez_iconst (pc := 31) Z dX5_endsOf_31 ec_1 ?_
      refine ez_goto (pc := 32) (tgt := 36) Z dX5_endsOf_32 rfl ?_
      exact tX5_endsOf_36 hE1 Z hR  h
theorem inX5_ends : ∀ w ∈ wsX50, w ∈ wsX5_ends := fun _ h => List.mem_cons_of_mem _ (List.mem_append_right _ (h))
theorem hdX5_ends : yX5_ends.cls = RX5 ∧ yX5_ends.cls ≠ "java/lang/invoke/MethodHandle" ∧ yX5_ends.cls ≠ "java/lang/invoke/VarHandle" ∧ (parseMethodDescriptor yX5_ends.desc).map (fun d => d.parameters.length) = some 1 := by decide +kernel
def wX5_ends (Q : Int32 → ew_M → Prop) (p1 : Int32) (s1 : ew_M) : Prop := wX5_isPaper (fun (r1 : Int32) => (r1 = 0 → wX5_refuse (fun (r4 : Int32) (m5 : ew_M) => Q r4 m5) (-1 : Int32) s1) ∧ (¬ r1 = 0 → wX5_endsOf (fun (r6 : Int32) => Q r6 s1) p1 s1)) p1 s1
set_option maxHeartbeats 4000000 in
set_option maxRecDepth 100000 in
theorem kX5_ends {X : ew_X} {l : Launch} (hX : ew_Ap X) {E : ew_M → ew_S} (hE1 : ew_GE X 50 (ew_GM X.2.1) E) {Q : Int32 → ew_M → Prop} {p1 : Int32} {s1 : ew_M} (h : wX5_ends Q p1 s1) : Met l yX5_ends wsX5_ends ({ frames := 4, cells := 0, slots := 0, locals := 89 } : Room) (va_Pc [.ref (X.2.1 50), .int p1] (ew_wd X (E s1))) (va_Qi (fun (r : Int32) (u : ew_M) => Q r u) (fun (u : ew_M) => ew_wd X ((fun (u : ew_M) => E u) u)) X.2.2.1) 0 0 X.2.2.1 := by
  refine ew_met (As := [.ref (X.2.1 50), .int p1]) (L0 := [(0, .ref (X.2.1 50)), (1, .int p1)]) X l hX (by decide) rfl rfl rfl rfl (fun C hl Z hR => ?_)
  subst hl
  refine ez_aload_n (pc := 0) Z dX5_ends_0 0 rfl rfl ?_
  refine ez_iload_n (pc := 1) Z dX5_ends_1 1 rfl rfl ?_
  refine ez_callVi (pc := 2) (r := 50) (As := [.int p1]) (st := []) Z (kX5_isPaper Z.2.2.2.2.2.2.2.2.2.1 (E := E) hE1 h) gX5_ends_X5_isPaper rfl rfl rfl hdX5_isPaper rfl rfl (by decide) (ew_oM hE1 _) rfl rfl rfl rfl dX5_ends_2 (fun r1 u2 h => ?_)
  refine ez_if_eq (pc := 5) (tgt := 16) Z dX5_ends_5 rfl (fun c3 => ?_) (fun c3 => ?_)
  · replace h := h.1 c3
    refine ez_aload_n (pc := 16) Z dX5_ends_16 0 rfl rfl ?_
    refine ez_iconst (pc := 17) Z dX5_ends_17 ec_m1 ?_
    refine ez_callVi (pc := 18) (r := 50) (As := [.int (-1 : Int32)]) (st := []) Z (kX5_refuse Z.2.2.2.2.2.2.2.2.2.1 (E := E) hE1 h) gX5_ends_X5_refuse rfl rfl rfl hdX5_refuse rfl rfl (by decide) (ew_oM hE1 _) rfl rfl rfl rfl dX5_ends_18 (fun r4 m5 h => ?_)
    exact ez_iret (pc := 21) Z hR m5 h rfl dX5_ends_21
  · replace h := h.2 c3
    refine ez_aload_n (pc := 8) Z dX5_ends_8 0 rfl rfl ?_
    refine ez_iload_n (pc := 9) Z dX5_ends_9 1 rfl rfl ?_
    refine ez_callVi (pc := 10) (r := 50) (As := [.int p1]) (st := []) Z (kX5_endsOf Z.2.2.2.2.2.2.2.2.2.1 (E := E) hE1 h) gX5_ends_X5_endsOf rfl rfl rfl hdX5_endsOf rfl rfl (by decide) (ew_oM hE1 _) rfl rfl rfl rfl dX5_ends_10 (fun r6 u7 h => ?_)
    refine ez_goto (pc := 13) (tgt := 21) Z dX5_ends_13 rfl ?_
    exact ez_iret (pc := 21) Z hR s1 h rfl dX5_ends_21
theorem inX5_asks : ∀ w ∈ wsX50, w ∈ wsX5_asks := fun _ h => List.mem_cons_of_mem _ (List.mem_append_right _ (h))
theorem hdX5_asks : yX5_asks.cls = RX5 ∧ yX5_asks.cls ≠ "java/lang/invoke/MethodHandle" ∧ yX5_asks.cls ≠ "java/lang/invoke/VarHandle" ∧ (parseMethodDescriptor yX5_asks.desc).map (fun d => d.parameters.length) = some 3 := by decide +kernel
def wX5_asks_16  (Q : Int32 → ew_M → Prop) (s1 : ew_M) : Prop := wX5_refuse (fun (r1 : Int32) (m2 : ew_M) => Q r1 m2) (-1 : Int32) s1
def wX5_asks_119 (R69 : Int64 × Int32 → Prop) (Q : Int32 → ew_M → Prop) (v1 : Int32) (v2 : Int32) (v3 : Int32) (v6 : Int32) (t0 : Int64) (t1 : Int64) (s1 : ew_M) : Prop := R69 (t1 + t0, v6 + (1 : Int32))
def wX5_asks_118 (R69 : Int64 × Int32 → Prop) (Q : Int32 → ew_M → Prop) (v1 : Int32) (v2 : Int32) (v3 : Int32) (v6 : Int32) (t0 : Int64) (s1 : ew_M) : Prop := wX5_asks_119 R69 Q v1 v2 v3 v6 (0 : Int64) t0 s1
def wX5_asks_69 (R69 : Int64 × Int32 → Prop) (Q : Int32 → ew_M → Prop) (v1 : Int32) (v2 : Int32) (v3 : Int32) (v4 : Int64) (v6 : Int32) (s1 : ew_M) : Prop := ((s1.1 0) ≤ v6 → wX5_endsOf (fun (r2 : Int32) => (¬ ((r2 >>> (v1 &&& 31)) &&& (1 : Int32)) = (1 : Int32) → Q (0 : Int32) s1) ∧ (((r2 >>> (v1 &&& 31)) &&& (1 : Int32)) = (1 : Int32) → (0 ≤ (lg_cmp v4 (0 : Int64)) → Q (0 : Int32) s1) ∧ (¬ 0 ≤ (lg_cmp v4 (0 : Int64)) → Q (((-v4) * v3.toInt64).toInt32) s1))) v2 s1) ∧ (¬ (s1.1 0) ≤ v6 → (v6 = v1 → wX5_asks_118 R69 Q v1 v2 v3 v6 v4 s1) ∧ (¬ v6 = v1 → wX5_isBound (fun (r7 : Int32) => (r7 = 0 → wX5_asks_118 R69 Q v1 v2 v3 v6 v4 s1) ∧ (¬ r7 = 0 → wX5_thinkAbove (fun (r10 : Int64) => wX5_thinkBelow (fun (r12 : Int64) => (¬ r12 = 0) ∧ (wX5_asks_119 R69 Q v1 v2 v3 v6 (((1000 : Int64) * r10) / r12) v4 s1)) v6 v2 s1) v6 v2 s1)) v6 v2 s1))
def wX5_asks (Q : Int32 → ew_M → Prop) (p1 : Int32) (p2 : Int32) (p3 : Int32) (s1 : ew_M) : Prop := wX5_isPerson (fun (r1 : Int32) => (r1 = 0 → wX5_asks_16 Q s1) ∧ (¬ r1 = 0 → wX5_isPaper (fun (r4 : Int32) => (¬ r4 = 0 → ((1 : Int32) ≤ p3 → (p3 ≤ (99 : Int32) → wX5_isBound (fun (r9 : Int32) => (¬ r9 = 0 → ew_lp (fun (R : Int64 × Int32 → Prop) (x : Int64 × Int32) => wX5_asks_69 R Q p1 p2 p3 x.1 x.2 s1) ((0 : Int64), (0 : Int32))) ∧ (r9 = 0 → wX5_refuse (fun (r12 : Int32) (m13 : ew_M) => Q r12 m13) (-3 : Int32) s1)) p1 p2 s1) ∧ (¬ p3 ≤ (99 : Int32) → wX5_refuse (fun (r14 : Int32) (m15 : ew_M) => Q r14 m15) (-6 : Int32) s1)) ∧ (¬ (1 : Int32) ≤ p3 → wX5_refuse (fun (r16 : Int32) (m17 : ew_M) => Q r16 m17) (-4 : Int32) s1)) ∧ (r4 = 0 → wX5_asks_16 Q s1)) p2 s1)) p1 s1
set_option maxHeartbeats 4000000 in
set_option maxRecDepth 100000 in
theorem tX5_asks_16 {C : ew_C} {X : ew_X} {E : ew_M → ew_S} (hE1 : ew_GE X 50 (ew_GM X.2.1) E) (Z : ew_Z C X cX5_asks 7 RX5 wsX5_asks ({ frames := 4, cells := 0, slots := 0, locals := 89 } : Room) (some .int)) {Q : Int32 → ew_M → Prop}  {s1 : ew_M} (hR : C.2.2.2.2.2.2.2.2.2.2 = MQ C.2.2.2.2.2.2.2.1 (va_Qi (fun (r : Int32) (u : ew_M) => Q r u) (fun (u : ew_M) => ew_wd X ((fun (u : ew_M) => E u) u)) X.2.2.1) C.2.2.2.2.2.2.1 C.2.2.2.2.1 0 0 X.2.2.1) (h : wX5_asks_16 Q s1) : ew_W C X 7 (E s1) 16 [(0, .ref (X.2.1 50))] [] := by
  refine ez_aload_n (pc := 16) Z dX5_asks_16 0 rfl rfl ?_
  refine ez_iconst (pc := 17) Z dX5_asks_17 ec_m1 ?_
  refine ez_callVi (pc := 18) (r := 50) (As := [.int (-1 : Int32)]) (st := []) Z (kX5_refuse Z.2.2.2.2.2.2.2.2.2.1 (E := E) hE1 h) gX5_asks_X5_refuse rfl rfl rfl hdX5_refuse rfl rfl (by decide) (ew_oM hE1 _) rfl rfl rfl rfl dX5_asks_18 (fun r1 m2 h => ?_)
  exact ez_iret (pc := 21) Z hR m2 h rfl dX5_asks_21
set_option maxHeartbeats 4000000 in
set_option maxRecDepth 100000 in
theorem tX5_asks_119 {C : ew_C} {X : ew_X} {E : ew_M → ew_S} (hE1 : ew_GE X 50 (ew_GM X.2.1) E) (Z : ew_Z C X cX5_asks 7 RX5 wsX5_asks ({ frames := 4, cells := 0, slots := 0, locals := 89 } : Room) (some .int)) {Q : Int32 → ew_M → Prop} {R69 : Int64 × Int32 → Prop} {v1 : Int32} {v2 : Int32} {v3 : Int32} {v6 : Int32} {t0 : Int64} {t1 : Int64} {s1 : ew_M} (hR : C.2.2.2.2.2.2.2.2.2.2 = MQ C.2.2.2.2.2.2.2.1 (va_Qi (fun (r : Int32) (u : ew_M) => Q r u) (fun (u : ew_M) => ew_wd X ((fun (u : ew_M) => E u) u)) X.2.2.1) C.2.2.2.2.2.2.1 C.2.2.2.2.1 0 0 X.2.2.1) (hR69 : ∀ x : Int64 × Int32, R69 x → ew_W C X 7 (E s1) 69 [(0, .ref (X.2.1 50)), (1, .int v1), (2, .int v2), (3, .int v3), (4, .long x.1), (6, .int x.2)] []) (h : wX5_asks_119 R69 Q v1 v2 v3 v6 t0 t1 s1) : ew_W C X 7 (E s1) 119 [(0, .ref (X.2.1 50)), (1, .int v1), (2, .int v2), (3, .int v3), (6, .int v6)] [.long t0, .long t1] := by
  refine ez_ladd (pc := 119) Z dX5_asks_119 ?_
  refine ez_lstore (pc := 120) (L' := [(4, .long (t1 + t0)), (0, .ref (X.2.1 50)), (1, .int v1), (2, .int v2), (3, .int v3), (6, .int v6)]) Z dX5_asks_120 (by decide) rfl ?_
  refine ez_iinc (pc := 122) (L' := [(6, .int (v6 + (1 : Int32))), (4, .long (t1 + t0)), (0, .ref (X.2.1 50)), (1, .int v1), (2, .int v2), (3, .int v3)]) Z dX5_asks_122 5 rfl (ei_1 _) (by decide) rfl ?_
  refine ez_goto (pc := 125) (tgt := 69) Z dX5_asks_125 rfl ?_
  refine ez_sub [(0, .ref (X.2.1 50)), (1, .int v1), (2, .int v2), (3, .int v3), (4, .long (t1 + t0)), (6, .int (v6 + (1 : Int32)))] [2, 3, 4, 5, 1, 0] rfl ?_
  exact hR69 _ h
set_option maxHeartbeats 4000000 in
set_option maxRecDepth 100000 in
theorem tX5_asks_118 {C : ew_C} {X : ew_X} {E : ew_M → ew_S} (hE1 : ew_GE X 50 (ew_GM X.2.1) E) (Z : ew_Z C X cX5_asks 7 RX5 wsX5_asks ({ frames := 4, cells := 0, slots := 0, locals := 89 } : Room) (some .int)) {Q : Int32 → ew_M → Prop} {R69 : Int64 × Int32 → Prop} {v1 : Int32} {v2 : Int32} {v3 : Int32} {v6 : Int32} {t0 : Int64} {s1 : ew_M} (hR : C.2.2.2.2.2.2.2.2.2.2 = MQ C.2.2.2.2.2.2.2.1 (va_Qi (fun (r : Int32) (u : ew_M) => Q r u) (fun (u : ew_M) => ew_wd X ((fun (u : ew_M) => E u) u)) X.2.2.1) C.2.2.2.2.2.2.1 C.2.2.2.2.1 0 0 X.2.2.1) (hR69 : ∀ x : Int64 × Int32, R69 x → ew_W C X 7 (E s1) 69 [(0, .ref (X.2.1 50)), (1, .int v1), (2, .int v2), (3, .int v3), (4, .long x.1), (6, .int x.2)] []) (h : wX5_asks_118 R69 Q v1 v2 v3 v6 t0 s1) : ew_W C X 7 (E s1) 118 [(0, .ref (X.2.1 50)), (1, .int v1), (2, .int v2), (3, .int v3), (6, .int v6)] [.long t0] := by
  refine ez_lconst (pc := 118) Z dX5_asks_118 el_0 ?_
  exact tX5_asks_119 hE1 Z hR hR69 h
set_option maxHeartbeats 4000000 in
set_option maxRecDepth 100000 in
theorem tX5_asks_69 {C : ew_C} {X : ew_X} {E : ew_M → ew_S} (hE1 : ew_GE X 50 (ew_GM X.2.1) E) (Z : ew_Z C X cX5_asks 7 RX5 wsX5_asks ({ frames := 4, cells := 0, slots := 0, locals := 89 } : Room) (some .int)) {Q : Int32 → ew_M → Prop} {R69 : Int64 × Int32 → Prop} {v1 : Int32} {v2 : Int32} {v3 : Int32} {v4 : Int64} {v6 : Int32} {s1 : ew_M} (hR : C.2.2.2.2.2.2.2.2.2.2 = MQ C.2.2.2.2.2.2.2.1 (va_Qi (fun (r : Int32) (u : ew_M) => Q r u) (fun (u : ew_M) => ew_wd X ((fun (u : ew_M) => E u) u)) X.2.2.1) C.2.2.2.2.2.2.1 C.2.2.2.2.1 0 0 X.2.2.1) (hR69 : ∀ x : Int64 × Int32, R69 x → ew_W C X 7 (E s1) 69 [(0, .ref (X.2.1 50)), (1, .int v1), (2, .int v2), (3, .int v3), (4, .long x.1), (6, .int x.2)] []) (h : wX5_asks_69 R69 Q v1 v2 v3 v4 v6 s1) : ew_W C X 7 (E s1) 69 [(0, .ref (X.2.1 50)), (1, .int v1), (2, .int v2), (3, .int v3), (4, .long v4), (6, .int v6)] [] := by
  refine ez_iload (pc := 69) Z dX5_asks_69 5 rfl ?_
  refine ez_aload_n (pc := 71) Z dX5_asks_71 0 rfl rfl ?_
  refine fX5_persons (pc := 72) (v := s1.1 0) Z hE1 rfl inX5_asks (List.mem_of_getElem? (i := 1) rfl) dX5_asks_72 ?_
  refine ez_icmp_ge (pc := 75) (tgt := 128) Z dX5_asks_75 rfl (fun c1 => ?_) (fun c1 => ?_)
  · replace h := h.1 c1
    refine ez_aload_n (pc := 128) Z dX5_asks_128 0 rfl rfl ?_
    refine ez_iload_n (pc := 129) Z dX5_asks_129 2 rfl rfl ?_
    refine ez_callVi (pc := 130) (r := 50) (As := [.int v2]) (st := []) Z (kX5_endsOf Z.2.2.2.2.2.2.2.2.2.1 (E := E) hE1 h) gX5_asks_X5_endsOf rfl rfl rfl hdX5_endsOf rfl rfl (by decide) (ew_oM hE1 _) rfl rfl rfl rfl dX5_asks_130 (fun r2 u3 h => ?_)
    refine ez_iload_n (pc := 133) Z dX5_asks_133 1 rfl rfl ?_
    refine ez_ishr (pc := 134) Z dX5_asks_134 ?_
    refine ez_iconst (pc := 135) Z dX5_asks_135 ec_1 ?_
    refine ez_iand (pc := 136) Z dX5_asks_136 ?_
    refine ez_iconst (pc := 137) Z dX5_asks_137 ec_1 ?_
    refine ez_icmp_ne (pc := 138) (tgt := 158) Z dX5_asks_138 rfl (fun c4 => ?_) (fun c4 => ?_)
    · replace h := h.1 c4
      refine ez_iconst (pc := 158) Z dX5_asks_158 ec_0 ?_
      exact ez_iret (pc := 159) Z hR s1 h rfl dX5_asks_159
    · replace h := h.2 c4
      refine ez_lload (pc := 141) Z dX5_asks_141 4 rfl ?_
      refine ez_lconst (pc := 143) Z dX5_asks_143 el_0 ?_
      refine ez_lcmp (pc := 144) Z dX5_asks_144 ?_
      refine ez_if_ge (pc := 145) (tgt := 158) Z dX5_asks_145 rfl (fun c5 => ?_) (fun c5 => ?_)
      · replace h := h.1 c5
        refine ez_iconst (pc := 158) Z dX5_asks_158 ec_0 ?_
        exact ez_iret (pc := 159) Z hR s1 h rfl dX5_asks_159
      · replace h := h.2 c5
        refine ez_lload (pc := 148) Z dX5_asks_148 4 rfl ?_
        refine ez_lneg (pc := 150) Z dX5_asks_150 ?_
        refine ez_iload_n (pc := 151) Z dX5_asks_151 3 rfl rfl ?_
        refine ez_i2l (pc := 152) Z dX5_asks_152 ?_
        refine ez_lmul (pc := 153) Z dX5_asks_153 ?_
        refine ez_l2i (pc := 154) Z dX5_asks_154 ?_
        refine ez_goto (pc := 155) (tgt := 159) Z dX5_asks_155 rfl ?_
        exact ez_iret (pc := 159) Z hR s1 h rfl dX5_asks_159
  · replace h := h.2 c1
    refine ez_lload (pc := 78) Z dX5_asks_78 4 rfl ?_
    refine ez_iload (pc := 80) Z dX5_asks_80 5 rfl ?_
    refine ez_iload_n (pc := 82) Z dX5_asks_82 1 rfl rfl ?_
    refine ez_icmp_eq (pc := 83) (tgt := 118) Z dX5_asks_83 rfl (fun c6 => ?_) (fun c6 => ?_)
    · replace h := h.1 c6
      refine ez_sub [(0, .ref (X.2.1 50)), (1, .int v1), (2, .int v2), (3, .int v3), (6, .int v6)] [0, 1, 2, 3, 5] rfl ?_
      exact tX5_asks_118 hE1 Z hR hR69 h
    · replace h := h.2 c6
      refine ez_aload_n (pc := 86) Z dX5_asks_86 0 rfl rfl ?_
      refine ez_iload (pc := 87) Z dX5_asks_87 5 rfl ?_
      refine ez_iload_n (pc := 89) Z dX5_asks_89 2 rfl rfl ?_
      refine ez_callVi (pc := 90) (r := 50) (As := [.int v6, .int v2]) (st := [.long v4]) Z (kX5_isBound Z.2.2.2.2.2.2.2.2.2.1 (E := E) hE1 h) gX5_asks_X5_isBound rfl rfl rfl hdX5_isBound rfl rfl (by decide) (ew_oM hE1 _) rfl rfl rfl rfl dX5_asks_90 (fun r7 u8 h => ?_)
      refine ez_if_eq (pc := 93) (tgt := 118) Z dX5_asks_93 rfl (fun c9 => ?_) (fun c9 => ?_)
      · replace h := h.1 c9
        refine ez_sub [(0, .ref (X.2.1 50)), (1, .int v1), (2, .int v2), (3, .int v3), (6, .int v6)] [0, 1, 2, 3, 5] rfl ?_
        exact tX5_asks_118 hE1 Z hR hR69 h
      · replace h := h.2 c9
        refine ez_ldc2 (pc := 96) Z (List.mem_of_getElem? (i := 2) rfl) dX5_asks_96 ?_
        refine ez_aload_n (pc := 99) Z dX5_asks_99 0 rfl rfl ?_
        refine ez_iload (pc := 100) Z dX5_asks_100 5 rfl ?_
        refine ez_iload_n (pc := 102) Z dX5_asks_102 2 rfl rfl ?_
        refine ez_callVl (pc := 103) (r := 50) (As := [.int v6, .int v2]) (st := [.long (1000 : Int64), .long v4]) Z (kX5_thinkAbove Z.2.2.2.2.2.2.2.2.2.1 (E := E) hE1 h) gX5_asks_X5_thinkAbove rfl rfl rfl hdX5_thinkAbove rfl rfl (by decide) (ew_oM hE1 _) rfl rfl rfl rfl dX5_asks_103 (fun r10 u11 h => ?_)
        refine ez_lmul (pc := 106) Z dX5_asks_106 ?_
        refine ez_aload_n (pc := 107) Z dX5_asks_107 0 rfl rfl ?_
        refine ez_iload (pc := 108) Z dX5_asks_108 5 rfl ?_
        refine ez_iload_n (pc := 110) Z dX5_asks_110 2 rfl rfl ?_
        refine ez_callVl (pc := 111) (r := 50) (As := [.int v6, .int v2]) (st := [.long ((1000 : Int64) * r10), .long v4]) Z (kX5_thinkBelow Z.2.2.2.2.2.2.2.2.2.1 (E := E) hE1 h) gX5_asks_X5_thinkBelow rfl rfl rfl hdX5_thinkBelow rfl rfl (by decide) (ew_oM hE1 _) rfl rfl rfl rfl dX5_asks_111 (fun r12 u13 h => ?_)
        refine ez_ldiv (pc := 114) Z dX5_asks_114 h.1 ?_
        replace h := h.2
        refine ez_goto (pc := 115) (tgt := 119) Z dX5_asks_115 rfl ?_
        refine ez_sub [(0, .ref (X.2.1 50)), (1, .int v1), (2, .int v2), (3, .int v3), (6, .int v6)] [0, 1, 2, 3, 5] rfl ?_
        exact tX5_asks_119 hE1 Z hR hR69 h
set_option maxHeartbeats 4000000 in
set_option maxRecDepth 100000 in
theorem kX5_asks {X : ew_X} {l : Launch} (hX : ew_Ap X) {E : ew_M → ew_S} (hE1 : ew_GE X 50 (ew_GM X.2.1) E) {Q : Int32 → ew_M → Prop} {p1 : Int32} {p2 : Int32} {p3 : Int32} {s1 : ew_M} (h : wX5_asks Q p1 p2 p3 s1) : Met l yX5_asks wsX5_asks ({ frames := 4, cells := 0, slots := 0, locals := 89 } : Room) (va_Pc [.ref (X.2.1 50), .int p1, .int p2, .int p3] (ew_wd X (E s1))) (va_Qi (fun (r : Int32) (u : ew_M) => Q r u) (fun (u : ew_M) => ew_wd X ((fun (u : ew_M) => E u) u)) X.2.2.1) 0 0 X.2.2.1 := by
  refine ew_met (As := [.ref (X.2.1 50), .int p1, .int p2, .int p3]) (L0 := [(0, .ref (X.2.1 50)), (1, .int p1), (2, .int p2), (3, .int p3)]) X l hX (by decide) rfl rfl rfl rfl (fun C hl Z hR => ?_)
  subst hl
  refine ez_aload_n (pc := 0) Z dX5_asks_0 0 rfl rfl ?_
  refine ez_iload_n (pc := 1) Z dX5_asks_1 1 rfl rfl ?_
  refine ez_callVi (pc := 2) (r := 50) (As := [.int p1]) (st := []) Z (kX5_isPerson Z.2.2.2.2.2.2.2.2.2.1 (E := E) hE1 h) gX5_asks_X5_isPerson rfl rfl rfl hdX5_isPerson rfl rfl (by decide) (ew_oM hE1 _) rfl rfl rfl rfl dX5_asks_2 (fun r1 u2 h => ?_)
  refine ez_if_eq (pc := 5) (tgt := 16) Z dX5_asks_5 rfl (fun c3 => ?_) (fun c3 => ?_)
  · replace h := h.1 c3
    refine ez_sub [(0, .ref (X.2.1 50))] [0] rfl ?_
    exact tX5_asks_16 hE1 Z hR  h
  · replace h := h.2 c3
    refine ez_aload_n (pc := 8) Z dX5_asks_8 0 rfl rfl ?_
    refine ez_iload_n (pc := 9) Z dX5_asks_9 2 rfl rfl ?_
    refine ez_callVi (pc := 10) (r := 50) (As := [.int p2]) (st := []) Z (kX5_isPaper Z.2.2.2.2.2.2.2.2.2.1 (E := E) hE1 h) gX5_asks_X5_isPaper rfl rfl rfl hdX5_isPaper rfl rfl (by decide) (ew_oM hE1 _) rfl rfl rfl rfl dX5_asks_10 (fun r4 u5 h => ?_)
    refine ez_if_ne (pc := 13) (tgt := 22) Z dX5_asks_13 rfl (fun c6 => ?_) (fun c6 => ?_)
    · replace h := h.1 c6
      refine ez_iload_n (pc := 22) Z dX5_asks_22 3 rfl rfl ?_
      refine ez_iconst (pc := 23) Z dX5_asks_23 ec_1 ?_
      refine ez_icmp_ge (pc := 24) (tgt := 34) Z dX5_asks_24 rfl (fun c7 => ?_) (fun c7 => ?_)
      · replace h := h.1 c7
        refine ez_iload_n (pc := 34) Z dX5_asks_34 3 rfl rfl ?_
        refine ez_bipush (pc := 35) Z dX5_asks_35 eb_99 ?_
        refine ez_icmp_le (pc := 37) (tgt := 47) Z dX5_asks_37 rfl (fun c8 => ?_) (fun c8 => ?_)
        · replace h := h.1 c8
          refine ez_aload_n (pc := 47) Z dX5_asks_47 0 rfl rfl ?_
          refine ez_iload_n (pc := 48) Z dX5_asks_48 1 rfl rfl ?_
          refine ez_iload_n (pc := 49) Z dX5_asks_49 2 rfl rfl ?_
          refine ez_callVi (pc := 50) (r := 50) (As := [.int p1, .int p2]) (st := []) Z (kX5_isBound Z.2.2.2.2.2.2.2.2.2.1 (E := E) hE1 h) gX5_asks_X5_isBound rfl rfl rfl hdX5_isBound rfl rfl (by decide) (ew_oM hE1 _) rfl rfl rfl rfl dX5_asks_50 (fun r9 u10 h => ?_)
          refine ez_if_ne (pc := 53) (tgt := 63) Z dX5_asks_53 rfl (fun c11 => ?_) (fun c11 => ?_)
          · replace h := h.1 c11
            refine ez_lconst (pc := 63) Z dX5_asks_63 el_0 ?_
            refine ez_lstore (pc := 64) (L' := [(4, .long (0 : Int64)), (0, .ref (X.2.1 50)), (1, .int p1), (2, .int p2), (3, .int p3)]) Z dX5_asks_64 (by decide) rfl ?_
            refine ez_iconst (pc := 66) Z dX5_asks_66 ec_0 ?_
            refine ez_istore (pc := 67) (L' := [(6, .int (0 : Int32)), (4, .long (0 : Int64)), (0, .ref (X.2.1 50)), (1, .int p1), (2, .int p2), (3, .int p3)]) Z dX5_asks_67 (by decide) rfl ?_
            refine ez_sub [(0, .ref (X.2.1 50)), (1, .int p1), (2, .int p2), (3, .int p3), (4, .long (0 : Int64)), (6, .int (0 : Int32))] [2, 3, 4, 5, 1, 0] rfl ?_
            exact ew_ind (P := fun (x : Int64 × Int32) => ew_W C X 7 (E s1) 69 [(0, .ref (X.2.1 50)), (1, .int p1), (2, .int p2), (3, .int p3), (4, .long x.1), (6, .int x.2)] []) (fun R hR9 x h => tX5_asks_69 hE1 Z hR  hR9 h) h
          · replace h := h.2 c11
            refine ez_aload_n (pc := 56) Z dX5_asks_56 0 rfl rfl ?_
            refine ez_bipush (pc := 57) Z dX5_asks_57 eb_m3 ?_
            refine ez_callVi (pc := 59) (r := 50) (As := [.int (-3 : Int32)]) (st := []) Z (kX5_refuse Z.2.2.2.2.2.2.2.2.2.1 (E := E) hE1 h) gX5_asks_X5_refuse rfl rfl rfl hdX5_refuse rfl rfl (by decide) (ew_oM hE1 _) rfl rfl rfl rfl dX5_asks_59 (fun r12 m13 h => ?_)
            exact ez_iret (pc := 62) Z hR m13 h rfl dX5_asks_62
        · replace h := h.2 c8
          refine ez_aload_n (pc := 40) Z dX5_asks_40 0 rfl rfl ?_
          refine ez_bipush (pc := 41) Z dX5_asks_41 eb_m6 ?_
          refine ez_callVi (pc := 43) (r := 50) (As := [.int (-6 : Int32)]) (st := []) Z (kX5_refuse Z.2.2.2.2.2.2.2.2.2.1 (E := E) hE1 h) gX5_asks_X5_refuse rfl rfl rfl hdX5_refuse rfl rfl (by decide) (ew_oM hE1 _) rfl rfl rfl rfl dX5_asks_43 (fun r14 m15 h => ?_)
          exact ez_iret (pc := 46) Z hR m15 h rfl dX5_asks_46
      · replace h := h.2 c7
        refine ez_aload_n (pc := 27) Z dX5_asks_27 0 rfl rfl ?_
        refine ez_bipush (pc := 28) Z dX5_asks_28 eb_m4 ?_
        refine ez_callVi (pc := 30) (r := 50) (As := [.int (-4 : Int32)]) (st := []) Z (kX5_refuse Z.2.2.2.2.2.2.2.2.2.1 (E := E) hE1 h) gX5_asks_X5_refuse rfl rfl rfl hdX5_refuse rfl rfl (by decide) (ew_oM hE1 _) rfl rfl rfl rfl dX5_asks_30 (fun r16 m17 h => ?_)
        exact ez_iret (pc := 33) Z hR m17 h rfl dX5_asks_33
    · replace h := h.2 c6
      refine ez_sub [(0, .ref (X.2.1 50))] [0] rfl ?_
      exact tX5_asks_16 hE1 Z hR  h
theorem inX5_power : ∀ w ∈ wsX50, w ∈ wsX5_power := fun _ h => List.mem_cons_of_mem _ (List.mem_append_right _ (h))
theorem hdX5_power : yX5_power.cls = RX5 ∧ yX5_power.cls ≠ "java/lang/invoke/MethodHandle" ∧ yX5_power.cls ≠ "java/lang/invoke/VarHandle" ∧ (parseMethodDescriptor yX5_power.desc).map (fun d => d.parameters.length) = some 3 := by decide +kernel
def wX5_power_16  (Q : Int32 → ew_M → Prop) (s1 : ew_M) : Prop := wX5_refuse (fun (r1 : Int32) (m2 : ew_M) => Q r1 m2) (-1 : Int32) s1
def wX5_power_56  (Q : Int32 → ew_M → Prop) (s1 : ew_M) : Prop := wX5_refuse (fun (r1 : Int32) (m2 : ew_M) => Q r1 m2) (-3 : Int32) s1
def wX5_power_84  (Q : Int32 → ew_M → Prop) (v2 : Int32) (v3 : Int32) (t0 : Int32) (s1 : ew_M) : Prop := (¬ v3 = 0 → (t0 = 0 → wX5_leftOf (fun (r3 : Int32) => wX5_ones (fun (r5 : Int32) => Q r5 s1) r3) v2 s1) ∧ (¬ t0 = 0 → Q (1 : Int32) s1)) ∧ (v3 = 0 → (t0 = 0 → Q (1 : Int32) s1) ∧ (¬ t0 = 0 → Q (0 : Int32) s1))
def wX5_power_79  (Q : Int32 → ew_M → Prop) (v2 : Int32) (v3 : Int32) (s1 : ew_M) : Prop := wX5_power_84 Q v2 v3 (1 : Int32) s1
def wX5_power (Q : Int32 → ew_M → Prop) (p1 : Int32) (p2 : Int32) (p3 : Int32) (s1 : ew_M) : Prop := wX5_isPerson (fun (r1 : Int32) => (r1 = 0 → wX5_power_16 Q s1) ∧ (¬ r1 = 0 → wX5_isPaper (fun (r4 : Int32) => (¬ r4 = 0 → wX5_in (fun (r7 : Int32) => (¬ r7 = 0 → wX5_isBound (fun (r10 : Int32) => (r10 = 0 → wX5_power_56 Q s1) ∧ (¬ r10 = 0 → wX5_hasRead (fun (r13 : Int32) => (r13 = 0 → ((s1.1 15) = (4 : Int32) → wX5_power_79 Q p2 p3 s1) ∧ (¬ (s1.1 15) = (4 : Int32) → wX5_isForce (fun (r17 : Int32) => (¬ r17 = 0 → wX5_power_84 Q p2 p3 (0 : Int32) s1) ∧ (r17 = 0 → wX5_power_79 Q p2 p3 s1)) p2 s1)) ∧ (¬ r13 = 0 → wX5_power_56 Q s1)) p1 p2 s1)) p1 p2 s1) ∧ (r7 = 0 → wX5_refuse (fun (r20 : Int32) (m21 : ew_M) => Q r20 m21) (-2 : Int32) s1)) p3 (0 : Int32) (1 : Int32)) ∧ (r4 = 0 → wX5_power_16 Q s1)) p2 s1)) p1 s1
set_option maxHeartbeats 4000000 in
set_option maxRecDepth 100000 in
theorem tX5_power_16 {C : ew_C} {X : ew_X} {E : ew_M → ew_S} (hE1 : ew_GE X 50 (ew_GM X.2.1) E) (Z : ew_Z C X cX5_power 5 RX5 wsX5_power ({ frames := 3, cells := 0, slots := 0, locals := 67 } : Room) (some .int)) {Q : Int32 → ew_M → Prop}  {s1 : ew_M} (hR : C.2.2.2.2.2.2.2.2.2.2 = MQ C.2.2.2.2.2.2.2.1 (va_Qi (fun (r : Int32) (u : ew_M) => Q r u) (fun (u : ew_M) => ew_wd X ((fun (u : ew_M) => E u) u)) X.2.2.1) C.2.2.2.2.2.2.1 C.2.2.2.2.1 0 0 X.2.2.1) (h : wX5_power_16 Q s1) : ew_W C X 5 (E s1) 16 [(0, .ref (X.2.1 50))] [] := by
  refine ez_aload_n (pc := 16) Z dX5_power_16 0 rfl rfl ?_
  refine ez_iconst (pc := 17) Z dX5_power_17 ec_m1 ?_
  refine ez_callVi (pc := 18) (r := 50) (As := [.int (-1 : Int32)]) (st := []) Z (kX5_refuse Z.2.2.2.2.2.2.2.2.2.1 (E := E) hE1 h) gX5_power_X5_refuse rfl rfl rfl hdX5_refuse rfl rfl (by decide) (ew_oM hE1 _) rfl rfl rfl rfl dX5_power_18 (fun r1 m2 h => ?_)
  exact ez_iret (pc := 21) Z hR m2 h rfl dX5_power_21
set_option maxHeartbeats 4000000 in
set_option maxRecDepth 100000 in
theorem tX5_power_56 {C : ew_C} {X : ew_X} {E : ew_M → ew_S} (hE1 : ew_GE X 50 (ew_GM X.2.1) E) (Z : ew_Z C X cX5_power 5 RX5 wsX5_power ({ frames := 3, cells := 0, slots := 0, locals := 67 } : Room) (some .int)) {Q : Int32 → ew_M → Prop}  {s1 : ew_M} (hR : C.2.2.2.2.2.2.2.2.2.2 = MQ C.2.2.2.2.2.2.2.1 (va_Qi (fun (r : Int32) (u : ew_M) => Q r u) (fun (u : ew_M) => ew_wd X ((fun (u : ew_M) => E u) u)) X.2.2.1) C.2.2.2.2.2.2.1 C.2.2.2.2.1 0 0 X.2.2.1) (h : wX5_power_56 Q s1) : ew_W C X 5 (E s1) 56 [(0, .ref (X.2.1 50))] [] := by
  refine ez_aload_n (pc := 56) Z dX5_power_56 0 rfl rfl ?_
  refine ez_bipush (pc := 57) Z dX5_power_57 eb_m3 ?_
  refine ez_callVi (pc := 59) (r := 50) (As := [.int (-3 : Int32)]) (st := []) Z (kX5_refuse Z.2.2.2.2.2.2.2.2.2.1 (E := E) hE1 h) gX5_power_X5_refuse rfl rfl rfl hdX5_refuse rfl rfl (by decide) (ew_oM hE1 _) rfl rfl rfl rfl dX5_power_59 (fun r1 m2 h => ?_)
  exact ez_iret (pc := 62) Z hR m2 h rfl dX5_power_62
set_option maxHeartbeats 4000000 in
set_option maxRecDepth 100000 in
theorem tX5_power_84 {C : ew_C} {X : ew_X} {E : ew_M → ew_S} (hE1 : ew_GE X 50 (ew_GM X.2.1) E) (Z : ew_Z C X cX5_power 5 RX5 wsX5_power ({ frames := 3, cells := 0, slots := 0, locals := 67 } : Room) (some .int)) {Q : Int32 → ew_M → Prop}  {v2 : Int32} {v3 : Int32} {t0 : Int32} {s1 : ew_M} (hR : C.2.2.2.2.2.2.2.2.2.2 = MQ C.2.2.2.2.2.2.2.1 (va_Qi (fun (r : Int32) (u : ew_M) => Q r u) (fun (u : ew_M) => ew_wd X ((fun (u : ew_M) => E u) u)) X.2.2.1) C.2.2.2.2.2.2.1 C.2.2.2.2.1 0 0 X.2.2.1) (h : wX5_power_84 Q v2 v3 t0 s1) : ew_W C X 5 (E s1) 84 [(0, .ref (X.2.1 50)), (2, .int v2), (3, .int v3)] [.int t0] := by
  refine ez_istore (pc := 84) (L' := [(4, .int t0), (0, .ref (X.2.1 50)), (2, .int v2), (3, .int v3)]) Z dX5_power_84 (by decide) rfl ?_
  refine ez_iload_n (pc := 86) Z dX5_power_86 3 rfl rfl ?_
  refine ez_if_ne (pc := 87) (tgt := 103) Z dX5_power_87 rfl (fun c1 => ?_) (fun c1 => ?_)
  · replace h := h.1 c1
    refine ez_iload (pc := 103) Z dX5_power_103 0 rfl ?_
    refine ez_if_eq (pc := 105) (tgt := 112) Z dX5_power_105 rfl (fun c2 => ?_) (fun c2 => ?_)
    · replace h := h.1 c2
      refine ez_aload_n (pc := 112) Z dX5_power_112 1 rfl rfl ?_
      refine ez_iload_n (pc := 113) Z dX5_power_113 2 rfl rfl ?_
      refine ez_callVi (pc := 114) (r := 50) (As := [.int v2]) (st := []) Z (kX5_leftOf Z.2.2.2.2.2.2.2.2.2.1 (E := E) hE1 h) gX5_power_X5_leftOf rfl rfl rfl hdX5_leftOf rfl rfl (by decide) (ew_oM hE1 _) rfl rfl rfl rfl dX5_power_114 (fun r3 u4 h => ?_)
      refine ez_callSi (pc := 117) (As := [.int r3]) (st := []) Z (kX5_ones Z.2.2.2.2.2.2.2.2.2.1 (S := E s1) h) gX5_power_X5_ones rfl rfl rfl hdX5_ones rfl rfl rfl rfl rfl dX5_power_117 (fun r5 u6 h => ?_)
      exact ez_iret (pc := 120) Z hR s1 h rfl dX5_power_120
    · replace h := h.2 c2
      refine ez_iconst (pc := 108) Z dX5_power_108 ec_1 ?_
      refine ez_goto (pc := 109) (tgt := 120) Z dX5_power_109 rfl ?_
      exact ez_iret (pc := 120) Z hR s1 h rfl dX5_power_120
  · replace h := h.2 c1
    refine ez_iload (pc := 90) Z dX5_power_90 0 rfl ?_
    refine ez_if_eq (pc := 92) (tgt := 99) Z dX5_power_92 rfl (fun c7 => ?_) (fun c7 => ?_)
    · replace h := h.1 c7
      refine ez_iconst (pc := 99) Z dX5_power_99 ec_1 ?_
      refine ez_goto (pc := 100) (tgt := 120) Z dX5_power_100 rfl ?_
      exact ez_iret (pc := 120) Z hR s1 h rfl dX5_power_120
    · replace h := h.2 c7
      refine ez_iconst (pc := 95) Z dX5_power_95 ec_0 ?_
      refine ez_goto (pc := 96) (tgt := 120) Z dX5_power_96 rfl ?_
      exact ez_iret (pc := 120) Z hR s1 h rfl dX5_power_120
set_option maxHeartbeats 4000000 in
set_option maxRecDepth 100000 in
theorem tX5_power_79 {C : ew_C} {X : ew_X} {E : ew_M → ew_S} (hE1 : ew_GE X 50 (ew_GM X.2.1) E) (Z : ew_Z C X cX5_power 5 RX5 wsX5_power ({ frames := 3, cells := 0, slots := 0, locals := 67 } : Room) (some .int)) {Q : Int32 → ew_M → Prop}  {v2 : Int32} {v3 : Int32} {s1 : ew_M} (hR : C.2.2.2.2.2.2.2.2.2.2 = MQ C.2.2.2.2.2.2.2.1 (va_Qi (fun (r : Int32) (u : ew_M) => Q r u) (fun (u : ew_M) => ew_wd X ((fun (u : ew_M) => E u) u)) X.2.2.1) C.2.2.2.2.2.2.1 C.2.2.2.2.1 0 0 X.2.2.1) (h : wX5_power_79 Q v2 v3 s1) : ew_W C X 5 (E s1) 79 [(0, .ref (X.2.1 50)), (2, .int v2), (3, .int v3)] [] := by
  refine ez_iconst (pc := 79) Z dX5_power_79 ec_1 ?_
  refine ez_goto (pc := 80) (tgt := 84) Z dX5_power_80 rfl ?_
  exact tX5_power_84 hE1 Z hR  h
set_option maxHeartbeats 4000000 in
set_option maxRecDepth 100000 in
theorem kX5_power {X : ew_X} {l : Launch} (hX : ew_Ap X) {E : ew_M → ew_S} (hE1 : ew_GE X 50 (ew_GM X.2.1) E) {Q : Int32 → ew_M → Prop} {p1 : Int32} {p2 : Int32} {p3 : Int32} {s1 : ew_M} (h : wX5_power Q p1 p2 p3 s1) : Met l yX5_power wsX5_power ({ frames := 3, cells := 0, slots := 0, locals := 67 } : Room) (va_Pc [.ref (X.2.1 50), .int p1, .int p2, .int p3] (ew_wd X (E s1))) (va_Qi (fun (r : Int32) (u : ew_M) => Q r u) (fun (u : ew_M) => ew_wd X ((fun (u : ew_M) => E u) u)) X.2.2.1) 0 0 X.2.2.1 := by
  refine ew_met (As := [.ref (X.2.1 50), .int p1, .int p2, .int p3]) (L0 := [(0, .ref (X.2.1 50)), (1, .int p1), (2, .int p2), (3, .int p3)]) X l hX (by decide) rfl rfl rfl rfl (fun C hl Z hR => ?_)
  subst hl
  refine ez_aload_n (pc := 0) Z dX5_power_0 0 rfl rfl ?_
  refine ez_iload_n (pc := 1) Z dX5_power_1 1 rfl rfl ?_
  refine ez_callVi (pc := 2) (r := 50) (As := [.int p1]) (st := []) Z (kX5_isPerson Z.2.2.2.2.2.2.2.2.2.1 (E := E) hE1 h) gX5_power_X5_isPerson rfl rfl rfl hdX5_isPerson rfl rfl (by decide) (ew_oM hE1 _) rfl rfl rfl rfl dX5_power_2 (fun r1 u2 h => ?_)
  refine ez_if_eq (pc := 5) (tgt := 16) Z dX5_power_5 rfl (fun c3 => ?_) (fun c3 => ?_)
  · replace h := h.1 c3
    refine ez_sub [(0, .ref (X.2.1 50))] [0] rfl ?_
    exact tX5_power_16 hE1 Z hR  h
  · replace h := h.2 c3
    refine ez_aload_n (pc := 8) Z dX5_power_8 0 rfl rfl ?_
    refine ez_iload_n (pc := 9) Z dX5_power_9 2 rfl rfl ?_
    refine ez_callVi (pc := 10) (r := 50) (As := [.int p2]) (st := []) Z (kX5_isPaper Z.2.2.2.2.2.2.2.2.2.1 (E := E) hE1 h) gX5_power_X5_isPaper rfl rfl rfl hdX5_isPaper rfl rfl (by decide) (ew_oM hE1 _) rfl rfl rfl rfl dX5_power_10 (fun r4 u5 h => ?_)
    refine ez_if_ne (pc := 13) (tgt := 22) Z dX5_power_13 rfl (fun c6 => ?_) (fun c6 => ?_)
    · replace h := h.1 c6
      refine ez_iload_n (pc := 22) Z dX5_power_22 3 rfl rfl ?_
      refine ez_iconst (pc := 23) Z dX5_power_23 ec_0 ?_
      refine ez_iconst (pc := 24) Z dX5_power_24 ec_1 ?_
      refine ez_callSi (pc := 25) (As := [.int p3, .int (0 : Int32), .int (1 : Int32)]) (st := []) Z (kX5_in Z.2.2.2.2.2.2.2.2.2.1 (S := E s1) h) gX5_power_X5_in rfl rfl rfl hdX5_in rfl rfl rfl rfl rfl dX5_power_25 (fun r7 u8 h => ?_)
      refine ez_if_ne (pc := 28) (tgt := 38) Z dX5_power_28 rfl (fun c9 => ?_) (fun c9 => ?_)
      · replace h := h.1 c9
        refine ez_aload_n (pc := 38) Z dX5_power_38 0 rfl rfl ?_
        refine ez_iload_n (pc := 39) Z dX5_power_39 1 rfl rfl ?_
        refine ez_iload_n (pc := 40) Z dX5_power_40 2 rfl rfl ?_
        refine ez_callVi (pc := 41) (r := 50) (As := [.int p1, .int p2]) (st := []) Z (kX5_isBound Z.2.2.2.2.2.2.2.2.2.1 (E := E) hE1 h) gX5_power_X5_isBound rfl rfl rfl hdX5_isBound rfl rfl (by decide) (ew_oM hE1 _) rfl rfl rfl rfl dX5_power_41 (fun r10 u11 h => ?_)
        refine ez_if_eq (pc := 44) (tgt := 56) Z dX5_power_44 rfl (fun c12 => ?_) (fun c12 => ?_)
        · replace h := h.1 c12
          refine ez_sub [(0, .ref (X.2.1 50))] [0] rfl ?_
          exact tX5_power_56 hE1 Z hR  h
        · replace h := h.2 c12
          refine ez_aload_n (pc := 47) Z dX5_power_47 0 rfl rfl ?_
          refine ez_iload_n (pc := 48) Z dX5_power_48 1 rfl rfl ?_
          refine ez_iload_n (pc := 49) Z dX5_power_49 2 rfl rfl ?_
          refine ez_callVi (pc := 50) (r := 50) (As := [.int p1, .int p2]) (st := []) Z (kX5_hasRead Z.2.2.2.2.2.2.2.2.2.1 (E := E) hE1 h) gX5_power_X5_hasRead rfl rfl rfl hdX5_hasRead rfl rfl (by decide) (ew_oM hE1 _) rfl rfl rfl rfl dX5_power_50 (fun r13 u14 h => ?_)
          refine ez_if_eq (pc := 53) (tgt := 63) Z dX5_power_53 rfl (fun c15 => ?_) (fun c15 => ?_)
          · replace h := h.1 c15
            refine ez_aload_n (pc := 63) Z dX5_power_63 0 rfl rfl ?_
            refine fX5_law (pc := 64) (v := s1.1 15) Z hE1 rfl inX5_power (List.mem_of_getElem? (i := 1) rfl) dX5_power_64 ?_
            refine ez_iconst (pc := 67) Z dX5_power_67 ec_4 ?_
            refine ez_icmp_eq (pc := 68) (tgt := 79) Z dX5_power_68 rfl (fun c16 => ?_) (fun c16 => ?_)
            · replace h := h.1 c16
              refine ez_sub [(0, .ref (X.2.1 50)), (2, .int p2), (3, .int p3)] [0, 2, 3] rfl ?_
              exact tX5_power_79 hE1 Z hR  h
            · replace h := h.2 c16
              refine ez_aload_n (pc := 71) Z dX5_power_71 0 rfl rfl ?_
              refine ez_iload_n (pc := 72) Z dX5_power_72 2 rfl rfl ?_
              refine ez_callVi (pc := 73) (r := 50) (As := [.int p2]) (st := []) Z (kX5_isForce Z.2.2.2.2.2.2.2.2.2.1 (E := E) hE1 h) gX5_power_X5_isForce rfl rfl rfl hdX5_isForce rfl rfl (by decide) (ew_oM hE1 _) rfl rfl rfl rfl dX5_power_73 (fun r17 u18 h => ?_)
              refine ez_if_ne (pc := 76) (tgt := 83) Z dX5_power_76 rfl (fun c19 => ?_) (fun c19 => ?_)
              · replace h := h.1 c19
                refine ez_iconst (pc := 83) Z dX5_power_83 ec_0 ?_
                refine ez_sub [(0, .ref (X.2.1 50)), (2, .int p2), (3, .int p3)] [0, 2, 3] rfl ?_
                exact tX5_power_84 hE1 Z hR  h
              · replace h := h.2 c19
                refine ez_sub [(0, .ref (X.2.1 50)), (2, .int p2), (3, .int p3)] [0, 2, 3] rfl ?_
                exact tX5_power_79 hE1 Z hR  h
          · replace h := h.2 c15
            refine ez_sub [(0, .ref (X.2.1 50))] [0] rfl ?_
            exact tX5_power_56 hE1 Z hR  h
      · replace h := h.2 c9
        refine ez_aload_n (pc := 31) Z dX5_power_31 0 rfl rfl ?_
        refine ez_bipush (pc := 32) Z dX5_power_32 eb_m2 ?_
        refine ez_callVi (pc := 34) (r := 50) (As := [.int (-2 : Int32)]) (st := []) Z (kX5_refuse Z.2.2.2.2.2.2.2.2.2.1 (E := E) hE1 h) gX5_power_X5_refuse rfl rfl rfl hdX5_refuse rfl rfl (by decide) (ew_oM hE1 _) rfl rfl rfl rfl dX5_power_34 (fun r20 m21 h => ?_)
        exact ez_iret (pc := 37) Z hR m21 h rfl dX5_power_37
    · replace h := h.2 c6
      refine ez_sub [(0, .ref (X.2.1 50))] [0] rfl ?_
      exact tX5_power_16 hE1 Z hR  h
theorem hdX5_power0 : yX5_power0.cls ≠ "java/lang/invoke/MethodHandle" ∧ yX5_power0.cls ≠ "java/lang/invoke/VarHandle" ∧ (parseMethodDescriptor yX5_power0.desc).map (fun d => d.parameters.length) = some 2 := by decide +kernel
def wX5_power0_5 (R5 : Int64 × Int32 → Prop) (Q : Int64 → Prop) (v0 : Int64) (v2 : Int32) (v3 : Int64) (v5 : Int32) : Prop := (v2 ≤ v5 → Q v3 ) ∧ (¬ v2 ≤ v5 → R5 (v3 * v0, v5 + (1 : Int32)))
def wX5_power0 (Q : Int64 → Prop) (p1 : Int64) (p2 : Int32) : Prop := ew_lp (fun (R : Int64 × Int32 → Prop) (x : Int64 × Int32) => wX5_power0_5 R Q p1 p2 x.1 x.2) ((1 : Int64), (0 : Int32))
set_option maxHeartbeats 4000000 in
set_option maxRecDepth 100000 in
theorem tX5_power0_5 {C : ew_C} {X : ew_X} {S : ew_S} (Z : ew_Z C X cX5_power0 6 RX5 wsX5_power0 ({ frames := 0, cells := 0, slots := 0, locals := 0 } : Room) (some .long)) {Q : Int64 → Prop} {R5 : Int64 × Int32 → Prop} {v0 : Int64} {v2 : Int32} {v3 : Int64} {v5 : Int32} (hR : C.2.2.2.2.2.2.2.2.2.2 = MQ C.2.2.2.2.2.2.2.1 (va_Ql (fun (r : Int64) (_ : Unit) => Q r) (fun (u : Unit) => ew_wd X ((fun (_ : Unit) => S) u)) X.2.2.1) C.2.2.2.2.2.2.1 C.2.2.2.2.1 0 0 X.2.2.1) (hR5 : ∀ x : Int64 × Int32, R5 x → ew_W C X 6 (S) 5 [(0, .long v0), (2, .int v2), (3, .long x.1), (5, .int x.2)] []) (h : wX5_power0_5 R5 Q v0 v2 v3 v5) : ew_W C X 6 (S) 5 [(0, .long v0), (2, .int v2), (3, .long v3), (5, .int v5)] [] := by
  refine ez_iload (pc := 5) Z dX5_power0_5 3 rfl ?_
  refine ez_iload_n (pc := 7) Z dX5_power0_7 1 rfl rfl ?_
  refine ez_icmp_ge (pc := 8) (tgt := 21) Z dX5_power0_8 rfl (fun c1 => ?_) (fun c1 => ?_)
  · replace h := h.1 c1
    refine ez_lload_n (pc := 21) Z dX5_power0_21 2 rfl rfl ?_
    exact ez_lret (pc := 22) Z hR () h rfl dX5_power0_22
  · replace h := h.2 c1
    refine ez_lload_n (pc := 11) Z dX5_power0_11 2 rfl rfl ?_
    refine ez_lload_n (pc := 12) Z dX5_power0_12 0 rfl rfl ?_
    refine ez_lmul (pc := 13) Z dX5_power0_13 ?_
    refine ez_lstore_n (pc := 14) (L' := [(3, .long (v3 * v0)), (0, .long v0), (2, .int v2), (5, .int v5)]) Z dX5_power0_14 rfl (by decide) rfl ?_
    refine ez_iinc (pc := 15) (L' := [(5, .int (v5 + (1 : Int32))), (3, .long (v3 * v0)), (0, .long v0), (2, .int v2)]) Z dX5_power0_15 3 rfl (ei_1 _) (by decide) rfl ?_
    refine ez_goto (pc := 18) (tgt := 5) Z dX5_power0_18 rfl ?_
    refine ez_sub [(0, .long v0), (2, .int v2), (3, .long (v3 * v0)), (5, .int (v5 + (1 : Int32)))] [2, 3, 1, 0] rfl ?_
    exact hR5 _ h
set_option maxHeartbeats 4000000 in
set_option maxRecDepth 100000 in
theorem kX5_power0 {X : ew_X} {l : Launch} (hX : ew_Ap X) {S : ew_S} {Q : Int64 → Prop} {p1 : Int64} {p2 : Int32} (h : wX5_power0 Q p1 p2) : Met l yX5_power0 wsX5_power0 ({ frames := 0, cells := 0, slots := 0, locals := 0 } : Room) (va_Pc [.long p1, .int p2] (ew_wd X (S))) (va_Ql (fun (r : Int64) (_ : Unit) => Q r) (fun (u : Unit) => ew_wd X ((fun (_ : Unit) => S) u)) X.2.2.1) 0 0 X.2.2.1 := by
  refine ew_met (As := [.long p1, .int p2]) (L0 := [(0, .long p1), (2, .int p2)]) X l hX (by decide) rfl rfl rfl rfl (fun C hl Z hR => ?_)
  subst hl
  refine ez_lconst (pc := 0) Z dX5_power0_0 el_1 ?_
  refine ez_lstore_n (pc := 1) (L' := [(3, .long (1 : Int64)), (0, .long p1), (2, .int p2)]) Z dX5_power0_1 rfl (by decide) rfl ?_
  refine ez_iconst (pc := 2) Z dX5_power0_2 ec_0 ?_
  refine ez_istore (pc := 3) (L' := [(5, .int (0 : Int32)), (3, .long (1 : Int64)), (0, .long p1), (2, .int p2)]) Z dX5_power0_3 (by decide) rfl ?_
  refine ez_sub [(0, .long p1), (2, .int p2), (3, .long (1 : Int64)), (5, .int (0 : Int32))] [2, 3, 1, 0] rfl ?_
  exact ew_ind (P := fun (x : Int64 × Int32) => ew_W C X 6 (S) 5 [(0, .long p1), (2, .int p2), (3, .long x.1), (5, .int x.2)] []) (fun R hR9 x h => tX5_power0_5  Z hR  hR9 h) h
theorem inX5_chance : ∀ w ∈ wsX50, w ∈ wsX5_chance := fun _ h => List.mem_cons_of_mem _ (List.mem_append_right _ (h))
theorem hdX5_chance : yX5_chance.cls = RX5 ∧ yX5_chance.cls ≠ "java/lang/invoke/MethodHandle" ∧ yX5_chance.cls ≠ "java/lang/invoke/VarHandle" ∧ (parseMethodDescriptor yX5_chance.desc).map (fun d => d.parameters.length) = some 4 := by decide +kernel
def wX5_chance_39  (Q : Int64 → ew_M → Prop) (s1 : ew_M) : Prop := wX5_refuseLong (fun (r1 : Int64) (m2 : ew_M) => Q r1 m2) (-4 : Int32) s1
def wX5_chance_77  (Q : Int64 → ew_M → Prop) (s1 : ew_M) : Prop := wX5_refuseLong (fun (r1 : Int64) (m2 : ew_M) => Q r1 m2) (-6 : Int32) s1
def wX5_chance_175 (R117 : Int64 × Int64 × Int32 → Prop) (Q : Int64 → ew_M → Prop) (v1 : Int32) (v3 : Int32) (v4 : Int32) (v5 : Int32) (v6 : Int64) (v8 : Int64) (v12 : Int64) (v14 : Int32) (t0 : Int64) (t1 : Int64) (s1 : ew_M) : Prop := (¬ ((v14 + (1 : Int32)).toInt64) = 0) ∧ (R117 (t1 + t0, (v12 * ((v5 - v14).toInt64)) / ((v14 + (1 : Int32)).toInt64), v14 + (1 : Int32)))
def wX5_chance_117 (R117 : Int64 × Int64 × Int32 → Prop) (Q : Int64 → ew_M → Prop) (v1 : Int32) (v3 : Int32) (v4 : Int32) (v5 : Int32) (v6 : Int64) (v8 : Int64) (v10 : Int64) (v12 : Int64) (v14 : Int32) (s1 : ew_M) : Prop := (v5 < v14 → wX5_power0 (fun (r2 : Int64) => wX5_lowest (fun (r4 : Int64) => Q r4 s1) v10 r2 v4) (100 : Int64) (v3 * v5)) ∧ (¬ v5 < v14 → vp_in v1 5 ∧ (wX5_ones (fun (r6 : Int32) => wX5_forceBy (fun (r8 : Int32) => (r8 = 0 → wX5_chance_175 R117 Q v1 v3 v4 v5 v6 v8 v12 v14 (0 : Int64) v10 s1) ∧ (¬ r8 = 0 → wX5_power0 (fun (r11 : Int64) => wX5_power0 (fun (r13 : Int64) => wX5_chance_175 R117 Q v1 v3 v4 v5 v6 v8 v12 v14 ((v12 * r11) * r13) v10 s1) v6 (v5 - v14)) v8 v14)) v1 (s1.1 15) (r6 + v14) s1) (s1.2.1 8 v1.toNatClampNeg)))
def wX5_chance (Q : Int64 → ew_M → Prop) (p1 : Int32) (p2 : Int32) (p3 : Int32) (p4 : Int32) (s1 : ew_M) : Prop := wX5_isPaper (fun (r1 : Int32) => (¬ r1 = 0 → wX5_in (fun (r4 : Int32) => (¬ r4 = 0 → (p2 < 0 → wX5_chance_39 Q s1) ∧ (¬ p2 < 0 → (0 ≤ p3 → wX5_leftOf (fun (r9 : Int32) => wX5_ones (fun (r11 : Int32) => ((100 : Int32) < p2 → wX5_chance_77 Q s1) ∧ (¬ (100 : Int32) < p2 → ((8 : Int32) < p3 → wX5_chance_77 Q s1) ∧ (¬ (8 : Int32) < p3 → ((p3 * r11) ≤ (8 : Int32) → wX5_power0 (fun (r16 : Int64) => wX5_power0 (fun (r18 : Int64) => ew_lp (fun (R : Int64 × Int64 × Int32 → Prop) (x : Int64 × Int64 × Int32) => wX5_chance_117 R Q p1 p3 p4 r11 r16 (r18 - r16) x.1 x.2.1 x.2.2 s1) ((0 : Int64), (1 : Int64), (0 : Int32))) (100 : Int64) p3) ((100 : Int64) - p2.toInt64) p3) ∧ (¬ (p3 * r11) ≤ (8 : Int32) → wX5_chance_77 Q s1)))) r9) p1 s1) ∧ (¬ 0 ≤ p3 → wX5_chance_39 Q s1))) ∧ (r4 = 0 → wX5_refuseLong (fun (r20 : Int64) (m21 : ew_M) => Q r20 m21) (-2 : Int32) s1)) p4 (0 : Int32) (1 : Int32)) ∧ (r1 = 0 → wX5_refuseLong (fun (r22 : Int64) (m23 : ew_M) => Q r22 m23) (-1 : Int32) s1)) p1 s1
set_option maxHeartbeats 4000000 in
set_option maxRecDepth 100000 in
theorem tX5_chance_39 {C : ew_C} {X : ew_X} {E : ew_M → ew_S} (hE1 : ew_GE X 50 (ew_GM X.2.1) E) (Z : ew_Z C X cX5_chance 15 RX5 wsX5_chance ({ frames := 2, cells := 0, slots := 0, locals := 53 } : Room) (some .long)) {Q : Int64 → ew_M → Prop}  {s1 : ew_M} (hR : C.2.2.2.2.2.2.2.2.2.2 = MQ C.2.2.2.2.2.2.2.1 (va_Ql (fun (r : Int64) (u : ew_M) => Q r u) (fun (u : ew_M) => ew_wd X ((fun (u : ew_M) => E u) u)) X.2.2.1) C.2.2.2.2.2.2.1 C.2.2.2.2.1 0 0 X.2.2.1) (h : wX5_chance_39 Q s1) : ew_W C X 15 (E s1) 39 [(0, .ref (X.2.1 50))] [] := by
  refine ez_aload_n (pc := 39) Z dX5_chance_39 0 rfl rfl ?_
  refine ez_bipush (pc := 40) Z dX5_chance_40 eb_m4 ?_
  refine ez_callVl (pc := 42) (r := 50) (As := [.int (-4 : Int32)]) (st := []) Z (kX5_refuseLong Z.2.2.2.2.2.2.2.2.2.1 (E := E) hE1 h) gX5_chance_X5_refuseLong rfl rfl rfl hdX5_refuseLong rfl rfl (by decide) (ew_oM hE1 _) rfl rfl rfl rfl dX5_chance_42 (fun r1 m2 h => ?_)
  exact ez_lret (pc := 45) Z hR m2 h rfl dX5_chance_45
set_option maxHeartbeats 4000000 in
set_option maxRecDepth 100000 in
theorem tX5_chance_77 {C : ew_C} {X : ew_X} {E : ew_M → ew_S} (hE1 : ew_GE X 50 (ew_GM X.2.1) E) (Z : ew_Z C X cX5_chance 15 RX5 wsX5_chance ({ frames := 2, cells := 0, slots := 0, locals := 53 } : Room) (some .long)) {Q : Int64 → ew_M → Prop}  {s1 : ew_M} (hR : C.2.2.2.2.2.2.2.2.2.2 = MQ C.2.2.2.2.2.2.2.1 (va_Ql (fun (r : Int64) (u : ew_M) => Q r u) (fun (u : ew_M) => ew_wd X ((fun (u : ew_M) => E u) u)) X.2.2.1) C.2.2.2.2.2.2.1 C.2.2.2.2.1 0 0 X.2.2.1) (h : wX5_chance_77 Q s1) : ew_W C X 15 (E s1) 77 [(0, .ref (X.2.1 50))] [] := by
  refine ez_aload_n (pc := 77) Z dX5_chance_77 0 rfl rfl ?_
  refine ez_bipush (pc := 78) Z dX5_chance_78 eb_m6 ?_
  refine ez_callVl (pc := 80) (r := 50) (As := [.int (-6 : Int32)]) (st := []) Z (kX5_refuseLong Z.2.2.2.2.2.2.2.2.2.1 (E := E) hE1 h) gX5_chance_X5_refuseLong rfl rfl rfl hdX5_refuseLong rfl rfl (by decide) (ew_oM hE1 _) rfl rfl rfl rfl dX5_chance_80 (fun r1 m2 h => ?_)
  exact ez_lret (pc := 83) Z hR m2 h rfl dX5_chance_83
set_option maxHeartbeats 4000000 in
set_option maxRecDepth 100000 in
theorem tX5_chance_175 {C : ew_C} {X : ew_X} {E : ew_M → ew_S} (hE1 : ew_GE X 50 (ew_GM X.2.1) E) (Z : ew_Z C X cX5_chance 15 RX5 wsX5_chance ({ frames := 2, cells := 0, slots := 0, locals := 53 } : Room) (some .long)) {Q : Int64 → ew_M → Prop} {R117 : Int64 × Int64 × Int32 → Prop} {v1 : Int32} {v3 : Int32} {v4 : Int32} {v5 : Int32} {v6 : Int64} {v8 : Int64} {v12 : Int64} {v14 : Int32} {t0 : Int64} {t1 : Int64} {s1 : ew_M} (hR : C.2.2.2.2.2.2.2.2.2.2 = MQ C.2.2.2.2.2.2.2.1 (va_Ql (fun (r : Int64) (u : ew_M) => Q r u) (fun (u : ew_M) => ew_wd X ((fun (u : ew_M) => E u) u)) X.2.2.1) C.2.2.2.2.2.2.1 C.2.2.2.2.1 0 0 X.2.2.1) (hR117 : ∀ x : Int64 × Int64 × Int32, R117 x → ew_W C X 15 (E s1) 117 [(0, .ref (X.2.1 50)), (1, .int v1), (3, .int v3), (4, .int v4), (5, .int v5), (6, .long v6), (8, .long v8), (10, .long x.1), (12, .long x.2.1), (14, .int x.2.2)] []) (h : wX5_chance_175 R117 Q v1 v3 v4 v5 v6 v8 v12 v14 t0 t1 s1) : ew_W C X 15 (E s1) 175 [(0, .ref (X.2.1 50)), (1, .int v1), (3, .int v3), (4, .int v4), (5, .int v5), (6, .long v6), (8, .long v8), (12, .long v12), (14, .int v14)] [.long t0, .long t1] := by
  refine ez_ladd (pc := 175) Z dX5_chance_175 ?_
  refine ez_lstore (pc := 176) (L' := [(10, .long (t1 + t0)), (0, .ref (X.2.1 50)), (1, .int v1), (3, .int v3), (4, .int v4), (5, .int v5), (6, .long v6), (8, .long v8), (12, .long v12), (14, .int v14)]) Z dX5_chance_176 (by decide) rfl ?_
  refine ez_lload (pc := 178) Z dX5_chance_178 8 rfl ?_
  refine ez_iload (pc := 180) Z dX5_chance_180 5 rfl ?_
  refine ez_iload (pc := 182) Z dX5_chance_182 9 rfl ?_
  refine ez_isub (pc := 184) Z dX5_chance_184 ?_
  refine ez_i2l (pc := 185) Z dX5_chance_185 ?_
  refine ez_lmul (pc := 186) Z dX5_chance_186 ?_
  refine ez_iload (pc := 187) Z dX5_chance_187 9 rfl ?_
  refine ez_iconst (pc := 189) Z dX5_chance_189 ec_1 ?_
  refine ez_iadd (pc := 190) Z dX5_chance_190 ?_
  refine ez_i2l (pc := 191) Z dX5_chance_191 ?_
  refine ez_ldiv (pc := 192) Z dX5_chance_192 h.1 ?_
  replace h := h.2
  refine ez_lstore (pc := 193) (L' := [(12, .long ((v12 * ((v5 - v14).toInt64)) / ((v14 + (1 : Int32)).toInt64))), (10, .long (t1 + t0)), (0, .ref (X.2.1 50)), (1, .int v1), (3, .int v3), (4, .int v4), (5, .int v5), (6, .long v6), (8, .long v8), (14, .int v14)]) Z dX5_chance_193 (by decide) rfl ?_
  refine ez_iinc (pc := 195) (L' := [(14, .int (v14 + (1 : Int32))), (12, .long ((v12 * ((v5 - v14).toInt64)) / ((v14 + (1 : Int32)).toInt64))), (10, .long (t1 + t0)), (0, .ref (X.2.1 50)), (1, .int v1), (3, .int v3), (4, .int v4), (5, .int v5), (6, .long v6), (8, .long v8)]) Z dX5_chance_195 9 rfl (ei_1 _) (by decide) rfl ?_
  refine ez_goto (pc := 198) (tgt := 117) Z dX5_chance_198 rfl ?_
  refine ez_sub [(0, .ref (X.2.1 50)), (1, .int v1), (3, .int v3), (4, .int v4), (5, .int v5), (6, .long v6), (8, .long v8), (10, .long (t1 + t0)), (12, .long ((v12 * ((v5 - v14).toInt64)) / ((v14 + (1 : Int32)).toInt64))), (14, .int (v14 + (1 : Int32)))] [3, 4, 5, 6, 7, 8, 9, 2, 1, 0] rfl ?_
  exact hR117 _ h
set_option maxHeartbeats 4000000 in
set_option maxRecDepth 100000 in
theorem tX5_chance_117 {C : ew_C} {X : ew_X} {E : ew_M → ew_S} (hE1 : ew_GE X 50 (ew_GM X.2.1) E) (Z : ew_Z C X cX5_chance 15 RX5 wsX5_chance ({ frames := 2, cells := 0, slots := 0, locals := 53 } : Room) (some .long)) {Q : Int64 → ew_M → Prop} {R117 : Int64 × Int64 × Int32 → Prop} {v1 : Int32} {v3 : Int32} {v4 : Int32} {v5 : Int32} {v6 : Int64} {v8 : Int64} {v10 : Int64} {v12 : Int64} {v14 : Int32} {s1 : ew_M} (hR : C.2.2.2.2.2.2.2.2.2.2 = MQ C.2.2.2.2.2.2.2.1 (va_Ql (fun (r : Int64) (u : ew_M) => Q r u) (fun (u : ew_M) => ew_wd X ((fun (u : ew_M) => E u) u)) X.2.2.1) C.2.2.2.2.2.2.1 C.2.2.2.2.1 0 0 X.2.2.1) (hR117 : ∀ x : Int64 × Int64 × Int32, R117 x → ew_W C X 15 (E s1) 117 [(0, .ref (X.2.1 50)), (1, .int v1), (3, .int v3), (4, .int v4), (5, .int v5), (6, .long v6), (8, .long v8), (10, .long x.1), (12, .long x.2.1), (14, .int x.2.2)] []) (h : wX5_chance_117 R117 Q v1 v3 v4 v5 v6 v8 v10 v12 v14 s1) : ew_W C X 15 (E s1) 117 [(0, .ref (X.2.1 50)), (1, .int v1), (3, .int v3), (4, .int v4), (5, .int v5), (6, .long v6), (8, .long v8), (10, .long v10), (12, .long v12), (14, .int v14)] [] := by
  refine ez_iload (pc := 117) Z dX5_chance_117 9 rfl ?_
  refine ez_iload (pc := 119) Z dX5_chance_119 4 rfl ?_
  refine ez_icmp_gt (pc := 121) (tgt := 201) Z dX5_chance_121 rfl (fun c1 => ?_) (fun c1 => ?_)
  · replace h := h.1 c1
    refine ez_lload (pc := 201) Z dX5_chance_201 7 rfl ?_
    refine ez_ldc2 (pc := 203) Z (List.mem_of_getElem? (i := 1) rfl) dX5_chance_203 ?_
    refine ez_iload_n (pc := 206) Z dX5_chance_206 2 rfl rfl ?_
    refine ez_iload (pc := 207) Z dX5_chance_207 4 rfl ?_
    refine ez_imul (pc := 209) Z dX5_chance_209 ?_
    refine ez_callSl (pc := 210) (As := [.long (100 : Int64), .int (v3 * v5)]) (st := [.long v10]) Z (kX5_power0 Z.2.2.2.2.2.2.2.2.2.1 (S := E s1) h) gX5_chance_X5_power0 rfl rfl rfl hdX5_power0 rfl rfl rfl rfl rfl dX5_chance_210 (fun r2 u3 h => ?_)
    refine ez_iload (pc := 213) Z dX5_chance_213 3 rfl ?_
    refine ez_callSl (pc := 215) (As := [.long v10, .long r2, .int v4]) (st := []) Z (kX5_lowest Z.2.2.2.2.2.2.2.2.2.1 (S := E s1) h) gX5_chance_X5_lowest rfl rfl rfl hdX5_lowest rfl rfl rfl rfl rfl dX5_chance_215 (fun r4 u5 h => ?_)
    exact ez_lret (pc := 218) Z hR s1 h rfl dX5_chance_218
  · replace h := h.2 c1
    refine ez_lload (pc := 124) Z dX5_chance_124 7 rfl ?_
    refine ez_aload_n (pc := 126) Z dX5_chance_126 0 rfl rfl ?_
    refine ez_iload_n (pc := 127) Z dX5_chance_127 1 rfl rfl ?_
    refine ez_aload_n (pc := 128) Z dX5_chance_128 0 rfl rfl ?_
    refine fX5_law (pc := 129) (v := s1.1 15) Z hE1 rfl inX5_chance (List.mem_of_getElem? (i := 2) rfl) dX5_chance_129 ?_
    refine ez_aload_n (pc := 132) Z dX5_chance_132 0 rfl rfl ?_
    refine fX5_read (pc := 133) (M := s1) Z hE1 inX5_chance (List.mem_of_getElem? (i := 3) rfl) dX5_chance_133 ?_
    refine ez_iload_n (pc := 136) Z dX5_chance_136 1 rfl rfl ?_
    refine ez_iald (pc := 137) (n := 5) (a := 8) (v := s1.2.1 8 v1.toNatClampNeg) (M := s1) Z hE1 9 rfl (by decide : 8 < 36) rfl rfl h.1 dX5_chance_137 ?_
    replace h := h.2
    refine ez_callSi (pc := 138) (As := [.int (s1.2.1 8 v1.toNatClampNeg)]) (st := [.int (s1.1 15), .int v1, .ref (X.2.1 50), .long v10]) Z (kX5_ones Z.2.2.2.2.2.2.2.2.2.1 (S := E s1) h) gX5_chance_X5_ones rfl rfl rfl hdX5_ones rfl rfl rfl rfl rfl dX5_chance_138 (fun r6 u7 h => ?_)
    refine ez_iload (pc := 141) Z dX5_chance_141 9 rfl ?_
    refine ez_iadd (pc := 143) Z dX5_chance_143 ?_
    refine ez_callVi (pc := 144) (r := 50) (As := [.int v1, .int (s1.1 15), .int (r6 + v14)]) (st := [.long v10]) Z (kX5_forceBy Z.2.2.2.2.2.2.2.2.2.1 (E := E) hE1 h) gX5_chance_X5_forceBy rfl rfl rfl hdX5_forceBy rfl rfl (by decide) (ew_oM hE1 _) rfl rfl rfl rfl dX5_chance_144 (fun r8 u9 h => ?_)
    refine ez_if_eq (pc := 147) (tgt := 174) Z dX5_chance_147 rfl (fun c10 => ?_) (fun c10 => ?_)
    · replace h := h.1 c10
      refine ez_lconst (pc := 174) Z dX5_chance_174 el_0 ?_
      refine ez_sub [(0, .ref (X.2.1 50)), (1, .int v1), (3, .int v3), (4, .int v4), (5, .int v5), (6, .long v6), (8, .long v8), (12, .long v12), (14, .int v14)] [0, 1, 2, 3, 4, 5, 6, 8, 9] rfl ?_
      exact tX5_chance_175 hE1 Z hR hR117 h
    · replace h := h.2 c10
      refine ez_lload (pc := 150) Z dX5_chance_150 8 rfl ?_
      refine ez_lload (pc := 152) Z dX5_chance_152 6 rfl ?_
      refine ez_iload (pc := 154) Z dX5_chance_154 9 rfl ?_
      refine ez_callSl (pc := 156) (As := [.long v8, .int v14]) (st := [.long v12, .long v10]) Z (kX5_power0 Z.2.2.2.2.2.2.2.2.2.1 (S := E s1) h) gX5_chance_X5_power0 rfl rfl rfl hdX5_power0 rfl rfl rfl rfl rfl dX5_chance_156 (fun r11 u12 h => ?_)
      refine ez_lmul (pc := 159) Z dX5_chance_159 ?_
      refine ez_lload (pc := 160) Z dX5_chance_160 5 rfl ?_
      refine ez_iload (pc := 162) Z dX5_chance_162 4 rfl ?_
      refine ez_iload (pc := 164) Z dX5_chance_164 9 rfl ?_
      refine ez_isub (pc := 166) Z dX5_chance_166 ?_
      refine ez_callSl (pc := 167) (As := [.long v6, .int (v5 - v14)]) (st := [.long (v12 * r11), .long v10]) Z (kX5_power0 Z.2.2.2.2.2.2.2.2.2.1 (S := E s1) h) gX5_chance_X5_power0 rfl rfl rfl hdX5_power0 rfl rfl rfl rfl rfl dX5_chance_167 (fun r13 u14 h => ?_)
      refine ez_lmul (pc := 170) Z dX5_chance_170 ?_
      refine ez_goto (pc := 171) (tgt := 175) Z dX5_chance_171 rfl ?_
      refine ez_sub [(0, .ref (X.2.1 50)), (1, .int v1), (3, .int v3), (4, .int v4), (5, .int v5), (6, .long v6), (8, .long v8), (12, .long v12), (14, .int v14)] [0, 1, 2, 3, 4, 5, 6, 8, 9] rfl ?_
      exact tX5_chance_175 hE1 Z hR hR117 h
set_option maxHeartbeats 4000000 in
set_option maxRecDepth 100000 in
theorem kX5_chance {X : ew_X} {l : Launch} (hX : ew_Ap X) {E : ew_M → ew_S} (hE1 : ew_GE X 50 (ew_GM X.2.1) E) {Q : Int64 → ew_M → Prop} {p1 : Int32} {p2 : Int32} {p3 : Int32} {p4 : Int32} {s1 : ew_M} (h : wX5_chance Q p1 p2 p3 p4 s1) : Met l yX5_chance wsX5_chance ({ frames := 2, cells := 0, slots := 0, locals := 53 } : Room) (va_Pc [.ref (X.2.1 50), .int p1, .int p2, .int p3, .int p4] (ew_wd X (E s1))) (va_Ql (fun (r : Int64) (u : ew_M) => Q r u) (fun (u : ew_M) => ew_wd X ((fun (u : ew_M) => E u) u)) X.2.2.1) 0 0 X.2.2.1 := by
  refine ew_met (As := [.ref (X.2.1 50), .int p1, .int p2, .int p3, .int p4]) (L0 := [(0, .ref (X.2.1 50)), (1, .int p1), (2, .int p2), (3, .int p3), (4, .int p4)]) X l hX (by decide) rfl rfl rfl rfl (fun C hl Z hR => ?_)
  subst hl
  refine ez_aload_n (pc := 0) Z dX5_chance_0 0 rfl rfl ?_
  refine ez_iload_n (pc := 1) Z dX5_chance_1 1 rfl rfl ?_
  refine ez_callVi (pc := 2) (r := 50) (As := [.int p1]) (st := []) Z (kX5_isPaper Z.2.2.2.2.2.2.2.2.2.1 (E := E) hE1 h) gX5_chance_X5_isPaper rfl rfl rfl hdX5_isPaper rfl rfl (by decide) (ew_oM hE1 _) rfl rfl rfl rfl dX5_chance_2 (fun r1 u2 h => ?_)
  refine ez_if_ne (pc := 5) (tgt := 14) Z dX5_chance_5 rfl (fun c3 => ?_) (fun c3 => ?_)
  · replace h := h.1 c3
    refine ez_iload (pc := 14) Z dX5_chance_14 4 rfl ?_
    refine ez_iconst (pc := 16) Z dX5_chance_16 ec_0 ?_
    refine ez_iconst (pc := 17) Z dX5_chance_17 ec_1 ?_
    refine ez_callSi (pc := 18) (As := [.int p4, .int (0 : Int32), .int (1 : Int32)]) (st := []) Z (kX5_in Z.2.2.2.2.2.2.2.2.2.1 (S := E s1) h) gX5_chance_X5_in rfl rfl rfl hdX5_in rfl rfl rfl rfl rfl dX5_chance_18 (fun r4 u5 h => ?_)
    refine ez_if_ne (pc := 21) (tgt := 31) Z dX5_chance_21 rfl (fun c6 => ?_) (fun c6 => ?_)
    · replace h := h.1 c6
      refine ez_iload_n (pc := 31) Z dX5_chance_31 2 rfl rfl ?_
      refine ez_if_lt (pc := 32) (tgt := 39) Z dX5_chance_32 rfl (fun c7 => ?_) (fun c7 => ?_)
      · replace h := h.1 c7
        refine ez_sub [(0, .ref (X.2.1 50))] [0] rfl ?_
        exact tX5_chance_39 hE1 Z hR  h
      · replace h := h.2 c7
        refine ez_iload_n (pc := 35) Z dX5_chance_35 3 rfl rfl ?_
        refine ez_if_ge (pc := 36) (tgt := 46) Z dX5_chance_36 rfl (fun c8 => ?_) (fun c8 => ?_)
        · replace h := h.1 c8
          refine ez_aload_n (pc := 46) Z dX5_chance_46 0 rfl rfl ?_
          refine ez_iload_n (pc := 47) Z dX5_chance_47 1 rfl rfl ?_
          refine ez_callVi (pc := 48) (r := 50) (As := [.int p1]) (st := []) Z (kX5_leftOf Z.2.2.2.2.2.2.2.2.2.1 (E := E) hE1 h) gX5_chance_X5_leftOf rfl rfl rfl hdX5_leftOf rfl rfl (by decide) (ew_oM hE1 _) rfl rfl rfl rfl dX5_chance_48 (fun r9 u10 h => ?_)
          refine ez_callSi (pc := 51) (As := [.int r9]) (st := []) Z (kX5_ones Z.2.2.2.2.2.2.2.2.2.1 (S := E s1) h) gX5_chance_X5_ones rfl rfl rfl hdX5_ones rfl rfl rfl rfl rfl dX5_chance_51 (fun r11 u12 h => ?_)
          refine ez_istore (pc := 54) (L' := [(5, .int r11), (0, .ref (X.2.1 50)), (1, .int p1), (2, .int p2), (3, .int p3), (4, .int p4)]) Z dX5_chance_54 (by decide) rfl ?_
          refine ez_iload_n (pc := 56) Z dX5_chance_56 3 rfl rfl ?_
          refine ez_bipush (pc := 57) Z dX5_chance_57 eb_100 ?_
          refine ez_icmp_gt (pc := 59) (tgt := 77) Z dX5_chance_59 rfl (fun c13 => ?_) (fun c13 => ?_)
          · replace h := h.1 c13
            refine ez_sub [(0, .ref (X.2.1 50))] [1] rfl ?_
            exact tX5_chance_77 hE1 Z hR  h
          · replace h := h.2 c13
            refine ez_iload_n (pc := 62) Z dX5_chance_62 4 rfl rfl ?_
            refine ez_bipush (pc := 63) Z dX5_chance_63 eb_8 ?_
            refine ez_icmp_gt (pc := 65) (tgt := 77) Z dX5_chance_65 rfl (fun c14 => ?_) (fun c14 => ?_)
            · replace h := h.1 c14
              refine ez_sub [(0, .ref (X.2.1 50))] [1] rfl ?_
              exact tX5_chance_77 hE1 Z hR  h
            · replace h := h.2 c14
              refine ez_iload_n (pc := 68) Z dX5_chance_68 4 rfl rfl ?_
              refine ez_iload (pc := 69) Z dX5_chance_69 0 rfl ?_
              refine ez_imul (pc := 71) Z dX5_chance_71 ?_
              refine ez_bipush (pc := 72) Z dX5_chance_72 eb_8 ?_
              refine ez_icmp_le (pc := 74) (tgt := 84) Z dX5_chance_74 rfl (fun c15 => ?_) (fun c15 => ?_)
              · replace h := h.1 c15
                refine ez_ldc2 (pc := 84) Z (List.mem_of_getElem? (i := 1) rfl) dX5_chance_84 ?_
                refine ez_iload_n (pc := 87) Z dX5_chance_87 3 rfl rfl ?_
                refine ez_i2l (pc := 88) Z dX5_chance_88 ?_
                refine ez_lsub (pc := 89) Z dX5_chance_89 ?_
                refine ez_iload_n (pc := 90) Z dX5_chance_90 4 rfl rfl ?_
                refine ez_callSl (pc := 91) (As := [.long ((100 : Int64) - p2.toInt64), .int p3]) (st := []) Z (kX5_power0 Z.2.2.2.2.2.2.2.2.2.1 (S := E s1) h) gX5_chance_X5_power0 rfl rfl rfl hdX5_power0 rfl rfl rfl rfl rfl dX5_chance_91 (fun r16 u17 h => ?_)
                refine ez_lstore (pc := 94) (L' := [(6, .long r16), (5, .int r11), (0, .ref (X.2.1 50)), (1, .int p1), (2, .int p2), (3, .int p3), (4, .int p4)]) Z dX5_chance_94 (by decide) rfl ?_
                refine ez_ldc2 (pc := 96) Z (List.mem_of_getElem? (i := 1) rfl) dX5_chance_96 ?_
                refine ez_iload_n (pc := 99) Z dX5_chance_99 5 rfl rfl ?_
                refine ez_callSl (pc := 100) (As := [.long (100 : Int64), .int p3]) (st := []) Z (kX5_power0 Z.2.2.2.2.2.2.2.2.2.1 (S := E s1) h) gX5_chance_X5_power0 rfl rfl rfl hdX5_power0 rfl rfl rfl rfl rfl dX5_chance_100 (fun r18 u19 h => ?_)
                refine ez_lload (pc := 103) Z dX5_chance_103 0 rfl ?_
                refine ez_lsub (pc := 105) Z dX5_chance_105 ?_
                refine ez_lstore (pc := 106) (L' := [(8, .long (r18 - r16)), (6, .long r16), (5, .int r11), (0, .ref (X.2.1 50)), (1, .int p1), (2, .int p2), (3, .int p3), (4, .int p4)]) Z dX5_chance_106 (by decide) rfl ?_
                refine ez_lconst (pc := 108) Z dX5_chance_108 el_0 ?_
                refine ez_lstore (pc := 109) (L' := [(10, .long (0 : Int64)), (8, .long (r18 - r16)), (6, .long r16), (5, .int r11), (0, .ref (X.2.1 50)), (1, .int p1), (2, .int p2), (3, .int p3), (4, .int p4)]) Z dX5_chance_109 (by decide) rfl ?_
                refine ez_lconst (pc := 111) Z dX5_chance_111 el_1 ?_
                refine ez_lstore (pc := 112) (L' := [(12, .long (1 : Int64)), (10, .long (0 : Int64)), (8, .long (r18 - r16)), (6, .long r16), (5, .int r11), (0, .ref (X.2.1 50)), (1, .int p1), (2, .int p2), (3, .int p3), (4, .int p4)]) Z dX5_chance_112 (by decide) rfl ?_
                refine ez_iconst (pc := 114) Z dX5_chance_114 ec_0 ?_
                refine ez_istore (pc := 115) (L' := [(14, .int (0 : Int32)), (12, .long (1 : Int64)), (10, .long (0 : Int64)), (8, .long (r18 - r16)), (6, .long r16), (5, .int r11), (0, .ref (X.2.1 50)), (1, .int p1), (2, .int p2), (3, .int p3), (4, .int p4)]) Z dX5_chance_115 (by decide) rfl ?_
                refine ez_sub [(0, .ref (X.2.1 50)), (1, .int p1), (3, .int p3), (4, .int p4), (5, .int r11), (6, .long r16), (8, .long (r18 - r16)), (10, .long (0 : Int64)), (12, .long (1 : Int64)), (14, .int (0 : Int32))] [6, 7, 9, 10, 5, 4, 3, 2, 1, 0] rfl ?_
                exact ew_ind (P := fun (x : Int64 × Int64 × Int32) => ew_W C X 15 (E s1) 117 [(0, .ref (X.2.1 50)), (1, .int p1), (3, .int p3), (4, .int p4), (5, .int r11), (6, .long r16), (8, .long (r18 - r16)), (10, .long x.1), (12, .long x.2.1), (14, .int x.2.2)] []) (fun R hR9 x h => tX5_chance_117 hE1 Z hR  hR9 h) h
              · replace h := h.2 c15
                refine ez_sub [(0, .ref (X.2.1 50))] [1] rfl ?_
                exact tX5_chance_77 hE1 Z hR  h
        · replace h := h.2 c8
          refine ez_sub [(0, .ref (X.2.1 50))] [0] rfl ?_
          exact tX5_chance_39 hE1 Z hR  h
    · replace h := h.2 c6
      refine ez_aload_n (pc := 24) Z dX5_chance_24 0 rfl rfl ?_
      refine ez_bipush (pc := 25) Z dX5_chance_25 eb_m2 ?_
      refine ez_callVl (pc := 27) (r := 50) (As := [.int (-2 : Int32)]) (st := []) Z (kX5_refuseLong Z.2.2.2.2.2.2.2.2.2.1 (E := E) hE1 h) gX5_chance_X5_refuseLong rfl rfl rfl hdX5_refuseLong rfl rfl (by decide) (ew_oM hE1 _) rfl rfl rfl rfl dX5_chance_27 (fun r20 m21 h => ?_)
      exact ez_lret (pc := 30) Z hR m21 h rfl dX5_chance_30
  · replace h := h.2 c3
    refine ez_aload_n (pc := 8) Z dX5_chance_8 0 rfl rfl ?_
    refine ez_iconst (pc := 9) Z dX5_chance_9 ec_m1 ?_
    refine ez_callVl (pc := 10) (r := 50) (As := [.int (-1 : Int32)]) (st := []) Z (kX5_refuseLong Z.2.2.2.2.2.2.2.2.2.1 (E := E) hE1 h) gX5_chance_X5_refuseLong rfl rfl rfl hdX5_refuseLong rfl rfl (by decide) (ew_oM hE1 _) rfl rfl rfl rfl dX5_chance_10 (fun r22 m23 h => ?_)
    exact ez_lret (pc := 13) Z hR m23 h rfl dX5_chance_13
theorem inX5_lawFor : ∀ w ∈ wsX50, w ∈ wsX5_lawFor := fun _ h => List.mem_cons_of_mem _ (List.mem_append_right _ (h))
theorem hdX5_lawFor : yX5_lawFor.cls = RX5 ∧ yX5_lawFor.cls ≠ "java/lang/invoke/MethodHandle" ∧ yX5_lawFor.cls ≠ "java/lang/invoke/VarHandle" ∧ (parseMethodDescriptor yX5_lawFor.desc).map (fun d => d.parameters.length) = some 2 := by decide +kernel
def wX5_lawFor_65 (R65 : Int32 × ew_M → Prop) (Q : ew_M → Prop) (v3 : Int32) (v4 : Int32) (s1 : ew_M) : Prop := ((5 : Int32) ≤ v4 → wX5_lays (fun (m3 : ew_M) => Q (ew_sI m3 15 v3)) s1) ∧ (¬ (5 : Int32) ≤ v4 → vp_in v4 5 ∧ (vp_in v4 5 ∧ (vp_in v4 5 ∧ (R65 (v4 + (1 : Int32), ew_sA s1 23 v4.toNatClampNeg ((s1.2.1 10 v4.toNatClampNeg) - (s1.2.1 23 v4.toNatClampNeg)))))))
def wX5_lawFor_46 (R46 : Int32 × ew_M → Prop) (Q : ew_M → Prop) (v2 : Int32) (v3 : Int32) (v4 : Int32) (s1 : ew_M) : Prop := (v2 ≤ v4 → ew_lp (fun (R : Int32 × ew_M → Prop) (x : Int32 × ew_M) => wX5_lawFor_65 R Q v3 x.1 x.2) ((0 : Int32), s1)) ∧ (¬ v2 ≤ v4 → wX5_passes (fun (m3 : ew_M) => R46 (v4 + (1 : Int32), m3)) s1)
def wX5_lawFor_17 (R17 : Int32 × ew_M → Prop) (Q : ew_M → Prop) (v2 : Int32) (v3 : Int32) (v4 : Int32) (s1 : ew_M) : Prop := ((5 : Int32) ≤ v4 → ew_lp (fun (R : Int32 × ew_M → Prop) (x : Int32 × ew_M) => wX5_lawFor_46 R Q v2 v3 x.1 x.2) ((0 : Int32), s1)) ∧ (¬ (5 : Int32) ≤ v4 → vp_in v4 5 ∧ (vp_in v4 5 ∧ (R17 (v4 + (1 : Int32), ew_sA s1 23 v4.toNatClampNeg (s1.2.1 10 v4.toNatClampNeg)))))
def wX5_lawFor (Q : ew_M → Prop) (p1 : Int32) (p2 : Int32) (s1 : ew_M) : Prop := wX5_keeps (fun (m2 : ew_M) => ew_lp (fun (R : Int32 × ew_M → Prop) (x : Int32 × ew_M) => wX5_lawFor_17 R Q p2 (s1.1 15) x.1 x.2) ((0 : Int32), (ew_sI m2 15 p1))) s1
set_option maxHeartbeats 4000000 in
set_option maxRecDepth 100000 in
theorem tX5_lawFor_65 {C : ew_C} {X : ew_X} {E : ew_M → ew_S} (hE1 : ew_GE X 50 (ew_GM X.2.1) E) (Z : ew_Z C X cX5_lawFor 5 RX5 wsX5_lawFor ({ frames := 6, cells := 0, slots := 0, locals := 134 } : Room) none) {Q : ew_M → Prop} {R65 : Int32 × ew_M → Prop} {v3 : Int32} {v4 : Int32} {s1 : ew_M} (hR : C.2.2.2.2.2.2.2.2.2.2 = MQ C.2.2.2.2.2.2.2.1 (va_Qv (fun (u : ew_M) => Q u) (fun (u : ew_M) => ew_wd X ((fun (u : ew_M) => E u) u)) X.2.2.1) C.2.2.2.2.2.2.1 C.2.2.2.2.1 0 0 X.2.2.1) (hR65 : ∀ x : Int32 × ew_M, R65 x → ew_W C X 5 (E x.2) 65 [(0, .ref (X.2.1 50)), (3, .int v3), (4, .int x.1)] []) (h : wX5_lawFor_65 R65 Q v3 v4 s1) : ew_W C X 5 (E s1) 65 [(0, .ref (X.2.1 50)), (3, .int v3), (4, .int v4)] [] := by
  refine ez_iload (pc := 65) Z dX5_lawFor_65 2 rfl ?_
  refine ez_iconst (pc := 67) Z dX5_lawFor_67 ec_5 ?_
  refine ez_icmp_ge (pc := 68) (tgt := 99) Z dX5_lawFor_68 rfl (fun c1 => ?_) (fun c1 => ?_)
  · replace h := h.1 c1
    refine ez_aload_n (pc := 99) Z dX5_lawFor_99 0 rfl rfl ?_
    refine ez_callVv (pc := 100) (r := 50) (As := []) (st := []) Z (kX5_lays Z.2.2.2.2.2.2.2.2.2.1 (E := E) hE1 h) gX5_lawFor_X5_lays rfl rfl rfl hdX5_lays rfl rfl (by decide) (ew_oM hE1 _) rfl rfl rfl rfl dX5_lawFor_100 (fun m3 h => ?_)
    refine ez_aload_n (pc := 103) Z dX5_lawFor_103 0 rfl rfl ?_
    refine ez_iload_n (pc := 104) Z dX5_lawFor_104 1 rfl rfl ?_
    refine pX5_law (pc := 105) (M := m3) (M' := ew_sI m3 15 v3) Z hE1 rfl inX5_lawFor (List.mem_of_getElem? (i := 1) rfl) dX5_lawFor_105 ?_
    exact ez_vret (pc := 108) Z hR (ew_sI m3 15 v3) h rfl dX5_lawFor_108
  · replace h := h.2 c1
    refine ez_aload_n (pc := 71) Z dX5_lawFor_71 0 rfl rfl ?_
    refine fX5_forces (pc := 72) (M := s1) Z hE1 inX5_lawFor (List.mem_of_getElem? (i := 2) rfl) dX5_lawFor_72 ?_
    refine ez_iload (pc := 75) Z dX5_lawFor_75 2 rfl ?_
    refine ez_aload_n (pc := 77) Z dX5_lawFor_77 0 rfl rfl ?_
    refine fX5_lasted (pc := 78) (M := s1) Z hE1 inX5_lawFor (List.mem_of_getElem? (i := 3) rfl) dX5_lawFor_78 ?_
    refine ez_iload (pc := 81) Z dX5_lawFor_81 2 rfl ?_
    refine ez_iald (pc := 83) (n := 5) (a := 10) (v := s1.2.1 10 v4.toNatClampNeg) (M := s1) Z hE1 11 rfl (by decide : 10 < 36) rfl rfl h.1 dX5_lawFor_83 ?_
    replace h := h.2
    refine ez_aload_n (pc := 84) Z dX5_lawFor_84 0 rfl rfl ?_
    refine fX5_forces (pc := 85) (M := s1) Z hE1 inX5_lawFor (List.mem_of_getElem? (i := 2) rfl) dX5_lawFor_85 ?_
    refine ez_iload (pc := 88) Z dX5_lawFor_88 2 rfl ?_
    refine ez_iald (pc := 90) (n := 5) (a := 23) (v := s1.2.1 23 v4.toNatClampNeg) (M := s1) Z hE1 24 rfl (by decide : 23 < 36) rfl rfl h.1 dX5_lawFor_90 ?_
    replace h := h.2
    refine ez_isub (pc := 91) Z dX5_lawFor_91 ?_
    refine ez_iast (pc := 92) (n := 5) (a := 23) (M := s1) (M' := ew_sA s1 23 v4.toNatClampNeg ((s1.2.1 10 v4.toNatClampNeg) - (s1.2.1 23 v4.toNatClampNeg))) Z hE1 24 rfl (by decide : 23 < 36) rfl rfl h.1 dX5_lawFor_92 ?_
    replace h := h.2
    refine ez_iinc (pc := 93) (L' := [(4, .int (v4 + (1 : Int32))), (0, .ref (X.2.1 50)), (3, .int v3)]) Z dX5_lawFor_93 2 rfl (ei_1 _) (by decide) rfl ?_
    refine ez_goto (pc := 96) (tgt := 65) Z dX5_lawFor_96 rfl ?_
    refine ez_sub [(0, .ref (X.2.1 50)), (3, .int v3), (4, .int (v4 + (1 : Int32)))] [1, 2, 0] rfl ?_
    exact hR65 _ h
set_option maxHeartbeats 4000000 in
set_option maxRecDepth 100000 in
theorem tX5_lawFor_46 {C : ew_C} {X : ew_X} {E : ew_M → ew_S} (hE1 : ew_GE X 50 (ew_GM X.2.1) E) (Z : ew_Z C X cX5_lawFor 5 RX5 wsX5_lawFor ({ frames := 6, cells := 0, slots := 0, locals := 134 } : Room) none) {Q : ew_M → Prop} {R46 : Int32 × ew_M → Prop} {v2 : Int32} {v3 : Int32} {v4 : Int32} {s1 : ew_M} (hR : C.2.2.2.2.2.2.2.2.2.2 = MQ C.2.2.2.2.2.2.2.1 (va_Qv (fun (u : ew_M) => Q u) (fun (u : ew_M) => ew_wd X ((fun (u : ew_M) => E u) u)) X.2.2.1) C.2.2.2.2.2.2.1 C.2.2.2.2.1 0 0 X.2.2.1) (hR46 : ∀ x : Int32 × ew_M, R46 x → ew_W C X 5 (E x.2) 46 [(0, .ref (X.2.1 50)), (2, .int v2), (3, .int v3), (4, .int x.1)] []) (h : wX5_lawFor_46 R46 Q v2 v3 v4 s1) : ew_W C X 5 (E s1) 46 [(0, .ref (X.2.1 50)), (2, .int v2), (3, .int v3), (4, .int v4)] [] := by
  refine ez_iload (pc := 46) Z dX5_lawFor_46 3 rfl ?_
  refine ez_iload_n (pc := 48) Z dX5_lawFor_48 1 rfl rfl ?_
  refine ez_icmp_ge (pc := 49) (tgt := 62) Z dX5_lawFor_49 rfl (fun c1 => ?_) (fun c1 => ?_)
  · replace h := h.1 c1
    refine ez_iconst (pc := 62) Z dX5_lawFor_62 ec_0 ?_
    refine ez_istore (pc := 63) (L' := [(4, .int (0 : Int32)), (0, .ref (X.2.1 50)), (2, .int v2), (3, .int v3)]) Z dX5_lawFor_63 (by decide) rfl ?_
    refine ez_sub [(0, .ref (X.2.1 50)), (3, .int v3), (4, .int (0 : Int32))] [1, 3, 0] rfl ?_
    exact ew_ind (P := fun (x : Int32 × ew_M) => ew_W C X 5 (E x.2) 65 [(0, .ref (X.2.1 50)), (3, .int v3), (4, .int x.1)] []) (fun R hR9 x h => tX5_lawFor_65 hE1 Z hR  hR9 h) h
  · replace h := h.2 c1
    refine ez_aload_n (pc := 52) Z dX5_lawFor_52 0 rfl rfl ?_
    refine ez_callVv (pc := 53) (r := 50) (As := []) (st := []) Z (kX5_passes Z.2.2.2.2.2.2.2.2.2.1 (E := E) hE1 h) gX5_lawFor_X5_passes rfl rfl rfl hdX5_passes rfl rfl (by decide) (ew_oM hE1 _) rfl rfl rfl rfl dX5_lawFor_53 (fun m3 h => ?_)
    refine ez_iinc (pc := 56) (L' := [(4, .int (v4 + (1 : Int32))), (0, .ref (X.2.1 50)), (2, .int v2), (3, .int v3)]) Z dX5_lawFor_56 3 rfl (ei_1 _) (by decide) rfl ?_
    refine ez_goto (pc := 59) (tgt := 46) Z dX5_lawFor_59 rfl ?_
    refine ez_sub [(0, .ref (X.2.1 50)), (2, .int v2), (3, .int v3), (4, .int (v4 + (1 : Int32)))] [1, 2, 3, 0] rfl ?_
    exact hR46 _ h
set_option maxHeartbeats 4000000 in
set_option maxRecDepth 100000 in
theorem tX5_lawFor_17 {C : ew_C} {X : ew_X} {E : ew_M → ew_S} (hE1 : ew_GE X 50 (ew_GM X.2.1) E) (Z : ew_Z C X cX5_lawFor 5 RX5 wsX5_lawFor ({ frames := 6, cells := 0, slots := 0, locals := 134 } : Room) none) {Q : ew_M → Prop} {R17 : Int32 × ew_M → Prop} {v2 : Int32} {v3 : Int32} {v4 : Int32} {s1 : ew_M} (hR : C.2.2.2.2.2.2.2.2.2.2 = MQ C.2.2.2.2.2.2.2.1 (va_Qv (fun (u : ew_M) => Q u) (fun (u : ew_M) => ew_wd X ((fun (u : ew_M) => E u) u)) X.2.2.1) C.2.2.2.2.2.2.1 C.2.2.2.2.1 0 0 X.2.2.1) (hR17 : ∀ x : Int32 × ew_M, R17 x → ew_W C X 5 (E x.2) 17 [(0, .ref (X.2.1 50)), (2, .int v2), (3, .int v3), (4, .int x.1)] []) (h : wX5_lawFor_17 R17 Q v2 v3 v4 s1) : ew_W C X 5 (E s1) 17 [(0, .ref (X.2.1 50)), (2, .int v2), (3, .int v3), (4, .int v4)] [] := by
  refine ez_iload (pc := 17) Z dX5_lawFor_17 3 rfl ?_
  refine ez_iconst (pc := 19) Z dX5_lawFor_19 ec_5 ?_
  refine ez_icmp_ge (pc := 20) (tgt := 43) Z dX5_lawFor_20 rfl (fun c1 => ?_) (fun c1 => ?_)
  · replace h := h.1 c1
    refine ez_iconst (pc := 43) Z dX5_lawFor_43 ec_0 ?_
    refine ez_istore (pc := 44) (L' := [(4, .int (0 : Int32)), (0, .ref (X.2.1 50)), (2, .int v2), (3, .int v3)]) Z dX5_lawFor_44 (by decide) rfl ?_
    refine ez_sub [(0, .ref (X.2.1 50)), (2, .int v2), (3, .int v3), (4, .int (0 : Int32))] [1, 2, 3, 0] rfl ?_
    exact ew_ind (P := fun (x : Int32 × ew_M) => ew_W C X 5 (E x.2) 46 [(0, .ref (X.2.1 50)), (2, .int v2), (3, .int v3), (4, .int x.1)] []) (fun R hR9 x h => tX5_lawFor_46 hE1 Z hR  hR9 h) h
  · replace h := h.2 c1
    refine ez_aload_n (pc := 23) Z dX5_lawFor_23 0 rfl rfl ?_
    refine fX5_forces (pc := 24) (M := s1) Z hE1 inX5_lawFor (List.mem_of_getElem? (i := 2) rfl) dX5_lawFor_24 ?_
    refine ez_iload (pc := 27) Z dX5_lawFor_27 3 rfl ?_
    refine ez_aload_n (pc := 29) Z dX5_lawFor_29 0 rfl rfl ?_
    refine fX5_lasted (pc := 30) (M := s1) Z hE1 inX5_lawFor (List.mem_of_getElem? (i := 3) rfl) dX5_lawFor_30 ?_
    refine ez_iload (pc := 33) Z dX5_lawFor_33 3 rfl ?_
    refine ez_iald (pc := 35) (n := 5) (a := 10) (v := s1.2.1 10 v4.toNatClampNeg) (M := s1) Z hE1 11 rfl (by decide : 10 < 36) rfl rfl h.1 dX5_lawFor_35 ?_
    replace h := h.2
    refine ez_iast (pc := 36) (n := 5) (a := 23) (M := s1) (M' := ew_sA s1 23 v4.toNatClampNeg (s1.2.1 10 v4.toNatClampNeg)) Z hE1 24 rfl (by decide : 23 < 36) rfl rfl h.1 dX5_lawFor_36 ?_
    replace h := h.2
    refine ez_iinc (pc := 37) (L' := [(4, .int (v4 + (1 : Int32))), (0, .ref (X.2.1 50)), (2, .int v2), (3, .int v3)]) Z dX5_lawFor_37 3 rfl (ei_1 _) (by decide) rfl ?_
    refine ez_goto (pc := 40) (tgt := 17) Z dX5_lawFor_40 rfl ?_
    refine ez_sub [(0, .ref (X.2.1 50)), (2, .int v2), (3, .int v3), (4, .int (v4 + (1 : Int32)))] [1, 2, 3, 0] rfl ?_
    exact hR17 _ h
set_option maxHeartbeats 4000000 in
set_option maxRecDepth 100000 in
theorem kX5_lawFor {X : ew_X} {l : Launch} (hX : ew_Ap X) {E : ew_M → ew_S} (hE1 : ew_GE X 50 (ew_GM X.2.1) E) {Q : ew_M → Prop} {p1 : Int32} {p2 : Int32} {s1 : ew_M} (h : wX5_lawFor Q p1 p2 s1) : Met l yX5_lawFor wsX5_lawFor ({ frames := 6, cells := 0, slots := 0, locals := 134 } : Room) (va_Pc [.ref (X.2.1 50), .int p1, .int p2] (ew_wd X (E s1))) (va_Qv (fun (u : ew_M) => Q u) (fun (u : ew_M) => ew_wd X ((fun (u : ew_M) => E u) u)) X.2.2.1) 0 0 X.2.2.1 := by
  refine ew_met (As := [.ref (X.2.1 50), .int p1, .int p2]) (L0 := [(0, .ref (X.2.1 50)), (1, .int p1), (2, .int p2)]) X l hX (by decide) rfl rfl rfl rfl (fun C hl Z hR => ?_)
  subst hl
  refine ez_aload_n (pc := 0) Z dX5_lawFor_0 0 rfl rfl ?_
  refine fX5_law (pc := 1) (v := s1.1 15) Z hE1 rfl inX5_lawFor (List.mem_of_getElem? (i := 1) rfl) dX5_lawFor_1 ?_
  refine ez_istore_n (pc := 4) (L' := [(3, .int (s1.1 15)), (0, .ref (X.2.1 50)), (1, .int p1), (2, .int p2)]) Z dX5_lawFor_4 rfl (by decide) rfl ?_
  refine ez_aload_n (pc := 5) Z dX5_lawFor_5 1 rfl rfl ?_
  refine ez_callVv (pc := 6) (r := 50) (As := []) (st := []) Z (kX5_keeps Z.2.2.2.2.2.2.2.2.2.1 (E := E) hE1 h) gX5_lawFor_X5_keeps rfl rfl rfl hdX5_keeps rfl rfl (by decide) (ew_oM hE1 _) rfl rfl rfl rfl dX5_lawFor_6 (fun m2 h => ?_)
  refine ez_aload_n (pc := 9) Z dX5_lawFor_9 1 rfl rfl ?_
  refine ez_iload_n (pc := 10) Z dX5_lawFor_10 2 rfl rfl ?_
  refine pX5_law (pc := 11) (M := m2) (M' := ew_sI m2 15 p1) Z hE1 rfl inX5_lawFor (List.mem_of_getElem? (i := 1) rfl) dX5_lawFor_11 ?_
  refine ez_iconst (pc := 14) Z dX5_lawFor_14 ec_0 ?_
  refine ez_istore (pc := 15) (L' := [(4, .int (0 : Int32)), (3, .int (s1.1 15)), (0, .ref (X.2.1 50)), (1, .int p1), (2, .int p2)]) Z dX5_lawFor_15 (by decide) rfl ?_
  refine ez_sub [(0, .ref (X.2.1 50)), (2, .int p2), (3, .int (s1.1 15)), (4, .int (0 : Int32))] [2, 4, 1, 0] rfl ?_
  exact ew_ind (P := fun (x : Int32 × ew_M) => ew_W C X 5 (E x.2) 17 [(0, .ref (X.2.1 50)), (2, .int p2), (3, .int (s1.1 15)), (4, .int x.1)] []) (fun R hR9 x h => tX5_lawFor_17 hE1 Z hR  hR9 h) h
theorem inX5_laws : ∀ w ∈ wsX50, w ∈ wsX5_laws := fun _ h => List.mem_cons_of_mem _ (List.mem_append_right _ (h))
theorem hdX5_laws : yX5_laws.cls = RX5 ∧ yX5_laws.cls ≠ "java/lang/invoke/MethodHandle" ∧ yX5_laws.cls ≠ "java/lang/invoke/VarHandle" ∧ (parseMethodDescriptor yX5_laws.desc).map (fun d => d.parameters.length) = some 3 := by decide +kernel
def wX5_laws (Q : Int32 → ew_M → Prop) (p1 : Int32) (p2 : Int32) (p3 : Int32) (s1 : ew_M) : Prop := wX5_isPaper (fun (r1 : Int32) => (¬ r1 = 0 → wX5_in (fun (r4 : Int32) => (¬ r4 = 0 → ((1 : Int32) ≤ p3 → (p3 ≤ (60 : Int32) → wX5_lawFor (fun (m10 : ew_M) => vp_in p1 5 ∧ (Q (m10.2.1 23 p1.toNatClampNeg) m10)) p2 p3 s1) ∧ (¬ p3 ≤ (60 : Int32) → wX5_refuse (fun (r11 : Int32) (m12 : ew_M) => Q r11 m12) (-6 : Int32) s1)) ∧ (¬ (1 : Int32) ≤ p3 → wX5_refuse (fun (r13 : Int32) (m14 : ew_M) => Q r13 m14) (-4 : Int32) s1)) ∧ (r4 = 0 → wX5_refuse (fun (r15 : Int32) (m16 : ew_M) => Q r15 m16) (-2 : Int32) s1)) p2 (0 : Int32) (4 : Int32)) ∧ (r1 = 0 → wX5_refuse (fun (r17 : Int32) (m18 : ew_M) => Q r17 m18) (-1 : Int32) s1)) p1 s1
set_option maxHeartbeats 4000000 in
set_option maxRecDepth 100000 in
theorem kX5_laws {X : ew_X} {l : Launch} (hX : ew_Ap X) {E : ew_M → ew_S} (hE1 : ew_GE X 50 (ew_GM X.2.1) E) {Q : Int32 → ew_M → Prop} {p1 : Int32} {p2 : Int32} {p3 : Int32} {s1 : ew_M} (h : wX5_laws Q p1 p2 p3 s1) : Met l yX5_laws wsX5_laws ({ frames := 7, cells := 0, slots := 0, locals := 158 } : Room) (va_Pc [.ref (X.2.1 50), .int p1, .int p2, .int p3] (ew_wd X (E s1))) (va_Qi (fun (r : Int32) (u : ew_M) => Q r u) (fun (u : ew_M) => ew_wd X ((fun (u : ew_M) => E u) u)) X.2.2.1) 0 0 X.2.2.1 := by
  refine ew_met (As := [.ref (X.2.1 50), .int p1, .int p2, .int p3]) (L0 := [(0, .ref (X.2.1 50)), (1, .int p1), (2, .int p2), (3, .int p3)]) X l hX (by decide) rfl rfl rfl rfl (fun C hl Z hR => ?_)
  subst hl
  refine ez_aload_n (pc := 0) Z dX5_laws_0 0 rfl rfl ?_
  refine ez_iload_n (pc := 1) Z dX5_laws_1 1 rfl rfl ?_
  refine ez_callVi (pc := 2) (r := 50) (As := [.int p1]) (st := []) Z (kX5_isPaper Z.2.2.2.2.2.2.2.2.2.1 (E := E) hE1 h) gX5_laws_X5_isPaper rfl rfl rfl hdX5_isPaper rfl rfl (by decide) (ew_oM hE1 _) rfl rfl rfl rfl dX5_laws_2 (fun r1 u2 h => ?_)
  refine ez_if_ne (pc := 5) (tgt := 14) Z dX5_laws_5 rfl (fun c3 => ?_) (fun c3 => ?_)
  · replace h := h.1 c3
    refine ez_iload_n (pc := 14) Z dX5_laws_14 2 rfl rfl ?_
    refine ez_iconst (pc := 15) Z dX5_laws_15 ec_0 ?_
    refine ez_iconst (pc := 16) Z dX5_laws_16 ec_4 ?_
    refine ez_callSi (pc := 17) (As := [.int p2, .int (0 : Int32), .int (4 : Int32)]) (st := []) Z (kX5_in Z.2.2.2.2.2.2.2.2.2.1 (S := E s1) h) gX5_laws_X5_in rfl rfl rfl hdX5_in rfl rfl rfl rfl rfl dX5_laws_17 (fun r4 u5 h => ?_)
    refine ez_if_ne (pc := 20) (tgt := 30) Z dX5_laws_20 rfl (fun c6 => ?_) (fun c6 => ?_)
    · replace h := h.1 c6
      refine ez_iload_n (pc := 30) Z dX5_laws_30 3 rfl rfl ?_
      refine ez_iconst (pc := 31) Z dX5_laws_31 ec_1 ?_
      refine ez_icmp_ge (pc := 32) (tgt := 42) Z dX5_laws_32 rfl (fun c7 => ?_) (fun c7 => ?_)
      · replace h := h.1 c7
        refine ez_iload_n (pc := 42) Z dX5_laws_42 3 rfl rfl ?_
        refine ez_bipush (pc := 43) Z dX5_laws_43 eb_60 ?_
        refine ez_icmp_le (pc := 45) (tgt := 55) Z dX5_laws_45 rfl (fun c8 => ?_) (fun c8 => ?_)
        · replace h := h.1 c8
          refine ez_aload_n (pc := 55) Z dX5_laws_55 0 rfl rfl ?_
          refine ez_iload_n (pc := 56) Z dX5_laws_56 2 rfl rfl ?_
          refine ez_iload_n (pc := 57) Z dX5_laws_57 3 rfl rfl ?_
          refine ez_callVv (pc := 58) (r := 50) (As := [.int p2, .int p3]) (st := []) Z (kX5_lawFor Z.2.2.2.2.2.2.2.2.2.1 (E := E) hE1 h) gX5_laws_X5_lawFor rfl rfl rfl hdX5_lawFor rfl rfl (by decide) (ew_oM hE1 _) rfl rfl rfl rfl dX5_laws_58 (fun m10 h => ?_)
          refine ez_aload_n (pc := 61) Z dX5_laws_61 0 rfl rfl ?_
          refine fX5_forces (pc := 62) (M := m10) Z hE1 inX5_laws (List.mem_of_getElem? (i := 1) rfl) dX5_laws_62 ?_
          refine ez_iload_n (pc := 65) Z dX5_laws_65 1 rfl rfl ?_
          refine ez_iald (pc := 66) (n := 5) (a := 23) (v := m10.2.1 23 p1.toNatClampNeg) (M := m10) Z hE1 24 rfl (by decide : 23 < 36) rfl rfl h.1 dX5_laws_66 ?_
          replace h := h.2
          exact ez_iret (pc := 67) Z hR m10 h rfl dX5_laws_67
        · replace h := h.2 c8
          refine ez_aload_n (pc := 48) Z dX5_laws_48 0 rfl rfl ?_
          refine ez_bipush (pc := 49) Z dX5_laws_49 eb_m6 ?_
          refine ez_callVi (pc := 51) (r := 50) (As := [.int (-6 : Int32)]) (st := []) Z (kX5_refuse Z.2.2.2.2.2.2.2.2.2.1 (E := E) hE1 h) gX5_laws_X5_refuse rfl rfl rfl hdX5_refuse rfl rfl (by decide) (ew_oM hE1 _) rfl rfl rfl rfl dX5_laws_51 (fun r11 m12 h => ?_)
          exact ez_iret (pc := 54) Z hR m12 h rfl dX5_laws_54
      · replace h := h.2 c7
        refine ez_aload_n (pc := 35) Z dX5_laws_35 0 rfl rfl ?_
        refine ez_bipush (pc := 36) Z dX5_laws_36 eb_m4 ?_
        refine ez_callVi (pc := 38) (r := 50) (As := [.int (-4 : Int32)]) (st := []) Z (kX5_refuse Z.2.2.2.2.2.2.2.2.2.1 (E := E) hE1 h) gX5_laws_X5_refuse rfl rfl rfl hdX5_refuse rfl rfl (by decide) (ew_oM hE1 _) rfl rfl rfl rfl dX5_laws_38 (fun r13 m14 h => ?_)
        exact ez_iret (pc := 41) Z hR m14 h rfl dX5_laws_41
    · replace h := h.2 c6
      refine ez_aload_n (pc := 23) Z dX5_laws_23 0 rfl rfl ?_
      refine ez_bipush (pc := 24) Z dX5_laws_24 eb_m2 ?_
      refine ez_callVi (pc := 26) (r := 50) (As := [.int (-2 : Int32)]) (st := []) Z (kX5_refuse Z.2.2.2.2.2.2.2.2.2.1 (E := E) hE1 h) gX5_laws_X5_refuse rfl rfl rfl hdX5_refuse rfl rfl (by decide) (ew_oM hE1 _) rfl rfl rfl rfl dX5_laws_26 (fun r15 m16 h => ?_)
      exact ez_iret (pc := 29) Z hR m16 h rfl dX5_laws_29
  · replace h := h.2 c3
    refine ez_aload_n (pc := 8) Z dX5_laws_8 0 rfl rfl ?_
    refine ez_iconst (pc := 9) Z dX5_laws_9 ec_m1 ?_
    refine ez_callVi (pc := 10) (r := 50) (As := [.int (-1 : Int32)]) (st := []) Z (kX5_refuse Z.2.2.2.2.2.2.2.2.2.1 (E := E) hE1 h) gX5_laws_X5_refuse rfl rfl rfl hdX5_refuse rfl rfl (by decide) (ew_oM hE1 _) rfl rfl rfl rfl dX5_laws_10 (fun r17 m18 h => ?_)
    exact ez_iret (pc := 13) Z hR m18 h rfl dX5_laws_13
theorem inX5_lasting : ∀ w ∈ wsX50, w ∈ wsX5_lasting := fun _ h => List.mem_cons_of_mem _ (List.mem_append_right _ (h))
theorem hdX5_lasting : yX5_lasting.cls = RX5 ∧ yX5_lasting.cls ≠ "java/lang/invoke/MethodHandle" ∧ yX5_lasting.cls ≠ "java/lang/invoke/VarHandle" ∧ (parseMethodDescriptor yX5_lasting.desc).map (fun d => d.parameters.length) = some 1 := by decide +kernel
def wX5_lasting_73 (R39 : Int32 × Int32 → Prop) (Q : Int32 → ew_M → Prop) (v3 : Int32) (t0 : Int32) (s1 : ew_M) : Prop := R39 (t0, v3 + (1 : Int32))
def wX5_lasting_68 (R39 : Int32 × Int32 → Prop) (Q : Int32 → ew_M → Prop) (v3 : Int32) (s1 : ew_M) : Prop := wX5_lasting_73 R39 Q v3 v3 s1
def wX5_lasting_39 (R39 : Int32 × Int32 → Prop) (Q : Int32 → ew_M → Prop) (v2 : Int32) (v3 : Int32) (s1 : ew_M) : Prop := ((s1.1 5) ≤ v3 → Q v2 s1) ∧ (¬ (s1.1 5) ≤ v3 → (v2 = (-9 : Int32) → wX5_lasting_68 R39 Q v3 s1) ∧ (¬ v2 = (-9 : Int32) → vp_in v3 5 ∧ (vp_in v2 5 ∧ (((s1.2.1 23 v3.toNatClampNeg) ≤ (s1.2.1 23 v2.toNatClampNeg) → wX5_lasting_73 R39 Q v3 v2 s1) ∧ (¬ (s1.2.1 23 v3.toNatClampNeg) ≤ (s1.2.1 23 v2.toNatClampNeg) → wX5_lasting_68 R39 Q v3 s1)))))
def wX5_lasting (Q : Int32 → ew_M → Prop) (p1 : Int32) (s1 : ew_M) : Prop := ((1 : Int32) ≤ p1 → (p1 ≤ (60 : Int32) → wX5_lawFor (fun (m4 : ew_M) => ew_lp (fun (R : Int32 × Int32 → Prop) (x : Int32 × Int32) => wX5_lasting_39 R Q x.1 x.2 m4) ((-9 : Int32), (0 : Int32))) (s1.1 15) p1 s1) ∧ (¬ p1 ≤ (60 : Int32) → wX5_refuse (fun (r5 : Int32) (m6 : ew_M) => Q r5 m6) (-6 : Int32) s1)) ∧ (¬ (1 : Int32) ≤ p1 → wX5_refuse (fun (r7 : Int32) (m8 : ew_M) => Q r7 m8) (-4 : Int32) s1)
set_option maxHeartbeats 4000000 in
set_option maxRecDepth 100000 in
theorem tX5_lasting_73 {C : ew_C} {X : ew_X} {E : ew_M → ew_S} (hE1 : ew_GE X 50 (ew_GM X.2.1) E) (Z : ew_Z C X cX5_lasting 4 RX5 wsX5_lasting ({ frames := 7, cells := 0, slots := 0, locals := 158 } : Room) (some .int)) {Q : Int32 → ew_M → Prop} {R39 : Int32 × Int32 → Prop} {v3 : Int32} {t0 : Int32} {s1 : ew_M} (hR : C.2.2.2.2.2.2.2.2.2.2 = MQ C.2.2.2.2.2.2.2.1 (va_Qi (fun (r : Int32) (u : ew_M) => Q r u) (fun (u : ew_M) => ew_wd X ((fun (u : ew_M) => E u) u)) X.2.2.1) C.2.2.2.2.2.2.1 C.2.2.2.2.1 0 0 X.2.2.1) (hR39 : ∀ x : Int32 × Int32, R39 x → ew_W C X 4 (E s1) 39 [(0, .ref (X.2.1 50)), (2, .int x.1), (3, .int x.2)] []) (h : wX5_lasting_73 R39 Q v3 t0 s1) : ew_W C X 4 (E s1) 73 [(0, .ref (X.2.1 50)), (3, .int v3)] [.int t0] := by
  refine ez_istore_n (pc := 73) (L' := [(2, .int t0), (0, .ref (X.2.1 50)), (3, .int v3)]) Z dX5_lasting_73 rfl (by decide) rfl ?_
  refine ez_iinc (pc := 74) (L' := [(3, .int (v3 + (1 : Int32))), (2, .int t0), (0, .ref (X.2.1 50))]) Z dX5_lasting_74 2 rfl (ei_1 _) (by decide) rfl ?_
  refine ez_goto (pc := 77) (tgt := 39) Z dX5_lasting_77 rfl ?_
  refine ez_sub [(0, .ref (X.2.1 50)), (2, .int t0), (3, .int (v3 + (1 : Int32)))] [2, 1, 0] rfl ?_
  exact hR39 _ h
set_option maxHeartbeats 4000000 in
set_option maxRecDepth 100000 in
theorem tX5_lasting_68 {C : ew_C} {X : ew_X} {E : ew_M → ew_S} (hE1 : ew_GE X 50 (ew_GM X.2.1) E) (Z : ew_Z C X cX5_lasting 4 RX5 wsX5_lasting ({ frames := 7, cells := 0, slots := 0, locals := 158 } : Room) (some .int)) {Q : Int32 → ew_M → Prop} {R39 : Int32 × Int32 → Prop} {v3 : Int32} {s1 : ew_M} (hR : C.2.2.2.2.2.2.2.2.2.2 = MQ C.2.2.2.2.2.2.2.1 (va_Qi (fun (r : Int32) (u : ew_M) => Q r u) (fun (u : ew_M) => ew_wd X ((fun (u : ew_M) => E u) u)) X.2.2.1) C.2.2.2.2.2.2.1 C.2.2.2.2.1 0 0 X.2.2.1) (hR39 : ∀ x : Int32 × Int32, R39 x → ew_W C X 4 (E s1) 39 [(0, .ref (X.2.1 50)), (2, .int x.1), (3, .int x.2)] []) (h : wX5_lasting_68 R39 Q v3 s1) : ew_W C X 4 (E s1) 68 [(0, .ref (X.2.1 50)), (3, .int v3)] [] := by
  refine ez_iload_n (pc := 68) Z dX5_lasting_68 1 rfl rfl ?_
  refine ez_goto (pc := 69) (tgt := 73) Z dX5_lasting_69 rfl ?_
  exact tX5_lasting_73 hE1 Z hR hR39 h
set_option maxHeartbeats 4000000 in
set_option maxRecDepth 100000 in
theorem tX5_lasting_39 {C : ew_C} {X : ew_X} {E : ew_M → ew_S} (hE1 : ew_GE X 50 (ew_GM X.2.1) E) (Z : ew_Z C X cX5_lasting 4 RX5 wsX5_lasting ({ frames := 7, cells := 0, slots := 0, locals := 158 } : Room) (some .int)) {Q : Int32 → ew_M → Prop} {R39 : Int32 × Int32 → Prop} {v2 : Int32} {v3 : Int32} {s1 : ew_M} (hR : C.2.2.2.2.2.2.2.2.2.2 = MQ C.2.2.2.2.2.2.2.1 (va_Qi (fun (r : Int32) (u : ew_M) => Q r u) (fun (u : ew_M) => ew_wd X ((fun (u : ew_M) => E u) u)) X.2.2.1) C.2.2.2.2.2.2.1 C.2.2.2.2.1 0 0 X.2.2.1) (hR39 : ∀ x : Int32 × Int32, R39 x → ew_W C X 4 (E s1) 39 [(0, .ref (X.2.1 50)), (2, .int x.1), (3, .int x.2)] []) (h : wX5_lasting_39 R39 Q v2 v3 s1) : ew_W C X 4 (E s1) 39 [(0, .ref (X.2.1 50)), (2, .int v2), (3, .int v3)] [] := by
  refine ez_iload_n (pc := 39) Z dX5_lasting_39 2 rfl rfl ?_
  refine ez_aload_n (pc := 40) Z dX5_lasting_40 0 rfl rfl ?_
  refine fX5_papers (pc := 41) (v := s1.1 5) Z hE1 rfl inX5_lasting (List.mem_of_getElem? (i := 2) rfl) dX5_lasting_41 ?_
  refine ez_icmp_ge (pc := 44) (tgt := 80) Z dX5_lasting_44 rfl (fun c1 => ?_) (fun c1 => ?_)
  · replace h := h.1 c1
    refine ez_iload_n (pc := 80) Z dX5_lasting_80 1 rfl rfl ?_
    exact ez_iret (pc := 81) Z hR s1 h rfl dX5_lasting_81
  · replace h := h.2 c1
    refine ez_iload_n (pc := 47) Z dX5_lasting_47 1 rfl rfl ?_
    refine ez_bipush (pc := 48) Z dX5_lasting_48 eb_m9 ?_
    refine ez_icmp_eq (pc := 50) (tgt := 68) Z dX5_lasting_50 rfl (fun c2 => ?_) (fun c2 => ?_)
    · replace h := h.1 c2
      refine ez_sub [(0, .ref (X.2.1 50)), (3, .int v3)] [0, 2] rfl ?_
      exact tX5_lasting_68 hE1 Z hR hR39 h
    · replace h := h.2 c2
      refine ez_aload_n (pc := 53) Z dX5_lasting_53 0 rfl rfl ?_
      refine fX5_forces (pc := 54) (M := s1) Z hE1 inX5_lasting (List.mem_of_getElem? (i := 3) rfl) dX5_lasting_54 ?_
      refine ez_iload_n (pc := 57) Z dX5_lasting_57 2 rfl rfl ?_
      refine ez_iald (pc := 58) (n := 5) (a := 23) (v := s1.2.1 23 v3.toNatClampNeg) (M := s1) Z hE1 24 rfl (by decide : 23 < 36) rfl rfl h.1 dX5_lasting_58 ?_
      replace h := h.2
      refine ez_aload_n (pc := 59) Z dX5_lasting_59 0 rfl rfl ?_
      refine fX5_forces (pc := 60) (M := s1) Z hE1 inX5_lasting (List.mem_of_getElem? (i := 3) rfl) dX5_lasting_60 ?_
      refine ez_iload_n (pc := 63) Z dX5_lasting_63 1 rfl rfl ?_
      refine ez_iald (pc := 64) (n := 5) (a := 23) (v := s1.2.1 23 v2.toNatClampNeg) (M := s1) Z hE1 24 rfl (by decide : 23 < 36) rfl rfl h.1 dX5_lasting_64 ?_
      replace h := h.2
      refine ez_icmp_le (pc := 65) (tgt := 72) Z dX5_lasting_65 rfl (fun c3 => ?_) (fun c3 => ?_)
      · replace h := h.1 c3
        refine ez_iload_n (pc := 72) Z dX5_lasting_72 1 rfl rfl ?_
        refine ez_sub [(0, .ref (X.2.1 50)), (3, .int v3)] [0, 2] rfl ?_
        exact tX5_lasting_73 hE1 Z hR hR39 h
      · replace h := h.2 c3
        refine ez_sub [(0, .ref (X.2.1 50)), (3, .int v3)] [0, 2] rfl ?_
        exact tX5_lasting_68 hE1 Z hR hR39 h
set_option maxHeartbeats 4000000 in
set_option maxRecDepth 100000 in
theorem kX5_lasting {X : ew_X} {l : Launch} (hX : ew_Ap X) {E : ew_M → ew_S} (hE1 : ew_GE X 50 (ew_GM X.2.1) E) {Q : Int32 → ew_M → Prop} {p1 : Int32} {s1 : ew_M} (h : wX5_lasting Q p1 s1) : Met l yX5_lasting wsX5_lasting ({ frames := 7, cells := 0, slots := 0, locals := 158 } : Room) (va_Pc [.ref (X.2.1 50), .int p1] (ew_wd X (E s1))) (va_Qi (fun (r : Int32) (u : ew_M) => Q r u) (fun (u : ew_M) => ew_wd X ((fun (u : ew_M) => E u) u)) X.2.2.1) 0 0 X.2.2.1 := by
  refine ew_met (As := [.ref (X.2.1 50), .int p1]) (L0 := [(0, .ref (X.2.1 50)), (1, .int p1)]) X l hX (by decide) rfl rfl rfl rfl (fun C hl Z hR => ?_)
  subst hl
  refine ez_iload_n (pc := 0) Z dX5_lasting_0 1 rfl rfl ?_
  refine ez_iconst (pc := 1) Z dX5_lasting_1 ec_1 ?_
  refine ez_icmp_ge (pc := 2) (tgt := 12) Z dX5_lasting_2 rfl (fun c1 => ?_) (fun c1 => ?_)
  · replace h := h.1 c1
    refine ez_iload_n (pc := 12) Z dX5_lasting_12 1 rfl rfl ?_
    refine ez_bipush (pc := 13) Z dX5_lasting_13 eb_60 ?_
    refine ez_icmp_le (pc := 15) (tgt := 25) Z dX5_lasting_15 rfl (fun c2 => ?_) (fun c2 => ?_)
    · replace h := h.1 c2
      refine ez_aload_n (pc := 25) Z dX5_lasting_25 0 rfl rfl ?_
      refine ez_aload_n (pc := 26) Z dX5_lasting_26 0 rfl rfl ?_
      refine fX5_law (pc := 27) (v := s1.1 15) Z hE1 rfl inX5_lasting (List.mem_of_getElem? (i := 1) rfl) dX5_lasting_27 ?_
      refine ez_iload_n (pc := 30) Z dX5_lasting_30 1 rfl rfl ?_
      refine ez_callVv (pc := 31) (r := 50) (As := [.int (s1.1 15), .int p1]) (st := []) Z (kX5_lawFor Z.2.2.2.2.2.2.2.2.2.1 (E := E) hE1 h) gX5_lasting_X5_lawFor rfl rfl rfl hdX5_lawFor rfl rfl (by decide) (ew_oM hE1 _) rfl rfl rfl rfl dX5_lasting_31 (fun m4 h => ?_)
      refine ez_bipush (pc := 34) Z dX5_lasting_34 eb_m9 ?_
      refine ez_istore_n (pc := 36) (L' := [(2, .int (-9 : Int32)), (0, .ref (X.2.1 50)), (1, .int p1)]) Z dX5_lasting_36 rfl (by decide) rfl ?_
      refine ez_iconst (pc := 37) Z dX5_lasting_37 ec_0 ?_
      refine ez_istore_n (pc := 38) (L' := [(3, .int (0 : Int32)), (2, .int (-9 : Int32)), (0, .ref (X.2.1 50)), (1, .int p1)]) Z dX5_lasting_38 rfl (by decide) rfl ?_
      refine ez_sub [(0, .ref (X.2.1 50)), (2, .int (-9 : Int32)), (3, .int (0 : Int32))] [2, 1, 0] rfl ?_
      exact ew_ind (P := fun (x : Int32 × Int32) => ew_W C X 4 (E m4) 39 [(0, .ref (X.2.1 50)), (2, .int x.1), (3, .int x.2)] []) (fun R hR9 x h => tX5_lasting_39 hE1 Z hR  hR9 h) h
    · replace h := h.2 c2
      refine ez_aload_n (pc := 18) Z dX5_lasting_18 0 rfl rfl ?_
      refine ez_bipush (pc := 19) Z dX5_lasting_19 eb_m6 ?_
      refine ez_callVi (pc := 21) (r := 50) (As := [.int (-6 : Int32)]) (st := []) Z (kX5_refuse Z.2.2.2.2.2.2.2.2.2.1 (E := E) hE1 h) gX5_lasting_X5_refuse rfl rfl rfl hdX5_refuse rfl rfl (by decide) (ew_oM hE1 _) rfl rfl rfl rfl dX5_lasting_21 (fun r5 m6 h => ?_)
      exact ez_iret (pc := 24) Z hR m6 h rfl dX5_lasting_24
  · replace h := h.2 c1
    refine ez_aload_n (pc := 5) Z dX5_lasting_5 0 rfl rfl ?_
    refine ez_bipush (pc := 6) Z dX5_lasting_6 eb_m4 ?_
    refine ez_callVi (pc := 8) (r := 50) (As := [.int (-4 : Int32)]) (st := []) Z (kX5_refuse Z.2.2.2.2.2.2.2.2.2.1 (E := E) hE1 h) gX5_lasting_X5_refuse rfl rfl rfl hdX5_refuse rfl rfl (by decide) (ew_oM hE1 _) rfl rfl rfl rfl dX5_lasting_8 (fun r7 m8 h => ?_)
    exact ez_iret (pc := 11) Z hR m8 h rfl dX5_lasting_11
theorem inX5_draws : ∀ w ∈ wsX50, w ∈ wsX5_draws := fun _ h => List.mem_cons_of_mem _ (List.mem_append_right _ (h))
theorem hdX5_draws : yX5_draws.cls = RX5 ∧ yX5_draws.cls ≠ "java/lang/invoke/MethodHandle" ∧ yX5_draws.cls ≠ "java/lang/invoke/VarHandle" ∧ (parseMethodDescriptor yX5_draws.desc).map (fun d => d.parameters.length) = some 1 := by decide +kernel
def wX5_draws (Q : Int32 → ew_M → Prop) (p1 : Int32) (s1 : ew_M) : Prop := (¬ p1 = 0) ∧ (∀ (y1 : Int32), y1 = (((((s1.1 40) * (1664525 : Int32)) + (1013904223 : Int32)) &&& (2147483647 : Int32)) / (256 : Int32)) - (((((s1.1 40) * (1664525 : Int32)) + (1013904223 : Int32)) &&& (2147483647 : Int32)) / (256 : Int32)) / p1 * p1 → Q y1 (ew_sI s1 40 (((s1.1 40) * (1664525 : Int32)) + (1013904223 : Int32))))
set_option maxHeartbeats 4000000 in
set_option maxRecDepth 100000 in
theorem kX5_draws {X : ew_X} {l : Launch} (hX : ew_Ap X) {E : ew_M → ew_S} (hE1 : ew_GE X 50 (ew_GM X.2.1) E) {Q : Int32 → ew_M → Prop} {p1 : Int32} {s1 : ew_M} (h : wX5_draws Q p1 s1) : Met l yX5_draws wsX5_draws ({ frames := 0, cells := 0, slots := 0, locals := 0 } : Room) (va_Pc [.ref (X.2.1 50), .int p1] (ew_wd X (E s1))) (va_Qi (fun (r : Int32) (u : ew_M) => Q r u) (fun (u : ew_M) => ew_wd X ((fun (u : ew_M) => E u) u)) X.2.2.1) 0 0 X.2.2.1 := by
  refine ew_met (As := [.ref (X.2.1 50), .int p1]) (L0 := [(0, .ref (X.2.1 50)), (1, .int p1)]) X l hX (by decide) rfl rfl rfl rfl (fun C hl Z hR => ?_)
  subst hl
  refine ez_aload_n (pc := 0) Z dX5_draws_0 0 rfl rfl ?_
  refine ez_aload_n (pc := 1) Z dX5_draws_1 0 rfl rfl ?_
  refine fX5_lot (pc := 2) (v := s1.1 40) Z hE1 rfl inX5_draws (List.mem_of_getElem? (i := 1) rfl) dX5_draws_2 ?_
  refine ez_ldcw (pc := 5) Z (List.mem_of_getElem? (i := 2) rfl) dX5_draws_5 ?_
  refine ez_imul (pc := 8) Z dX5_draws_8 ?_
  refine ez_ldcw (pc := 9) Z (List.mem_of_getElem? (i := 3) rfl) dX5_draws_9 ?_
  refine ez_iadd (pc := 12) Z dX5_draws_12 ?_
  refine pX5_lot (pc := 13) (M := s1) (M' := ew_sI s1 40 (((s1.1 40) * (1664525 : Int32)) + (1013904223 : Int32))) Z hE1 rfl inX5_draws (List.mem_of_getElem? (i := 1) rfl) dX5_draws_13 ?_
  refine ez_aload_n (pc := 16) Z dX5_draws_16 0 rfl rfl ?_
  refine fX5_lot (pc := 17) (v := ((s1.1 40) * (1664525 : Int32)) + (1013904223 : Int32)) Z hE1 rfl inX5_draws (List.mem_of_getElem? (i := 1) rfl) dX5_draws_17 ?_
  refine ez_ldcw (pc := 20) Z (List.mem_of_getElem? (i := 4) rfl) dX5_draws_20 ?_
  refine ez_iand (pc := 23) Z dX5_draws_23 ?_
  refine ez_sipush (pc := 24) Z dX5_draws_24 es_256 ?_
  refine ez_idiv (pc := 27) Z dX5_draws_27 (by decide) ?_
  refine ez_iload_n (pc := 28) Z dX5_draws_28 1 rfl rfl ?_
  refine ez_irem (pc := 29) Z dX5_draws_29 h.1 ?_
  replace h := h.2
  refine ez_topi (fun y1 ey1 => ?_)
  replace h := h y1 ey1
  exact ez_iret (pc := 30) Z hR (ew_sI s1 40 (((s1.1 40) * (1664525 : Int32)) + (1013904223 : Int32))) h rfl dX5_draws_30
theorem inX5_allHad : ∀ w ∈ wsX50, w ∈ wsX5_allHad := fun _ h => List.mem_cons_of_mem _ (List.mem_append_right _ (h))
theorem hdX5_allHad : yX5_allHad.cls = RX5 ∧ yX5_allHad.cls ≠ "java/lang/invoke/MethodHandle" ∧ yX5_allHad.cls ≠ "java/lang/invoke/VarHandle" ∧ (parseMethodDescriptor yX5_allHad.desc).map (fun d => d.parameters.length) = some 0 := by decide +kernel
def wX5_allHad_4 (R4 : Int32 × Int32 → Prop) (Q : Int32 → Prop) (v1 : Int32) (v2 : Int32) (s1 : ew_M) : Prop := ((s1.1 0) ≤ v2 → Q v1 ) ∧ (¬ (s1.1 0) ≤ v2 → vp_in v2 6 ∧ (R4 (v1 + (s1.2.1 3 v2.toNatClampNeg), v2 + (1 : Int32))))
def wX5_allHad (Q : Int32 → Prop) (s1 : ew_M) : Prop := ew_lp (fun (R : Int32 × Int32 → Prop) (x : Int32 × Int32) => wX5_allHad_4 R Q x.1 x.2 s1) ((0 : Int32), (0 : Int32))
set_option maxHeartbeats 4000000 in
set_option maxRecDepth 100000 in
theorem tX5_allHad_4 {C : ew_C} {X : ew_X} {E : ew_M → ew_S} (hE1 : ew_GE X 50 (ew_GM X.2.1) E) (Z : ew_Z C X cX5_allHad 3 RX5 wsX5_allHad ({ frames := 0, cells := 0, slots := 0, locals := 0 } : Room) (some .int)) {Q : Int32 → Prop} {R4 : Int32 × Int32 → Prop} {v1 : Int32} {v2 : Int32} {s1 : ew_M} (hR : C.2.2.2.2.2.2.2.2.2.2 = MQ C.2.2.2.2.2.2.2.1 (va_Qi (fun (r : Int32) (_ : Unit) => Q r) (fun (u : Unit) => ew_wd X ((fun (_ : Unit) => E s1) u)) X.2.2.1) C.2.2.2.2.2.2.1 C.2.2.2.2.1 0 0 X.2.2.1) (hR4 : ∀ x : Int32 × Int32, R4 x → ew_W C X 3 (E s1) 4 [(0, .ref (X.2.1 50)), (1, .int x.1), (2, .int x.2)] []) (h : wX5_allHad_4 R4 Q v1 v2 s1) : ew_W C X 3 (E s1) 4 [(0, .ref (X.2.1 50)), (1, .int v1), (2, .int v2)] [] := by
  refine ez_iload_n (pc := 4) Z dX5_allHad_4 2 rfl rfl ?_
  refine ez_aload_n (pc := 5) Z dX5_allHad_5 0 rfl rfl ?_
  refine fX5_persons (pc := 6) (v := s1.1 0) Z hE1 rfl inX5_allHad (List.mem_of_getElem? (i := 1) rfl) dX5_allHad_6 ?_
  refine ez_icmp_ge (pc := 9) (tgt := 27) Z dX5_allHad_9 rfl (fun c1 => ?_) (fun c1 => ?_)
  · replace h := h.1 c1
    refine ez_iload_n (pc := 27) Z dX5_allHad_27 1 rfl rfl ?_
    exact ez_iret (pc := 28) Z hR () h rfl dX5_allHad_28
  · replace h := h.2 c1
    refine ez_iload_n (pc := 12) Z dX5_allHad_12 1 rfl rfl ?_
    refine ez_aload_n (pc := 13) Z dX5_allHad_13 0 rfl rfl ?_
    refine fX5_had (pc := 14) (M := s1) Z hE1 inX5_allHad (List.mem_of_getElem? (i := 2) rfl) dX5_allHad_14 ?_
    refine ez_iload_n (pc := 17) Z dX5_allHad_17 2 rfl rfl ?_
    refine ez_iald (pc := 18) (n := 6) (a := 3) (v := s1.2.1 3 v2.toNatClampNeg) (M := s1) Z hE1 4 rfl (by decide : 3 < 36) rfl rfl h.1 dX5_allHad_18 ?_
    replace h := h.2
    refine ez_iadd (pc := 19) Z dX5_allHad_19 ?_
    refine ez_istore_n (pc := 20) (L' := [(1, .int (v1 + (s1.2.1 3 v2.toNatClampNeg))), (0, .ref (X.2.1 50)), (2, .int v2)]) Z dX5_allHad_20 rfl (by decide) rfl ?_
    refine ez_iinc (pc := 21) (L' := [(2, .int (v2 + (1 : Int32))), (1, .int (v1 + (s1.2.1 3 v2.toNatClampNeg))), (0, .ref (X.2.1 50))]) Z dX5_allHad_21 2 rfl (ei_1 _) (by decide) rfl ?_
    refine ez_goto (pc := 24) (tgt := 4) Z dX5_allHad_24 rfl ?_
    refine ez_sub [(0, .ref (X.2.1 50)), (1, .int (v1 + (s1.2.1 3 v2.toNatClampNeg))), (2, .int (v2 + (1 : Int32)))] [2, 1, 0] rfl ?_
    exact hR4 _ h
set_option maxHeartbeats 4000000 in
set_option maxRecDepth 100000 in
theorem kX5_allHad {X : ew_X} {l : Launch} (hX : ew_Ap X) {E : ew_M → ew_S} (hE1 : ew_GE X 50 (ew_GM X.2.1) E) {Q : Int32 → Prop} {s1 : ew_M} (h : wX5_allHad Q s1) : Met l yX5_allHad wsX5_allHad ({ frames := 0, cells := 0, slots := 0, locals := 0 } : Room) (va_Pc [.ref (X.2.1 50)] (ew_wd X (E s1))) (va_Qi (fun (r : Int32) (_ : Unit) => Q r) (fun (u : Unit) => ew_wd X ((fun (_ : Unit) => E s1) u)) X.2.2.1) 0 0 X.2.2.1 := by
  refine ew_met (As := [.ref (X.2.1 50)]) (L0 := [(0, .ref (X.2.1 50))]) X l hX (by decide) rfl rfl rfl rfl (fun C hl Z hR => ?_)
  subst hl
  refine ez_iconst (pc := 0) Z dX5_allHad_0 ec_0 ?_
  refine ez_istore_n (pc := 1) (L' := [(1, .int (0 : Int32)), (0, .ref (X.2.1 50))]) Z dX5_allHad_1 rfl (by decide) rfl ?_
  refine ez_iconst (pc := 2) Z dX5_allHad_2 ec_0 ?_
  refine ez_istore_n (pc := 3) (L' := [(2, .int (0 : Int32)), (1, .int (0 : Int32)), (0, .ref (X.2.1 50))]) Z dX5_allHad_3 rfl (by decide) rfl ?_
  refine ez_sub [(0, .ref (X.2.1 50)), (1, .int (0 : Int32)), (2, .int (0 : Int32))] [2, 1, 0] rfl ?_
  exact ew_ind (P := fun (x : Int32 × Int32) => ew_W C X 3 (E s1) 4 [(0, .ref (X.2.1 50)), (1, .int x.1), (2, .int x.2)] []) (fun R hR9 x h => tX5_allHad_4 hE1 Z hR  hR9 h) h
theorem inX5_lots : ∀ w ∈ wsX50, w ∈ wsX5_lots := fun _ h => List.mem_cons_of_mem _ (List.mem_append_right _ (h))
theorem hdX5_lots : yX5_lots.cls = RX5 ∧ yX5_lots.cls ≠ "java/lang/invoke/MethodHandle" ∧ yX5_lots.cls ≠ "java/lang/invoke/VarHandle" ∧ (parseMethodDescriptor yX5_lots.desc).map (fun d => d.parameters.length) = some 2 := by decide +kernel
def wX5_lots_39  (Q : Int32 → ew_M → Prop) (s1 : ew_M) : Prop := wX5_refuseFar (fun (r1 : Int32) (m2 : ew_M) => Q r1 m2) (-3 : Int32) s1
def wX5_lots_108 (R63 : Int32 × ew_M → Prop) (Q : Int32 → ew_M → Prop) (v1 : Int32) (v3 : Int32) (v4 : Int32) (s1 : ew_M) : Prop := wX5_passes (fun (m2 : ew_M) => R63 (v4 + (1 : Int32), m2)) s1
def wX5_lots_63 (R63 : Int32 × ew_M → Prop) (Q : Int32 → ew_M → Prop) (v1 : Int32) (v3 : Int32) (v4 : Int32) (s1 : ew_M) : Prop := (v1 ≤ v4 → wX5_allHad (fun (r2 : Int32) => wX5_lays (fun (m5 : ew_M) => Q (r2 - v3) m5) s1) s1) ∧ (¬ v1 ≤ v4 → wX5_draws (fun (r6 : Int32) (m7 : ew_M) => wX5_draws (fun (r8 : Int32) (m9 : ew_M) => wX5_mayRead (fun (r10 : Int32) => (r10 = 0 → wX5_lots_108 R63 Q v1 v3 v4 m9) ∧ (¬ r10 = 0 → wX5_hasNowRead (fun (m14 : ew_M) => wX5_lots_108 R63 Q v1 v3 v4 m14) r6 r8 m9)) r6 r8 m9) (m7.1 5) m7) (s1.1 0) s1)
def wX5_lots (Q : Int32 → ew_M → Prop) (p1 : Int32) (p2 : Int32) (s1 : ew_M) : Prop := ((1 : Int32) ≤ p1 → (p1 ≤ (60 : Int32) → ((s1.1 0) = 0 → wX5_lots_39 Q s1) ∧ (¬ (s1.1 0) = 0 → (¬ (s1.1 5) = 0 → wX5_keeps (fun (m6 : ew_M) => wX5_allHad (fun (r7 : Int32) => ew_lp (fun (R : Int32 × ew_M → Prop) (x : Int32 × ew_M) => wX5_lots_63 R Q p1 r7 x.1 x.2) ((0 : Int32), (ew_sI m6 40 p2))) (ew_sI m6 40 p2)) s1) ∧ ((s1.1 5) = 0 → wX5_lots_39 Q s1))) ∧ (¬ p1 ≤ (60 : Int32) → wX5_refuseFar (fun (r9 : Int32) (m10 : ew_M) => Q r9 m10) (-6 : Int32) s1)) ∧ (¬ (1 : Int32) ≤ p1 → wX5_refuseFar (fun (r11 : Int32) (m12 : ew_M) => Q r11 m12) (-4 : Int32) s1)
set_option maxHeartbeats 4000000 in
set_option maxRecDepth 100000 in
theorem tX5_lots_39 {C : ew_C} {X : ew_X} {E : ew_M → ew_S} (hE1 : ew_GE X 50 (ew_GM X.2.1) E) (Z : ew_Z C X cX5_lots 7 RX5 wsX5_lots ({ frames := 6, cells := 0, slots := 0, locals := 134 } : Room) (some .int)) {Q : Int32 → ew_M → Prop}  {s1 : ew_M} (hR : C.2.2.2.2.2.2.2.2.2.2 = MQ C.2.2.2.2.2.2.2.1 (va_Qi (fun (r : Int32) (u : ew_M) => Q r u) (fun (u : ew_M) => ew_wd X ((fun (u : ew_M) => E u) u)) X.2.2.1) C.2.2.2.2.2.2.1 C.2.2.2.2.1 0 0 X.2.2.1) (h : wX5_lots_39 Q s1) : ew_W C X 7 (E s1) 39 [(0, .ref (X.2.1 50))] [] := by
  refine ez_aload_n (pc := 39) Z dX5_lots_39 0 rfl rfl ?_
  refine ez_bipush (pc := 40) Z dX5_lots_40 eb_m3 ?_
  refine ez_callVi (pc := 42) (r := 50) (As := [.int (-3 : Int32)]) (st := []) Z (kX5_refuseFar Z.2.2.2.2.2.2.2.2.2.1 (E := E) hE1 h) gX5_lots_X5_refuseFar rfl rfl rfl hdX5_refuseFar rfl rfl (by decide) (ew_oM hE1 _) rfl rfl rfl rfl dX5_lots_42 (fun r1 m2 h => ?_)
  exact ez_iret (pc := 45) Z hR m2 h rfl dX5_lots_45
set_option maxHeartbeats 4000000 in
set_option maxRecDepth 100000 in
theorem tX5_lots_108 {C : ew_C} {X : ew_X} {E : ew_M → ew_S} (hE1 : ew_GE X 50 (ew_GM X.2.1) E) (Z : ew_Z C X cX5_lots 7 RX5 wsX5_lots ({ frames := 6, cells := 0, slots := 0, locals := 134 } : Room) (some .int)) {Q : Int32 → ew_M → Prop} {R63 : Int32 × ew_M → Prop} {v1 : Int32} {v3 : Int32} {v4 : Int32} {s1 : ew_M} (hR : C.2.2.2.2.2.2.2.2.2.2 = MQ C.2.2.2.2.2.2.2.1 (va_Qi (fun (r : Int32) (u : ew_M) => Q r u) (fun (u : ew_M) => ew_wd X ((fun (u : ew_M) => E u) u)) X.2.2.1) C.2.2.2.2.2.2.1 C.2.2.2.2.1 0 0 X.2.2.1) (hR63 : ∀ x : Int32 × ew_M, R63 x → ew_W C X 7 (E x.2) 63 [(0, .ref (X.2.1 50)), (1, .int v1), (3, .int v3), (4, .int x.1)] []) (h : wX5_lots_108 R63 Q v1 v3 v4 s1) : ew_W C X 7 (E s1) 108 [(0, .ref (X.2.1 50)), (1, .int v1), (3, .int v3), (4, .int v4)] [] := by
  refine ez_aload_n (pc := 108) Z dX5_lots_108 0 rfl rfl ?_
  refine ez_callVv (pc := 109) (r := 50) (As := []) (st := []) Z (kX5_passes Z.2.2.2.2.2.2.2.2.2.1 (E := E) hE1 h) gX5_lots_X5_passes rfl rfl rfl hdX5_passes rfl rfl (by decide) (ew_oM hE1 _) rfl rfl rfl rfl dX5_lots_109 (fun m2 h => ?_)
  refine ez_iinc (pc := 112) (L' := [(4, .int (v4 + (1 : Int32))), (0, .ref (X.2.1 50)), (1, .int v1), (3, .int v3)]) Z dX5_lots_112 3 rfl (ei_1 _) (by decide) rfl ?_
  refine ez_goto (pc := 115) (tgt := 63) Z dX5_lots_115 rfl ?_
  refine ez_sub [(0, .ref (X.2.1 50)), (1, .int v1), (3, .int v3), (4, .int (v4 + (1 : Int32)))] [1, 2, 3, 0] rfl ?_
  exact hR63 _ h
set_option maxHeartbeats 4000000 in
set_option maxRecDepth 100000 in
theorem tX5_lots_63 {C : ew_C} {X : ew_X} {E : ew_M → ew_S} (hE1 : ew_GE X 50 (ew_GM X.2.1) E) (Z : ew_Z C X cX5_lots 7 RX5 wsX5_lots ({ frames := 6, cells := 0, slots := 0, locals := 134 } : Room) (some .int)) {Q : Int32 → ew_M → Prop} {R63 : Int32 × ew_M → Prop} {v1 : Int32} {v3 : Int32} {v4 : Int32} {s1 : ew_M} (hR : C.2.2.2.2.2.2.2.2.2.2 = MQ C.2.2.2.2.2.2.2.1 (va_Qi (fun (r : Int32) (u : ew_M) => Q r u) (fun (u : ew_M) => ew_wd X ((fun (u : ew_M) => E u) u)) X.2.2.1) C.2.2.2.2.2.2.1 C.2.2.2.2.1 0 0 X.2.2.1) (hR63 : ∀ x : Int32 × ew_M, R63 x → ew_W C X 7 (E x.2) 63 [(0, .ref (X.2.1 50)), (1, .int v1), (3, .int v3), (4, .int x.1)] []) (h : wX5_lots_63 R63 Q v1 v3 v4 s1) : ew_W C X 7 (E s1) 63 [(0, .ref (X.2.1 50)), (1, .int v1), (3, .int v3), (4, .int v4)] [] := by
  refine ez_iload (pc := 63) Z dX5_lots_63 3 rfl ?_
  refine ez_iload_n (pc := 65) Z dX5_lots_65 1 rfl rfl ?_
  refine ez_icmp_ge (pc := 66) (tgt := 118) Z dX5_lots_66 rfl (fun c1 => ?_) (fun c1 => ?_)
  · replace h := h.1 c1
    refine ez_aload_n (pc := 118) Z dX5_lots_118 0 rfl rfl ?_
    refine ez_callVi (pc := 119) (r := 50) (As := []) (st := []) Z (kX5_allHad Z.2.2.2.2.2.2.2.2.2.1 (E := E) hE1 h) gX5_lots_X5_allHad rfl rfl rfl hdX5_allHad rfl rfl (by decide) (ew_oM hE1 _) rfl rfl rfl rfl dX5_lots_119 (fun r2 u3 h => ?_)
    refine ez_iload_n (pc := 122) Z dX5_lots_122 2 rfl rfl ?_
    refine ez_isub (pc := 123) Z dX5_lots_123 ?_
    refine ez_istore (pc := 124) (L' := [(4, .int (r2 - v3)), (0, .ref (X.2.1 50)), (1, .int v1), (3, .int v3)]) Z dX5_lots_124 (by decide) rfl ?_
    refine ez_aload_n (pc := 126) Z dX5_lots_126 1 rfl rfl ?_
    refine ez_callVv (pc := 127) (r := 50) (As := []) (st := []) Z (kX5_lays Z.2.2.2.2.2.2.2.2.2.1 (E := E) hE1 h) gX5_lots_X5_lays rfl rfl rfl hdX5_lays rfl rfl (by decide) (ew_oM hE1 _) rfl rfl rfl rfl dX5_lots_127 (fun m5 h => ?_)
    refine ez_iload (pc := 130) Z dX5_lots_130 0 rfl ?_
    exact ez_iret (pc := 132) Z hR m5 h rfl dX5_lots_132
  · replace h := h.2 c1
    refine ez_aload_n (pc := 69) Z dX5_lots_69 0 rfl rfl ?_
    refine ez_aload_n (pc := 70) Z dX5_lots_70 0 rfl rfl ?_
    refine fX5_persons (pc := 71) (v := s1.1 0) Z hE1 rfl inX5_lots (List.mem_of_getElem? (i := 1) rfl) dX5_lots_71 ?_
    refine ez_callVi (pc := 74) (r := 50) (As := [.int (s1.1 0)]) (st := []) Z (kX5_draws Z.2.2.2.2.2.2.2.2.2.1 (E := E) hE1 h) gX5_lots_X5_draws rfl rfl rfl hdX5_draws rfl rfl (by decide) (ew_oM hE1 _) rfl rfl rfl rfl dX5_lots_74 (fun r6 m7 h => ?_)
    refine ez_istore (pc := 77) (L' := [(5, .int r6), (0, .ref (X.2.1 50)), (1, .int v1), (3, .int v3), (4, .int v4)]) Z dX5_lots_77 (by decide) rfl ?_
    refine ez_aload_n (pc := 79) Z dX5_lots_79 1 rfl rfl ?_
    refine ez_aload_n (pc := 80) Z dX5_lots_80 1 rfl rfl ?_
    refine fX5_papers (pc := 81) (v := m7.1 5) Z hE1 rfl inX5_lots (List.mem_of_getElem? (i := 2) rfl) dX5_lots_81 ?_
    refine ez_callVi (pc := 84) (r := 50) (As := [.int (m7.1 5)]) (st := []) Z (kX5_draws Z.2.2.2.2.2.2.2.2.2.1 (E := E) hE1 h) gX5_lots_X5_draws rfl rfl rfl hdX5_draws rfl rfl (by decide) (ew_oM hE1 _) rfl rfl rfl rfl dX5_lots_84 (fun r8 m9 h => ?_)
    refine ez_istore (pc := 87) (L' := [(6, .int r8), (5, .int r6), (0, .ref (X.2.1 50)), (1, .int v1), (3, .int v3), (4, .int v4)]) Z dX5_lots_87 (by decide) rfl ?_
    refine ez_aload_n (pc := 89) Z dX5_lots_89 2 rfl rfl ?_
    refine ez_iload (pc := 90) Z dX5_lots_90 1 rfl ?_
    refine ez_iload (pc := 92) Z dX5_lots_92 0 rfl ?_
    refine ez_callVi (pc := 94) (r := 50) (As := [.int r6, .int r8]) (st := []) Z (kX5_mayRead Z.2.2.2.2.2.2.2.2.2.1 (E := E) hE1 h) gX5_lots_X5_mayRead rfl rfl rfl hdX5_mayRead rfl rfl (by decide) (ew_oM hE1 _) rfl rfl rfl rfl dX5_lots_94 (fun r10 u11 h => ?_)
    refine ez_if_eq (pc := 97) (tgt := 108) Z dX5_lots_97 rfl (fun c12 => ?_) (fun c12 => ?_)
    · replace h := h.1 c12
      refine ez_sub [(0, .ref (X.2.1 50)), (1, .int v1), (3, .int v3), (4, .int v4)] [2, 3, 4, 5] rfl ?_
      exact tX5_lots_108 hE1 Z hR hR63 h
    · replace h := h.2 c12
      refine ez_aload_n (pc := 100) Z dX5_lots_100 2 rfl rfl ?_
      refine ez_iload (pc := 101) Z dX5_lots_101 1 rfl ?_
      refine ez_iload (pc := 103) Z dX5_lots_103 0 rfl ?_
      refine ez_callVv (pc := 105) (r := 50) (As := [.int r6, .int r8]) (st := []) Z (kX5_hasNowRead Z.2.2.2.2.2.2.2.2.2.1 (E := E) hE1 h) gX5_lots_X5_hasNowRead rfl rfl rfl hdX5_hasNowRead rfl rfl (by decide) (ew_oM hE1 _) rfl rfl rfl rfl dX5_lots_105 (fun m14 h => ?_)
      refine ez_sub [(0, .ref (X.2.1 50)), (1, .int v1), (3, .int v3), (4, .int v4)] [2, 3, 4, 5] rfl ?_
      exact tX5_lots_108 hE1 Z hR hR63 h
set_option maxHeartbeats 4000000 in
set_option maxRecDepth 100000 in
theorem kX5_lots {X : ew_X} {l : Launch} (hX : ew_Ap X) {E : ew_M → ew_S} (hE1 : ew_GE X 50 (ew_GM X.2.1) E) {Q : Int32 → ew_M → Prop} {p1 : Int32} {p2 : Int32} {s1 : ew_M} (h : wX5_lots Q p1 p2 s1) : Met l yX5_lots wsX5_lots ({ frames := 6, cells := 0, slots := 0, locals := 134 } : Room) (va_Pc [.ref (X.2.1 50), .int p1, .int p2] (ew_wd X (E s1))) (va_Qi (fun (r : Int32) (u : ew_M) => Q r u) (fun (u : ew_M) => ew_wd X ((fun (u : ew_M) => E u) u)) X.2.2.1) 0 0 X.2.2.1 := by
  refine ew_met (As := [.ref (X.2.1 50), .int p1, .int p2]) (L0 := [(0, .ref (X.2.1 50)), (1, .int p1), (2, .int p2)]) X l hX (by decide) rfl rfl rfl rfl (fun C hl Z hR => ?_)
  subst hl
  refine ez_iload_n (pc := 0) Z dX5_lots_0 1 rfl rfl ?_
  refine ez_iconst (pc := 1) Z dX5_lots_1 ec_1 ?_
  refine ez_icmp_ge (pc := 2) (tgt := 12) Z dX5_lots_2 rfl (fun c1 => ?_) (fun c1 => ?_)
  · replace h := h.1 c1
    refine ez_iload_n (pc := 12) Z dX5_lots_12 1 rfl rfl ?_
    refine ez_bipush (pc := 13) Z dX5_lots_13 eb_60 ?_
    refine ez_icmp_le (pc := 15) (tgt := 25) Z dX5_lots_15 rfl (fun c2 => ?_) (fun c2 => ?_)
    · replace h := h.1 c2
      refine ez_aload_n (pc := 25) Z dX5_lots_25 0 rfl rfl ?_
      refine fX5_persons (pc := 26) (v := s1.1 0) Z hE1 rfl inX5_lots (List.mem_of_getElem? (i := 1) rfl) dX5_lots_26 ?_
      refine ez_if_eq (pc := 29) (tgt := 39) Z dX5_lots_29 rfl (fun c3 => ?_) (fun c3 => ?_)
      · replace h := h.1 c3
        refine ez_sub [(0, .ref (X.2.1 50))] [0] rfl ?_
        exact tX5_lots_39 hE1 Z hR  h
      · replace h := h.2 c3
        refine ez_aload_n (pc := 32) Z dX5_lots_32 0 rfl rfl ?_
        refine fX5_papers (pc := 33) (v := s1.1 5) Z hE1 rfl inX5_lots (List.mem_of_getElem? (i := 2) rfl) dX5_lots_33 ?_
        refine ez_if_ne (pc := 36) (tgt := 46) Z dX5_lots_36 rfl (fun c4 => ?_) (fun c4 => ?_)
        · replace h := h.1 c4
          refine ez_aload_n (pc := 46) Z dX5_lots_46 0 rfl rfl ?_
          refine ez_callVv (pc := 47) (r := 50) (As := []) (st := []) Z (kX5_keeps Z.2.2.2.2.2.2.2.2.2.1 (E := E) hE1 h) gX5_lots_X5_keeps rfl rfl rfl hdX5_keeps rfl rfl (by decide) (ew_oM hE1 _) rfl rfl rfl rfl dX5_lots_47 (fun m6 h => ?_)
          refine ez_aload_n (pc := 50) Z dX5_lots_50 0 rfl rfl ?_
          refine ez_iload_n (pc := 51) Z dX5_lots_51 2 rfl rfl ?_
          refine pX5_lot (pc := 52) (M := m6) (M' := ew_sI m6 40 p2) Z hE1 rfl inX5_lots (List.mem_of_getElem? (i := 3) rfl) dX5_lots_52 ?_
          refine ez_aload_n (pc := 55) Z dX5_lots_55 0 rfl rfl ?_
          refine ez_callVi (pc := 56) (r := 50) (As := []) (st := []) Z (kX5_allHad Z.2.2.2.2.2.2.2.2.2.1 (E := E) hE1 h) gX5_lots_X5_allHad rfl rfl rfl hdX5_allHad rfl rfl (by decide) (ew_oM hE1 _) rfl rfl rfl rfl dX5_lots_56 (fun r7 u8 h => ?_)
          refine ez_istore_n (pc := 59) (L' := [(3, .int r7), (0, .ref (X.2.1 50)), (1, .int p1), (2, .int p2)]) Z dX5_lots_59 rfl (by decide) rfl ?_
          refine ez_iconst (pc := 60) Z dX5_lots_60 ec_0 ?_
          refine ez_istore (pc := 61) (L' := [(4, .int (0 : Int32)), (3, .int r7), (0, .ref (X.2.1 50)), (1, .int p1), (2, .int p2)]) Z dX5_lots_61 (by decide) rfl ?_
          refine ez_sub [(0, .ref (X.2.1 50)), (1, .int p1), (3, .int r7), (4, .int (0 : Int32))] [2, 3, 1, 0] rfl ?_
          exact ew_ind (P := fun (x : Int32 × ew_M) => ew_W C X 7 (E x.2) 63 [(0, .ref (X.2.1 50)), (1, .int p1), (3, .int r7), (4, .int x.1)] []) (fun R hR9 x h => tX5_lots_63 hE1 Z hR  hR9 h) h
        · replace h := h.2 c4
          refine ez_sub [(0, .ref (X.2.1 50))] [0] rfl ?_
          exact tX5_lots_39 hE1 Z hR  h
    · replace h := h.2 c2
      refine ez_aload_n (pc := 18) Z dX5_lots_18 0 rfl rfl ?_
      refine ez_bipush (pc := 19) Z dX5_lots_19 eb_m6 ?_
      refine ez_callVi (pc := 21) (r := 50) (As := [.int (-6 : Int32)]) (st := []) Z (kX5_refuseFar Z.2.2.2.2.2.2.2.2.2.1 (E := E) hE1 h) gX5_lots_X5_refuseFar rfl rfl rfl hdX5_refuseFar rfl rfl (by decide) (ew_oM hE1 _) rfl rfl rfl rfl dX5_lots_21 (fun r9 m10 h => ?_)
      exact ez_iret (pc := 24) Z hR m10 h rfl dX5_lots_24
  · replace h := h.2 c1
    refine ez_aload_n (pc := 5) Z dX5_lots_5 0 rfl rfl ?_
    refine ez_bipush (pc := 6) Z dX5_lots_6 eb_m4 ?_
    refine ez_callVi (pc := 8) (r := 50) (As := [.int (-4 : Int32)]) (st := []) Z (kX5_refuseFar Z.2.2.2.2.2.2.2.2.2.1 (E := E) hE1 h) gX5_lots_X5_refuseFar rfl rfl rfl hdX5_refuseFar rfl rfl (by decide) (ew_oM hE1 _) rfl rfl rfl rfl dX5_lots_8 (fun r11 m12 h => ?_)
    exact ez_iret (pc := 11) Z hR m12 h rfl dX5_lots_11
theorem inX5_row : ∀ w ∈ wsX50, w ∈ wsX5_row := fun _ h => List.mem_cons_of_mem _ (List.mem_append_right _ (h))
theorem hdX5_row : yX5_row.cls = RX5 ∧ yX5_row.cls ≠ "java/lang/invoke/MethodHandle" ∧ yX5_row.cls ≠ "java/lang/invoke/VarHandle" ∧ (parseMethodDescriptor yX5_row.desc).map (fun d => d.parameters.length) = some 1 := by decide +kernel
def wX5_row_26  (Q : Int32 → ew_M → Prop) (s1 : ew_M) : Prop := wX5_refuse (fun (r1 : Int32) (m2 : ew_M) => Q r1 m2) (-6 : Int32) s1
def wX5_row (Q : Int32 → ew_M → Prop) (p1 : Int32) (s1 : ew_M) : Prop := (0 ≤ p1 → ((9 : Int32) < p1 → wX5_row_26 Q s1) ∧ (¬ (9 : Int32) < p1 → (¬ (s1.1 20) = (12 : Int32) → vp_in (s1.1 20) 12 ∧ (Q ((s1.1 20) + (1 : Int32)) (ew_sI (ew_sA s1 13 (s1.1 20).toNatClampNeg p1) 20 ((s1.1 20) + (1 : Int32))))) ∧ ((s1.1 20) = (12 : Int32) → wX5_row_26 Q s1))) ∧ (¬ 0 ≤ p1 → wX5_refuse (fun (r4 : Int32) (m5 : ew_M) => Q r4 m5) (-4 : Int32) s1)
set_option maxHeartbeats 4000000 in
set_option maxRecDepth 100000 in
theorem tX5_row_26 {C : ew_C} {X : ew_X} {E : ew_M → ew_S} (hE1 : ew_GE X 50 (ew_GM X.2.1) E) (Z : ew_Z C X cX5_row 2 RX5 wsX5_row ({ frames := 1, cells := 0, slots := 0, locals := 21 } : Room) (some .int)) {Q : Int32 → ew_M → Prop}  {s1 : ew_M} (hR : C.2.2.2.2.2.2.2.2.2.2 = MQ C.2.2.2.2.2.2.2.1 (va_Qi (fun (r : Int32) (u : ew_M) => Q r u) (fun (u : ew_M) => ew_wd X ((fun (u : ew_M) => E u) u)) X.2.2.1) C.2.2.2.2.2.2.1 C.2.2.2.2.1 0 0 X.2.2.1) (h : wX5_row_26 Q s1) : ew_W C X 2 (E s1) 26 [(0, .ref (X.2.1 50))] [] := by
  refine ez_aload_n (pc := 26) Z dX5_row_26 0 rfl rfl ?_
  refine ez_bipush (pc := 27) Z dX5_row_27 eb_m6 ?_
  refine ez_callVi (pc := 29) (r := 50) (As := [.int (-6 : Int32)]) (st := []) Z (kX5_refuse Z.2.2.2.2.2.2.2.2.2.1 (E := E) hE1 h) gX5_row_X5_refuse rfl rfl rfl hdX5_refuse rfl rfl (by decide) (ew_oM hE1 _) rfl rfl rfl rfl dX5_row_29 (fun r1 m2 h => ?_)
  exact ez_iret (pc := 32) Z hR m2 h rfl dX5_row_32
set_option maxHeartbeats 4000000 in
set_option maxRecDepth 100000 in
theorem kX5_row {X : ew_X} {l : Launch} (hX : ew_Ap X) {E : ew_M → ew_S} (hE1 : ew_GE X 50 (ew_GM X.2.1) E) {Q : Int32 → ew_M → Prop} {p1 : Int32} {s1 : ew_M} (h : wX5_row Q p1 s1) : Met l yX5_row wsX5_row ({ frames := 1, cells := 0, slots := 0, locals := 21 } : Room) (va_Pc [.ref (X.2.1 50), .int p1] (ew_wd X (E s1))) (va_Qi (fun (r : Int32) (u : ew_M) => Q r u) (fun (u : ew_M) => ew_wd X ((fun (u : ew_M) => E u) u)) X.2.2.1) 0 0 X.2.2.1 := by
  refine ew_met (As := [.ref (X.2.1 50), .int p1]) (L0 := [(0, .ref (X.2.1 50)), (1, .int p1)]) X l hX (by decide) rfl rfl rfl rfl (fun C hl Z hR => ?_)
  subst hl
  refine ez_iload_n (pc := 0) Z dX5_row_0 1 rfl rfl ?_
  refine ez_if_ge (pc := 1) (tgt := 11) Z dX5_row_1 rfl (fun c1 => ?_) (fun c1 => ?_)
  · replace h := h.1 c1
    refine ez_iload_n (pc := 11) Z dX5_row_11 1 rfl rfl ?_
    refine ez_bipush (pc := 12) Z dX5_row_12 eb_9 ?_
    refine ez_icmp_gt (pc := 14) (tgt := 26) Z dX5_row_14 rfl (fun c2 => ?_) (fun c2 => ?_)
    · replace h := h.1 c2
      refine ez_sub [(0, .ref (X.2.1 50))] [0] rfl ?_
      exact tX5_row_26 hE1 Z hR  h
    · replace h := h.2 c2
      refine ez_aload_n (pc := 17) Z dX5_row_17 0 rfl rfl ?_
      refine fX5_rowed (pc := 18) (v := s1.1 20) Z hE1 rfl inX5_row (List.mem_of_getElem? (i := 1) rfl) dX5_row_18 ?_
      refine ez_bipush (pc := 21) Z dX5_row_21 eb_12 ?_
      refine ez_icmp_ne (pc := 23) (tgt := 33) Z dX5_row_23 rfl (fun c3 => ?_) (fun c3 => ?_)
      · replace h := h.1 c3
        refine ez_aload_n (pc := 33) Z dX5_row_33 0 rfl rfl ?_
        refine fX5_row (pc := 34) (M := s1) Z hE1 inX5_row (List.mem_of_getElem? (i := 2) rfl) dX5_row_34 ?_
        refine ez_aload_n (pc := 37) Z dX5_row_37 0 rfl rfl ?_
        refine fX5_rowed (pc := 38) (v := s1.1 20) Z hE1 rfl inX5_row (List.mem_of_getElem? (i := 1) rfl) dX5_row_38 ?_
        refine ez_iload_n (pc := 41) Z dX5_row_41 1 rfl rfl ?_
        refine ez_iast (pc := 42) (n := 12) (a := 13) (M := s1) (M' := ew_sA s1 13 (s1.1 20).toNatClampNeg p1) Z hE1 14 rfl (by decide : 13 < 36) rfl rfl h.1 dX5_row_42 ?_
        replace h := h.2
        refine ez_aload_n (pc := 43) Z dX5_row_43 0 rfl rfl ?_
        refine ez_dup (pc := 44) Z dX5_row_44 rfl ?_
        refine fX5_rowed (pc := 45) (v := s1.1 20) Z hE1 rfl inX5_row (List.mem_of_getElem? (i := 1) rfl) dX5_row_45 ?_
        refine ez_iconst (pc := 48) Z dX5_row_48 ec_1 ?_
        refine ez_iadd (pc := 49) Z dX5_row_49 ?_
        refine pX5_rowed (pc := 50) (M := ew_sA s1 13 (s1.1 20).toNatClampNeg p1) (M' := ew_sI (ew_sA s1 13 (s1.1 20).toNatClampNeg p1) 20 ((s1.1 20) + (1 : Int32))) Z hE1 rfl inX5_row (List.mem_of_getElem? (i := 1) rfl) dX5_row_50 ?_
        refine ez_aload_n (pc := 53) Z dX5_row_53 0 rfl rfl ?_
        refine fX5_rowed (pc := 54) (v := (s1.1 20) + (1 : Int32)) Z hE1 rfl inX5_row (List.mem_of_getElem? (i := 1) rfl) dX5_row_54 ?_
        exact ez_iret (pc := 57) Z hR (ew_sI (ew_sA s1 13 (s1.1 20).toNatClampNeg p1) 20 ((s1.1 20) + (1 : Int32))) h rfl dX5_row_57
      · replace h := h.2 c3
        refine ez_sub [(0, .ref (X.2.1 50))] [0] rfl ?_
        exact tX5_row_26 hE1 Z hR  h
  · replace h := h.2 c1
    refine ez_aload_n (pc := 4) Z dX5_row_4 0 rfl rfl ?_
    refine ez_bipush (pc := 5) Z dX5_row_5 eb_m4 ?_
    refine ez_callVi (pc := 7) (r := 50) (As := [.int (-4 : Int32)]) (st := []) Z (kX5_refuse Z.2.2.2.2.2.2.2.2.2.1 (E := E) hE1 h) gX5_row_X5_refuse rfl rfl rfl hdX5_refuse rfl rfl (by decide) (ew_oM hE1 _) rfl rfl rfl rfl dX5_row_7 (fun r4 m5 h => ?_)
    exact ez_iret (pc := 10) Z hR m5 h rfl dX5_row_10
theorem inX5_judge : ∀ w ∈ wsX50, w ∈ wsX5_judge := fun _ h => List.mem_cons_of_mem _ (List.mem_append_right _ (h))
theorem hdX5_judge : yX5_judge.cls = RX5 ∧ yX5_judge.cls ≠ "java/lang/invoke/MethodHandle" ∧ yX5_judge.cls ≠ "java/lang/invoke/VarHandle" ∧ (parseMethodDescriptor yX5_judge.desc).map (fun d => d.parameters.length) = some 1 := by decide +kernel
def wX5_judge_89 (R23 : Int32 × Int32 × ew_M → Prop) (Q : Int32 → ew_M → Prop) (v1 : Int32) (v2 : Int32) (v3 : Int32) (s1 : ew_M) : Prop := R23 (v2, v3 + (1 : Int32), s1)
def wX5_judge_95  (Q : Int32 → ew_M → Prop) (v2 : Int32) (s1 : ew_M) : Prop := wX5_lays (fun (m2 : ew_M) => Q v2 (ew_sI m2 20 (0 : Int32))) s1
def wX5_judge_23 (R23 : Int32 × Int32 × ew_M → Prop) (Q : Int32 → ew_M → Prop) (v1 : Int32) (v2 : Int32) (v3 : Int32) (s1 : ew_M) : Prop := ((s1.1 20) ≤ v3 → wX5_judge_95 Q v2 s1) ∧ (¬ (s1.1 20) ≤ v3 → (¬ v2 = (-9 : Int32) → wX5_judge_95 Q v2 s1) ∧ (v2 = (-9 : Int32) → vp_in v3 12 ∧ ((¬ (s1.2.1 13 v3.toNatClampNeg) = (9 : Int32) → vp_in v3 12 ∧ (wX5_mayRead (fun (r4 : Int32) => (r4 = 0 → wX5_judge_89 R23 Q v1 v3 v3 s1) ∧ (¬ r4 = 0 → vp_in v3 12 ∧ (wX5_hasNowRead (fun (m8 : ew_M) => wX5_passes (fun (m10 : ew_M) => wX5_judge_89 R23 Q v1 v2 v3 m10) m8) (s1.2.1 13 v3.toNatClampNeg) v1 s1))) (s1.2.1 13 v3.toNatClampNeg) v1 s1)) ∧ ((s1.2.1 13 v3.toNatClampNeg) = (9 : Int32) → wX5_passes (fun (m12 : ew_M) => wX5_judge_89 R23 Q v1 v2 v3 m12) s1))))
def wX5_judge (Q : Int32 → ew_M → Prop) (p1 : Int32) (s1 : ew_M) : Prop := wX5_isPaper (fun (r1 : Int32) => (¬ r1 = 0 → wX5_keeps (fun (m5 : ew_M) => ew_lp (fun (R : Int32 × Int32 × ew_M → Prop) (x : Int32 × Int32 × ew_M) => wX5_judge_23 R Q p1 x.1 x.2.1 x.2.2) ((-9 : Int32), (0 : Int32), m5)) s1) ∧ (r1 = 0 → wX5_refuse (fun (r6 : Int32) (m7 : ew_M) => Q r6 m7) (-1 : Int32) s1)) p1 s1
set_option maxHeartbeats 4000000 in
set_option maxRecDepth 100000 in
theorem tX5_judge_89 {C : ew_C} {X : ew_X} {E : ew_M → ew_S} (hE1 : ew_GE X 50 (ew_GM X.2.1) E) (Z : ew_Z C X cX5_judge 4 RX5 wsX5_judge ({ frames := 6, cells := 0, slots := 0, locals := 134 } : Room) (some .int)) {Q : Int32 → ew_M → Prop} {R23 : Int32 × Int32 × ew_M → Prop} {v1 : Int32} {v2 : Int32} {v3 : Int32} {s1 : ew_M} (hR : C.2.2.2.2.2.2.2.2.2.2 = MQ C.2.2.2.2.2.2.2.1 (va_Qi (fun (r : Int32) (u : ew_M) => Q r u) (fun (u : ew_M) => ew_wd X ((fun (u : ew_M) => E u) u)) X.2.2.1) C.2.2.2.2.2.2.1 C.2.2.2.2.1 0 0 X.2.2.1) (hR23 : ∀ x : Int32 × Int32 × ew_M, R23 x → ew_W C X 4 (E x.2.2) 23 [(0, .ref (X.2.1 50)), (1, .int v1), (2, .int x.1), (3, .int x.2.1)] []) (h : wX5_judge_89 R23 Q v1 v2 v3 s1) : ew_W C X 4 (E s1) 89 [(0, .ref (X.2.1 50)), (1, .int v1), (2, .int v2), (3, .int v3)] [] := by
  refine ez_iinc (pc := 89) (L' := [(3, .int (v3 + (1 : Int32))), (0, .ref (X.2.1 50)), (1, .int v1), (2, .int v2)]) Z dX5_judge_89 3 rfl (ei_1 _) (by decide) rfl ?_
  refine ez_goto (pc := 92) (tgt := 23) Z dX5_judge_92 rfl ?_
  refine ez_sub [(0, .ref (X.2.1 50)), (1, .int v1), (2, .int v2), (3, .int (v3 + (1 : Int32)))] [1, 2, 3, 0] rfl ?_
  exact hR23 _ h
set_option maxHeartbeats 4000000 in
set_option maxRecDepth 100000 in
theorem tX5_judge_95 {C : ew_C} {X : ew_X} {E : ew_M → ew_S} (hE1 : ew_GE X 50 (ew_GM X.2.1) E) (Z : ew_Z C X cX5_judge 4 RX5 wsX5_judge ({ frames := 6, cells := 0, slots := 0, locals := 134 } : Room) (some .int)) {Q : Int32 → ew_M → Prop}  {v2 : Int32} {s1 : ew_M} (hR : C.2.2.2.2.2.2.2.2.2.2 = MQ C.2.2.2.2.2.2.2.1 (va_Qi (fun (r : Int32) (u : ew_M) => Q r u) (fun (u : ew_M) => ew_wd X ((fun (u : ew_M) => E u) u)) X.2.2.1) C.2.2.2.2.2.2.1 C.2.2.2.2.1 0 0 X.2.2.1) (h : wX5_judge_95 Q v2 s1) : ew_W C X 4 (E s1) 95 [(0, .ref (X.2.1 50)), (2, .int v2)] [] := by
  refine ez_aload_n (pc := 95) Z dX5_judge_95 0 rfl rfl ?_
  refine ez_callVv (pc := 96) (r := 50) (As := []) (st := []) Z (kX5_lays Z.2.2.2.2.2.2.2.2.2.1 (E := E) hE1 h) gX5_judge_X5_lays rfl rfl rfl hdX5_lays rfl rfl (by decide) (ew_oM hE1 _) rfl rfl rfl rfl dX5_judge_96 (fun m2 h => ?_)
  refine ez_aload_n (pc := 99) Z dX5_judge_99 0 rfl rfl ?_
  refine ez_iconst (pc := 100) Z dX5_judge_100 ec_0 ?_
  refine pX5_rowed (pc := 101) (M := m2) (M' := ew_sI m2 20 (0 : Int32)) Z hE1 rfl inX5_judge (List.mem_of_getElem? (i := 1) rfl) dX5_judge_101 ?_
  refine ez_iload_n (pc := 104) Z dX5_judge_104 1 rfl rfl ?_
  exact ez_iret (pc := 105) Z hR (ew_sI m2 20 (0 : Int32)) h rfl dX5_judge_105
set_option maxHeartbeats 4000000 in
set_option maxRecDepth 100000 in
theorem tX5_judge_23 {C : ew_C} {X : ew_X} {E : ew_M → ew_S} (hE1 : ew_GE X 50 (ew_GM X.2.1) E) (Z : ew_Z C X cX5_judge 4 RX5 wsX5_judge ({ frames := 6, cells := 0, slots := 0, locals := 134 } : Room) (some .int)) {Q : Int32 → ew_M → Prop} {R23 : Int32 × Int32 × ew_M → Prop} {v1 : Int32} {v2 : Int32} {v3 : Int32} {s1 : ew_M} (hR : C.2.2.2.2.2.2.2.2.2.2 = MQ C.2.2.2.2.2.2.2.1 (va_Qi (fun (r : Int32) (u : ew_M) => Q r u) (fun (u : ew_M) => ew_wd X ((fun (u : ew_M) => E u) u)) X.2.2.1) C.2.2.2.2.2.2.1 C.2.2.2.2.1 0 0 X.2.2.1) (hR23 : ∀ x : Int32 × Int32 × ew_M, R23 x → ew_W C X 4 (E x.2.2) 23 [(0, .ref (X.2.1 50)), (1, .int v1), (2, .int x.1), (3, .int x.2.1)] []) (h : wX5_judge_23 R23 Q v1 v2 v3 s1) : ew_W C X 4 (E s1) 23 [(0, .ref (X.2.1 50)), (1, .int v1), (2, .int v2), (3, .int v3)] [] := by
  refine ez_iload_n (pc := 23) Z dX5_judge_23 3 rfl rfl ?_
  refine ez_aload_n (pc := 24) Z dX5_judge_24 0 rfl rfl ?_
  refine fX5_rowed (pc := 25) (v := s1.1 20) Z hE1 rfl inX5_judge (List.mem_of_getElem? (i := 1) rfl) dX5_judge_25 ?_
  refine ez_icmp_ge (pc := 28) (tgt := 95) Z dX5_judge_28 rfl (fun c1 => ?_) (fun c1 => ?_)
  · replace h := h.1 c1
    refine ez_sub [(0, .ref (X.2.1 50)), (2, .int v2)] [0, 2] rfl ?_
    exact tX5_judge_95 hE1 Z hR  h
  · replace h := h.2 c1
    refine ez_iload_n (pc := 31) Z dX5_judge_31 2 rfl rfl ?_
    refine ez_bipush (pc := 32) Z dX5_judge_32 eb_m9 ?_
    refine ez_icmp_ne (pc := 34) (tgt := 95) Z dX5_judge_34 rfl (fun c2 => ?_) (fun c2 => ?_)
    · replace h := h.1 c2
      refine ez_sub [(0, .ref (X.2.1 50)), (2, .int v2)] [0, 2] rfl ?_
      exact tX5_judge_95 hE1 Z hR  h
    · replace h := h.2 c2
      refine ez_aload_n (pc := 37) Z dX5_judge_37 0 rfl rfl ?_
      refine fX5_row (pc := 38) (M := s1) Z hE1 inX5_judge (List.mem_of_getElem? (i := 2) rfl) dX5_judge_38 ?_
      refine ez_iload_n (pc := 41) Z dX5_judge_41 3 rfl rfl ?_
      refine ez_iald (pc := 42) (n := 12) (a := 13) (v := s1.2.1 13 v3.toNatClampNeg) (M := s1) Z hE1 14 rfl (by decide : 13 < 36) rfl rfl h.1 dX5_judge_42 ?_
      replace h := h.2
      refine ez_bipush (pc := 43) Z dX5_judge_43 eb_9 ?_
      refine ez_icmp_ne (pc := 45) (tgt := 55) Z dX5_judge_45 rfl (fun c3 => ?_) (fun c3 => ?_)
      · replace h := h.1 c3
        refine ez_aload_n (pc := 55) Z dX5_judge_55 0 rfl rfl ?_
        refine ez_aload_n (pc := 56) Z dX5_judge_56 0 rfl rfl ?_
        refine fX5_row (pc := 57) (M := s1) Z hE1 inX5_judge (List.mem_of_getElem? (i := 2) rfl) dX5_judge_57 ?_
        refine ez_iload_n (pc := 60) Z dX5_judge_60 3 rfl rfl ?_
        refine ez_iald (pc := 61) (n := 12) (a := 13) (v := s1.2.1 13 v3.toNatClampNeg) (M := s1) Z hE1 14 rfl (by decide : 13 < 36) rfl rfl h.1 dX5_judge_61 ?_
        replace h := h.2
        refine ez_iload_n (pc := 62) Z dX5_judge_62 1 rfl rfl ?_
        refine ez_callVi (pc := 63) (r := 50) (As := [.int (s1.2.1 13 v3.toNatClampNeg), .int v1]) (st := []) Z (kX5_mayRead Z.2.2.2.2.2.2.2.2.2.1 (E := E) hE1 h) gX5_judge_X5_mayRead rfl rfl rfl hdX5_mayRead rfl rfl (by decide) (ew_oM hE1 _) rfl rfl rfl rfl dX5_judge_63 (fun r4 u5 h => ?_)
        refine ez_if_eq (pc := 66) (tgt := 87) Z dX5_judge_66 rfl (fun c6 => ?_) (fun c6 => ?_)
        · replace h := h.1 c6
          refine ez_iload_n (pc := 87) Z dX5_judge_87 3 rfl rfl ?_
          refine ez_istore_n (pc := 88) (L' := [(2, .int v3), (0, .ref (X.2.1 50)), (1, .int v1), (3, .int v3)]) Z dX5_judge_88 rfl (by decide) rfl ?_
          refine ez_sub [(0, .ref (X.2.1 50)), (1, .int v1), (2, .int v3), (3, .int v3)] [1, 2, 0, 3] rfl ?_
          exact tX5_judge_89 hE1 Z hR hR23 h
        · replace h := h.2 c6
          refine ez_aload_n (pc := 69) Z dX5_judge_69 0 rfl rfl ?_
          refine ez_aload_n (pc := 70) Z dX5_judge_70 0 rfl rfl ?_
          refine fX5_row (pc := 71) (M := s1) Z hE1 inX5_judge (List.mem_of_getElem? (i := 2) rfl) dX5_judge_71 ?_
          refine ez_iload_n (pc := 74) Z dX5_judge_74 3 rfl rfl ?_
          refine ez_iald (pc := 75) (n := 12) (a := 13) (v := s1.2.1 13 v3.toNatClampNeg) (M := s1) Z hE1 14 rfl (by decide : 13 < 36) rfl rfl h.1 dX5_judge_75 ?_
          replace h := h.2
          refine ez_iload_n (pc := 76) Z dX5_judge_76 1 rfl rfl ?_
          refine ez_callVv (pc := 77) (r := 50) (As := [.int (s1.2.1 13 v3.toNatClampNeg), .int v1]) (st := []) Z (kX5_hasNowRead Z.2.2.2.2.2.2.2.2.2.1 (E := E) hE1 h) gX5_judge_X5_hasNowRead rfl rfl rfl hdX5_hasNowRead rfl rfl (by decide) (ew_oM hE1 _) rfl rfl rfl rfl dX5_judge_77 (fun m8 h => ?_)
          refine ez_aload_n (pc := 80) Z dX5_judge_80 0 rfl rfl ?_
          refine ez_callVv (pc := 81) (r := 50) (As := []) (st := []) Z (kX5_passes Z.2.2.2.2.2.2.2.2.2.1 (E := E) hE1 h) gX5_judge_X5_passes rfl rfl rfl hdX5_passes rfl rfl (by decide) (ew_oM hE1 _) rfl rfl rfl rfl dX5_judge_81 (fun m10 h => ?_)
          refine ez_goto (pc := 84) (tgt := 89) Z dX5_judge_84 rfl ?_
          exact tX5_judge_89 hE1 Z hR hR23 h
      · replace h := h.2 c3
        refine ez_aload_n (pc := 48) Z dX5_judge_48 0 rfl rfl ?_
        refine ez_callVv (pc := 49) (r := 50) (As := []) (st := []) Z (kX5_passes Z.2.2.2.2.2.2.2.2.2.1 (E := E) hE1 h) gX5_judge_X5_passes rfl rfl rfl hdX5_passes rfl rfl (by decide) (ew_oM hE1 _) rfl rfl rfl rfl dX5_judge_49 (fun m12 h => ?_)
        refine ez_goto (pc := 52) (tgt := 89) Z dX5_judge_52 rfl ?_
        exact tX5_judge_89 hE1 Z hR hR23 h
set_option maxHeartbeats 4000000 in
set_option maxRecDepth 100000 in
theorem kX5_judge {X : ew_X} {l : Launch} (hX : ew_Ap X) {E : ew_M → ew_S} (hE1 : ew_GE X 50 (ew_GM X.2.1) E) {Q : Int32 → ew_M → Prop} {p1 : Int32} {s1 : ew_M} (h : wX5_judge Q p1 s1) : Met l yX5_judge wsX5_judge ({ frames := 6, cells := 0, slots := 0, locals := 134 } : Room) (va_Pc [.ref (X.2.1 50), .int p1] (ew_wd X (E s1))) (va_Qi (fun (r : Int32) (u : ew_M) => Q r u) (fun (u : ew_M) => ew_wd X ((fun (u : ew_M) => E u) u)) X.2.2.1) 0 0 X.2.2.1 := by
  refine ew_met (As := [.ref (X.2.1 50), .int p1]) (L0 := [(0, .ref (X.2.1 50)), (1, .int p1)]) X l hX (by decide) rfl rfl rfl rfl (fun C hl Z hR => ?_)
  subst hl
  refine ez_aload_n (pc := 0) Z dX5_judge_0 0 rfl rfl ?_
  refine ez_iload_n (pc := 1) Z dX5_judge_1 1 rfl rfl ?_
  refine ez_callVi (pc := 2) (r := 50) (As := [.int p1]) (st := []) Z (kX5_isPaper Z.2.2.2.2.2.2.2.2.2.1 (E := E) hE1 h) gX5_judge_X5_isPaper rfl rfl rfl hdX5_isPaper rfl rfl (by decide) (ew_oM hE1 _) rfl rfl rfl rfl dX5_judge_2 (fun r1 u2 h => ?_)
  refine ez_if_ne (pc := 5) (tgt := 14) Z dX5_judge_5 rfl (fun c3 => ?_) (fun c3 => ?_)
  · replace h := h.1 c3
    refine ez_aload_n (pc := 14) Z dX5_judge_14 0 rfl rfl ?_
    refine ez_callVv (pc := 15) (r := 50) (As := []) (st := []) Z (kX5_keeps Z.2.2.2.2.2.2.2.2.2.1 (E := E) hE1 h) gX5_judge_X5_keeps rfl rfl rfl hdX5_keeps rfl rfl (by decide) (ew_oM hE1 _) rfl rfl rfl rfl dX5_judge_15 (fun m5 h => ?_)
    refine ez_bipush (pc := 18) Z dX5_judge_18 eb_m9 ?_
    refine ez_istore_n (pc := 20) (L' := [(2, .int (-9 : Int32)), (0, .ref (X.2.1 50)), (1, .int p1)]) Z dX5_judge_20 rfl (by decide) rfl ?_
    refine ez_iconst (pc := 21) Z dX5_judge_21 ec_0 ?_
    refine ez_istore_n (pc := 22) (L' := [(3, .int (0 : Int32)), (2, .int (-9 : Int32)), (0, .ref (X.2.1 50)), (1, .int p1)]) Z dX5_judge_22 rfl (by decide) rfl ?_
    refine ez_sub [(0, .ref (X.2.1 50)), (1, .int p1), (2, .int (-9 : Int32)), (3, .int (0 : Int32))] [2, 3, 1, 0] rfl ?_
    exact ew_ind (P := fun (x : Int32 × Int32 × ew_M) => ew_W C X 4 (E x.2.2) 23 [(0, .ref (X.2.1 50)), (1, .int p1), (2, .int x.1), (3, .int x.2.1)] []) (fun R hR9 x h => tX5_judge_23 hE1 Z hR  hR9 h) h
  · replace h := h.2 c3
    refine ez_aload_n (pc := 8) Z dX5_judge_8 0 rfl rfl ?_
    refine ez_iconst (pc := 9) Z dX5_judge_9 ec_m1 ?_
    refine ez_callVi (pc := 10) (r := 50) (As := [.int (-1 : Int32)]) (st := []) Z (kX5_refuse Z.2.2.2.2.2.2.2.2.2.1 (E := E) hE1 h) gX5_judge_X5_refuse rfl rfl rfl hdX5_refuse rfl rfl (by decide) (ew_oM hE1 _) rfl rfl rfl rfl dX5_judge_10 (fun r6 m7 h => ?_)
    exact ez_iret (pc := 13) Z hR m7 h rfl dX5_judge_13
theorem inX5_image : ∀ w ∈ wsX50, w ∈ wsX5_image := fun _ h => List.mem_cons_of_mem _ (List.mem_append_right _ (h))
theorem hdX5_image : yX5_image.cls = RX5 ∧ yX5_image.cls ≠ "java/lang/invoke/MethodHandle" ∧ yX5_image.cls ≠ "java/lang/invoke/VarHandle" ∧ (parseMethodDescriptor yX5_image.desc).map (fun d => d.parameters.length) = some 0 := by decide +kernel
def wX5_image_246 (R246 : Int32 × ew_M → Prop) (Q : Int32 → ew_M → Prop) (v1 : Int32) (s1 : ew_M) : Prop := ((90 : Int32) ≤ v1 → Q (s1.1 17) s1) ∧ (¬ (90 : Int32) ≤ v1 → vp_in v1 90 ∧ (vp_in v1 90 ∧ (R246 (v1 + (1 : Int32), ew_sW s1 2 v1.toNatClampNeg (s1.2.2 0 v1.toNatClampNeg)))))
def wX5_image_220 (R220 : Int32 × ew_M → Prop) (Q : Int32 → ew_M → Prop) (v1 : Int32) (s1 : ew_M) : Prop := ((30 : Int32) ≤ v1 → ew_lp (fun (R : Int32 × ew_M → Prop) (x : Int32 × ew_M) => wX5_image_246 R Q x.1 x.2) ((0 : Int32), s1)) ∧ (¬ (30 : Int32) ≤ v1 → vp_in v1 30 ∧ (vp_in v1 30 ∧ (R220 (v1 + (1 : Int32), ew_sA s1 35 v1.toNatClampNeg (s1.2.1 11 v1.toNatClampNeg)))))
def wX5_image_182 (R182 : Int32 × ew_M → Prop) (Q : Int32 → ew_M → Prop) (v1 : Int32) (s1 : ew_M) : Prop := ((15 : Int32) ≤ v1 → ew_lp (fun (R : Int32 × ew_M → Prop) (x : Int32 × ew_M) => wX5_image_220 R Q x.1 x.2) ((0 : Int32), s1)) ∧ (¬ (15 : Int32) ≤ v1 → vp_in v1 15 ∧ (vp_in v1 15 ∧ (vp_in v1 15 ∧ (vp_in v1 15 ∧ (R182 (v1 + (1 : Int32), ew_sA (ew_sA s1 29 v1.toNatClampNeg (s1.2.1 5 v1.toNatClampNeg)) 30 v1.toNatClampNeg (s1.2.1 6 v1.toNatClampNeg)))))))
def wX5_image_109 (R109 : Int32 × ew_M → Prop) (Q : Int32 → ew_M → Prop) (v1 : Int32) (s1 : ew_M) : Prop := ((5 : Int32) ≤ v1 → ew_lp (fun (R : Int32 × ew_M → Prop) (x : Int32 × ew_M) => wX5_image_182 R Q x.1 x.2) ((0 : Int32), s1)) ∧ (¬ (5 : Int32) ≤ v1 → vp_in v1 5 ∧ (vp_in v1 5 ∧ (vp_in v1 5 ∧ (vp_in v1 5 ∧ (vp_in v1 5 ∧ (vp_in v1 5 ∧ (∀ (z2 : ew_M), z2 = ew_sA (ew_sA (ew_sA s1 28 v1.toNatClampNeg (s1.2.1 4 v1.toNatClampNeg)) 31 v1.toNatClampNeg (s1.2.1 7 v1.toNatClampNeg)) 32 v1.toNatClampNeg (s1.2.1 8 v1.toNatClampNeg) → vp_in v1 5 ∧ (vp_in v1 5 ∧ (vp_in v1 5 ∧ (vp_in v1 5 ∧ (R109 (v1 + (1 : Int32), ew_sA (ew_sA z2 33 v1.toNatClampNeg (z2.2.1 9 v1.toNatClampNeg)) 34 v1.toNatClampNeg (z2.2.1 10 v1.toNatClampNeg)))))))))))))
def wX5_image_47 (R47 : Int32 × ew_M → Prop) (Q : Int32 → ew_M → Prop) (v1 : Int32) (s1 : ew_M) : Prop := ((6 : Int32) ≤ v1 → ew_lp (fun (R : Int32 × ew_M → Prop) (x : Int32 × ew_M) => wX5_image_109 R Q x.1 x.2) ((0 : Int32), s1)) ∧ (¬ (6 : Int32) ≤ v1 → vp_in v1 6 ∧ (vp_in v1 6 ∧ (vp_in v1 6 ∧ (vp_in v1 6 ∧ (vp_in v1 6 ∧ (vp_in v1 6 ∧ (∀ (z2 : ew_M), z2 = ew_sA (ew_sA (ew_sA s1 24 v1.toNatClampNeg (s1.2.1 0 v1.toNatClampNeg)) 25 v1.toNatClampNeg (s1.2.1 1 v1.toNatClampNeg)) 26 v1.toNatClampNeg (s1.2.1 2 v1.toNatClampNeg) → vp_in v1 6 ∧ (vp_in v1 6 ∧ (R47 (v1 + (1 : Int32), ew_sA z2 27 v1.toNatClampNeg (z2.2.1 3 v1.toNatClampNeg)))))))))))
def wX5_image (Q : Int32 → ew_M → Prop) (s1 : ew_M) : Prop := ew_lp (fun (R : Int32 × ew_M → Prop) (x : Int32 × ew_M) => wX5_image_47 R Q x.1 x.2) ((0 : Int32), (ew_sI (ew_sI (ew_sI (ew_sI (ew_sI (ew_sI s1 41 (1 : Int32)) 42 (s1.1 0)) 43 (s1.1 5)) 44 (s1.1 15)) 45 (s1.1 16)) 46 (s1.1 17)))
set_option maxHeartbeats 4000000 in
set_option maxRecDepth 100000 in
theorem tX5_image_246 {C : ew_C} {X : ew_X} {E : ew_M → ew_S} (hE1 : ew_GE X 50 (ew_GM X.2.1) E) (Z : ew_Z C X cX5_image 2 RX5 wsX5_image ({ frames := 0, cells := 0, slots := 0, locals := 0 } : Room) (some .int)) {Q : Int32 → ew_M → Prop} {R246 : Int32 × ew_M → Prop} {v1 : Int32} {s1 : ew_M} (hR : C.2.2.2.2.2.2.2.2.2.2 = MQ C.2.2.2.2.2.2.2.1 (va_Qi (fun (r : Int32) (u : ew_M) => Q r u) (fun (u : ew_M) => ew_wd X ((fun (u : ew_M) => E u) u)) X.2.2.1) C.2.2.2.2.2.2.1 C.2.2.2.2.1 0 0 X.2.2.1) (hR246 : ∀ x : Int32 × ew_M, R246 x → ew_W C X 2 (E x.2) 246 [(0, .ref (X.2.1 50)), (1, .int x.1)] []) (h : wX5_image_246 R246 Q v1 s1) : ew_W C X 2 (E s1) 246 [(0, .ref (X.2.1 50)), (1, .int v1)] [] := by
  refine ez_iload_n (pc := 246) Z dX5_image_246 1 rfl rfl ?_
  refine ez_bipush (pc := 247) Z dX5_image_247 eb_90 ?_
  refine ez_icmp_ge (pc := 249) (tgt := 270) Z dX5_image_249 rfl (fun c1 => ?_) (fun c1 => ?_)
  · replace h := h.1 c1
    refine ez_aload_n (pc := 270) Z dX5_image_270 0 rfl rfl ?_
    refine fX5_week (pc := 271) (v := s1.1 17) Z hE1 rfl inX5_image (List.mem_of_getElem? (i := 10) rfl) dX5_image_271 ?_
    exact ez_iret (pc := 274) Z hR s1 h rfl dX5_image_274
  · replace h := h.2 c1
    refine ez_aload_n (pc := 252) Z dX5_image_252 0 rfl rfl ?_
    refine fX5_imageWeights (pc := 253) (M := s1) Z hE1 inX5_image (List.mem_of_getElem? (i := 36) rfl) dX5_image_253 ?_
    refine ez_iload_n (pc := 256) Z dX5_image_256 1 rfl rfl ?_
    refine ez_aload_n (pc := 257) Z dX5_image_257 0 rfl rfl ?_
    refine fX5_weights (pc := 258) (M := s1) Z hE1 inX5_image (List.mem_of_getElem? (i := 37) rfl) dX5_image_258 ?_
    refine ez_iload_n (pc := 261) Z dX5_image_261 1 rfl rfl ?_
    refine ez_lald (pc := 262) (n := 90) (a := 0) (v := s1.2.2 0 v1.toNatClampNeg) (M := s1) Z hE1 37 rfl (by decide : 0 < 3) rfl rfl h.1 dX5_image_262 ?_
    replace h := h.2
    refine ez_last (pc := 263) (n := 90) (a := 2) (M := s1) (M' := ew_sW s1 2 v1.toNatClampNeg (s1.2.2 0 v1.toNatClampNeg)) Z hE1 39 rfl (by decide : 2 < 3) rfl (fun _ _ _ => rfl) rfl h.1 dX5_image_263 ?_
    replace h := h.2
    refine ez_iinc (pc := 264) (L' := [(1, .int (v1 + (1 : Int32))), (0, .ref (X.2.1 50))]) Z dX5_image_264 1 rfl (ei_1 _) (by decide) rfl ?_
    refine ez_goto (pc := 267) (tgt := 246) Z dX5_image_267 rfl ?_
    refine ez_sub [(0, .ref (X.2.1 50)), (1, .int (v1 + (1 : Int32)))] [1, 0] rfl ?_
    exact hR246 _ h
set_option maxHeartbeats 4000000 in
set_option maxRecDepth 100000 in
theorem tX5_image_220 {C : ew_C} {X : ew_X} {E : ew_M → ew_S} (hE1 : ew_GE X 50 (ew_GM X.2.1) E) (Z : ew_Z C X cX5_image 2 RX5 wsX5_image ({ frames := 0, cells := 0, slots := 0, locals := 0 } : Room) (some .int)) {Q : Int32 → ew_M → Prop} {R220 : Int32 × ew_M → Prop} {v1 : Int32} {s1 : ew_M} (hR : C.2.2.2.2.2.2.2.2.2.2 = MQ C.2.2.2.2.2.2.2.1 (va_Qi (fun (r : Int32) (u : ew_M) => Q r u) (fun (u : ew_M) => ew_wd X ((fun (u : ew_M) => E u) u)) X.2.2.1) C.2.2.2.2.2.2.1 C.2.2.2.2.1 0 0 X.2.2.1) (hR220 : ∀ x : Int32 × ew_M, R220 x → ew_W C X 2 (E x.2) 220 [(0, .ref (X.2.1 50)), (1, .int x.1)] []) (h : wX5_image_220 R220 Q v1 s1) : ew_W C X 2 (E s1) 220 [(0, .ref (X.2.1 50)), (1, .int v1)] [] := by
  refine ez_iload_n (pc := 220) Z dX5_image_220 1 rfl rfl ?_
  refine ez_bipush (pc := 221) Z dX5_image_221 eb_30 ?_
  refine ez_icmp_ge (pc := 223) (tgt := 244) Z dX5_image_223 rfl (fun c1 => ?_) (fun c1 => ?_)
  · replace h := h.1 c1
    refine ez_iconst (pc := 244) Z dX5_image_244 ec_0 ?_
    refine ez_istore_n (pc := 245) (L' := [(1, .int (0 : Int32)), (0, .ref (X.2.1 50))]) Z dX5_image_245 rfl (by decide) rfl ?_
    refine ez_sub [(0, .ref (X.2.1 50)), (1, .int (0 : Int32))] [1, 0] rfl ?_
    exact ew_ind (P := fun (x : Int32 × ew_M) => ew_W C X 2 (E x.2) 246 [(0, .ref (X.2.1 50)), (1, .int x.1)] []) (fun R hR9 x h => tX5_image_246 hE1 Z hR  hR9 h) h
  · replace h := h.2 c1
    refine ez_aload_n (pc := 226) Z dX5_image_226 0 rfl rfl ?_
    refine fX5_imageHeard (pc := 227) (M := s1) Z hE1 inX5_image (List.mem_of_getElem? (i := 34) rfl) dX5_image_227 ?_
    refine ez_iload_n (pc := 230) Z dX5_image_230 1 rfl rfl ?_
    refine ez_aload_n (pc := 231) Z dX5_image_231 0 rfl rfl ?_
    refine fX5_heard (pc := 232) (M := s1) Z hE1 inX5_image (List.mem_of_getElem? (i := 35) rfl) dX5_image_232 ?_
    refine ez_iload_n (pc := 235) Z dX5_image_235 1 rfl rfl ?_
    refine ez_iald (pc := 236) (n := 30) (a := 11) (v := s1.2.1 11 v1.toNatClampNeg) (M := s1) Z hE1 12 rfl (by decide : 11 < 36) rfl rfl h.1 dX5_image_236 ?_
    replace h := h.2
    refine ez_iast (pc := 237) (n := 30) (a := 35) (M := s1) (M' := ew_sA s1 35 v1.toNatClampNeg (s1.2.1 11 v1.toNatClampNeg)) Z hE1 36 rfl (by decide : 35 < 36) rfl rfl h.1 dX5_image_237 ?_
    replace h := h.2
    refine ez_iinc (pc := 238) (L' := [(1, .int (v1 + (1 : Int32))), (0, .ref (X.2.1 50))]) Z dX5_image_238 1 rfl (ei_1 _) (by decide) rfl ?_
    refine ez_goto (pc := 241) (tgt := 220) Z dX5_image_241 rfl ?_
    refine ez_sub [(0, .ref (X.2.1 50)), (1, .int (v1 + (1 : Int32)))] [1, 0] rfl ?_
    exact hR220 _ h
set_option maxHeartbeats 4000000 in
set_option maxRecDepth 100000 in
theorem tX5_image_182 {C : ew_C} {X : ew_X} {E : ew_M → ew_S} (hE1 : ew_GE X 50 (ew_GM X.2.1) E) (Z : ew_Z C X cX5_image 2 RX5 wsX5_image ({ frames := 0, cells := 0, slots := 0, locals := 0 } : Room) (some .int)) {Q : Int32 → ew_M → Prop} {R182 : Int32 × ew_M → Prop} {v1 : Int32} {s1 : ew_M} (hR : C.2.2.2.2.2.2.2.2.2.2 = MQ C.2.2.2.2.2.2.2.1 (va_Qi (fun (r : Int32) (u : ew_M) => Q r u) (fun (u : ew_M) => ew_wd X ((fun (u : ew_M) => E u) u)) X.2.2.1) C.2.2.2.2.2.2.1 C.2.2.2.2.1 0 0 X.2.2.1) (hR182 : ∀ x : Int32 × ew_M, R182 x → ew_W C X 2 (E x.2) 182 [(0, .ref (X.2.1 50)), (1, .int x.1)] []) (h : wX5_image_182 R182 Q v1 s1) : ew_W C X 2 (E s1) 182 [(0, .ref (X.2.1 50)), (1, .int v1)] [] := by
  refine ez_iload_n (pc := 182) Z dX5_image_182 1 rfl rfl ?_
  refine ez_bipush (pc := 183) Z dX5_image_183 eb_15 ?_
  refine ez_icmp_ge (pc := 185) (tgt := 218) Z dX5_image_185 rfl (fun c1 => ?_) (fun c1 => ?_)
  · replace h := h.1 c1
    refine ez_iconst (pc := 218) Z dX5_image_218 ec_0 ?_
    refine ez_istore_n (pc := 219) (L' := [(1, .int (0 : Int32)), (0, .ref (X.2.1 50))]) Z dX5_image_219 rfl (by decide) rfl ?_
    refine ez_sub [(0, .ref (X.2.1 50)), (1, .int (0 : Int32))] [1, 0] rfl ?_
    exact ew_ind (P := fun (x : Int32 × ew_M) => ew_W C X 2 (E x.2) 220 [(0, .ref (X.2.1 50)), (1, .int x.1)] []) (fun R hR9 x h => tX5_image_220 hE1 Z hR  hR9 h) h
  · replace h := h.2 c1
    refine ez_aload_n (pc := 188) Z dX5_image_188 0 rfl rfl ?_
    refine fX5_imageShare (pc := 189) (M := s1) Z hE1 inX5_image (List.mem_of_getElem? (i := 30) rfl) dX5_image_189 ?_
    refine ez_iload_n (pc := 192) Z dX5_image_192 1 rfl rfl ?_
    refine ez_aload_n (pc := 193) Z dX5_image_193 0 rfl rfl ?_
    refine fX5_share (pc := 194) (M := s1) Z hE1 inX5_image (List.mem_of_getElem? (i := 31) rfl) dX5_image_194 ?_
    refine ez_iload_n (pc := 197) Z dX5_image_197 1 rfl rfl ?_
    refine ez_iald (pc := 198) (n := 15) (a := 5) (v := s1.2.1 5 v1.toNatClampNeg) (M := s1) Z hE1 6 rfl (by decide : 5 < 36) rfl rfl h.1 dX5_image_198 ?_
    replace h := h.2
    refine ez_iast (pc := 199) (n := 15) (a := 29) (M := s1) (M' := ew_sA s1 29 v1.toNatClampNeg (s1.2.1 5 v1.toNatClampNeg)) Z hE1 30 rfl (by decide : 29 < 36) rfl rfl h.1 dX5_image_199 ?_
    replace h := h.2
    refine ez_aload_n (pc := 200) Z dX5_image_200 0 rfl rfl ?_
    refine fX5_imageBrings (pc := 201) (M := ew_sA s1 29 v1.toNatClampNeg (s1.2.1 5 v1.toNatClampNeg)) Z hE1 inX5_image (List.mem_of_getElem? (i := 32) rfl) dX5_image_201 ?_
    refine ez_iload_n (pc := 204) Z dX5_image_204 1 rfl rfl ?_
    refine ez_aload_n (pc := 205) Z dX5_image_205 0 rfl rfl ?_
    refine fX5_brings (pc := 206) (M := ew_sA s1 29 v1.toNatClampNeg (s1.2.1 5 v1.toNatClampNeg)) Z hE1 inX5_image (List.mem_of_getElem? (i := 33) rfl) dX5_image_206 ?_
    refine ez_iload_n (pc := 209) Z dX5_image_209 1 rfl rfl ?_
    refine ez_iald (pc := 210) (n := 15) (a := 6) (v := s1.2.1 6 v1.toNatClampNeg) (M := ew_sA s1 29 v1.toNatClampNeg (s1.2.1 5 v1.toNatClampNeg)) Z hE1 7 rfl (by decide : 6 < 36) rfl rfl h.1 dX5_image_210 ?_
    replace h := h.2
    refine ez_iast (pc := 211) (n := 15) (a := 30) (M := ew_sA s1 29 v1.toNatClampNeg (s1.2.1 5 v1.toNatClampNeg)) (M' := ew_sA (ew_sA s1 29 v1.toNatClampNeg (s1.2.1 5 v1.toNatClampNeg)) 30 v1.toNatClampNeg (s1.2.1 6 v1.toNatClampNeg)) Z hE1 31 rfl (by decide : 30 < 36) rfl rfl h.1 dX5_image_211 ?_
    replace h := h.2
    refine ez_iinc (pc := 212) (L' := [(1, .int (v1 + (1 : Int32))), (0, .ref (X.2.1 50))]) Z dX5_image_212 1 rfl (ei_1 _) (by decide) rfl ?_
    refine ez_goto (pc := 215) (tgt := 182) Z dX5_image_215 rfl ?_
    refine ez_sub [(0, .ref (X.2.1 50)), (1, .int (v1 + (1 : Int32)))] [1, 0] rfl ?_
    exact hR182 _ h
set_option maxHeartbeats 4000000 in
set_option maxRecDepth 100000 in
theorem tX5_image_109 {C : ew_C} {X : ew_X} {E : ew_M → ew_S} (hE1 : ew_GE X 50 (ew_GM X.2.1) E) (Z : ew_Z C X cX5_image 2 RX5 wsX5_image ({ frames := 0, cells := 0, slots := 0, locals := 0 } : Room) (some .int)) {Q : Int32 → ew_M → Prop} {R109 : Int32 × ew_M → Prop} {v1 : Int32} {s1 : ew_M} (hR : C.2.2.2.2.2.2.2.2.2.2 = MQ C.2.2.2.2.2.2.2.1 (va_Qi (fun (r : Int32) (u : ew_M) => Q r u) (fun (u : ew_M) => ew_wd X ((fun (u : ew_M) => E u) u)) X.2.2.1) C.2.2.2.2.2.2.1 C.2.2.2.2.1 0 0 X.2.2.1) (hR109 : ∀ x : Int32 × ew_M, R109 x → ew_W C X 2 (E x.2) 109 [(0, .ref (X.2.1 50)), (1, .int x.1)] []) (h : wX5_image_109 R109 Q v1 s1) : ew_W C X 2 (E s1) 109 [(0, .ref (X.2.1 50)), (1, .int v1)] [] := by
  refine ez_iload_n (pc := 109) Z dX5_image_109 1 rfl rfl ?_
  refine ez_iconst (pc := 110) Z dX5_image_110 ec_5 ?_
  refine ez_icmp_ge (pc := 111) (tgt := 180) Z dX5_image_111 rfl (fun c1 => ?_) (fun c1 => ?_)
  · replace h := h.1 c1
    refine ez_iconst (pc := 180) Z dX5_image_180 ec_0 ?_
    refine ez_istore_n (pc := 181) (L' := [(1, .int (0 : Int32)), (0, .ref (X.2.1 50))]) Z dX5_image_181 rfl (by decide) rfl ?_
    refine ez_sub [(0, .ref (X.2.1 50)), (1, .int (0 : Int32))] [1, 0] rfl ?_
    exact ew_ind (P := fun (x : Int32 × ew_M) => ew_W C X 2 (E x.2) 182 [(0, .ref (X.2.1 50)), (1, .int x.1)] []) (fun R hR9 x h => tX5_image_182 hE1 Z hR  hR9 h) h
  · replace h := h.2 c1
    refine ez_aload_n (pc := 114) Z dX5_image_114 0 rfl rfl ?_
    refine fX5_imageBound (pc := 115) (M := s1) Z hE1 inX5_image (List.mem_of_getElem? (i := 20) rfl) dX5_image_115 ?_
    refine ez_iload_n (pc := 118) Z dX5_image_118 1 rfl rfl ?_
    refine ez_aload_n (pc := 119) Z dX5_image_119 0 rfl rfl ?_
    refine fX5_bound (pc := 120) (M := s1) Z hE1 inX5_image (List.mem_of_getElem? (i := 21) rfl) dX5_image_120 ?_
    refine ez_iload_n (pc := 123) Z dX5_image_123 1 rfl rfl ?_
    refine ez_iald (pc := 124) (n := 5) (a := 4) (v := s1.2.1 4 v1.toNatClampNeg) (M := s1) Z hE1 5 rfl (by decide : 4 < 36) rfl rfl h.1 dX5_image_124 ?_
    replace h := h.2
    refine ez_iast (pc := 125) (n := 5) (a := 28) (M := s1) (M' := ew_sA s1 28 v1.toNatClampNeg (s1.2.1 4 v1.toNatClampNeg)) Z hE1 29 rfl (by decide : 28 < 36) rfl rfl h.1 dX5_image_125 ?_
    replace h := h.2
    refine ez_aload_n (pc := 126) Z dX5_image_126 0 rfl rfl ?_
    refine fX5_imageTrue (pc := 127) (M := ew_sA s1 28 v1.toNatClampNeg (s1.2.1 4 v1.toNatClampNeg)) Z hE1 inX5_image (List.mem_of_getElem? (i := 22) rfl) dX5_image_127 ?_
    refine ez_iload_n (pc := 130) Z dX5_image_130 1 rfl rfl ?_
    refine ez_aload_n (pc := 131) Z dX5_image_131 0 rfl rfl ?_
    refine fX5_trueOne (pc := 132) (M := ew_sA s1 28 v1.toNatClampNeg (s1.2.1 4 v1.toNatClampNeg)) Z hE1 inX5_image (List.mem_of_getElem? (i := 23) rfl) dX5_image_132 ?_
    refine ez_iload_n (pc := 135) Z dX5_image_135 1 rfl rfl ?_
    refine ez_iald (pc := 136) (n := 5) (a := 7) (v := s1.2.1 7 v1.toNatClampNeg) (M := ew_sA s1 28 v1.toNatClampNeg (s1.2.1 4 v1.toNatClampNeg)) Z hE1 8 rfl (by decide : 7 < 36) rfl rfl h.1 dX5_image_136 ?_
    replace h := h.2
    refine ez_iast (pc := 137) (n := 5) (a := 31) (M := ew_sA s1 28 v1.toNatClampNeg (s1.2.1 4 v1.toNatClampNeg)) (M' := ew_sA (ew_sA s1 28 v1.toNatClampNeg (s1.2.1 4 v1.toNatClampNeg)) 31 v1.toNatClampNeg (s1.2.1 7 v1.toNatClampNeg)) Z hE1 32 rfl (by decide : 31 < 36) rfl rfl h.1 dX5_image_137 ?_
    replace h := h.2
    refine ez_aload_n (pc := 138) Z dX5_image_138 0 rfl rfl ?_
    refine fX5_imageRead (pc := 139) (M := ew_sA (ew_sA s1 28 v1.toNatClampNeg (s1.2.1 4 v1.toNatClampNeg)) 31 v1.toNatClampNeg (s1.2.1 7 v1.toNatClampNeg)) Z hE1 inX5_image (List.mem_of_getElem? (i := 24) rfl) dX5_image_139 ?_
    refine ez_iload_n (pc := 142) Z dX5_image_142 1 rfl rfl ?_
    refine ez_aload_n (pc := 143) Z dX5_image_143 0 rfl rfl ?_
    refine fX5_read (pc := 144) (M := ew_sA (ew_sA s1 28 v1.toNatClampNeg (s1.2.1 4 v1.toNatClampNeg)) 31 v1.toNatClampNeg (s1.2.1 7 v1.toNatClampNeg)) Z hE1 inX5_image (List.mem_of_getElem? (i := 25) rfl) dX5_image_144 ?_
    refine ez_iload_n (pc := 147) Z dX5_image_147 1 rfl rfl ?_
    refine ez_iald (pc := 148) (n := 5) (a := 8) (v := s1.2.1 8 v1.toNatClampNeg) (M := ew_sA (ew_sA s1 28 v1.toNatClampNeg (s1.2.1 4 v1.toNatClampNeg)) 31 v1.toNatClampNeg (s1.2.1 7 v1.toNatClampNeg)) Z hE1 9 rfl (by decide : 8 < 36) rfl rfl h.1 dX5_image_148 ?_
    replace h := h.2
    refine ez_iast (pc := 149) (n := 5) (a := 32) (M := ew_sA (ew_sA s1 28 v1.toNatClampNeg (s1.2.1 4 v1.toNatClampNeg)) 31 v1.toNatClampNeg (s1.2.1 7 v1.toNatClampNeg)) (M' := ew_sA (ew_sA (ew_sA s1 28 v1.toNatClampNeg (s1.2.1 4 v1.toNatClampNeg)) 31 v1.toNatClampNeg (s1.2.1 7 v1.toNatClampNeg)) 32 v1.toNatClampNeg (s1.2.1 8 v1.toNatClampNeg)) Z hE1 33 rfl (by decide : 32 < 36) rfl rfl h.1 dX5_image_149 ?_
    replace h := h.2
    refine ez_nm (E := E) (fun z2 ez2 => ?_)
    replace h := h z2 ez2
    refine ez_aload_n (pc := 150) Z dX5_image_150 0 rfl rfl ?_
    refine fX5_imageSaid (pc := 151) (M := z2) Z hE1 inX5_image (List.mem_of_getElem? (i := 26) rfl) dX5_image_151 ?_
    refine ez_iload_n (pc := 154) Z dX5_image_154 1 rfl rfl ?_
    refine ez_aload_n (pc := 155) Z dX5_image_155 0 rfl rfl ?_
    refine fX5_said (pc := 156) (M := z2) Z hE1 inX5_image (List.mem_of_getElem? (i := 27) rfl) dX5_image_156 ?_
    refine ez_iload_n (pc := 159) Z dX5_image_159 1 rfl rfl ?_
    refine ez_iald (pc := 160) (n := 5) (a := 9) (v := z2.2.1 9 v1.toNatClampNeg) (M := z2) Z hE1 10 rfl (by decide : 9 < 36) rfl rfl h.1 dX5_image_160 ?_
    replace h := h.2
    refine ez_iast (pc := 161) (n := 5) (a := 33) (M := z2) (M' := ew_sA z2 33 v1.toNatClampNeg (z2.2.1 9 v1.toNatClampNeg)) Z hE1 34 rfl (by decide : 33 < 36) rfl rfl h.1 dX5_image_161 ?_
    replace h := h.2
    refine ez_aload_n (pc := 162) Z dX5_image_162 0 rfl rfl ?_
    refine fX5_imageLasted (pc := 163) (M := ew_sA z2 33 v1.toNatClampNeg (z2.2.1 9 v1.toNatClampNeg)) Z hE1 inX5_image (List.mem_of_getElem? (i := 28) rfl) dX5_image_163 ?_
    refine ez_iload_n (pc := 166) Z dX5_image_166 1 rfl rfl ?_
    refine ez_aload_n (pc := 167) Z dX5_image_167 0 rfl rfl ?_
    refine fX5_lasted (pc := 168) (M := ew_sA z2 33 v1.toNatClampNeg (z2.2.1 9 v1.toNatClampNeg)) Z hE1 inX5_image (List.mem_of_getElem? (i := 29) rfl) dX5_image_168 ?_
    refine ez_iload_n (pc := 171) Z dX5_image_171 1 rfl rfl ?_
    refine ez_iald (pc := 172) (n := 5) (a := 10) (v := z2.2.1 10 v1.toNatClampNeg) (M := ew_sA z2 33 v1.toNatClampNeg (z2.2.1 9 v1.toNatClampNeg)) Z hE1 11 rfl (by decide : 10 < 36) rfl rfl h.1 dX5_image_172 ?_
    replace h := h.2
    refine ez_iast (pc := 173) (n := 5) (a := 34) (M := ew_sA z2 33 v1.toNatClampNeg (z2.2.1 9 v1.toNatClampNeg)) (M' := ew_sA (ew_sA z2 33 v1.toNatClampNeg (z2.2.1 9 v1.toNatClampNeg)) 34 v1.toNatClampNeg (z2.2.1 10 v1.toNatClampNeg)) Z hE1 35 rfl (by decide : 34 < 36) rfl rfl h.1 dX5_image_173 ?_
    replace h := h.2
    refine ez_iinc (pc := 174) (L' := [(1, .int (v1 + (1 : Int32))), (0, .ref (X.2.1 50))]) Z dX5_image_174 1 rfl (ei_1 _) (by decide) rfl ?_
    refine ez_goto (pc := 177) (tgt := 109) Z dX5_image_177 rfl ?_
    refine ez_sub [(0, .ref (X.2.1 50)), (1, .int (v1 + (1 : Int32)))] [1, 0] rfl ?_
    exact hR109 _ h
set_option maxHeartbeats 4000000 in
set_option maxRecDepth 100000 in
theorem tX5_image_47 {C : ew_C} {X : ew_X} {E : ew_M → ew_S} (hE1 : ew_GE X 50 (ew_GM X.2.1) E) (Z : ew_Z C X cX5_image 2 RX5 wsX5_image ({ frames := 0, cells := 0, slots := 0, locals := 0 } : Room) (some .int)) {Q : Int32 → ew_M → Prop} {R47 : Int32 × ew_M → Prop} {v1 : Int32} {s1 : ew_M} (hR : C.2.2.2.2.2.2.2.2.2.2 = MQ C.2.2.2.2.2.2.2.1 (va_Qi (fun (r : Int32) (u : ew_M) => Q r u) (fun (u : ew_M) => ew_wd X ((fun (u : ew_M) => E u) u)) X.2.2.1) C.2.2.2.2.2.2.1 C.2.2.2.2.1 0 0 X.2.2.1) (hR47 : ∀ x : Int32 × ew_M, R47 x → ew_W C X 2 (E x.2) 47 [(0, .ref (X.2.1 50)), (1, .int x.1)] []) (h : wX5_image_47 R47 Q v1 s1) : ew_W C X 2 (E s1) 47 [(0, .ref (X.2.1 50)), (1, .int v1)] [] := by
  refine ez_iload_n (pc := 47) Z dX5_image_47 1 rfl rfl ?_
  refine ez_bipush (pc := 48) Z dX5_image_48 eb_6 ?_
  refine ez_icmp_ge (pc := 50) (tgt := 107) Z dX5_image_50 rfl (fun c1 => ?_) (fun c1 => ?_)
  · replace h := h.1 c1
    refine ez_iconst (pc := 107) Z dX5_image_107 ec_0 ?_
    refine ez_istore_n (pc := 108) (L' := [(1, .int (0 : Int32)), (0, .ref (X.2.1 50))]) Z dX5_image_108 rfl (by decide) rfl ?_
    refine ez_sub [(0, .ref (X.2.1 50)), (1, .int (0 : Int32))] [1, 0] rfl ?_
    exact ew_ind (P := fun (x : Int32 × ew_M) => ew_W C X 2 (E x.2) 109 [(0, .ref (X.2.1 50)), (1, .int x.1)] []) (fun R hR9 x h => tX5_image_109 hE1 Z hR  hR9 h) h
  · replace h := h.2 c1
    refine ez_aload_n (pc := 53) Z dX5_image_53 0 rfl rfl ?_
    refine fX5_imageKind (pc := 54) (M := s1) Z hE1 inX5_image (List.mem_of_getElem? (i := 12) rfl) dX5_image_54 ?_
    refine ez_iload_n (pc := 57) Z dX5_image_57 1 rfl rfl ?_
    refine ez_aload_n (pc := 58) Z dX5_image_58 0 rfl rfl ?_
    refine fX5_kind (pc := 59) (M := s1) Z hE1 inX5_image (List.mem_of_getElem? (i := 13) rfl) dX5_image_59 ?_
    refine ez_iload_n (pc := 62) Z dX5_image_62 1 rfl rfl ?_
    refine ez_iald (pc := 63) (n := 6) (a := 0) (v := s1.2.1 0 v1.toNatClampNeg) (M := s1) Z hE1 1 rfl (by decide : 0 < 36) rfl rfl h.1 dX5_image_63 ?_
    replace h := h.2
    refine ez_iast (pc := 64) (n := 6) (a := 24) (M := s1) (M' := ew_sA s1 24 v1.toNatClampNeg (s1.2.1 0 v1.toNatClampNeg)) Z hE1 25 rfl (by decide : 24 < 36) rfl rfl h.1 dX5_image_64 ?_
    replace h := h.2
    refine ez_aload_n (pc := 65) Z dX5_image_65 0 rfl rfl ?_
    refine fX5_imageBar (pc := 66) (M := ew_sA s1 24 v1.toNatClampNeg (s1.2.1 0 v1.toNatClampNeg)) Z hE1 inX5_image (List.mem_of_getElem? (i := 14) rfl) dX5_image_66 ?_
    refine ez_iload_n (pc := 69) Z dX5_image_69 1 rfl rfl ?_
    refine ez_aload_n (pc := 70) Z dX5_image_70 0 rfl rfl ?_
    refine fX5_bar (pc := 71) (M := ew_sA s1 24 v1.toNatClampNeg (s1.2.1 0 v1.toNatClampNeg)) Z hE1 inX5_image (List.mem_of_getElem? (i := 15) rfl) dX5_image_71 ?_
    refine ez_iload_n (pc := 74) Z dX5_image_74 1 rfl rfl ?_
    refine ez_iald (pc := 75) (n := 6) (a := 1) (v := s1.2.1 1 v1.toNatClampNeg) (M := ew_sA s1 24 v1.toNatClampNeg (s1.2.1 0 v1.toNatClampNeg)) Z hE1 2 rfl (by decide : 1 < 36) rfl rfl h.1 dX5_image_75 ?_
    replace h := h.2
    refine ez_iast (pc := 76) (n := 6) (a := 25) (M := ew_sA s1 24 v1.toNatClampNeg (s1.2.1 0 v1.toNatClampNeg)) (M' := ew_sA (ew_sA s1 24 v1.toNatClampNeg (s1.2.1 0 v1.toNatClampNeg)) 25 v1.toNatClampNeg (s1.2.1 1 v1.toNatClampNeg)) Z hE1 26 rfl (by decide : 25 < 36) rfl rfl h.1 dX5_image_76 ?_
    replace h := h.2
    refine ez_aload_n (pc := 77) Z dX5_image_77 0 rfl rfl ?_
    refine fX5_imagePatience (pc := 78) (M := ew_sA (ew_sA s1 24 v1.toNatClampNeg (s1.2.1 0 v1.toNatClampNeg)) 25 v1.toNatClampNeg (s1.2.1 1 v1.toNatClampNeg)) Z hE1 inX5_image (List.mem_of_getElem? (i := 16) rfl) dX5_image_78 ?_
    refine ez_iload_n (pc := 81) Z dX5_image_81 1 rfl rfl ?_
    refine ez_aload_n (pc := 82) Z dX5_image_82 0 rfl rfl ?_
    refine fX5_patience (pc := 83) (M := ew_sA (ew_sA s1 24 v1.toNatClampNeg (s1.2.1 0 v1.toNatClampNeg)) 25 v1.toNatClampNeg (s1.2.1 1 v1.toNatClampNeg)) Z hE1 inX5_image (List.mem_of_getElem? (i := 17) rfl) dX5_image_83 ?_
    refine ez_iload_n (pc := 86) Z dX5_image_86 1 rfl rfl ?_
    refine ez_iald (pc := 87) (n := 6) (a := 2) (v := s1.2.1 2 v1.toNatClampNeg) (M := ew_sA (ew_sA s1 24 v1.toNatClampNeg (s1.2.1 0 v1.toNatClampNeg)) 25 v1.toNatClampNeg (s1.2.1 1 v1.toNatClampNeg)) Z hE1 3 rfl (by decide : 2 < 36) rfl rfl h.1 dX5_image_87 ?_
    replace h := h.2
    refine ez_iast (pc := 88) (n := 6) (a := 26) (M := ew_sA (ew_sA s1 24 v1.toNatClampNeg (s1.2.1 0 v1.toNatClampNeg)) 25 v1.toNatClampNeg (s1.2.1 1 v1.toNatClampNeg)) (M' := ew_sA (ew_sA (ew_sA s1 24 v1.toNatClampNeg (s1.2.1 0 v1.toNatClampNeg)) 25 v1.toNatClampNeg (s1.2.1 1 v1.toNatClampNeg)) 26 v1.toNatClampNeg (s1.2.1 2 v1.toNatClampNeg)) Z hE1 27 rfl (by decide : 26 < 36) rfl rfl h.1 dX5_image_88 ?_
    replace h := h.2
    refine ez_nm (E := E) (fun z2 ez2 => ?_)
    replace h := h z2 ez2
    refine ez_aload_n (pc := 89) Z dX5_image_89 0 rfl rfl ?_
    refine fX5_imageHad (pc := 90) (M := z2) Z hE1 inX5_image (List.mem_of_getElem? (i := 18) rfl) dX5_image_90 ?_
    refine ez_iload_n (pc := 93) Z dX5_image_93 1 rfl rfl ?_
    refine ez_aload_n (pc := 94) Z dX5_image_94 0 rfl rfl ?_
    refine fX5_had (pc := 95) (M := z2) Z hE1 inX5_image (List.mem_of_getElem? (i := 19) rfl) dX5_image_95 ?_
    refine ez_iload_n (pc := 98) Z dX5_image_98 1 rfl rfl ?_
    refine ez_iald (pc := 99) (n := 6) (a := 3) (v := z2.2.1 3 v1.toNatClampNeg) (M := z2) Z hE1 4 rfl (by decide : 3 < 36) rfl rfl h.1 dX5_image_99 ?_
    replace h := h.2
    refine ez_iast (pc := 100) (n := 6) (a := 27) (M := z2) (M' := ew_sA z2 27 v1.toNatClampNeg (z2.2.1 3 v1.toNatClampNeg)) Z hE1 28 rfl (by decide : 27 < 36) rfl rfl h.1 dX5_image_100 ?_
    replace h := h.2
    refine ez_iinc (pc := 101) (L' := [(1, .int (v1 + (1 : Int32))), (0, .ref (X.2.1 50))]) Z dX5_image_101 1 rfl (ei_1 _) (by decide) rfl ?_
    refine ez_goto (pc := 104) (tgt := 47) Z dX5_image_104 rfl ?_
    refine ez_sub [(0, .ref (X.2.1 50)), (1, .int (v1 + (1 : Int32)))] [1, 0] rfl ?_
    exact hR47 _ h
set_option maxHeartbeats 4000000 in
set_option maxRecDepth 100000 in
theorem kX5_image {X : ew_X} {l : Launch} (hX : ew_Ap X) {E : ew_M → ew_S} (hE1 : ew_GE X 50 (ew_GM X.2.1) E) {Q : Int32 → ew_M → Prop} {s1 : ew_M} (h : wX5_image Q s1) : Met l yX5_image wsX5_image ({ frames := 0, cells := 0, slots := 0, locals := 0 } : Room) (va_Pc [.ref (X.2.1 50)] (ew_wd X (E s1))) (va_Qi (fun (r : Int32) (u : ew_M) => Q r u) (fun (u : ew_M) => ew_wd X ((fun (u : ew_M) => E u) u)) X.2.2.1) 0 0 X.2.2.1 := by
  refine ew_met (As := [.ref (X.2.1 50)]) (L0 := [(0, .ref (X.2.1 50))]) X l hX (by decide) rfl rfl rfl rfl (fun C hl Z hR => ?_)
  subst hl
  refine ez_aload_n (pc := 0) Z dX5_image_0 0 rfl rfl ?_
  refine ez_iconst (pc := 1) Z dX5_image_1 ec_1 ?_
  refine pX5_hasImage (pc := 2) (M := s1) (M' := ew_sI s1 41 (1 : Int32)) Z hE1 rfl rfl rfl inX5_image (List.mem_of_getElem? (i := 1) rfl) dX5_image_2 ?_
  refine ez_aload_n (pc := 5) Z dX5_image_5 0 rfl rfl ?_
  refine ez_aload_n (pc := 6) Z dX5_image_6 0 rfl rfl ?_
  refine fX5_persons (pc := 7) (v := s1.1 0) Z hE1 rfl inX5_image (List.mem_of_getElem? (i := 2) rfl) dX5_image_7 ?_
  refine pX5_imagePersons (pc := 10) (M := ew_sI s1 41 (1 : Int32)) (M' := ew_sI (ew_sI s1 41 (1 : Int32)) 42 (s1.1 0)) Z hE1 rfl inX5_image (List.mem_of_getElem? (i := 3) rfl) dX5_image_10 ?_
  refine ez_aload_n (pc := 13) Z dX5_image_13 0 rfl rfl ?_
  refine ez_aload_n (pc := 14) Z dX5_image_14 0 rfl rfl ?_
  refine fX5_papers (pc := 15) (v := s1.1 5) Z hE1 rfl inX5_image (List.mem_of_getElem? (i := 4) rfl) dX5_image_15 ?_
  refine pX5_imagePapers (pc := 18) (M := ew_sI (ew_sI s1 41 (1 : Int32)) 42 (s1.1 0)) (M' := ew_sI (ew_sI (ew_sI s1 41 (1 : Int32)) 42 (s1.1 0)) 43 (s1.1 5)) Z hE1 rfl inX5_image (List.mem_of_getElem? (i := 5) rfl) dX5_image_18 ?_
  refine ez_aload_n (pc := 21) Z dX5_image_21 0 rfl rfl ?_
  refine ez_aload_n (pc := 22) Z dX5_image_22 0 rfl rfl ?_
  refine fX5_law (pc := 23) (v := s1.1 15) Z hE1 rfl inX5_image (List.mem_of_getElem? (i := 6) rfl) dX5_image_23 ?_
  refine pX5_imageLaw (pc := 26) (M := ew_sI (ew_sI (ew_sI s1 41 (1 : Int32)) 42 (s1.1 0)) 43 (s1.1 5)) (M' := ew_sI (ew_sI (ew_sI (ew_sI s1 41 (1 : Int32)) 42 (s1.1 0)) 43 (s1.1 5)) 44 (s1.1 15)) Z hE1 rfl inX5_image (List.mem_of_getElem? (i := 7) rfl) dX5_image_26 ?_
  refine ez_aload_n (pc := 29) Z dX5_image_29 0 rfl rfl ?_
  refine ez_aload_n (pc := 30) Z dX5_image_30 0 rfl rfl ?_
  refine fX5_truthful (pc := 31) (v := s1.1 16) Z hE1 rfl inX5_image (List.mem_of_getElem? (i := 8) rfl) dX5_image_31 ?_
  refine pX5_imageTruthful (pc := 34) (M := ew_sI (ew_sI (ew_sI (ew_sI s1 41 (1 : Int32)) 42 (s1.1 0)) 43 (s1.1 5)) 44 (s1.1 15)) (M' := ew_sI (ew_sI (ew_sI (ew_sI (ew_sI s1 41 (1 : Int32)) 42 (s1.1 0)) 43 (s1.1 5)) 44 (s1.1 15)) 45 (s1.1 16)) Z hE1 rfl inX5_image (List.mem_of_getElem? (i := 9) rfl) dX5_image_34 ?_
  refine ez_aload_n (pc := 37) Z dX5_image_37 0 rfl rfl ?_
  refine ez_aload_n (pc := 38) Z dX5_image_38 0 rfl rfl ?_
  refine fX5_week (pc := 39) (v := s1.1 17) Z hE1 rfl inX5_image (List.mem_of_getElem? (i := 10) rfl) dX5_image_39 ?_
  refine pX5_imageWeek (pc := 42) (M := ew_sI (ew_sI (ew_sI (ew_sI (ew_sI s1 41 (1 : Int32)) 42 (s1.1 0)) 43 (s1.1 5)) 44 (s1.1 15)) 45 (s1.1 16)) (M' := ew_sI (ew_sI (ew_sI (ew_sI (ew_sI (ew_sI s1 41 (1 : Int32)) 42 (s1.1 0)) 43 (s1.1 5)) 44 (s1.1 15)) 45 (s1.1 16)) 46 (s1.1 17)) Z hE1 rfl inX5_image (List.mem_of_getElem? (i := 11) rfl) dX5_image_42 ?_
  refine ez_iconst (pc := 45) Z dX5_image_45 ec_0 ?_
  refine ez_istore_n (pc := 46) (L' := [(1, .int (0 : Int32)), (0, .ref (X.2.1 50))]) Z dX5_image_46 rfl (by decide) rfl ?_
  refine ez_sub [(0, .ref (X.2.1 50)), (1, .int (0 : Int32))] [1, 0] rfl ?_
  exact ew_ind (P := fun (x : Int32 × ew_M) => ew_W C X 2 (E x.2) 47 [(0, .ref (X.2.1 50)), (1, .int x.1)] []) (fun R hR9 x h => tX5_image_47 hE1 Z hR  hR9 h) h
theorem inX5_on : ∀ w ∈ wsX50, w ∈ wsX5_on := fun _ h => List.mem_cons_of_mem _ (List.mem_append_right _ (h))
theorem hdX5_on : yX5_on.cls = RX5 ∧ yX5_on.cls ≠ "java/lang/invoke/MethodHandle" ∧ yX5_on.cls ≠ "java/lang/invoke/VarHandle" ∧ (parseMethodDescriptor yX5_on.desc).map (fun d => d.parameters.length) = some 0 := by decide +kernel
def wX5_on_255 (R255 : Int32 × ew_M → Prop) (Q : Int32 → ew_M → Prop) (v1 : Int32) (s1 : ew_M) : Prop := ((90 : Int32) ≤ v1 → Q (s1.1 17) s1) ∧ (¬ (90 : Int32) ≤ v1 → vp_in v1 90 ∧ (vp_in v1 90 ∧ (R255 (v1 + (1 : Int32), ew_sW s1 0 v1.toNatClampNeg (s1.2.2 2 v1.toNatClampNeg)))))
def wX5_on_229 (R229 : Int32 × ew_M → Prop) (Q : Int32 → ew_M → Prop) (v1 : Int32) (s1 : ew_M) : Prop := ((30 : Int32) ≤ v1 → ew_lp (fun (R : Int32 × ew_M → Prop) (x : Int32 × ew_M) => wX5_on_255 R Q x.1 x.2) ((0 : Int32), s1)) ∧ (¬ (30 : Int32) ≤ v1 → vp_in v1 30 ∧ (vp_in v1 30 ∧ (R229 (v1 + (1 : Int32), ew_sA s1 11 v1.toNatClampNeg (s1.2.1 35 v1.toNatClampNeg)))))
def wX5_on_191 (R191 : Int32 × ew_M → Prop) (Q : Int32 → ew_M → Prop) (v1 : Int32) (s1 : ew_M) : Prop := ((15 : Int32) ≤ v1 → ew_lp (fun (R : Int32 × ew_M → Prop) (x : Int32 × ew_M) => wX5_on_229 R Q x.1 x.2) ((0 : Int32), s1)) ∧ (¬ (15 : Int32) ≤ v1 → vp_in v1 15 ∧ (vp_in v1 15 ∧ (vp_in v1 15 ∧ (vp_in v1 15 ∧ (R191 (v1 + (1 : Int32), ew_sA (ew_sA s1 5 v1.toNatClampNeg (s1.2.1 29 v1.toNatClampNeg)) 6 v1.toNatClampNeg (s1.2.1 30 v1.toNatClampNeg)))))))
def wX5_on_118 (R118 : Int32 × ew_M → Prop) (Q : Int32 → ew_M → Prop) (v1 : Int32) (s1 : ew_M) : Prop := ((5 : Int32) ≤ v1 → ew_lp (fun (R : Int32 × ew_M → Prop) (x : Int32 × ew_M) => wX5_on_191 R Q x.1 x.2) ((0 : Int32), s1)) ∧ (¬ (5 : Int32) ≤ v1 → vp_in v1 5 ∧ (vp_in v1 5 ∧ (vp_in v1 5 ∧ (vp_in v1 5 ∧ (vp_in v1 5 ∧ (vp_in v1 5 ∧ (∀ (z2 : ew_M), z2 = ew_sA (ew_sA (ew_sA s1 4 v1.toNatClampNeg (s1.2.1 28 v1.toNatClampNeg)) 7 v1.toNatClampNeg (s1.2.1 31 v1.toNatClampNeg)) 8 v1.toNatClampNeg (s1.2.1 32 v1.toNatClampNeg) → vp_in v1 5 ∧ (vp_in v1 5 ∧ (vp_in v1 5 ∧ (vp_in v1 5 ∧ (R118 (v1 + (1 : Int32), ew_sA (ew_sA z2 9 v1.toNatClampNeg (z2.2.1 33 v1.toNatClampNeg)) 10 v1.toNatClampNeg (z2.2.1 34 v1.toNatClampNeg)))))))))))))
def wX5_on_56 (R56 : Int32 × ew_M → Prop) (Q : Int32 → ew_M → Prop) (v1 : Int32) (s1 : ew_M) : Prop := ((6 : Int32) ≤ v1 → ew_lp (fun (R : Int32 × ew_M → Prop) (x : Int32 × ew_M) => wX5_on_118 R Q x.1 x.2) ((0 : Int32), s1)) ∧ (¬ (6 : Int32) ≤ v1 → vp_in v1 6 ∧ (vp_in v1 6 ∧ (vp_in v1 6 ∧ (vp_in v1 6 ∧ (vp_in v1 6 ∧ (vp_in v1 6 ∧ (∀ (z2 : ew_M), z2 = ew_sA (ew_sA (ew_sA s1 0 v1.toNatClampNeg (s1.2.1 24 v1.toNatClampNeg)) 1 v1.toNatClampNeg (s1.2.1 25 v1.toNatClampNeg)) 2 v1.toNatClampNeg (s1.2.1 26 v1.toNatClampNeg) → vp_in v1 6 ∧ (vp_in v1 6 ∧ (R56 (v1 + (1 : Int32), ew_sA z2 3 v1.toNatClampNeg (z2.2.1 27 v1.toNatClampNeg)))))))))))
def wX5_on (Q : Int32 → ew_M → Prop) (s1 : ew_M) : Prop := (¬ (s1.1 41) = 0 → ew_lp (fun (R : Int32 × ew_M → Prop) (x : Int32 × ew_M) => wX5_on_56 R Q x.1 x.2) ((0 : Int32), (ew_sI (ew_sI (ew_sI (ew_sI (ew_sI s1 0 (s1.1 42)) 5 (s1.1 43)) 15 (s1.1 44)) 16 (s1.1 45)) 17 (s1.1 46)))) ∧ ((s1.1 41) = 0 → wX5_refuse (fun (r2 : Int32) (m3 : ew_M) => Q r2 m3) (-3 : Int32) s1)
set_option maxHeartbeats 4000000 in
set_option maxRecDepth 100000 in
theorem tX5_on_255 {C : ew_C} {X : ew_X} {E : ew_M → ew_S} (hE1 : ew_GE X 50 (ew_GM X.2.1) E) (Z : ew_Z C X cX5_on 2 RX5 wsX5_on ({ frames := 1, cells := 0, slots := 0, locals := 21 } : Room) (some .int)) {Q : Int32 → ew_M → Prop} {R255 : Int32 × ew_M → Prop} {v1 : Int32} {s1 : ew_M} (hR : C.2.2.2.2.2.2.2.2.2.2 = MQ C.2.2.2.2.2.2.2.1 (va_Qi (fun (r : Int32) (u : ew_M) => Q r u) (fun (u : ew_M) => ew_wd X ((fun (u : ew_M) => E u) u)) X.2.2.1) C.2.2.2.2.2.2.1 C.2.2.2.2.1 0 0 X.2.2.1) (hR255 : ∀ x : Int32 × ew_M, R255 x → ew_W C X 2 (E x.2) 255 [(0, .ref (X.2.1 50)), (1, .int x.1)] []) (h : wX5_on_255 R255 Q v1 s1) : ew_W C X 2 (E s1) 255 [(0, .ref (X.2.1 50)), (1, .int v1)] [] := by
  refine ez_iload_n (pc := 255) Z dX5_on_255 1 rfl rfl ?_
  refine ez_bipush (pc := 256) Z dX5_on_256 eb_90 ?_
  refine ez_icmp_ge (pc := 258) (tgt := 279) Z dX5_on_258 rfl (fun c1 => ?_) (fun c1 => ?_)
  · replace h := h.1 c1
    refine ez_aload_n (pc := 279) Z dX5_on_279 0 rfl rfl ?_
    refine fX5_week (pc := 280) (v := s1.1 17) Z hE1 rfl inX5_on (List.mem_of_getElem? (i := 11) rfl) dX5_on_280 ?_
    exact ez_iret (pc := 283) Z hR s1 h rfl dX5_on_283
  · replace h := h.2 c1
    refine ez_aload_n (pc := 261) Z dX5_on_261 0 rfl rfl ?_
    refine fX5_weights (pc := 262) (M := s1) Z hE1 inX5_on (List.mem_of_getElem? (i := 36) rfl) dX5_on_262 ?_
    refine ez_iload_n (pc := 265) Z dX5_on_265 1 rfl rfl ?_
    refine ez_aload_n (pc := 266) Z dX5_on_266 0 rfl rfl ?_
    refine fX5_imageWeights (pc := 267) (M := s1) Z hE1 inX5_on (List.mem_of_getElem? (i := 37) rfl) dX5_on_267 ?_
    refine ez_iload_n (pc := 270) Z dX5_on_270 1 rfl rfl ?_
    refine ez_lald (pc := 271) (n := 90) (a := 2) (v := s1.2.2 2 v1.toNatClampNeg) (M := s1) Z hE1 39 rfl (by decide : 2 < 3) rfl rfl h.1 dX5_on_271 ?_
    replace h := h.2
    refine ez_last (pc := 272) (n := 90) (a := 0) (M := s1) (M' := ew_sW s1 0 v1.toNatClampNeg (s1.2.2 2 v1.toNatClampNeg)) Z hE1 37 rfl (by decide : 0 < 3) rfl (fun _ _ _ => rfl) rfl h.1 dX5_on_272 ?_
    replace h := h.2
    refine ez_iinc (pc := 273) (L' := [(1, .int (v1 + (1 : Int32))), (0, .ref (X.2.1 50))]) Z dX5_on_273 1 rfl (ei_1 _) (by decide) rfl ?_
    refine ez_goto (pc := 276) (tgt := 255) Z dX5_on_276 rfl ?_
    refine ez_sub [(0, .ref (X.2.1 50)), (1, .int (v1 + (1 : Int32)))] [1, 0] rfl ?_
    exact hR255 _ h
set_option maxHeartbeats 4000000 in
set_option maxRecDepth 100000 in
theorem tX5_on_229 {C : ew_C} {X : ew_X} {E : ew_M → ew_S} (hE1 : ew_GE X 50 (ew_GM X.2.1) E) (Z : ew_Z C X cX5_on 2 RX5 wsX5_on ({ frames := 1, cells := 0, slots := 0, locals := 21 } : Room) (some .int)) {Q : Int32 → ew_M → Prop} {R229 : Int32 × ew_M → Prop} {v1 : Int32} {s1 : ew_M} (hR : C.2.2.2.2.2.2.2.2.2.2 = MQ C.2.2.2.2.2.2.2.1 (va_Qi (fun (r : Int32) (u : ew_M) => Q r u) (fun (u : ew_M) => ew_wd X ((fun (u : ew_M) => E u) u)) X.2.2.1) C.2.2.2.2.2.2.1 C.2.2.2.2.1 0 0 X.2.2.1) (hR229 : ∀ x : Int32 × ew_M, R229 x → ew_W C X 2 (E x.2) 229 [(0, .ref (X.2.1 50)), (1, .int x.1)] []) (h : wX5_on_229 R229 Q v1 s1) : ew_W C X 2 (E s1) 229 [(0, .ref (X.2.1 50)), (1, .int v1)] [] := by
  refine ez_iload_n (pc := 229) Z dX5_on_229 1 rfl rfl ?_
  refine ez_bipush (pc := 230) Z dX5_on_230 eb_30 ?_
  refine ez_icmp_ge (pc := 232) (tgt := 253) Z dX5_on_232 rfl (fun c1 => ?_) (fun c1 => ?_)
  · replace h := h.1 c1
    refine ez_iconst (pc := 253) Z dX5_on_253 ec_0 ?_
    refine ez_istore_n (pc := 254) (L' := [(1, .int (0 : Int32)), (0, .ref (X.2.1 50))]) Z dX5_on_254 rfl (by decide) rfl ?_
    refine ez_sub [(0, .ref (X.2.1 50)), (1, .int (0 : Int32))] [1, 0] rfl ?_
    exact ew_ind (P := fun (x : Int32 × ew_M) => ew_W C X 2 (E x.2) 255 [(0, .ref (X.2.1 50)), (1, .int x.1)] []) (fun R hR9 x h => tX5_on_255 hE1 Z hR  hR9 h) h
  · replace h := h.2 c1
    refine ez_aload_n (pc := 235) Z dX5_on_235 0 rfl rfl ?_
    refine fX5_heard (pc := 236) (M := s1) Z hE1 inX5_on (List.mem_of_getElem? (i := 34) rfl) dX5_on_236 ?_
    refine ez_iload_n (pc := 239) Z dX5_on_239 1 rfl rfl ?_
    refine ez_aload_n (pc := 240) Z dX5_on_240 0 rfl rfl ?_
    refine fX5_imageHeard (pc := 241) (M := s1) Z hE1 inX5_on (List.mem_of_getElem? (i := 35) rfl) dX5_on_241 ?_
    refine ez_iload_n (pc := 244) Z dX5_on_244 1 rfl rfl ?_
    refine ez_iald (pc := 245) (n := 30) (a := 35) (v := s1.2.1 35 v1.toNatClampNeg) (M := s1) Z hE1 36 rfl (by decide : 35 < 36) rfl rfl h.1 dX5_on_245 ?_
    replace h := h.2
    refine ez_iast (pc := 246) (n := 30) (a := 11) (M := s1) (M' := ew_sA s1 11 v1.toNatClampNeg (s1.2.1 35 v1.toNatClampNeg)) Z hE1 12 rfl (by decide : 11 < 36) rfl rfl h.1 dX5_on_246 ?_
    replace h := h.2
    refine ez_iinc (pc := 247) (L' := [(1, .int (v1 + (1 : Int32))), (0, .ref (X.2.1 50))]) Z dX5_on_247 1 rfl (ei_1 _) (by decide) rfl ?_
    refine ez_goto (pc := 250) (tgt := 229) Z dX5_on_250 rfl ?_
    refine ez_sub [(0, .ref (X.2.1 50)), (1, .int (v1 + (1 : Int32)))] [1, 0] rfl ?_
    exact hR229 _ h
set_option maxHeartbeats 4000000 in
set_option maxRecDepth 100000 in
theorem tX5_on_191 {C : ew_C} {X : ew_X} {E : ew_M → ew_S} (hE1 : ew_GE X 50 (ew_GM X.2.1) E) (Z : ew_Z C X cX5_on 2 RX5 wsX5_on ({ frames := 1, cells := 0, slots := 0, locals := 21 } : Room) (some .int)) {Q : Int32 → ew_M → Prop} {R191 : Int32 × ew_M → Prop} {v1 : Int32} {s1 : ew_M} (hR : C.2.2.2.2.2.2.2.2.2.2 = MQ C.2.2.2.2.2.2.2.1 (va_Qi (fun (r : Int32) (u : ew_M) => Q r u) (fun (u : ew_M) => ew_wd X ((fun (u : ew_M) => E u) u)) X.2.2.1) C.2.2.2.2.2.2.1 C.2.2.2.2.1 0 0 X.2.2.1) (hR191 : ∀ x : Int32 × ew_M, R191 x → ew_W C X 2 (E x.2) 191 [(0, .ref (X.2.1 50)), (1, .int x.1)] []) (h : wX5_on_191 R191 Q v1 s1) : ew_W C X 2 (E s1) 191 [(0, .ref (X.2.1 50)), (1, .int v1)] [] := by
  refine ez_iload_n (pc := 191) Z dX5_on_191 1 rfl rfl ?_
  refine ez_bipush (pc := 192) Z dX5_on_192 eb_15 ?_
  refine ez_icmp_ge (pc := 194) (tgt := 227) Z dX5_on_194 rfl (fun c1 => ?_) (fun c1 => ?_)
  · replace h := h.1 c1
    refine ez_iconst (pc := 227) Z dX5_on_227 ec_0 ?_
    refine ez_istore_n (pc := 228) (L' := [(1, .int (0 : Int32)), (0, .ref (X.2.1 50))]) Z dX5_on_228 rfl (by decide) rfl ?_
    refine ez_sub [(0, .ref (X.2.1 50)), (1, .int (0 : Int32))] [1, 0] rfl ?_
    exact ew_ind (P := fun (x : Int32 × ew_M) => ew_W C X 2 (E x.2) 229 [(0, .ref (X.2.1 50)), (1, .int x.1)] []) (fun R hR9 x h => tX5_on_229 hE1 Z hR  hR9 h) h
  · replace h := h.2 c1
    refine ez_aload_n (pc := 197) Z dX5_on_197 0 rfl rfl ?_
    refine fX5_share (pc := 198) (M := s1) Z hE1 inX5_on (List.mem_of_getElem? (i := 30) rfl) dX5_on_198 ?_
    refine ez_iload_n (pc := 201) Z dX5_on_201 1 rfl rfl ?_
    refine ez_aload_n (pc := 202) Z dX5_on_202 0 rfl rfl ?_
    refine fX5_imageShare (pc := 203) (M := s1) Z hE1 inX5_on (List.mem_of_getElem? (i := 31) rfl) dX5_on_203 ?_
    refine ez_iload_n (pc := 206) Z dX5_on_206 1 rfl rfl ?_
    refine ez_iald (pc := 207) (n := 15) (a := 29) (v := s1.2.1 29 v1.toNatClampNeg) (M := s1) Z hE1 30 rfl (by decide : 29 < 36) rfl rfl h.1 dX5_on_207 ?_
    replace h := h.2
    refine ez_iast (pc := 208) (n := 15) (a := 5) (M := s1) (M' := ew_sA s1 5 v1.toNatClampNeg (s1.2.1 29 v1.toNatClampNeg)) Z hE1 6 rfl (by decide : 5 < 36) rfl rfl h.1 dX5_on_208 ?_
    replace h := h.2
    refine ez_aload_n (pc := 209) Z dX5_on_209 0 rfl rfl ?_
    refine fX5_brings (pc := 210) (M := ew_sA s1 5 v1.toNatClampNeg (s1.2.1 29 v1.toNatClampNeg)) Z hE1 inX5_on (List.mem_of_getElem? (i := 32) rfl) dX5_on_210 ?_
    refine ez_iload_n (pc := 213) Z dX5_on_213 1 rfl rfl ?_
    refine ez_aload_n (pc := 214) Z dX5_on_214 0 rfl rfl ?_
    refine fX5_imageBrings (pc := 215) (M := ew_sA s1 5 v1.toNatClampNeg (s1.2.1 29 v1.toNatClampNeg)) Z hE1 inX5_on (List.mem_of_getElem? (i := 33) rfl) dX5_on_215 ?_
    refine ez_iload_n (pc := 218) Z dX5_on_218 1 rfl rfl ?_
    refine ez_iald (pc := 219) (n := 15) (a := 30) (v := s1.2.1 30 v1.toNatClampNeg) (M := ew_sA s1 5 v1.toNatClampNeg (s1.2.1 29 v1.toNatClampNeg)) Z hE1 31 rfl (by decide : 30 < 36) rfl rfl h.1 dX5_on_219 ?_
    replace h := h.2
    refine ez_iast (pc := 220) (n := 15) (a := 6) (M := ew_sA s1 5 v1.toNatClampNeg (s1.2.1 29 v1.toNatClampNeg)) (M' := ew_sA (ew_sA s1 5 v1.toNatClampNeg (s1.2.1 29 v1.toNatClampNeg)) 6 v1.toNatClampNeg (s1.2.1 30 v1.toNatClampNeg)) Z hE1 7 rfl (by decide : 6 < 36) rfl rfl h.1 dX5_on_220 ?_
    replace h := h.2
    refine ez_iinc (pc := 221) (L' := [(1, .int (v1 + (1 : Int32))), (0, .ref (X.2.1 50))]) Z dX5_on_221 1 rfl (ei_1 _) (by decide) rfl ?_
    refine ez_goto (pc := 224) (tgt := 191) Z dX5_on_224 rfl ?_
    refine ez_sub [(0, .ref (X.2.1 50)), (1, .int (v1 + (1 : Int32)))] [1, 0] rfl ?_
    exact hR191 _ h
set_option maxHeartbeats 4000000 in
set_option maxRecDepth 100000 in
theorem tX5_on_118 {C : ew_C} {X : ew_X} {E : ew_M → ew_S} (hE1 : ew_GE X 50 (ew_GM X.2.1) E) (Z : ew_Z C X cX5_on 2 RX5 wsX5_on ({ frames := 1, cells := 0, slots := 0, locals := 21 } : Room) (some .int)) {Q : Int32 → ew_M → Prop} {R118 : Int32 × ew_M → Prop} {v1 : Int32} {s1 : ew_M} (hR : C.2.2.2.2.2.2.2.2.2.2 = MQ C.2.2.2.2.2.2.2.1 (va_Qi (fun (r : Int32) (u : ew_M) => Q r u) (fun (u : ew_M) => ew_wd X ((fun (u : ew_M) => E u) u)) X.2.2.1) C.2.2.2.2.2.2.1 C.2.2.2.2.1 0 0 X.2.2.1) (hR118 : ∀ x : Int32 × ew_M, R118 x → ew_W C X 2 (E x.2) 118 [(0, .ref (X.2.1 50)), (1, .int x.1)] []) (h : wX5_on_118 R118 Q v1 s1) : ew_W C X 2 (E s1) 118 [(0, .ref (X.2.1 50)), (1, .int v1)] [] := by
  refine ez_iload_n (pc := 118) Z dX5_on_118 1 rfl rfl ?_
  refine ez_iconst (pc := 119) Z dX5_on_119 ec_5 ?_
  refine ez_icmp_ge (pc := 120) (tgt := 189) Z dX5_on_120 rfl (fun c1 => ?_) (fun c1 => ?_)
  · replace h := h.1 c1
    refine ez_iconst (pc := 189) Z dX5_on_189 ec_0 ?_
    refine ez_istore_n (pc := 190) (L' := [(1, .int (0 : Int32)), (0, .ref (X.2.1 50))]) Z dX5_on_190 rfl (by decide) rfl ?_
    refine ez_sub [(0, .ref (X.2.1 50)), (1, .int (0 : Int32))] [1, 0] rfl ?_
    exact ew_ind (P := fun (x : Int32 × ew_M) => ew_W C X 2 (E x.2) 191 [(0, .ref (X.2.1 50)), (1, .int x.1)] []) (fun R hR9 x h => tX5_on_191 hE1 Z hR  hR9 h) h
  · replace h := h.2 c1
    refine ez_aload_n (pc := 123) Z dX5_on_123 0 rfl rfl ?_
    refine fX5_bound (pc := 124) (M := s1) Z hE1 inX5_on (List.mem_of_getElem? (i := 20) rfl) dX5_on_124 ?_
    refine ez_iload_n (pc := 127) Z dX5_on_127 1 rfl rfl ?_
    refine ez_aload_n (pc := 128) Z dX5_on_128 0 rfl rfl ?_
    refine fX5_imageBound (pc := 129) (M := s1) Z hE1 inX5_on (List.mem_of_getElem? (i := 21) rfl) dX5_on_129 ?_
    refine ez_iload_n (pc := 132) Z dX5_on_132 1 rfl rfl ?_
    refine ez_iald (pc := 133) (n := 5) (a := 28) (v := s1.2.1 28 v1.toNatClampNeg) (M := s1) Z hE1 29 rfl (by decide : 28 < 36) rfl rfl h.1 dX5_on_133 ?_
    replace h := h.2
    refine ez_iast (pc := 134) (n := 5) (a := 4) (M := s1) (M' := ew_sA s1 4 v1.toNatClampNeg (s1.2.1 28 v1.toNatClampNeg)) Z hE1 5 rfl (by decide : 4 < 36) rfl rfl h.1 dX5_on_134 ?_
    replace h := h.2
    refine ez_aload_n (pc := 135) Z dX5_on_135 0 rfl rfl ?_
    refine fX5_trueOne (pc := 136) (M := ew_sA s1 4 v1.toNatClampNeg (s1.2.1 28 v1.toNatClampNeg)) Z hE1 inX5_on (List.mem_of_getElem? (i := 22) rfl) dX5_on_136 ?_
    refine ez_iload_n (pc := 139) Z dX5_on_139 1 rfl rfl ?_
    refine ez_aload_n (pc := 140) Z dX5_on_140 0 rfl rfl ?_
    refine fX5_imageTrue (pc := 141) (M := ew_sA s1 4 v1.toNatClampNeg (s1.2.1 28 v1.toNatClampNeg)) Z hE1 inX5_on (List.mem_of_getElem? (i := 23) rfl) dX5_on_141 ?_
    refine ez_iload_n (pc := 144) Z dX5_on_144 1 rfl rfl ?_
    refine ez_iald (pc := 145) (n := 5) (a := 31) (v := s1.2.1 31 v1.toNatClampNeg) (M := ew_sA s1 4 v1.toNatClampNeg (s1.2.1 28 v1.toNatClampNeg)) Z hE1 32 rfl (by decide : 31 < 36) rfl rfl h.1 dX5_on_145 ?_
    replace h := h.2
    refine ez_iast (pc := 146) (n := 5) (a := 7) (M := ew_sA s1 4 v1.toNatClampNeg (s1.2.1 28 v1.toNatClampNeg)) (M' := ew_sA (ew_sA s1 4 v1.toNatClampNeg (s1.2.1 28 v1.toNatClampNeg)) 7 v1.toNatClampNeg (s1.2.1 31 v1.toNatClampNeg)) Z hE1 8 rfl (by decide : 7 < 36) rfl rfl h.1 dX5_on_146 ?_
    replace h := h.2
    refine ez_aload_n (pc := 147) Z dX5_on_147 0 rfl rfl ?_
    refine fX5_read (pc := 148) (M := ew_sA (ew_sA s1 4 v1.toNatClampNeg (s1.2.1 28 v1.toNatClampNeg)) 7 v1.toNatClampNeg (s1.2.1 31 v1.toNatClampNeg)) Z hE1 inX5_on (List.mem_of_getElem? (i := 24) rfl) dX5_on_148 ?_
    refine ez_iload_n (pc := 151) Z dX5_on_151 1 rfl rfl ?_
    refine ez_aload_n (pc := 152) Z dX5_on_152 0 rfl rfl ?_
    refine fX5_imageRead (pc := 153) (M := ew_sA (ew_sA s1 4 v1.toNatClampNeg (s1.2.1 28 v1.toNatClampNeg)) 7 v1.toNatClampNeg (s1.2.1 31 v1.toNatClampNeg)) Z hE1 inX5_on (List.mem_of_getElem? (i := 25) rfl) dX5_on_153 ?_
    refine ez_iload_n (pc := 156) Z dX5_on_156 1 rfl rfl ?_
    refine ez_iald (pc := 157) (n := 5) (a := 32) (v := s1.2.1 32 v1.toNatClampNeg) (M := ew_sA (ew_sA s1 4 v1.toNatClampNeg (s1.2.1 28 v1.toNatClampNeg)) 7 v1.toNatClampNeg (s1.2.1 31 v1.toNatClampNeg)) Z hE1 33 rfl (by decide : 32 < 36) rfl rfl h.1 dX5_on_157 ?_
    replace h := h.2
    refine ez_iast (pc := 158) (n := 5) (a := 8) (M := ew_sA (ew_sA s1 4 v1.toNatClampNeg (s1.2.1 28 v1.toNatClampNeg)) 7 v1.toNatClampNeg (s1.2.1 31 v1.toNatClampNeg)) (M' := ew_sA (ew_sA (ew_sA s1 4 v1.toNatClampNeg (s1.2.1 28 v1.toNatClampNeg)) 7 v1.toNatClampNeg (s1.2.1 31 v1.toNatClampNeg)) 8 v1.toNatClampNeg (s1.2.1 32 v1.toNatClampNeg)) Z hE1 9 rfl (by decide : 8 < 36) rfl rfl h.1 dX5_on_158 ?_
    replace h := h.2
    refine ez_nm (E := E) (fun z2 ez2 => ?_)
    replace h := h z2 ez2
    refine ez_aload_n (pc := 159) Z dX5_on_159 0 rfl rfl ?_
    refine fX5_said (pc := 160) (M := z2) Z hE1 inX5_on (List.mem_of_getElem? (i := 26) rfl) dX5_on_160 ?_
    refine ez_iload_n (pc := 163) Z dX5_on_163 1 rfl rfl ?_
    refine ez_aload_n (pc := 164) Z dX5_on_164 0 rfl rfl ?_
    refine fX5_imageSaid (pc := 165) (M := z2) Z hE1 inX5_on (List.mem_of_getElem? (i := 27) rfl) dX5_on_165 ?_
    refine ez_iload_n (pc := 168) Z dX5_on_168 1 rfl rfl ?_
    refine ez_iald (pc := 169) (n := 5) (a := 33) (v := z2.2.1 33 v1.toNatClampNeg) (M := z2) Z hE1 34 rfl (by decide : 33 < 36) rfl rfl h.1 dX5_on_169 ?_
    replace h := h.2
    refine ez_iast (pc := 170) (n := 5) (a := 9) (M := z2) (M' := ew_sA z2 9 v1.toNatClampNeg (z2.2.1 33 v1.toNatClampNeg)) Z hE1 10 rfl (by decide : 9 < 36) rfl rfl h.1 dX5_on_170 ?_
    replace h := h.2
    refine ez_aload_n (pc := 171) Z dX5_on_171 0 rfl rfl ?_
    refine fX5_lasted (pc := 172) (M := ew_sA z2 9 v1.toNatClampNeg (z2.2.1 33 v1.toNatClampNeg)) Z hE1 inX5_on (List.mem_of_getElem? (i := 28) rfl) dX5_on_172 ?_
    refine ez_iload_n (pc := 175) Z dX5_on_175 1 rfl rfl ?_
    refine ez_aload_n (pc := 176) Z dX5_on_176 0 rfl rfl ?_
    refine fX5_imageLasted (pc := 177) (M := ew_sA z2 9 v1.toNatClampNeg (z2.2.1 33 v1.toNatClampNeg)) Z hE1 inX5_on (List.mem_of_getElem? (i := 29) rfl) dX5_on_177 ?_
    refine ez_iload_n (pc := 180) Z dX5_on_180 1 rfl rfl ?_
    refine ez_iald (pc := 181) (n := 5) (a := 34) (v := z2.2.1 34 v1.toNatClampNeg) (M := ew_sA z2 9 v1.toNatClampNeg (z2.2.1 33 v1.toNatClampNeg)) Z hE1 35 rfl (by decide : 34 < 36) rfl rfl h.1 dX5_on_181 ?_
    replace h := h.2
    refine ez_iast (pc := 182) (n := 5) (a := 10) (M := ew_sA z2 9 v1.toNatClampNeg (z2.2.1 33 v1.toNatClampNeg)) (M' := ew_sA (ew_sA z2 9 v1.toNatClampNeg (z2.2.1 33 v1.toNatClampNeg)) 10 v1.toNatClampNeg (z2.2.1 34 v1.toNatClampNeg)) Z hE1 11 rfl (by decide : 10 < 36) rfl rfl h.1 dX5_on_182 ?_
    replace h := h.2
    refine ez_iinc (pc := 183) (L' := [(1, .int (v1 + (1 : Int32))), (0, .ref (X.2.1 50))]) Z dX5_on_183 1 rfl (ei_1 _) (by decide) rfl ?_
    refine ez_goto (pc := 186) (tgt := 118) Z dX5_on_186 rfl ?_
    refine ez_sub [(0, .ref (X.2.1 50)), (1, .int (v1 + (1 : Int32)))] [1, 0] rfl ?_
    exact hR118 _ h
set_option maxHeartbeats 4000000 in
set_option maxRecDepth 100000 in
theorem tX5_on_56 {C : ew_C} {X : ew_X} {E : ew_M → ew_S} (hE1 : ew_GE X 50 (ew_GM X.2.1) E) (Z : ew_Z C X cX5_on 2 RX5 wsX5_on ({ frames := 1, cells := 0, slots := 0, locals := 21 } : Room) (some .int)) {Q : Int32 → ew_M → Prop} {R56 : Int32 × ew_M → Prop} {v1 : Int32} {s1 : ew_M} (hR : C.2.2.2.2.2.2.2.2.2.2 = MQ C.2.2.2.2.2.2.2.1 (va_Qi (fun (r : Int32) (u : ew_M) => Q r u) (fun (u : ew_M) => ew_wd X ((fun (u : ew_M) => E u) u)) X.2.2.1) C.2.2.2.2.2.2.1 C.2.2.2.2.1 0 0 X.2.2.1) (hR56 : ∀ x : Int32 × ew_M, R56 x → ew_W C X 2 (E x.2) 56 [(0, .ref (X.2.1 50)), (1, .int x.1)] []) (h : wX5_on_56 R56 Q v1 s1) : ew_W C X 2 (E s1) 56 [(0, .ref (X.2.1 50)), (1, .int v1)] [] := by
  refine ez_iload_n (pc := 56) Z dX5_on_56 1 rfl rfl ?_
  refine ez_bipush (pc := 57) Z dX5_on_57 eb_6 ?_
  refine ez_icmp_ge (pc := 59) (tgt := 116) Z dX5_on_59 rfl (fun c1 => ?_) (fun c1 => ?_)
  · replace h := h.1 c1
    refine ez_iconst (pc := 116) Z dX5_on_116 ec_0 ?_
    refine ez_istore_n (pc := 117) (L' := [(1, .int (0 : Int32)), (0, .ref (X.2.1 50))]) Z dX5_on_117 rfl (by decide) rfl ?_
    refine ez_sub [(0, .ref (X.2.1 50)), (1, .int (0 : Int32))] [1, 0] rfl ?_
    exact ew_ind (P := fun (x : Int32 × ew_M) => ew_W C X 2 (E x.2) 118 [(0, .ref (X.2.1 50)), (1, .int x.1)] []) (fun R hR9 x h => tX5_on_118 hE1 Z hR  hR9 h) h
  · replace h := h.2 c1
    refine ez_aload_n (pc := 62) Z dX5_on_62 0 rfl rfl ?_
    refine fX5_kind (pc := 63) (M := s1) Z hE1 inX5_on (List.mem_of_getElem? (i := 12) rfl) dX5_on_63 ?_
    refine ez_iload_n (pc := 66) Z dX5_on_66 1 rfl rfl ?_
    refine ez_aload_n (pc := 67) Z dX5_on_67 0 rfl rfl ?_
    refine fX5_imageKind (pc := 68) (M := s1) Z hE1 inX5_on (List.mem_of_getElem? (i := 13) rfl) dX5_on_68 ?_
    refine ez_iload_n (pc := 71) Z dX5_on_71 1 rfl rfl ?_
    refine ez_iald (pc := 72) (n := 6) (a := 24) (v := s1.2.1 24 v1.toNatClampNeg) (M := s1) Z hE1 25 rfl (by decide : 24 < 36) rfl rfl h.1 dX5_on_72 ?_
    replace h := h.2
    refine ez_iast (pc := 73) (n := 6) (a := 0) (M := s1) (M' := ew_sA s1 0 v1.toNatClampNeg (s1.2.1 24 v1.toNatClampNeg)) Z hE1 1 rfl (by decide : 0 < 36) rfl rfl h.1 dX5_on_73 ?_
    replace h := h.2
    refine ez_aload_n (pc := 74) Z dX5_on_74 0 rfl rfl ?_
    refine fX5_bar (pc := 75) (M := ew_sA s1 0 v1.toNatClampNeg (s1.2.1 24 v1.toNatClampNeg)) Z hE1 inX5_on (List.mem_of_getElem? (i := 14) rfl) dX5_on_75 ?_
    refine ez_iload_n (pc := 78) Z dX5_on_78 1 rfl rfl ?_
    refine ez_aload_n (pc := 79) Z dX5_on_79 0 rfl rfl ?_
    refine fX5_imageBar (pc := 80) (M := ew_sA s1 0 v1.toNatClampNeg (s1.2.1 24 v1.toNatClampNeg)) Z hE1 inX5_on (List.mem_of_getElem? (i := 15) rfl) dX5_on_80 ?_
    refine ez_iload_n (pc := 83) Z dX5_on_83 1 rfl rfl ?_
    refine ez_iald (pc := 84) (n := 6) (a := 25) (v := s1.2.1 25 v1.toNatClampNeg) (M := ew_sA s1 0 v1.toNatClampNeg (s1.2.1 24 v1.toNatClampNeg)) Z hE1 26 rfl (by decide : 25 < 36) rfl rfl h.1 dX5_on_84 ?_
    replace h := h.2
    refine ez_iast (pc := 85) (n := 6) (a := 1) (M := ew_sA s1 0 v1.toNatClampNeg (s1.2.1 24 v1.toNatClampNeg)) (M' := ew_sA (ew_sA s1 0 v1.toNatClampNeg (s1.2.1 24 v1.toNatClampNeg)) 1 v1.toNatClampNeg (s1.2.1 25 v1.toNatClampNeg)) Z hE1 2 rfl (by decide : 1 < 36) rfl rfl h.1 dX5_on_85 ?_
    replace h := h.2
    refine ez_aload_n (pc := 86) Z dX5_on_86 0 rfl rfl ?_
    refine fX5_patience (pc := 87) (M := ew_sA (ew_sA s1 0 v1.toNatClampNeg (s1.2.1 24 v1.toNatClampNeg)) 1 v1.toNatClampNeg (s1.2.1 25 v1.toNatClampNeg)) Z hE1 inX5_on (List.mem_of_getElem? (i := 16) rfl) dX5_on_87 ?_
    refine ez_iload_n (pc := 90) Z dX5_on_90 1 rfl rfl ?_
    refine ez_aload_n (pc := 91) Z dX5_on_91 0 rfl rfl ?_
    refine fX5_imagePatience (pc := 92) (M := ew_sA (ew_sA s1 0 v1.toNatClampNeg (s1.2.1 24 v1.toNatClampNeg)) 1 v1.toNatClampNeg (s1.2.1 25 v1.toNatClampNeg)) Z hE1 inX5_on (List.mem_of_getElem? (i := 17) rfl) dX5_on_92 ?_
    refine ez_iload_n (pc := 95) Z dX5_on_95 1 rfl rfl ?_
    refine ez_iald (pc := 96) (n := 6) (a := 26) (v := s1.2.1 26 v1.toNatClampNeg) (M := ew_sA (ew_sA s1 0 v1.toNatClampNeg (s1.2.1 24 v1.toNatClampNeg)) 1 v1.toNatClampNeg (s1.2.1 25 v1.toNatClampNeg)) Z hE1 27 rfl (by decide : 26 < 36) rfl rfl h.1 dX5_on_96 ?_
    replace h := h.2
    refine ez_iast (pc := 97) (n := 6) (a := 2) (M := ew_sA (ew_sA s1 0 v1.toNatClampNeg (s1.2.1 24 v1.toNatClampNeg)) 1 v1.toNatClampNeg (s1.2.1 25 v1.toNatClampNeg)) (M' := ew_sA (ew_sA (ew_sA s1 0 v1.toNatClampNeg (s1.2.1 24 v1.toNatClampNeg)) 1 v1.toNatClampNeg (s1.2.1 25 v1.toNatClampNeg)) 2 v1.toNatClampNeg (s1.2.1 26 v1.toNatClampNeg)) Z hE1 3 rfl (by decide : 2 < 36) rfl rfl h.1 dX5_on_97 ?_
    replace h := h.2
    refine ez_nm (E := E) (fun z2 ez2 => ?_)
    replace h := h z2 ez2
    refine ez_aload_n (pc := 98) Z dX5_on_98 0 rfl rfl ?_
    refine fX5_had (pc := 99) (M := z2) Z hE1 inX5_on (List.mem_of_getElem? (i := 18) rfl) dX5_on_99 ?_
    refine ez_iload_n (pc := 102) Z dX5_on_102 1 rfl rfl ?_
    refine ez_aload_n (pc := 103) Z dX5_on_103 0 rfl rfl ?_
    refine fX5_imageHad (pc := 104) (M := z2) Z hE1 inX5_on (List.mem_of_getElem? (i := 19) rfl) dX5_on_104 ?_
    refine ez_iload_n (pc := 107) Z dX5_on_107 1 rfl rfl ?_
    refine ez_iald (pc := 108) (n := 6) (a := 27) (v := z2.2.1 27 v1.toNatClampNeg) (M := z2) Z hE1 28 rfl (by decide : 27 < 36) rfl rfl h.1 dX5_on_108 ?_
    replace h := h.2
    refine ez_iast (pc := 109) (n := 6) (a := 3) (M := z2) (M' := ew_sA z2 3 v1.toNatClampNeg (z2.2.1 27 v1.toNatClampNeg)) Z hE1 4 rfl (by decide : 3 < 36) rfl rfl h.1 dX5_on_109 ?_
    replace h := h.2
    refine ez_iinc (pc := 110) (L' := [(1, .int (v1 + (1 : Int32))), (0, .ref (X.2.1 50))]) Z dX5_on_110 1 rfl (ei_1 _) (by decide) rfl ?_
    refine ez_goto (pc := 113) (tgt := 56) Z dX5_on_113 rfl ?_
    refine ez_sub [(0, .ref (X.2.1 50)), (1, .int (v1 + (1 : Int32)))] [1, 0] rfl ?_
    exact hR56 _ h
set_option maxHeartbeats 4000000 in
set_option maxRecDepth 100000 in
theorem kX5_on {X : ew_X} {l : Launch} (hX : ew_Ap X) {E : ew_M → ew_S} (hE1 : ew_GE X 50 (ew_GM X.2.1) E) {Q : Int32 → ew_M → Prop} {s1 : ew_M} (h : wX5_on Q s1) : Met l yX5_on wsX5_on ({ frames := 1, cells := 0, slots := 0, locals := 21 } : Room) (va_Pc [.ref (X.2.1 50)] (ew_wd X (E s1))) (va_Qi (fun (r : Int32) (u : ew_M) => Q r u) (fun (u : ew_M) => ew_wd X ((fun (u : ew_M) => E u) u)) X.2.2.1) 0 0 X.2.2.1 := by
  refine ew_met (As := [.ref (X.2.1 50)]) (L0 := [(0, .ref (X.2.1 50))]) X l hX (by decide) rfl rfl rfl rfl (fun C hl Z hR => ?_)
  subst hl
  refine ez_aload_n (pc := 0) Z dX5_on_0 0 rfl rfl ?_
  refine fX5_hasImage (pc := 1) (v := s1.1 41) Z hE1 rfl inX5_on (List.mem_of_getElem? (i := 1) rfl) dX5_on_1 ?_
  refine ez_if_ne (pc := 4) (tgt := 14) Z dX5_on_4 rfl (fun c1 => ?_) (fun c1 => ?_)
  · replace h := h.1 c1
    refine ez_aload_n (pc := 14) Z dX5_on_14 0 rfl rfl ?_
    refine ez_aload_n (pc := 15) Z dX5_on_15 0 rfl rfl ?_
    refine fX5_imagePersons (pc := 16) (v := s1.1 42) Z hE1 rfl inX5_on (List.mem_of_getElem? (i := 2) rfl) dX5_on_16 ?_
    refine pX5_persons (pc := 19) (M := s1) (M' := ew_sI s1 0 (s1.1 42)) Z hE1 rfl inX5_on (List.mem_of_getElem? (i := 3) rfl) dX5_on_19 ?_
    refine ez_aload_n (pc := 22) Z dX5_on_22 0 rfl rfl ?_
    refine ez_aload_n (pc := 23) Z dX5_on_23 0 rfl rfl ?_
    refine fX5_imagePapers (pc := 24) (v := s1.1 43) Z hE1 rfl inX5_on (List.mem_of_getElem? (i := 4) rfl) dX5_on_24 ?_
    refine pX5_papers (pc := 27) (M := ew_sI s1 0 (s1.1 42)) (M' := ew_sI (ew_sI s1 0 (s1.1 42)) 5 (s1.1 43)) Z hE1 rfl inX5_on (List.mem_of_getElem? (i := 5) rfl) dX5_on_27 ?_
    refine ez_aload_n (pc := 30) Z dX5_on_30 0 rfl rfl ?_
    refine ez_aload_n (pc := 31) Z dX5_on_31 0 rfl rfl ?_
    refine fX5_imageLaw (pc := 32) (v := s1.1 44) Z hE1 rfl inX5_on (List.mem_of_getElem? (i := 6) rfl) dX5_on_32 ?_
    refine pX5_law (pc := 35) (M := ew_sI (ew_sI s1 0 (s1.1 42)) 5 (s1.1 43)) (M' := ew_sI (ew_sI (ew_sI s1 0 (s1.1 42)) 5 (s1.1 43)) 15 (s1.1 44)) Z hE1 rfl inX5_on (List.mem_of_getElem? (i := 7) rfl) dX5_on_35 ?_
    refine ez_aload_n (pc := 38) Z dX5_on_38 0 rfl rfl ?_
    refine ez_aload_n (pc := 39) Z dX5_on_39 0 rfl rfl ?_
    refine fX5_imageTruthful (pc := 40) (v := s1.1 45) Z hE1 rfl inX5_on (List.mem_of_getElem? (i := 8) rfl) dX5_on_40 ?_
    refine pX5_truthful (pc := 43) (M := ew_sI (ew_sI (ew_sI s1 0 (s1.1 42)) 5 (s1.1 43)) 15 (s1.1 44)) (M' := ew_sI (ew_sI (ew_sI (ew_sI s1 0 (s1.1 42)) 5 (s1.1 43)) 15 (s1.1 44)) 16 (s1.1 45)) Z hE1 rfl inX5_on (List.mem_of_getElem? (i := 9) rfl) dX5_on_43 ?_
    refine ez_aload_n (pc := 46) Z dX5_on_46 0 rfl rfl ?_
    refine ez_aload_n (pc := 47) Z dX5_on_47 0 rfl rfl ?_
    refine fX5_imageWeek (pc := 48) (v := s1.1 46) Z hE1 rfl inX5_on (List.mem_of_getElem? (i := 10) rfl) dX5_on_48 ?_
    refine pX5_week (pc := 51) (M := ew_sI (ew_sI (ew_sI (ew_sI s1 0 (s1.1 42)) 5 (s1.1 43)) 15 (s1.1 44)) 16 (s1.1 45)) (M' := ew_sI (ew_sI (ew_sI (ew_sI (ew_sI s1 0 (s1.1 42)) 5 (s1.1 43)) 15 (s1.1 44)) 16 (s1.1 45)) 17 (s1.1 46)) Z hE1 rfl inX5_on (List.mem_of_getElem? (i := 11) rfl) dX5_on_51 ?_
    refine ez_iconst (pc := 54) Z dX5_on_54 ec_0 ?_
    refine ez_istore_n (pc := 55) (L' := [(1, .int (0 : Int32)), (0, .ref (X.2.1 50))]) Z dX5_on_55 rfl (by decide) rfl ?_
    refine ez_sub [(0, .ref (X.2.1 50)), (1, .int (0 : Int32))] [1, 0] rfl ?_
    exact ew_ind (P := fun (x : Int32 × ew_M) => ew_W C X 2 (E x.2) 56 [(0, .ref (X.2.1 50)), (1, .int x.1)] []) (fun R hR9 x h => tX5_on_56 hE1 Z hR  hR9 h) h
  · replace h := h.2 c1
    refine ez_aload_n (pc := 7) Z dX5_on_7 0 rfl rfl ?_
    refine ez_bipush (pc := 8) Z dX5_on_8 eb_m3 ?_
    refine ez_callVi (pc := 10) (r := 50) (As := [.int (-3 : Int32)]) (st := []) Z (kX5_refuse Z.2.2.2.2.2.2.2.2.2.1 (E := E) hE1 h) gX5_on_X5_refuse rfl rfl rfl hdX5_refuse rfl rfl (by decide) (ew_oM hE1 _) rfl rfl rfl rfl dX5_on_10 (fun r2 m3 h => ?_)
    exact ez_iret (pc := 13) Z hR m3 h rfl dX5_on_13
theorem inX5_inForce : ∀ w ∈ wsX50, w ∈ wsX5_inForce := fun _ h => List.mem_cons_of_mem _ (List.mem_append_right _ (h))
theorem hdX5_inForce : yX5_inForce.cls = RX5 ∧ yX5_inForce.cls ≠ "java/lang/invoke/MethodHandle" ∧ yX5_inForce.cls ≠ "java/lang/invoke/VarHandle" ∧ (parseMethodDescriptor yX5_inForce.desc).map (fun d => d.parameters.length) = some 0 := by decide +kernel
def wX5_inForce_26 (R4 : Int32 × Int32 → Prop) (Q : Int32 → Prop) (v2 : Int32) (t0 : Int32) (t1 : Int32) (s1 : ew_M) : Prop := R4 (t1 + t0, v2 + (1 : Int32))
def wX5_inForce_4 (R4 : Int32 × Int32 → Prop) (Q : Int32 → Prop) (v1 : Int32) (v2 : Int32) (s1 : ew_M) : Prop := ((s1.1 5) ≤ v2 → Q v1 ) ∧ (¬ (s1.1 5) ≤ v2 → wX5_isForce (fun (r2 : Int32) => (r2 = 0 → wX5_inForce_26 R4 Q v2 (0 : Int32) v1 s1) ∧ (¬ r2 = 0 → wX5_inForce_26 R4 Q v2 (1 : Int32) v1 s1)) v2 s1)
def wX5_inForce (Q : Int32 → Prop) (s1 : ew_M) : Prop := ew_lp (fun (R : Int32 × Int32 → Prop) (x : Int32 × Int32) => wX5_inForce_4 R Q x.1 x.2 s1) ((0 : Int32), (0 : Int32))
set_option maxHeartbeats 4000000 in
set_option maxRecDepth 100000 in
theorem tX5_inForce_26 {C : ew_C} {X : ew_X} {E : ew_M → ew_S} (hE1 : ew_GE X 50 (ew_GM X.2.1) E) (Z : ew_Z C X cX5_inForce 3 RX5 wsX5_inForce ({ frames := 3, cells := 0, slots := 0, locals := 67 } : Room) (some .int)) {Q : Int32 → Prop} {R4 : Int32 × Int32 → Prop} {v2 : Int32} {t0 : Int32} {t1 : Int32} {s1 : ew_M} (hR : C.2.2.2.2.2.2.2.2.2.2 = MQ C.2.2.2.2.2.2.2.1 (va_Qi (fun (r : Int32) (_ : Unit) => Q r) (fun (u : Unit) => ew_wd X ((fun (_ : Unit) => E s1) u)) X.2.2.1) C.2.2.2.2.2.2.1 C.2.2.2.2.1 0 0 X.2.2.1) (hR4 : ∀ x : Int32 × Int32, R4 x → ew_W C X 3 (E s1) 4 [(0, .ref (X.2.1 50)), (1, .int x.1), (2, .int x.2)] []) (h : wX5_inForce_26 R4 Q v2 t0 t1 s1) : ew_W C X 3 (E s1) 26 [(0, .ref (X.2.1 50)), (2, .int v2)] [.int t0, .int t1] := by
  refine ez_iadd (pc := 26) Z dX5_inForce_26 ?_
  refine ez_istore_n (pc := 27) (L' := [(1, .int (t1 + t0)), (0, .ref (X.2.1 50)), (2, .int v2)]) Z dX5_inForce_27 rfl (by decide) rfl ?_
  refine ez_iinc (pc := 28) (L' := [(2, .int (v2 + (1 : Int32))), (1, .int (t1 + t0)), (0, .ref (X.2.1 50))]) Z dX5_inForce_28 2 rfl (ei_1 _) (by decide) rfl ?_
  refine ez_goto (pc := 31) (tgt := 4) Z dX5_inForce_31 rfl ?_
  refine ez_sub [(0, .ref (X.2.1 50)), (1, .int (t1 + t0)), (2, .int (v2 + (1 : Int32)))] [2, 1, 0] rfl ?_
  exact hR4 _ h
set_option maxHeartbeats 4000000 in
set_option maxRecDepth 100000 in
theorem tX5_inForce_4 {C : ew_C} {X : ew_X} {E : ew_M → ew_S} (hE1 : ew_GE X 50 (ew_GM X.2.1) E) (Z : ew_Z C X cX5_inForce 3 RX5 wsX5_inForce ({ frames := 3, cells := 0, slots := 0, locals := 67 } : Room) (some .int)) {Q : Int32 → Prop} {R4 : Int32 × Int32 → Prop} {v1 : Int32} {v2 : Int32} {s1 : ew_M} (hR : C.2.2.2.2.2.2.2.2.2.2 = MQ C.2.2.2.2.2.2.2.1 (va_Qi (fun (r : Int32) (_ : Unit) => Q r) (fun (u : Unit) => ew_wd X ((fun (_ : Unit) => E s1) u)) X.2.2.1) C.2.2.2.2.2.2.1 C.2.2.2.2.1 0 0 X.2.2.1) (hR4 : ∀ x : Int32 × Int32, R4 x → ew_W C X 3 (E s1) 4 [(0, .ref (X.2.1 50)), (1, .int x.1), (2, .int x.2)] []) (h : wX5_inForce_4 R4 Q v1 v2 s1) : ew_W C X 3 (E s1) 4 [(0, .ref (X.2.1 50)), (1, .int v1), (2, .int v2)] [] := by
  refine ez_iload_n (pc := 4) Z dX5_inForce_4 2 rfl rfl ?_
  refine ez_aload_n (pc := 5) Z dX5_inForce_5 0 rfl rfl ?_
  refine fX5_papers (pc := 6) (v := s1.1 5) Z hE1 rfl inX5_inForce (List.mem_of_getElem? (i := 1) rfl) dX5_inForce_6 ?_
  refine ez_icmp_ge (pc := 9) (tgt := 34) Z dX5_inForce_9 rfl (fun c1 => ?_) (fun c1 => ?_)
  · replace h := h.1 c1
    refine ez_iload_n (pc := 34) Z dX5_inForce_34 1 rfl rfl ?_
    exact ez_iret (pc := 35) Z hR () h rfl dX5_inForce_35
  · replace h := h.2 c1
    refine ez_iload_n (pc := 12) Z dX5_inForce_12 1 rfl rfl ?_
    refine ez_aload_n (pc := 13) Z dX5_inForce_13 0 rfl rfl ?_
    refine ez_iload_n (pc := 14) Z dX5_inForce_14 2 rfl rfl ?_
    refine ez_callVi (pc := 15) (r := 50) (As := [.int v2]) (st := [.int v1]) Z (kX5_isForce Z.2.2.2.2.2.2.2.2.2.1 (E := E) hE1 h) gX5_inForce_X5_isForce rfl rfl rfl hdX5_isForce rfl rfl (by decide) (ew_oM hE1 _) rfl rfl rfl rfl dX5_inForce_15 (fun r2 u3 h => ?_)
    refine ez_if_eq (pc := 18) (tgt := 25) Z dX5_inForce_18 rfl (fun c4 => ?_) (fun c4 => ?_)
    · replace h := h.1 c4
      refine ez_iconst (pc := 25) Z dX5_inForce_25 ec_0 ?_
      refine ez_sub [(0, .ref (X.2.1 50)), (2, .int v2)] [0, 2] rfl ?_
      exact tX5_inForce_26 hE1 Z hR hR4 h
    · replace h := h.2 c4
      refine ez_iconst (pc := 21) Z dX5_inForce_21 ec_1 ?_
      refine ez_goto (pc := 22) (tgt := 26) Z dX5_inForce_22 rfl ?_
      refine ez_sub [(0, .ref (X.2.1 50)), (2, .int v2)] [0, 2] rfl ?_
      exact tX5_inForce_26 hE1 Z hR hR4 h
set_option maxHeartbeats 4000000 in
set_option maxRecDepth 100000 in
theorem kX5_inForce {X : ew_X} {l : Launch} (hX : ew_Ap X) {E : ew_M → ew_S} (hE1 : ew_GE X 50 (ew_GM X.2.1) E) {Q : Int32 → Prop} {s1 : ew_M} (h : wX5_inForce Q s1) : Met l yX5_inForce wsX5_inForce ({ frames := 3, cells := 0, slots := 0, locals := 67 } : Room) (va_Pc [.ref (X.2.1 50)] (ew_wd X (E s1))) (va_Qi (fun (r : Int32) (_ : Unit) => Q r) (fun (u : Unit) => ew_wd X ((fun (_ : Unit) => E s1) u)) X.2.2.1) 0 0 X.2.2.1 := by
  refine ew_met (As := [.ref (X.2.1 50)]) (L0 := [(0, .ref (X.2.1 50))]) X l hX (by decide) rfl rfl rfl rfl (fun C hl Z hR => ?_)
  subst hl
  refine ez_iconst (pc := 0) Z dX5_inForce_0 ec_0 ?_
  refine ez_istore_n (pc := 1) (L' := [(1, .int (0 : Int32)), (0, .ref (X.2.1 50))]) Z dX5_inForce_1 rfl (by decide) rfl ?_
  refine ez_iconst (pc := 2) Z dX5_inForce_2 ec_0 ?_
  refine ez_istore_n (pc := 3) (L' := [(2, .int (0 : Int32)), (1, .int (0 : Int32)), (0, .ref (X.2.1 50))]) Z dX5_inForce_3 rfl (by decide) rfl ?_
  refine ez_sub [(0, .ref (X.2.1 50)), (1, .int (0 : Int32)), (2, .int (0 : Int32))] [2, 1, 0] rfl ?_
  exact ew_ind (P := fun (x : Int32 × Int32) => ew_W C X 3 (E s1) 4 [(0, .ref (X.2.1 50)), (1, .int x.1), (2, .int x.2)] []) (fun R hR9 x h => tX5_inForce_4 hE1 Z hR  hR9 h) h
theorem inX5_count : ∀ w ∈ wsX50, w ∈ wsX5_count := fun _ h => List.mem_cons_of_mem _ (List.mem_append_right _ (h))
theorem hdX5_count : yX5_count.cls = RX5 ∧ yX5_count.cls ≠ "java/lang/invoke/MethodHandle" ∧ yX5_count.cls ≠ "java/lang/invoke/VarHandle" ∧ (parseMethodDescriptor yX5_count.desc).map (fun d => d.parameters.length) = some 1 := by decide +kernel
def wX5_count (Q : Int32 → Prop) (p1 : Int32) (s1 : ew_M) : Prop := (p1 = (0 : Int32) → Q (s1.1 0) ) ∧ (¬ p1 = (0 : Int32) → (p1 = (1 : Int32) → Q (s1.1 5) ) ∧ (¬ p1 = (1 : Int32) → (p1 = (2 : Int32) → Q (s1.1 17) ) ∧ (¬ p1 = (2 : Int32) → (p1 = (3 : Int32) → wX5_inForce (fun (r5 : Int32) => Q r5 ) s1) ∧ (¬ p1 = (3 : Int32) → (p1 = (4 : Int32) → Q (s1.1 15) ) ∧ (¬ p1 = (4 : Int32) → (p1 = (5 : Int32) → Q (s1.1 16) ) ∧ (¬ p1 = (5 : Int32) → (p1 = (6 : Int32) → Q (s1.1 20) ) ∧ (¬ p1 = (6 : Int32) → (p1 = (7 : Int32) → Q (s1.1 18) ) ∧ (¬ p1 = (7 : Int32) → wX5_in (fun (r11 : Int32) => (r11 = 0 → Q (-9 : Int32) ) ∧ (¬ r11 = 0 → vp_in (p1 - (10 : Int32)) 7 ∧ (Q (s1.2.1 14 (p1 - (10 : Int32)).toNatClampNeg) ))) p1 (11 : Int32) (16 : Int32)))))))))
set_option maxHeartbeats 4000000 in
set_option maxRecDepth 100000 in
theorem kX5_count {X : ew_X} {l : Launch} (hX : ew_Ap X) {E : ew_M → ew_S} (hE1 : ew_GE X 50 (ew_GM X.2.1) E) {Q : Int32 → Prop} {p1 : Int32} {s1 : ew_M} (h : wX5_count Q p1 s1) : Met l yX5_count wsX5_count ({ frames := 4, cells := 0, slots := 0, locals := 89 } : Room) (va_Pc [.ref (X.2.1 50), .int p1] (ew_wd X (E s1))) (va_Qi (fun (r : Int32) (_ : Unit) => Q r) (fun (u : Unit) => ew_wd X ((fun (_ : Unit) => E s1) u)) X.2.2.1) 0 0 X.2.2.1 := by
  refine ew_met (As := [.ref (X.2.1 50), .int p1]) (L0 := [(0, .ref (X.2.1 50)), (1, .int p1)]) X l hX (by decide) rfl rfl rfl rfl (fun C hl Z hR => ?_)
  subst hl
  refine ez_iload_n (pc := 0) Z dX5_count_0 1 rfl rfl ?_
  by_cases c1 : p1 = (0 : Int32)
  · replace h := h.1 c1
    refine ez_tabI (pc := 1) (off := 47) (tgt := 48) Z dX5_count_1 (0 : Int32) c1 (by decide) (by decide) (by decide) rfl ?_
    refine ez_aload_n (pc := 48) Z dX5_count_48 0 rfl rfl ?_
    refine fX5_persons (pc := 49) (v := s1.1 0) Z hE1 rfl inX5_count (List.mem_of_getElem? (i := 1) rfl) dX5_count_49 ?_
    exact ez_iret (pc := 52) Z hR () h rfl dX5_count_52
  · replace h := h.2 c1
    by_cases c2 : p1 = (1 : Int32)
    · replace h := h.1 c2
      refine ez_tabI (pc := 1) (off := 52) (tgt := 53) Z dX5_count_1 (1 : Int32) c2 (by decide) (by decide) (by decide) rfl ?_
      refine ez_aload_n (pc := 53) Z dX5_count_53 0 rfl rfl ?_
      refine fX5_papers (pc := 54) (v := s1.1 5) Z hE1 rfl inX5_count (List.mem_of_getElem? (i := 2) rfl) dX5_count_54 ?_
      exact ez_iret (pc := 57) Z hR () h rfl dX5_count_57
    · replace h := h.2 c2
      by_cases c3 : p1 = (2 : Int32)
      · replace h := h.1 c3
        refine ez_tabI (pc := 1) (off := 57) (tgt := 58) Z dX5_count_1 (2 : Int32) c3 (by decide) (by decide) (by decide) rfl ?_
        refine ez_aload_n (pc := 58) Z dX5_count_58 0 rfl rfl ?_
        refine fX5_week (pc := 59) (v := s1.1 17) Z hE1 rfl inX5_count (List.mem_of_getElem? (i := 3) rfl) dX5_count_59 ?_
        exact ez_iret (pc := 62) Z hR () h rfl dX5_count_62
      · replace h := h.2 c3
        by_cases c4 : p1 = (3 : Int32)
        · replace h := h.1 c4
          refine ez_tabI (pc := 1) (off := 62) (tgt := 63) Z dX5_count_1 (3 : Int32) c4 (by decide) (by decide) (by decide) rfl ?_
          refine ez_aload_n (pc := 63) Z dX5_count_63 0 rfl rfl ?_
          refine ez_callVi (pc := 64) (r := 50) (As := []) (st := []) Z (kX5_inForce Z.2.2.2.2.2.2.2.2.2.1 (E := E) hE1 h) gX5_count_X5_inForce rfl rfl rfl hdX5_inForce rfl rfl (by decide) (ew_oM hE1 _) rfl rfl rfl rfl dX5_count_64 (fun r5 u6 h => ?_)
          exact ez_iret (pc := 67) Z hR () h rfl dX5_count_67
        · replace h := h.2 c4
          by_cases c7 : p1 = (4 : Int32)
          · replace h := h.1 c7
            refine ez_tabI (pc := 1) (off := 67) (tgt := 68) Z dX5_count_1 (4 : Int32) c7 (by decide) (by decide) (by decide) rfl ?_
            refine ez_aload_n (pc := 68) Z dX5_count_68 0 rfl rfl ?_
            refine fX5_law (pc := 69) (v := s1.1 15) Z hE1 rfl inX5_count (List.mem_of_getElem? (i := 4) rfl) dX5_count_69 ?_
            exact ez_iret (pc := 72) Z hR () h rfl dX5_count_72
          · replace h := h.2 c7
            by_cases c8 : p1 = (5 : Int32)
            · replace h := h.1 c8
              refine ez_tabI (pc := 1) (off := 72) (tgt := 73) Z dX5_count_1 (5 : Int32) c8 (by decide) (by decide) (by decide) rfl ?_
              refine ez_aload_n (pc := 73) Z dX5_count_73 0 rfl rfl ?_
              refine fX5_truthful (pc := 74) (v := s1.1 16) Z hE1 rfl inX5_count (List.mem_of_getElem? (i := 5) rfl) dX5_count_74 ?_
              exact ez_iret (pc := 77) Z hR () h rfl dX5_count_77
            · replace h := h.2 c8
              by_cases c9 : p1 = (6 : Int32)
              · replace h := h.1 c9
                refine ez_tabI (pc := 1) (off := 77) (tgt := 78) Z dX5_count_1 (6 : Int32) c9 (by decide) (by decide) (by decide) rfl ?_
                refine ez_aload_n (pc := 78) Z dX5_count_78 0 rfl rfl ?_
                refine fX5_rowed (pc := 79) (v := s1.1 20) Z hE1 rfl inX5_count (List.mem_of_getElem? (i := 6) rfl) dX5_count_79 ?_
                exact ez_iret (pc := 82) Z hR () h rfl dX5_count_82
              · replace h := h.2 c9
                by_cases c10 : p1 = (7 : Int32)
                · replace h := h.1 c10
                  refine ez_tabI (pc := 1) (off := 82) (tgt := 83) Z dX5_count_1 (7 : Int32) c10 (by decide) (by decide) (by decide) rfl ?_
                  refine ez_aload_n (pc := 83) Z dX5_count_83 0 rfl rfl ?_
                  refine fX5_written (pc := 84) (v := s1.1 18) Z hE1 rfl inX5_count (List.mem_of_getElem? (i := 7) rfl) dX5_count_84 ?_
                  exact ez_iret (pc := 87) Z hR () h rfl dX5_count_87
                · replace h := h.2 c10
                  have gc1 := ez_nt c1
                  have gc2 := ez_nt c2
                  have gc3 := ez_nt c3
                  have gc4 := ez_nt c4
                  have gc7 := ez_nt c7
                  have gc8 := ez_nt c8
                  have gc9 := ez_nt c9
                  have gc10 := ez_nt c10
                  refine ez_tabO (pc := 1) (tgt := 88) Z dX5_count_1 (by simp only [ez_t0, ez_t1, ez_t2, ez_t3, ez_t4, ez_t5, ez_t6, ez_t7] at gc1 gc2 gc3 gc4 gc7 gc8 gc9 gc10; omega) rfl ?_
                  refine ez_iload_n (pc := 88) Z dX5_count_88 1 rfl rfl ?_
                  refine ez_bipush (pc := 89) Z dX5_count_89 eb_11 ?_
                  refine ez_bipush (pc := 91) Z dX5_count_91 eb_16 ?_
                  refine ez_callSi (pc := 93) (As := [.int p1, .int (11 : Int32), .int (16 : Int32)]) (st := []) Z (kX5_in Z.2.2.2.2.2.2.2.2.2.1 (S := E s1) h) gX5_count_X5_in rfl rfl rfl hdX5_in rfl rfl rfl rfl rfl dX5_count_93 (fun r11 u12 h => ?_)
                  refine ez_if_eq (pc := 96) (tgt := 111) Z dX5_count_96 rfl (fun c13 => ?_) (fun c13 => ?_)
                  · replace h := h.1 c13
                    refine ez_bipush (pc := 111) Z dX5_count_111 eb_m9 ?_
                    exact ez_iret (pc := 113) Z hR () h rfl dX5_count_113
                  · replace h := h.2 c13
                    refine ez_aload_n (pc := 99) Z dX5_count_99 0 rfl rfl ?_
                    refine fX5_refused (pc := 100) (M := s1) Z hE1 inX5_count (List.mem_of_getElem? (i := 8) rfl) dX5_count_100 ?_
                    refine ez_iload_n (pc := 103) Z dX5_count_103 1 rfl rfl ?_
                    refine ez_bipush (pc := 104) Z dX5_count_104 eb_10 ?_
                    refine ez_isub (pc := 106) Z dX5_count_106 ?_
                    refine ez_iald (pc := 107) (n := 7) (a := 14) (v := s1.2.1 14 (p1 - (10 : Int32)).toNatClampNeg) (M := s1) Z hE1 15 rfl (by decide : 14 < 36) rfl rfl h.1 dX5_count_107 ?_
                    replace h := h.2
                    refine ez_goto (pc := 108) (tgt := 113) Z dX5_count_108 rfl ?_
                    exact ez_iret (pc := 113) Z hR () h rfl dX5_count_113
