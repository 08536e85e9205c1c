theorem inX1_lastsIfReadAt : ∀ w ∈ wsX10, w ∈ wsX1_lastsIfReadAt := fun _ h => List.mem_cons_of_mem _ (List.mem_append_left _ (List.mem_append_right _ (h)))
theorem hdX1_lastsIfReadAt : yX1_lastsIfReadAt.cls = RX1 ∧ yX1_lastsIfReadAt.cls ≠ "java/lang/invoke/MethodHandle" ∧ yX1_lastsIfReadAt.cls ≠ "java/lang/invoke/VarHandle" ∧ (parseMethodDescriptor yX1_lastsIfReadAt.desc).map (fun d => d.parameters.length) = some 4 := by decide +kernel
def wX1_lastsIfReadAt_51 (R17 : Int32 × Int32 × ew_M → Prop) (Q : Int32 → ew_M → Prop) (v1 : Int32) (v2 : Int32) (v3 : Int32) (v4 : Int32) (v5 : Int32) (v6 : Int32) (s1 : ew_M) (s2 : ew_M) (s3 : ew_M) (s4 : ew_M) : Prop := wX3_passPaper (fun (r1 : Int32) (m2 : ew_M) => wX3_endWeek (fun (m4 : ew_M) => R17 (v5 + r1, v6 + (1 : Int32), m4)) m2) v2 v1 s2
def wX1_lastsIfReadAt_17 (R17 : Int32 × Int32 × ew_M → Prop) (Q : Int32 → ew_M → Prop) (v1 : Int32) (v2 : Int32) (v3 : Int32) (v4 : Int32) (v5 : Int32) (v6 : Int32) (s1 : ew_M) (s2 : ew_M) (s3 : ew_M) (s4 : ew_M) : Prop := (v3 ≤ v6 → Q v5 s2) ∧ (¬ v3 ≤ v6 → (¬ v6 = v4 → wX1_lastsIfReadAt_51 R17 Q v1 v2 v3 v4 v5 v6 s1 s2 s3 s4) ∧ (v6 = v4 → wX3_canRead (fun (r3 : Int32) => (r3 = 0 → wX1_lastsIfReadAt_51 R17 Q v1 v2 v3 v4 v5 v6 s1 s2 s3 s4) ∧ (¬ r3 = 0 → wX3_markRead (fun (m7 : ew_M) => wX1_lastsIfReadAt_51 R17 Q v1 v2 v3 v4 v5 v6 s1 m7 s3 s4) v1 v2 s2)) v1 v2 s2))
def wX1_lastsIfReadAt (Q : Int32 → ew_M → Prop) (p1 : Int32) (p2 : Int32) (p3 : Int32) (p4 : Int32) (s1 : ew_M) (s2 : ew_M) (s3 : ew_M) (s4 : ew_M) : Prop := wX3_become (fun (m2 : ew_M) => ew_lp (fun (R : Int32 × Int32 × ew_M → Prop) (x : Int32 × Int32 × ew_M) => wX1_lastsIfReadAt_17 R Q p1 p2 p3 p4 x.1 x.2.1 s1 x.2.2 s3 s4) ((0 : Int32), (0 : Int32), m2)) s2 s1
set_option maxHeartbeats 4000000 in
set_option maxRecDepth 100000 in
theorem tX1_lastsIfReadAt_51 {C : ew_C} {X : ew_X} {E : ew_M → ew_M → ew_M → ew_M → ew_S} (hE1 : ∀ (x2 x3 x4 : ew_M), ew_GE X 0 (ew_GT X.2.1 0) (fun M => E M x2 x3 x4)) (hE2 : ∀ (x1 x3 x4 : ew_M), ew_GE X 14 (ew_GT X.2.1 14) (fun M => E x1 M x3 x4)) (hE3 : ∀ (x1 x2 x4 : ew_M), ew_GE X 45 (ew_GR X.2.1) (fun M => E x1 x2 M x4)) (hE4 : ∀ (x1 x2 x3 : ew_M), ew_GE X 46 (ew_GX X.2.1) (fun M => E x1 x2 x3 M)) (Z : ew_Z C X cX1_lastsIfReadAt 7 RX1 wsX1_lastsIfReadAt ({ frames := 5, cells := 0, slots := 0, locals := 116 } : Room) (some .int)) {Q : Int32 → ew_M → Prop} {R17 : Int32 × Int32 × ew_M → Prop} {v1 : Int32} {v2 : Int32} {v3 : Int32} {v4 : Int32} {v5 : Int32} {v6 : Int32} {s1 : ew_M} {s2 : ew_M} {s3 : ew_M} {s4 : ew_M} (hR : C.2.2.2.2.2.2.2.2.2.2 = MQ C.2.2.2.2.2.2.2.1 (va_Qi (fun (r : Int32) (u : ew_M) => Q r u) (fun (u : ew_M) => ew_wd X ((fun (u : ew_M) => E s1 u s3 s4) u)) X.2.2.1) C.2.2.2.2.2.2.1 C.2.2.2.2.1 0 0 X.2.2.1) (hR17 : ∀ x : Int32 × Int32 × ew_M, R17 x → ew_W C X 7 (E s1 x.2.2 s3 s4) 17 [(0, .ref (X.2.1 47)), (1, .int v1), (2, .int v2), (3, .int v3), (4, .int v4), (5, .int x.1), (6, .int x.2.1)] []) (h : wX1_lastsIfReadAt_51 R17 Q v1 v2 v3 v4 v5 v6 s1 s2 s3 s4) : ew_W C X 7 (E s1 s2 s3 s4) 51 [(0, .ref (X.2.1 47)), (1, .int v1), (2, .int v2), (3, .int v3), (4, .int v4), (5, .int v5), (6, .int v6)] [] := by
  refine ez_iload (pc := 51) Z dX1_lastsIfReadAt_51 5 rfl ?_
  refine ez_aload_n (pc := 53) Z dX1_lastsIfReadAt_53 0 rfl rfl ?_
  refine fX1_then (pc := 54) (M := s4) Z (hE4 s1 s2 s3) inX1_lastsIfReadAt (List.mem_of_getElem? (i := 1) rfl) dX1_lastsIfReadAt_54 ?_
  refine ez_iload_n (pc := 57) Z dX1_lastsIfReadAt_57 2 rfl rfl ?_
  refine ez_iload_n (pc := 58) Z dX1_lastsIfReadAt_58 1 rfl rfl ?_
  refine ez_callVi (pc := 59) (r := 14) (As := [.int v2, .int v1]) (st := [.int v5]) Z (kX3_passPaper Z.2.2.2.2.2.2.2.2.2.1 (E := fun q1 => E s1 q1 s3 s4) (hE2 s1 s3 s4) h) gX1_lastsIfReadAt_X3_passPaper rfl rfl rfl hdX3_passPaper rfl rfl (by decide) (ew_oT (hE2 s1 s3 s4) _) rfl rfl rfl rfl dX1_lastsIfReadAt_59 (fun r1 m2 h => ?_)
  refine ez_iadd (pc := 62) Z dX1_lastsIfReadAt_62 ?_
  refine ez_istore (pc := 63) (L' := [(5, .int (v5 + r1)), (0, .ref (X.2.1 47)), (1, .int v1), (2, .int v2), (3, .int v3), (4, .int v4), (6, .int v6)]) Z dX1_lastsIfReadAt_63 (by decide) rfl ?_
  refine ez_aload_n (pc := 65) Z dX1_lastsIfReadAt_65 1 rfl rfl ?_
  refine fX1_then (pc := 66) (M := s4) Z (hE4 s1 m2 s3) inX1_lastsIfReadAt (List.mem_of_getElem? (i := 1) rfl) dX1_lastsIfReadAt_66 ?_
  refine ez_callVv (pc := 69) (r := 14) (As := []) (st := []) Z (kX3_endWeek Z.2.2.2.2.2.2.2.2.2.1 (E := fun q1 => E s1 q1 s3 s4) (hE2 s1 s3 s4) h) gX1_lastsIfReadAt_X3_endWeek rfl rfl rfl hdX3_endWeek rfl rfl (by decide) (ew_oT (hE2 s1 s3 s4) _) rfl rfl rfl rfl dX1_lastsIfReadAt_69 (fun m4 h => ?_)
  refine ez_iinc (pc := 72) (L' := [(6, .int (v6 + (1 : Int32))), (5, .int (v5 + r1)), (0, .ref (X.2.1 47)), (1, .int v1), (2, .int v2), (3, .int v3), (4, .int v4)]) Z dX1_lastsIfReadAt_72 6 rfl (ei_1 _) (by decide) rfl ?_
  refine ez_goto (pc := 75) (tgt := 17) Z dX1_lastsIfReadAt_75 rfl ?_
  refine ez_sub [(0, .ref (X.2.1 47)), (1, .int v1), (2, .int v2), (3, .int v3), (4, .int v4), (5, .int (v5 + r1)), (6, .int (v6 + (1 : Int32)))] [2, 3, 4, 5, 6, 1, 0] rfl ?_
  exact hR17 _ h
set_option maxHeartbeats 4000000 in
set_option maxRecDepth 100000 in
theorem tX1_lastsIfReadAt_17 {C : ew_C} {X : ew_X} {E : ew_M → ew_M → ew_M → ew_M → ew_S} (hE1 : ∀ (x2 x3 x4 : ew_M), ew_GE X 0 (ew_GT X.2.1 0) (fun M => E M x2 x3 x4)) (hE2 : ∀ (x1 x3 x4 : ew_M), ew_GE X 14 (ew_GT X.2.1 14) (fun M => E x1 M x3 x4)) (hE3 : ∀ (x1 x2 x4 : ew_M), ew_GE X 45 (ew_GR X.2.1) (fun M => E x1 x2 M x4)) (hE4 : ∀ (x1 x2 x3 : ew_M), ew_GE X 46 (ew_GX X.2.1) (fun M => E x1 x2 x3 M)) (Z : ew_Z C X cX1_lastsIfReadAt 7 RX1 wsX1_lastsIfReadAt ({ frames := 5, cells := 0, slots := 0, locals := 116 } : Room) (some .int)) {Q : Int32 → ew_M → Prop} {R17 : Int32 × Int32 × ew_M → Prop} {v1 : Int32} {v2 : Int32} {v3 : Int32} {v4 : Int32} {v5 : Int32} {v6 : Int32} {s1 : ew_M} {s2 : ew_M} {s3 : ew_M} {s4 : ew_M} (hR : C.2.2.2.2.2.2.2.2.2.2 = MQ C.2.2.2.2.2.2.2.1 (va_Qi (fun (r : Int32) (u : ew_M) => Q r u) (fun (u : ew_M) => ew_wd X ((fun (u : ew_M) => E s1 u s3 s4) u)) X.2.2.1) C.2.2.2.2.2.2.1 C.2.2.2.2.1 0 0 X.2.2.1) (hR17 : ∀ x : Int32 × Int32 × ew_M, R17 x → ew_W C X 7 (E s1 x.2.2 s3 s4) 17 [(0, .ref (X.2.1 47)), (1, .int v1), (2, .int v2), (3, .int v3), (4, .int v4), (5, .int x.1), (6, .int x.2.1)] []) (h : wX1_lastsIfReadAt_17 R17 Q v1 v2 v3 v4 v5 v6 s1 s2 s3 s4) : ew_W C X 7 (E s1 s2 s3 s4) 17 [(0, .ref (X.2.1 47)), (1, .int v1), (2, .int v2), (3, .int v3), (4, .int v4), (5, .int v5), (6, .int v6)] [] := by
  refine ez_iload (pc := 17) Z dX1_lastsIfReadAt_17 6 rfl ?_
  refine ez_iload_n (pc := 19) Z dX1_lastsIfReadAt_19 3 rfl rfl ?_
  refine ez_icmp_ge (pc := 20) (tgt := 78) Z dX1_lastsIfReadAt_20 rfl (fun c1 => ?_) (fun c1 => ?_)
  · replace h := h.1 c1
    refine ez_iload (pc := 78) Z dX1_lastsIfReadAt_78 5 rfl ?_
    exact ez_iret (pc := 80) Z hR s2 h rfl dX1_lastsIfReadAt_80
  · replace h := h.2 c1
    refine ez_iload (pc := 23) Z dX1_lastsIfReadAt_23 6 rfl ?_
    refine ez_iload (pc := 25) Z dX1_lastsIfReadAt_25 4 rfl ?_
    refine ez_icmp_ne (pc := 27) (tgt := 51) Z dX1_lastsIfReadAt_27 rfl (fun c2 => ?_) (fun c2 => ?_)
    · replace h := h.1 c2
      exact tX1_lastsIfReadAt_51 hE1 hE2 hE3 hE4 Z hR hR17 h
    · replace h := h.2 c2
      refine ez_aload_n (pc := 30) Z dX1_lastsIfReadAt_30 0 rfl rfl ?_
      refine fX1_then (pc := 31) (M := s4) Z (hE4 s1 s2 s3) inX1_lastsIfReadAt (List.mem_of_getElem? (i := 1) rfl) dX1_lastsIfReadAt_31 ?_
      refine ez_iload_n (pc := 34) Z dX1_lastsIfReadAt_34 1 rfl rfl ?_
      refine ez_iload_n (pc := 35) Z dX1_lastsIfReadAt_35 2 rfl rfl ?_
      refine ez_callVi (pc := 36) (r := 14) (As := [.int v1, .int v2]) (st := []) Z (kX3_canRead Z.2.2.2.2.2.2.2.2.2.1 (E := fun q1 => E s1 q1 s3 s4) (hE2 s1 s3 s4) h) gX1_lastsIfReadAt_X3_canRead rfl rfl rfl hdX3_canRead rfl rfl (by decide) (ew_oT (hE2 s1 s3 s4) _) rfl rfl rfl rfl dX1_lastsIfReadAt_36 (fun r3 u4 h => ?_)
      refine ez_if_eq (pc := 39) (tgt := 51) Z dX1_lastsIfReadAt_39 rfl (fun c5 => ?_) (fun c5 => ?_)
      · replace h := h.1 c5
        exact tX1_lastsIfReadAt_51 hE1 hE2 hE3 hE4 Z hR hR17 h
      · replace h := h.2 c5
        refine ez_aload_n (pc := 42) Z dX1_lastsIfReadAt_42 0 rfl rfl ?_
        refine fX1_then (pc := 43) (M := s4) Z (hE4 s1 s2 s3) inX1_lastsIfReadAt (List.mem_of_getElem? (i := 1) rfl) dX1_lastsIfReadAt_43 ?_
        refine ez_iload_n (pc := 46) Z dX1_lastsIfReadAt_46 1 rfl rfl ?_
        refine ez_iload_n (pc := 47) Z dX1_lastsIfReadAt_47 2 rfl rfl ?_
        refine ez_callVv (pc := 48) (r := 14) (As := [.int v1, .int v2]) (st := []) Z (kX3_markRead Z.2.2.2.2.2.2.2.2.2.1 (E := fun q1 => E s1 q1 s3 s4) (hE2 s1 s3 s4) h) gX1_lastsIfReadAt_X3_markRead rfl rfl rfl hdX3_markRead rfl rfl (by decide) (ew_oT (hE2 s1 s3 s4) _) rfl rfl rfl rfl dX1_lastsIfReadAt_48 (fun m7 h => ?_)
        exact tX1_lastsIfReadAt_51 hE1 hE2 hE3 hE4 Z hR hR17 h
set_option maxHeartbeats 4000000 in
set_option maxRecDepth 100000 in
theorem kX1_lastsIfReadAt {X : ew_X} {l : Launch} (hX : ew_Ap X) {E : ew_M → ew_M → ew_M → ew_M → ew_S} (hE1 : ∀ (x2 x3 x4 : ew_M), ew_GE X 0 (ew_GT X.2.1 0) (fun M => E M x2 x3 x4)) (hE2 : ∀ (x1 x3 x4 : ew_M), ew_GE X 14 (ew_GT X.2.1 14) (fun M => E x1 M x3 x4)) (hE3 : ∀ (x1 x2 x4 : ew_M), ew_GE X 45 (ew_GR X.2.1) (fun M => E x1 x2 M x4)) (hE4 : ∀ (x1 x2 x3 : ew_M), ew_GE X 46 (ew_GX X.2.1) (fun M => E x1 x2 x3 M)) {Q : Int32 → ew_M → Prop} {p1 : Int32} {p2 : Int32} {p3 : Int32} {p4 : Int32} {s1 : ew_M} {s2 : ew_M} {s3 : ew_M} {s4 : ew_M} (h : wX1_lastsIfReadAt Q p1 p2 p3 p4 s1 s2 s3 s4) : Met l yX1_lastsIfReadAt wsX1_lastsIfReadAt ({ frames := 5, cells := 0, slots := 0, locals := 116 } : Room) (va_Pc [.ref (X.2.1 47), .int p1, .int p2, .int p3, .int p4] (ew_wd X (E s1 s2 s3 s4))) (va_Qi (fun (r : Int32) (u : ew_M) => Q r u) (fun (u : ew_M) => ew_wd X ((fun (u : ew_M) => E s1 u s3 s4) u)) X.2.2.1) 0 0 X.2.2.1 := by
  refine ew_met (As := [.ref (X.2.1 47), .int p1, .int p2, .int p3, .int p4]) (L0 := [(0, .ref (X.2.1 47)), (1, .int p1), (2, .int p2), (3, .int p3), (4, .int p4)]) X l hX (by decide) rfl rfl rfl rfl (fun C hl Z hR => ?_)
  subst hl
  refine ez_aload_n (pc := 0) Z dX1_lastsIfReadAt_0 0 rfl rfl ?_
  refine fX1_then (pc := 1) (M := s4) Z (hE4 s1 s2 s3) inX1_lastsIfReadAt (List.mem_of_getElem? (i := 1) rfl) dX1_lastsIfReadAt_1 ?_
  refine ez_aload_n (pc := 4) Z dX1_lastsIfReadAt_4 0 rfl rfl ?_
  refine fX1_now (pc := 5) (M := s4) Z (hE4 s1 s2 s3) inX1_lastsIfReadAt (List.mem_of_getElem? (i := 2) rfl) dX1_lastsIfReadAt_5 ?_
  refine ez_callVv (pc := 8) (r := 14) (As := [.ref (X.2.1 0)]) (st := []) Z (kX3_become Z.2.2.2.2.2.2.2.2.2.1 (E := fun q1 q2 => E q2 q1 s3 s4) (fun q2 => hE2 q2 s3 s4) (fun q1 => hE1 q1 s3 s4) h) gX1_lastsIfReadAt_X3_become rfl rfl rfl hdX3_become rfl rfl (by decide) (ew_oT (hE2 s1 s3 s4) _) rfl rfl rfl rfl dX1_lastsIfReadAt_8 (fun m2 h => ?_)
  refine ez_iconst (pc := 11) Z dX1_lastsIfReadAt_11 ec_0 ?_
  refine ez_istore (pc := 12) (L' := [(5, .int (0 : Int32)), (0, .ref (X.2.1 47)), (1, .int p1), (2, .int p2), (3, .int p3), (4, .int p4)]) Z dX1_lastsIfReadAt_12 (by decide) rfl ?_
  refine ez_iconst (pc := 14) Z dX1_lastsIfReadAt_14 ec_0 ?_
  refine ez_istore (pc := 15) (L' := [(6, .int (0 : Int32)), (5, .int (0 : Int32)), (0, .ref (X.2.1 47)), (1, .int p1), (2, .int p2), (3, .int p3), (4, .int p4)]) Z dX1_lastsIfReadAt_15 (by decide) rfl ?_
  refine ez_sub [(0, .ref (X.2.1 47)), (1, .int p1), (2, .int p2), (3, .int p3), (4, .int p4), (5, .int (0 : Int32)), (6, .int (0 : Int32))] [2, 3, 4, 5, 6, 1, 0] rfl ?_
  exact ew_ind (P := fun (x : Int32 × Int32 × ew_M) => ew_W C X 7 (E s1 x.2.2 s3 s4) 17 [(0, .ref (X.2.1 47)), (1, .int p1), (2, .int p2), (3, .int p3), (4, .int p4), (5, .int x.1), (6, .int x.2.1)] []) (fun R hR9 x h => tX1_lastsIfReadAt_17 hE1 hE2 hE3 hE4 Z hR  hR9 h) h
theorem inX1_bestWeek : ∀ w ∈ wsX10, w ∈ wsX1_bestWeek := fun _ h => List.mem_cons_of_mem _ (List.mem_append_left _ (List.mem_append_right _ (h)))
theorem hdX1_bestWeek : yX1_bestWeek.cls = RX1 ∧ yX1_bestWeek.cls ≠ "java/lang/invoke/MethodHandle" ∧ yX1_bestWeek.cls ≠ "java/lang/invoke/VarHandle" ∧ (parseMethodDescriptor yX1_bestWeek.desc).map (fun d => d.parameters.length) = some 3 := by decide +kernel
def wX1_bestWeek_62 (R20 : Int32 × Int64 × Int32 × ew_M → Prop) (Q : Int32 → ew_M → Prop) (v1 : Int32) (v2 : Int32) (v3 : Int32) (v4 : Int64) (v6 : Int32) (v7 : Int64) (v9 : Int32) (s1 : ew_M) (s2 : ew_M) (s3 : ew_M) (s4 : ew_M) : Prop := R20 (v6, v7, v9 + (1 : Int32), s2)
def wX1_bestWeek_54 (R20 : Int32 × Int64 × Int32 × ew_M → Prop) (Q : Int32 → ew_M → Prop) (v1 : Int32) (v2 : Int32) (v3 : Int32) (v4 : Int64) (v9 : Int32) (v10 : Int64) (s1 : ew_M) (s2 : ew_M) (s3 : ew_M) (s4 : ew_M) : Prop := wX1_bestWeek_62 R20 Q v1 v2 v3 v4 v9 v10 v9 s1 s2 s3 s4
def wX1_bestWeek_20 (R20 : Int32 × Int64 × Int32 × ew_M → Prop) (Q : Int32 → ew_M → Prop) (v1 : Int32) (v2 : Int32) (v3 : Int32) (v4 : Int64) (v6 : Int32) (v7 : Int64) (v9 : Int32) (s1 : ew_M) (s2 : ew_M) (s3 : ew_M) (s4 : ew_M) : Prop := (v3 < v9 → Q v6 s2) ∧ (¬ v3 < v9 → wX1_lastsIfReadAt (fun (r2 : Int32) (m3 : ew_M) => (v9 = 0 → wX1_bestWeek_54 R20 Q v1 v2 v3 v4 v9 (v4 * r2.toInt64) s1 m3 s3 s4) ∧ (¬ v9 = 0 → ((lg_cmp (v4 * r2.toInt64) v7) ≤ 0 → wX1_bestWeek_62 R20 Q v1 v2 v3 v4 v6 v7 v9 s1 m3 s3 s4) ∧ (¬ (lg_cmp (v4 * r2.toInt64) v7) ≤ 0 → wX1_bestWeek_54 R20 Q v1 v2 v3 v4 v9 (v4 * r2.toInt64) s1 m3 s3 s4))) v1 v2 v3 v9 s1 s2 s3 s4)
def wX1_bestWeek (Q : Int32 → ew_M → Prop) (p1 : Int32) (p2 : Int32) (p3 : Int32) (s1 : ew_M) (s2 : ew_M) (s3 : ew_M) (s4 : ew_M) : Prop := wX3_thinkAbove (fun (r1 : Int64) => ew_lp (fun (R : Int32 × Int64 × Int32 × ew_M → Prop) (x : Int32 × Int64 × Int32 × ew_M) => wX1_bestWeek_20 R Q p1 p2 p3 r1 x.1 x.2.1 x.2.2.1 s1 x.2.2.2 s3 s4) ((0 : Int32), (0 : Int64), (0 : Int32), s2)) p1 p2 s1
set_option maxHeartbeats 4000000 in
set_option maxRecDepth 100000 in
theorem tX1_bestWeek_62 {C : ew_C} {X : ew_X} {E : ew_M → ew_M → ew_M → ew_M → ew_S} (hE1 : ∀ (x2 x3 x4 : ew_M), ew_GE X 0 (ew_GT X.2.1 0) (fun M => E M x2 x3 x4)) (hE2 : ∀ (x1 x3 x4 : ew_M), ew_GE X 14 (ew_GT X.2.1 14) (fun M => E x1 M x3 x4)) (hE3 : ∀ (x1 x2 x4 : ew_M), ew_GE X 45 (ew_GR X.2.1) (fun M => E x1 x2 M x4)) (hE4 : ∀ (x1 x2 x3 : ew_M), ew_GE X 46 (ew_GX X.2.1) (fun M => E x1 x2 x3 M)) (Z : ew_Z C X cX1_bestWeek 12 RX1 wsX1_bestWeek ({ frames := 6, cells := 0, slots := 0, locals := 142 } : Room) (some .int)) {Q : Int32 → ew_M → Prop} {R20 : Int32 × Int64 × Int32 × ew_M → Prop} {v1 : Int32} {v2 : Int32} {v3 : Int32} {v4 : Int64} {v6 : Int32} {v7 : Int64} {v9 : Int32} {s1 : ew_M} {s2 : ew_M} {s3 : ew_M} {s4 : ew_M} (hR : C.2.2.2.2.2.2.2.2.2.2 = MQ C.2.2.2.2.2.2.2.1 (va_Qi (fun (r : Int32) (u : ew_M) => Q r u) (fun (u : ew_M) => ew_wd X ((fun (u : ew_M) => E s1 u s3 s4) u)) X.2.2.1) C.2.2.2.2.2.2.1 C.2.2.2.2.1 0 0 X.2.2.1) (hR20 : ∀ x : Int32 × Int64 × Int32 × ew_M, R20 x → ew_W C X 12 (E s1 x.2.2.2 s3 s4) 20 [(0, .ref (X.2.1 47)), (1, .int v1), (2, .int v2), (3, .int v3), (4, .long v4), (6, .int x.1), (7, .long x.2.1), (9, .int x.2.2.1)] []) (h : wX1_bestWeek_62 R20 Q v1 v2 v3 v4 v6 v7 v9 s1 s2 s3 s4) : ew_W C X 12 (E s1 s2 s3 s4) 62 [(0, .ref (X.2.1 47)), (1, .int v1), (2, .int v2), (3, .int v3), (4, .long v4), (6, .int v6), (7, .long v7), (9, .int v9)] [] := by
  refine ez_iinc (pc := 62) (L' := [(9, .int (v9 + (1 : Int32))), (0, .ref (X.2.1 47)), (1, .int v1), (2, .int v2), (3, .int v3), (4, .long v4), (6, .int v6), (7, .long v7)]) Z dX1_bestWeek_62 7 rfl (ei_1 _) (by decide) rfl ?_
  refine ez_goto (pc := 65) (tgt := 20) Z dX1_bestWeek_65 rfl ?_
  refine ez_sub [(0, .ref (X.2.1 47)), (1, .int v1), (2, .int v2), (3, .int v3), (4, .long v4), (6, .int v6), (7, .long v7), (9, .int (v9 + (1 : Int32)))] [1, 2, 3, 4, 5, 6, 7, 0] rfl ?_
  exact hR20 _ h
set_option maxHeartbeats 4000000 in
set_option maxRecDepth 100000 in
theorem tX1_bestWeek_54 {C : ew_C} {X : ew_X} {E : ew_M → ew_M → ew_M → ew_M → ew_S} (hE1 : ∀ (x2 x3 x4 : ew_M), ew_GE X 0 (ew_GT X.2.1 0) (fun M => E M x2 x3 x4)) (hE2 : ∀ (x1 x3 x4 : ew_M), ew_GE X 14 (ew_GT X.2.1 14) (fun M => E x1 M x3 x4)) (hE3 : ∀ (x1 x2 x4 : ew_M), ew_GE X 45 (ew_GR X.2.1) (fun M => E x1 x2 M x4)) (hE4 : ∀ (x1 x2 x3 : ew_M), ew_GE X 46 (ew_GX X.2.1) (fun M => E x1 x2 x3 M)) (Z : ew_Z C X cX1_bestWeek 12 RX1 wsX1_bestWeek ({ frames := 6, cells := 0, slots := 0, locals := 142 } : Room) (some .int)) {Q : Int32 → ew_M → Prop} {R20 : Int32 × Int64 × Int32 × ew_M → Prop} {v1 : Int32} {v2 : Int32} {v3 : Int32} {v4 : Int64} {v9 : Int32} {v10 : Int64} {s1 : ew_M} {s2 : ew_M} {s3 : ew_M} {s4 : ew_M} (hR : C.2.2.2.2.2.2.2.2.2.2 = MQ C.2.2.2.2.2.2.2.1 (va_Qi (fun (r : Int32) (u : ew_M) => Q r u) (fun (u : ew_M) => ew_wd X ((fun (u : ew_M) => E s1 u s3 s4) u)) X.2.2.1) C.2.2.2.2.2.2.1 C.2.2.2.2.1 0 0 X.2.2.1) (hR20 : ∀ x : Int32 × Int64 × Int32 × ew_M, R20 x → ew_W C X 12 (E s1 x.2.2.2 s3 s4) 20 [(0, .ref (X.2.1 47)), (1, .int v1), (2, .int v2), (3, .int v3), (4, .long v4), (6, .int x.1), (7, .long x.2.1), (9, .int x.2.2.1)] []) (h : wX1_bestWeek_54 R20 Q v1 v2 v3 v4 v9 v10 s1 s2 s3 s4) : ew_W C X 12 (E s1 s2 s3 s4) 54 [(0, .ref (X.2.1 47)), (1, .int v1), (2, .int v2), (3, .int v3), (4, .long v4), (9, .int v9), (10, .long v10)] [] := by
  refine ez_iload (pc := 54) Z dX1_bestWeek_54 5 rfl ?_
  refine ez_istore (pc := 56) (L' := [(6, .int v9), (0, .ref (X.2.1 47)), (1, .int v1), (2, .int v2), (3, .int v3), (4, .long v4), (9, .int v9), (10, .long v10)]) Z dX1_bestWeek_56 (by decide) rfl ?_
  refine ez_lload (pc := 58) Z dX1_bestWeek_58 7 rfl ?_
  refine ez_lstore (pc := 60) (L' := [(7, .long v10), (6, .int v9), (0, .ref (X.2.1 47)), (1, .int v1), (2, .int v2), (3, .int v3), (4, .long v4), (9, .int v9), (10, .long v10)]) Z dX1_bestWeek_60 (by decide) rfl ?_
  refine ez_sub [(0, .ref (X.2.1 47)), (1, .int v1), (2, .int v2), (3, .int v3), (4, .long v4), (6, .int v9), (7, .long v10), (9, .int v9)] [2, 3, 4, 5, 6, 1, 0, 7] rfl ?_
  exact tX1_bestWeek_62 hE1 hE2 hE3 hE4 Z hR hR20 h
set_option maxHeartbeats 4000000 in
set_option maxRecDepth 100000 in
theorem tX1_bestWeek_20 {C : ew_C} {X : ew_X} {E : ew_M → ew_M → ew_M → ew_M → ew_S} (hE1 : ∀ (x2 x3 x4 : ew_M), ew_GE X 0 (ew_GT X.2.1 0) (fun M => E M x2 x3 x4)) (hE2 : ∀ (x1 x3 x4 : ew_M), ew_GE X 14 (ew_GT X.2.1 14) (fun M => E x1 M x3 x4)) (hE3 : ∀ (x1 x2 x4 : ew_M), ew_GE X 45 (ew_GR X.2.1) (fun M => E x1 x2 M x4)) (hE4 : ∀ (x1 x2 x3 : ew_M), ew_GE X 46 (ew_GX X.2.1) (fun M => E x1 x2 x3 M)) (Z : ew_Z C X cX1_bestWeek 12 RX1 wsX1_bestWeek ({ frames := 6, cells := 0, slots := 0, locals := 142 } : Room) (some .int)) {Q : Int32 → ew_M → Prop} {R20 : Int32 × Int64 × Int32 × ew_M → Prop} {v1 : Int32} {v2 : Int32} {v3 : Int32} {v4 : Int64} {v6 : Int32} {v7 : Int64} {v9 : Int32} {s1 : ew_M} {s2 : ew_M} {s3 : ew_M} {s4 : ew_M} (hR : C.2.2.2.2.2.2.2.2.2.2 = MQ C.2.2.2.2.2.2.2.1 (va_Qi (fun (r : Int32) (u : ew_M) => Q r u) (fun (u : ew_M) => ew_wd X ((fun (u : ew_M) => E s1 u s3 s4) u)) X.2.2.1) C.2.2.2.2.2.2.1 C.2.2.2.2.1 0 0 X.2.2.1) (hR20 : ∀ x : Int32 × Int64 × Int32 × ew_M, R20 x → ew_W C X 12 (E s1 x.2.2.2 s3 s4) 20 [(0, .ref (X.2.1 47)), (1, .int v1), (2, .int v2), (3, .int v3), (4, .long v4), (6, .int x.1), (7, .long x.2.1), (9, .int x.2.2.1)] []) (h : wX1_bestWeek_20 R20 Q v1 v2 v3 v4 v6 v7 v9 s1 s2 s3 s4) : ew_W C X 12 (E s1 s2 s3 s4) 20 [(0, .ref (X.2.1 47)), (1, .int v1), (2, .int v2), (3, .int v3), (4, .long v4), (6, .int v6), (7, .long v7), (9, .int v9)] [] := by
  refine ez_iload (pc := 20) Z dX1_bestWeek_20 7 rfl ?_
  refine ez_iload_n (pc := 22) Z dX1_bestWeek_22 3 rfl rfl ?_
  refine ez_icmp_gt (pc := 23) (tgt := 68) Z dX1_bestWeek_23 rfl (fun c1 => ?_) (fun c1 => ?_)
  · replace h := h.1 c1
    refine ez_iload (pc := 68) Z dX1_bestWeek_68 5 rfl ?_
    exact ez_iret (pc := 70) Z hR s2 h rfl dX1_bestWeek_70
  · replace h := h.2 c1
    refine ez_lload (pc := 26) Z dX1_bestWeek_26 4 rfl ?_
    refine ez_aload_n (pc := 28) Z dX1_bestWeek_28 0 rfl rfl ?_
    refine ez_iload_n (pc := 29) Z dX1_bestWeek_29 1 rfl rfl ?_
    refine ez_iload_n (pc := 30) Z dX1_bestWeek_30 2 rfl rfl ?_
    refine ez_iload_n (pc := 31) Z dX1_bestWeek_31 3 rfl rfl ?_
    refine ez_iload (pc := 32) Z dX1_bestWeek_32 7 rfl ?_
    refine ez_callVi (pc := 34) (r := 47) (As := [.int v1, .int v2, .int v3, .int v9]) (st := [.long v4]) Z (kX1_lastsIfReadAt Z.2.2.2.2.2.2.2.2.2.1 (E := E) hE1 hE2 hE3 hE4 h) gX1_bestWeek_X1_lastsIfReadAt rfl rfl rfl hdX1_lastsIfReadAt rfl rfl (by decide) (ew_oX1 (hE4 s1 s2 s3) _) rfl rfl rfl rfl dX1_bestWeek_34 (fun r2 m3 h => ?_)
    refine ez_i2l (pc := 37) Z dX1_bestWeek_37 ?_
    refine ez_lmul (pc := 38) Z dX1_bestWeek_38 ?_
    refine ez_lstore (pc := 39) (L' := [(10, .long (v4 * r2.toInt64)), (0, .ref (X.2.1 47)), (1, .int v1), (2, .int v2), (3, .int v3), (4, .long v4), (6, .int v6), (7, .long v7), (9, .int v9)]) Z dX1_bestWeek_39 (by decide) rfl ?_
    refine ez_iload (pc := 41) Z dX1_bestWeek_41 8 rfl ?_
    refine ez_if_eq (pc := 43) (tgt := 54) Z dX1_bestWeek_43 rfl (fun c4 => ?_) (fun c4 => ?_)
    · replace h := h.1 c4
      refine ez_sub [(0, .ref (X.2.1 47)), (1, .int v1), (2, .int v2), (3, .int v3), (4, .long v4), (9, .int v9), (10, .long (v4 * r2.toInt64))] [1, 2, 3, 4, 5, 8, 0] rfl ?_
      exact tX1_bestWeek_54 hE1 hE2 hE3 hE4 Z hR hR20 h
    · replace h := h.2 c4
      refine ez_lload (pc := 46) Z dX1_bestWeek_46 0 rfl ?_
      refine ez_lload (pc := 48) Z dX1_bestWeek_48 7 rfl ?_
      refine ez_lcmp (pc := 50) Z dX1_bestWeek_50 ?_
      refine ez_if_le (pc := 51) (tgt := 62) Z dX1_bestWeek_51 rfl (fun c5 => ?_) (fun c5 => ?_)
      · replace h := h.1 c5
        refine ez_sub [(0, .ref (X.2.1 47)), (1, .int v1), (2, .int v2), (3, .int v3), (4, .long v4), (6, .int v6), (7, .long v7), (9, .int v9)] [1, 2, 3, 4, 5, 6, 7, 8] rfl ?_
        exact tX1_bestWeek_62 hE1 hE2 hE3 hE4 Z hR hR20 h
      · replace h := h.2 c5
        refine ez_sub [(0, .ref (X.2.1 47)), (1, .int v1), (2, .int v2), (3, .int v3), (4, .long v4), (9, .int v9), (10, .long (v4 * r2.toInt64))] [1, 2, 3, 4, 5, 8, 0] rfl ?_
        exact tX1_bestWeek_54 hE1 hE2 hE3 hE4 Z hR hR20 h
set_option maxHeartbeats 4000000 in
set_option maxRecDepth 100000 in
theorem kX1_bestWeek {X : ew_X} {l : Launch} (hX : ew_Ap X) {E : ew_M → ew_M → ew_M → ew_M → ew_S} (hE1 : ∀ (x2 x3 x4 : ew_M), ew_GE X 0 (ew_GT X.2.1 0) (fun M => E M x2 x3 x4)) (hE2 : ∀ (x1 x3 x4 : ew_M), ew_GE X 14 (ew_GT X.2.1 14) (fun M => E x1 M x3 x4)) (hE3 : ∀ (x1 x2 x4 : ew_M), ew_GE X 45 (ew_GR X.2.1) (fun M => E x1 x2 M x4)) (hE4 : ∀ (x1 x2 x3 : ew_M), ew_GE X 46 (ew_GX X.2.1) (fun M => E x1 x2 x3 M)) {Q : Int32 → ew_M → Prop} {p1 : Int32} {p2 : Int32} {p3 : Int32} {s1 : ew_M} {s2 : ew_M} {s3 : ew_M} {s4 : ew_M} (h : wX1_bestWeek Q p1 p2 p3 s1 s2 s3 s4) : Met l yX1_bestWeek wsX1_bestWeek ({ frames := 6, cells := 0, slots := 0, locals := 142 } : Room) (va_Pc [.ref (X.2.1 47), .int p1, .int p2, .int p3] (ew_wd X (E s1 s2 s3 s4))) (va_Qi (fun (r : Int32) (u : ew_M) => Q r u) (fun (u : ew_M) => ew_wd X ((fun (u : ew_M) => E s1 u s3 s4) u)) X.2.2.1) 0 0 X.2.2.1 := by
  refine ew_met (As := [.ref (X.2.1 47), .int p1, .int p2, .int p3]) (L0 := [(0, .ref (X.2.1 47)), (1, .int p1), (2, .int p2), (3, .int p3)]) X l hX (by decide) rfl rfl rfl rfl (fun C hl Z hR => ?_)
  subst hl
  refine ez_aload_n (pc := 0) Z dX1_bestWeek_0 0 rfl rfl ?_
  refine fX1_now (pc := 1) (M := s4) Z (hE4 s1 s2 s3) inX1_bestWeek (List.mem_of_getElem? (i := 1) rfl) dX1_bestWeek_1 ?_
  refine ez_iload_n (pc := 4) Z dX1_bestWeek_4 1 rfl rfl ?_
  refine ez_iload_n (pc := 5) Z dX1_bestWeek_5 2 rfl rfl ?_
  refine ez_callVl (pc := 6) (r := 0) (As := [.int p1, .int p2]) (st := []) Z (kX3_thinkAbove Z.2.2.2.2.2.2.2.2.2.1 (E := fun q1 => E q1 s2 s3 s4) (hE1 s2 s3 s4) h) gX1_bestWeek_X3_thinkAbove rfl rfl rfl hdX3_thinkAbove rfl rfl (by decide) (ew_oT (hE1 s2 s3 s4) _) rfl rfl rfl rfl dX1_bestWeek_6 (fun r1 u2 h => ?_)
  refine ez_lstore (pc := 9) (L' := [(4, .long r1), (0, .ref (X.2.1 47)), (1, .int p1), (2, .int p2), (3, .int p3)]) Z dX1_bestWeek_9 (by decide) rfl ?_
  refine ez_iconst (pc := 11) Z dX1_bestWeek_11 ec_0 ?_
  refine ez_istore (pc := 12) (L' := [(6, .int (0 : Int32)), (4, .long r1), (0, .ref (X.2.1 47)), (1, .int p1), (2, .int p2), (3, .int p3)]) Z dX1_bestWeek_12 (by decide) rfl ?_
  refine ez_lconst (pc := 14) Z dX1_bestWeek_14 el_0 ?_
  refine ez_lstore (pc := 15) (L' := [(7, .long (0 : Int64)), (6, .int (0 : Int32)), (4, .long r1), (0, .ref (X.2.1 47)), (1, .int p1), (2, .int p2), (3, .int p3)]) Z dX1_bestWeek_15 (by decide) rfl ?_
  refine ez_iconst (pc := 17) Z dX1_bestWeek_17 ec_0 ?_
  refine ez_istore (pc := 18) (L' := [(9, .int (0 : Int32)), (7, .long (0 : Int64)), (6, .int (0 : Int32)), (4, .long r1), (0, .ref (X.2.1 47)), (1, .int p1), (2, .int p2), (3, .int p3)]) Z dX1_bestWeek_18 (by decide) rfl ?_
  refine ez_sub [(0, .ref (X.2.1 47)), (1, .int p1), (2, .int p2), (3, .int p3), (4, .long r1), (6, .int (0 : Int32)), (7, .long (0 : Int64)), (9, .int (0 : Int32))] [4, 5, 6, 7, 3, 2, 1, 0] rfl ?_
  exact ew_ind (P := fun (x : Int32 × Int64 × Int32 × ew_M) => ew_W C X 12 (E s1 x.2.2.2 s3 s4) 20 [(0, .ref (X.2.1 47)), (1, .int p1), (2, .int p2), (3, .int p3), (4, .long r1), (6, .int x.1), (7, .long x.2.1), (9, .int x.2.2.1)] []) (fun R hR9 x h => tX1_bestWeek_20 hE1 hE2 hE3 hE4 Z hR  hR9 h) h
theorem inX1_isInForceBehind : ∀ w ∈ wsX10, w ∈ wsX1_isInForceBehind := fun _ h => List.mem_cons_of_mem _ (List.mem_append_left _ (List.mem_append_right _ (h)))
theorem hdX1_isInForceBehind : yX1_isInForceBehind.cls = RX1 ∧ yX1_isInForceBehind.cls ≠ "java/lang/invoke/MethodHandle" ∧ yX1_isInForceBehind.cls ≠ "java/lang/invoke/VarHandle" ∧ (parseMethodDescriptor yX1_isInForceBehind.desc).map (fun d => d.parameters.length) = some 2 := by decide +kernel
def wX1_isInForceBehind (Q : Int32 → Prop) (p1 : Int32) (p2 : Int32) (s1 : ew_M) (s2 : ew_M) (s3 : ew_M) (s4 : ew_M) : Prop := wX3_readersOf (fun (r1 : Int32) => wJ6_bitCount_0f7a4 (fun (r3 : Int32) => wX3_isInForceWith (fun (r5 : Int32) => narrow .boolean (.int r5) = .int r5 ∧ Q r5 ) p1 r3 s1) (r1 ||| p2)) p1 s1
set_option maxHeartbeats 4000000 in
set_option maxRecDepth 100000 in
theorem kX1_isInForceBehind {X : ew_X} {l : Launch} (hX : ew_Ap X) {E : ew_M → ew_M → ew_M → ew_M → ew_S} (hE1 : ∀ (x2 x3 x4 : ew_M), ew_GE X 0 (ew_GT X.2.1 0) (fun M => E M x2 x3 x4)) (hE2 : ∀ (x1 x3 x4 : ew_M), ew_GE X 14 (ew_GT X.2.1 14) (fun M => E x1 M x3 x4)) (hE3 : ∀ (x1 x2 x4 : ew_M), ew_GE X 45 (ew_GR X.2.1) (fun M => E x1 x2 M x4)) (hE4 : ∀ (x1 x2 x3 : ew_M), ew_GE X 46 (ew_GX X.2.1) (fun M => E x1 x2 x3 M)) {Q : Int32 → Prop} {p1 : Int32} {p2 : Int32} {s1 : ew_M} {s2 : ew_M} {s3 : ew_M} {s4 : ew_M} (h : wX1_isInForceBehind Q p1 p2 s1 s2 s3 s4) : Met l yX1_isInForceBehind wsX1_isInForceBehind ({ frames := 2, cells := 0, slots := 0, locals := 44 } : Room) (va_Pc [.ref (X.2.1 47), .int p1, .int p2] (ew_wd X (E s1 s2 s3 s4))) (va_Qi (fun (r : Int32) (_ : Unit) => Q r) (fun (u : Unit) => ew_wd X ((fun (_ : Unit) => E s1 s2 s3 s4) u)) X.2.2.1) 0 0 X.2.2.1 := by
  refine ew_met (As := [.ref (X.2.1 47), .int p1, .int p2]) (L0 := [(0, .ref (X.2.1 47)), (1, .int p1), (2, .int p2)]) X l hX (by decide) rfl rfl rfl rfl (fun C hl Z hR => ?_)
  subst hl
  refine ez_aload_n (pc := 0) Z dX1_isInForceBehind_0 0 rfl rfl ?_
  refine fX1_now (pc := 1) (M := s4) Z (hE4 s1 s2 s3) inX1_isInForceBehind (List.mem_of_getElem? (i := 1) rfl) dX1_isInForceBehind_1 ?_
  refine ez_iload_n (pc := 4) Z dX1_isInForceBehind_4 1 rfl rfl ?_
  refine ez_aload_n (pc := 5) Z dX1_isInForceBehind_5 0 rfl rfl ?_
  refine fX1_now (pc := 6) (M := s4) Z (hE4 s1 s2 s3) inX1_isInForceBehind (List.mem_of_getElem? (i := 1) rfl) dX1_isInForceBehind_6 ?_
  refine ez_iload_n (pc := 9) Z dX1_isInForceBehind_9 1 rfl rfl ?_
  refine ez_callVi (pc := 10) (r := 0) (As := [.int p1]) (st := [.int p1, .ref (X.2.1 0)]) Z (kX3_readersOf Z.2.2.2.2.2.2.2.2.2.1 (E := fun q1 => E q1 s2 s3 s4) (hE1 s2 s3 s4) h) gX1_isInForceBehind_X3_readersOf rfl rfl rfl hdX3_readersOf rfl rfl (by decide) (ew_oT (hE1 s2 s3 s4) _) rfl rfl rfl rfl dX1_isInForceBehind_10 (fun r1 u2 h => ?_)
  refine ez_iload_n (pc := 13) Z dX1_isInForceBehind_13 2 rfl rfl ?_
  refine ez_ior (pc := 14) Z dX1_isInForceBehind_14 ?_
  refine ez_callSi (pc := 15) (As := [.int (r1 ||| p2)]) (st := [.int p1, .ref (X.2.1 0)]) Z (kJ6_bitCount_0f7a4 Z.2.2.2.2.2.2.2.2.2.1 (S := E s1 s2 s3 s4) h) gX1_isInForceBehind_J6_bitCount_0f7a4 rfl rfl rfl hdJ6_bitCount_0f7a4 rfl rfl rfl rfl rfl dX1_isInForceBehind_15 (fun r3 u4 h => ?_)
  refine ez_callVi (pc := 18) (r := 0) (As := [.int p1, .int r3]) (st := []) Z (kX3_isInForceWith Z.2.2.2.2.2.2.2.2.2.1 (E := fun q1 => E q1 s2 s3 s4) (hE1 s2 s3 s4) h) gX1_isInForceBehind_X3_isInForceWith rfl rfl rfl hdX3_isInForceWith rfl rfl (by decide) (ew_oT (hE1 s2 s3 s4) _) rfl rfl rfl rfl dX1_isInForceBehind_18 (fun r5 u6 h => ?_)
  exact ez_zret (pc := 21) Z hR () h.1 h.2 rfl dX1_isInForceBehind_21
theorem inX1_wouldChange : ∀ w ∈ wsX10, w ∈ wsX1_wouldChange := fun _ h => List.mem_cons_of_mem _ (List.mem_append_left _ (List.mem_append_right _ (h)))
theorem hdX1_wouldChange : yX1_wouldChange.cls = RX1 ∧ yX1_wouldChange.cls ≠ "java/lang/invoke/MethodHandle" ∧ yX1_wouldChange.cls ≠ "java/lang/invoke/VarHandle" ∧ (parseMethodDescriptor yX1_wouldChange.desc).map (fun d => d.parameters.length) = some 3 := by decide +kernel
def wX1_wouldChange (Q : Int32 → Prop) (p1 : Int32) (p2 : Int32) (p3 : Int32) (s1 : ew_M) (s2 : ew_M) (s3 : ew_M) (s4 : ew_M) : Prop := wX1_isInForceBehind (fun (r1 : Int32) => wX1_isInForceBehind (fun (r3 : Int32) => (¬ r1 = r3 → wX3_thinkAbove (fun (r6 : Int64) => (r3 = 0 → (0 ≤ (lg_cmp r6 (0 : Int64)) → Q (0 : Int32) ) ∧ (¬ 0 ≤ (lg_cmp r6 (0 : Int64)) → Q (1 : Int32) )) ∧ (¬ r3 = 0 → ((lg_cmp r6 (0 : Int64)) ≤ 0 → Q (0 : Int32) ) ∧ (¬ (lg_cmp r6 (0 : Int64)) ≤ 0 → Q (1 : Int32) ))) p1 p2 s1) ∧ (r1 = r3 → Q (0 : Int32) )) p2 (p3 ^^^ ((1 : Int32) <<< (p1 &&& 31))) s1 s2 s3 s4) p2 p3 s1 s2 s3 s4
set_option maxHeartbeats 4000000 in
set_option maxRecDepth 100000 in
theorem kX1_wouldChange {X : ew_X} {l : Launch} (hX : ew_Ap X) {E : ew_M → ew_M → ew_M → ew_M → ew_S} (hE1 : ∀ (x2 x3 x4 : ew_M), ew_GE X 0 (ew_GT X.2.1 0) (fun M => E M x2 x3 x4)) (hE2 : ∀ (x1 x3 x4 : ew_M), ew_GE X 14 (ew_GT X.2.1 14) (fun M => E x1 M x3 x4)) (hE3 : ∀ (x1 x2 x4 : ew_M), ew_GE X 45 (ew_GR X.2.1) (fun M => E x1 x2 M x4)) (hE4 : ∀ (x1 x2 x3 : ew_M), ew_GE X 46 (ew_GX X.2.1) (fun M => E x1 x2 x3 M)) {Q : Int32 → Prop} {p1 : Int32} {p2 : Int32} {p3 : Int32} {s1 : ew_M} {s2 : ew_M} {s3 : ew_M} {s4 : ew_M} (h : wX1_wouldChange Q p1 p2 p3 s1 s2 s3 s4) : Met l yX1_wouldChange wsX1_wouldChange ({ frames := 3, cells := 0, slots := 0, locals := 66 } : Room) (va_Pc [.ref (X.2.1 47), .int p1, .int p2, .int p3] (ew_wd X (E s1 s2 s3 s4))) (va_Qi (fun (r : Int32) (_ : Unit) => Q r) (fun (u : Unit) => ew_wd X ((fun (_ : Unit) => E s1 s2 s3 s4) u)) X.2.2.1) 0 0 X.2.2.1 := by
  refine ew_met (As := [.ref (X.2.1 47), .int p1, .int p2, .int p3]) (L0 := [(0, .ref (X.2.1 47)), (1, .int p1), (2, .int p2), (3, .int p3)]) X l hX (by decide) rfl rfl rfl rfl (fun C hl Z hR => ?_)
  subst hl
  refine ez_aload_n (pc := 0) Z dX1_wouldChange_0 0 rfl rfl ?_
  refine ez_iload_n (pc := 1) Z dX1_wouldChange_1 2 rfl rfl ?_
  refine ez_iload_n (pc := 2) Z dX1_wouldChange_2 3 rfl rfl ?_
  refine ez_callVi (pc := 3) (r := 47) (As := [.int p2, .int p3]) (st := []) Z (kX1_isInForceBehind Z.2.2.2.2.2.2.2.2.2.1 (E := E) hE1 hE2 hE3 hE4 h) gX1_wouldChange_X1_isInForceBehind rfl rfl rfl hdX1_isInForceBehind rfl rfl (by decide) (ew_oX1 (hE4 s1 s2 s3) _) rfl rfl rfl rfl dX1_wouldChange_3 (fun r1 u2 h => ?_)
  refine ez_istore (pc := 6) (L' := [(4, .int r1), (0, .ref (X.2.1 47)), (1, .int p1), (2, .int p2), (3, .int p3)]) Z dX1_wouldChange_6 (by decide) rfl ?_
  refine ez_aload_n (pc := 8) Z dX1_wouldChange_8 1 rfl rfl ?_
  refine ez_iload_n (pc := 9) Z dX1_wouldChange_9 3 rfl rfl ?_
  refine ez_iload_n (pc := 10) Z dX1_wouldChange_10 4 rfl rfl ?_
  refine ez_iconst (pc := 11) Z dX1_wouldChange_11 ec_1 ?_
  refine ez_iload_n (pc := 12) Z dX1_wouldChange_12 2 rfl rfl ?_
  refine ez_ishl (pc := 13) Z dX1_wouldChange_13 ?_
  refine ez_ixor (pc := 14) Z dX1_wouldChange_14 ?_
  refine ez_callVi (pc := 15) (r := 47) (As := [.int p2, .int (p3 ^^^ ((1 : Int32) <<< (p1 &&& 31)))]) (st := []) Z (kX1_isInForceBehind Z.2.2.2.2.2.2.2.2.2.1 (E := E) hE1 hE2 hE3 hE4 h) gX1_wouldChange_X1_isInForceBehind rfl rfl rfl hdX1_isInForceBehind rfl rfl (by decide) (ew_oX1 (hE4 s1 s2 s3) _) rfl rfl rfl rfl dX1_wouldChange_15 (fun r3 u4 h => ?_)
  refine ez_istore (pc := 18) (L' := [(5, .int r3), (4, .int r1), (0, .ref (X.2.1 47)), (1, .int p1), (2, .int p2), (3, .int p3)]) Z dX1_wouldChange_18 (by decide) rfl ?_
  refine ez_iload (pc := 20) Z dX1_wouldChange_20 1 rfl ?_
  refine ez_iload (pc := 22) Z dX1_wouldChange_22 0 rfl ?_
  refine ez_icmp_ne (pc := 24) (tgt := 29) Z dX1_wouldChange_24 rfl (fun c5 => ?_) (fun c5 => ?_)
  · replace h := h.1 c5
    refine ez_aload_n (pc := 29) Z dX1_wouldChange_29 2 rfl rfl ?_
    refine fX1_now (pc := 30) (M := s4) Z (hE4 s1 s2 s3) inX1_wouldChange (List.mem_of_getElem? (i := 1) rfl) dX1_wouldChange_30 ?_
    refine ez_iload_n (pc := 33) Z dX1_wouldChange_33 3 rfl rfl ?_
    refine ez_iload_n (pc := 34) Z dX1_wouldChange_34 4 rfl rfl ?_
    refine ez_callVl (pc := 35) (r := 0) (As := [.int p1, .int p2]) (st := []) Z (kX3_thinkAbove Z.2.2.2.2.2.2.2.2.2.1 (E := fun q1 => E q1 s2 s3 s4) (hE1 s2 s3 s4) h) gX1_wouldChange_X3_thinkAbove rfl rfl rfl hdX3_thinkAbove rfl rfl (by decide) (ew_oT (hE1 s2 s3 s4) _) rfl rfl rfl rfl dX1_wouldChange_35 (fun r6 u7 h => ?_)
    refine ez_lstore (pc := 38) (L' := [(6, .long r6), (5, .int r3), (4, .int r1), (0, .ref (X.2.1 47)), (1, .int p1), (2, .int p2), (3, .int p3)]) Z dX1_wouldChange_38 (by decide) rfl ?_
    refine ez_iload (pc := 40) Z dX1_wouldChange_40 1 rfl ?_
    refine ez_if_eq (pc := 42) (tgt := 60) Z dX1_wouldChange_42 rfl (fun c8 => ?_) (fun c8 => ?_)
    · replace h := h.1 c8
      refine ez_lload (pc := 60) Z dX1_wouldChange_60 0 rfl ?_
      refine ez_lconst (pc := 62) Z dX1_wouldChange_62 el_0 ?_
      refine ez_lcmp (pc := 63) Z dX1_wouldChange_63 ?_
      refine ez_if_ge (pc := 64) (tgt := 71) Z dX1_wouldChange_64 rfl (fun c9 => ?_) (fun c9 => ?_)
      · replace h := h.1 c9
        refine ez_iconst (pc := 71) Z dX1_wouldChange_71 ec_0 ?_
        exact ez_zret (pc := 72) Z hR () rfl h rfl dX1_wouldChange_72
      · replace h := h.2 c9
        refine ez_iconst (pc := 67) Z dX1_wouldChange_67 ec_1 ?_
        refine ez_goto (pc := 68) (tgt := 72) Z dX1_wouldChange_68 rfl ?_
        exact ez_zret (pc := 72) Z hR () rfl h rfl dX1_wouldChange_72
    · replace h := h.2 c8
      refine ez_lload (pc := 45) Z dX1_wouldChange_45 0 rfl ?_
      refine ez_lconst (pc := 47) Z dX1_wouldChange_47 el_0 ?_
      refine ez_lcmp (pc := 48) Z dX1_wouldChange_48 ?_
      refine ez_if_le (pc := 49) (tgt := 56) Z dX1_wouldChange_49 rfl (fun c10 => ?_) (fun c10 => ?_)
      · replace h := h.1 c10
        refine ez_iconst (pc := 56) Z dX1_wouldChange_56 ec_0 ?_
        refine ez_goto (pc := 57) (tgt := 72) Z dX1_wouldChange_57 rfl ?_
        exact ez_zret (pc := 72) Z hR () rfl h rfl dX1_wouldChange_72
      · replace h := h.2 c10
        refine ez_iconst (pc := 52) Z dX1_wouldChange_52 ec_1 ?_
        refine ez_goto (pc := 53) (tgt := 72) Z dX1_wouldChange_53 rfl ?_
        exact ez_zret (pc := 72) Z hR () rfl h rfl dX1_wouldChange_72
  · replace h := h.2 c5
    refine ez_iconst (pc := 27) Z dX1_wouldChange_27 ec_0 ?_
    exact ez_zret (pc := 28) Z hR () rfl h rfl dX1_wouldChange_28
theorem inX1_isRest : ∀ w ∈ wsX10, w ∈ wsX1_isRest := fun _ h => List.mem_cons_of_mem _ (List.mem_append_left _ (List.mem_append_right _ (h)))
theorem hdX1_isRest : yX1_isRest.cls = RX1 ∧ yX1_isRest.cls ≠ "java/lang/invoke/MethodHandle" ∧ yX1_isRest.cls ≠ "java/lang/invoke/VarHandle" ∧ (parseMethodDescriptor yX1_isRest.desc).map (fun d => d.parameters.length) = some 2 := by decide +kernel
def wX1_isRest_68 (R22 : Int32 → Prop) (Q : Int32 → Prop) (v1 : Int32) (v2 : Int32) (v3 : Int32) (v4 : Int32) (s1 : ew_M) (s2 : ew_M) (s3 : ew_M) (s4 : ew_M) : Prop := R22 (v4 + (1 : Int32))
def wX1_isRest_48 (R22 : Int32 → Prop) (Q : Int32 → Prop) (v1 : Int32) (v2 : Int32) (v3 : Int32) (v4 : Int32) (t0 : Int32) (s1 : ew_M) (s2 : ew_M) (s3 : ew_M) (s4 : ew_M) : Prop := (t0 = 0 → wX1_isRest_68 R22 Q v1 v2 v3 v4 s1 s2 s3 s4) ∧ (¬ t0 = 0 → wX1_wouldChange (fun (r2 : Int32) => (r2 = 0 → wX1_isRest_68 R22 Q v1 v2 v3 v4 s1 s2 s3 s4) ∧ (¬ r2 = 0 → Q (0 : Int32) )) v4 v1 v2 s1 s2 s3 s4)
def wX1_isRest_22 (R22 : Int32 → Prop) (Q : Int32 → Prop) (v1 : Int32) (v2 : Int32) (v3 : Int32) (v4 : Int32) (s1 : ew_M) (s2 : ew_M) (s3 : ew_M) (s4 : ew_M) : Prop := wX3_personCount (fun (r1 : Int32) => (r1 ≤ v4 → Q (1 : Int32) ) ∧ (¬ r1 ≤ v4 → (((v3 >>> (v4 &&& 31)) &&& (1 : Int32)) = 0 → wX1_isRest_48 R22 Q v1 v2 v3 v4 (0 : Int32) s1 s2 s3 s4) ∧ (¬ ((v3 >>> (v4 &&& 31)) &&& (1 : Int32)) = 0 → wX1_isRest_48 R22 Q v1 v2 v3 v4 (1 : Int32) s1 s2 s3 s4))) s1
def wX1_isRest (Q : Int32 → Prop) (p1 : Int32) (p2 : Int32) (s1 : ew_M) (s2 : ew_M) (s3 : ew_M) (s4 : ew_M) : Prop := wX3_unreadOf (fun (r1 : Int32) => ((p2 &&& (r1 ^^^ (-1 : Int32))) = 0 → ew_lp (fun (R : Int32 → Prop) (x : Int32) => wX1_isRest_22 R Q p1 p2 r1 x s1 s2 s3 s4) (0 : Int32)) ∧ (¬ (p2 &&& (r1 ^^^ (-1 : Int32))) = 0 → Q (0 : Int32) )) p1 s1
set_option maxHeartbeats 4000000 in
set_option maxRecDepth 100000 in
theorem tX1_isRest_68 {C : ew_C} {X : ew_X} {E : ew_M → ew_M → ew_M → ew_M → ew_S} (hE1 : ∀ (x2 x3 x4 : ew_M), ew_GE X 0 (ew_GT X.2.1 0) (fun M => E M x2 x3 x4)) (hE2 : ∀ (x1 x3 x4 : ew_M), ew_GE X 14 (ew_GT X.2.1 14) (fun M => E x1 M x3 x4)) (hE3 : ∀ (x1 x2 x4 : ew_M), ew_GE X 45 (ew_GR X.2.1) (fun M => E x1 x2 M x4)) (hE4 : ∀ (x1 x2 x3 : ew_M), ew_GE X 46 (ew_GX X.2.1) (fun M => E x1 x2 x3 M)) (Z : ew_Z C X cX1_isRest 6 RX1 wsX1_isRest ({ frames := 4, cells := 0, slots := 0, locals := 93 } : Room) (some .boolean)) {Q : Int32 → Prop} {R22 : Int32 → Prop} {v1 : Int32} {v2 : Int32} {v3 : Int32} {v4 : Int32} {s1 : ew_M} {s2 : ew_M} {s3 : ew_M} {s4 : ew_M} (hR : C.2.2.2.2.2.2.2.2.2.2 = MQ C.2.2.2.2.2.2.2.1 (va_Qi (fun (r : Int32) (_ : Unit) => Q r) (fun (u : Unit) => ew_wd X ((fun (_ : Unit) => E s1 s2 s3 s4) u)) X.2.2.1) C.2.2.2.2.2.2.1 C.2.2.2.2.1 0 0 X.2.2.1) (hR22 : ∀ x : Int32, R22 x → ew_W C X 6 (E s1 s2 s3 s4) 22 [(0, .ref (X.2.1 47)), (1, .int v1), (2, .int v2), (3, .int v3), (4, .int x)] []) (h : wX1_isRest_68 R22 Q v1 v2 v3 v4 s1 s2 s3 s4) : ew_W C X 6 (E s1 s2 s3 s4) 68 [(0, .ref (X.2.1 47)), (1, .int v1), (2, .int v2), (3, .int v3), (4, .int v4)] [] := by
  refine ez_iinc (pc := 68) (L' := [(4, .int (v4 + (1 : Int32))), (0, .ref (X.2.1 47)), (1, .int v1), (2, .int v2), (3, .int v3)]) Z dX1_isRest_68 4 rfl (ei_1 _) (by decide) rfl ?_
  refine ez_goto (pc := 71) (tgt := 22) Z dX1_isRest_71 rfl ?_
  refine ez_sub [(0, .ref (X.2.1 47)), (1, .int v1), (2, .int v2), (3, .int v3), (4, .int (v4 + (1 : Int32)))] [1, 2, 3, 4, 0] rfl ?_
  exact hR22 _ h
set_option maxHeartbeats 4000000 in
set_option maxRecDepth 100000 in
theorem tX1_isRest_48 {C : ew_C} {X : ew_X} {E : ew_M → ew_M → ew_M → ew_M → ew_S} (hE1 : ∀ (x2 x3 x4 : ew_M), ew_GE X 0 (ew_GT X.2.1 0) (fun M => E M x2 x3 x4)) (hE2 : ∀ (x1 x3 x4 : ew_M), ew_GE X 14 (ew_GT X.2.1 14) (fun M => E x1 M x3 x4)) (hE3 : ∀ (x1 x2 x4 : ew_M), ew_GE X 45 (ew_GR X.2.1) (fun M => E x1 x2 M x4)) (hE4 : ∀ (x1 x2 x3 : ew_M), ew_GE X 46 (ew_GX X.2.1) (fun M => E x1 x2 x3 M)) (Z : ew_Z C X cX1_isRest 6 RX1 wsX1_isRest ({ frames := 4, cells := 0, slots := 0, locals := 93 } : Room) (some .boolean)) {Q : Int32 → Prop} {R22 : Int32 → Prop} {v1 : Int32} {v2 : Int32} {v3 : Int32} {v4 : Int32} {t0 : Int32} {s1 : ew_M} {s2 : ew_M} {s3 : ew_M} {s4 : ew_M} (hR : C.2.2.2.2.2.2.2.2.2.2 = MQ C.2.2.2.2.2.2.2.1 (va_Qi (fun (r : Int32) (_ : Unit) => Q r) (fun (u : Unit) => ew_wd X ((fun (_ : Unit) => E s1 s2 s3 s4) u)) X.2.2.1) C.2.2.2.2.2.2.1 C.2.2.2.2.1 0 0 X.2.2.1) (hR22 : ∀ x : Int32, R22 x → ew_W C X 6 (E s1 s2 s3 s4) 22 [(0, .ref (X.2.1 47)), (1, .int v1), (2, .int v2), (3, .int v3), (4, .int x)] []) (h : wX1_isRest_48 R22 Q v1 v2 v3 v4 t0 s1 s2 s3 s4) : ew_W C X 6 (E s1 s2 s3 s4) 48 [(0, .ref (X.2.1 47)), (1, .int v1), (2, .int v2), (3, .int v3), (4, .int v4)] [.int t0] := by
  refine ez_istore (pc := 48) (L' := [(5, .int t0), (0, .ref (X.2.1 47)), (1, .int v1), (2, .int v2), (3, .int v3), (4, .int v4)]) Z dX1_isRest_48 (by decide) rfl ?_
  refine ez_iload (pc := 50) Z dX1_isRest_50 0 rfl ?_
  refine ez_if_eq (pc := 52) (tgt := 68) Z dX1_isRest_52 rfl (fun c1 => ?_) (fun c1 => ?_)
  · replace h := h.1 c1
    refine ez_sub [(0, .ref (X.2.1 47)), (1, .int v1), (2, .int v2), (3, .int v3), (4, .int v4)] [1, 2, 3, 4, 5] rfl ?_
    exact tX1_isRest_68 hE1 hE2 hE3 hE4 Z hR hR22 h
  · replace h := h.2 c1
    refine ez_aload_n (pc := 55) Z dX1_isRest_55 1 rfl rfl ?_
    refine ez_iload (pc := 56) Z dX1_isRest_56 5 rfl ?_
    refine ez_iload_n (pc := 58) Z dX1_isRest_58 2 rfl rfl ?_
    refine ez_iload_n (pc := 59) Z dX1_isRest_59 3 rfl rfl ?_
    refine ez_callVi (pc := 60) (r := 47) (As := [.int v4, .int v1, .int v2]) (st := []) Z (kX1_wouldChange Z.2.2.2.2.2.2.2.2.2.1 (E := E) hE1 hE2 hE3 hE4 h) gX1_isRest_X1_wouldChange rfl rfl rfl hdX1_wouldChange rfl rfl (by decide) (ew_oX1 (hE4 s1 s2 s3) _) rfl rfl rfl rfl dX1_isRest_60 (fun r2 u3 h => ?_)
    refine ez_if_eq (pc := 63) (tgt := 68) Z dX1_isRest_63 rfl (fun c4 => ?_) (fun c4 => ?_)
    · replace h := h.1 c4
      refine ez_sub [(0, .ref (X.2.1 47)), (1, .int v1), (2, .int v2), (3, .int v3), (4, .int v4)] [1, 2, 3, 4, 5] rfl ?_
      exact tX1_isRest_68 hE1 hE2 hE3 hE4 Z hR hR22 h
    · replace h := h.2 c4
      refine ez_iconst (pc := 66) Z dX1_isRest_66 ec_0 ?_
      exact ez_zret (pc := 67) Z hR () rfl h rfl dX1_isRest_67
set_option maxHeartbeats 4000000 in
set_option maxRecDepth 100000 in
theorem tX1_isRest_22 {C : ew_C} {X : ew_X} {E : ew_M → ew_M → ew_M → ew_M → ew_S} (hE1 : ∀ (x2 x3 x4 : ew_M), ew_GE X 0 (ew_GT X.2.1 0) (fun M => E M x2 x3 x4)) (hE2 : ∀ (x1 x3 x4 : ew_M), ew_GE X 14 (ew_GT X.2.1 14) (fun M => E x1 M x3 x4)) (hE3 : ∀ (x1 x2 x4 : ew_M), ew_GE X 45 (ew_GR X.2.1) (fun M => E x1 x2 M x4)) (hE4 : ∀ (x1 x2 x3 : ew_M), ew_GE X 46 (ew_GX X.2.1) (fun M => E x1 x2 x3 M)) (Z : ew_Z C X cX1_isRest 6 RX1 wsX1_isRest ({ frames := 4, cells := 0, slots := 0, locals := 93 } : Room) (some .boolean)) {Q : Int32 → Prop} {R22 : Int32 → Prop} {v1 : Int32} {v2 : Int32} {v3 : Int32} {v4 : Int32} {s1 : ew_M} {s2 : ew_M} {s3 : ew_M} {s4 : ew_M} (hR : C.2.2.2.2.2.2.2.2.2.2 = MQ C.2.2.2.2.2.2.2.1 (va_Qi (fun (r : Int32) (_ : Unit) => Q r) (fun (u : Unit) => ew_wd X ((fun (_ : Unit) => E s1 s2 s3 s4) u)) X.2.2.1) C.2.2.2.2.2.2.1 C.2.2.2.2.1 0 0 X.2.2.1) (hR22 : ∀ x : Int32, R22 x → ew_W C X 6 (E s1 s2 s3 s4) 22 [(0, .ref (X.2.1 47)), (1, .int v1), (2, .int v2), (3, .int v3), (4, .int x)] []) (h : wX1_isRest_22 R22 Q v1 v2 v3 v4 s1 s2 s3 s4) : ew_W C X 6 (E s1 s2 s3 s4) 22 [(0, .ref (X.2.1 47)), (1, .int v1), (2, .int v2), (3, .int v3), (4, .int v4)] [] := by
  refine ez_iload (pc := 22) Z dX1_isRest_22 4 rfl ?_
  refine ez_aload_n (pc := 24) Z dX1_isRest_24 0 rfl rfl ?_
  refine fX1_now (pc := 25) (M := s4) Z (hE4 s1 s2 s3) inX1_isRest (List.mem_of_getElem? (i := 1) rfl) dX1_isRest_25 ?_
  refine ez_callVi (pc := 28) (r := 0) (As := []) (st := [.int v4]) Z (kX3_personCount Z.2.2.2.2.2.2.2.2.2.1 (E := fun q1 => E q1 s2 s3 s4) (hE1 s2 s3 s4) h) gX1_isRest_X3_personCount rfl rfl rfl hdX3_personCount rfl rfl (by decide) (ew_oT (hE1 s2 s3 s4) _) rfl rfl rfl rfl dX1_isRest_28 (fun r1 u2 h => ?_)
  refine ez_icmp_ge (pc := 31) (tgt := 74) Z dX1_isRest_31 rfl (fun c3 => ?_) (fun c3 => ?_)
  · replace h := h.1 c3
    refine ez_iconst (pc := 74) Z dX1_isRest_74 ec_1 ?_
    exact ez_zret (pc := 75) Z hR () rfl h rfl dX1_isRest_75
  · replace h := h.2 c3
    refine ez_iload_n (pc := 34) Z dX1_isRest_34 3 rfl rfl ?_
    refine ez_iload (pc := 35) Z dX1_isRest_35 4 rfl ?_
    refine ez_ishr (pc := 37) Z dX1_isRest_37 ?_
    refine ez_iconst (pc := 38) Z dX1_isRest_38 ec_1 ?_
    refine ez_iand (pc := 39) Z dX1_isRest_39 ?_
    refine ez_if_eq (pc := 40) (tgt := 47) Z dX1_isRest_40 rfl (fun c4 => ?_) (fun c4 => ?_)
    · replace h := h.1 c4
      refine ez_iconst (pc := 47) Z dX1_isRest_47 ec_0 ?_
      exact tX1_isRest_48 hE1 hE2 hE3 hE4 Z hR hR22 h
    · replace h := h.2 c4
      refine ez_iconst (pc := 43) Z dX1_isRest_43 ec_1 ?_
      refine ez_goto (pc := 44) (tgt := 48) Z dX1_isRest_44 rfl ?_
      exact tX1_isRest_48 hE1 hE2 hE3 hE4 Z hR hR22 h
set_option maxHeartbeats 4000000 in
set_option maxRecDepth 100000 in
theorem kX1_isRest {X : ew_X} {l : Launch} (hX : ew_Ap X) {E : ew_M → ew_M → ew_M → ew_M → ew_S} (hE1 : ∀ (x2 x3 x4 : ew_M), ew_GE X 0 (ew_GT X.2.1 0) (fun M => E M x2 x3 x4)) (hE2 : ∀ (x1 x3 x4 : ew_M), ew_GE X 14 (ew_GT X.2.1 14) (fun M => E x1 M x3 x4)) (hE3 : ∀ (x1 x2 x4 : ew_M), ew_GE X 45 (ew_GR X.2.1) (fun M => E x1 x2 M x4)) (hE4 : ∀ (x1 x2 x3 : ew_M), ew_GE X 46 (ew_GX X.2.1) (fun M => E x1 x2 x3 M)) {Q : Int32 → Prop} {p1 : Int32} {p2 : Int32} {s1 : ew_M} {s2 : ew_M} {s3 : ew_M} {s4 : ew_M} (h : wX1_isRest Q p1 p2 s1 s2 s3 s4) : Met l yX1_isRest wsX1_isRest ({ frames := 4, cells := 0, slots := 0, locals := 93 } : Room) (va_Pc [.ref (X.2.1 47), .int p1, .int p2] (ew_wd X (E s1 s2 s3 s4))) (va_Qi (fun (r : Int32) (_ : Unit) => Q r) (fun (u : Unit) => ew_wd X ((fun (_ : Unit) => E s1 s2 s3 s4) u)) X.2.2.1) 0 0 X.2.2.1 := by
  refine ew_met (As := [.ref (X.2.1 47), .int p1, .int p2]) (L0 := [(0, .ref (X.2.1 47)), (1, .int p1), (2, .int p2)]) X l hX (by decide) rfl rfl rfl rfl (fun C hl Z hR => ?_)
  subst hl
  refine ez_aload_n (pc := 0) Z dX1_isRest_0 0 rfl rfl ?_
  refine fX1_now (pc := 1) (M := s4) Z (hE4 s1 s2 s3) inX1_isRest (List.mem_of_getElem? (i := 1) rfl) dX1_isRest_1 ?_
  refine ez_iload_n (pc := 4) Z dX1_isRest_4 1 rfl rfl ?_
  refine ez_callVi (pc := 5) (r := 0) (As := [.int p1]) (st := []) Z (kX3_unreadOf Z.2.2.2.2.2.2.2.2.2.1 (E := fun q1 => E q1 s2 s3 s4) (hE1 s2 s3 s4) h) gX1_isRest_X3_unreadOf rfl rfl rfl hdX3_unreadOf rfl rfl (by decide) (ew_oT (hE1 s2 s3 s4) _) rfl rfl rfl rfl dX1_isRest_5 (fun r1 u2 h => ?_)
  refine ez_istore_n (pc := 8) (L' := [(3, .int r1), (0, .ref (X.2.1 47)), (1, .int p1), (2, .int p2)]) Z dX1_isRest_8 rfl (by decide) rfl ?_
  refine ez_iload_n (pc := 9) Z dX1_isRest_9 3 rfl rfl ?_
  refine ez_iload_n (pc := 10) Z dX1_isRest_10 0 rfl rfl ?_
  refine ez_iconst (pc := 11) Z dX1_isRest_11 ec_m1 ?_
  refine ez_ixor (pc := 12) Z dX1_isRest_12 ?_
  refine ez_iand (pc := 13) Z dX1_isRest_13 ?_
  refine ez_if_eq (pc := 14) (tgt := 19) Z dX1_isRest_14 rfl (fun c3 => ?_) (fun c3 => ?_)
  · replace h := h.1 c3
    refine ez_iconst (pc := 19) Z dX1_isRest_19 ec_0 ?_
    refine ez_istore (pc := 20) (L' := [(4, .int (0 : Int32)), (3, .int r1), (0, .ref (X.2.1 47)), (1, .int p1), (2, .int p2)]) Z dX1_isRest_20 (by decide) rfl ?_
    refine ez_sub [(0, .ref (X.2.1 47)), (1, .int p1), (2, .int p2), (3, .int r1), (4, .int (0 : Int32))] [2, 3, 4, 1, 0] rfl ?_
    exact ew_ind (P := fun (x : Int32) => ew_W C X 6 (E s1 s2 s3 s4) 22 [(0, .ref (X.2.1 47)), (1, .int p1), (2, .int p2), (3, .int r1), (4, .int x)] []) (fun R hR9 x h => tX1_isRest_22 hE1 hE2 hE3 hE4 Z hR  hR9 h) h
  · replace h := h.2 c3
    refine ez_iconst (pc := 17) Z dX1_isRest_17 ec_0 ?_
    exact ez_zret (pc := 18) Z hR () rfl h rfl dX1_isRest_18
theorem inX1_countRests : ∀ w ∈ wsX10, w ∈ wsX1_countRests := fun _ h => List.mem_cons_of_mem _ (List.mem_append_left _ (List.mem_append_right _ (h)))
theorem hdX1_countRests : yX1_countRests.cls = RX1 ∧ yX1_countRests.cls ≠ "java/lang/invoke/MethodHandle" ∧ yX1_countRests.cls ≠ "java/lang/invoke/VarHandle" ∧ (parseMethodDescriptor yX1_countRests.desc).map (fun d => d.parameters.length) = some 1 := by decide +kernel
def wX1_countRests_25 (R4 : Int32 × Int32 → Prop) (Q : Int32 → Prop) (v1 : Int32) (v3 : Int32) (t0 : Int32) (t1 : Int32) (s1 : ew_M) (s2 : ew_M) (s3 : ew_M) (s4 : ew_M) : Prop := R4 (t1 + t0, v3 + (1 : Int32))
def wX1_countRests_4 (R4 : Int32 × Int32 → Prop) (Q : Int32 → Prop) (v1 : Int32) (v2 : Int32) (v3 : Int32) (s1 : ew_M) (s2 : ew_M) (s3 : ew_M) (s4 : ew_M) : Prop := ((64 : Int32) ≤ v3 → Q v2 ) ∧ (¬ (64 : Int32) ≤ v3 → wX1_isRest (fun (r2 : Int32) => (r2 = 0 → wX1_countRests_25 R4 Q v1 v3 (0 : Int32) v2 s1 s2 s3 s4) ∧ (¬ r2 = 0 → wX1_countRests_25 R4 Q v1 v3 (1 : Int32) v2 s1 s2 s3 s4)) v1 v3 s1 s2 s3 s4)
def wX1_countRests (Q : Int32 → Prop) (p1 : Int32) (s1 : ew_M) (s2 : ew_M) (s3 : ew_M) (s4 : ew_M) : Prop := ew_lp (fun (R : Int32 × Int32 → Prop) (x : Int32 × Int32) => wX1_countRests_4 R Q p1 x.1 x.2 s1 s2 s3 s4) ((0 : Int32), (0 : Int32))
set_option maxHeartbeats 4000000 in
set_option maxRecDepth 100000 in
theorem tX1_countRests_25 {C : ew_C} {X : ew_X} {E : ew_M → ew_M → ew_M → ew_M → ew_S} (hE1 : ∀ (x2 x3 x4 : ew_M), ew_GE X 0 (ew_GT X.2.1 0) (fun M => E M x2 x3 x4)) (hE2 : ∀ (x1 x3 x4 : ew_M), ew_GE X 14 (ew_GT X.2.1 14) (fun M => E x1 M x3 x4)) (hE3 : ∀ (x1 x2 x4 : ew_M), ew_GE X 45 (ew_GR X.2.1) (fun M => E x1 x2 M x4)) (hE4 : ∀ (x1 x2 x3 : ew_M), ew_GE X 46 (ew_GX X.2.1) (fun M => E x1 x2 x3 M)) (Z : ew_Z C X cX1_countRests 4 RX1 wsX1_countRests ({ frames := 5, cells := 0, slots := 0, locals := 118 } : Room) (some .int)) {Q : Int32 → Prop} {R4 : Int32 × Int32 → Prop} {v1 : Int32} {v3 : Int32} {t0 : Int32} {t1 : Int32} {s1 : ew_M} {s2 : ew_M} {s3 : ew_M} {s4 : ew_M} (hR : C.2.2.2.2.2.2.2.2.2.2 = MQ C.2.2.2.2.2.2.2.1 (va_Qi (fun (r : Int32) (_ : Unit) => Q r) (fun (u : Unit) => ew_wd X ((fun (_ : Unit) => E s1 s2 s3 s4) u)) X.2.2.1) C.2.2.2.2.2.2.1 C.2.2.2.2.1 0 0 X.2.2.1) (hR4 : ∀ x : Int32 × Int32, R4 x → ew_W C X 4 (E s1 s2 s3 s4) 4 [(0, .ref (X.2.1 47)), (1, .int v1), (2, .int x.1), (3, .int x.2)] []) (h : wX1_countRests_25 R4 Q v1 v3 t0 t1 s1 s2 s3 s4) : ew_W C X 4 (E s1 s2 s3 s4) 25 [(0, .ref (X.2.1 47)), (1, .int v1), (3, .int v3)] [.int t0, .int t1] := by
  refine ez_iadd (pc := 25) Z dX1_countRests_25 ?_
  refine ez_istore_n (pc := 26) (L' := [(2, .int (t1 + t0)), (0, .ref (X.2.1 47)), (1, .int v1), (3, .int v3)]) Z dX1_countRests_26 rfl (by decide) rfl ?_
  refine ez_iinc (pc := 27) (L' := [(3, .int (v3 + (1 : Int32))), (2, .int (t1 + t0)), (0, .ref (X.2.1 47)), (1, .int v1)]) Z dX1_countRests_27 3 rfl (ei_1 _) (by decide) rfl ?_
  refine ez_goto (pc := 30) (tgt := 4) Z dX1_countRests_30 rfl ?_
  refine ez_sub [(0, .ref (X.2.1 47)), (1, .int v1), (2, .int (t1 + t0)), (3, .int (v3 + (1 : Int32)))] [2, 3, 1, 0] rfl ?_
  exact hR4 _ h
set_option maxHeartbeats 4000000 in
set_option maxRecDepth 100000 in
theorem tX1_countRests_4 {C : ew_C} {X : ew_X} {E : ew_M → ew_M → ew_M → ew_M → ew_S} (hE1 : ∀ (x2 x3 x4 : ew_M), ew_GE X 0 (ew_GT X.2.1 0) (fun M => E M x2 x3 x4)) (hE2 : ∀ (x1 x3 x4 : ew_M), ew_GE X 14 (ew_GT X.2.1 14) (fun M => E x1 M x3 x4)) (hE3 : ∀ (x1 x2 x4 : ew_M), ew_GE X 45 (ew_GR X.2.1) (fun M => E x1 x2 M x4)) (hE4 : ∀ (x1 x2 x3 : ew_M), ew_GE X 46 (ew_GX X.2.1) (fun M => E x1 x2 x3 M)) (Z : ew_Z C X cX1_countRests 4 RX1 wsX1_countRests ({ frames := 5, cells := 0, slots := 0, locals := 118 } : Room) (some .int)) {Q : Int32 → Prop} {R4 : Int32 × Int32 → Prop} {v1 : Int32} {v2 : Int32} {v3 : Int32} {s1 : ew_M} {s2 : ew_M} {s3 : ew_M} {s4 : ew_M} (hR : C.2.2.2.2.2.2.2.2.2.2 = MQ C.2.2.2.2.2.2.2.1 (va_Qi (fun (r : Int32) (_ : Unit) => Q r) (fun (u : Unit) => ew_wd X ((fun (_ : Unit) => E s1 s2 s3 s4) u)) X.2.2.1) C.2.2.2.2.2.2.1 C.2.2.2.2.1 0 0 X.2.2.1) (hR4 : ∀ x : Int32 × Int32, R4 x → ew_W C X 4 (E s1 s2 s3 s4) 4 [(0, .ref (X.2.1 47)), (1, .int v1), (2, .int x.1), (3, .int x.2)] []) (h : wX1_countRests_4 R4 Q v1 v2 v3 s1 s2 s3 s4) : ew_W C X 4 (E s1 s2 s3 s4) 4 [(0, .ref (X.2.1 47)), (1, .int v1), (2, .int v2), (3, .int v3)] [] := by
  refine ez_iload_n (pc := 4) Z dX1_countRests_4 3 rfl rfl ?_
  refine ez_bipush (pc := 5) Z dX1_countRests_5 eb_64 ?_
  refine ez_icmp_ge (pc := 7) (tgt := 33) Z dX1_countRests_7 rfl (fun c1 => ?_) (fun c1 => ?_)
  · replace h := h.1 c1
    refine ez_iload_n (pc := 33) Z dX1_countRests_33 2 rfl rfl ?_
    exact ez_iret (pc := 34) Z hR () h rfl dX1_countRests_34
  · replace h := h.2 c1
    refine ez_iload_n (pc := 10) Z dX1_countRests_10 2 rfl rfl ?_
    refine ez_aload_n (pc := 11) Z dX1_countRests_11 0 rfl rfl ?_
    refine ez_iload_n (pc := 12) Z dX1_countRests_12 1 rfl rfl ?_
    refine ez_iload_n (pc := 13) Z dX1_countRests_13 3 rfl rfl ?_
    refine ez_callVi (pc := 14) (r := 47) (As := [.int v1, .int v3]) (st := [.int v2]) Z (kX1_isRest Z.2.2.2.2.2.2.2.2.2.1 (E := E) hE1 hE2 hE3 hE4 h) gX1_countRests_X1_isRest rfl rfl rfl hdX1_isRest rfl rfl (by decide) (ew_oX1 (hE4 s1 s2 s3) _) rfl rfl rfl rfl dX1_countRests_14 (fun r2 u3 h => ?_)
    refine ez_if_eq (pc := 17) (tgt := 24) Z dX1_countRests_17 rfl (fun c4 => ?_) (fun c4 => ?_)
    · replace h := h.1 c4
      refine ez_iconst (pc := 24) Z dX1_countRests_24 ec_0 ?_
      refine ez_sub [(0, .ref (X.2.1 47)), (1, .int v1), (3, .int v3)] [0, 1, 3] rfl ?_
      exact tX1_countRests_25 hE1 hE2 hE3 hE4 Z hR hR4 h
    · replace h := h.2 c4
      refine ez_iconst (pc := 20) Z dX1_countRests_20 ec_1 ?_
      refine ez_goto (pc := 21) (tgt := 25) Z dX1_countRests_21 rfl ?_
      refine ez_sub [(0, .ref (X.2.1 47)), (1, .int v1), (3, .int v3)] [0, 1, 3] rfl ?_
      exact tX1_countRests_25 hE1 hE2 hE3 hE4 Z hR hR4 h
set_option maxHeartbeats 4000000 in
set_option maxRecDepth 100000 in
theorem kX1_countRests {X : ew_X} {l : Launch} (hX : ew_Ap X) {E : ew_M → ew_M → ew_M → ew_M → ew_S} (hE1 : ∀ (x2 x3 x4 : ew_M), ew_GE X 0 (ew_GT X.2.1 0) (fun M => E M x2 x3 x4)) (hE2 : ∀ (x1 x3 x4 : ew_M), ew_GE X 14 (ew_GT X.2.1 14) (fun M => E x1 M x3 x4)) (hE3 : ∀ (x1 x2 x4 : ew_M), ew_GE X 45 (ew_GR X.2.1) (fun M => E x1 x2 M x4)) (hE4 : ∀ (x1 x2 x3 : ew_M), ew_GE X 46 (ew_GX X.2.1) (fun M => E x1 x2 x3 M)) {Q : Int32 → Prop} {p1 : Int32} {s1 : ew_M} {s2 : ew_M} {s3 : ew_M} {s4 : ew_M} (h : wX1_countRests Q p1 s1 s2 s3 s4) : Met l yX1_countRests wsX1_countRests ({ frames := 5, cells := 0, slots := 0, locals := 118 } : Room) (va_Pc [.ref (X.2.1 47), .int p1] (ew_wd X (E s1 s2 s3 s4))) (va_Qi (fun (r : Int32) (_ : Unit) => Q r) (fun (u : Unit) => ew_wd X ((fun (_ : Unit) => E s1 s2 s3 s4) u)) X.2.2.1) 0 0 X.2.2.1 := by
  refine ew_met (As := [.ref (X.2.1 47), .int p1]) (L0 := [(0, .ref (X.2.1 47)), (1, .int p1)]) X l hX (by decide) rfl rfl rfl rfl (fun C hl Z hR => ?_)
  subst hl
  refine ez_iconst (pc := 0) Z dX1_countRests_0 ec_0 ?_
  refine ez_istore_n (pc := 1) (L' := [(2, .int (0 : Int32)), (0, .ref (X.2.1 47)), (1, .int p1)]) Z dX1_countRests_1 rfl (by decide) rfl ?_
  refine ez_iconst (pc := 2) Z dX1_countRests_2 ec_0 ?_
  refine ez_istore_n (pc := 3) (L' := [(3, .int (0 : Int32)), (2, .int (0 : Int32)), (0, .ref (X.2.1 47)), (1, .int p1)]) Z dX1_countRests_3 rfl (by decide) rfl ?_
  refine ez_sub [(0, .ref (X.2.1 47)), (1, .int p1), (2, .int (0 : Int32)), (3, .int (0 : Int32))] [2, 3, 1, 0] rfl ?_
  exact ew_ind (P := fun (x : Int32 × Int32) => ew_W C X 4 (E s1 s2 s3 s4) 4 [(0, .ref (X.2.1 47)), (1, .int p1), (2, .int x.1), (3, .int x.2)] []) (fun R hR9 x h => tX1_countRests_4 hE1 hE2 hE3 hE4 Z hR  hR9 h) h
theorem inX1_firstRest : ∀ w ∈ wsX10, w ∈ wsX1_firstRest := fun _ h => List.mem_cons_of_mem _ (List.mem_append_left _ (List.mem_append_right _ (h)))
theorem hdX1_firstRest : yX1_firstRest.cls = RX1 ∧ yX1_firstRest.cls ≠ "java/lang/invoke/MethodHandle" ∧ yX1_firstRest.cls ≠ "java/lang/invoke/VarHandle" ∧ (parseMethodDescriptor yX1_firstRest.desc).map (fun d => d.parameters.length) = some 1 := by decide +kernel
def wX1_firstRest_2 (R2 : Int32 → Prop) (Q : Int32 → Prop) (v1 : Int32) (v2 : Int32) (s1 : ew_M) (s2 : ew_M) (s3 : ew_M) (s4 : ew_M) : Prop := ((64 : Int32) ≤ v2 → Q (-9 : Int32) ) ∧ (¬ (64 : Int32) ≤ v2 → wX1_isRest (fun (r2 : Int32) => (r2 = 0 → R2 (v2 + (1 : Int32))) ∧ (¬ r2 = 0 → Q v2 )) v1 v2 s1 s2 s3 s4)
def wX1_firstRest (Q : Int32 → Prop) (p1 : Int32) (s1 : ew_M) (s2 : ew_M) (s3 : ew_M) (s4 : ew_M) : Prop := ew_lp (fun (R : Int32 → Prop) (x : Int32) => wX1_firstRest_2 R Q p1 x s1 s2 s3 s4) (0 : Int32)
set_option maxHeartbeats 4000000 in
set_option maxRecDepth 100000 in
theorem tX1_firstRest_2 {C : ew_C} {X : ew_X} {E : ew_M → ew_M → ew_M → ew_M → ew_S} (hE1 : ∀ (x2 x3 x4 : ew_M), ew_GE X 0 (ew_GT X.2.1 0) (fun M => E M x2 x3 x4)) (hE2 : ∀ (x1 x3 x4 : ew_M), ew_GE X 14 (ew_GT X.2.1 14) (fun M => E x1 M x3 x4)) (hE3 : ∀ (x1 x2 x4 : ew_M), ew_GE X 45 (ew_GR X.2.1) (fun M => E x1 x2 M x4)) (hE4 : ∀ (x1 x2 x3 : ew_M), ew_GE X 46 (ew_GX X.2.1) (fun M => E x1 x2 x3 M)) (Z : ew_Z C X cX1_firstRest 3 RX1 wsX1_firstRest ({ frames := 5, cells := 0, slots := 0, locals := 118 } : Room) (some .int)) {Q : Int32 → Prop} {R2 : Int32 → Prop} {v1 : Int32} {v2 : Int32} {s1 : ew_M} {s2 : ew_M} {s3 : ew_M} {s4 : ew_M} (hR : C.2.2.2.2.2.2.2.2.2.2 = MQ C.2.2.2.2.2.2.2.1 (va_Qi (fun (r : Int32) (_ : Unit) => Q r) (fun (u : Unit) => ew_wd X ((fun (_ : Unit) => E s1 s2 s3 s4) u)) X.2.2.1) C.2.2.2.2.2.2.1 C.2.2.2.2.1 0 0 X.2.2.1) (hR2 : ∀ x : Int32, R2 x → ew_W C X 3 (E s1 s2 s3 s4) 2 [(0, .ref (X.2.1 47)), (1, .int v1), (2, .int x)] []) (h : wX1_firstRest_2 R2 Q v1 v2 s1 s2 s3 s4) : ew_W C X 3 (E s1 s2 s3 s4) 2 [(0, .ref (X.2.1 47)), (1, .int v1), (2, .int v2)] [] := by
  refine ez_iload_n (pc := 2) Z dX1_firstRest_2 2 rfl rfl ?_
  refine ez_bipush (pc := 3) Z dX1_firstRest_3 eb_64 ?_
  refine ez_icmp_ge (pc := 5) (tgt := 25) Z dX1_firstRest_5 rfl (fun c1 => ?_) (fun c1 => ?_)
  · replace h := h.1 c1
    refine ez_bipush (pc := 25) Z dX1_firstRest_25 eb_m9 ?_
    exact ez_iret (pc := 27) Z hR () h rfl dX1_firstRest_27
  · replace h := h.2 c1
    refine ez_aload_n (pc := 8) Z dX1_firstRest_8 0 rfl rfl ?_
    refine ez_iload_n (pc := 9) Z dX1_firstRest_9 1 rfl rfl ?_
    refine ez_iload_n (pc := 10) Z dX1_firstRest_10 2 rfl rfl ?_
    refine ez_callVi (pc := 11) (r := 47) (As := [.int v1, .int v2]) (st := []) Z (kX1_isRest Z.2.2.2.2.2.2.2.2.2.1 (E := E) hE1 hE2 hE3 hE4 h) gX1_firstRest_X1_isRest rfl rfl rfl hdX1_isRest rfl rfl (by decide) (ew_oX1 (hE4 s1 s2 s3) _) rfl rfl rfl rfl dX1_firstRest_11 (fun r2 u3 h => ?_)
    refine ez_if_eq (pc := 14) (tgt := 19) Z dX1_firstRest_14 rfl (fun c4 => ?_) (fun c4 => ?_)
    · replace h := h.1 c4
      refine ez_iinc (pc := 19) (L' := [(2, .int (v2 + (1 : Int32))), (0, .ref (X.2.1 47)), (1, .int v1)]) Z dX1_firstRest_19 2 rfl (ei_1 _) (by decide) rfl ?_
      refine ez_goto (pc := 22) (tgt := 2) Z dX1_firstRest_22 rfl ?_
      refine ez_sub [(0, .ref (X.2.1 47)), (1, .int v1), (2, .int (v2 + (1 : Int32)))] [1, 2, 0] rfl ?_
      exact hR2 _ h
    · replace h := h.2 c4
      refine ez_iload_n (pc := 17) Z dX1_firstRest_17 2 rfl rfl ?_
      exact ez_iret (pc := 18) Z hR () h rfl dX1_firstRest_18
set_option maxHeartbeats 4000000 in
set_option maxRecDepth 100000 in
theorem kX1_firstRest {X : ew_X} {l : Launch} (hX : ew_Ap X) {E : ew_M → ew_M → ew_M → ew_M → ew_S} (hE1 : ∀ (x2 x3 x4 : ew_M), ew_GE X 0 (ew_GT X.2.1 0) (fun M => E M x2 x3 x4)) (hE2 : ∀ (x1 x3 x4 : ew_M), ew_GE X 14 (ew_GT X.2.1 14) (fun M => E x1 M x3 x4)) (hE3 : ∀ (x1 x2 x4 : ew_M), ew_GE X 45 (ew_GR X.2.1) (fun M => E x1 x2 M x4)) (hE4 : ∀ (x1 x2 x3 : ew_M), ew_GE X 46 (ew_GX X.2.1) (fun M => E x1 x2 x3 M)) {Q : Int32 → Prop} {p1 : Int32} {s1 : ew_M} {s2 : ew_M} {s3 : ew_M} {s4 : ew_M} (h : wX1_firstRest Q p1 s1 s2 s3 s4) : Met l yX1_firstRest wsX1_firstRest ({ frames := 5, cells := 0, slots := 0, locals := 118 } : Room) (va_Pc [.ref (X.2.1 47), .int p1] (ew_wd X (E s1 s2 s3 s4))) (va_Qi (fun (r : Int32) (_ : Unit) => Q r) (fun (u : Unit) => ew_wd X ((fun (_ : Unit) => E s1 s2 s3 s4) u)) X.2.2.1) 0 0 X.2.2.1 := by
  refine ew_met (As := [.ref (X.2.1 47), .int p1]) (L0 := [(0, .ref (X.2.1 47)), (1, .int p1)]) X l hX (by decide) rfl rfl rfl rfl (fun C hl Z hR => ?_)
  subst hl
  refine ez_iconst (pc := 0) Z dX1_firstRest_0 ec_0 ?_
  refine ez_istore_n (pc := 1) (L' := [(2, .int (0 : Int32)), (0, .ref (X.2.1 47)), (1, .int p1)]) Z dX1_firstRest_1 rfl (by decide) rfl ?_
  refine ez_sub [(0, .ref (X.2.1 47)), (1, .int p1), (2, .int (0 : Int32))] [1, 2, 0] rfl ?_
  exact ew_ind (P := fun (x : Int32) => ew_W C X 3 (E s1 s2 s3 s4) 2 [(0, .ref (X.2.1 47)), (1, .int p1), (2, .int x)] []) (fun R hR9 x h => tX1_firstRest_2 hE1 hE2 hE3 hE4 Z hR  hR9 h) h
theorem inX1_endersOf : ∀ w ∈ wsX10, w ∈ wsX1_endersOf := fun _ h => List.mem_cons_of_mem _ (List.mem_append_left _ (List.mem_append_right _ (h)))
theorem hdX1_endersOf : yX1_endersOf.cls = RX1 ∧ yX1_endersOf.cls ≠ "java/lang/invoke/MethodHandle" ∧ yX1_endersOf.cls ≠ "java/lang/invoke/VarHandle" ∧ (parseMethodDescriptor yX1_endersOf.desc).map (fun d => d.parameters.length) = some 1 := by decide +kernel
def wX1_endersOf_42  (Q : Int32 → Prop) (v1 : Int32) (t0 : Int32) (s1 : ew_M) (s2 : ew_M) (s3 : ew_M) (s4 : ew_M) : Prop := (t0 = 0 → Q (0 : Int32) ) ∧ (¬ t0 = 0 → wX3_unreadOf (fun (r2 : Int32) => Q r2 ) v1 s1)
def wX1_endersOf_41  (Q : Int32 → Prop) (v1 : Int32) (s1 : ew_M) (s2 : ew_M) (s3 : ew_M) (s4 : ew_M) : Prop := wX1_endersOf_42 Q v1 (0 : Int32) s1 s2 s3 s4
def wX1_endersOf (Q : Int32 → Prop) (p1 : Int32) (s1 : ew_M) (s2 : ew_M) (s3 : ew_M) (s4 : ew_M) : Prop := wX3_readersOf (fun (r1 : Int32) => wJ6_bitCount_0f7a4 (fun (r3 : Int32) => wX3_isInForce (fun (r5 : Int32) => (r5 = 0 → wX1_endersOf_41 Q p1 s1 s2 s3 s4) ∧ (¬ r5 = 0 → wX3_isInForceWith (fun (r8 : Int32) => (¬ r8 = 0 → wX1_endersOf_41 Q p1 s1 s2 s3 s4) ∧ (r8 = 0 → wX1_endersOf_42 Q p1 (1 : Int32) s1 s2 s3 s4)) p1 (r3 + (1 : Int32)) s1)) p1 s1) r1) p1 s1
set_option maxHeartbeats 4000000 in
set_option maxRecDepth 100000 in
theorem tX1_endersOf_42 {C : ew_C} {X : ew_X} {E : ew_M → ew_M → ew_M → ew_M → ew_S} (hE1 : ∀ (x2 x3 x4 : ew_M), ew_GE X 0 (ew_GT X.2.1 0) (fun M => E M x2 x3 x4)) (hE2 : ∀ (x1 x3 x4 : ew_M), ew_GE X 14 (ew_GT X.2.1 14) (fun M => E x1 M x3 x4)) (hE3 : ∀ (x1 x2 x4 : ew_M), ew_GE X 45 (ew_GR X.2.1) (fun M => E x1 x2 M x4)) (hE4 : ∀ (x1 x2 x3 : ew_M), ew_GE X 46 (ew_GX X.2.1) (fun M => E x1 x2 x3 M)) (Z : ew_Z C X cX1_endersOf 4 RX1 wsX1_endersOf ({ frames := 3, cells := 0, slots := 0, locals := 65 } : Room) (some .int)) {Q : Int32 → Prop}  {v1 : Int32} {t0 : Int32} {s1 : ew_M} {s2 : ew_M} {s3 : ew_M} {s4 : ew_M} (hR : C.2.2.2.2.2.2.2.2.2.2 = MQ C.2.2.2.2.2.2.2.1 (va_Qi (fun (r : Int32) (_ : Unit) => Q r) (fun (u : Unit) => ew_wd X ((fun (_ : Unit) => E s1 s2 s3 s4) u)) X.2.2.1) C.2.2.2.2.2.2.1 C.2.2.2.2.1 0 0 X.2.2.1) (h : wX1_endersOf_42 Q v1 t0 s1 s2 s3 s4) : ew_W C X 4 (E s1 s2 s3 s4) 42 [(0, .ref (X.2.1 47)), (1, .int v1)] [.int t0] := by
  refine ez_istore_n (pc := 42) (L' := [(3, .int t0), (0, .ref (X.2.1 47)), (1, .int v1)]) Z dX1_endersOf_42 rfl (by decide) rfl ?_
  refine ez_iload_n (pc := 43) Z dX1_endersOf_43 0 rfl rfl ?_
  refine ez_if_eq (pc := 44) (tgt := 58) Z dX1_endersOf_44 rfl (fun c1 => ?_) (fun c1 => ?_)
  · replace h := h.1 c1
    refine ez_iconst (pc := 58) Z dX1_endersOf_58 ec_0 ?_
    exact ez_iret (pc := 59) Z hR () h rfl dX1_endersOf_59
  · replace h := h.2 c1
    refine ez_aload_n (pc := 47) Z dX1_endersOf_47 1 rfl rfl ?_
    refine fX1_now (pc := 48) (M := s4) Z (hE4 s1 s2 s3) inX1_endersOf (List.mem_of_getElem? (i := 1) rfl) dX1_endersOf_48 ?_
    refine ez_iload_n (pc := 51) Z dX1_endersOf_51 2 rfl rfl ?_
    refine ez_callVi (pc := 52) (r := 0) (As := [.int v1]) (st := []) Z (kX3_unreadOf Z.2.2.2.2.2.2.2.2.2.1 (E := fun q1 => E q1 s2 s3 s4) (hE1 s2 s3 s4) h) gX1_endersOf_X3_unreadOf rfl rfl rfl hdX3_unreadOf rfl rfl (by decide) (ew_oT (hE1 s2 s3 s4) _) rfl rfl rfl rfl dX1_endersOf_52 (fun r2 u3 h => ?_)
    refine ez_goto (pc := 55) (tgt := 59) Z dX1_endersOf_55 rfl ?_
    exact ez_iret (pc := 59) Z hR () h rfl dX1_endersOf_59
set_option maxHeartbeats 4000000 in
set_option maxRecDepth 100000 in
theorem tX1_endersOf_41 {C : ew_C} {X : ew_X} {E : ew_M → ew_M → ew_M → ew_M → ew_S} (hE1 : ∀ (x2 x3 x4 : ew_M), ew_GE X 0 (ew_GT X.2.1 0) (fun M => E M x2 x3 x4)) (hE2 : ∀ (x1 x3 x4 : ew_M), ew_GE X 14 (ew_GT X.2.1 14) (fun M => E x1 M x3 x4)) (hE3 : ∀ (x1 x2 x4 : ew_M), ew_GE X 45 (ew_GR X.2.1) (fun M => E x1 x2 M x4)) (hE4 : ∀ (x1 x2 x3 : ew_M), ew_GE X 46 (ew_GX X.2.1) (fun M => E x1 x2 x3 M)) (Z : ew_Z C X cX1_endersOf 4 RX1 wsX1_endersOf ({ frames := 3, cells := 0, slots := 0, locals := 65 } : Room) (some .int)) {Q : Int32 → Prop}  {v1 : Int32} {s1 : ew_M} {s2 : ew_M} {s3 : ew_M} {s4 : ew_M} (hR : C.2.2.2.2.2.2.2.2.2.2 = MQ C.2.2.2.2.2.2.2.1 (va_Qi (fun (r : Int32) (_ : Unit) => Q r) (fun (u : Unit) => ew_wd X ((fun (_ : Unit) => E s1 s2 s3 s4) u)) X.2.2.1) C.2.2.2.2.2.2.1 C.2.2.2.2.1 0 0 X.2.2.1) (h : wX1_endersOf_41 Q v1 s1 s2 s3 s4) : ew_W C X 4 (E s1 s2 s3 s4) 41 [(0, .ref (X.2.1 47)), (1, .int v1)] [] := by
  refine ez_iconst (pc := 41) Z dX1_endersOf_41 ec_0 ?_
  exact tX1_endersOf_42 hE1 hE2 hE3 hE4 Z hR  h
set_option maxHeartbeats 4000000 in
set_option maxRecDepth 100000 in
theorem kX1_endersOf {X : ew_X} {l : Launch} (hX : ew_Ap X) {E : ew_M → ew_M → ew_M → ew_M → ew_S} (hE1 : ∀ (x2 x3 x4 : ew_M), ew_GE X 0 (ew_GT X.2.1 0) (fun M => E M x2 x3 x4)) (hE2 : ∀ (x1 x3 x4 : ew_M), ew_GE X 14 (ew_GT X.2.1 14) (fun M => E x1 M x3 x4)) (hE3 : ∀ (x1 x2 x4 : ew_M), ew_GE X 45 (ew_GR X.2.1) (fun M => E x1 x2 M x4)) (hE4 : ∀ (x1 x2 x3 : ew_M), ew_GE X 46 (ew_GX X.2.1) (fun M => E x1 x2 x3 M)) {Q : Int32 → Prop} {p1 : Int32} {s1 : ew_M} {s2 : ew_M} {s3 : ew_M} {s4 : ew_M} (h : wX1_endersOf Q p1 s1 s2 s3 s4) : Met l yX1_endersOf wsX1_endersOf ({ frames := 3, cells := 0, slots := 0, locals := 65 } : Room) (va_Pc [.ref (X.2.1 47), .int p1] (ew_wd X (E s1 s2 s3 s4))) (va_Qi (fun (r : Int32) (_ : Unit) => Q r) (fun (u : Unit) => ew_wd X ((fun (_ : Unit) => E s1 s2 s3 s4) u)) X.2.2.1) 0 0 X.2.2.1 := by
  refine ew_met (As := [.ref (X.2.1 47), .int p1]) (L0 := [(0, .ref (X.2.1 47)), (1, .int p1)]) X l hX (by decide) rfl rfl rfl rfl (fun C hl Z hR => ?_)
  subst hl
  refine ez_aload_n (pc := 0) Z dX1_endersOf_0 0 rfl rfl ?_
  refine fX1_now (pc := 1) (M := s4) Z (hE4 s1 s2 s3) inX1_endersOf (List.mem_of_getElem? (i := 1) rfl) dX1_endersOf_1 ?_
  refine ez_iload_n (pc := 4) Z dX1_endersOf_4 1 rfl rfl ?_
  refine ez_callVi (pc := 5) (r := 0) (As := [.int p1]) (st := []) Z (kX3_readersOf Z.2.2.2.2.2.2.2.2.2.1 (E := fun q1 => E q1 s2 s3 s4) (hE1 s2 s3 s4) h) gX1_endersOf_X3_readersOf rfl rfl rfl hdX3_readersOf rfl rfl (by decide) (ew_oT (hE1 s2 s3 s4) _) rfl rfl rfl rfl dX1_endersOf_5 (fun r1 u2 h => ?_)
  refine ez_callSi (pc := 8) (As := [.int r1]) (st := []) Z (kJ6_bitCount_0f7a4 Z.2.2.2.2.2.2.2.2.2.1 (S := E s1 s2 s3 s4) h) gX1_endersOf_J6_bitCount_0f7a4 rfl rfl rfl hdJ6_bitCount_0f7a4 rfl rfl rfl rfl rfl dX1_endersOf_8 (fun r3 u4 h => ?_)
  refine ez_istore_n (pc := 11) (L' := [(2, .int r3), (0, .ref (X.2.1 47)), (1, .int p1)]) Z dX1_endersOf_11 rfl (by decide) rfl ?_
  refine ez_aload_n (pc := 12) Z dX1_endersOf_12 1 rfl rfl ?_
  refine fX1_now (pc := 13) (M := s4) Z (hE4 s1 s2 s3) inX1_endersOf (List.mem_of_getElem? (i := 1) rfl) dX1_endersOf_13 ?_
  refine ez_iload_n (pc := 16) Z dX1_endersOf_16 2 rfl rfl ?_
  refine ez_callVi (pc := 17) (r := 0) (As := [.int p1]) (st := []) Z (kX3_isInForce Z.2.2.2.2.2.2.2.2.2.1 (E := fun q1 => E q1 s2 s3 s4) (hE1 s2 s3 s4) h) gX1_endersOf_X3_isInForce rfl rfl rfl hdX3_isInForce rfl rfl (by decide) (ew_oT (hE1 s2 s3 s4) _) rfl rfl rfl rfl dX1_endersOf_17 (fun r5 u6 h => ?_)
  refine ez_if_eq (pc := 20) (tgt := 41) Z dX1_endersOf_20 rfl (fun c7 => ?_) (fun c7 => ?_)
  · replace h := h.1 c7
    refine ez_sub [(0, .ref (X.2.1 47)), (1, .int p1)] [1, 2] rfl ?_
    exact tX1_endersOf_41 hE1 hE2 hE3 hE4 Z hR  h
  · replace h := h.2 c7
    refine ez_aload_n (pc := 23) Z dX1_endersOf_23 1 rfl rfl ?_
    refine fX1_now (pc := 24) (M := s4) Z (hE4 s1 s2 s3) inX1_endersOf (List.mem_of_getElem? (i := 1) rfl) dX1_endersOf_24 ?_
    refine ez_iload_n (pc := 27) Z dX1_endersOf_27 2 rfl rfl ?_
    refine ez_iload_n (pc := 28) Z dX1_endersOf_28 0 rfl rfl ?_
    refine ez_iconst (pc := 29) Z dX1_endersOf_29 ec_1 ?_
    refine ez_iadd (pc := 30) Z dX1_endersOf_30 ?_
    refine ez_callVi (pc := 31) (r := 0) (As := [.int p1, .int (r3 + (1 : Int32))]) (st := []) Z (kX3_isInForceWith Z.2.2.2.2.2.2.2.2.2.1 (E := fun q1 => E q1 s2 s3 s4) (hE1 s2 s3 s4) h) gX1_endersOf_X3_isInForceWith rfl rfl rfl hdX3_isInForceWith rfl rfl (by decide) (ew_oT (hE1 s2 s3 s4) _) rfl rfl rfl rfl dX1_endersOf_31 (fun r8 u9 h => ?_)
    refine ez_if_ne (pc := 34) (tgt := 41) Z dX1_endersOf_34 rfl (fun c10 => ?_) (fun c10 => ?_)
    · replace h := h.1 c10
      refine ez_sub [(0, .ref (X.2.1 47)), (1, .int p1)] [1, 2] rfl ?_
      exact tX1_endersOf_41 hE1 hE2 hE3 hE4 Z hR  h
    · replace h := h.2 c10
      refine ez_iconst (pc := 37) Z dX1_endersOf_37 ec_1 ?_
      refine ez_goto (pc := 38) (tgt := 42) Z dX1_endersOf_38 rfl ?_
      refine ez_sub [(0, .ref (X.2.1 47)), (1, .int p1)] [1, 2] rfl ?_
      exact tX1_endersOf_42 hE1 hE2 hE3 hE4 Z hR  h
theorem inX1_thinkInThousandths : ∀ w ∈ wsX10, w ∈ wsX1_thinkInThousandths := fun _ h => List.mem_cons_of_mem _ (List.mem_append_left _ (List.mem_append_right _ (h)))
theorem hdX1_thinkInThousandths : yX1_thinkInThousandths.cls = RX1 ∧ yX1_thinkInThousandths.cls ≠ "java/lang/invoke/MethodHandle" ∧ yX1_thinkInThousandths.cls ≠ "java/lang/invoke/VarHandle" ∧ (parseMethodDescriptor yX1_thinkInThousandths.desc).map (fun d => d.parameters.length) = some 2 := by decide +kernel
def wX1_thinkInThousandths (Q : Int64 → Prop) (p1 : Int32) (p2 : Int32) (s1 : ew_M) (s2 : ew_M) (s3 : ew_M) (s4 : ew_M) : Prop := wX3_thinkBelow (fun (r1 : Int64) => ((lg_cmp r1 (0 : Int64)) ≤ 0 → Q (0 : Int64) ) ∧ (¬ (lg_cmp r1 (0 : Int64)) ≤ 0 → wX3_thinkAbove (fun (r4 : Int64) => (¬ r1 = 0) ∧ (Q (((1000 : Int64) * r4) / r1) )) p1 p2 s1)) p1 p2 s1
set_option maxHeartbeats 4000000 in
set_option maxRecDepth 100000 in
theorem kX1_thinkInThousandths {X : ew_X} {l : Launch} (hX : ew_Ap X) {E : ew_M → ew_M → ew_M → ew_M → ew_S} (hE1 : ∀ (x2 x3 x4 : ew_M), ew_GE X 0 (ew_GT X.2.1 0) (fun M => E M x2 x3 x4)) (hE2 : ∀ (x1 x3 x4 : ew_M), ew_GE X 14 (ew_GT X.2.1 14) (fun M => E x1 M x3 x4)) (hE3 : ∀ (x1 x2 x4 : ew_M), ew_GE X 45 (ew_GR X.2.1) (fun M => E x1 x2 M x4)) (hE4 : ∀ (x1 x2 x3 : ew_M), ew_GE X 46 (ew_GX X.2.1) (fun M => E x1 x2 x3 M)) {Q : Int64 → Prop} {p1 : Int32} {p2 : Int32} {s1 : ew_M} {s2 : ew_M} {s3 : ew_M} {s4 : ew_M} (h : wX1_thinkInThousandths Q p1 p2 s1 s2 s3 s4) : Met l yX1_thinkInThousandths wsX1_thinkInThousandths ({ frames := 2, cells := 0, slots := 0, locals := 48 } : Room) (va_Pc [.ref (X.2.1 47), .int p1, .int p2] (ew_wd X (E s1 s2 s3 s4))) (va_Ql (fun (r : Int64) (_ : Unit) => Q r) (fun (u : Unit) => ew_wd X ((fun (_ : Unit) => E s1 s2 s3 s4) u)) X.2.2.1) 0 0 X.2.2.1 := by
  refine ew_met (As := [.ref (X.2.1 47), .int p1, .int p2]) (L0 := [(0, .ref (X.2.1 47)), (1, .int p1), (2, .int p2)]) X l hX (by decide) rfl rfl rfl rfl (fun C hl Z hR => ?_)
  subst hl
  refine ez_aload_n (pc := 0) Z dX1_thinkInThousandths_0 0 rfl rfl ?_
  refine fX1_now (pc := 1) (M := s4) Z (hE4 s1 s2 s3) inX1_thinkInThousandths (List.mem_of_getElem? (i := 1) rfl) dX1_thinkInThousandths_1 ?_
  refine ez_iload_n (pc := 4) Z dX1_thinkInThousandths_4 1 rfl rfl ?_
  refine ez_iload_n (pc := 5) Z dX1_thinkInThousandths_5 2 rfl rfl ?_
  refine ez_callVl (pc := 6) (r := 0) (As := [.int p1, .int p2]) (st := []) Z (kX3_thinkBelow Z.2.2.2.2.2.2.2.2.2.1 (E := fun q1 => E q1 s2 s3 s4) (hE1 s2 s3 s4) h) gX1_thinkInThousandths_X3_thinkBelow rfl rfl rfl hdX3_thinkBelow rfl rfl (by decide) (ew_oT (hE1 s2 s3 s4) _) rfl rfl rfl rfl dX1_thinkInThousandths_6 (fun r1 u2 h => ?_)
  refine ez_lstore_n (pc := 9) (L' := [(3, .long r1), (0, .ref (X.2.1 47)), (1, .int p1), (2, .int p2)]) Z dX1_thinkInThousandths_9 rfl (by decide) rfl ?_
  refine ez_lload_n (pc := 10) Z dX1_thinkInThousandths_10 0 rfl rfl ?_
  refine ez_lconst (pc := 11) Z dX1_thinkInThousandths_11 el_0 ?_
  refine ez_lcmp (pc := 12) Z dX1_thinkInThousandths_12 ?_
  refine ez_if_le (pc := 13) (tgt := 34) Z dX1_thinkInThousandths_13 rfl (fun c3 => ?_) (fun c3 => ?_)
  · replace h := h.1 c3
    refine ez_lconst (pc := 34) Z dX1_thinkInThousandths_34 el_0 ?_
    exact ez_lret (pc := 35) Z hR () h rfl dX1_thinkInThousandths_35
  · replace h := h.2 c3
    refine ez_ldc2 (pc := 16) Z (List.mem_of_getElem? (i := 2) rfl) dX1_thinkInThousandths_16 ?_
    refine ez_aload_n (pc := 19) Z dX1_thinkInThousandths_19 1 rfl rfl ?_
    refine fX1_now (pc := 20) (M := s4) Z (hE4 s1 s2 s3) inX1_thinkInThousandths (List.mem_of_getElem? (i := 1) rfl) dX1_thinkInThousandths_20 ?_
    refine ez_iload_n (pc := 23) Z dX1_thinkInThousandths_23 2 rfl rfl ?_
    refine ez_iload_n (pc := 24) Z dX1_thinkInThousandths_24 3 rfl rfl ?_
    refine ez_callVl (pc := 25) (r := 0) (As := [.int p1, .int p2]) (st := [.long (1000 : Int64)]) Z (kX3_thinkAbove Z.2.2.2.2.2.2.2.2.2.1 (E := fun q1 => E q1 s2 s3 s4) (hE1 s2 s3 s4) h) gX1_thinkInThousandths_X3_thinkAbove rfl rfl rfl hdX3_thinkAbove rfl rfl (by decide) (ew_oT (hE1 s2 s3 s4) _) rfl rfl rfl rfl dX1_thinkInThousandths_25 (fun r4 u5 h => ?_)
    refine ez_lmul (pc := 28) Z dX1_thinkInThousandths_28 ?_
    refine ez_lload_n (pc := 29) Z dX1_thinkInThousandths_29 0 rfl rfl ?_
    refine ez_ldiv (pc := 30) Z dX1_thinkInThousandths_30 h.1 ?_
    replace h := h.2
    refine ez_goto (pc := 31) (tgt := 35) Z dX1_thinkInThousandths_31 rfl ?_
    exact ez_lret (pc := 35) Z hR () h rfl dX1_thinkInThousandths_35
theorem inX1_priceOf : ∀ w ∈ wsX10, w ∈ wsX1_priceOf := fun _ h => List.mem_cons_of_mem _ (List.mem_append_left _ (List.mem_append_right _ (h)))
theorem hdX1_priceOf : yX1_priceOf.cls = RX1 ∧ yX1_priceOf.cls ≠ "java/lang/invoke/MethodHandle" ∧ yX1_priceOf.cls ≠ "java/lang/invoke/VarHandle" ∧ (parseMethodDescriptor yX1_priceOf.desc).map (fun d => d.parameters.length) = some 3 := by decide +kernel
def wX1_priceOf_63 (R20 : Int64 × Int32 → Prop) (Q : Int32 → Prop) (v1 : Int32) (v2 : Int32) (v3 : Int32) (v4 : Int64) (v6 : Int32) (s1 : ew_M) (s2 : ew_M) (s3 : ew_M) (s4 : ew_M) : Prop := R20 (v4, v6 + (1 : Int32))
def wX1_priceOf_20 (R20 : Int64 × Int32 → Prop) (Q : Int32 → Prop) (v1 : Int32) (v2 : Int32) (v3 : Int32) (v4 : Int64) (v6 : Int32) (s1 : ew_M) (s2 : ew_M) (s3 : ew_M) (s4 : ew_M) : Prop := wX3_personCount (fun (r1 : Int32) => (r1 ≤ v6 → (0 ≤ (lg_cmp v4 (0 : Int64)) → Q (0 : Int32) ) ∧ (¬ 0 ≤ (lg_cmp v4 (0 : Int64)) → Q (((-v4) * v3.toInt64).toInt32) )) ∧ (¬ r1 ≤ v6 → (v6 = v1 → wX1_priceOf_63 R20 Q v1 v2 v3 v4 v6 s1 s2 s3 s4) ∧ (¬ v6 = v1 → wX3_isBound (fun (r6 : Int32) => (r6 = 0 → wX1_priceOf_63 R20 Q v1 v2 v3 v4 v6 s1 s2 s3 s4) ∧ (¬ r6 = 0 → wX1_thinkInThousandths (fun (r9 : Int64) => wX1_priceOf_63 R20 Q v1 v2 v3 (v4 + r9) v6 s1 s2 s3 s4) v6 v2 s1 s2 s3 s4)) v6 v2 s1))) s1
def wX1_priceOf (Q : Int32 → Prop) (p1 : Int32) (p2 : Int32) (p3 : Int32) (s1 : ew_M) (s2 : ew_M) (s3 : ew_M) (s4 : ew_M) : Prop := wX1_endersOf (fun (r1 : Int32) => (¬ ((r1 >>> (p1 &&& 31)) &&& (1 : Int32)) = 0 → ew_lp (fun (R : Int64 × Int32 → Prop) (x : Int64 × Int32) => wX1_priceOf_20 R Q p1 p2 p3 x.1 x.2 s1 s2 s3 s4) ((0 : Int64), (0 : Int32))) ∧ (((r1 >>> (p1 &&& 31)) &&& (1 : Int32)) = 0 → Q (0 : Int32) )) p2 s1 s2 s3 s4
set_option maxHeartbeats 4000000 in
set_option maxRecDepth 100000 in
theorem tX1_priceOf_63 {C : ew_C} {X : ew_X} {E : ew_M → ew_M → ew_M → ew_M → ew_S} (hE1 : ∀ (x2 x3 x4 : ew_M), ew_GE X 0 (ew_GT X.2.1 0) (fun M => E M x2 x3 x4)) (hE2 : ∀ (x1 x3 x4 : ew_M), ew_GE X 14 (ew_GT X.2.1 14) (fun M => E x1 M x3 x4)) (hE3 : ∀ (x1 x2 x4 : ew_M), ew_GE X 45 (ew_GR X.2.1) (fun M => E x1 x2 M x4)) (hE4 : ∀ (x1 x2 x3 : ew_M), ew_GE X 46 (ew_GX X.2.1) (fun M => E x1 x2 x3 M)) (Z : ew_Z C X cX1_priceOf 7 RX1 wsX1_priceOf ({ frames := 4, cells := 0, slots := 0, locals := 88 } : Room) (some .int)) {Q : Int32 → Prop} {R20 : Int64 × Int32 → Prop} {v1 : Int32} {v2 : Int32} {v3 : Int32} {v4 : Int64} {v6 : Int32} {s1 : ew_M} {s2 : ew_M} {s3 : ew_M} {s4 : ew_M} (hR : C.2.2.2.2.2.2.2.2.2.2 = MQ C.2.2.2.2.2.2.2.1 (va_Qi (fun (r : Int32) (_ : Unit) => Q r) (fun (u : Unit) => ew_wd X ((fun (_ : Unit) => E s1 s2 s3 s4) u)) X.2.2.1) C.2.2.2.2.2.2.1 C.2.2.2.2.1 0 0 X.2.2.1) (hR20 : ∀ x : Int64 × Int32, R20 x → ew_W C X 7 (E s1 s2 s3 s4) 20 [(0, .ref (X.2.1 47)), (1, .int v1), (2, .int v2), (3, .int v3), (4, .long x.1), (6, .int x.2)] []) (h : wX1_priceOf_63 R20 Q v1 v2 v3 v4 v6 s1 s2 s3 s4) : ew_W C X 7 (E s1 s2 s3 s4) 63 [(0, .ref (X.2.1 47)), (1, .int v1), (2, .int v2), (3, .int v3), (4, .long v4), (6, .int v6)] [] := by
  refine ez_iinc (pc := 63) (L' := [(6, .int (v6 + (1 : Int32))), (0, .ref (X.2.1 47)), (1, .int v1), (2, .int v2), (3, .int v3), (4, .long v4)]) Z dX1_priceOf_63 5 rfl (ei_1 _) (by decide) rfl ?_
  refine ez_goto (pc := 66) (tgt := 20) Z dX1_priceOf_66 rfl ?_
  refine ez_sub [(0, .ref (X.2.1 47)), (1, .int v1), (2, .int v2), (3, .int v3), (4, .long v4), (6, .int (v6 + (1 : Int32)))] [1, 2, 3, 4, 5, 0] rfl ?_
  exact hR20 _ h
set_option maxHeartbeats 4000000 in
set_option maxRecDepth 100000 in
theorem tX1_priceOf_20 {C : ew_C} {X : ew_X} {E : ew_M → ew_M → ew_M → ew_M → ew_S} (hE1 : ∀ (x2 x3 x4 : ew_M), ew_GE X 0 (ew_GT X.2.1 0) (fun M => E M x2 x3 x4)) (hE2 : ∀ (x1 x3 x4 : ew_M), ew_GE X 14 (ew_GT X.2.1 14) (fun M => E x1 M x3 x4)) (hE3 : ∀ (x1 x2 x4 : ew_M), ew_GE X 45 (ew_GR X.2.1) (fun M => E x1 x2 M x4)) (hE4 : ∀ (x1 x2 x3 : ew_M), ew_GE X 46 (ew_GX X.2.1) (fun M => E x1 x2 x3 M)) (Z : ew_Z C X cX1_priceOf 7 RX1 wsX1_priceOf ({ frames := 4, cells := 0, slots := 0, locals := 88 } : Room) (some .int)) {Q : Int32 → Prop} {R20 : Int64 × Int32 → Prop} {v1 : Int32} {v2 : Int32} {v3 : Int32} {v4 : Int64} {v6 : Int32} {s1 : ew_M} {s2 : ew_M} {s3 : ew_M} {s4 : ew_M} (hR : C.2.2.2.2.2.2.2.2.2.2 = MQ C.2.2.2.2.2.2.2.1 (va_Qi (fun (r : Int32) (_ : Unit) => Q r) (fun (u : Unit) => ew_wd X ((fun (_ : Unit) => E s1 s2 s3 s4) u)) X.2.2.1) C.2.2.2.2.2.2.1 C.2.2.2.2.1 0 0 X.2.2.1) (hR20 : ∀ x : Int64 × Int32, R20 x → ew_W C X 7 (E s1 s2 s3 s4) 20 [(0, .ref (X.2.1 47)), (1, .int v1), (2, .int v2), (3, .int v3), (4, .long x.1), (6, .int x.2)] []) (h : wX1_priceOf_20 R20 Q v1 v2 v3 v4 v6 s1 s2 s3 s4) : ew_W C X 7 (E s1 s2 s3 s4) 20 [(0, .ref (X.2.1 47)), (1, .int v1), (2, .int v2), (3, .int v3), (4, .long v4), (6, .int v6)] [] := by
  refine ez_iload (pc := 20) Z dX1_priceOf_20 5 rfl ?_
  refine ez_aload_n (pc := 22) Z dX1_priceOf_22 0 rfl rfl ?_
  refine fX1_now (pc := 23) (M := s4) Z (hE4 s1 s2 s3) inX1_priceOf (List.mem_of_getElem? (i := 1) rfl) dX1_priceOf_23 ?_
  refine ez_callVi (pc := 26) (r := 0) (As := []) (st := [.int v6]) Z (kX3_personCount Z.2.2.2.2.2.2.2.2.2.1 (E := fun q1 => E q1 s2 s3 s4) (hE1 s2 s3 s4) h) gX1_priceOf_X3_personCount rfl rfl rfl hdX3_personCount rfl rfl (by decide) (ew_oT (hE1 s2 s3 s4) _) rfl rfl rfl rfl dX1_priceOf_26 (fun r1 u2 h => ?_)
  refine ez_icmp_ge (pc := 29) (tgt := 69) Z dX1_priceOf_29 rfl (fun c3 => ?_) (fun c3 => ?_)
  · replace h := h.1 c3
    refine ez_lload (pc := 69) Z dX1_priceOf_69 4 rfl ?_
    refine ez_lconst (pc := 71) Z dX1_priceOf_71 el_0 ?_
    refine ez_lcmp (pc := 72) Z dX1_priceOf_72 ?_
    refine ez_if_ge (pc := 73) (tgt := 86) Z dX1_priceOf_73 rfl (fun c4 => ?_) (fun c4 => ?_)
    · replace h := h.1 c4
      refine ez_iconst (pc := 86) Z dX1_priceOf_86 ec_0 ?_
      exact ez_iret (pc := 87) Z hR () h rfl dX1_priceOf_87
    · replace h := h.2 c4
      refine ez_lload (pc := 76) Z dX1_priceOf_76 4 rfl ?_
      refine ez_lneg (pc := 78) Z dX1_priceOf_78 ?_
      refine ez_iload_n (pc := 79) Z dX1_priceOf_79 3 rfl rfl ?_
      refine ez_i2l (pc := 80) Z dX1_priceOf_80 ?_
      refine ez_lmul (pc := 81) Z dX1_priceOf_81 ?_
      refine ez_l2i (pc := 82) Z dX1_priceOf_82 ?_
      refine ez_goto (pc := 83) (tgt := 87) Z dX1_priceOf_83 rfl ?_
      exact ez_iret (pc := 87) Z hR () h rfl dX1_priceOf_87
  · replace h := h.2 c3
    refine ez_iload (pc := 32) Z dX1_priceOf_32 5 rfl ?_
    refine ez_iload_n (pc := 34) Z dX1_priceOf_34 1 rfl rfl ?_
    refine ez_icmp_eq (pc := 35) (tgt := 63) Z dX1_priceOf_35 rfl (fun c5 => ?_) (fun c5 => ?_)
    · replace h := h.1 c5
      exact tX1_priceOf_63 hE1 hE2 hE3 hE4 Z hR hR20 h
    · replace h := h.2 c5
      refine ez_aload_n (pc := 38) Z dX1_priceOf_38 0 rfl rfl ?_
      refine fX1_now (pc := 39) (M := s4) Z (hE4 s1 s2 s3) inX1_priceOf (List.mem_of_getElem? (i := 1) rfl) dX1_priceOf_39 ?_
      refine ez_iload (pc := 42) Z dX1_priceOf_42 5 rfl ?_
      refine ez_iload_n (pc := 44) Z dX1_priceOf_44 2 rfl rfl ?_
      refine ez_callVi (pc := 45) (r := 0) (As := [.int v6, .int v2]) (st := []) Z (kX3_isBound Z.2.2.2.2.2.2.2.2.2.1 (E := fun q1 => E q1 s2 s3 s4) (hE1 s2 s3 s4) h) gX1_priceOf_X3_isBound rfl rfl rfl hdX3_isBound rfl rfl (by decide) (ew_oT (hE1 s2 s3 s4) _) rfl rfl rfl rfl dX1_priceOf_45 (fun r6 u7 h => ?_)
      refine ez_if_eq (pc := 48) (tgt := 63) Z dX1_priceOf_48 rfl (fun c8 => ?_) (fun c8 => ?_)
      · replace h := h.1 c8
        exact tX1_priceOf_63 hE1 hE2 hE3 hE4 Z hR hR20 h
      · replace h := h.2 c8
        refine ez_lload (pc := 51) Z dX1_priceOf_51 4 rfl ?_
        refine ez_aload_n (pc := 53) Z dX1_priceOf_53 0 rfl rfl ?_
        refine ez_iload (pc := 54) Z dX1_priceOf_54 5 rfl ?_
        refine ez_iload_n (pc := 56) Z dX1_priceOf_56 2 rfl rfl ?_
        refine ez_callVl (pc := 57) (r := 47) (As := [.int v6, .int v2]) (st := [.long v4]) Z (kX1_thinkInThousandths Z.2.2.2.2.2.2.2.2.2.1 (E := E) hE1 hE2 hE3 hE4 h) gX1_priceOf_X1_thinkInThousandths rfl rfl rfl hdX1_thinkInThousandths rfl rfl (by decide) (ew_oX1 (hE4 s1 s2 s3) _) rfl rfl rfl rfl dX1_priceOf_57 (fun r9 u10 h => ?_)
        refine ez_ladd (pc := 60) Z dX1_priceOf_60 ?_
        refine ez_lstore (pc := 61) (L' := [(4, .long (v4 + r9)), (0, .ref (X.2.1 47)), (1, .int v1), (2, .int v2), (3, .int v3), (6, .int v6)]) Z dX1_priceOf_61 (by decide) rfl ?_
        refine ez_sub [(0, .ref (X.2.1 47)), (1, .int v1), (2, .int v2), (3, .int v3), (4, .long (v4 + r9)), (6, .int v6)] [1, 2, 3, 4, 0, 5] rfl ?_
        exact tX1_priceOf_63 hE1 hE2 hE3 hE4 Z hR hR20 h
set_option maxHeartbeats 4000000 in
set_option maxRecDepth 100000 in
theorem kX1_priceOf {X : ew_X} {l : Launch} (hX : ew_Ap X) {E : ew_M → ew_M → ew_M → ew_M → ew_S} (hE1 : ∀ (x2 x3 x4 : ew_M), ew_GE X 0 (ew_GT X.2.1 0) (fun M => E M x2 x3 x4)) (hE2 : ∀ (x1 x3 x4 : ew_M), ew_GE X 14 (ew_GT X.2.1 14) (fun M => E x1 M x3 x4)) (hE3 : ∀ (x1 x2 x4 : ew_M), ew_GE X 45 (ew_GR X.2.1) (fun M => E x1 x2 M x4)) (hE4 : ∀ (x1 x2 x3 : ew_M), ew_GE X 46 (ew_GX X.2.1) (fun M => E x1 x2 x3 M)) {Q : Int32 → Prop} {p1 : Int32} {p2 : Int32} {p3 : Int32} {s1 : ew_M} {s2 : ew_M} {s3 : ew_M} {s4 : ew_M} (h : wX1_priceOf Q p1 p2 p3 s1 s2 s3 s4) : Met l yX1_priceOf wsX1_priceOf ({ frames := 4, cells := 0, slots := 0, locals := 88 } : Room) (va_Pc [.ref (X.2.1 47), .int p1, .int p2, .int p3] (ew_wd X (E s1 s2 s3 s4))) (va_Qi (fun (r : Int32) (_ : Unit) => Q r) (fun (u : Unit) => ew_wd X ((fun (_ : Unit) => E s1 s2 s3 s4) u)) X.2.2.1) 0 0 X.2.2.1 := by
  refine ew_met (As := [.ref (X.2.1 47), .int p1, .int p2, .int p3]) (L0 := [(0, .ref (X.2.1 47)), (1, .int p1), (2, .int p2), (3, .int p3)]) X l hX (by decide) rfl rfl rfl rfl (fun C hl Z hR => ?_)
  subst hl
  refine ez_aload_n (pc := 0) Z dX1_priceOf_0 0 rfl rfl ?_
  refine ez_iload_n (pc := 1) Z dX1_priceOf_1 2 rfl rfl ?_
  refine ez_callVi (pc := 2) (r := 47) (As := [.int p2]) (st := []) Z (kX1_endersOf Z.2.2.2.2.2.2.2.2.2.1 (E := E) hE1 hE2 hE3 hE4 h) gX1_priceOf_X1_endersOf rfl rfl rfl hdX1_endersOf rfl rfl (by decide) (ew_oX1 (hE4 s1 s2 s3) _) rfl rfl rfl rfl dX1_priceOf_2 (fun r1 u2 h => ?_)
  refine ez_iload_n (pc := 5) Z dX1_priceOf_5 1 rfl rfl ?_
  refine ez_ishr (pc := 6) Z dX1_priceOf_6 ?_
  refine ez_iconst (pc := 7) Z dX1_priceOf_7 ec_1 ?_
  refine ez_iand (pc := 8) Z dX1_priceOf_8 ?_
  refine ez_if_ne (pc := 9) (tgt := 14) Z dX1_priceOf_9 rfl (fun c3 => ?_) (fun c3 => ?_)
  · replace h := h.1 c3
    refine ez_lconst (pc := 14) Z dX1_priceOf_14 el_0 ?_
    refine ez_lstore (pc := 15) (L' := [(4, .long (0 : Int64)), (0, .ref (X.2.1 47)), (1, .int p1), (2, .int p2), (3, .int p3)]) Z dX1_priceOf_15 (by decide) rfl ?_
    refine ez_iconst (pc := 17) Z dX1_priceOf_17 ec_0 ?_
    refine ez_istore (pc := 18) (L' := [(6, .int (0 : Int32)), (4, .long (0 : Int64)), (0, .ref (X.2.1 47)), (1, .int p1), (2, .int p2), (3, .int p3)]) Z dX1_priceOf_18 (by decide) rfl ?_
    refine ez_sub [(0, .ref (X.2.1 47)), (1, .int p1), (2, .int p2), (3, .int p3), (4, .long (0 : Int64)), (6, .int (0 : Int32))] [2, 3, 4, 5, 1, 0] rfl ?_
    exact ew_ind (P := fun (x : Int64 × Int32) => ew_W C X 7 (E s1 s2 s3 s4) 20 [(0, .ref (X.2.1 47)), (1, .int p1), (2, .int p2), (3, .int p3), (4, .long x.1), (6, .int x.2)] []) (fun R hR9 x h => tX1_priceOf_20 hE1 hE2 hE3 hE4 Z hR  hR9 h) h
  · replace h := h.2 c3
    refine ez_iconst (pc := 12) Z dX1_priceOf_12 ec_0 ?_
    exact ez_iret (pc := 13) Z hR () h rfl dX1_priceOf_13
theorem inX1_weighPower : ∀ w ∈ wsX10, w ∈ wsX1_weighPower := fun _ h => List.mem_cons_of_mem _ (List.mem_append_left _ (List.mem_append_left _ (List.mem_append_right _ (h))))
theorem hdX1_weighPower : yX1_weighPower.cls = RX1 ∧ yX1_weighPower.cls ≠ "java/lang/invoke/MethodHandle" ∧ yX1_weighPower.cls ≠ "java/lang/invoke/VarHandle" ∧ (parseMethodDescriptor yX1_weighPower.desc).map (fun d => d.parameters.length) = some 2 := by decide +kernel
def wX1_weighPower_40  (Q : ew_M → Prop) (v1 : Int32) (t0 : Int32) (s1 : ew_M) (s2 : ew_M) (s3 : ew_M) (s4 : ew_M) : Prop := (t0 = 0 → wX2_become (fun (m3 : ew_M) => Q m3) (0 : Int64) (1 : Int64) s3) ∧ (¬ t0 = 0 → wX3_unreadOf (fun (r4 : Int32) => wJ6_bitCount_0f7a4 (fun (r6 : Int32) => wX2_become (fun (m9 : ew_M) => Q m9) (1 : Int64) r6.toInt64 s3) r4) v1 s1)
def wX1_weighPower_39  (Q : ew_M → Prop) (v1 : Int32) (s1 : ew_M) (s2 : ew_M) (s3 : ew_M) (s4 : ew_M) : Prop := wX1_weighPower_40 Q v1 (0 : Int32) s1 s2 s3 s4
def wX1_weighPower (Q : ew_M → Prop) (p1 : Int32) (s1 : ew_M) (s2 : ew_M) (s3 : ew_M) (s4 : ew_M) : Prop := wX3_boundBy (fun (r1 : Int32) => wJ6_bitCount_0f7a4 (fun (r3 : Int32) => wX3_isInForce (fun (r5 : Int32) => (r5 = 0 → wX1_weighPower_39 Q p1 s1 s2 s3 s4) ∧ (¬ r5 = 0 → wX3_isInForceWith (fun (r8 : Int32) => (¬ r8 = 0 → wX1_weighPower_39 Q p1 s1 s2 s3 s4) ∧ (r8 = 0 → wX1_weighPower_40 Q p1 (1 : Int32) s1 s2 s3 s4)) p1 r3 s1)) p1 s1) r1) p1 s1
set_option maxHeartbeats 4000000 in
set_option maxRecDepth 100000 in
theorem tX1_weighPower_40 {C : ew_C} {X : ew_X} {E : ew_M → ew_M → ew_M → ew_M → ew_S} (hE1 : ∀ (x2 x3 x4 : ew_M), ew_GE X 0 (ew_GT X.2.1 0) (fun M => E M x2 x3 x4)) (hE2 : ∀ (x1 x3 x4 : ew_M), ew_GE X 14 (ew_GT X.2.1 14) (fun M => E x1 M x3 x4)) (hE3 : ∀ (x1 x2 x4 : ew_M), ew_GE X 45 (ew_GR X.2.1) (fun M => E x1 x2 M x4)) (hE4 : ∀ (x1 x2 x3 : ew_M), ew_GE X 46 (ew_GX X.2.1) (fun M => E x1 x2 x3 M)) (Z : ew_Z C X cX1_weighPower 5 RX1 wsX1_weighPower ({ frames := 3, cells := 0, slots := 0, locals := 65 } : Room) none) {Q : ew_M → Prop}  {v1 : Int32} {t0 : Int32} {s1 : ew_M} {s2 : ew_M} {s3 : ew_M} {s4 : ew_M} (hR : C.2.2.2.2.2.2.2.2.2.2 = MQ C.2.2.2.2.2.2.2.1 (va_Qv (fun (u : ew_M) => Q u) (fun (u : ew_M) => ew_wd X ((fun (u : ew_M) => E s1 s2 u s4) u)) X.2.2.1) C.2.2.2.2.2.2.1 C.2.2.2.2.1 0 0 X.2.2.1) (h : wX1_weighPower_40 Q v1 t0 s1 s2 s3 s4) : ew_W C X 5 (E s1 s2 s3 s4) 40 [(0, .ref (X.2.1 47)), (1, .int v1), (2, .ref (X.2.1 45))] [.int t0] := by
  refine ez_istore (pc := 40) (L' := [(4, .int t0), (0, .ref (X.2.1 47)), (1, .int v1), (2, .ref (X.2.1 45))]) Z dX1_weighPower_40 (by decide) rfl ?_
  refine ez_iload (pc := 42) Z dX1_weighPower_42 0 rfl ?_
  refine ez_if_eq (pc := 44) (tgt := 67) Z dX1_weighPower_44 rfl (fun c1 => ?_) (fun c1 => ?_)
  · replace h := h.1 c1
    refine ez_aload_n (pc := 67) Z dX1_weighPower_67 3 rfl rfl ?_
    refine ez_lconst (pc := 68) Z dX1_weighPower_68 el_0 ?_
    refine ez_lconst (pc := 69) Z dX1_weighPower_69 el_1 ?_
    refine ez_callVv (pc := 70) (r := 45) (As := [.long (0 : Int64), .long (1 : Int64)]) (st := []) Z (kX2_become Z.2.2.2.2.2.2.2.2.2.1 (E := fun q1 => E s1 s2 q1 s4) (hE3 s1 s2 s4) h) gX1_weighPower_X2_become rfl rfl rfl hdX2_become rfl rfl (by decide) (ew_oR (hE3 s1 s2 s4) _) rfl rfl rfl rfl dX1_weighPower_70 (fun m3 h => ?_)
    exact ez_vret (pc := 73) Z hR m3 h rfl dX1_weighPower_73
  · replace h := h.2 c1
    refine ez_aload_n (pc := 47) Z dX1_weighPower_47 3 rfl rfl ?_
    refine ez_lconst (pc := 48) Z dX1_weighPower_48 el_1 ?_
    refine ez_aload_n (pc := 49) Z dX1_weighPower_49 1 rfl rfl ?_
    refine fX1_now (pc := 50) (M := s4) Z (hE4 s1 s2 s3) inX1_weighPower (List.mem_of_getElem? (i := 1) rfl) dX1_weighPower_50 ?_
    refine ez_iload_n (pc := 53) Z dX1_weighPower_53 2 rfl rfl ?_
    refine ez_callVi (pc := 54) (r := 0) (As := [.int v1]) (st := [.long (1 : Int64), .ref (X.2.1 45)]) Z (kX3_unreadOf Z.2.2.2.2.2.2.2.2.2.1 (E := fun q1 => E q1 s2 s3 s4) (hE1 s2 s3 s4) h) gX1_weighPower_X3_unreadOf rfl rfl rfl hdX3_unreadOf rfl rfl (by decide) (ew_oT (hE1 s2 s3 s4) _) rfl rfl rfl rfl dX1_weighPower_54 (fun r4 u5 h => ?_)
    refine ez_callSi (pc := 57) (As := [.int r4]) (st := [.long (1 : Int64), .ref (X.2.1 45)]) Z (kJ6_bitCount_0f7a4 Z.2.2.2.2.2.2.2.2.2.1 (S := E s1 s2 s3 s4) h) gX1_weighPower_J6_bitCount_0f7a4 rfl rfl rfl hdJ6_bitCount_0f7a4 rfl rfl rfl rfl rfl dX1_weighPower_57 (fun r6 u7 h => ?_)
    refine ez_i2l (pc := 60) Z dX1_weighPower_60 ?_
    refine ez_callVv (pc := 61) (r := 45) (As := [.long (1 : Int64), .long r6.toInt64]) (st := []) Z (kX2_become Z.2.2.2.2.2.2.2.2.2.1 (E := fun q1 => E s1 s2 q1 s4) (hE3 s1 s2 s4) h) gX1_weighPower_X2_become rfl rfl rfl hdX2_become rfl rfl (by decide) (ew_oR (hE3 s1 s2 s4) _) rfl rfl rfl rfl dX1_weighPower_61 (fun m9 h => ?_)
    refine ez_goto (pc := 64) (tgt := 73) Z dX1_weighPower_64 rfl ?_
    exact ez_vret (pc := 73) Z hR m9 h rfl dX1_weighPower_73
set_option maxHeartbeats 4000000 in
set_option maxRecDepth 100000 in
theorem tX1_weighPower_39 {C : ew_C} {X : ew_X} {E : ew_M → ew_M → ew_M → ew_M → ew_S} (hE1 : ∀ (x2 x3 x4 : ew_M), ew_GE X 0 (ew_GT X.2.1 0) (fun M => E M x2 x3 x4)) (hE2 : ∀ (x1 x3 x4 : ew_M), ew_GE X 14 (ew_GT X.2.1 14) (fun M => E x1 M x3 x4)) (hE3 : ∀ (x1 x2 x4 : ew_M), ew_GE X 45 (ew_GR X.2.1) (fun M => E x1 x2 M x4)) (hE4 : ∀ (x1 x2 x3 : ew_M), ew_GE X 46 (ew_GX X.2.1) (fun M => E x1 x2 x3 M)) (Z : ew_Z C X cX1_weighPower 5 RX1 wsX1_weighPower ({ frames := 3, cells := 0, slots := 0, locals := 65 } : Room) none) {Q : ew_M → Prop}  {v1 : Int32} {s1 : ew_M} {s2 : ew_M} {s3 : ew_M} {s4 : ew_M} (hR : C.2.2.2.2.2.2.2.2.2.2 = MQ C.2.2.2.2.2.2.2.1 (va_Qv (fun (u : ew_M) => Q u) (fun (u : ew_M) => ew_wd X ((fun (u : ew_M) => E s1 s2 u s4) u)) X.2.2.1) C.2.2.2.2.2.2.1 C.2.2.2.2.1 0 0 X.2.2.1) (h : wX1_weighPower_39 Q v1 s1 s2 s3 s4) : ew_W C X 5 (E s1 s2 s3 s4) 39 [(0, .ref (X.2.1 47)), (1, .int v1), (2, .ref (X.2.1 45))] [] := by
  refine ez_iconst (pc := 39) Z dX1_weighPower_39 ec_0 ?_
  exact tX1_weighPower_40 hE1 hE2 hE3 hE4 Z hR  h
set_option maxHeartbeats 4000000 in
set_option maxRecDepth 100000 in
theorem kX1_weighPower {X : ew_X} {l : Launch} (hX : ew_Ap X) {E : ew_M → ew_M → ew_M → ew_M → ew_S} (hE1 : ∀ (x2 x3 x4 : ew_M), ew_GE X 0 (ew_GT X.2.1 0) (fun M => E M x2 x3 x4)) (hE2 : ∀ (x1 x3 x4 : ew_M), ew_GE X 14 (ew_GT X.2.1 14) (fun M => E x1 M x3 x4)) (hE3 : ∀ (x1 x2 x4 : ew_M), ew_GE X 45 (ew_GR X.2.1) (fun M => E x1 x2 M x4)) (hE4 : ∀ (x1 x2 x3 : ew_M), ew_GE X 46 (ew_GX X.2.1) (fun M => E x1 x2 x3 M)) {Q : ew_M → Prop} {p1 : Int32} {s1 : ew_M} {s2 : ew_M} {s3 : ew_M} {s4 : ew_M} (h : wX1_weighPower Q p1 s1 s2 s3 s4) : Met l yX1_weighPower wsX1_weighPower ({ frames := 3, cells := 0, slots := 0, locals := 65 } : Room) (va_Pc [.ref (X.2.1 47), .int p1, .ref (X.2.1 45)] (ew_wd X (E s1 s2 s3 s4))) (va_Qv (fun (u : ew_M) => Q u) (fun (u : ew_M) => ew_wd X ((fun (u : ew_M) => E s1 s2 u s4) u)) X.2.2.1) 0 0 X.2.2.1 := by
  refine ew_met (As := [.ref (X.2.1 47), .int p1, .ref (X.2.1 45)]) (L0 := [(0, .ref (X.2.1 47)), (1, .int p1), (2, .ref (X.2.1 45))]) X l hX (by decide) rfl rfl rfl rfl (fun C hl Z hR => ?_)
  subst hl
  refine ez_aload_n (pc := 0) Z dX1_weighPower_0 0 rfl rfl ?_
  refine fX1_now (pc := 1) (M := s4) Z (hE4 s1 s2 s3) inX1_weighPower (List.mem_of_getElem? (i := 1) rfl) dX1_weighPower_1 ?_
  refine ez_iload_n (pc := 4) Z dX1_weighPower_4 1 rfl rfl ?_
  refine ez_callVi (pc := 5) (r := 0) (As := [.int p1]) (st := []) Z (kX3_boundBy Z.2.2.2.2.2.2.2.2.2.1 (E := fun q1 => E q1 s2 s3 s4) (hE1 s2 s3 s4) h) gX1_weighPower_X3_boundBy rfl rfl rfl hdX3_boundBy rfl rfl (by decide) (ew_oT (hE1 s2 s3 s4) _) rfl rfl rfl rfl dX1_weighPower_5 (fun r1 u2 h => ?_)
  refine ez_callSi (pc := 8) (As := [.int r1]) (st := []) Z (kJ6_bitCount_0f7a4 Z.2.2.2.2.2.2.2.2.2.1 (S := E s1 s2 s3 s4) h) gX1_weighPower_J6_bitCount_0f7a4 rfl rfl rfl hdJ6_bitCount_0f7a4 rfl rfl rfl rfl rfl dX1_weighPower_8 (fun r3 u4 h => ?_)
  refine ez_istore_n (pc := 11) (L' := [(3, .int r3), (0, .ref (X.2.1 47)), (1, .int p1), (2, .ref (X.2.1 45))]) Z dX1_weighPower_11 rfl (by decide) rfl ?_
  refine ez_aload_n (pc := 12) Z dX1_weighPower_12 1 rfl rfl ?_
  refine fX1_now (pc := 13) (M := s4) Z (hE4 s1 s2 s3) inX1_weighPower (List.mem_of_getElem? (i := 1) rfl) dX1_weighPower_13 ?_
  refine ez_iload_n (pc := 16) Z dX1_weighPower_16 2 rfl rfl ?_
  refine ez_callVi (pc := 17) (r := 0) (As := [.int p1]) (st := []) Z (kX3_isInForce Z.2.2.2.2.2.2.2.2.2.1 (E := fun q1 => E q1 s2 s3 s4) (hE1 s2 s3 s4) h) gX1_weighPower_X3_isInForce rfl rfl rfl hdX3_isInForce rfl rfl (by decide) (ew_oT (hE1 s2 s3 s4) _) rfl rfl rfl rfl dX1_weighPower_17 (fun r5 u6 h => ?_)
  refine ez_if_eq (pc := 20) (tgt := 39) Z dX1_weighPower_20 rfl (fun c7 => ?_) (fun c7 => ?_)
  · replace h := h.1 c7
    refine ez_sub [(0, .ref (X.2.1 47)), (1, .int p1), (2, .ref (X.2.1 45))] [1, 2, 3] rfl ?_
    exact tX1_weighPower_39 hE1 hE2 hE3 hE4 Z hR  h
  · replace h := h.2 c7
    refine ez_aload_n (pc := 23) Z dX1_weighPower_23 1 rfl rfl ?_
    refine fX1_now (pc := 24) (M := s4) Z (hE4 s1 s2 s3) inX1_weighPower (List.mem_of_getElem? (i := 1) rfl) dX1_weighPower_24 ?_
    refine ez_iload_n (pc := 27) Z dX1_weighPower_27 2 rfl rfl ?_
    refine ez_iload_n (pc := 28) Z dX1_weighPower_28 0 rfl rfl ?_
    refine ez_callVi (pc := 29) (r := 0) (As := [.int p1, .int r3]) (st := []) Z (kX3_isInForceWith Z.2.2.2.2.2.2.2.2.2.1 (E := fun q1 => E q1 s2 s3 s4) (hE1 s2 s3 s4) h) gX1_weighPower_X3_isInForceWith rfl rfl rfl hdX3_isInForceWith rfl rfl (by decide) (ew_oT (hE1 s2 s3 s4) _) rfl rfl rfl rfl dX1_weighPower_29 (fun r8 u9 h => ?_)
    refine ez_if_ne (pc := 32) (tgt := 39) Z dX1_weighPower_32 rfl (fun c10 => ?_) (fun c10 => ?_)
    · replace h := h.1 c10
      refine ez_sub [(0, .ref (X.2.1 47)), (1, .int p1), (2, .ref (X.2.1 45))] [1, 2, 3] rfl ?_
      exact tX1_weighPower_39 hE1 hE2 hE3 hE4 Z hR  h
    · replace h := h.2 c10
      refine ez_iconst (pc := 35) Z dX1_weighPower_35 ec_1 ?_
      refine ez_goto (pc := 36) (tgt := 40) Z dX1_weighPower_36 rfl ?_
      refine ez_sub [(0, .ref (X.2.1 47)), (1, .int p1), (2, .ref (X.2.1 45))] [1, 2, 3] rfl ?_
      exact tX1_weighPower_40 hE1 hE2 hE3 hE4 Z hR  h
theorem hdX1_powerOf : yX1_powerOf.cls ≠ "java/lang/invoke/MethodHandle" ∧ yX1_powerOf.cls ≠ "java/lang/invoke/VarHandle" ∧ (parseMethodDescriptor yX1_powerOf.desc).map (fun d => d.parameters.length) = some 2 := by decide +kernel
def wX1_powerOf_5 (R5 : Int64 × Int32 → Prop) (Q : Int64 → Prop) (v0 : Int64) (v2 : Int32) (v3 : Int64) (v5 : Int32) : Prop := (v2 ≤ v5 → Q v3 ) ∧ (¬ v2 ≤ v5 → R5 (v3 * v0, v5 + (1 : Int32)))
def wX1_powerOf (Q : Int64 → Prop) (p1 : Int64) (p2 : Int32) : Prop := ew_lp (fun (R : Int64 × Int32 → Prop) (x : Int64 × Int32) => wX1_powerOf_5 R Q p1 p2 x.1 x.2) ((1 : Int64), (0 : Int32))
set_option maxHeartbeats 4000000 in
set_option maxRecDepth 100000 in
theorem tX1_powerOf_5 {C : ew_C} {X : ew_X} {S : ew_S} (Z : ew_Z C X cX1_powerOf 6 RX1 wsX1_powerOf ({ frames := 0, cells := 0, slots := 0, locals := 0 } : Room) (some .long)) {Q : Int64 → Prop} {R5 : Int64 × Int32 → Prop} {v0 : Int64} {v2 : Int32} {v3 : Int64} {v5 : Int32} (hR : C.2.2.2.2.2.2.2.2.2.2 = MQ C.2.2.2.2.2.2.2.1 (va_Ql (fun (r : Int64) (_ : Unit) => Q r) (fun (u : Unit) => ew_wd X ((fun (_ : Unit) => S) u)) X.2.2.1) C.2.2.2.2.2.2.1 C.2.2.2.2.1 0 0 X.2.2.1) (hR5 : ∀ x : Int64 × Int32, R5 x → ew_W C X 6 (S) 5 [(0, .long v0), (2, .int v2), (3, .long x.1), (5, .int x.2)] []) (h : wX1_powerOf_5 R5 Q v0 v2 v3 v5) : ew_W C X 6 (S) 5 [(0, .long v0), (2, .int v2), (3, .long v3), (5, .int v5)] [] := by
  refine ez_iload (pc := 5) Z dX1_powerOf_5 3 rfl ?_
  refine ez_iload_n (pc := 7) Z dX1_powerOf_7 1 rfl rfl ?_
  refine ez_icmp_ge (pc := 8) (tgt := 21) Z dX1_powerOf_8 rfl (fun c1 => ?_) (fun c1 => ?_)
  · replace h := h.1 c1
    refine ez_lload_n (pc := 21) Z dX1_powerOf_21 2 rfl rfl ?_
    exact ez_lret (pc := 22) Z hR () h rfl dX1_powerOf_22
  · replace h := h.2 c1
    refine ez_lload_n (pc := 11) Z dX1_powerOf_11 2 rfl rfl ?_
    refine ez_lload_n (pc := 12) Z dX1_powerOf_12 0 rfl rfl ?_
    refine ez_lmul (pc := 13) Z dX1_powerOf_13 ?_
    refine ez_lstore_n (pc := 14) (L' := [(3, .long (v3 * v0)), (0, .long v0), (2, .int v2), (5, .int v5)]) Z dX1_powerOf_14 rfl (by decide) rfl ?_
    refine ez_iinc (pc := 15) (L' := [(5, .int (v5 + (1 : Int32))), (3, .long (v3 * v0)), (0, .long v0), (2, .int v2)]) Z dX1_powerOf_15 3 rfl (ei_1 _) (by decide) rfl ?_
    refine ez_goto (pc := 18) (tgt := 5) Z dX1_powerOf_18 rfl ?_
    refine ez_sub [(0, .long v0), (2, .int v2), (3, .long (v3 * v0)), (5, .int (v5 + (1 : Int32)))] [2, 3, 1, 0] rfl ?_
    exact hR5 _ h
set_option maxHeartbeats 4000000 in
set_option maxRecDepth 100000 in
theorem kX1_powerOf {X : ew_X} {l : Launch} (hX : ew_Ap X) {S : ew_S} {Q : Int64 → Prop} {p1 : Int64} {p2 : Int32} (h : wX1_powerOf Q p1 p2) : Met l yX1_powerOf wsX1_powerOf ({ frames := 0, cells := 0, slots := 0, locals := 0 } : Room) (va_Pc [.long p1, .int p2] (ew_wd X (S))) (va_Ql (fun (r : Int64) (_ : Unit) => Q r) (fun (u : Unit) => ew_wd X ((fun (_ : Unit) => S) u)) X.2.2.1) 0 0 X.2.2.1 := by
  refine ew_met (As := [.long p1, .int p2]) (L0 := [(0, .long p1), (2, .int p2)]) X l hX (by decide) rfl rfl rfl rfl (fun C hl Z hR => ?_)
  subst hl
  refine ez_lconst (pc := 0) Z dX1_powerOf_0 el_1 ?_
  refine ez_lstore_n (pc := 1) (L' := [(3, .long (1 : Int64)), (0, .long p1), (2, .int p2)]) Z dX1_powerOf_1 rfl (by decide) rfl ?_
  refine ez_iconst (pc := 2) Z dX1_powerOf_2 ec_0 ?_
  refine ez_istore (pc := 3) (L' := [(5, .int (0 : Int32)), (3, .long (1 : Int64)), (0, .long p1), (2, .int p2)]) Z dX1_powerOf_3 (by decide) rfl ?_
  refine ez_sub [(0, .long p1), (2, .int p2), (3, .long (1 : Int64)), (5, .int (0 : Int32))] [2, 3, 1, 0] rfl ?_
  exact ew_ind (P := fun (x : Int64 × Int32) => ew_W C X 6 (S) 5 [(0, .long p1), (2, .int p2), (3, .long x.1), (5, .int x.2)] []) (fun R hR9 x h => tX1_powerOf_5  Z hR  hR9 h) h
theorem inX1_weighChance : ∀ w ∈ wsX10, w ∈ wsX1_weighChance := fun _ h => List.mem_cons_of_mem _ (List.mem_append_left _ (List.mem_append_left _ (List.mem_append_right _ (h))))
theorem hdX1_weighChance : yX1_weighChance.cls = RX1 ∧ yX1_weighChance.cls ≠ "java/lang/invoke/MethodHandle" ∧ yX1_weighChance.cls ≠ "java/lang/invoke/VarHandle" ∧ (parseMethodDescriptor yX1_weighChance.desc).map (fun d => d.parameters.length) = some 4 := by decide +kernel
def wX1_weighChance_107 (R55 : Int64 × Int64 × Int32 → Prop) (Q : ew_M → Prop) (v1 : Int32) (v5 : Int32) (v6 : Int32) (v7 : Int64) (v9 : Int64) (v11 : Int64) (v13 : Int64) (v15 : Int32) (s1 : ew_M) (s2 : ew_M) (s3 : ew_M) (s4 : ew_M) : Prop := (¬ ((v15 + (1 : Int32)).toInt64) = 0) ∧ (R55 (v11, (v13 * ((v6 - v15).toInt64)) / ((v15 + (1 : Int32)).toInt64), v15 + (1 : Int32)))
def wX1_weighChance_55 (R55 : Int64 × Int64 × Int32 → Prop) (Q : ew_M → Prop) (v1 : Int32) (v5 : Int32) (v6 : Int32) (v7 : Int64) (v9 : Int64) (v11 : Int64) (v13 : Int64) (v15 : Int32) (s1 : ew_M) (s2 : ew_M) (s3 : ew_M) (s4 : ew_M) : Prop := (v6 < v15 → wX1_powerOf (fun (r2 : Int64) => wX2_become (fun (m5 : ew_M) => Q m5) v11 r2 s3) v7 v6) ∧ (¬ v6 < v15 → wX3_isInForceWith (fun (r6 : Int32) => (r6 = 0 → wX1_weighChance_107 R55 Q v1 v5 v6 v7 v9 v11 v13 v15 s1 s2 s3 s4) ∧ (¬ r6 = 0 → wX1_powerOf (fun (r9 : Int64) => wX1_powerOf (fun (r11 : Int64) => wX1_weighChance_107 R55 Q v1 v5 v6 v7 v9 (v11 + ((v13 * r9) * r11)) v13 v15 s1 s2 s3 s4) v9 (v6 - v15)) (v7 - v9) v15)) v1 (v5 + v15) s1)
def wX1_weighChance (Q : ew_M → Prop) (p1 : Int32) (p2 : Int32) (p3 : Int32) (s1 : ew_M) (s2 : ew_M) (s3 : ew_M) (s4 : ew_M) : Prop := wX3_readersOf (fun (r1 : Int32) => wJ6_bitCount_0f7a4 (fun (r3 : Int32) => wX3_unreadOf (fun (r5 : Int32) => wJ6_bitCount_0f7a4 (fun (r7 : Int32) => wX1_powerOf (fun (r9 : Int64) => wX1_powerOf (fun (r11 : Int64) => ew_lp (fun (R : Int64 × Int64 × Int32 → Prop) (x : Int64 × Int64 × Int32) => wX1_weighChance_55 R Q p1 r3 r7 r9 r11 x.1 x.2.1 x.2.2 s1 s2 s3 s4) ((0 : Int64), (1 : Int64), (0 : Int32))) (((100 : Int32) - p2).toInt64) p3) (100 : Int64) p3) r5) p1 s1) r1) p1 s1
set_option maxHeartbeats 4000000 in
set_option maxRecDepth 100000 in
theorem tX1_weighChance_107 {C : ew_C} {X : ew_X} {E : ew_M → ew_M → ew_M → ew_M → ew_S} (hE1 : ∀ (x2 x3 x4 : ew_M), ew_GE X 0 (ew_GT X.2.1 0) (fun M => E M x2 x3 x4)) (hE2 : ∀ (x1 x3 x4 : ew_M), ew_GE X 14 (ew_GT X.2.1 14) (fun M => E x1 M x3 x4)) (hE3 : ∀ (x1 x2 x4 : ew_M), ew_GE X 45 (ew_GR X.2.1) (fun M => E x1 x2 M x4)) (hE4 : ∀ (x1 x2 x3 : ew_M), ew_GE X 46 (ew_GX X.2.1) (fun M => E x1 x2 x3 M)) (Z : ew_Z C X cX1_weighChance 16 RX1 wsX1_weighChance ({ frames := 2, cells := 0, slots := 0, locals := 56 } : Room) none) {Q : ew_M → Prop} {R55 : Int64 × Int64 × Int32 → Prop} {v1 : Int32} {v5 : Int32} {v6 : Int32} {v7 : Int64} {v9 : Int64} {v11 : Int64} {v13 : Int64} {v15 : Int32} {s1 : ew_M} {s2 : ew_M} {s3 : ew_M} {s4 : ew_M} (hR : C.2.2.2.2.2.2.2.2.2.2 = MQ C.2.2.2.2.2.2.2.1 (va_Qv (fun (u : ew_M) => Q u) (fun (u : ew_M) => ew_wd X ((fun (u : ew_M) => E s1 s2 u s4) u)) X.2.2.1) C.2.2.2.2.2.2.1 C.2.2.2.2.1 0 0 X.2.2.1) (hR55 : ∀ x : Int64 × Int64 × Int32, R55 x → ew_W C X 16 (E s1 s2 s3 s4) 55 [(0, .ref (X.2.1 47)), (1, .int v1), (4, .ref (X.2.1 45)), (5, .int v5), (6, .int v6), (7, .long v7), (9, .long v9), (11, .long x.1), (13, .long x.2.1), (15, .int x.2.2)] []) (h : wX1_weighChance_107 R55 Q v1 v5 v6 v7 v9 v11 v13 v15 s1 s2 s3 s4) : ew_W C X 16 (E s1 s2 s3 s4) 107 [(0, .ref (X.2.1 47)), (1, .int v1), (4, .ref (X.2.1 45)), (5, .int v5), (6, .int v6), (7, .long v7), (9, .long v9), (11, .long v11), (13, .long v13), (15, .int v15)] [] := by
  refine ez_lload (pc := 107) Z dX1_weighChance_107 8 rfl ?_
  refine ez_iload (pc := 109) Z dX1_weighChance_109 4 rfl ?_
  refine ez_iload (pc := 111) Z dX1_weighChance_111 9 rfl ?_
  refine ez_isub (pc := 113) Z dX1_weighChance_113 ?_
  refine ez_i2l (pc := 114) Z dX1_weighChance_114 ?_
  refine ez_lmul (pc := 115) Z dX1_weighChance_115 ?_
  refine ez_iload (pc := 116) Z dX1_weighChance_116 9 rfl ?_
  refine ez_iconst (pc := 118) Z dX1_weighChance_118 ec_1 ?_
  refine ez_iadd (pc := 119) Z dX1_weighChance_119 ?_
  refine ez_i2l (pc := 120) Z dX1_weighChance_120 ?_
  refine ez_ldiv (pc := 121) Z dX1_weighChance_121 h.1 ?_
  replace h := h.2
  refine ez_lstore (pc := 122) (L' := [(13, .long ((v13 * ((v6 - v15).toInt64)) / ((v15 + (1 : Int32)).toInt64))), (0, .ref (X.2.1 47)), (1, .int v1), (4, .ref (X.2.1 45)), (5, .int v5), (6, .int v6), (7, .long v7), (9, .long v9), (11, .long v11), (15, .int v15)]) Z dX1_weighChance_122 (by decide) rfl ?_
  refine ez_iinc (pc := 124) (L' := [(15, .int (v15 + (1 : Int32))), (13, .long ((v13 * ((v6 - v15).toInt64)) / ((v15 + (1 : Int32)).toInt64))), (0, .ref (X.2.1 47)), (1, .int v1), (4, .ref (X.2.1 45)), (5, .int v5), (6, .int v6), (7, .long v7), (9, .long v9), (11, .long v11)]) Z dX1_weighChance_124 9 rfl (ei_1 _) (by decide) rfl ?_
  refine ez_goto (pc := 127) (tgt := 55) Z dX1_weighChance_127 rfl ?_
  refine ez_sub [(0, .ref (X.2.1 47)), (1, .int v1), (4, .ref (X.2.1 45)), (5, .int v5), (6, .int v6), (7, .long v7), (9, .long v9), (11, .long v11), (13, .long ((v13 * ((v6 - v15).toInt64)) / ((v15 + (1 : Int32)).toInt64))), (15, .int (v15 + (1 : Int32)))] [2, 3, 4, 5, 6, 7, 8, 9, 1, 0] rfl ?_
  exact hR55 _ h
set_option maxHeartbeats 4000000 in
set_option maxRecDepth 100000 in
theorem tX1_weighChance_55 {C : ew_C} {X : ew_X} {E : ew_M → ew_M → ew_M → ew_M → ew_S} (hE1 : ∀ (x2 x3 x4 : ew_M), ew_GE X 0 (ew_GT X.2.1 0) (fun M => E M x2 x3 x4)) (hE2 : ∀ (x1 x3 x4 : ew_M), ew_GE X 14 (ew_GT X.2.1 14) (fun M => E x1 M x3 x4)) (hE3 : ∀ (x1 x2 x4 : ew_M), ew_GE X 45 (ew_GR X.2.1) (fun M => E x1 x2 M x4)) (hE4 : ∀ (x1 x2 x3 : ew_M), ew_GE X 46 (ew_GX X.2.1) (fun M => E x1 x2 x3 M)) (Z : ew_Z C X cX1_weighChance 16 RX1 wsX1_weighChance ({ frames := 2, cells := 0, slots := 0, locals := 56 } : Room) none) {Q : ew_M → Prop} {R55 : Int64 × Int64 × Int32 → Prop} {v1 : Int32} {v5 : Int32} {v6 : Int32} {v7 : Int64} {v9 : Int64} {v11 : Int64} {v13 : Int64} {v15 : Int32} {s1 : ew_M} {s2 : ew_M} {s3 : ew_M} {s4 : ew_M} (hR : C.2.2.2.2.2.2.2.2.2.2 = MQ C.2.2.2.2.2.2.2.1 (va_Qv (fun (u : ew_M) => Q u) (fun (u : ew_M) => ew_wd X ((fun (u : ew_M) => E s1 s2 u s4) u)) X.2.2.1) C.2.2.2.2.2.2.1 C.2.2.2.2.1 0 0 X.2.2.1) (hR55 : ∀ x : Int64 × Int64 × Int32, R55 x → ew_W C X 16 (E s1 s2 s3 s4) 55 [(0, .ref (X.2.1 47)), (1, .int v1), (4, .ref (X.2.1 45)), (5, .int v5), (6, .int v6), (7, .long v7), (9, .long v9), (11, .long x.1), (13, .long x.2.1), (15, .int x.2.2)] []) (h : wX1_weighChance_55 R55 Q v1 v5 v6 v7 v9 v11 v13 v15 s1 s2 s3 s4) : ew_W C X 16 (E s1 s2 s3 s4) 55 [(0, .ref (X.2.1 47)), (1, .int v1), (4, .ref (X.2.1 45)), (5, .int v5), (6, .int v6), (7, .long v7), (9, .long v9), (11, .long v11), (13, .long v13), (15, .int v15)] [] := by
  refine ez_iload (pc := 55) Z dX1_weighChance_55 9 rfl ?_
  refine ez_iload (pc := 57) Z dX1_weighChance_57 4 rfl ?_
  refine ez_icmp_gt (pc := 59) (tgt := 130) Z dX1_weighChance_59 rfl (fun c1 => ?_) (fun c1 => ?_)
  · replace h := h.1 c1
    refine ez_aload (pc := 130) Z dX1_weighChance_130 2 rfl ?_
    refine ez_lload (pc := 132) Z dX1_weighChance_132 7 rfl ?_
    refine ez_lload (pc := 134) Z dX1_weighChance_134 5 rfl ?_
    refine ez_iload (pc := 136) Z dX1_weighChance_136 4 rfl ?_
    refine ez_callSl (pc := 138) (As := [.long v7, .int v6]) (st := [.long v11, .ref (X.2.1 45)]) Z (kX1_powerOf Z.2.2.2.2.2.2.2.2.2.1 (S := E s1 s2 s3 s4) h) gX1_weighChance_X1_powerOf rfl rfl rfl hdX1_powerOf rfl rfl rfl rfl rfl dX1_weighChance_138 (fun r2 u3 h => ?_)
    refine ez_callVv (pc := 141) (r := 45) (As := [.long v11, .long r2]) (st := []) Z (kX2_become Z.2.2.2.2.2.2.2.2.2.1 (E := fun q1 => E s1 s2 q1 s4) (hE3 s1 s2 s4) h) gX1_weighChance_X2_become rfl rfl rfl hdX2_become rfl rfl (by decide) (ew_oR (hE3 s1 s2 s4) _) rfl rfl rfl rfl dX1_weighChance_141 (fun m5 h => ?_)
    exact ez_vret (pc := 144) Z hR m5 h rfl dX1_weighChance_144
  · replace h := h.2 c1
    refine ez_aload_n (pc := 62) Z dX1_weighChance_62 0 rfl rfl ?_
    refine fX1_now (pc := 63) (M := s4) Z (hE4 s1 s2 s3) inX1_weighChance (List.mem_of_getElem? (i := 1) rfl) dX1_weighChance_63 ?_
    refine ez_iload_n (pc := 66) Z dX1_weighChance_66 1 rfl rfl ?_
    refine ez_iload (pc := 67) Z dX1_weighChance_67 3 rfl ?_
    refine ez_iload (pc := 69) Z dX1_weighChance_69 9 rfl ?_
    refine ez_iadd (pc := 71) Z dX1_weighChance_71 ?_
    refine ez_callVi (pc := 72) (r := 0) (As := [.int v1, .int (v5 + v15)]) (st := []) Z (kX3_isInForceWith Z.2.2.2.2.2.2.2.2.2.1 (E := fun q1 => E q1 s2 s3 s4) (hE1 s2 s3 s4) h) gX1_weighChance_X3_isInForceWith rfl rfl rfl hdX3_isInForceWith rfl rfl (by decide) (ew_oT (hE1 s2 s3 s4) _) rfl rfl rfl rfl dX1_weighChance_72 (fun r6 u7 h => ?_)
    refine ez_if_eq (pc := 75) (tgt := 107) Z dX1_weighChance_75 rfl (fun c8 => ?_) (fun c8 => ?_)
    · replace h := h.1 c8
      exact tX1_weighChance_107 hE1 hE2 hE3 hE4 Z hR hR55 h
    · replace h := h.2 c8
      refine ez_lload (pc := 78) Z dX1_weighChance_78 7 rfl ?_
      refine ez_lload (pc := 80) Z dX1_weighChance_80 8 rfl ?_
      refine ez_lload (pc := 82) Z dX1_weighChance_82 5 rfl ?_
      refine ez_lload (pc := 84) Z dX1_weighChance_84 6 rfl ?_
      refine ez_lsub (pc := 86) Z dX1_weighChance_86 ?_
      refine ez_iload (pc := 87) Z dX1_weighChance_87 9 rfl ?_
      refine ez_callSl (pc := 89) (As := [.long (v7 - v9), .int v15]) (st := [.long v13, .long v11]) Z (kX1_powerOf Z.2.2.2.2.2.2.2.2.2.1 (S := E s1 s2 s3 s4) h) gX1_weighChance_X1_powerOf rfl rfl rfl hdX1_powerOf rfl rfl rfl rfl rfl dX1_weighChance_89 (fun r9 u10 h => ?_)
      refine ez_lmul (pc := 92) Z dX1_weighChance_92 ?_
      refine ez_lload (pc := 93) Z dX1_weighChance_93 6 rfl ?_
      refine ez_iload (pc := 95) Z dX1_weighChance_95 4 rfl ?_
      refine ez_iload (pc := 97) Z dX1_weighChance_97 9 rfl ?_
      refine ez_isub (pc := 99) Z dX1_weighChance_99 ?_
      refine ez_callSl (pc := 100) (As := [.long v9, .int (v6 - v15)]) (st := [.long (v13 * r9), .long v11]) Z (kX1_powerOf Z.2.2.2.2.2.2.2.2.2.1 (S := E s1 s2 s3 s4) h) gX1_weighChance_X1_powerOf rfl rfl rfl hdX1_powerOf rfl rfl rfl rfl rfl dX1_weighChance_100 (fun r11 u12 h => ?_)
      refine ez_lmul (pc := 103) Z dX1_weighChance_103 ?_
      refine ez_ladd (pc := 104) Z dX1_weighChance_104 ?_
      refine ez_lstore (pc := 105) (L' := [(11, .long (v11 + ((v13 * r9) * r11))), (0, .ref (X.2.1 47)), (1, .int v1), (4, .ref (X.2.1 45)), (5, .int v5), (6, .int v6), (7, .long v7), (9, .long v9), (13, .long v13), (15, .int v15)]) Z dX1_weighChance_105 (by decide) rfl ?_
      refine ez_sub [(0, .ref (X.2.1 47)), (1, .int v1), (4, .ref (X.2.1 45)), (5, .int v5), (6, .int v6), (7, .long v7), (9, .long v9), (11, .long (v11 + ((v13 * r9) * r11))), (13, .long v13), (15, .int v15)] [1, 2, 3, 4, 5, 6, 7, 0, 8, 9] rfl ?_
      exact tX1_weighChance_107 hE1 hE2 hE3 hE4 Z hR hR55 h
set_option maxHeartbeats 4000000 in
set_option maxRecDepth 100000 in
theorem kX1_weighChance {X : ew_X} {l : Launch} (hX : ew_Ap X) {E : ew_M → ew_M → ew_M → ew_M → ew_S} (hE1 : ∀ (x2 x3 x4 : ew_M), ew_GE X 0 (ew_GT X.2.1 0) (fun M => E M x2 x3 x4)) (hE2 : ∀ (x1 x3 x4 : ew_M), ew_GE X 14 (ew_GT X.2.1 14) (fun M => E x1 M x3 x4)) (hE3 : ∀ (x1 x2 x4 : ew_M), ew_GE X 45 (ew_GR X.2.1) (fun M => E x1 x2 M x4)) (hE4 : ∀ (x1 x2 x3 : ew_M), ew_GE X 46 (ew_GX X.2.1) (fun M => E x1 x2 x3 M)) {Q : ew_M → Prop} {p1 : Int32} {p2 : Int32} {p3 : Int32} {s1 : ew_M} {s2 : ew_M} {s3 : ew_M} {s4 : ew_M} (h : wX1_weighChance Q p1 p2 p3 s1 s2 s3 s4) : Met l yX1_weighChance wsX1_weighChance ({ frames := 2, cells := 0, slots := 0, locals := 56 } : Room) (va_Pc [.ref (X.2.1 47), .int p1, .int p2, .int p3, .ref (X.2.1 45)] (ew_wd X (E s1 s2 s3 s4))) (va_Qv (fun (u : ew_M) => Q u) (fun (u : ew_M) => ew_wd X ((fun (u : ew_M) => E s1 s2 u s4) u)) X.2.2.1) 0 0 X.2.2.1 := by
  refine ew_met (As := [.ref (X.2.1 47), .int p1, .int p2, .int p3, .ref (X.2.1 45)]) (L0 := [(0, .ref (X.2.1 47)), (1, .int p1), (2, .int p2), (3, .int p3), (4, .ref (X.2.1 45))]) X l hX (by decide) rfl rfl rfl rfl (fun C hl Z hR => ?_)
  subst hl
  refine ez_aload_n (pc := 0) Z dX1_weighChance_0 0 rfl rfl ?_
  refine fX1_now (pc := 1) (M := s4) Z (hE4 s1 s2 s3) inX1_weighChance (List.mem_of_getElem? (i := 1) rfl) dX1_weighChance_1 ?_
  refine ez_iload_n (pc := 4) Z dX1_weighChance_4 1 rfl rfl ?_
  refine ez_callVi (pc := 5) (r := 0) (As := [.int p1]) (st := []) Z (kX3_readersOf Z.2.2.2.2.2.2.2.2.2.1 (E := fun q1 => E q1 s2 s3 s4) (hE1 s2 s3 s4) h) gX1_weighChance_X3_readersOf rfl rfl rfl hdX3_readersOf rfl rfl (by decide) (ew_oT (hE1 s2 s3 s4) _) rfl rfl rfl rfl dX1_weighChance_5 (fun r1 u2 h => ?_)
  refine ez_callSi (pc := 8) (As := [.int r1]) (st := []) Z (kJ6_bitCount_0f7a4 Z.2.2.2.2.2.2.2.2.2.1 (S := E s1 s2 s3 s4) h) gX1_weighChance_J6_bitCount_0f7a4 rfl rfl rfl hdJ6_bitCount_0f7a4 rfl rfl rfl rfl rfl dX1_weighChance_8 (fun r3 u4 h => ?_)
  refine ez_istore (pc := 11) (L' := [(5, .int r3), (0, .ref (X.2.1 47)), (1, .int p1), (2, .int p2), (3, .int p3), (4, .ref (X.2.1 45))]) Z dX1_weighChance_11 (by decide) rfl ?_
  refine ez_aload_n (pc := 13) Z dX1_weighChance_13 1 rfl rfl ?_
  refine fX1_now (pc := 14) (M := s4) Z (hE4 s1 s2 s3) inX1_weighChance (List.mem_of_getElem? (i := 1) rfl) dX1_weighChance_14 ?_
  refine ez_iload_n (pc := 17) Z dX1_weighChance_17 2 rfl rfl ?_
  refine ez_callVi (pc := 18) (r := 0) (As := [.int p1]) (st := []) Z (kX3_unreadOf Z.2.2.2.2.2.2.2.2.2.1 (E := fun q1 => E q1 s2 s3 s4) (hE1 s2 s3 s4) h) gX1_weighChance_X3_unreadOf rfl rfl rfl hdX3_unreadOf rfl rfl (by decide) (ew_oT (hE1 s2 s3 s4) _) rfl rfl rfl rfl dX1_weighChance_18 (fun r5 u6 h => ?_)
  refine ez_callSi (pc := 21) (As := [.int r5]) (st := []) Z (kJ6_bitCount_0f7a4 Z.2.2.2.2.2.2.2.2.2.1 (S := E s1 s2 s3 s4) h) gX1_weighChance_J6_bitCount_0f7a4 rfl rfl rfl hdJ6_bitCount_0f7a4 rfl rfl rfl rfl rfl dX1_weighChance_21 (fun r7 u8 h => ?_)
  refine ez_istore (pc := 24) (L' := [(6, .int r7), (5, .int r3), (0, .ref (X.2.1 47)), (1, .int p1), (2, .int p2), (3, .int p3), (4, .ref (X.2.1 45))]) Z dX1_weighChance_24 (by decide) rfl ?_
  refine ez_ldc2 (pc := 26) Z (List.mem_of_getElem? (i := 2) rfl) dX1_weighChance_26 ?_
  refine ez_iload_n (pc := 29) Z dX1_weighChance_29 5 rfl rfl ?_
  refine ez_callSl (pc := 30) (As := [.long (100 : Int64), .int p3]) (st := []) Z (kX1_powerOf Z.2.2.2.2.2.2.2.2.2.1 (S := E s1 s2 s3 s4) h) gX1_weighChance_X1_powerOf rfl rfl rfl hdX1_powerOf rfl rfl rfl rfl rfl dX1_weighChance_30 (fun r9 u10 h => ?_)
  refine ez_lstore (pc := 33) (L' := [(7, .long r9), (6, .int r7), (5, .int r3), (0, .ref (X.2.1 47)), (1, .int p1), (2, .int p2), (3, .int p3), (4, .ref (X.2.1 45))]) Z dX1_weighChance_33 (by decide) rfl ?_
  refine ez_bipush (pc := 35) Z dX1_weighChance_35 eb_100 ?_
  refine ez_iload_n (pc := 37) Z dX1_weighChance_37 5 rfl rfl ?_
  refine ez_isub (pc := 38) Z dX1_weighChance_38 ?_
  refine ez_i2l (pc := 39) Z dX1_weighChance_39 ?_
  refine ez_iload_n (pc := 40) Z dX1_weighChance_40 6 rfl rfl ?_
  refine ez_callSl (pc := 41) (As := [.long (((100 : Int32) - p2).toInt64), .int p3]) (st := []) Z (kX1_powerOf Z.2.2.2.2.2.2.2.2.2.1 (S := E s1 s2 s3 s4) h) gX1_weighChance_X1_powerOf rfl rfl rfl hdX1_powerOf rfl rfl rfl rfl rfl dX1_weighChance_41 (fun r11 u12 h => ?_)
  refine ez_lstore (pc := 44) (L' := [(9, .long r11), (7, .long r9), (6, .int r7), (5, .int r3), (0, .ref (X.2.1 47)), (1, .int p1), (2, .int p2), (3, .int p3), (4, .ref (X.2.1 45))]) Z dX1_weighChance_44 (by decide) rfl ?_
  refine ez_lconst (pc := 46) Z dX1_weighChance_46 el_0 ?_
  refine ez_lstore (pc := 47) (L' := [(11, .long (0 : Int64)), (9, .long r11), (7, .long r9), (6, .int r7), (5, .int r3), (0, .ref (X.2.1 47)), (1, .int p1), (2, .int p2), (3, .int p3), (4, .ref (X.2.1 45))]) Z dX1_weighChance_47 (by decide) rfl ?_
  refine ez_lconst (pc := 49) Z dX1_weighChance_49 el_1 ?_
  refine ez_lstore (pc := 50) (L' := [(13, .long (1 : Int64)), (11, .long (0 : Int64)), (9, .long r11), (7, .long r9), (6, .int r7), (5, .int r3), (0, .ref (X.2.1 47)), (1, .int p1), (2, .int p2), (3, .int p3), (4, .ref (X.2.1 45))]) Z dX1_weighChance_50 (by decide) rfl ?_
  refine ez_iconst (pc := 52) Z dX1_weighChance_52 ec_0 ?_
  refine ez_istore (pc := 53) (L' := [(15, .int (0 : Int32)), (13, .long (1 : Int64)), (11, .long (0 : Int64)), (9, .long r11), (7, .long r9), (6, .int r7), (5, .int r3), (0, .ref (X.2.1 47)), (1, .int p1), (2, .int p2), (3, .int p3), (4, .ref (X.2.1 45))]) Z dX1_weighChance_53 (by decide) rfl ?_
  refine ez_sub [(0, .ref (X.2.1 47)), (1, .int p1), (4, .ref (X.2.1 45)), (5, .int r3), (6, .int r7), (7, .long r9), (9, .long r11), (11, .long (0 : Int64)), (13, .long (1 : Int64)), (15, .int (0 : Int32))] [7, 8, 11, 6, 5, 4, 3, 2, 1, 0] rfl ?_
  exact ew_ind (P := fun (x : Int64 × Int64 × Int32) => ew_W C X 16 (E s1 s2 s3 s4) 55 [(0, .ref (X.2.1 47)), (1, .int p1), (4, .ref (X.2.1 45)), (5, .int r3), (6, .int r7), (7, .long r9), (9, .long r11), (11, .long x.1), (13, .long x.2.1), (15, .int x.2.2)] []) (fun R hR9 x h => tX1_weighChance_55 hE1 hE2 hE3 hE4 Z hR  hR9 h) h
theorem inX1_lastsUnder : ∀ w ∈ wsX10, w ∈ wsX1_lastsUnder := fun _ h => List.mem_cons_of_mem _ (List.mem_append_left _ (List.mem_append_right _ (h)))
theorem hdX1_lastsUnder : yX1_lastsUnder.cls = RX1 ∧ yX1_lastsUnder.cls ≠ "java/lang/invoke/MethodHandle" ∧ yX1_lastsUnder.cls ≠ "java/lang/invoke/VarHandle" ∧ (parseMethodDescriptor yX1_lastsUnder.desc).map (fun d => d.parameters.length) = some 3 := by decide +kernel
def wX1_lastsUnder_26 (R26 : Int32 × Int32 × ew_M → Prop) (Q : Int32 → ew_M → Prop) (v1 : Int32) (v3 : Int32) (v4 : Int32) (v5 : Int32) (s1 : ew_M) (s2 : ew_M) (s3 : ew_M) (s4 : ew_M) : Prop := (v3 ≤ v5 → Q v4 s2) ∧ (¬ v3 ≤ v5 → wX3_passPaper (fun (r2 : Int32) (m3 : ew_M) => wX3_endWeek (fun (m5 : ew_M) => R26 (v4 + r2, v5 + (1 : Int32), m5)) m3) v1 (-1 : Int32) s2)
def wX1_lastsUnder (Q : Int32 → ew_M → Prop) (p1 : Int32) (p2 : Int32) (p3 : Int32) (s1 : ew_M) (s2 : ew_M) (s3 : ew_M) (s4 : ew_M) : Prop := wX3_become (fun (m2 : ew_M) => wX3_changeLaw (fun (r3 : Int32) (m4 : ew_M) => ew_lp (fun (R : Int32 × Int32 × ew_M → Prop) (x : Int32 × Int32 × ew_M) => wX1_lastsUnder_26 R Q p1 p3 x.1 x.2.1 s1 x.2.2 s3 s4) ((0 : Int32), (0 : Int32), m4)) p2 m2) s2 s1
set_option maxHeartbeats 4000000 in
set_option maxRecDepth 100000 in
theorem tX1_lastsUnder_26 {C : ew_C} {X : ew_X} {E : ew_M → ew_M → ew_M → ew_M → ew_S} (hE1 : ∀ (x2 x3 x4 : ew_M), ew_GE X 0 (ew_GT X.2.1 0) (fun M => E M x2 x3 x4)) (hE2 : ∀ (x1 x3 x4 : ew_M), ew_GE X 14 (ew_GT X.2.1 14) (fun M => E x1 M x3 x4)) (hE3 : ∀ (x1 x2 x4 : ew_M), ew_GE X 45 (ew_GR X.2.1) (fun M => E x1 x2 M x4)) (hE4 : ∀ (x1 x2 x3 : ew_M), ew_GE X 46 (ew_GX X.2.1) (fun M => E x1 x2 x3 M)) (Z : ew_Z C X cX1_lastsUnder 6 RX1 wsX1_lastsUnder ({ frames := 5, cells := 0, slots := 0, locals := 116 } : Room) (some .int)) {Q : Int32 → ew_M → Prop} {R26 : Int32 × Int32 × ew_M → Prop} {v1 : Int32} {v3 : Int32} {v4 : Int32} {v5 : Int32} {s1 : ew_M} {s2 : ew_M} {s3 : ew_M} {s4 : ew_M} (hR : C.2.2.2.2.2.2.2.2.2.2 = MQ C.2.2.2.2.2.2.2.1 (va_Qi (fun (r : Int32) (u : ew_M) => Q r u) (fun (u : ew_M) => ew_wd X ((fun (u : ew_M) => E s1 u s3 s4) u)) X.2.2.1) C.2.2.2.2.2.2.1 C.2.2.2.2.1 0 0 X.2.2.1) (hR26 : ∀ x : Int32 × Int32 × ew_M, R26 x → ew_W C X 6 (E s1 x.2.2 s3 s4) 26 [(0, .ref (X.2.1 47)), (1, .int v1), (3, .int v3), (4, .int x.1), (5, .int x.2.1)] []) (h : wX1_lastsUnder_26 R26 Q v1 v3 v4 v5 s1 s2 s3 s4) : ew_W C X 6 (E s1 s2 s3 s4) 26 [(0, .ref (X.2.1 47)), (1, .int v1), (3, .int v3), (4, .int v4), (5, .int v5)] [] := by
  refine ez_iload (pc := 26) Z dX1_lastsUnder_26 4 rfl ?_
  refine ez_iload_n (pc := 28) Z dX1_lastsUnder_28 2 rfl rfl ?_
  refine ez_icmp_ge (pc := 29) (tgt := 59) Z dX1_lastsUnder_29 rfl (fun c1 => ?_) (fun c1 => ?_)
  · replace h := h.1 c1
    refine ez_iload (pc := 59) Z dX1_lastsUnder_59 3 rfl ?_
    exact ez_iret (pc := 61) Z hR s2 h rfl dX1_lastsUnder_61
  · replace h := h.2 c1
    refine ez_iload (pc := 32) Z dX1_lastsUnder_32 3 rfl ?_
    refine ez_aload_n (pc := 34) Z dX1_lastsUnder_34 0 rfl rfl ?_
    refine fX1_then (pc := 35) (M := s4) Z (hE4 s1 s2 s3) inX1_lastsUnder (List.mem_of_getElem? (i := 1) rfl) dX1_lastsUnder_35 ?_
    refine ez_iload_n (pc := 38) Z dX1_lastsUnder_38 1 rfl rfl ?_
    refine ez_iconst (pc := 39) Z dX1_lastsUnder_39 ec_m1 ?_
    refine ez_callVi (pc := 40) (r := 14) (As := [.int v1, .int (-1 : Int32)]) (st := [.int v4]) Z (kX3_passPaper Z.2.2.2.2.2.2.2.2.2.1 (E := fun q1 => E s1 q1 s3 s4) (hE2 s1 s3 s4) h) gX1_lastsUnder_X3_passPaper rfl rfl rfl hdX3_passPaper rfl rfl (by decide) (ew_oT (hE2 s1 s3 s4) _) rfl rfl rfl rfl dX1_lastsUnder_40 (fun r2 m3 h => ?_)
    refine ez_iadd (pc := 43) Z dX1_lastsUnder_43 ?_
    refine ez_istore (pc := 44) (L' := [(4, .int (v4 + r2)), (0, .ref (X.2.1 47)), (1, .int v1), (3, .int v3), (5, .int v5)]) Z dX1_lastsUnder_44 (by decide) rfl ?_
    refine ez_aload_n (pc := 46) Z dX1_lastsUnder_46 1 rfl rfl ?_
    refine fX1_then (pc := 47) (M := s4) Z (hE4 s1 m3 s3) inX1_lastsUnder (List.mem_of_getElem? (i := 1) rfl) dX1_lastsUnder_47 ?_
    refine ez_callVv (pc := 50) (r := 14) (As := []) (st := []) Z (kX3_endWeek Z.2.2.2.2.2.2.2.2.2.1 (E := fun q1 => E s1 q1 s3 s4) (hE2 s1 s3 s4) h) gX1_lastsUnder_X3_endWeek rfl rfl rfl hdX3_endWeek rfl rfl (by decide) (ew_oT (hE2 s1 s3 s4) _) rfl rfl rfl rfl dX1_lastsUnder_50 (fun m5 h => ?_)
    refine ez_iinc (pc := 53) (L' := [(5, .int (v5 + (1 : Int32))), (4, .int (v4 + r2)), (0, .ref (X.2.1 47)), (1, .int v1), (3, .int v3)]) Z dX1_lastsUnder_53 4 rfl (ei_1 _) (by decide) rfl ?_
    refine ez_goto (pc := 56) (tgt := 26) Z dX1_lastsUnder_56 rfl ?_
    refine ez_sub [(0, .ref (X.2.1 47)), (1, .int v1), (3, .int v3), (4, .int (v4 + r2)), (5, .int (v5 + (1 : Int32)))] [2, 3, 4, 1, 0] rfl ?_
    exact hR26 _ h
set_option maxHeartbeats 4000000 in
set_option maxRecDepth 100000 in
theorem kX1_lastsUnder {X : ew_X} {l : Launch} (hX : ew_Ap X) {E : ew_M → ew_M → ew_M → ew_M → ew_S} (hE1 : ∀ (x2 x3 x4 : ew_M), ew_GE X 0 (ew_GT X.2.1 0) (fun M => E M x2 x3 x4)) (hE2 : ∀ (x1 x3 x4 : ew_M), ew_GE X 14 (ew_GT X.2.1 14) (fun M => E x1 M x3 x4)) (hE3 : ∀ (x1 x2 x4 : ew_M), ew_GE X 45 (ew_GR X.2.1) (fun M => E x1 x2 M x4)) (hE4 : ∀ (x1 x2 x3 : ew_M), ew_GE X 46 (ew_GX X.2.1) (fun M => E x1 x2 x3 M)) {Q : Int32 → ew_M → Prop} {p1 : Int32} {p2 : Int32} {p3 : Int32} {s1 : ew_M} {s2 : ew_M} {s3 : ew_M} {s4 : ew_M} (h : wX1_lastsUnder Q p1 p2 p3 s1 s2 s3 s4) : Met l yX1_lastsUnder wsX1_lastsUnder ({ frames := 5, cells := 0, slots := 0, locals := 116 } : Room) (va_Pc [.ref (X.2.1 47), .int p1, .int p2, .int p3] (ew_wd X (E s1 s2 s3 s4))) (va_Qi (fun (r : Int32) (u : ew_M) => Q r u) (fun (u : ew_M) => ew_wd X ((fun (u : ew_M) => E s1 u s3 s4) u)) X.2.2.1) 0 0 X.2.2.1 := by
  refine ew_met (As := [.ref (X.2.1 47), .int p1, .int p2, .int p3]) (L0 := [(0, .ref (X.2.1 47)), (1, .int p1), (2, .int p2), (3, .int p3)]) X l hX (by decide) rfl rfl rfl rfl (fun C hl Z hR => ?_)
  subst hl
  refine ez_aload_n (pc := 0) Z dX1_lastsUnder_0 0 rfl rfl ?_
  refine fX1_then (pc := 1) (M := s4) Z (hE4 s1 s2 s3) inX1_lastsUnder (List.mem_of_getElem? (i := 1) rfl) dX1_lastsUnder_1 ?_
  refine ez_aload_n (pc := 4) Z dX1_lastsUnder_4 0 rfl rfl ?_
  refine fX1_now (pc := 5) (M := s4) Z (hE4 s1 s2 s3) inX1_lastsUnder (List.mem_of_getElem? (i := 2) rfl) dX1_lastsUnder_5 ?_
  refine ez_callVv (pc := 8) (r := 14) (As := [.ref (X.2.1 0)]) (st := []) Z (kX3_become Z.2.2.2.2.2.2.2.2.2.1 (E := fun q1 q2 => E q2 q1 s3 s4) (fun q2 => hE2 q2 s3 s4) (fun q1 => hE1 q1 s3 s4) h) gX1_lastsUnder_X3_become rfl rfl rfl hdX3_become rfl rfl (by decide) (ew_oT (hE2 s1 s3 s4) _) rfl rfl rfl rfl dX1_lastsUnder_8 (fun m2 h => ?_)
  refine ez_aload_n (pc := 11) Z dX1_lastsUnder_11 0 rfl rfl ?_
  refine fX1_then (pc := 12) (M := s4) Z (hE4 s1 m2 s3) inX1_lastsUnder (List.mem_of_getElem? (i := 1) rfl) dX1_lastsUnder_12 ?_
  refine ez_iload_n (pc := 15) Z dX1_lastsUnder_15 2 rfl rfl ?_
  refine ez_callVi (pc := 16) (r := 14) (As := [.int p2]) (st := []) Z (kX3_changeLaw Z.2.2.2.2.2.2.2.2.2.1 (E := fun q1 => E s1 q1 s3 s4) (hE2 s1 s3 s4) h) gX1_lastsUnder_X3_changeLaw rfl rfl rfl hdX3_changeLaw rfl rfl (by decide) (ew_oT (hE2 s1 s3 s4) _) rfl rfl rfl rfl dX1_lastsUnder_16 (fun r3 m4 h => ?_)
  refine ez_pop (pc := 19) Z dX1_lastsUnder_19 rfl ?_
  refine ez_iconst (pc := 20) Z dX1_lastsUnder_20 ec_0 ?_
  refine ez_istore (pc := 21) (L' := [(4, .int (0 : Int32)), (0, .ref (X.2.1 47)), (1, .int p1), (2, .int p2), (3, .int p3)]) Z dX1_lastsUnder_21 (by decide) rfl ?_
  refine ez_iconst (pc := 23) Z dX1_lastsUnder_23 ec_0 ?_
  refine ez_istore (pc := 24) (L' := [(5, .int (0 : Int32)), (4, .int (0 : Int32)), (0, .ref (X.2.1 47)), (1, .int p1), (2, .int p2), (3, .int p3)]) Z dX1_lastsUnder_24 (by decide) rfl ?_
  refine ez_sub [(0, .ref (X.2.1 47)), (1, .int p1), (3, .int p3), (4, .int (0 : Int32)), (5, .int (0 : Int32))] [2, 3, 5, 1, 0] rfl ?_
  exact ew_ind (P := fun (x : Int32 × Int32 × ew_M) => ew_W C X 6 (E s1 x.2.2 s3 s4) 26 [(0, .ref (X.2.1 47)), (1, .int p1), (3, .int p3), (4, .int x.1), (5, .int x.2.1)] []) (fun R hR9 x h => tX1_lastsUnder_26 hE1 hE2 hE3 hE4 Z hR  hR9 h) h
theorem inX1_longestOf : ∀ w ∈ wsX10, w ∈ wsX1_longestOf := fun _ h => List.mem_cons_of_mem _ (List.mem_append_left _ (List.mem_append_right _ (h)))
theorem hdX1_longestOf : yX1_longestOf.cls = RX1 ∧ yX1_longestOf.cls ≠ "java/lang/invoke/MethodHandle" ∧ yX1_longestOf.cls ≠ "java/lang/invoke/VarHandle" ∧ (parseMethodDescriptor yX1_longestOf.desc).map (fun d => d.parameters.length) = some 1 := by decide +kernel
def wX1_longestOf_48 (R8 : Int32 × Int32 × Int32 × ew_M → Prop) (Q : Int32 → ew_M → Prop) (v1 : Int32) (v2 : Int32) (v3 : Int32) (v4 : Int32) (s1 : ew_M) (s2 : ew_M) (s3 : ew_M) (s4 : ew_M) : Prop := R8 (v2, v3, v4 + (1 : Int32), s2)
def wX1_longestOf_8 (R8 : Int32 × Int32 × Int32 × ew_M → Prop) (Q : Int32 → ew_M → Prop) (v1 : Int32) (v2 : Int32) (v3 : Int32) (v4 : Int32) (s1 : ew_M) (s2 : ew_M) (s3 : ew_M) (s4 : ew_M) : Prop := wX3_paperCount (fun (r1 : Int32) => (r1 ≤ v4 → Q v2 s2) ∧ (¬ r1 ≤ v4 → wX3_lawNow (fun (r4 : Int32) => wX1_lastsUnder (fun (r6 : Int32) (m7 : ew_M) => (r6 ≤ v3 → wX1_longestOf_48 R8 Q v1 v2 v3 v4 s1 m7 s3 s4) ∧ (¬ r6 ≤ v3 → wX1_longestOf_48 R8 Q v1 v4 r6 v4 s1 m7 s3 s4)) v4 r4 v1 s1 s2 s3 s4) s1)) s1
def wX1_longestOf (Q : Int32 → ew_M → Prop) (p1 : Int32) (s1 : ew_M) (s2 : ew_M) (s3 : ew_M) (s4 : ew_M) : Prop := ew_lp (fun (R : Int32 × Int32 × Int32 × ew_M → Prop) (x : Int32 × Int32 × Int32 × ew_M) => wX1_longestOf_8 R Q p1 x.1 x.2.1 x.2.2.1 s1 x.2.2.2 s3 s4) ((-9 : Int32), (-1 : Int32), (0 : Int32), s2)
set_option maxHeartbeats 4000000 in
set_option maxRecDepth 100000 in
theorem tX1_longestOf_48 {C : ew_C} {X : ew_X} {E : ew_M → ew_M → ew_M → ew_M → ew_S} (hE1 : ∀ (x2 x3 x4 : ew_M), ew_GE X 0 (ew_GT X.2.1 0) (fun M => E M x2 x3 x4)) (hE2 : ∀ (x1 x3 x4 : ew_M), ew_GE X 14 (ew_GT X.2.1 14) (fun M => E x1 M x3 x4)) (hE3 : ∀ (x1 x2 x4 : ew_M), ew_GE X 45 (ew_GR X.2.1) (fun M => E x1 x2 M x4)) (hE4 : ∀ (x1 x2 x3 : ew_M), ew_GE X 46 (ew_GX X.2.1) (fun M => E x1 x2 x3 M)) (Z : ew_Z C X cX1_longestOf 6 RX1 wsX1_longestOf ({ frames := 6, cells := 0, slots := 0, locals := 141 } : Room) (some .int)) {Q : Int32 → ew_M → Prop} {R8 : Int32 × Int32 × Int32 × ew_M → Prop} {v1 : Int32} {v2 : Int32} {v3 : Int32} {v4 : Int32} {s1 : ew_M} {s2 : ew_M} {s3 : ew_M} {s4 : ew_M} (hR : C.2.2.2.2.2.2.2.2.2.2 = MQ C.2.2.2.2.2.2.2.1 (va_Qi (fun (r : Int32) (u : ew_M) => Q r u) (fun (u : ew_M) => ew_wd X ((fun (u : ew_M) => E s1 u s3 s4) u)) X.2.2.1) C.2.2.2.2.2.2.1 C.2.2.2.2.1 0 0 X.2.2.1) (hR8 : ∀ x : Int32 × Int32 × Int32 × ew_M, R8 x → ew_W C X 6 (E s1 x.2.2.2 s3 s4) 8 [(0, .ref (X.2.1 47)), (1, .int v1), (2, .int x.1), (3, .int x.2.1), (4, .int x.2.2.1)] []) (h : wX1_longestOf_48 R8 Q v1 v2 v3 v4 s1 s2 s3 s4) : ew_W C X 6 (E s1 s2 s3 s4) 48 [(0, .ref (X.2.1 47)), (1, .int v1), (2, .int v2), (3, .int v3), (4, .int v4)] [] := by
  refine ez_iinc (pc := 48) (L' := [(4, .int (v4 + (1 : Int32))), (0, .ref (X.2.1 47)), (1, .int v1), (2, .int v2), (3, .int v3)]) Z dX1_longestOf_48 4 rfl (ei_1 _) (by decide) rfl ?_
  refine ez_goto (pc := 51) (tgt := 8) Z dX1_longestOf_51 rfl ?_
  refine ez_sub [(0, .ref (X.2.1 47)), (1, .int v1), (2, .int v2), (3, .int v3), (4, .int (v4 + (1 : Int32)))] [1, 2, 3, 4, 0] rfl ?_
  exact hR8 _ h
set_option maxHeartbeats 4000000 in
set_option maxRecDepth 100000 in
theorem tX1_longestOf_8 {C : ew_C} {X : ew_X} {E : ew_M → ew_M → ew_M → ew_M → ew_S} (hE1 : ∀ (x2 x3 x4 : ew_M), ew_GE X 0 (ew_GT X.2.1 0) (fun M => E M x2 x3 x4)) (hE2 : ∀ (x1 x3 x4 : ew_M), ew_GE X 14 (ew_GT X.2.1 14) (fun M => E x1 M x3 x4)) (hE3 : ∀ (x1 x2 x4 : ew_M), ew_GE X 45 (ew_GR X.2.1) (fun M => E x1 x2 M x4)) (hE4 : ∀ (x1 x2 x3 : ew_M), ew_GE X 46 (ew_GX X.2.1) (fun M => E x1 x2 x3 M)) (Z : ew_Z C X cX1_longestOf 6 RX1 wsX1_longestOf ({ frames := 6, cells := 0, slots := 0, locals := 141 } : Room) (some .int)) {Q : Int32 → ew_M → Prop} {R8 : Int32 × Int32 × Int32 × ew_M → Prop} {v1 : Int32} {v2 : Int32} {v3 : Int32} {v4 : Int32} {s1 : ew_M} {s2 : ew_M} {s3 : ew_M} {s4 : ew_M} (hR : C.2.2.2.2.2.2.2.2.2.2 = MQ C.2.2.2.2.2.2.2.1 (va_Qi (fun (r : Int32) (u : ew_M) => Q r u) (fun (u : ew_M) => ew_wd X ((fun (u : ew_M) => E s1 u s3 s4) u)) X.2.2.1) C.2.2.2.2.2.2.1 C.2.2.2.2.1 0 0 X.2.2.1) (hR8 : ∀ x : Int32 × Int32 × Int32 × ew_M, R8 x → ew_W C X 6 (E s1 x.2.2.2 s3 s4) 8 [(0, .ref (X.2.1 47)), (1, .int v1), (2, .int x.1), (3, .int x.2.1), (4, .int x.2.2.1)] []) (h : wX1_longestOf_8 R8 Q v1 v2 v3 v4 s1 s2 s3 s4) : ew_W C X 6 (E s1 s2 s3 s4) 8 [(0, .ref (X.2.1 47)), (1, .int v1), (2, .int v2), (3, .int v3), (4, .int v4)] [] := by
  refine ez_iload (pc := 8) Z dX1_longestOf_8 4 rfl ?_
  refine ez_aload_n (pc := 10) Z dX1_longestOf_10 0 rfl rfl ?_
  refine fX1_now (pc := 11) (M := s4) Z (hE4 s1 s2 s3) inX1_longestOf (List.mem_of_getElem? (i := 1) rfl) dX1_longestOf_11 ?_
  refine ez_callVi (pc := 14) (r := 0) (As := []) (st := [.int v4]) Z (kX3_paperCount Z.2.2.2.2.2.2.2.2.2.1 (E := fun q1 => E q1 s2 s3 s4) (hE1 s2 s3 s4) h) gX1_longestOf_X3_paperCount rfl rfl rfl hdX3_paperCount rfl rfl (by decide) (ew_oT (hE1 s2 s3 s4) _) rfl rfl rfl rfl dX1_longestOf_14 (fun r1 u2 h => ?_)
  refine ez_icmp_ge (pc := 17) (tgt := 54) Z dX1_longestOf_17 rfl (fun c3 => ?_) (fun c3 => ?_)
  · replace h := h.1 c3
    refine ez_iload_n (pc := 54) Z dX1_longestOf_54 2 rfl rfl ?_
    exact ez_iret (pc := 55) Z hR s2 h rfl dX1_longestOf_55
  · replace h := h.2 c3
    refine ez_aload_n (pc := 20) Z dX1_longestOf_20 0 rfl rfl ?_
    refine ez_iload (pc := 21) Z dX1_longestOf_21 4 rfl ?_
    refine ez_aload_n (pc := 23) Z dX1_longestOf_23 0 rfl rfl ?_
    refine fX1_now (pc := 24) (M := s4) Z (hE4 s1 s2 s3) inX1_longestOf (List.mem_of_getElem? (i := 1) rfl) dX1_longestOf_24 ?_
    refine ez_callVi (pc := 27) (r := 0) (As := []) (st := [.int v4, .ref (X.2.1 47)]) Z (kX3_lawNow Z.2.2.2.2.2.2.2.2.2.1 (E := fun q1 => E q1 s2 s3 s4) (hE1 s2 s3 s4) h) gX1_longestOf_X3_lawNow rfl rfl rfl hdX3_lawNow rfl rfl (by decide) (ew_oT (hE1 s2 s3 s4) _) rfl rfl rfl rfl dX1_longestOf_27 (fun r4 u5 h => ?_)
    refine ez_iload_n (pc := 30) Z dX1_longestOf_30 1 rfl rfl ?_
    refine ez_callVi (pc := 31) (r := 47) (As := [.int v4, .int r4, .int v1]) (st := []) Z (kX1_lastsUnder Z.2.2.2.2.2.2.2.2.2.1 (E := E) hE1 hE2 hE3 hE4 h) gX1_longestOf_X1_lastsUnder rfl rfl rfl hdX1_lastsUnder rfl rfl (by decide) (ew_oX1 (hE4 s1 s2 s3) _) rfl rfl rfl rfl dX1_longestOf_31 (fun r6 m7 h => ?_)
    refine ez_istore (pc := 34) (L' := [(5, .int r6), (0, .ref (X.2.1 47)), (1, .int v1), (2, .int v2), (3, .int v3), (4, .int v4)]) Z dX1_longestOf_34 (by decide) rfl ?_
    refine ez_iload (pc := 36) Z dX1_longestOf_36 0 rfl ?_
    refine ez_iload_n (pc := 38) Z dX1_longestOf_38 4 rfl rfl ?_
    refine ez_icmp_le (pc := 39) (tgt := 48) Z dX1_longestOf_39 rfl (fun c8 => ?_) (fun c8 => ?_)
    · replace h := h.1 c8
      refine ez_sub [(0, .ref (X.2.1 47)), (1, .int v1), (2, .int v2), (3, .int v3), (4, .int v4)] [1, 2, 3, 4, 5] rfl ?_
      exact tX1_longestOf_48 hE1 hE2 hE3 hE4 Z hR hR8 h
    · replace h := h.2 c8
      refine ez_iload (pc := 42) Z dX1_longestOf_42 5 rfl ?_
      refine ez_istore_n (pc := 44) (L' := [(2, .int v4), (5, .int r6), (0, .ref (X.2.1 47)), (1, .int v1), (3, .int v3), (4, .int v4)]) Z dX1_longestOf_44 rfl (by decide) rfl ?_
      refine ez_iload (pc := 45) Z dX1_longestOf_45 1 rfl ?_
      refine ez_istore_n (pc := 47) (L' := [(3, .int r6), (2, .int v4), (5, .int r6), (0, .ref (X.2.1 47)), (1, .int v1), (4, .int v4)]) Z dX1_longestOf_47 rfl (by decide) rfl ?_
      refine ez_sub [(0, .ref (X.2.1 47)), (1, .int v1), (2, .int v4), (3, .int r6), (4, .int v4)] [3, 4, 1, 0, 5] rfl ?_
      exact tX1_longestOf_48 hE1 hE2 hE3 hE4 Z hR hR8 h
set_option maxHeartbeats 4000000 in
set_option maxRecDepth 100000 in
theorem kX1_longestOf {X : ew_X} {l : Launch} (hX : ew_Ap X) {E : ew_M → ew_M → ew_M → ew_M → ew_S} (hE1 : ∀ (x2 x3 x4 : ew_M), ew_GE X 0 (ew_GT X.2.1 0) (fun M => E M x2 x3 x4)) (hE2 : ∀ (x1 x3 x4 : ew_M), ew_GE X 14 (ew_GT X.2.1 14) (fun M => E x1 M x3 x4)) (hE3 : ∀ (x1 x2 x4 : ew_M), ew_GE X 45 (ew_GR X.2.1) (fun M => E x1 x2 M x4)) (hE4 : ∀ (x1 x2 x3 : ew_M), ew_GE X 46 (ew_GX X.2.1) (fun M => E x1 x2 x3 M)) {Q : Int32 → ew_M → Prop} {p1 : Int32} {s1 : ew_M} {s2 : ew_M} {s3 : ew_M} {s4 : ew_M} (h : wX1_longestOf Q p1 s1 s2 s3 s4) : Met l yX1_longestOf wsX1_longestOf ({ frames := 6, cells := 0, slots := 0, locals := 141 } : Room) (va_Pc [.ref (X.2.1 47), .int p1] (ew_wd X (E s1 s2 s3 s4))) (va_Qi (fun (r : Int32) (u : ew_M) => Q r u) (fun (u : ew_M) => ew_wd X ((fun (u : ew_M) => E s1 u s3 s4) u)) X.2.2.1) 0 0 X.2.2.1 := by
  refine ew_met (As := [.ref (X.2.1 47), .int p1]) (L0 := [(0, .ref (X.2.1 47)), (1, .int p1)]) X l hX (by decide) rfl rfl rfl rfl (fun C hl Z hR => ?_)
  subst hl
  refine ez_bipush (pc := 0) Z dX1_longestOf_0 eb_m9 ?_
  refine ez_istore_n (pc := 2) (L' := [(2, .int (-9 : Int32)), (0, .ref (X.2.1 47)), (1, .int p1)]) Z dX1_longestOf_2 rfl (by decide) rfl ?_
  refine ez_iconst (pc := 3) Z dX1_longestOf_3 ec_m1 ?_
  refine ez_istore_n (pc := 4) (L' := [(3, .int (-1 : Int32)), (2, .int (-9 : Int32)), (0, .ref (X.2.1 47)), (1, .int p1)]) Z dX1_longestOf_4 rfl (by decide) rfl ?_
  refine ez_iconst (pc := 5) Z dX1_longestOf_5 ec_0 ?_
  refine ez_istore (pc := 6) (L' := [(4, .int (0 : Int32)), (3, .int (-1 : Int32)), (2, .int (-9 : Int32)), (0, .ref (X.2.1 47)), (1, .int p1)]) Z dX1_longestOf_6 (by decide) rfl ?_
  refine ez_sub [(0, .ref (X.2.1 47)), (1, .int p1), (2, .int (-9 : Int32)), (3, .int (-1 : Int32)), (4, .int (0 : Int32))] [3, 4, 2, 1, 0] rfl ?_
  exact ew_ind (P := fun (x : Int32 × Int32 × Int32 × ew_M) => ew_W C X 6 (E s1 x.2.2.2 s3 s4) 8 [(0, .ref (X.2.1 47)), (1, .int p1), (2, .int x.1), (3, .int x.2.1), (4, .int x.2.2.1)] []) (fun R hR9 x h => tX1_longestOf_8 hE1 hE2 hE3 hE4 Z hR  hR9 h) h
theorem inX1_drawBelow : ∀ w ∈ wsX10, w ∈ wsX1_drawBelow := fun _ h => List.mem_cons_of_mem _ (List.mem_append_right _ (h))
theorem hdX1_drawBelow : yX1_drawBelow.cls = RX1 ∧ yX1_drawBelow.cls ≠ "java/lang/invoke/MethodHandle" ∧ yX1_drawBelow.cls ≠ "java/lang/invoke/VarHandle" ∧ (parseMethodDescriptor yX1_drawBelow.desc).map (fun d => d.parameters.length) = some 1 := by decide +kernel
def wX1_drawBelow (Q : Int32 → ew_M → Prop) (p1 : Int32) (s1 : ew_M) (s2 : ew_M) (s3 : ew_M) (s4 : ew_M) : Prop := (p1 ≤ 0 → Q (0 : Int32) (ew_sI s4 1 (((s4.1 1) * (1664525 : Int32)) + (1013904223 : Int32)))) ∧ (¬ p1 ≤ 0 → (¬ p1 = 0) ∧ (∀ (y2 : Int32), y2 = (((((s4.1 1) * (1664525 : Int32)) + (1013904223 : Int32)) &&& (2147483647 : Int32)) / (256 : Int32)) - (((((s4.1 1) * (1664525 : Int32)) + (1013904223 : Int32)) &&& (2147483647 : Int32)) / (256 : Int32)) / p1 * p1 → Q y2 (ew_sI s4 1 (((s4.1 1) * (1664525 : Int32)) + (1013904223 : Int32)))))
set_option maxHeartbeats 4000000 in
set_option maxRecDepth 100000 in
theorem kX1_drawBelow {X : ew_X} {l : Launch} (hX : ew_Ap X) {E : ew_M → ew_M → ew_M → ew_M → ew_S} (hE1 : ∀ (x2 x3 x4 : ew_M), ew_GE X 0 (ew_GT X.2.1 0) (fun M => E M x2 x3 x4)) (hE2 : ∀ (x1 x3 x4 : ew_M), ew_GE X 14 (ew_GT X.2.1 14) (fun M => E x1 M x3 x4)) (hE3 : ∀ (x1 x2 x4 : ew_M), ew_GE X 45 (ew_GR X.2.1) (fun M => E x1 x2 M x4)) (hE4 : ∀ (x1 x2 x3 : ew_M), ew_GE X 46 (ew_GX X.2.1) (fun M => E x1 x2 x3 M)) {Q : Int32 → ew_M → Prop} {p1 : Int32} {s1 : ew_M} {s2 : ew_M} {s3 : ew_M} {s4 : ew_M} (h : wX1_drawBelow Q p1 s1 s2 s3 s4) : Met l yX1_drawBelow wsX1_drawBelow ({ frames := 0, cells := 0, slots := 0, locals := 0 } : Room) (va_Pc [.ref (X.2.1 47), .int p1] (ew_wd X (E s1 s2 s3 s4))) (va_Qi (fun (r : Int32) (u : ew_M) => Q r u) (fun (u : ew_M) => ew_wd X ((fun (u : ew_M) => E s1 s2 s3 u) u)) X.2.2.1) 0 0 X.2.2.1 := by
  refine ew_met (As := [.ref (X.2.1 47), .int p1]) (L0 := [(0, .ref (X.2.1 47)), (1, .int p1)]) X l hX (by decide) rfl rfl rfl rfl (fun C hl Z hR => ?_)
  subst hl
  refine ez_aload_n (pc := 0) Z dX1_drawBelow_0 0 rfl rfl ?_
  refine ez_aload_n (pc := 1) Z dX1_drawBelow_1 0 rfl rfl ?_
  refine fX1_seed (pc := 2) (v := s4.1 1) Z (hE4 s1 s2 s3) rfl inX1_drawBelow (List.mem_of_getElem? (i := 1) rfl) dX1_drawBelow_2 ?_
  refine ez_ldc (pc := 5) Z (List.mem_of_getElem? (i := 2) rfl) dX1_drawBelow_5 ?_
  refine ez_imul (pc := 7) Z dX1_drawBelow_7 ?_
  refine ez_ldc (pc := 8) Z (List.mem_of_getElem? (i := 3) rfl) dX1_drawBelow_8 ?_
  refine ez_iadd (pc := 10) Z dX1_drawBelow_10 ?_
  refine pX1_seed (pc := 11) (M := s4) (M' := ew_sI s4 1 (((s4.1 1) * (1664525 : Int32)) + (1013904223 : Int32))) Z (hE4 s1 s2 s3) rfl inX1_drawBelow (List.mem_of_getElem? (i := 1) rfl) dX1_drawBelow_11 ?_
  refine ez_iload_n (pc := 14) Z dX1_drawBelow_14 1 rfl rfl ?_
  refine ez_if_le (pc := 15) (tgt := 34) Z dX1_drawBelow_15 rfl (fun c1 => ?_) (fun c1 => ?_)
  · replace h := h.1 c1
    refine ez_iconst (pc := 34) Z dX1_drawBelow_34 ec_0 ?_
    exact ez_iret (pc := 35) Z hR (ew_sI s4 1 (((s4.1 1) * (1664525 : Int32)) + (1013904223 : Int32))) h rfl dX1_drawBelow_35
  · replace h := h.2 c1
    refine ez_aload_n (pc := 18) Z dX1_drawBelow_18 0 rfl rfl ?_
    refine fX1_seed (pc := 19) (v := ((s4.1 1) * (1664525 : Int32)) + (1013904223 : Int32)) Z (hE4 s1 s2 s3) rfl inX1_drawBelow (List.mem_of_getElem? (i := 1) rfl) dX1_drawBelow_19 ?_
    refine ez_ldc (pc := 22) Z (List.mem_of_getElem? (i := 4) rfl) dX1_drawBelow_22 ?_
    refine ez_iand (pc := 24) Z dX1_drawBelow_24 ?_
    refine ez_sipush (pc := 25) Z dX1_drawBelow_25 es_256 ?_
    refine ez_idiv (pc := 28) Z dX1_drawBelow_28 (by decide) ?_
    refine ez_iload_n (pc := 29) Z dX1_drawBelow_29 1 rfl rfl ?_
    refine ez_irem (pc := 30) Z dX1_drawBelow_30 h.1 ?_
    replace h := h.2
    refine ez_topi (fun y2 ey2 => ?_)
    replace h := h y2 ey2
    refine ez_goto (pc := 31) (tgt := 35) Z dX1_drawBelow_31 rfl ?_
    exact ez_iret (pc := 35) Z hR (ew_sI s4 1 (((s4.1 1) * (1664525 : Int32)) + (1013904223 : Int32))) h rfl dX1_drawBelow_35
theorem inX1_drawWeeks : ∀ w ∈ wsX10, w ∈ wsX1_drawWeeks := fun _ h => List.mem_cons_of_mem _ (List.mem_append_left _ (List.mem_append_right _ (h)))
theorem hdX1_drawWeeks : yX1_drawWeeks.cls = RX1 ∧ yX1_drawWeeks.cls ≠ "java/lang/invoke/MethodHandle" ∧ yX1_drawWeeks.cls ≠ "java/lang/invoke/VarHandle" ∧ (parseMethodDescriptor yX1_drawWeeks.desc).map (fun d => d.parameters.length) = some 2 := by decide +kernel
def wX1_drawWeeks_74 (R18 : Int32 × ew_M × ew_M → Prop) (Q : Int32 → ew_M → ew_M → Prop) (v1 : Int32) (v3 : Int32) (s1 : ew_M) (s2 : ew_M) (s3 : ew_M) (s4 : ew_M) : Prop := wX3_passWeek (fun (m2 : ew_M) => R18 (v3 + (1 : Int32), m2, s4)) s2
def wX1_drawWeeks_18 (R18 : Int32 × ew_M × ew_M → Prop) (Q : Int32 → ew_M → ew_M → Prop) (v1 : Int32) (v3 : Int32) (s1 : ew_M) (s2 : ew_M) (s3 : ew_M) (s4 : ew_M) : Prop := (v1 ≤ v3 → wX3_hadByAll (fun (r2 : Int32) => wX3_hadByAll (fun (r4 : Int32) => Q (r2 - r4) s2 s4) s1) s2) ∧ (¬ v1 ≤ v3 → wX3_personCount (fun (r6 : Int32) => wX1_drawBelow (fun (r8 : Int32) (m9 : ew_M) => wX3_paperCount (fun (r10 : Int32) => wX1_drawBelow (fun (r12 : Int32) (m13 : ew_M) => wX3_canRead (fun (r14 : Int32) => (r14 = 0 → wX1_drawWeeks_74 R18 Q v1 v3 s1 s2 s3 m13) ∧ (¬ r14 = 0 → wX3_markRead (fun (m18 : ew_M) => wX1_drawWeeks_74 R18 Q v1 v3 s1 m18 s3 m13) r8 r12 s2)) r8 r12 s2) r10 s1 s2 s3 m9) s2) r6 s1 s2 s3 s4) s2)
def wX1_drawWeeks (Q : Int32 → ew_M → ew_M → Prop) (p1 : Int32) (p2 : Int32) (s1 : ew_M) (s2 : ew_M) (s3 : ew_M) (s4 : ew_M) : Prop := wX3_become (fun (m2 : ew_M) => ew_lp (fun (R : Int32 × ew_M × ew_M → Prop) (x : Int32 × ew_M × ew_M) => wX1_drawWeeks_18 R Q p1 x.1 s1 x.2.1 s3 x.2.2) ((0 : Int32), m2, (ew_sI s4 1 p2))) s2 s1
set_option maxHeartbeats 4000000 in
set_option maxRecDepth 100000 in
theorem tX1_drawWeeks_74 {C : ew_C} {X : ew_X} {E : ew_M → ew_M → ew_M → ew_M → ew_S} (hE1 : ∀ (x2 x3 x4 : ew_M), ew_GE X 0 (ew_GT X.2.1 0) (fun M => E M x2 x3 x4)) (hE2 : ∀ (x1 x3 x4 : ew_M), ew_GE X 14 (ew_GT X.2.1 14) (fun M => E x1 M x3 x4)) (hE3 : ∀ (x1 x2 x4 : ew_M), ew_GE X 45 (ew_GR X.2.1) (fun M => E x1 x2 M x4)) (hE4 : ∀ (x1 x2 x3 : ew_M), ew_GE X 46 (ew_GX X.2.1) (fun M => E x1 x2 x3 M)) (Z : ew_Z C X cX1_drawWeeks 6 RX1 wsX1_drawWeeks ({ frames := 6, cells := 0, slots := 0, locals := 137 } : Room) (some .int)) {Q : Int32 → ew_M → ew_M → Prop} {R18 : Int32 × ew_M × ew_M → Prop} {v1 : Int32} {v3 : Int32} {s1 : ew_M} {s2 : ew_M} {s3 : ew_M} {s4 : ew_M} (hR : C.2.2.2.2.2.2.2.2.2.2 = MQ C.2.2.2.2.2.2.2.1 (va_Qi (fun (r : Int32) (u : ew_M × ew_M) => Q r u.1 u.2) (fun (u : ew_M × ew_M) => ew_wd X ((fun (u : ew_M × ew_M) => E s1 u.1 s3 u.2) u)) X.2.2.1) C.2.2.2.2.2.2.1 C.2.2.2.2.1 0 0 X.2.2.1) (hR18 : ∀ x : Int32 × ew_M × ew_M, R18 x → ew_W C X 6 (E s1 x.2.1 s3 x.2.2) 18 [(0, .ref (X.2.1 47)), (1, .int v1), (3, .int x.1)] []) (h : wX1_drawWeeks_74 R18 Q v1 v3 s1 s2 s3 s4) : ew_W C X 6 (E s1 s2 s3 s4) 74 [(0, .ref (X.2.1 47)), (1, .int v1), (3, .int v3)] [] := by
  refine ez_aload_n (pc := 74) Z dX1_drawWeeks_74 0 rfl rfl ?_
  refine fX1_then (pc := 75) (M := s4) Z (hE4 s1 s2 s3) inX1_drawWeeks (List.mem_of_getElem? (i := 1) rfl) dX1_drawWeeks_75 ?_
  refine ez_callVv (pc := 78) (r := 14) (As := []) (st := []) Z (kX3_passWeek Z.2.2.2.2.2.2.2.2.2.1 (E := fun q1 => E s1 q1 s3 s4) (hE2 s1 s3 s4) h) gX1_drawWeeks_X3_passWeek rfl rfl rfl hdX3_passWeek rfl rfl (by decide) (ew_oT (hE2 s1 s3 s4) _) rfl rfl rfl rfl dX1_drawWeeks_78 (fun m2 h => ?_)
  refine ez_iinc (pc := 81) (L' := [(3, .int (v3 + (1 : Int32))), (0, .ref (X.2.1 47)), (1, .int v1)]) Z dX1_drawWeeks_81 2 rfl (ei_1 _) (by decide) rfl ?_
  refine ez_goto (pc := 84) (tgt := 18) Z dX1_drawWeeks_84 rfl ?_
  refine ez_sub [(0, .ref (X.2.1 47)), (1, .int v1), (3, .int (v3 + (1 : Int32)))] [1, 2, 0] rfl ?_
  exact hR18 _ h
set_option maxHeartbeats 4000000 in
set_option maxRecDepth 100000 in
theorem tX1_drawWeeks_18 {C : ew_C} {X : ew_X} {E : ew_M → ew_M → ew_M → ew_M → ew_S} (hE1 : ∀ (x2 x3 x4 : ew_M), ew_GE X 0 (ew_GT X.2.1 0) (fun M => E M x2 x3 x4)) (hE2 : ∀ (x1 x3 x4 : ew_M), ew_GE X 14 (ew_GT X.2.1 14) (fun M => E x1 M x3 x4)) (hE3 : ∀ (x1 x2 x4 : ew_M), ew_GE X 45 (ew_GR X.2.1) (fun M => E x1 x2 M x4)) (hE4 : ∀ (x1 x2 x3 : ew_M), ew_GE X 46 (ew_GX X.2.1) (fun M => E x1 x2 x3 M)) (Z : ew_Z C X cX1_drawWeeks 6 RX1 wsX1_drawWeeks ({ frames := 6, cells := 0, slots := 0, locals := 137 } : Room) (some .int)) {Q : Int32 → ew_M → ew_M → Prop} {R18 : Int32 × ew_M × ew_M → Prop} {v1 : Int32} {v3 : Int32} {s1 : ew_M} {s2 : ew_M} {s3 : ew_M} {s4 : ew_M} (hR : C.2.2.2.2.2.2.2.2.2.2 = MQ C.2.2.2.2.2.2.2.1 (va_Qi (fun (r : Int32) (u : ew_M × ew_M) => Q r u.1 u.2) (fun (u : ew_M × ew_M) => ew_wd X ((fun (u : ew_M × ew_M) => E s1 u.1 s3 u.2) u)) X.2.2.1) C.2.2.2.2.2.2.1 C.2.2.2.2.1 0 0 X.2.2.1) (hR18 : ∀ x : Int32 × ew_M × ew_M, R18 x → ew_W C X 6 (E s1 x.2.1 s3 x.2.2) 18 [(0, .ref (X.2.1 47)), (1, .int v1), (3, .int x.1)] []) (h : wX1_drawWeeks_18 R18 Q v1 v3 s1 s2 s3 s4) : ew_W C X 6 (E s1 s2 s3 s4) 18 [(0, .ref (X.2.1 47)), (1, .int v1), (3, .int v3)] [] := by
  refine ez_iload_n (pc := 18) Z dX1_drawWeeks_18 2 rfl rfl ?_
  refine ez_iload_n (pc := 19) Z dX1_drawWeeks_19 1 rfl rfl ?_
  refine ez_icmp_ge (pc := 20) (tgt := 87) Z dX1_drawWeeks_20 rfl (fun c1 => ?_) (fun c1 => ?_)
  · replace h := h.1 c1
    refine ez_aload_n (pc := 87) Z dX1_drawWeeks_87 0 rfl rfl ?_
    refine fX1_then (pc := 88) (M := s4) Z (hE4 s1 s2 s3) inX1_drawWeeks (List.mem_of_getElem? (i := 1) rfl) dX1_drawWeeks_88 ?_
    refine ez_callVi (pc := 91) (r := 14) (As := []) (st := []) Z (kX3_hadByAll Z.2.2.2.2.2.2.2.2.2.1 (E := fun q1 => E s1 q1 s3 s4) (hE2 s1 s3 s4) h) gX1_drawWeeks_X3_hadByAll rfl rfl rfl hdX3_hadByAll rfl rfl (by decide) (ew_oT (hE2 s1 s3 s4) _) rfl rfl rfl rfl dX1_drawWeeks_91 (fun r2 u3 h => ?_)
    refine ez_aload_n (pc := 94) Z dX1_drawWeeks_94 0 rfl rfl ?_
    refine fX1_now (pc := 95) (M := s4) Z (hE4 s1 s2 s3) inX1_drawWeeks (List.mem_of_getElem? (i := 2) rfl) dX1_drawWeeks_95 ?_
    refine ez_callVi (pc := 98) (r := 0) (As := []) (st := [.int r2]) Z (kX3_hadByAll Z.2.2.2.2.2.2.2.2.2.1 (E := fun q1 => E q1 s2 s3 s4) (hE1 s2 s3 s4) h) gX1_drawWeeks_X3_hadByAll rfl rfl rfl hdX3_hadByAll rfl rfl (by decide) (ew_oT (hE1 s2 s3 s4) _) rfl rfl rfl rfl dX1_drawWeeks_98 (fun r4 u5 h => ?_)
    refine ez_isub (pc := 101) Z dX1_drawWeeks_101 ?_
    exact ez_iret (pc := 102) Z hR (s2, s4) h rfl dX1_drawWeeks_102
  · replace h := h.2 c1
    refine ez_aload_n (pc := 23) Z dX1_drawWeeks_23 0 rfl rfl ?_
    refine ez_aload_n (pc := 24) Z dX1_drawWeeks_24 0 rfl rfl ?_
    refine fX1_then (pc := 25) (M := s4) Z (hE4 s1 s2 s3) inX1_drawWeeks (List.mem_of_getElem? (i := 1) rfl) dX1_drawWeeks_25 ?_
    refine ez_callVi (pc := 28) (r := 14) (As := []) (st := [.ref (X.2.1 47)]) Z (kX3_personCount Z.2.2.2.2.2.2.2.2.2.1 (E := fun q1 => E s1 q1 s3 s4) (hE2 s1 s3 s4) h) gX1_drawWeeks_X3_personCount rfl rfl rfl hdX3_personCount rfl rfl (by decide) (ew_oT (hE2 s1 s3 s4) _) rfl rfl rfl rfl dX1_drawWeeks_28 (fun r6 u7 h => ?_)
    refine ez_callVi (pc := 31) (r := 47) (As := [.int r6]) (st := []) Z (kX1_drawBelow Z.2.2.2.2.2.2.2.2.2.1 (E := E) hE1 hE2 hE3 hE4 h) gX1_drawWeeks_X1_drawBelow rfl rfl rfl hdX1_drawBelow rfl rfl (by decide) (ew_oX1 (hE4 s1 s2 s3) _) rfl rfl rfl rfl dX1_drawWeeks_31 (fun r8 m9 h => ?_)
    refine ez_istore (pc := 34) (L' := [(4, .int r8), (0, .ref (X.2.1 47)), (1, .int v1), (3, .int v3)]) Z dX1_drawWeeks_34 (by decide) rfl ?_
    refine ez_aload_n (pc := 36) Z dX1_drawWeeks_36 1 rfl rfl ?_
    refine ez_aload_n (pc := 37) Z dX1_drawWeeks_37 1 rfl rfl ?_
    refine fX1_then (pc := 38) (M := m9) Z (hE4 s1 s2 s3) inX1_drawWeeks (List.mem_of_getElem? (i := 1) rfl) dX1_drawWeeks_38 ?_
    refine ez_callVi (pc := 41) (r := 14) (As := []) (st := [.ref (X.2.1 47)]) Z (kX3_paperCount Z.2.2.2.2.2.2.2.2.2.1 (E := fun q1 => E s1 q1 s3 m9) (hE2 s1 s3 m9) h) gX1_drawWeeks_X3_paperCount rfl rfl rfl hdX3_paperCount rfl rfl (by decide) (ew_oT (hE2 s1 s3 m9) _) rfl rfl rfl rfl dX1_drawWeeks_41 (fun r10 u11 h => ?_)
    refine ez_callVi (pc := 44) (r := 47) (As := [.int r10]) (st := []) Z (kX1_drawBelow Z.2.2.2.2.2.2.2.2.2.1 (E := E) hE1 hE2 hE3 hE4 h) gX1_drawWeeks_X1_drawBelow rfl rfl rfl hdX1_drawBelow rfl rfl (by decide) (ew_oX1 (hE4 s1 s2 s3) _) rfl rfl rfl rfl dX1_drawWeeks_44 (fun r12 m13 h => ?_)
    refine ez_istore (pc := 47) (L' := [(5, .int r12), (4, .int r8), (0, .ref (X.2.1 47)), (1, .int v1), (3, .int v3)]) Z dX1_drawWeeks_47 (by decide) rfl ?_
    refine ez_aload_n (pc := 49) Z dX1_drawWeeks_49 2 rfl rfl ?_
    refine fX1_then (pc := 50) (M := m13) Z (hE4 s1 s2 s3) inX1_drawWeeks (List.mem_of_getElem? (i := 1) rfl) dX1_drawWeeks_50 ?_
    refine ez_iload (pc := 53) Z dX1_drawWeeks_53 1 rfl ?_
    refine ez_iload (pc := 55) Z dX1_drawWeeks_55 0 rfl ?_
    refine ez_callVi (pc := 57) (r := 14) (As := [.int r8, .int r12]) (st := []) Z (kX3_canRead Z.2.2.2.2.2.2.2.2.2.1 (E := fun q1 => E s1 q1 s3 m13) (hE2 s1 s3 m13) h) gX1_drawWeeks_X3_canRead rfl rfl rfl hdX3_canRead rfl rfl (by decide) (ew_oT (hE2 s1 s3 m13) _) rfl rfl rfl rfl dX1_drawWeeks_57 (fun r14 u15 h => ?_)
    refine ez_if_eq (pc := 60) (tgt := 74) Z dX1_drawWeeks_60 rfl (fun c16 => ?_) (fun c16 => ?_)
    · replace h := h.1 c16
      refine ez_sub [(0, .ref (X.2.1 47)), (1, .int v1), (3, .int v3)] [2, 3, 4] rfl ?_
      exact tX1_drawWeeks_74 hE1 hE2 hE3 hE4 Z hR hR18 h
    · replace h := h.2 c16
      refine ez_aload_n (pc := 63) Z dX1_drawWeeks_63 2 rfl rfl ?_
      refine fX1_then (pc := 64) (M := m13) Z (hE4 s1 s2 s3) inX1_drawWeeks (List.mem_of_getElem? (i := 1) rfl) dX1_drawWeeks_64 ?_
      refine ez_iload (pc := 67) Z dX1_drawWeeks_67 1 rfl ?_
      refine ez_iload (pc := 69) Z dX1_drawWeeks_69 0 rfl ?_
      refine ez_callVv (pc := 71) (r := 14) (As := [.int r8, .int r12]) (st := []) Z (kX3_markRead Z.2.2.2.2.2.2.2.2.2.1 (E := fun q1 => E s1 q1 s3 m13) (hE2 s1 s3 m13) h) gX1_drawWeeks_X3_markRead rfl rfl rfl hdX3_markRead rfl rfl (by decide) (ew_oT (hE2 s1 s3 m13) _) rfl rfl rfl rfl dX1_drawWeeks_71 (fun m18 h => ?_)
      refine ez_sub [(0, .ref (X.2.1 47)), (1, .int v1), (3, .int v3)] [2, 3, 4] rfl ?_
      exact tX1_drawWeeks_74 hE1 hE2 hE3 hE4 Z hR hR18 h
set_option maxHeartbeats 4000000 in
set_option maxRecDepth 100000 in
theorem kX1_drawWeeks {X : ew_X} {l : Launch} (hX : ew_Ap X) {E : ew_M → ew_M → ew_M → ew_M → ew_S} (hE1 : ∀ (x2 x3 x4 : ew_M), ew_GE X 0 (ew_GT X.2.1 0) (fun M => E M x2 x3 x4)) (hE2 : ∀ (x1 x3 x4 : ew_M), ew_GE X 14 (ew_GT X.2.1 14) (fun M => E x1 M x3 x4)) (hE3 : ∀ (x1 x2 x4 : ew_M), ew_GE X 45 (ew_GR X.2.1) (fun M => E x1 x2 M x4)) (hE4 : ∀ (x1 x2 x3 : ew_M), ew_GE X 46 (ew_GX X.2.1) (fun M => E x1 x2 x3 M)) {Q : Int32 → ew_M → ew_M → Prop} {p1 : Int32} {p2 : Int32} {s1 : ew_M} {s2 : ew_M} {s3 : ew_M} {s4 : ew_M} (h : wX1_drawWeeks Q p1 p2 s1 s2 s3 s4) : Met l yX1_drawWeeks wsX1_drawWeeks ({ frames := 6, cells := 0, slots := 0, locals := 137 } : Room) (va_Pc [.ref (X.2.1 47), .int p1, .int p2] (ew_wd X (E s1 s2 s3 s4))) (va_Qi (fun (r : Int32) (u : ew_M × ew_M) => Q r u.1 u.2) (fun (u : ew_M × ew_M) => ew_wd X ((fun (u : ew_M × ew_M) => E s1 u.1 s3 u.2) u)) X.2.2.1) 0 0 X.2.2.1 := by
  refine ew_met (As := [.ref (X.2.1 47), .int p1, .int p2]) (L0 := [(0, .ref (X.2.1 47)), (1, .int p1), (2, .int p2)]) X l hX (by decide) rfl rfl rfl rfl (fun C hl Z hR => ?_)
  subst hl
  refine ez_aload_n (pc := 0) Z dX1_drawWeeks_0 0 rfl rfl ?_
  refine fX1_then (pc := 1) (M := s4) Z (hE4 s1 s2 s3) inX1_drawWeeks (List.mem_of_getElem? (i := 1) rfl) dX1_drawWeeks_1 ?_
  refine ez_aload_n (pc := 4) Z dX1_drawWeeks_4 0 rfl rfl ?_
  refine fX1_now (pc := 5) (M := s4) Z (hE4 s1 s2 s3) inX1_drawWeeks (List.mem_of_getElem? (i := 2) rfl) dX1_drawWeeks_5 ?_
  refine ez_callVv (pc := 8) (r := 14) (As := [.ref (X.2.1 0)]) (st := []) Z (kX3_become Z.2.2.2.2.2.2.2.2.2.1 (E := fun q1 q2 => E q2 q1 s3 s4) (fun q2 => hE2 q2 s3 s4) (fun q1 => hE1 q1 s3 s4) h) gX1_drawWeeks_X3_become rfl rfl rfl hdX3_become rfl rfl (by decide) (ew_oT (hE2 s1 s3 s4) _) rfl rfl rfl rfl dX1_drawWeeks_8 (fun m2 h => ?_)
  refine ez_aload_n (pc := 11) Z dX1_drawWeeks_11 0 rfl rfl ?_
  refine ez_iload_n (pc := 12) Z dX1_drawWeeks_12 2 rfl rfl ?_
  refine pX1_seed (pc := 13) (M := s4) (M' := ew_sI s4 1 p2) Z (hE4 s1 m2 s3) rfl inX1_drawWeeks (List.mem_of_getElem? (i := 3) rfl) dX1_drawWeeks_13 ?_
  refine ez_iconst (pc := 16) Z dX1_drawWeeks_16 ec_0 ?_
  refine ez_istore_n (pc := 17) (L' := [(3, .int (0 : Int32)), (0, .ref (X.2.1 47)), (1, .int p1), (2, .int p2)]) Z dX1_drawWeeks_17 rfl (by decide) rfl ?_
  refine ez_sub [(0, .ref (X.2.1 47)), (1, .int p1), (3, .int (0 : Int32))] [1, 2, 0] rfl ?_
  exact ew_ind (P := fun (x : Int32 × ew_M × ew_M) => ew_W C X 6 (E s1 x.2.1 s3 x.2.2) 18 [(0, .ref (X.2.1 47)), (1, .int p1), (3, .int x.1)] []) (fun R hR9 x h => tX1_drawWeeks_18 hE1 hE2 hE3 hE4 Z hR  hR9 h) h
theorem inX1_firstThatCanNot : ∀ w ∈ wsX10, w ∈ wsX1_firstThatCanNot := fun _ h => List.mem_cons_of_mem _ (List.mem_append_left _ (List.mem_append_right _ (h)))
theorem hdX1_firstThatCanNot : yX1_firstThatCanNot.cls = RX1 ∧ yX1_firstThatCanNot.cls ≠ "java/lang/invoke/MethodHandle" ∧ yX1_firstThatCanNot.cls ≠ "java/lang/invoke/VarHandle" ∧ (parseMethodDescriptor yX1_firstThatCanNot.desc).map (fun d => d.parameters.length) = some 3 := by decide +kernel
def wX1_firstThatCanNot_59 (R14 : Int32 × ew_M → Prop) (Q : Int32 → ew_M → Prop) (v1 : Int32) (v3 : Int32) (v4 : Int32) (s1 : ew_M) (s2 : ew_M) (s3 : ew_M) (s4 : ew_M) : Prop := wX3_passPaper (fun (r1 : Int32) (m2 : ew_M) => wX3_endWeek (fun (m4 : ew_M) => R14 (v4 + (1 : Int32), m4)) m2) v1 (-1 : Int32) s2
def wX1_firstThatCanNot_14 (R14 : Int32 × ew_M → Prop) (Q : Int32 → ew_M → Prop) (v1 : Int32) (v3 : Int32) (v4 : Int32) (s1 : ew_M) (s2 : ew_M) (s3 : ew_M) (s4 : ew_M) : Prop := (v3 ≤ v4 → Q (-9 : Int32) s2) ∧ (¬ v3 ≤ v4 → vp_in v4 12 ∧ (((s4.2.1 0 v4.toNatClampNeg) = (9 : Int32) → wX1_firstThatCanNot_59 R14 Q v1 v3 v4 s1 s2 s3 s4) ∧ (¬ (s4.2.1 0 v4.toNatClampNeg) = (9 : Int32) → vp_in v4 12 ∧ (wX3_canRead (fun (r3 : Int32) => (¬ r3 = 0 → vp_in v4 12 ∧ (wX3_markRead (fun (m7 : ew_M) => wX1_firstThatCanNot_59 R14 Q v1 v3 v4 s1 m7 s3 s4) (s4.2.1 0 v4.toNatClampNeg) v1 s2)) ∧ (r3 = 0 → Q v4 s2)) (s4.2.1 0 v4.toNatClampNeg) v1 s2))))
def wX1_firstThatCanNot (Q : Int32 → ew_M → Prop) (p1 : Int32) (p3 : Int32) (s1 : ew_M) (s2 : ew_M) (s3 : ew_M) (s4 : ew_M) : Prop := wX3_become (fun (m2 : ew_M) => ew_lp (fun (R : Int32 × ew_M → Prop) (x : Int32 × ew_M) => wX1_firstThatCanNot_14 R Q p1 p3 x.1 s1 x.2 s3 s4) ((0 : Int32), m2)) s2 s1
set_option maxHeartbeats 4000000 in
set_option maxRecDepth 100000 in
theorem tX1_firstThatCanNot_59 {C : ew_C} {X : ew_X} {E : ew_M → ew_M → ew_M → ew_M → ew_S} (hE1 : ∀ (x2 x3 x4 : ew_M), ew_GE X 0 (ew_GT X.2.1 0) (fun M => E M x2 x3 x4)) (hE2 : ∀ (x1 x3 x4 : ew_M), ew_GE X 14 (ew_GT X.2.1 14) (fun M => E x1 M x3 x4)) (hE3 : ∀ (x1 x2 x4 : ew_M), ew_GE X 45 (ew_GR X.2.1) (fun M => E x1 x2 M x4)) (hE4 : ∀ (x1 x2 x3 : ew_M), ew_GE X 46 (ew_GX X.2.1) (fun M => E x1 x2 x3 M)) (Z : ew_Z C X cX1_firstThatCanNot 5 RX1 wsX1_firstThatCanNot ({ frames := 5, cells := 0, slots := 0, locals := 116 } : Room) (some .int)) {Q : Int32 → ew_M → Prop} {R14 : Int32 × ew_M → Prop} {v1 : Int32} {v3 : Int32} {v4 : Int32} {s1 : ew_M} {s2 : ew_M} {s3 : ew_M} {s4 : ew_M} (hR : C.2.2.2.2.2.2.2.2.2.2 = MQ C.2.2.2.2.2.2.2.1 (va_Qi (fun (r : Int32) (u : ew_M) => Q r u) (fun (u : ew_M) => ew_wd X ((fun (u : ew_M) => E s1 u s3 s4) u)) X.2.2.1) C.2.2.2.2.2.2.1 C.2.2.2.2.1 0 0 X.2.2.1) (hR14 : ∀ x : Int32 × ew_M, R14 x → ew_W C X 5 (E s1 x.2 s3 s4) 14 [(0, .ref (X.2.1 47)), (1, .int v1), (2, .ref (X.2.1 48)), (3, .int v3), (4, .int x.1)] []) (h : wX1_firstThatCanNot_59 R14 Q v1 v3 v4 s1 s2 s3 s4) : ew_W C X 5 (E s1 s2 s3 s4) 59 [(0, .ref (X.2.1 47)), (1, .int v1), (2, .ref (X.2.1 48)), (3, .int v3), (4, .int v4)] [] := by
  refine ez_aload_n (pc := 59) Z dX1_firstThatCanNot_59 0 rfl rfl ?_
  refine fX1_then (pc := 60) (M := s4) Z (hE4 s1 s2 s3) inX1_firstThatCanNot (List.mem_of_getElem? (i := 1) rfl) dX1_firstThatCanNot_60 ?_
  refine ez_iload_n (pc := 63) Z dX1_firstThatCanNot_63 1 rfl rfl ?_
  refine ez_iconst (pc := 64) Z dX1_firstThatCanNot_64 ec_m1 ?_
  refine ez_callVi (pc := 65) (r := 14) (As := [.int v1, .int (-1 : Int32)]) (st := []) Z (kX3_passPaper Z.2.2.2.2.2.2.2.2.2.1 (E := fun q1 => E s1 q1 s3 s4) (hE2 s1 s3 s4) h) gX1_firstThatCanNot_X3_passPaper rfl rfl rfl hdX3_passPaper rfl rfl (by decide) (ew_oT (hE2 s1 s3 s4) _) rfl rfl rfl rfl dX1_firstThatCanNot_65 (fun r1 m2 h => ?_)
  refine ez_pop (pc := 68) Z dX1_firstThatCanNot_68 rfl ?_
  refine ez_aload_n (pc := 69) Z dX1_firstThatCanNot_69 0 rfl rfl ?_
  refine fX1_then (pc := 70) (M := s4) Z (hE4 s1 m2 s3) inX1_firstThatCanNot (List.mem_of_getElem? (i := 1) rfl) dX1_firstThatCanNot_70 ?_
  refine ez_callVv (pc := 73) (r := 14) (As := []) (st := []) Z (kX3_endWeek Z.2.2.2.2.2.2.2.2.2.1 (E := fun q1 => E s1 q1 s3 s4) (hE2 s1 s3 s4) h) gX1_firstThatCanNot_X3_endWeek rfl rfl rfl hdX3_endWeek rfl rfl (by decide) (ew_oT (hE2 s1 s3 s4) _) rfl rfl rfl rfl dX1_firstThatCanNot_73 (fun m4 h => ?_)
  refine ez_iinc (pc := 76) (L' := [(4, .int (v4 + (1 : Int32))), (0, .ref (X.2.1 47)), (1, .int v1), (2, .ref (X.2.1 48)), (3, .int v3)]) Z dX1_firstThatCanNot_76 4 rfl (ei_1 _) (by decide) rfl ?_
  refine ez_goto (pc := 79) (tgt := 14) Z dX1_firstThatCanNot_79 rfl ?_
  refine ez_sub [(0, .ref (X.2.1 47)), (1, .int v1), (2, .ref (X.2.1 48)), (3, .int v3), (4, .int (v4 + (1 : Int32)))] [1, 2, 3, 4, 0] rfl ?_
  exact hR14 _ h
set_option maxHeartbeats 4000000 in
set_option maxRecDepth 100000 in
theorem tX1_firstThatCanNot_14 {C : ew_C} {X : ew_X} {E : ew_M → ew_M → ew_M → ew_M → ew_S} (hE1 : ∀ (x2 x3 x4 : ew_M), ew_GE X 0 (ew_GT X.2.1 0) (fun M => E M x2 x3 x4)) (hE2 : ∀ (x1 x3 x4 : ew_M), ew_GE X 14 (ew_GT X.2.1 14) (fun M => E x1 M x3 x4)) (hE3 : ∀ (x1 x2 x4 : ew_M), ew_GE X 45 (ew_GR X.2.1) (fun M => E x1 x2 M x4)) (hE4 : ∀ (x1 x2 x3 : ew_M), ew_GE X 46 (ew_GX X.2.1) (fun M => E x1 x2 x3 M)) (Z : ew_Z C X cX1_firstThatCanNot 5 RX1 wsX1_firstThatCanNot ({ frames := 5, cells := 0, slots := 0, locals := 116 } : Room) (some .int)) {Q : Int32 → ew_M → Prop} {R14 : Int32 × ew_M → Prop} {v1 : Int32} {v3 : Int32} {v4 : Int32} {s1 : ew_M} {s2 : ew_M} {s3 : ew_M} {s4 : ew_M} (hR : C.2.2.2.2.2.2.2.2.2.2 = MQ C.2.2.2.2.2.2.2.1 (va_Qi (fun (r : Int32) (u : ew_M) => Q r u) (fun (u : ew_M) => ew_wd X ((fun (u : ew_M) => E s1 u s3 s4) u)) X.2.2.1) C.2.2.2.2.2.2.1 C.2.2.2.2.1 0 0 X.2.2.1) (hR14 : ∀ x : Int32 × ew_M, R14 x → ew_W C X 5 (E s1 x.2 s3 s4) 14 [(0, .ref (X.2.1 47)), (1, .int v1), (2, .ref (X.2.1 48)), (3, .int v3), (4, .int x.1)] []) (h : wX1_firstThatCanNot_14 R14 Q v1 v3 v4 s1 s2 s3 s4) : ew_W C X 5 (E s1 s2 s3 s4) 14 [(0, .ref (X.2.1 47)), (1, .int v1), (2, .ref (X.2.1 48)), (3, .int v3), (4, .int v4)] [] := by
  refine ez_iload (pc := 14) Z dX1_firstThatCanNot_14 4 rfl ?_
  refine ez_iload_n (pc := 16) Z dX1_firstThatCanNot_16 3 rfl rfl ?_
  refine ez_icmp_ge (pc := 17) (tgt := 82) Z dX1_firstThatCanNot_17 rfl (fun c1 => ?_) (fun c1 => ?_)
  · replace h := h.1 c1
    refine ez_bipush (pc := 82) Z dX1_firstThatCanNot_82 eb_m9 ?_
    exact ez_iret (pc := 84) Z hR s2 h rfl dX1_firstThatCanNot_84
  · replace h := h.2 c1
    refine ez_aload_n (pc := 20) Z dX1_firstThatCanNot_20 2 rfl rfl ?_
    refine ez_iload (pc := 21) Z dX1_firstThatCanNot_21 4 rfl ?_
    refine ez_iald (pc := 23) (n := 12) (a := 0) (v := s4.2.1 0 v4.toNatClampNeg) (M := s4) Z (hE4 s1 s2 s3) 2 rfl (by decide : 0 < 2) rfl rfl h.1 dX1_firstThatCanNot_23 ?_
    replace h := h.2
    refine ez_bipush (pc := 24) Z dX1_firstThatCanNot_24 eb_9 ?_
    refine ez_icmp_eq (pc := 26) (tgt := 59) Z dX1_firstThatCanNot_26 rfl (fun c2 => ?_) (fun c2 => ?_)
    · replace h := h.1 c2
      exact tX1_firstThatCanNot_59 hE1 hE2 hE3 hE4 Z hR hR14 h
    · replace h := h.2 c2
      refine ez_aload_n (pc := 29) Z dX1_firstThatCanNot_29 0 rfl rfl ?_
      refine fX1_then (pc := 30) (M := s4) Z (hE4 s1 s2 s3) inX1_firstThatCanNot (List.mem_of_getElem? (i := 1) rfl) dX1_firstThatCanNot_30 ?_
      refine ez_aload_n (pc := 33) Z dX1_firstThatCanNot_33 2 rfl rfl ?_
      refine ez_iload (pc := 34) Z dX1_firstThatCanNot_34 4 rfl ?_
      refine ez_iald (pc := 36) (n := 12) (a := 0) (v := s4.2.1 0 v4.toNatClampNeg) (M := s4) Z (hE4 s1 s2 s3) 2 rfl (by decide : 0 < 2) rfl rfl h.1 dX1_firstThatCanNot_36 ?_
      replace h := h.2
      refine ez_iload_n (pc := 37) Z dX1_firstThatCanNot_37 1 rfl rfl ?_
      refine ez_callVi (pc := 38) (r := 14) (As := [.int (s4.2.1 0 v4.toNatClampNeg), .int v1]) (st := []) Z (kX3_canRead Z.2.2.2.2.2.2.2.2.2.1 (E := fun q1 => E s1 q1 s3 s4) (hE2 s1 s3 s4) h) gX1_firstThatCanNot_X3_canRead rfl rfl rfl hdX3_canRead rfl rfl (by decide) (ew_oT (hE2 s1 s3 s4) _) rfl rfl rfl rfl dX1_firstThatCanNot_38 (fun r3 u4 h => ?_)
      refine ez_if_ne (pc := 41) (tgt := 47) Z dX1_firstThatCanNot_41 rfl (fun c5 => ?_) (fun c5 => ?_)
      · replace h := h.1 c5
        refine ez_aload_n (pc := 47) Z dX1_firstThatCanNot_47 0 rfl rfl ?_
        refine fX1_then (pc := 48) (M := s4) Z (hE4 s1 s2 s3) inX1_firstThatCanNot (List.mem_of_getElem? (i := 1) rfl) dX1_firstThatCanNot_48 ?_
        refine ez_aload_n (pc := 51) Z dX1_firstThatCanNot_51 2 rfl rfl ?_
        refine ez_iload (pc := 52) Z dX1_firstThatCanNot_52 4 rfl ?_
        refine ez_iald (pc := 54) (n := 12) (a := 0) (v := s4.2.1 0 v4.toNatClampNeg) (M := s4) Z (hE4 s1 s2 s3) 2 rfl (by decide : 0 < 2) rfl rfl h.1 dX1_firstThatCanNot_54 ?_
        replace h := h.2
        refine ez_iload_n (pc := 55) Z dX1_firstThatCanNot_55 1 rfl rfl ?_
        refine ez_callVv (pc := 56) (r := 14) (As := [.int (s4.2.1 0 v4.toNatClampNeg), .int v1]) (st := []) Z (kX3_markRead Z.2.2.2.2.2.2.2.2.2.1 (E := fun q1 => E s1 q1 s3 s4) (hE2 s1 s3 s4) h) gX1_firstThatCanNot_X3_markRead rfl rfl rfl hdX3_markRead rfl rfl (by decide) (ew_oT (hE2 s1 s3 s4) _) rfl rfl rfl rfl dX1_firstThatCanNot_56 (fun m7 h => ?_)
        exact tX1_firstThatCanNot_59 hE1 hE2 hE3 hE4 Z hR hR14 h
      · replace h := h.2 c5
        refine ez_iload (pc := 44) Z dX1_firstThatCanNot_44 4 rfl ?_
        exact ez_iret (pc := 46) Z hR s2 h rfl dX1_firstThatCanNot_46
set_option maxHeartbeats 4000000 in
set_option maxRecDepth 100000 in
theorem kX1_firstThatCanNot {X : ew_X} {l : Launch} (hX : ew_Ap X) {E : ew_M → ew_M → ew_M → ew_M → ew_S} (hE1 : ∀ (x2 x3 x4 : ew_M), ew_GE X 0 (ew_GT X.2.1 0) (fun M => E M x2 x3 x4)) (hE2 : ∀ (x1 x3 x4 : ew_M), ew_GE X 14 (ew_GT X.2.1 14) (fun M => E x1 M x3 x4)) (hE3 : ∀ (x1 x2 x4 : ew_M), ew_GE X 45 (ew_GR X.2.1) (fun M => E x1 x2 M x4)) (hE4 : ∀ (x1 x2 x3 : ew_M), ew_GE X 46 (ew_GX X.2.1) (fun M => E x1 x2 x3 M)) {Q : Int32 → ew_M → Prop} {p1 : Int32} {p3 : Int32} {s1 : ew_M} {s2 : ew_M} {s3 : ew_M} {s4 : ew_M} (h : wX1_firstThatCanNot Q p1 p3 s1 s2 s3 s4) : Met l yX1_firstThatCanNot wsX1_firstThatCanNot ({ frames := 5, cells := 0, slots := 0, locals := 116 } : Room) (va_Pc [.ref (X.2.1 47), .int p1, .ref (X.2.1 48), .int p3] (ew_wd X (E s1 s2 s3 s4))) (va_Qi (fun (r : Int32) (u : ew_M) => Q r u) (fun (u : ew_M) => ew_wd X ((fun (u : ew_M) => E s1 u s3 s4) u)) X.2.2.1) 0 0 X.2.2.1 := by
  refine ew_met (As := [.ref (X.2.1 47), .int p1, .ref (X.2.1 48), .int p3]) (L0 := [(0, .ref (X.2.1 47)), (1, .int p1), (2, .ref (X.2.1 48)), (3, .int p3)]) X l hX (by decide) rfl rfl rfl rfl (fun C hl Z hR => ?_)
  subst hl
  refine ez_aload_n (pc := 0) Z dX1_firstThatCanNot_0 0 rfl rfl ?_
  refine fX1_then (pc := 1) (M := s4) Z (hE4 s1 s2 s3) inX1_firstThatCanNot (List.mem_of_getElem? (i := 1) rfl) dX1_firstThatCanNot_1 ?_
  refine ez_aload_n (pc := 4) Z dX1_firstThatCanNot_4 0 rfl rfl ?_
  refine fX1_now (pc := 5) (M := s4) Z (hE4 s1 s2 s3) inX1_firstThatCanNot (List.mem_of_getElem? (i := 2) rfl) dX1_firstThatCanNot_5 ?_
  refine ez_callVv (pc := 8) (r := 14) (As := [.ref (X.2.1 0)]) (st := []) Z (kX3_become Z.2.2.2.2.2.2.2.2.2.1 (E := fun q1 q2 => E q2 q1 s3 s4) (fun q2 => hE2 q2 s3 s4) (fun q1 => hE1 q1 s3 s4) h) gX1_firstThatCanNot_X3_become rfl rfl rfl hdX3_become rfl rfl (by decide) (ew_oT (hE2 s1 s3 s4) _) rfl rfl rfl rfl dX1_firstThatCanNot_8 (fun m2 h => ?_)
  refine ez_iconst (pc := 11) Z dX1_firstThatCanNot_11 ec_0 ?_
  refine ez_istore (pc := 12) (L' := [(4, .int (0 : Int32)), (0, .ref (X.2.1 47)), (1, .int p1), (2, .ref (X.2.1 48)), (3, .int p3)]) Z dX1_firstThatCanNot_12 (by decide) rfl ?_
  refine ez_sub [(0, .ref (X.2.1 47)), (1, .int p1), (2, .ref (X.2.1 48)), (3, .int p3), (4, .int (0 : Int32))] [1, 2, 3, 4, 0] rfl ?_
  exact ew_ind (P := fun (x : Int32 × ew_M) => ew_W C X 5 (E s1 x.2 s3 s4) 14 [(0, .ref (X.2.1 47)), (1, .int p1), (2, .ref (X.2.1 48)), (3, .int p3), (4, .int x.1)] []) (fun R hR9 x h => tX1_firstThatCanNot_14 hE1 hE2 hE3 hE4 Z hR  hR9 h) h
