theorem inX4_refuse : ∀ w ∈ wsX40, w ∈ wsX4_refuse := fun _ h => List.mem_cons_of_mem _ (List.mem_append_right _ (h))
theorem hdX4_refuse : yX4_refuse.cls = RX4 ∧ yX4_refuse.cls ≠ "java/lang/invoke/MethodHandle" ∧ yX4_refuse.cls ≠ "java/lang/invoke/VarHandle" ∧ (parseMethodDescriptor yX4_refuse.desc).map (fun d => d.parameters.length) = some 1 := by decide +kernel
def wX4_refuse (Q : Int32 → ew_M → Prop) (p1 : Int32) (s1 : ew_M) (s2 : ew_M) (s3 : ew_M) (s4 : ew_M) (s5 : ew_M) (s6 : ew_M) : Prop := vp_in p1 7 ∧ (vp_in p1 7 ∧ (Q (-p1) (ew_sA s6 1 p1.toNatClampNeg ((s6.2.1 1 p1.toNatClampNeg) + (1 : Int32)))))
set_option maxHeartbeats 4000000 in
set_option maxRecDepth 100000 in
theorem kX4_refuse {X : ew_X} {l : Launch} (hX : ew_Ap X) {E : ew_M → ew_M → ew_M → ew_M → ew_M → ew_M → ew_S} (hE1 : ∀ (x2 x3 x4 x5 x6 : ew_M), ew_GE X 0 (ew_GT X.2.1 0) (fun M => E M x2 x3 x4 x5 x6)) (hE2 : ∀ (x1 x3 x4 x5 x6 : ew_M), ew_GE X 14 (ew_GT X.2.1 14) (fun M => E x1 M x3 x4 x5 x6)) (hE3 : ∀ (x1 x2 x4 x5 x6 : ew_M), ew_GE X 28 (ew_GT X.2.1 28) (fun M => E x1 x2 M x4 x5 x6)) (hE4 : ∀ (x1 x2 x3 x5 x6 : ew_M), ew_GE X 42 (ew_GL X.2.1) (fun M => E x1 x2 x3 M x5 x6)) (hE5 : ∀ (x1 x2 x3 x4 x6 : ew_M), ew_GE X 45 (ew_GR X.2.1) (fun M => E x1 x2 x3 x4 M x6)) (hE6 : ∀ (x1 x2 x3 x4 x5 : ew_M), ew_GE X 46 (ew_GX X.2.1) (fun M => E x1 x2 x3 x4 x5 M)) {Q : Int32 → ew_M → Prop} {p1 : Int32} {s1 : ew_M} {s2 : ew_M} {s3 : ew_M} {s4 : ew_M} {s5 : ew_M} {s6 : ew_M} (h : wX4_refuse Q p1 s1 s2 s3 s4 s5 s6) : Met l yX4_refuse wsX4_refuse ({ frames := 0, cells := 0, slots := 0, locals := 0 } : Room) (va_Pc [.ref (X.2.1 46), .int p1] (ew_wd X (E s1 s2 s3 s4 s5 s6))) (va_Qi (fun (r : Int32) (u : ew_M) => Q r u) (fun (u : ew_M) => ew_wd X ((fun (u : ew_M) => E s1 s2 s3 s4 s5 u) u)) X.2.2.1) 0 0 X.2.2.1 := by
  refine ew_met (As := [.ref (X.2.1 46), .int p1]) (L0 := [(0, .ref (X.2.1 46)), (1, .int p1)]) X l hX (by decide) rfl rfl rfl rfl (fun C hl Z hR => ?_)
  subst hl
  refine ez_aload_n (pc := 0) Z dX4_refuse_0 0 rfl rfl ?_
  refine fX4_refusals (pc := 1) (M := s6) Z (hE6 s1 s2 s3 s4 s5) inX4_refuse (List.mem_of_getElem? (i := 1) rfl) dX4_refuse_1 ?_
  refine ez_iload_n (pc := 4) Z dX4_refuse_4 1 rfl rfl ?_
  refine ez_dup2_11 (pc := 5) Z dX4_refuse_5 rfl rfl ?_
  refine ez_iald (pc := 6) (n := 7) (a := 1) (v := s6.2.1 1 p1.toNatClampNeg) (M := s6) Z (hE6 s1 s2 s3 s4 s5) 3 rfl (by decide : 1 < 2) rfl rfl h.1 dX4_refuse_6 ?_
  replace h := h.2
  refine ez_iconst (pc := 7) Z dX4_refuse_7 ec_1 ?_
  refine ez_iadd (pc := 8) Z dX4_refuse_8 ?_
  refine ez_iast (pc := 9) (n := 7) (a := 1) (M := s6) (M' := ew_sA s6 1 p1.toNatClampNeg ((s6.2.1 1 p1.toNatClampNeg) + (1 : Int32))) Z (hE6 s1 s2 s3 s4 s5) 3 rfl (by decide : 1 < 2) rfl rfl h.1 dX4_refuse_9 ?_
  replace h := h.2
  refine ez_iload_n (pc := 10) Z dX4_refuse_10 1 rfl rfl ?_
  refine ez_ineg (pc := 11) Z dX4_refuse_11 ?_
  exact ez_iret (pc := 12) Z hR (ew_sA s6 1 p1.toNatClampNeg ((s6.2.1 1 p1.toNatClampNeg) + (1 : Int32))) h rfl dX4_refuse_12
theorem inX4_letter : ∀ w ∈ wsX40, w ∈ wsX4_letter := fun _ h => List.mem_cons_of_mem _ (List.mem_append_left _ (List.mem_append_right _ (h)))
theorem hdX4_letter : yX4_letter.cls = RX4 ∧ yX4_letter.cls ≠ "java/lang/invoke/MethodHandle" ∧ yX4_letter.cls ≠ "java/lang/invoke/VarHandle" ∧ (parseMethodDescriptor yX4_letter.desc).map (fun d => d.parameters.length) = some 1 := by decide +kernel
def wX4_letter_27  (Q : Int32 → ew_M → ew_M → Prop) (s1 : ew_M) (s2 : ew_M) (s3 : ew_M) (s4 : ew_M) (s5 : ew_M) (s6 : ew_M) : Prop := wX4_refuse (fun (r1 : Int32) (m2 : ew_M) => Q r1 s4 m2) (6 : Int32) s1 s2 s3 s4 s5 s6
def wX4_letter (Q : Int32 → ew_M → ew_M → Prop) (p1 : Int32) (s1 : ew_M) (s2 : ew_M) (s3 : ew_M) (s4 : ew_M) (s5 : ew_M) (s6 : ew_M) : Prop := (0 ≤ p1 → ((255 : Int32) < p1 → wX4_letter_27 Q s1 s2 s3 s4 s5 s6) ∧ (¬ (255 : Int32) < p1 → wX0_isFull (fun (r3 : Int32) => (r3 = 0 → wX0_add (fun (r6 : Int32) (m7 : ew_M) => Q r6 m7 s6) p1 s4) ∧ (¬ r3 = 0 → wX4_letter_27 Q s1 s2 s3 s4 s5 s6)) s4)) ∧ (¬ 0 ≤ p1 → wX4_refuse (fun (r8 : Int32) (m9 : ew_M) => Q r8 s4 m9) (4 : Int32) s1 s2 s3 s4 s5 s6)
set_option maxHeartbeats 4000000 in
set_option maxRecDepth 100000 in
theorem tX4_letter_27 {C : ew_C} {X : ew_X} {E : ew_M → ew_M → ew_M → ew_M → ew_M → ew_M → ew_S} (hE1 : ∀ (x2 x3 x4 x5 x6 : ew_M), ew_GE X 0 (ew_GT X.2.1 0) (fun M => E M x2 x3 x4 x5 x6)) (hE2 : ∀ (x1 x3 x4 x5 x6 : ew_M), ew_GE X 14 (ew_GT X.2.1 14) (fun M => E x1 M x3 x4 x5 x6)) (hE3 : ∀ (x1 x2 x4 x5 x6 : ew_M), ew_GE X 28 (ew_GT X.2.1 28) (fun M => E x1 x2 M x4 x5 x6)) (hE4 : ∀ (x1 x2 x3 x5 x6 : ew_M), ew_GE X 42 (ew_GL X.2.1) (fun M => E x1 x2 x3 M x5 x6)) (hE5 : ∀ (x1 x2 x3 x4 x6 : ew_M), ew_GE X 45 (ew_GR X.2.1) (fun M => E x1 x2 x3 x4 M x6)) (hE6 : ∀ (x1 x2 x3 x4 x5 : ew_M), ew_GE X 46 (ew_GX X.2.1) (fun M => E x1 x2 x3 x4 x5 M)) (Z : ew_Z C X cX4_letter 2 RX4 wsX4_letter ({ frames := 1, cells := 0, slots := 0, locals := 21 } : Room) (some .int)) {Q : Int32 → ew_M → ew_M → Prop}  {s1 : ew_M} {s2 : ew_M} {s3 : ew_M} {s4 : ew_M} {s5 : ew_M} {s6 : ew_M} (hR : C.2.2.2.2.2.2.2.2.2.2 = MQ C.2.2.2.2.2.2.2.1 (va_Qi (fun (r : Int32) (u : ew_M × ew_M) => Q r u.1 u.2) (fun (u : ew_M × ew_M) => ew_wd X ((fun (u : ew_M × ew_M) => E s1 s2 s3 u.1 s5 u.2) u)) X.2.2.1) C.2.2.2.2.2.2.1 C.2.2.2.2.1 0 0 X.2.2.1) (h : wX4_letter_27 Q s1 s2 s3 s4 s5 s6) : ew_W C X 2 (E s1 s2 s3 s4 s5 s6) 27 [(0, .ref (X.2.1 46))] [] := by
  refine ez_aload_n (pc := 27) Z dX4_letter_27 0 rfl rfl ?_
  refine ez_bipush (pc := 28) Z dX4_letter_28 eb_6 ?_
  refine ez_callVi (pc := 30) (r := 46) (As := [.int (6 : Int32)]) (st := []) Z (kX4_refuse Z.2.2.2.2.2.2.2.2.2.1 (E := E) hE1 hE2 hE3 hE4 hE5 hE6 h) gX4_letter_X4_refuse rfl rfl rfl hdX4_refuse rfl rfl (by decide) (ew_oX0 (hE6 s1 s2 s3 s4 s5) _) rfl rfl rfl rfl dX4_letter_30 (fun r1 m2 h => ?_)
  exact ez_iret (pc := 33) Z hR (s4, m2) h rfl dX4_letter_33
set_option maxHeartbeats 4000000 in
set_option maxRecDepth 100000 in
theorem kX4_letter {X : ew_X} {l : Launch} (hX : ew_Ap X) {E : ew_M → ew_M → ew_M → ew_M → ew_M → ew_M → ew_S} (hE1 : ∀ (x2 x3 x4 x5 x6 : ew_M), ew_GE X 0 (ew_GT X.2.1 0) (fun M => E M x2 x3 x4 x5 x6)) (hE2 : ∀ (x1 x3 x4 x5 x6 : ew_M), ew_GE X 14 (ew_GT X.2.1 14) (fun M => E x1 M x3 x4 x5 x6)) (hE3 : ∀ (x1 x2 x4 x5 x6 : ew_M), ew_GE X 28 (ew_GT X.2.1 28) (fun M => E x1 x2 M x4 x5 x6)) (hE4 : ∀ (x1 x2 x3 x5 x6 : ew_M), ew_GE X 42 (ew_GL X.2.1) (fun M => E x1 x2 x3 M x5 x6)) (hE5 : ∀ (x1 x2 x3 x4 x6 : ew_M), ew_GE X 45 (ew_GR X.2.1) (fun M => E x1 x2 x3 x4 M x6)) (hE6 : ∀ (x1 x2 x3 x4 x5 : ew_M), ew_GE X 46 (ew_GX X.2.1) (fun M => E x1 x2 x3 x4 x5 M)) {Q : Int32 → ew_M → ew_M → Prop} {p1 : Int32} {s1 : ew_M} {s2 : ew_M} {s3 : ew_M} {s4 : ew_M} {s5 : ew_M} {s6 : ew_M} (h : wX4_letter Q p1 s1 s2 s3 s4 s5 s6) : Met l yX4_letter wsX4_letter ({ frames := 1, cells := 0, slots := 0, locals := 21 } : Room) (va_Pc [.ref (X.2.1 46), .int p1] (ew_wd X (E s1 s2 s3 s4 s5 s6))) (va_Qi (fun (r : Int32) (u : ew_M × ew_M) => Q r u.1 u.2) (fun (u : ew_M × ew_M) => ew_wd X ((fun (u : ew_M × ew_M) => E s1 s2 s3 u.1 s5 u.2) u)) X.2.2.1) 0 0 X.2.2.1 := by
  refine ew_met (As := [.ref (X.2.1 46), .int p1]) (L0 := [(0, .ref (X.2.1 46)), (1, .int p1)]) X l hX (by decide) rfl rfl rfl rfl (fun C hl Z hR => ?_)
  subst hl
  refine ez_iload_n (pc := 0) Z dX4_letter_0 1 rfl rfl ?_
  refine ez_if_ge (pc := 1) (tgt := 10) Z dX4_letter_1 rfl (fun c1 => ?_) (fun c1 => ?_)
  · replace h := h.1 c1
    refine ez_iload_n (pc := 10) Z dX4_letter_10 1 rfl rfl ?_
    refine ez_sipush (pc := 11) Z dX4_letter_11 es_255 ?_
    refine ez_icmp_gt (pc := 14) (tgt := 27) Z dX4_letter_14 rfl (fun c2 => ?_) (fun c2 => ?_)
    · replace h := h.1 c2
      refine ez_sub [(0, .ref (X.2.1 46))] [0] rfl ?_
      exact tX4_letter_27 hE1 hE2 hE3 hE4 hE5 hE6 Z hR  h
    · replace h := h.2 c2
      refine ez_aload_n (pc := 17) Z dX4_letter_17 0 rfl rfl ?_
      refine fX4_letters (pc := 18) (M := s6) Z (hE6 s1 s2 s3 s4 s5) inX4_letter (List.mem_of_getElem? (i := 1) rfl) dX4_letter_18 ?_
      refine ez_callVi (pc := 21) (r := 42) (As := []) (st := []) Z (kX0_isFull Z.2.2.2.2.2.2.2.2.2.1 (E := fun q1 => E s1 s2 s3 q1 s5 s6) (hE4 s1 s2 s3 s5 s6) h) gX4_letter_X0_isFull rfl rfl rfl hdX0_isFull rfl rfl (by decide) (ew_oL (hE4 s1 s2 s3 s5 s6) _) rfl rfl rfl rfl dX4_letter_21 (fun r3 u4 h => ?_)
      refine ez_if_eq (pc := 24) (tgt := 34) Z dX4_letter_24 rfl (fun c5 => ?_) (fun c5 => ?_)
      · replace h := h.1 c5
        refine ez_aload_n (pc := 34) Z dX4_letter_34 0 rfl rfl ?_
        refine fX4_letters (pc := 35) (M := s6) Z (hE6 s1 s2 s3 s4 s5) inX4_letter (List.mem_of_getElem? (i := 1) rfl) dX4_letter_35 ?_
        refine ez_iload_n (pc := 38) Z dX4_letter_38 1 rfl rfl ?_
        refine ez_callVi (pc := 39) (r := 42) (As := [.int p1]) (st := []) Z (kX0_add Z.2.2.2.2.2.2.2.2.2.1 (E := fun q1 => E s1 s2 s3 q1 s5 s6) (hE4 s1 s2 s3 s5 s6) h) gX4_letter_X0_add rfl rfl rfl hdX0_add rfl rfl (by decide) (ew_oL (hE4 s1 s2 s3 s5 s6) _) rfl rfl rfl rfl dX4_letter_39 (fun r6 m7 h => ?_)
        exact ez_iret (pc := 42) Z hR (m7, s6) h rfl dX4_letter_42
      · replace h := h.2 c5
        refine ez_sub [(0, .ref (X.2.1 46))] [0] rfl ?_
        exact tX4_letter_27 hE1 hE2 hE3 hE4 hE5 hE6 Z hR  h
  · replace h := h.2 c1
    refine ez_aload_n (pc := 4) Z dX4_letter_4 0 rfl rfl ?_
    refine ez_iconst (pc := 5) Z dX4_letter_5 ec_4 ?_
    refine ez_callVi (pc := 6) (r := 46) (As := [.int (4 : Int32)]) (st := []) Z (kX4_refuse Z.2.2.2.2.2.2.2.2.2.1 (E := E) hE1 hE2 hE3 hE4 hE5 hE6 h) gX4_letter_X4_refuse rfl rfl rfl hdX4_refuse rfl rfl (by decide) (ew_oX0 (hE6 s1 s2 s3 s4 s5) _) rfl rfl rfl rfl dX4_letter_6 (fun r8 m9 h => ?_)
    exact ez_iret (pc := 9) Z hR (s4, m9) h rfl dX4_letter_9
theorem inX4_settle : ∀ w ∈ wsX40, w ∈ wsX4_settle := fun _ h => List.mem_cons_of_mem _ (List.mem_append_left _ (List.mem_append_left _ (List.mem_append_right _ (h))))
theorem hdX4_settle : yX4_settle.cls = RX4 ∧ yX4_settle.cls ≠ "java/lang/invoke/MethodHandle" ∧ yX4_settle.cls ≠ "java/lang/invoke/VarHandle" ∧ (parseMethodDescriptor yX4_settle.desc).map (fun d => d.parameters.length) = some 0 := by decide +kernel
def wX4_settle_86  (Q : Int32 → ew_M → ew_M → ew_M → Prop) (v3 : Int32) (s1 : ew_M) (s2 : ew_M) (s3 : ew_M) (s4 : ew_M) (s5 : ew_M) (s6 : ew_M) : Prop := Q ((-2000 : Int32) - v3) s1 s2 s4
def wX4_settle_98  (Q : Int32 → ew_M → ew_M → ew_M → Prop) (v2 : Int32) (s1 : ew_M) (s2 : ew_M) (s3 : ew_M) (s4 : ew_M) (s5 : ew_M) (s6 : ew_M) : Prop := wX3_become (fun (m2 : ew_M) => Q v2 m2 s2 s4) s1 s2
def wX4_settle_38 (R38 : Int32 × ew_M × ew_M → Prop) (Q : Int32 → ew_M → ew_M → ew_M → Prop) (v2 : Int32) (s1 : ew_M) (s2 : ew_M) (s3 : ew_M) (s4 : ew_M) (s5 : ew_M) (s6 : ew_M) : Prop := wX0_hasMore (fun (r1 : Int32) => (r1 = 0 → wX4_settle_98 Q v2 s1 s2 s3 s4 s5 s6) ∧ (¬ r1 = 0 → ((64 : Int32) ≤ v2 → wX4_settle_98 Q v2 s1 s2 s3 s4 s5 s6) ∧ (¬ (64 : Int32) ≤ v2 → wX0_place (fun (r5 : Int32) => wX0_nextStatement (fun (r7 : Int32) (m8 : ew_M) => (r7 = 0 → wX4_settle_86 Q r5 s1 s2 s3 m8 s5 s6) ∧ (¬ r7 = 0 → wX3_takes (fun (r10 : Int32) (m11 : ew_M) => (¬ r10 = 0 → R38 (v2 + (1 : Int32), m11, m8)) ∧ (r10 = 0 → wX4_settle_86 Q r5 s1 m11 s3 m8 s5 s6)) s2 m8)) s4) s4))) s4
def wX4_settle (Q : Int32 → ew_M → ew_M → ew_M → Prop) (s1 : ew_M) (s2 : ew_M) (s3 : ew_M) (s4 : ew_M) (s5 : ew_M) (s6 : ew_M) : Prop := wX0_brokenPlace (fun (r1 : Int32) (m2 : ew_M) => (r1 < 0 → wX3_become (fun (m5 : ew_M) => wX0_rewind (fun (m7 : ew_M) => ew_lp (fun (R : Int32 × ew_M × ew_M → Prop) (x : Int32 × ew_M × ew_M) => wX4_settle_38 R Q x.1 s1 x.2.1 s3 x.2.2 s5 s6) ((0 : Int32), m5, m7)) m2) s2 s1) ∧ (¬ r1 < 0 → Q ((-1000 : Int32) - r1) s1 s2 m2)) s4
set_option maxHeartbeats 4000000 in
set_option maxRecDepth 100000 in
theorem tX4_settle_86 {C : ew_C} {X : ew_X} {E : ew_M → ew_M → ew_M → ew_M → ew_M → ew_M → ew_S} (hE1 : ∀ (x2 x3 x4 x5 x6 : ew_M), ew_GE X 0 (ew_GT X.2.1 0) (fun M => E M x2 x3 x4 x5 x6)) (hE2 : ∀ (x1 x3 x4 x5 x6 : ew_M), ew_GE X 14 (ew_GT X.2.1 14) (fun M => E x1 M x3 x4 x5 x6)) (hE3 : ∀ (x1 x2 x4 x5 x6 : ew_M), ew_GE X 28 (ew_GT X.2.1 28) (fun M => E x1 x2 M x4 x5 x6)) (hE4 : ∀ (x1 x2 x3 x5 x6 : ew_M), ew_GE X 42 (ew_GL X.2.1) (fun M => E x1 x2 x3 M x5 x6)) (hE5 : ∀ (x1 x2 x3 x4 x6 : ew_M), ew_GE X 45 (ew_GR X.2.1) (fun M => E x1 x2 x3 x4 M x6)) (hE6 : ∀ (x1 x2 x3 x4 x5 : ew_M), ew_GE X 46 (ew_GX X.2.1) (fun M => E x1 x2 x3 x4 x5 M)) (Z : ew_Z C X cX4_settle 4 RX4 wsX4_settle ({ frames := 7, cells := 0, slots := 0, locals := 153 } : Room) (some .int)) {Q : Int32 → ew_M → ew_M → ew_M → Prop}  {v3 : Int32} {s1 : ew_M} {s2 : ew_M} {s3 : ew_M} {s4 : ew_M} {s5 : ew_M} {s6 : ew_M} (hR : C.2.2.2.2.2.2.2.2.2.2 = MQ C.2.2.2.2.2.2.2.1 (va_Qi (fun (r : Int32) (u : ew_M × ew_M × ew_M) => Q r u.1 u.2.1 u.2.2) (fun (u : ew_M × ew_M × ew_M) => ew_wd X ((fun (u : ew_M × ew_M × ew_M) => E u.1 u.2.1 s3 u.2.2 s5 s6) u)) X.2.2.1) C.2.2.2.2.2.2.1 C.2.2.2.2.1 0 0 X.2.2.1) (h : wX4_settle_86 Q v3 s1 s2 s3 s4 s5 s6) : ew_W C X 4 (E s1 s2 s3 s4 s5 s6) 86 [(3, .int v3)] [] := by
  refine ez_sipush (pc := 86) Z dX4_settle_86 es_m2000 ?_
  refine ez_iload_n (pc := 89) Z dX4_settle_89 0 rfl rfl ?_
  refine ez_isub (pc := 90) Z dX4_settle_90 ?_
  exact ez_iret (pc := 91) Z hR (s1, s2, s4) h rfl dX4_settle_91
set_option maxHeartbeats 4000000 in
set_option maxRecDepth 100000 in
theorem tX4_settle_98 {C : ew_C} {X : ew_X} {E : ew_M → ew_M → ew_M → ew_M → ew_M → ew_M → ew_S} (hE1 : ∀ (x2 x3 x4 x5 x6 : ew_M), ew_GE X 0 (ew_GT X.2.1 0) (fun M => E M x2 x3 x4 x5 x6)) (hE2 : ∀ (x1 x3 x4 x5 x6 : ew_M), ew_GE X 14 (ew_GT X.2.1 14) (fun M => E x1 M x3 x4 x5 x6)) (hE3 : ∀ (x1 x2 x4 x5 x6 : ew_M), ew_GE X 28 (ew_GT X.2.1 28) (fun M => E x1 x2 M x4 x5 x6)) (hE4 : ∀ (x1 x2 x3 x5 x6 : ew_M), ew_GE X 42 (ew_GL X.2.1) (fun M => E x1 x2 x3 M x5 x6)) (hE5 : ∀ (x1 x2 x3 x4 x6 : ew_M), ew_GE X 45 (ew_GR X.2.1) (fun M => E x1 x2 x3 x4 M x6)) (hE6 : ∀ (x1 x2 x3 x4 x5 : ew_M), ew_GE X 46 (ew_GX X.2.1) (fun M => E x1 x2 x3 x4 x5 M)) (Z : ew_Z C X cX4_settle 4 RX4 wsX4_settle ({ frames := 7, cells := 0, slots := 0, locals := 153 } : Room) (some .int)) {Q : Int32 → ew_M → ew_M → ew_M → Prop}  {v2 : Int32} {s1 : ew_M} {s2 : ew_M} {s3 : ew_M} {s4 : ew_M} {s5 : ew_M} {s6 : ew_M} (hR : C.2.2.2.2.2.2.2.2.2.2 = MQ C.2.2.2.2.2.2.2.1 (va_Qi (fun (r : Int32) (u : ew_M × ew_M × ew_M) => Q r u.1 u.2.1 u.2.2) (fun (u : ew_M × ew_M × ew_M) => ew_wd X ((fun (u : ew_M × ew_M × ew_M) => E u.1 u.2.1 s3 u.2.2 s5 s6) u)) X.2.2.1) C.2.2.2.2.2.2.1 C.2.2.2.2.1 0 0 X.2.2.1) (h : wX4_settle_98 Q v2 s1 s2 s3 s4 s5 s6) : ew_W C X 4 (E s1 s2 s3 s4 s5 s6) 98 [(0, .ref (X.2.1 46)), (2, .int v2)] [] := by
  refine ez_aload_n (pc := 98) Z dX4_settle_98 0 rfl rfl ?_
  refine fX4_now (pc := 99) (M := s6) Z (hE6 s1 s2 s3 s4 s5) inX4_settle (List.mem_of_getElem? (i := 3) rfl) dX4_settle_99 ?_
  refine ez_aload_n (pc := 102) Z dX4_settle_102 0 rfl rfl ?_
  refine fX4_draft (pc := 103) (M := s6) Z (hE6 s1 s2 s3 s4 s5) inX4_settle (List.mem_of_getElem? (i := 2) rfl) dX4_settle_103 ?_
  refine ez_callVv (pc := 106) (r := 0) (As := [.ref (X.2.1 14)]) (st := []) Z (kX3_become Z.2.2.2.2.2.2.2.2.2.1 (E := fun q1 q2 => E q1 q2 s3 s4 s5 s6) (fun q2 => hE1 q2 s3 s4 s5 s6) (fun q1 => hE2 q1 s3 s4 s5 s6) h) gX4_settle_X3_become rfl rfl rfl hdX3_become rfl rfl (by decide) (ew_oT (hE1 s2 s3 s4 s5 s6) _) rfl rfl rfl rfl dX4_settle_106 (fun m2 h => ?_)
  refine ez_iload_n (pc := 109) Z dX4_settle_109 1 rfl rfl ?_
  exact ez_iret (pc := 110) Z hR (m2, s2, s4) h rfl dX4_settle_110
set_option maxHeartbeats 4000000 in
set_option maxRecDepth 100000 in
theorem tX4_settle_38 {C : ew_C} {X : ew_X} {E : ew_M → ew_M → ew_M → ew_M → ew_M → ew_M → ew_S} (hE1 : ∀ (x2 x3 x4 x5 x6 : ew_M), ew_GE X 0 (ew_GT X.2.1 0) (fun M => E M x2 x3 x4 x5 x6)) (hE2 : ∀ (x1 x3 x4 x5 x6 : ew_M), ew_GE X 14 (ew_GT X.2.1 14) (fun M => E x1 M x3 x4 x5 x6)) (hE3 : ∀ (x1 x2 x4 x5 x6 : ew_M), ew_GE X 28 (ew_GT X.2.1 28) (fun M => E x1 x2 M x4 x5 x6)) (hE4 : ∀ (x1 x2 x3 x5 x6 : ew_M), ew_GE X 42 (ew_GL X.2.1) (fun M => E x1 x2 x3 M x5 x6)) (hE5 : ∀ (x1 x2 x3 x4 x6 : ew_M), ew_GE X 45 (ew_GR X.2.1) (fun M => E x1 x2 x3 x4 M x6)) (hE6 : ∀ (x1 x2 x3 x4 x5 : ew_M), ew_GE X 46 (ew_GX X.2.1) (fun M => E x1 x2 x3 x4 x5 M)) (Z : ew_Z C X cX4_settle 4 RX4 wsX4_settle ({ frames := 7, cells := 0, slots := 0, locals := 153 } : Room) (some .int)) {Q : Int32 → ew_M → ew_M → ew_M → Prop} {R38 : Int32 × ew_M × ew_M → Prop} {v2 : Int32} {s1 : ew_M} {s2 : ew_M} {s3 : ew_M} {s4 : ew_M} {s5 : ew_M} {s6 : ew_M} (hR : C.2.2.2.2.2.2.2.2.2.2 = MQ C.2.2.2.2.2.2.2.1 (va_Qi (fun (r : Int32) (u : ew_M × ew_M × ew_M) => Q r u.1 u.2.1 u.2.2) (fun (u : ew_M × ew_M × ew_M) => ew_wd X ((fun (u : ew_M × ew_M × ew_M) => E u.1 u.2.1 s3 u.2.2 s5 s6) u)) X.2.2.1) C.2.2.2.2.2.2.1 C.2.2.2.2.1 0 0 X.2.2.1) (hR38 : ∀ x : Int32 × ew_M × ew_M, R38 x → ew_W C X 4 (E s1 x.2.1 s3 x.2.2 s5 s6) 38 [(0, .ref (X.2.1 46)), (2, .int x.1)] []) (h : wX4_settle_38 R38 Q v2 s1 s2 s3 s4 s5 s6) : ew_W C X 4 (E s1 s2 s3 s4 s5 s6) 38 [(0, .ref (X.2.1 46)), (2, .int v2)] [] := by
  refine ez_aload_n (pc := 38) Z dX4_settle_38 0 rfl rfl ?_
  refine fX4_letters (pc := 39) (M := s6) Z (hE6 s1 s2 s3 s4 s5) inX4_settle (List.mem_of_getElem? (i := 1) rfl) dX4_settle_39 ?_
  refine ez_callVi (pc := 42) (r := 42) (As := []) (st := []) Z (kX0_hasMore Z.2.2.2.2.2.2.2.2.2.1 (E := fun q1 => E s1 s2 s3 q1 s5 s6) (hE4 s1 s2 s3 s5 s6) h) gX4_settle_X0_hasMore rfl rfl rfl hdX0_hasMore rfl rfl (by decide) (ew_oL (hE4 s1 s2 s3 s5 s6) _) rfl rfl rfl rfl dX4_settle_42 (fun r1 u2 h => ?_)
  refine ez_if_eq (pc := 45) (tgt := 98) Z dX4_settle_45 rfl (fun c3 => ?_) (fun c3 => ?_)
  · replace h := h.1 c3
    exact tX4_settle_98 hE1 hE2 hE3 hE4 hE5 hE6 Z hR  h
  · replace h := h.2 c3
    refine ez_iload_n (pc := 48) Z dX4_settle_48 1 rfl rfl ?_
    refine ez_bipush (pc := 49) Z dX4_settle_49 eb_64 ?_
    refine ez_icmp_ge (pc := 51) (tgt := 98) Z dX4_settle_51 rfl (fun c4 => ?_) (fun c4 => ?_)
    · replace h := h.1 c4
      exact tX4_settle_98 hE1 hE2 hE3 hE4 hE5 hE6 Z hR  h
    · replace h := h.2 c4
      refine ez_aload_n (pc := 54) Z dX4_settle_54 0 rfl rfl ?_
      refine fX4_letters (pc := 55) (M := s6) Z (hE6 s1 s2 s3 s4 s5) inX4_settle (List.mem_of_getElem? (i := 1) rfl) dX4_settle_55 ?_
      refine ez_callVi (pc := 58) (r := 42) (As := []) (st := []) Z (kX0_place Z.2.2.2.2.2.2.2.2.2.1 (E := fun q1 => E s1 s2 s3 q1 s5 s6) (hE4 s1 s2 s3 s5 s6) h) gX4_settle_X0_place rfl rfl rfl hdX0_place rfl rfl (by decide) (ew_oL (hE4 s1 s2 s3 s5 s6) _) rfl rfl rfl rfl dX4_settle_58 (fun r5 u6 h => ?_)
      refine ez_istore_n (pc := 61) (L' := [(3, .int r5), (0, .ref (X.2.1 46)), (2, .int v2)]) Z dX4_settle_61 rfl (by decide) rfl ?_
      refine ez_aload_n (pc := 62) Z dX4_settle_62 1 rfl rfl ?_
      refine fX4_letters (pc := 63) (M := s6) Z (hE6 s1 s2 s3 s4 s5) inX4_settle (List.mem_of_getElem? (i := 1) rfl) dX4_settle_63 ?_
      refine ez_callVi (pc := 66) (r := 42) (As := []) (st := []) Z (kX0_nextStatement Z.2.2.2.2.2.2.2.2.2.1 (E := fun q1 => E s1 s2 s3 q1 s5 s6) (hE4 s1 s2 s3 s5 s6) h) gX4_settle_X0_nextStatement rfl rfl rfl hdX0_nextStatement rfl rfl (by decide) (ew_oL (hE4 s1 s2 s3 s5 s6) _) rfl rfl rfl rfl dX4_settle_66 (fun r7 m8 h => ?_)
      refine ez_if_eq (pc := 69) (tgt := 86) Z dX4_settle_69 rfl (fun c9 => ?_) (fun c9 => ?_)
      · replace h := h.1 c9
        refine ez_sub [(3, .int r5)] [0] rfl ?_
        exact tX4_settle_86 hE1 hE2 hE3 hE4 hE5 hE6 Z hR  h
      · replace h := h.2 c9
        refine ez_aload_n (pc := 72) Z dX4_settle_72 1 rfl rfl ?_
        refine fX4_draft (pc := 73) (M := s6) Z (hE6 s1 s2 s3 m8 s5) inX4_settle (List.mem_of_getElem? (i := 2) rfl) dX4_settle_73 ?_
        refine ez_aload_n (pc := 76) Z dX4_settle_76 1 rfl rfl ?_
        refine fX4_letters (pc := 77) (M := s6) Z (hE6 s1 s2 s3 m8 s5) inX4_settle (List.mem_of_getElem? (i := 1) rfl) dX4_settle_77 ?_
        refine ez_callVi (pc := 80) (r := 14) (As := [.ref (X.2.1 42)]) (st := []) Z (kX3_takes Z.2.2.2.2.2.2.2.2.2.1 (E := fun q1 q2 => E s1 q1 s3 q2 s5 s6) (fun q2 => hE2 s1 s3 q2 s5 s6) (fun q1 => hE4 s1 q1 s3 s5 s6) h) gX4_settle_X3_takes rfl rfl rfl hdX3_takes rfl rfl (by decide) (ew_oT (hE2 s1 s3 m8 s5 s6) _) rfl rfl rfl rfl dX4_settle_80 (fun r10 m11 h => ?_)
        refine ez_if_ne (pc := 83) (tgt := 92) Z dX4_settle_83 rfl (fun c12 => ?_) (fun c12 => ?_)
        · replace h := h.1 c12
          refine ez_iinc (pc := 92) (L' := [(2, .int (v2 + (1 : Int32))), (3, .int r5), (0, .ref (X.2.1 46))]) Z dX4_settle_92 2 rfl (ei_1 _) (by decide) rfl ?_
          refine ez_goto (pc := 95) (tgt := 38) Z dX4_settle_95 rfl ?_
          refine ez_sub [(0, .ref (X.2.1 46)), (2, .int (v2 + (1 : Int32)))] [2, 0] rfl ?_
          exact hR38 _ h
        · replace h := h.2 c12
          refine ez_sub [(3, .int r5)] [0] rfl ?_
          exact tX4_settle_86 hE1 hE2 hE3 hE4 hE5 hE6 Z hR  h
set_option maxHeartbeats 4000000 in
set_option maxRecDepth 100000 in
theorem kX4_settle {X : ew_X} {l : Launch} (hX : ew_Ap X) {E : ew_M → ew_M → ew_M → ew_M → ew_M → ew_M → ew_S} (hE1 : ∀ (x2 x3 x4 x5 x6 : ew_M), ew_GE X 0 (ew_GT X.2.1 0) (fun M => E M x2 x3 x4 x5 x6)) (hE2 : ∀ (x1 x3 x4 x5 x6 : ew_M), ew_GE X 14 (ew_GT X.2.1 14) (fun M => E x1 M x3 x4 x5 x6)) (hE3 : ∀ (x1 x2 x4 x5 x6 : ew_M), ew_GE X 28 (ew_GT X.2.1 28) (fun M => E x1 x2 M x4 x5 x6)) (hE4 : ∀ (x1 x2 x3 x5 x6 : ew_M), ew_GE X 42 (ew_GL X.2.1) (fun M => E x1 x2 x3 M x5 x6)) (hE5 : ∀ (x1 x2 x3 x4 x6 : ew_M), ew_GE X 45 (ew_GR X.2.1) (fun M => E x1 x2 x3 x4 M x6)) (hE6 : ∀ (x1 x2 x3 x4 x5 : ew_M), ew_GE X 46 (ew_GX X.2.1) (fun M => E x1 x2 x3 x4 x5 M)) {Q : Int32 → ew_M → ew_M → ew_M → Prop} {s1 : ew_M} {s2 : ew_M} {s3 : ew_M} {s4 : ew_M} {s5 : ew_M} {s6 : ew_M} (h : wX4_settle Q s1 s2 s3 s4 s5 s6) : Met l yX4_settle wsX4_settle ({ frames := 7, cells := 0, slots := 0, locals := 153 } : Room) (va_Pc [.ref (X.2.1 46)] (ew_wd X (E s1 s2 s3 s4 s5 s6))) (va_Qi (fun (r : Int32) (u : ew_M × ew_M × ew_M) => Q r u.1 u.2.1 u.2.2) (fun (u : ew_M × ew_M × ew_M) => ew_wd X ((fun (u : ew_M × ew_M × ew_M) => E u.1 u.2.1 s3 u.2.2 s5 s6) u)) X.2.2.1) 0 0 X.2.2.1 := by
  refine ew_met (As := [.ref (X.2.1 46)]) (L0 := [(0, .ref (X.2.1 46))]) X l hX (by decide) rfl rfl rfl rfl (fun C hl Z hR => ?_)
  subst hl
  refine ez_aload_n (pc := 0) Z dX4_settle_0 0 rfl rfl ?_
  refine fX4_letters (pc := 1) (M := s6) Z (hE6 s1 s2 s3 s4 s5) inX4_settle (List.mem_of_getElem? (i := 1) rfl) dX4_settle_1 ?_
  refine ez_callVi (pc := 4) (r := 42) (As := []) (st := []) Z (kX0_brokenPlace Z.2.2.2.2.2.2.2.2.2.1 (E := fun q1 => E s1 s2 s3 q1 s5 s6) (hE4 s1 s2 s3 s5 s6) h) gX4_settle_X0_brokenPlace rfl rfl rfl hdX0_brokenPlace rfl rfl (by decide) (ew_oL (hE4 s1 s2 s3 s5 s6) _) rfl rfl rfl rfl dX4_settle_4 (fun r1 m2 h => ?_)
  refine ez_istore_n (pc := 7) (L' := [(1, .int r1), (0, .ref (X.2.1 46))]) Z dX4_settle_7 rfl (by decide) rfl ?_
  refine ez_iload_n (pc := 8) Z dX4_settle_8 0 rfl rfl ?_
  refine ez_if_lt (pc := 9) (tgt := 18) Z dX4_settle_9 rfl (fun c3 => ?_) (fun c3 => ?_)
  · replace h := h.1 c3
    refine ez_aload_n (pc := 18) Z dX4_settle_18 1 rfl rfl ?_
    refine fX4_draft (pc := 19) (M := s6) Z (hE6 s1 s2 s3 m2 s5) inX4_settle (List.mem_of_getElem? (i := 2) rfl) dX4_settle_19 ?_
    refine ez_aload_n (pc := 22) Z dX4_settle_22 1 rfl rfl ?_
    refine fX4_now (pc := 23) (M := s6) Z (hE6 s1 s2 s3 m2 s5) inX4_settle (List.mem_of_getElem? (i := 3) rfl) dX4_settle_23 ?_
    refine ez_callVv (pc := 26) (r := 14) (As := [.ref (X.2.1 0)]) (st := []) Z (kX3_become Z.2.2.2.2.2.2.2.2.2.1 (E := fun q1 q2 => E q2 q1 s3 m2 s5 s6) (fun q2 => hE2 q2 s3 m2 s5 s6) (fun q1 => hE1 q1 s3 m2 s5 s6) h) gX4_settle_X3_become rfl rfl rfl hdX3_become rfl rfl (by decide) (ew_oT (hE2 s1 s3 m2 s5 s6) _) rfl rfl rfl rfl dX4_settle_26 (fun m5 h => ?_)
    refine ez_aload_n (pc := 29) Z dX4_settle_29 1 rfl rfl ?_
    refine fX4_letters (pc := 30) (M := s6) Z (hE6 s1 m5 s3 m2 s5) inX4_settle (List.mem_of_getElem? (i := 1) rfl) dX4_settle_30 ?_
    refine ez_callVv (pc := 33) (r := 42) (As := []) (st := []) Z (kX0_rewind Z.2.2.2.2.2.2.2.2.2.1 (E := fun q1 => E s1 m5 s3 q1 s5 s6) (hE4 s1 m5 s3 s5 s6) h) gX4_settle_X0_rewind rfl rfl rfl hdX0_rewind rfl rfl (by decide) (ew_oL (hE4 s1 m5 s3 s5 s6) _) rfl rfl rfl rfl dX4_settle_33 (fun m7 h => ?_)
    refine ez_iconst (pc := 36) Z dX4_settle_36 ec_0 ?_
    refine ez_istore_n (pc := 37) (L' := [(2, .int (0 : Int32)), (1, .int r1), (0, .ref (X.2.1 46))]) Z dX4_settle_37 rfl (by decide) rfl ?_
    refine ez_sub [(0, .ref (X.2.1 46)), (2, .int (0 : Int32))] [2, 0] rfl ?_
    exact ew_ind (P := fun (x : Int32 × ew_M × ew_M) => ew_W C X 4 (E s1 x.2.1 s3 x.2.2 s5 s6) 38 [(0, .ref (X.2.1 46)), (2, .int x.1)] []) (fun R hR9 x h => tX4_settle_38 hE1 hE2 hE3 hE4 hE5 hE6 Z hR  hR9 h) h
  · replace h := h.2 c3
    refine ez_sipush (pc := 12) Z dX4_settle_12 es_m1000 ?_
    refine ez_iload_n (pc := 15) Z dX4_settle_15 0 rfl rfl ?_
    refine ez_isub (pc := 16) Z dX4_settle_16 ?_
    exact ez_iret (pc := 17) Z hR (s1, s2, m2) h rfl dX4_settle_17
theorem inX4_town : ∀ w ∈ wsX40, w ∈ wsX4_town := fun _ h => List.mem_cons_of_mem _ (List.mem_append_left _ (List.mem_append_left _ (List.mem_append_right _ (h))))
theorem hdX4_town : yX4_town.cls = RX4 ∧ yX4_town.cls ≠ "java/lang/invoke/MethodHandle" ∧ yX4_town.cls ≠ "java/lang/invoke/VarHandle" ∧ (parseMethodDescriptor yX4_town.desc).map (fun d => d.parameters.length) = some 0 := by decide +kernel
def wX4_town (Q : Int32 → ew_M → ew_M → ew_M → Prop) (s1 : ew_M) (s2 : ew_M) (s3 : ew_M) (s4 : ew_M) (s5 : ew_M) (s6 : ew_M) : Prop := wX4_settle (fun (r1 : Int32) (m2 : ew_M) (m3 : ew_M) (m4 : ew_M) => wX0_clear (fun (m7 : ew_M) => Q r1 m2 m3 m7) m4) s1 s2 s3 s4 s5 s6
set_option maxHeartbeats 4000000 in
set_option maxRecDepth 100000 in
theorem kX4_town {X : ew_X} {l : Launch} (hX : ew_Ap X) {E : ew_M → ew_M → ew_M → ew_M → ew_M → ew_M → ew_S} (hE1 : ∀ (x2 x3 x4 x5 x6 : ew_M), ew_GE X 0 (ew_GT X.2.1 0) (fun M => E M x2 x3 x4 x5 x6)) (hE2 : ∀ (x1 x3 x4 x5 x6 : ew_M), ew_GE X 14 (ew_GT X.2.1 14) (fun M => E x1 M x3 x4 x5 x6)) (hE3 : ∀ (x1 x2 x4 x5 x6 : ew_M), ew_GE X 28 (ew_GT X.2.1 28) (fun M => E x1 x2 M x4 x5 x6)) (hE4 : ∀ (x1 x2 x3 x5 x6 : ew_M), ew_GE X 42 (ew_GL X.2.1) (fun M => E x1 x2 x3 M x5 x6)) (hE5 : ∀ (x1 x2 x3 x4 x6 : ew_M), ew_GE X 45 (ew_GR X.2.1) (fun M => E x1 x2 x3 x4 M x6)) (hE6 : ∀ (x1 x2 x3 x4 x5 : ew_M), ew_GE X 46 (ew_GX X.2.1) (fun M => E x1 x2 x3 x4 x5 M)) {Q : Int32 → ew_M → ew_M → ew_M → Prop} {s1 : ew_M} {s2 : ew_M} {s3 : ew_M} {s4 : ew_M} {s5 : ew_M} {s6 : ew_M} (h : wX4_town Q s1 s2 s3 s4 s5 s6) : Met l yX4_town wsX4_town ({ frames := 8, cells := 0, slots := 0, locals := 176 } : Room) (va_Pc [.ref (X.2.1 46)] (ew_wd X (E s1 s2 s3 s4 s5 s6))) (va_Qi (fun (r : Int32) (u : ew_M × ew_M × ew_M) => Q r u.1 u.2.1 u.2.2) (fun (u : ew_M × ew_M × ew_M) => ew_wd X ((fun (u : ew_M × ew_M × ew_M) => E u.1 u.2.1 s3 u.2.2 s5 s6) u)) X.2.2.1) 0 0 X.2.2.1 := by
  refine ew_met (As := [.ref (X.2.1 46)]) (L0 := [(0, .ref (X.2.1 46))]) X l hX (by decide) rfl rfl rfl rfl (fun C hl Z hR => ?_)
  subst hl
  refine ez_aload_n (pc := 0) Z dX4_town_0 0 rfl rfl ?_
  refine ez_callVi (pc := 1) (r := 46) (As := []) (st := []) Z (kX4_settle Z.2.2.2.2.2.2.2.2.2.1 (E := E) hE1 hE2 hE3 hE4 hE5 hE6 h) gX4_town_X4_settle rfl rfl rfl hdX4_settle rfl rfl (by decide) (ew_oX0 (hE6 s1 s2 s3 s4 s5) _) rfl rfl rfl rfl dX4_town_1 (fun r1 u5 h => ?_)
  obtain ⟨m2, m3, m4⟩ := u5
  dsimp only at h ⊢
  refine ez_istore_n (pc := 4) (L' := [(1, .int r1), (0, .ref (X.2.1 46))]) Z dX4_town_4 rfl (by decide) rfl ?_
  refine ez_aload_n (pc := 5) Z dX4_town_5 1 rfl rfl ?_
  refine fX4_letters (pc := 6) (M := s6) Z (hE6 m2 m3 s3 m4 s5) inX4_town (List.mem_of_getElem? (i := 1) rfl) dX4_town_6 ?_
  refine ez_callVv (pc := 9) (r := 42) (As := []) (st := []) Z (kX0_clear Z.2.2.2.2.2.2.2.2.2.1 (E := fun q1 => E m2 m3 s3 q1 s5 s6) (hE4 m2 m3 s3 s5 s6) h) gX4_town_X0_clear rfl rfl rfl hdX0_clear rfl rfl (by decide) (ew_oL (hE4 m2 m3 s3 s5 s6) _) rfl rfl rfl rfl dX4_town_9 (fun m7 h => ?_)
  refine ez_iload_n (pc := 12) Z dX4_town_12 0 rfl rfl ?_
  exact ez_iret (pc := 13) Z hR (m2, m3, m7) h rfl dX4_town_13
theorem inX4_person : ∀ w ∈ wsX40, w ∈ wsX4_person := fun _ h => List.mem_cons_of_mem _ (List.mem_append_left _ (List.mem_append_right _ (h)))
theorem hdX4_person : yX4_person.cls = RX4 ∧ yX4_person.cls ≠ "java/lang/invoke/MethodHandle" ∧ yX4_person.cls ≠ "java/lang/invoke/VarHandle" ∧ (parseMethodDescriptor yX4_person.desc).map (fun d => d.parameters.length) = some 2 := by decide +kernel
def wX4_person_26  (Q : Int32 → ew_M → Prop) (s1 : ew_M) (s2 : ew_M) (s3 : ew_M) (s4 : ew_M) (s5 : ew_M) (s6 : ew_M) : Prop := wX4_refuse (fun (r1 : Int32) (m2 : ew_M) => Q r1 m2) (2 : Int32) s1 s2 s3 s4 s5 s6
def wX4_person (Q : Int32 → ew_M → Prop) (p1 : Int32) (p2 : Int32) (s1 : ew_M) (s2 : ew_M) (s3 : ew_M) (s4 : ew_M) (s5 : ew_M) (s6 : ew_M) : Prop := wX3_hasPerson (fun (r1 : Int32) => (¬ r1 = 0 → (p2 < 0 → wX4_person_26 Q s1 s2 s3 s4 s5 s6) ∧ (¬ p2 < 0 → (p2 ≤ (4 : Int32) → wX3_personFact (fun (r6 : Int32) => Q r6 s6) p1 p2 s1) ∧ (¬ p2 ≤ (4 : Int32) → wX4_person_26 Q s1 s2 s3 s4 s5 s6))) ∧ (r1 = 0 → wX4_refuse (fun (r8 : Int32) (m9 : ew_M) => Q r8 m9) (1 : Int32) s1 s2 s3 s4 s5 s6)) p1 s1
set_option maxHeartbeats 4000000 in
set_option maxRecDepth 100000 in
theorem tX4_person_26 {C : ew_C} {X : ew_X} {E : ew_M → ew_M → ew_M → ew_M → ew_M → ew_M → ew_S} (hE1 : ∀ (x2 x3 x4 x5 x6 : ew_M), ew_GE X 0 (ew_GT X.2.1 0) (fun M => E M x2 x3 x4 x5 x6)) (hE2 : ∀ (x1 x3 x4 x5 x6 : ew_M), ew_GE X 14 (ew_GT X.2.1 14) (fun M => E x1 M x3 x4 x5 x6)) (hE3 : ∀ (x1 x2 x4 x5 x6 : ew_M), ew_GE X 28 (ew_GT X.2.1 28) (fun M => E x1 x2 M x4 x5 x6)) (hE4 : ∀ (x1 x2 x3 x5 x6 : ew_M), ew_GE X 42 (ew_GL X.2.1) (fun M => E x1 x2 x3 M x5 x6)) (hE5 : ∀ (x1 x2 x3 x4 x6 : ew_M), ew_GE X 45 (ew_GR X.2.1) (fun M => E x1 x2 x3 x4 M x6)) (hE6 : ∀ (x1 x2 x3 x4 x5 : ew_M), ew_GE X 46 (ew_GX X.2.1) (fun M => E x1 x2 x3 x4 x5 M)) (Z : ew_Z C X cX4_person 3 RX4 wsX4_person ({ frames := 2, cells := 0, slots := 0, locals := 46 } : Room) (some .int)) {Q : Int32 → ew_M → Prop}  {s1 : ew_M} {s2 : ew_M} {s3 : ew_M} {s4 : ew_M} {s5 : ew_M} {s6 : ew_M} (hR : C.2.2.2.2.2.2.2.2.2.2 = MQ C.2.2.2.2.2.2.2.1 (va_Qi (fun (r : Int32) (u : ew_M) => Q r u) (fun (u : ew_M) => ew_wd X ((fun (u : ew_M) => E s1 s2 s3 s4 s5 u) u)) X.2.2.1) C.2.2.2.2.2.2.1 C.2.2.2.2.1 0 0 X.2.2.1) (h : wX4_person_26 Q s1 s2 s3 s4 s5 s6) : ew_W C X 3 (E s1 s2 s3 s4 s5 s6) 26 [(0, .ref (X.2.1 46))] [] := by
  refine ez_aload_n (pc := 26) Z dX4_person_26 0 rfl rfl ?_
  refine ez_iconst (pc := 27) Z dX4_person_27 ec_2 ?_
  refine ez_callVi (pc := 28) (r := 46) (As := [.int (2 : Int32)]) (st := []) Z (kX4_refuse Z.2.2.2.2.2.2.2.2.2.1 (E := E) hE1 hE2 hE3 hE4 hE5 hE6 h) gX4_person_X4_refuse rfl rfl rfl hdX4_refuse rfl rfl (by decide) (ew_oX0 (hE6 s1 s2 s3 s4 s5) _) rfl rfl rfl rfl dX4_person_28 (fun r1 m2 h => ?_)
  exact ez_iret (pc := 31) Z hR m2 h rfl dX4_person_31
set_option maxHeartbeats 4000000 in
set_option maxRecDepth 100000 in
theorem kX4_person {X : ew_X} {l : Launch} (hX : ew_Ap X) {E : ew_M → ew_M → ew_M → ew_M → ew_M → ew_M → ew_S} (hE1 : ∀ (x2 x3 x4 x5 x6 : ew_M), ew_GE X 0 (ew_GT X.2.1 0) (fun M => E M x2 x3 x4 x5 x6)) (hE2 : ∀ (x1 x3 x4 x5 x6 : ew_M), ew_GE X 14 (ew_GT X.2.1 14) (fun M => E x1 M x3 x4 x5 x6)) (hE3 : ∀ (x1 x2 x4 x5 x6 : ew_M), ew_GE X 28 (ew_GT X.2.1 28) (fun M => E x1 x2 M x4 x5 x6)) (hE4 : ∀ (x1 x2 x3 x5 x6 : ew_M), ew_GE X 42 (ew_GL X.2.1) (fun M => E x1 x2 x3 M x5 x6)) (hE5 : ∀ (x1 x2 x3 x4 x6 : ew_M), ew_GE X 45 (ew_GR X.2.1) (fun M => E x1 x2 x3 x4 M x6)) (hE6 : ∀ (x1 x2 x3 x4 x5 : ew_M), ew_GE X 46 (ew_GX X.2.1) (fun M => E x1 x2 x3 x4 x5 M)) {Q : Int32 → ew_M → Prop} {p1 : Int32} {p2 : Int32} {s1 : ew_M} {s2 : ew_M} {s3 : ew_M} {s4 : ew_M} {s5 : ew_M} {s6 : ew_M} (h : wX4_person Q p1 p2 s1 s2 s3 s4 s5 s6) : Met l yX4_person wsX4_person ({ frames := 2, cells := 0, slots := 0, locals := 46 } : Room) (va_Pc [.ref (X.2.1 46), .int p1, .int p2] (ew_wd X (E s1 s2 s3 s4 s5 s6))) (va_Qi (fun (r : Int32) (u : ew_M) => Q r u) (fun (u : ew_M) => ew_wd X ((fun (u : ew_M) => E s1 s2 s3 s4 s5 u) u)) X.2.2.1) 0 0 X.2.2.1 := by
  refine ew_met (As := [.ref (X.2.1 46), .int p1, .int p2]) (L0 := [(0, .ref (X.2.1 46)), (1, .int p1), (2, .int p2)]) X l hX (by decide) rfl rfl rfl rfl (fun C hl Z hR => ?_)
  subst hl
  refine ez_aload_n (pc := 0) Z dX4_person_0 0 rfl rfl ?_
  refine fX4_now (pc := 1) (M := s6) Z (hE6 s1 s2 s3 s4 s5) inX4_person (List.mem_of_getElem? (i := 1) rfl) dX4_person_1 ?_
  refine ez_iload_n (pc := 4) Z dX4_person_4 1 rfl rfl ?_
  refine ez_callVi (pc := 5) (r := 0) (As := [.int p1]) (st := []) Z (kX3_hasPerson Z.2.2.2.2.2.2.2.2.2.1 (E := fun q1 => E q1 s2 s3 s4 s5 s6) (hE1 s2 s3 s4 s5 s6) h) gX4_person_X3_hasPerson rfl rfl rfl hdX3_hasPerson rfl rfl (by decide) (ew_oT (hE1 s2 s3 s4 s5 s6) _) rfl rfl rfl rfl dX4_person_5 (fun r1 u2 h => ?_)
  refine ez_if_ne (pc := 8) (tgt := 17) Z dX4_person_8 rfl (fun c3 => ?_) (fun c3 => ?_)
  · replace h := h.1 c3
    refine ez_iload_n (pc := 17) Z dX4_person_17 2 rfl rfl ?_
    refine ez_if_lt (pc := 18) (tgt := 26) Z dX4_person_18 rfl (fun c4 => ?_) (fun c4 => ?_)
    · replace h := h.1 c4
      refine ez_sub [(0, .ref (X.2.1 46))] [0] rfl ?_
      exact tX4_person_26 hE1 hE2 hE3 hE4 hE5 hE6 Z hR  h
    · replace h := h.2 c4
      refine ez_iload_n (pc := 21) Z dX4_person_21 2 rfl rfl ?_
      refine ez_iconst (pc := 22) Z dX4_person_22 ec_4 ?_
      refine ez_icmp_le (pc := 23) (tgt := 32) Z dX4_person_23 rfl (fun c5 => ?_) (fun c5 => ?_)
      · replace h := h.1 c5
        refine ez_aload_n (pc := 32) Z dX4_person_32 0 rfl rfl ?_
        refine fX4_now (pc := 33) (M := s6) Z (hE6 s1 s2 s3 s4 s5) inX4_person (List.mem_of_getElem? (i := 1) rfl) dX4_person_33 ?_
        refine ez_iload_n (pc := 36) Z dX4_person_36 1 rfl rfl ?_
        refine ez_iload_n (pc := 37) Z dX4_person_37 2 rfl rfl ?_
        refine ez_callVi (pc := 38) (r := 0) (As := [.int p1, .int p2]) (st := []) Z (kX3_personFact Z.2.2.2.2.2.2.2.2.2.1 (E := fun q1 => E q1 s2 s3 s4 s5 s6) (hE1 s2 s3 s4 s5 s6) h) gX4_person_X3_personFact rfl rfl rfl hdX3_personFact rfl rfl (by decide) (ew_oT (hE1 s2 s3 s4 s5 s6) _) rfl rfl rfl rfl dX4_person_38 (fun r6 u7 h => ?_)
        exact ez_iret (pc := 41) Z hR s6 h rfl dX4_person_41
      · replace h := h.2 c5
        refine ez_sub [(0, .ref (X.2.1 46))] [0] rfl ?_
        exact tX4_person_26 hE1 hE2 hE3 hE4 hE5 hE6 Z hR  h
  · replace h := h.2 c3
    refine ez_aload_n (pc := 11) Z dX4_person_11 0 rfl rfl ?_
    refine ez_iconst (pc := 12) Z dX4_person_12 ec_1 ?_
    refine ez_callVi (pc := 13) (r := 46) (As := [.int (1 : Int32)]) (st := []) Z (kX4_refuse Z.2.2.2.2.2.2.2.2.2.1 (E := E) hE1 hE2 hE3 hE4 hE5 hE6 h) gX4_person_X4_refuse rfl rfl rfl hdX4_refuse rfl rfl (by decide) (ew_oX0 (hE6 s1 s2 s3 s4 s5) _) rfl rfl rfl rfl dX4_person_13 (fun r8 m9 h => ?_)
    exact ez_iret (pc := 16) Z hR m9 h rfl dX4_person_16
theorem inX4_paper : ∀ w ∈ wsX40, w ∈ wsX4_paper := fun _ h => List.mem_cons_of_mem _ (List.mem_append_left _ (List.mem_append_right _ (h)))
theorem hdX4_paper : yX4_paper.cls = RX4 ∧ yX4_paper.cls ≠ "java/lang/invoke/MethodHandle" ∧ yX4_paper.cls ≠ "java/lang/invoke/VarHandle" ∧ (parseMethodDescriptor yX4_paper.desc).map (fun d => d.parameters.length) = some 2 := by decide +kernel
def wX4_paper_27  (Q : Int32 → ew_M → Prop) (s1 : ew_M) (s2 : ew_M) (s3 : ew_M) (s4 : ew_M) (s5 : ew_M) (s6 : ew_M) : Prop := wX4_refuse (fun (r1 : Int32) (m2 : ew_M) => Q r1 m2) (2 : Int32) s1 s2 s3 s4 s5 s6
def wX4_paper (Q : Int32 → ew_M → Prop) (p1 : Int32) (p2 : Int32) (s1 : ew_M) (s2 : ew_M) (s3 : ew_M) (s4 : ew_M) (s5 : ew_M) (s6 : ew_M) : Prop := wX3_hasPaper (fun (r1 : Int32) => (¬ r1 = 0 → (p2 < 0 → wX4_paper_27 Q s1 s2 s3 s4 s5 s6) ∧ (¬ p2 < 0 → (p2 ≤ (7 : Int32) → wX3_paperFact (fun (r6 : Int32) => Q r6 s6) p1 p2 s1) ∧ (¬ p2 ≤ (7 : Int32) → wX4_paper_27 Q s1 s2 s3 s4 s5 s6))) ∧ (r1 = 0 → wX4_refuse (fun (r8 : Int32) (m9 : ew_M) => Q r8 m9) (1 : Int32) s1 s2 s3 s4 s5 s6)) p1 s1
set_option maxHeartbeats 4000000 in
set_option maxRecDepth 100000 in
theorem tX4_paper_27 {C : ew_C} {X : ew_X} {E : ew_M → ew_M → ew_M → ew_M → ew_M → ew_M → ew_S} (hE1 : ∀ (x2 x3 x4 x5 x6 : ew_M), ew_GE X 0 (ew_GT X.2.1 0) (fun M => E M x2 x3 x4 x5 x6)) (hE2 : ∀ (x1 x3 x4 x5 x6 : ew_M), ew_GE X 14 (ew_GT X.2.1 14) (fun M => E x1 M x3 x4 x5 x6)) (hE3 : ∀ (x1 x2 x4 x5 x6 : ew_M), ew_GE X 28 (ew_GT X.2.1 28) (fun M => E x1 x2 M x4 x5 x6)) (hE4 : ∀ (x1 x2 x3 x5 x6 : ew_M), ew_GE X 42 (ew_GL X.2.1) (fun M => E x1 x2 x3 M x5 x6)) (hE5 : ∀ (x1 x2 x3 x4 x6 : ew_M), ew_GE X 45 (ew_GR X.2.1) (fun M => E x1 x2 x3 x4 M x6)) (hE6 : ∀ (x1 x2 x3 x4 x5 : ew_M), ew_GE X 46 (ew_GX X.2.1) (fun M => E x1 x2 x3 x4 x5 M)) (Z : ew_Z C X cX4_paper 3 RX4 wsX4_paper ({ frames := 4, cells := 0, slots := 0, locals := 87 } : Room) (some .int)) {Q : Int32 → ew_M → Prop}  {s1 : ew_M} {s2 : ew_M} {s3 : ew_M} {s4 : ew_M} {s5 : ew_M} {s6 : ew_M} (hR : C.2.2.2.2.2.2.2.2.2.2 = MQ C.2.2.2.2.2.2.2.1 (va_Qi (fun (r : Int32) (u : ew_M) => Q r u) (fun (u : ew_M) => ew_wd X ((fun (u : ew_M) => E s1 s2 s3 s4 s5 u) u)) X.2.2.1) C.2.2.2.2.2.2.1 C.2.2.2.2.1 0 0 X.2.2.1) (h : wX4_paper_27 Q s1 s2 s3 s4 s5 s6) : ew_W C X 3 (E s1 s2 s3 s4 s5 s6) 27 [(0, .ref (X.2.1 46))] [] := by
  refine ez_aload_n (pc := 27) Z dX4_paper_27 0 rfl rfl ?_
  refine ez_iconst (pc := 28) Z dX4_paper_28 ec_2 ?_
  refine ez_callVi (pc := 29) (r := 46) (As := [.int (2 : Int32)]) (st := []) Z (kX4_refuse Z.2.2.2.2.2.2.2.2.2.1 (E := E) hE1 hE2 hE3 hE4 hE5 hE6 h) gX4_paper_X4_refuse rfl rfl rfl hdX4_refuse rfl rfl (by decide) (ew_oX0 (hE6 s1 s2 s3 s4 s5) _) rfl rfl rfl rfl dX4_paper_29 (fun r1 m2 h => ?_)
  exact ez_iret (pc := 32) Z hR m2 h rfl dX4_paper_32
set_option maxHeartbeats 4000000 in
set_option maxRecDepth 100000 in
theorem kX4_paper {X : ew_X} {l : Launch} (hX : ew_Ap X) {E : ew_M → ew_M → ew_M → ew_M → ew_M → ew_M → ew_S} (hE1 : ∀ (x2 x3 x4 x5 x6 : ew_M), ew_GE X 0 (ew_GT X.2.1 0) (fun M => E M x2 x3 x4 x5 x6)) (hE2 : ∀ (x1 x3 x4 x5 x6 : ew_M), ew_GE X 14 (ew_GT X.2.1 14) (fun M => E x1 M x3 x4 x5 x6)) (hE3 : ∀ (x1 x2 x4 x5 x6 : ew_M), ew_GE X 28 (ew_GT X.2.1 28) (fun M => E x1 x2 M x4 x5 x6)) (hE4 : ∀ (x1 x2 x3 x5 x6 : ew_M), ew_GE X 42 (ew_GL X.2.1) (fun M => E x1 x2 x3 M x5 x6)) (hE5 : ∀ (x1 x2 x3 x4 x6 : ew_M), ew_GE X 45 (ew_GR X.2.1) (fun M => E x1 x2 x3 x4 M x6)) (hE6 : ∀ (x1 x2 x3 x4 x5 : ew_M), ew_GE X 46 (ew_GX X.2.1) (fun M => E x1 x2 x3 x4 x5 M)) {Q : Int32 → ew_M → Prop} {p1 : Int32} {p2 : Int32} {s1 : ew_M} {s2 : ew_M} {s3 : ew_M} {s4 : ew_M} {s5 : ew_M} {s6 : ew_M} (h : wX4_paper Q p1 p2 s1 s2 s3 s4 s5 s6) : Met l yX4_paper wsX4_paper ({ frames := 4, cells := 0, slots := 0, locals := 87 } : Room) (va_Pc [.ref (X.2.1 46), .int p1, .int p2] (ew_wd X (E s1 s2 s3 s4 s5 s6))) (va_Qi (fun (r : Int32) (u : ew_M) => Q r u) (fun (u : ew_M) => ew_wd X ((fun (u : ew_M) => E s1 s2 s3 s4 s5 u) u)) X.2.2.1) 0 0 X.2.2.1 := by
  refine ew_met (As := [.ref (X.2.1 46), .int p1, .int p2]) (L0 := [(0, .ref (X.2.1 46)), (1, .int p1), (2, .int p2)]) X l hX (by decide) rfl rfl rfl rfl (fun C hl Z hR => ?_)
  subst hl
  refine ez_aload_n (pc := 0) Z dX4_paper_0 0 rfl rfl ?_
  refine fX4_now (pc := 1) (M := s6) Z (hE6 s1 s2 s3 s4 s5) inX4_paper (List.mem_of_getElem? (i := 1) rfl) dX4_paper_1 ?_
  refine ez_iload_n (pc := 4) Z dX4_paper_4 1 rfl rfl ?_
  refine ez_callVi (pc := 5) (r := 0) (As := [.int p1]) (st := []) Z (kX3_hasPaper Z.2.2.2.2.2.2.2.2.2.1 (E := fun q1 => E q1 s2 s3 s4 s5 s6) (hE1 s2 s3 s4 s5 s6) h) gX4_paper_X3_hasPaper rfl rfl rfl hdX3_hasPaper rfl rfl (by decide) (ew_oT (hE1 s2 s3 s4 s5 s6) _) rfl rfl rfl rfl dX4_paper_5 (fun r1 u2 h => ?_)
  refine ez_if_ne (pc := 8) (tgt := 17) Z dX4_paper_8 rfl (fun c3 => ?_) (fun c3 => ?_)
  · replace h := h.1 c3
    refine ez_iload_n (pc := 17) Z dX4_paper_17 2 rfl rfl ?_
    refine ez_if_lt (pc := 18) (tgt := 27) Z dX4_paper_18 rfl (fun c4 => ?_) (fun c4 => ?_)
    · replace h := h.1 c4
      refine ez_sub [(0, .ref (X.2.1 46))] [0] rfl ?_
      exact tX4_paper_27 hE1 hE2 hE3 hE4 hE5 hE6 Z hR  h
    · replace h := h.2 c4
      refine ez_iload_n (pc := 21) Z dX4_paper_21 2 rfl rfl ?_
      refine ez_bipush (pc := 22) Z dX4_paper_22 eb_7 ?_
      refine ez_icmp_le (pc := 24) (tgt := 33) Z dX4_paper_24 rfl (fun c5 => ?_) (fun c5 => ?_)
      · replace h := h.1 c5
        refine ez_aload_n (pc := 33) Z dX4_paper_33 0 rfl rfl ?_
        refine fX4_now (pc := 34) (M := s6) Z (hE6 s1 s2 s3 s4 s5) inX4_paper (List.mem_of_getElem? (i := 1) rfl) dX4_paper_34 ?_
        refine ez_iload_n (pc := 37) Z dX4_paper_37 1 rfl rfl ?_
        refine ez_iload_n (pc := 38) Z dX4_paper_38 2 rfl rfl ?_
        refine ez_callVi (pc := 39) (r := 0) (As := [.int p1, .int p2]) (st := []) Z (kX3_paperFact Z.2.2.2.2.2.2.2.2.2.1 (E := fun q1 => E q1 s2 s3 s4 s5 s6) (hE1 s2 s3 s4 s5 s6) h) gX4_paper_X3_paperFact rfl rfl rfl hdX3_paperFact rfl rfl (by decide) (ew_oT (hE1 s2 s3 s4 s5 s6) _) rfl rfl rfl rfl dX4_paper_39 (fun r6 u7 h => ?_)
        exact ez_iret (pc := 42) Z hR s6 h rfl dX4_paper_42
      · replace h := h.2 c5
        refine ez_sub [(0, .ref (X.2.1 46))] [0] rfl ?_
        exact tX4_paper_27 hE1 hE2 hE3 hE4 hE5 hE6 Z hR  h
  · replace h := h.2 c3
    refine ez_aload_n (pc := 11) Z dX4_paper_11 0 rfl rfl ?_
    refine ez_iconst (pc := 12) Z dX4_paper_12 ec_1 ?_
    refine ez_callVi (pc := 13) (r := 46) (As := [.int (1 : Int32)]) (st := []) Z (kX4_refuse Z.2.2.2.2.2.2.2.2.2.1 (E := E) hE1 hE2 hE3 hE4 hE5 hE6 h) gX4_paper_X4_refuse rfl rfl rfl hdX4_refuse rfl rfl (by decide) (ew_oX0 (hE6 s1 s2 s3 s4 s5) _) rfl rfl rfl rfl dX4_paper_13 (fun r8 m9 h => ?_)
    exact ez_iret (pc := 16) Z hR m9 h rfl dX4_paper_16
theorem hdX4_isNoThing : yX4_isNoThing.cls ≠ "java/lang/invoke/MethodHandle" ∧ yX4_isNoThing.cls ≠ "java/lang/invoke/VarHandle" ∧ (parseMethodDescriptor yX4_isNoThing.desc).map (fun d => d.parameters.length) = some 1 := by decide +kernel
def wX4_isNoThing (Q : Int32 → Prop) (p1 : Int32) : Prop := (p1 < 0 → Q (1 : Int32) ) ∧ (¬ p1 < 0 → (p1 < (3 : Int32) → Q (0 : Int32) ) ∧ (¬ p1 < (3 : Int32) → Q (1 : Int32) ))
set_option maxHeartbeats 4000000 in
set_option maxRecDepth 100000 in
theorem kX4_isNoThing {X : ew_X} {l : Launch} (hX : ew_Ap X) {S : ew_S} {Q : Int32 → Prop} {p1 : Int32} (h : wX4_isNoThing Q p1) : Met l yX4_isNoThing wsX4_isNoThing ({ frames := 0, cells := 0, slots := 0, locals := 0 } : Room) (va_Pc [.int p1] (ew_wd X (S))) (va_Qi (fun (r : Int32) (_ : Unit) => Q r) (fun (u : Unit) => ew_wd X ((fun (_ : Unit) => S) u)) X.2.2.1) 0 0 X.2.2.1 := by
  refine ew_met (As := [.int p1]) (L0 := [(0, .int p1)]) X l hX (by decide) rfl rfl rfl rfl (fun C hl Z hR => ?_)
  subst hl
  refine ez_iload_n (pc := 0) Z dX4_isNoThing_0 0 rfl rfl ?_
  refine ez_if_lt (pc := 1) (tgt := 9) Z dX4_isNoThing_1 rfl (fun c1 => ?_) (fun c1 => ?_)
  · replace h := h.1 c1
    refine ez_iconst (pc := 9) Z dX4_isNoThing_9 ec_1 ?_
    refine ez_goto (pc := 10) (tgt := 14) Z dX4_isNoThing_10 rfl ?_
    exact ez_zret (pc := 14) Z hR () rfl h rfl dX4_isNoThing_14
  · replace h := h.2 c1
    refine ez_iload_n (pc := 4) Z dX4_isNoThing_4 0 rfl rfl ?_
    refine ez_iconst (pc := 5) Z dX4_isNoThing_5 ec_3 ?_
    refine ez_icmp_lt (pc := 6) (tgt := 13) Z dX4_isNoThing_6 rfl (fun c2 => ?_) (fun c2 => ?_)
    · replace h := h.1 c2
      refine ez_iconst (pc := 13) Z dX4_isNoThing_13 ec_0 ?_
      exact ez_zret (pc := 14) Z hR () rfl h rfl dX4_isNoThing_14
    · replace h := h.2 c2
      refine ez_iconst (pc := 9) Z dX4_isNoThing_9 ec_1 ?_
      refine ez_goto (pc := 10) (tgt := 14) Z dX4_isNoThing_10 rfl ?_
      exact ez_zret (pc := 14) Z hR () rfl h rfl dX4_isNoThing_14
theorem inX4_refuseFar : ∀ w ∈ wsX40, w ∈ wsX4_refuseFar := fun _ h => List.mem_cons_of_mem _ (List.mem_append_right _ (h))
theorem hdX4_refuseFar : yX4_refuseFar.cls = RX4 ∧ yX4_refuseFar.cls ≠ "java/lang/invoke/MethodHandle" ∧ yX4_refuseFar.cls ≠ "java/lang/invoke/VarHandle" ∧ (parseMethodDescriptor yX4_refuseFar.desc).map (fun d => d.parameters.length) = some 1 := by decide +kernel
def wX4_refuseFar (Q : Int32 → ew_M → Prop) (p1 : Int32) (s1 : ew_M) (s2 : ew_M) (s3 : ew_M) (s4 : ew_M) (s5 : ew_M) (s6 : ew_M) : Prop := vp_in p1 7 ∧ (vp_in p1 7 ∧ (Q ((1000000000 : Int32) + p1) (ew_sA s6 1 p1.toNatClampNeg ((s6.2.1 1 p1.toNatClampNeg) + (1 : Int32)))))
set_option maxHeartbeats 4000000 in
set_option maxRecDepth 100000 in
theorem kX4_refuseFar {X : ew_X} {l : Launch} (hX : ew_Ap X) {E : ew_M → ew_M → ew_M → ew_M → ew_M → ew_M → ew_S} (hE1 : ∀ (x2 x3 x4 x5 x6 : ew_M), ew_GE X 0 (ew_GT X.2.1 0) (fun M => E M x2 x3 x4 x5 x6)) (hE2 : ∀ (x1 x3 x4 x5 x6 : ew_M), ew_GE X 14 (ew_GT X.2.1 14) (fun M => E x1 M x3 x4 x5 x6)) (hE3 : ∀ (x1 x2 x4 x5 x6 : ew_M), ew_GE X 28 (ew_GT X.2.1 28) (fun M => E x1 x2 M x4 x5 x6)) (hE4 : ∀ (x1 x2 x3 x5 x6 : ew_M), ew_GE X 42 (ew_GL X.2.1) (fun M => E x1 x2 x3 M x5 x6)) (hE5 : ∀ (x1 x2 x3 x4 x6 : ew_M), ew_GE X 45 (ew_GR X.2.1) (fun M => E x1 x2 x3 x4 M x6)) (hE6 : ∀ (x1 x2 x3 x4 x5 : ew_M), ew_GE X 46 (ew_GX X.2.1) (fun M => E x1 x2 x3 x4 x5 M)) {Q : Int32 → ew_M → Prop} {p1 : Int32} {s1 : ew_M} {s2 : ew_M} {s3 : ew_M} {s4 : ew_M} {s5 : ew_M} {s6 : ew_M} (h : wX4_refuseFar Q p1 s1 s2 s3 s4 s5 s6) : Met l yX4_refuseFar wsX4_refuseFar ({ frames := 0, cells := 0, slots := 0, locals := 0 } : Room) (va_Pc [.ref (X.2.1 46), .int p1] (ew_wd X (E s1 s2 s3 s4 s5 s6))) (va_Qi (fun (r : Int32) (u : ew_M) => Q r u) (fun (u : ew_M) => ew_wd X ((fun (u : ew_M) => E s1 s2 s3 s4 s5 u) u)) X.2.2.1) 0 0 X.2.2.1 := by
  refine ew_met (As := [.ref (X.2.1 46), .int p1]) (L0 := [(0, .ref (X.2.1 46)), (1, .int p1)]) X l hX (by decide) rfl rfl rfl rfl (fun C hl Z hR => ?_)
  subst hl
  refine ez_aload_n (pc := 0) Z dX4_refuseFar_0 0 rfl rfl ?_
  refine fX4_refusals (pc := 1) (M := s6) Z (hE6 s1 s2 s3 s4 s5) inX4_refuseFar (List.mem_of_getElem? (i := 1) rfl) dX4_refuseFar_1 ?_
  refine ez_iload_n (pc := 4) Z dX4_refuseFar_4 1 rfl rfl ?_
  refine ez_dup2_11 (pc := 5) Z dX4_refuseFar_5 rfl rfl ?_
  refine ez_iald (pc := 6) (n := 7) (a := 1) (v := s6.2.1 1 p1.toNatClampNeg) (M := s6) Z (hE6 s1 s2 s3 s4 s5) 3 rfl (by decide : 1 < 2) rfl rfl h.1 dX4_refuseFar_6 ?_
  replace h := h.2
  refine ez_iconst (pc := 7) Z dX4_refuseFar_7 ec_1 ?_
  refine ez_iadd (pc := 8) Z dX4_refuseFar_8 ?_
  refine ez_iast (pc := 9) (n := 7) (a := 1) (M := s6) (M' := ew_sA s6 1 p1.toNatClampNeg ((s6.2.1 1 p1.toNatClampNeg) + (1 : Int32))) Z (hE6 s1 s2 s3 s4 s5) 3 rfl (by decide : 1 < 2) rfl rfl h.1 dX4_refuseFar_9 ?_
  replace h := h.2
  refine ez_ldc (pc := 10) Z (List.mem_of_getElem? (i := 2) rfl) dX4_refuseFar_10 ?_
  refine ez_iload_n (pc := 12) Z dX4_refuseFar_12 1 rfl rfl ?_
  refine ez_iadd (pc := 13) Z dX4_refuseFar_13 ?_
  exact ez_iret (pc := 14) Z hR (ew_sA s6 1 p1.toNatClampNeg ((s6.2.1 1 p1.toNatClampNeg) + (1 : Int32))) h rfl dX4_refuseFar_14
theorem inX4_brings : ∀ w ∈ wsX40, w ∈ wsX4_brings := fun _ h => List.mem_cons_of_mem _ (List.mem_append_left _ (List.mem_append_right _ (h)))
theorem hdX4_brings : yX4_brings.cls = RX4 ∧ yX4_brings.cls ≠ "java/lang/invoke/MethodHandle" ∧ yX4_brings.cls ≠ "java/lang/invoke/VarHandle" ∧ (parseMethodDescriptor yX4_brings.desc).map (fun d => d.parameters.length) = some 2 := by decide +kernel
def wX4_brings_18  (Q : Int32 → ew_M → Prop) (s1 : ew_M) (s2 : ew_M) (s3 : ew_M) (s4 : ew_M) (s5 : ew_M) (s6 : ew_M) : Prop := wX4_refuseFar (fun (r1 : Int32) (m2 : ew_M) => Q r1 m2) (1 : Int32) s1 s2 s3 s4 s5 s6
def wX4_brings (Q : Int32 → ew_M → Prop) (p1 : Int32) (p2 : Int32) (s1 : ew_M) (s2 : ew_M) (s3 : ew_M) (s4 : ew_M) (s5 : ew_M) (s6 : ew_M) : Prop := wX3_hasPaper (fun (r1 : Int32) => (r1 = 0 → wX4_brings_18 Q s1 s2 s3 s4 s5 s6) ∧ (¬ r1 = 0 → wX4_isNoThing (fun (r4 : Int32) => (r4 = 0 → wX3_gainOf (fun (r7 : Int32) => Q r7 s6) p1 p2 s1) ∧ (¬ r4 = 0 → wX4_brings_18 Q s1 s2 s3 s4 s5 s6)) p2)) p1 s1
set_option maxHeartbeats 4000000 in
set_option maxRecDepth 100000 in
theorem tX4_brings_18 {C : ew_C} {X : ew_X} {E : ew_M → ew_M → ew_M → ew_M → ew_M → ew_M → ew_S} (hE1 : ∀ (x2 x3 x4 x5 x6 : ew_M), ew_GE X 0 (ew_GT X.2.1 0) (fun M => E M x2 x3 x4 x5 x6)) (hE2 : ∀ (x1 x3 x4 x5 x6 : ew_M), ew_GE X 14 (ew_GT X.2.1 14) (fun M => E x1 M x3 x4 x5 x6)) (hE3 : ∀ (x1 x2 x4 x5 x6 : ew_M), ew_GE X 28 (ew_GT X.2.1 28) (fun M => E x1 x2 M x4 x5 x6)) (hE4 : ∀ (x1 x2 x3 x5 x6 : ew_M), ew_GE X 42 (ew_GL X.2.1) (fun M => E x1 x2 x3 M x5 x6)) (hE5 : ∀ (x1 x2 x3 x4 x6 : ew_M), ew_GE X 45 (ew_GR X.2.1) (fun M => E x1 x2 x3 x4 M x6)) (hE6 : ∀ (x1 x2 x3 x4 x5 : ew_M), ew_GE X 46 (ew_GX X.2.1) (fun M => E x1 x2 x3 x4 x5 M)) (Z : ew_Z C X cX4_brings 3 RX4 wsX4_brings ({ frames := 1, cells := 0, slots := 0, locals := 22 } : Room) (some .int)) {Q : Int32 → ew_M → Prop}  {s1 : ew_M} {s2 : ew_M} {s3 : ew_M} {s4 : ew_M} {s5 : ew_M} {s6 : ew_M} (hR : C.2.2.2.2.2.2.2.2.2.2 = MQ C.2.2.2.2.2.2.2.1 (va_Qi (fun (r : Int32) (u : ew_M) => Q r u) (fun (u : ew_M) => ew_wd X ((fun (u : ew_M) => E s1 s2 s3 s4 s5 u) u)) X.2.2.1) C.2.2.2.2.2.2.1 C.2.2.2.2.1 0 0 X.2.2.1) (h : wX4_brings_18 Q s1 s2 s3 s4 s5 s6) : ew_W C X 3 (E s1 s2 s3 s4 s5 s6) 18 [(0, .ref (X.2.1 46))] [] := by
  refine ez_aload_n (pc := 18) Z dX4_brings_18 0 rfl rfl ?_
  refine ez_iconst (pc := 19) Z dX4_brings_19 ec_1 ?_
  refine ez_callVi (pc := 20) (r := 46) (As := [.int (1 : Int32)]) (st := []) Z (kX4_refuseFar Z.2.2.2.2.2.2.2.2.2.1 (E := E) hE1 hE2 hE3 hE4 hE5 hE6 h) gX4_brings_X4_refuseFar rfl rfl rfl hdX4_refuseFar rfl rfl (by decide) (ew_oX0 (hE6 s1 s2 s3 s4 s5) _) rfl rfl rfl rfl dX4_brings_20 (fun r1 m2 h => ?_)
  exact ez_iret (pc := 23) Z hR m2 h rfl dX4_brings_23
set_option maxHeartbeats 4000000 in
set_option maxRecDepth 100000 in
theorem kX4_brings {X : ew_X} {l : Launch} (hX : ew_Ap X) {E : ew_M → ew_M → ew_M → ew_M → ew_M → ew_M → ew_S} (hE1 : ∀ (x2 x3 x4 x5 x6 : ew_M), ew_GE X 0 (ew_GT X.2.1 0) (fun M => E M x2 x3 x4 x5 x6)) (hE2 : ∀ (x1 x3 x4 x5 x6 : ew_M), ew_GE X 14 (ew_GT X.2.1 14) (fun M => E x1 M x3 x4 x5 x6)) (hE3 : ∀ (x1 x2 x4 x5 x6 : ew_M), ew_GE X 28 (ew_GT X.2.1 28) (fun M => E x1 x2 M x4 x5 x6)) (hE4 : ∀ (x1 x2 x3 x5 x6 : ew_M), ew_GE X 42 (ew_GL X.2.1) (fun M => E x1 x2 x3 M x5 x6)) (hE5 : ∀ (x1 x2 x3 x4 x6 : ew_M), ew_GE X 45 (ew_GR X.2.1) (fun M => E x1 x2 x3 x4 M x6)) (hE6 : ∀ (x1 x2 x3 x4 x5 : ew_M), ew_GE X 46 (ew_GX X.2.1) (fun M => E x1 x2 x3 x4 x5 M)) {Q : Int32 → ew_M → Prop} {p1 : Int32} {p2 : Int32} {s1 : ew_M} {s2 : ew_M} {s3 : ew_M} {s4 : ew_M} {s5 : ew_M} {s6 : ew_M} (h : wX4_brings Q p1 p2 s1 s2 s3 s4 s5 s6) : Met l yX4_brings wsX4_brings ({ frames := 1, cells := 0, slots := 0, locals := 22 } : Room) (va_Pc [.ref (X.2.1 46), .int p1, .int p2] (ew_wd X (E s1 s2 s3 s4 s5 s6))) (va_Qi (fun (r : Int32) (u : ew_M) => Q r u) (fun (u : ew_M) => ew_wd X ((fun (u : ew_M) => E s1 s2 s3 s4 s5 u) u)) X.2.2.1) 0 0 X.2.2.1 := by
  refine ew_met (As := [.ref (X.2.1 46), .int p1, .int p2]) (L0 := [(0, .ref (X.2.1 46)), (1, .int p1), (2, .int p2)]) X l hX (by decide) rfl rfl rfl rfl (fun C hl Z hR => ?_)
  subst hl
  refine ez_aload_n (pc := 0) Z dX4_brings_0 0 rfl rfl ?_
  refine fX4_now (pc := 1) (M := s6) Z (hE6 s1 s2 s3 s4 s5) inX4_brings (List.mem_of_getElem? (i := 1) rfl) dX4_brings_1 ?_
  refine ez_iload_n (pc := 4) Z dX4_brings_4 1 rfl rfl ?_
  refine ez_callVi (pc := 5) (r := 0) (As := [.int p1]) (st := []) Z (kX3_hasPaper Z.2.2.2.2.2.2.2.2.2.1 (E := fun q1 => E q1 s2 s3 s4 s5 s6) (hE1 s2 s3 s4 s5 s6) h) gX4_brings_X3_hasPaper rfl rfl rfl hdX3_hasPaper rfl rfl (by decide) (ew_oT (hE1 s2 s3 s4 s5 s6) _) rfl rfl rfl rfl dX4_brings_5 (fun r1 u2 h => ?_)
  refine ez_if_eq (pc := 8) (tgt := 18) Z dX4_brings_8 rfl (fun c3 => ?_) (fun c3 => ?_)
  · replace h := h.1 c3
    refine ez_sub [(0, .ref (X.2.1 46))] [0] rfl ?_
    exact tX4_brings_18 hE1 hE2 hE3 hE4 hE5 hE6 Z hR  h
  · replace h := h.2 c3
    refine ez_iload_n (pc := 11) Z dX4_brings_11 2 rfl rfl ?_
    refine ez_callSi (pc := 12) (As := [.int p2]) (st := []) Z (kX4_isNoThing Z.2.2.2.2.2.2.2.2.2.1 (S := E s1 s2 s3 s4 s5 s6) h) gX4_brings_X4_isNoThing rfl rfl rfl hdX4_isNoThing rfl rfl rfl rfl rfl dX4_brings_12 (fun r4 u5 h => ?_)
    refine ez_if_eq (pc := 15) (tgt := 24) Z dX4_brings_15 rfl (fun c6 => ?_) (fun c6 => ?_)
    · replace h := h.1 c6
      refine ez_aload_n (pc := 24) Z dX4_brings_24 0 rfl rfl ?_
      refine fX4_now (pc := 25) (M := s6) Z (hE6 s1 s2 s3 s4 s5) inX4_brings (List.mem_of_getElem? (i := 1) rfl) dX4_brings_25 ?_
      refine ez_iload_n (pc := 28) Z dX4_brings_28 1 rfl rfl ?_
      refine ez_iload_n (pc := 29) Z dX4_brings_29 2 rfl rfl ?_
      refine ez_callVi (pc := 30) (r := 0) (As := [.int p1, .int p2]) (st := []) Z (kX3_gainOf Z.2.2.2.2.2.2.2.2.2.1 (E := fun q1 => E q1 s2 s3 s4 s5 s6) (hE1 s2 s3 s4 s5 s6) h) gX4_brings_X3_gainOf rfl rfl rfl hdX3_gainOf rfl rfl (by decide) (ew_oT (hE1 s2 s3 s4 s5 s6) _) rfl rfl rfl rfl dX4_brings_30 (fun r7 u8 h => ?_)
      exact ez_iret (pc := 33) Z hR s6 h rfl dX4_brings_33
    · replace h := h.2 c6
      refine ez_sub [(0, .ref (X.2.1 46))] [0] rfl ?_
      exact tX4_brings_18 hE1 hE2 hE3 hE4 hE5 hE6 Z hR  h
theorem inX4_truth : ∀ w ∈ wsX40, w ∈ wsX4_truth := fun _ h => List.mem_cons_of_mem _ (List.mem_append_left _ (List.mem_append_right _ (h)))
theorem hdX4_truth : yX4_truth.cls = RX4 ∧ yX4_truth.cls ≠ "java/lang/invoke/MethodHandle" ∧ yX4_truth.cls ≠ "java/lang/invoke/VarHandle" ∧ (parseMethodDescriptor yX4_truth.desc).map (fun d => d.parameters.length) = some 2 := by decide +kernel
def wX4_truth_18  (Q : Int32 → ew_M → ew_M → Prop) (s1 : ew_M) (s2 : ew_M) (s3 : ew_M) (s4 : ew_M) (s5 : ew_M) (s6 : ew_M) : Prop := wX4_refuse (fun (r1 : Int32) (m2 : ew_M) => Q r1 s1 m2) (1 : Int32) s1 s2 s3 s4 s5 s6
def wX4_truth (Q : Int32 → ew_M → ew_M → Prop) (p1 : Int32) (p2 : Int32) (s1 : ew_M) (s2 : ew_M) (s3 : ew_M) (s4 : ew_M) (s5 : ew_M) (s6 : ew_M) : Prop := wX3_hasPaper (fun (r1 : Int32) => (r1 = 0 → wX4_truth_18 Q s1 s2 s3 s4 s5 s6) ∧ (¬ r1 = 0 → wX4_isNoThing (fun (r4 : Int32) => (r4 = 0 → wX3_readersOf (fun (r7 : Int32) => (r7 = 0 → wX3_changeTruth (fun (r10 : Int32) (m11 : ew_M) => Q r10 m11 s6) p1 p2 s1) ∧ (¬ r7 = 0 → wX4_refuse (fun (r12 : Int32) (m13 : ew_M) => Q r12 s1 m13) (3 : Int32) s1 s2 s3 s4 s5 s6)) p1 s1) ∧ (¬ r4 = 0 → wX4_truth_18 Q s1 s2 s3 s4 s5 s6)) p2)) p1 s1
set_option maxHeartbeats 4000000 in
set_option maxRecDepth 100000 in
theorem tX4_truth_18 {C : ew_C} {X : ew_X} {E : ew_M → ew_M → ew_M → ew_M → ew_M → ew_M → ew_S} (hE1 : ∀ (x2 x3 x4 x5 x6 : ew_M), ew_GE X 0 (ew_GT X.2.1 0) (fun M => E M x2 x3 x4 x5 x6)) (hE2 : ∀ (x1 x3 x4 x5 x6 : ew_M), ew_GE X 14 (ew_GT X.2.1 14) (fun M => E x1 M x3 x4 x5 x6)) (hE3 : ∀ (x1 x2 x4 x5 x6 : ew_M), ew_GE X 28 (ew_GT X.2.1 28) (fun M => E x1 x2 M x4 x5 x6)) (hE4 : ∀ (x1 x2 x3 x5 x6 : ew_M), ew_GE X 42 (ew_GL X.2.1) (fun M => E x1 x2 x3 M x5 x6)) (hE5 : ∀ (x1 x2 x3 x4 x6 : ew_M), ew_GE X 45 (ew_GR X.2.1) (fun M => E x1 x2 x3 x4 M x6)) (hE6 : ∀ (x1 x2 x3 x4 x5 : ew_M), ew_GE X 46 (ew_GX X.2.1) (fun M => E x1 x2 x3 x4 x5 M)) (Z : ew_Z C X cX4_truth 3 RX4 wsX4_truth ({ frames := 1, cells := 0, slots := 0, locals := 23 } : Room) (some .int)) {Q : Int32 → ew_M → ew_M → Prop}  {s1 : ew_M} {s2 : ew_M} {s3 : ew_M} {s4 : ew_M} {s5 : ew_M} {s6 : ew_M} (hR : C.2.2.2.2.2.2.2.2.2.2 = MQ C.2.2.2.2.2.2.2.1 (va_Qi (fun (r : Int32) (u : ew_M × ew_M) => Q r u.1 u.2) (fun (u : ew_M × ew_M) => ew_wd X ((fun (u : ew_M × ew_M) => E u.1 s2 s3 s4 s5 u.2) u)) X.2.2.1) C.2.2.2.2.2.2.1 C.2.2.2.2.1 0 0 X.2.2.1) (h : wX4_truth_18 Q s1 s2 s3 s4 s5 s6) : ew_W C X 3 (E s1 s2 s3 s4 s5 s6) 18 [(0, .ref (X.2.1 46))] [] := by
  refine ez_aload_n (pc := 18) Z dX4_truth_18 0 rfl rfl ?_
  refine ez_iconst (pc := 19) Z dX4_truth_19 ec_1 ?_
  refine ez_callVi (pc := 20) (r := 46) (As := [.int (1 : Int32)]) (st := []) Z (kX4_refuse Z.2.2.2.2.2.2.2.2.2.1 (E := E) hE1 hE2 hE3 hE4 hE5 hE6 h) gX4_truth_X4_refuse rfl rfl rfl hdX4_refuse rfl rfl (by decide) (ew_oX0 (hE6 s1 s2 s3 s4 s5) _) rfl rfl rfl rfl dX4_truth_20 (fun r1 m2 h => ?_)
  exact ez_iret (pc := 23) Z hR (s1, m2) h rfl dX4_truth_23
set_option maxHeartbeats 4000000 in
set_option maxRecDepth 100000 in
theorem kX4_truth {X : ew_X} {l : Launch} (hX : ew_Ap X) {E : ew_M → ew_M → ew_M → ew_M → ew_M → ew_M → ew_S} (hE1 : ∀ (x2 x3 x4 x5 x6 : ew_M), ew_GE X 0 (ew_GT X.2.1 0) (fun M => E M x2 x3 x4 x5 x6)) (hE2 : ∀ (x1 x3 x4 x5 x6 : ew_M), ew_GE X 14 (ew_GT X.2.1 14) (fun M => E x1 M x3 x4 x5 x6)) (hE3 : ∀ (x1 x2 x4 x5 x6 : ew_M), ew_GE X 28 (ew_GT X.2.1 28) (fun M => E x1 x2 M x4 x5 x6)) (hE4 : ∀ (x1 x2 x3 x5 x6 : ew_M), ew_GE X 42 (ew_GL X.2.1) (fun M => E x1 x2 x3 M x5 x6)) (hE5 : ∀ (x1 x2 x3 x4 x6 : ew_M), ew_GE X 45 (ew_GR X.2.1) (fun M => E x1 x2 x3 x4 M x6)) (hE6 : ∀ (x1 x2 x3 x4 x5 : ew_M), ew_GE X 46 (ew_GX X.2.1) (fun M => E x1 x2 x3 x4 x5 M)) {Q : Int32 → ew_M → ew_M → Prop} {p1 : Int32} {p2 : Int32} {s1 : ew_M} {s2 : ew_M} {s3 : ew_M} {s4 : ew_M} {s5 : ew_M} {s6 : ew_M} (h : wX4_truth Q p1 p2 s1 s2 s3 s4 s5 s6) : Met l yX4_truth wsX4_truth ({ frames := 1, cells := 0, slots := 0, locals := 23 } : Room) (va_Pc [.ref (X.2.1 46), .int p1, .int p2] (ew_wd X (E s1 s2 s3 s4 s5 s6))) (va_Qi (fun (r : Int32) (u : ew_M × ew_M) => Q r u.1 u.2) (fun (u : ew_M × ew_M) => ew_wd X ((fun (u : ew_M × ew_M) => E u.1 s2 s3 s4 s5 u.2) u)) X.2.2.1) 0 0 X.2.2.1 := by
  refine ew_met (As := [.ref (X.2.1 46), .int p1, .int p2]) (L0 := [(0, .ref (X.2.1 46)), (1, .int p1), (2, .int p2)]) X l hX (by decide) rfl rfl rfl rfl (fun C hl Z hR => ?_)
  subst hl
  refine ez_aload_n (pc := 0) Z dX4_truth_0 0 rfl rfl ?_
  refine fX4_now (pc := 1) (M := s6) Z (hE6 s1 s2 s3 s4 s5) inX4_truth (List.mem_of_getElem? (i := 1) rfl) dX4_truth_1 ?_
  refine ez_iload_n (pc := 4) Z dX4_truth_4 1 rfl rfl ?_
  refine ez_callVi (pc := 5) (r := 0) (As := [.int p1]) (st := []) Z (kX3_hasPaper Z.2.2.2.2.2.2.2.2.2.1 (E := fun q1 => E q1 s2 s3 s4 s5 s6) (hE1 s2 s3 s4 s5 s6) h) gX4_truth_X3_hasPaper rfl rfl rfl hdX3_hasPaper rfl rfl (by decide) (ew_oT (hE1 s2 s3 s4 s5 s6) _) rfl rfl rfl rfl dX4_truth_5 (fun r1 u2 h => ?_)
  refine ez_if_eq (pc := 8) (tgt := 18) Z dX4_truth_8 rfl (fun c3 => ?_) (fun c3 => ?_)
  · replace h := h.1 c3
    refine ez_sub [(0, .ref (X.2.1 46))] [0] rfl ?_
    exact tX4_truth_18 hE1 hE2 hE3 hE4 hE5 hE6 Z hR  h
  · replace h := h.2 c3
    refine ez_iload_n (pc := 11) Z dX4_truth_11 2 rfl rfl ?_
    refine ez_callSi (pc := 12) (As := [.int p2]) (st := []) Z (kX4_isNoThing Z.2.2.2.2.2.2.2.2.2.1 (S := E s1 s2 s3 s4 s5 s6) h) gX4_truth_X4_isNoThing rfl rfl rfl hdX4_isNoThing rfl rfl rfl rfl rfl dX4_truth_12 (fun r4 u5 h => ?_)
    refine ez_if_eq (pc := 15) (tgt := 24) Z dX4_truth_15 rfl (fun c6 => ?_) (fun c6 => ?_)
    · replace h := h.1 c6
      refine ez_aload_n (pc := 24) Z dX4_truth_24 0 rfl rfl ?_
      refine fX4_now (pc := 25) (M := s6) Z (hE6 s1 s2 s3 s4 s5) inX4_truth (List.mem_of_getElem? (i := 1) rfl) dX4_truth_25 ?_
      refine ez_iload_n (pc := 28) Z dX4_truth_28 1 rfl rfl ?_
      refine ez_callVi (pc := 29) (r := 0) (As := [.int p1]) (st := []) Z (kX3_readersOf Z.2.2.2.2.2.2.2.2.2.1 (E := fun q1 => E q1 s2 s3 s4 s5 s6) (hE1 s2 s3 s4 s5 s6) h) gX4_truth_X3_readersOf rfl rfl rfl hdX3_readersOf rfl rfl (by decide) (ew_oT (hE1 s2 s3 s4 s5 s6) _) rfl rfl rfl rfl dX4_truth_29 (fun r7 u8 h => ?_)
      refine ez_if_eq (pc := 32) (tgt := 41) Z dX4_truth_32 rfl (fun c9 => ?_) (fun c9 => ?_)
      · replace h := h.1 c9
        refine ez_aload_n (pc := 41) Z dX4_truth_41 0 rfl rfl ?_
        refine fX4_now (pc := 42) (M := s6) Z (hE6 s1 s2 s3 s4 s5) inX4_truth (List.mem_of_getElem? (i := 1) rfl) dX4_truth_42 ?_
        refine ez_iload_n (pc := 45) Z dX4_truth_45 1 rfl rfl ?_
        refine ez_iload_n (pc := 46) Z dX4_truth_46 2 rfl rfl ?_
        refine ez_callVi (pc := 47) (r := 0) (As := [.int p1, .int p2]) (st := []) Z (kX3_changeTruth Z.2.2.2.2.2.2.2.2.2.1 (E := fun q1 => E q1 s2 s3 s4 s5 s6) (hE1 s2 s3 s4 s5 s6) h) gX4_truth_X3_changeTruth rfl rfl rfl hdX3_changeTruth rfl rfl (by decide) (ew_oT (hE1 s2 s3 s4 s5 s6) _) rfl rfl rfl rfl dX4_truth_47 (fun r10 m11 h => ?_)
        exact ez_iret (pc := 50) Z hR (m11, s6) h rfl dX4_truth_50
      · replace h := h.2 c9
        refine ez_aload_n (pc := 35) Z dX4_truth_35 0 rfl rfl ?_
        refine ez_iconst (pc := 36) Z dX4_truth_36 ec_3 ?_
        refine ez_callVi (pc := 37) (r := 46) (As := [.int (3 : Int32)]) (st := []) Z (kX4_refuse Z.2.2.2.2.2.2.2.2.2.1 (E := E) hE1 hE2 hE3 hE4 hE5 hE6 h) gX4_truth_X4_refuse rfl rfl rfl hdX4_refuse rfl rfl (by decide) (ew_oX0 (hE6 s1 s2 s3 s4 s5) _) rfl rfl rfl rfl dX4_truth_37 (fun r12 m13 h => ?_)
        exact ez_iret (pc := 40) Z hR (s1, m13) h rfl dX4_truth_40
    · replace h := h.2 c6
      refine ez_sub [(0, .ref (X.2.1 46))] [0] rfl ?_
      exact tX4_truth_18 hE1 hE2 hE3 hE4 hE5 hE6 Z hR  h
theorem inX4_law : ∀ w ∈ wsX40, w ∈ wsX4_law := fun _ h => List.mem_cons_of_mem _ (List.mem_append_left _ (List.mem_append_right _ (h)))
theorem hdX4_law : yX4_law.cls = RX4 ∧ yX4_law.cls ≠ "java/lang/invoke/MethodHandle" ∧ yX4_law.cls ≠ "java/lang/invoke/VarHandle" ∧ (parseMethodDescriptor yX4_law.desc).map (fun d => d.parameters.length) = some 1 := by decide +kernel
def wX4_law (Q : Int32 → ew_M → ew_M → Prop) (p1 : Int32) (s1 : ew_M) (s2 : ew_M) (s3 : ew_M) (s4 : ew_M) (s5 : ew_M) (s6 : ew_M) : Prop := wX4_isNoLaw (fun (r1 : Int32) => (r1 = 0 → wX3_changeLaw (fun (r4 : Int32) (m5 : ew_M) => Q r4 m5 s6) p1 s1) ∧ (¬ r1 = 0 → wX4_refuse (fun (r6 : Int32) (m7 : ew_M) => Q r6 s1 m7) (2 : Int32) s1 s2 s3 s4 s5 s6)) p1
set_option maxHeartbeats 4000000 in
set_option maxRecDepth 100000 in
theorem kX4_law {X : ew_X} {l : Launch} (hX : ew_Ap X) {E : ew_M → ew_M → ew_M → ew_M → ew_M → ew_M → ew_S} (hE1 : ∀ (x2 x3 x4 x5 x6 : ew_M), ew_GE X 0 (ew_GT X.2.1 0) (fun M => E M x2 x3 x4 x5 x6)) (hE2 : ∀ (x1 x3 x4 x5 x6 : ew_M), ew_GE X 14 (ew_GT X.2.1 14) (fun M => E x1 M x3 x4 x5 x6)) (hE3 : ∀ (x1 x2 x4 x5 x6 : ew_M), ew_GE X 28 (ew_GT X.2.1 28) (fun M => E x1 x2 M x4 x5 x6)) (hE4 : ∀ (x1 x2 x3 x5 x6 : ew_M), ew_GE X 42 (ew_GL X.2.1) (fun M => E x1 x2 x3 M x5 x6)) (hE5 : ∀ (x1 x2 x3 x4 x6 : ew_M), ew_GE X 45 (ew_GR X.2.1) (fun M => E x1 x2 x3 x4 M x6)) (hE6 : ∀ (x1 x2 x3 x4 x5 : ew_M), ew_GE X 46 (ew_GX X.2.1) (fun M => E x1 x2 x3 x4 x5 M)) {Q : Int32 → ew_M → ew_M → Prop} {p1 : Int32} {s1 : ew_M} {s2 : ew_M} {s3 : ew_M} {s4 : ew_M} {s5 : ew_M} {s6 : ew_M} (h : wX4_law Q p1 s1 s2 s3 s4 s5 s6) : Met l yX4_law wsX4_law ({ frames := 1, cells := 0, slots := 0, locals := 22 } : Room) (va_Pc [.ref (X.2.1 46), .int p1] (ew_wd X (E s1 s2 s3 s4 s5 s6))) (va_Qi (fun (r : Int32) (u : ew_M × ew_M) => Q r u.1 u.2) (fun (u : ew_M × ew_M) => ew_wd X ((fun (u : ew_M × ew_M) => E u.1 s2 s3 s4 s5 u.2) u)) X.2.2.1) 0 0 X.2.2.1 := by
  refine ew_met (As := [.ref (X.2.1 46), .int p1]) (L0 := [(0, .ref (X.2.1 46)), (1, .int p1)]) X l hX (by decide) rfl rfl rfl rfl (fun C hl Z hR => ?_)
  subst hl
  refine ez_iload_n (pc := 0) Z dX4_law_0 1 rfl rfl ?_
  refine ez_callSi (pc := 1) (As := [.int p1]) (st := []) Z (kX4_isNoLaw Z.2.2.2.2.2.2.2.2.2.1 (S := E s1 s2 s3 s4 s5 s6) h) gX4_law_X4_isNoLaw rfl rfl rfl hdX4_isNoLaw rfl rfl rfl rfl rfl dX4_law_1 (fun r1 u2 h => ?_)
  refine ez_if_eq (pc := 4) (tgt := 13) Z dX4_law_4 rfl (fun c3 => ?_) (fun c3 => ?_)
  · replace h := h.1 c3
    refine ez_aload_n (pc := 13) Z dX4_law_13 0 rfl rfl ?_
    refine fX4_now (pc := 14) (M := s6) Z (hE6 s1 s2 s3 s4 s5) inX4_law (List.mem_of_getElem? (i := 1) rfl) dX4_law_14 ?_
    refine ez_iload_n (pc := 17) Z dX4_law_17 1 rfl rfl ?_
    refine ez_callVi (pc := 18) (r := 0) (As := [.int p1]) (st := []) Z (kX3_changeLaw Z.2.2.2.2.2.2.2.2.2.1 (E := fun q1 => E q1 s2 s3 s4 s5 s6) (hE1 s2 s3 s4 s5 s6) h) gX4_law_X3_changeLaw rfl rfl rfl hdX3_changeLaw rfl rfl (by decide) (ew_oT (hE1 s2 s3 s4 s5 s6) _) rfl rfl rfl rfl dX4_law_18 (fun r4 m5 h => ?_)
    exact ez_iret (pc := 21) Z hR (m5, s6) h rfl dX4_law_21
  · replace h := h.2 c3
    refine ez_aload_n (pc := 7) Z dX4_law_7 0 rfl rfl ?_
    refine ez_iconst (pc := 8) Z dX4_law_8 ec_2 ?_
    refine ez_callVi (pc := 9) (r := 46) (As := [.int (2 : Int32)]) (st := []) Z (kX4_refuse Z.2.2.2.2.2.2.2.2.2.1 (E := E) hE1 hE2 hE3 hE4 hE5 hE6 h) gX4_law_X4_refuse rfl rfl rfl hdX4_refuse rfl rfl (by decide) (ew_oX0 (hE6 s1 s2 s3 s4 s5) _) rfl rfl rfl rfl dX4_law_9 (fun r6 m7 h => ?_)
    exact ez_iret (pc := 12) Z hR (s1, m7) h rfl dX4_law_12
theorem inX4_isNoPair : ∀ w ∈ wsX40, w ∈ wsX4_isNoPair := fun _ h => List.mem_cons_of_mem _ (List.mem_append_left _ (List.mem_append_right _ (h)))
theorem hdX4_isNoPair : yX4_isNoPair.cls = RX4 ∧ yX4_isNoPair.cls ≠ "java/lang/invoke/MethodHandle" ∧ yX4_isNoPair.cls ≠ "java/lang/invoke/VarHandle" ∧ (parseMethodDescriptor yX4_isNoPair.desc).map (fun d => d.parameters.length) = some 2 := by decide +kernel
def wX4_isNoPair (Q : Int32 → Prop) (p1 : Int32) (p2 : Int32) (s1 : ew_M) (s2 : ew_M) (s3 : ew_M) (s4 : ew_M) (s5 : ew_M) (s6 : ew_M) : Prop := wX3_hasPerson (fun (r1 : Int32) => (r1 = 0 → Q (1 : Int32) ) ∧ (¬ r1 = 0 → wX3_hasPaper (fun (r4 : Int32) => (¬ r4 = 0 → Q (0 : Int32) ) ∧ (r4 = 0 → Q (1 : Int32) )) p2 s1)) p1 s1
set_option maxHeartbeats 4000000 in
set_option maxRecDepth 100000 in
theorem kX4_isNoPair {X : ew_X} {l : Launch} (hX : ew_Ap X) {E : ew_M → ew_M → ew_M → ew_M → ew_M → ew_M → ew_S} (hE1 : ∀ (x2 x3 x4 x5 x6 : ew_M), ew_GE X 0 (ew_GT X.2.1 0) (fun M => E M x2 x3 x4 x5 x6)) (hE2 : ∀ (x1 x3 x4 x5 x6 : ew_M), ew_GE X 14 (ew_GT X.2.1 14) (fun M => E x1 M x3 x4 x5 x6)) (hE3 : ∀ (x1 x2 x4 x5 x6 : ew_M), ew_GE X 28 (ew_GT X.2.1 28) (fun M => E x1 x2 M x4 x5 x6)) (hE4 : ∀ (x1 x2 x3 x5 x6 : ew_M), ew_GE X 42 (ew_GL X.2.1) (fun M => E x1 x2 x3 M x5 x6)) (hE5 : ∀ (x1 x2 x3 x4 x6 : ew_M), ew_GE X 45 (ew_GR X.2.1) (fun M => E x1 x2 x3 x4 M x6)) (hE6 : ∀ (x1 x2 x3 x4 x5 : ew_M), ew_GE X 46 (ew_GX X.2.1) (fun M => E x1 x2 x3 x4 x5 M)) {Q : Int32 → Prop} {p1 : Int32} {p2 : Int32} {s1 : ew_M} {s2 : ew_M} {s3 : ew_M} {s4 : ew_M} {s5 : ew_M} {s6 : ew_M} (h : wX4_isNoPair Q p1 p2 s1 s2 s3 s4 s5 s6) : Met l yX4_isNoPair wsX4_isNoPair ({ frames := 1, cells := 0, slots := 0, locals := 21 } : Room) (va_Pc [.ref (X.2.1 46), .int p1, .int p2] (ew_wd X (E s1 s2 s3 s4 s5 s6))) (va_Qi (fun (r : Int32) (_ : Unit) => Q r) (fun (u : Unit) => ew_wd X ((fun (_ : Unit) => E s1 s2 s3 s4 s5 s6) u)) X.2.2.1) 0 0 X.2.2.1 := by
  refine ew_met (As := [.ref (X.2.1 46), .int p1, .int p2]) (L0 := [(0, .ref (X.2.1 46)), (1, .int p1), (2, .int p2)]) X l hX (by decide) rfl rfl rfl rfl (fun C hl Z hR => ?_)
  subst hl
  refine ez_aload_n (pc := 0) Z dX4_isNoPair_0 0 rfl rfl ?_
  refine fX4_now (pc := 1) (M := s6) Z (hE6 s1 s2 s3 s4 s5) inX4_isNoPair (List.mem_of_getElem? (i := 1) rfl) dX4_isNoPair_1 ?_
  refine ez_iload_n (pc := 4) Z dX4_isNoPair_4 1 rfl rfl ?_
  refine ez_callVi (pc := 5) (r := 0) (As := [.int p1]) (st := []) Z (kX3_hasPerson Z.2.2.2.2.2.2.2.2.2.1 (E := fun q1 => E q1 s2 s3 s4 s5 s6) (hE1 s2 s3 s4 s5 s6) h) gX4_isNoPair_X3_hasPerson rfl rfl rfl hdX3_hasPerson rfl rfl (by decide) (ew_oT (hE1 s2 s3 s4 s5 s6) _) rfl rfl rfl rfl dX4_isNoPair_5 (fun r1 u2 h => ?_)
  refine ez_if_eq (pc := 8) (tgt := 22) Z dX4_isNoPair_8 rfl (fun c3 => ?_) (fun c3 => ?_)
  · replace h := h.1 c3
    refine ez_iconst (pc := 22) Z dX4_isNoPair_22 ec_1 ?_
    refine ez_goto (pc := 23) (tgt := 27) Z dX4_isNoPair_23 rfl ?_
    exact ez_zret (pc := 27) Z hR () rfl h rfl dX4_isNoPair_27
  · replace h := h.2 c3
    refine ez_aload_n (pc := 11) Z dX4_isNoPair_11 0 rfl rfl ?_
    refine fX4_now (pc := 12) (M := s6) Z (hE6 s1 s2 s3 s4 s5) inX4_isNoPair (List.mem_of_getElem? (i := 1) rfl) dX4_isNoPair_12 ?_
    refine ez_iload_n (pc := 15) Z dX4_isNoPair_15 2 rfl rfl ?_
    refine ez_callVi (pc := 16) (r := 0) (As := [.int p2]) (st := []) Z (kX3_hasPaper Z.2.2.2.2.2.2.2.2.2.1 (E := fun q1 => E q1 s2 s3 s4 s5 s6) (hE1 s2 s3 s4 s5 s6) h) gX4_isNoPair_X3_hasPaper rfl rfl rfl hdX3_hasPaper rfl rfl (by decide) (ew_oT (hE1 s2 s3 s4 s5 s6) _) rfl rfl rfl rfl dX4_isNoPair_16 (fun r4 u5 h => ?_)
    refine ez_if_ne (pc := 19) (tgt := 26) Z dX4_isNoPair_19 rfl (fun c6 => ?_) (fun c6 => ?_)
    · replace h := h.1 c6
      refine ez_iconst (pc := 26) Z dX4_isNoPair_26 ec_0 ?_
      exact ez_zret (pc := 27) Z hR () rfl h rfl dX4_isNoPair_27
    · replace h := h.2 c6
      refine ez_iconst (pc := 22) Z dX4_isNoPair_22 ec_1 ?_
      refine ez_goto (pc := 23) (tgt := 27) Z dX4_isNoPair_23 rfl ?_
      exact ez_zret (pc := 27) Z hR () rfl h rfl dX4_isNoPair_27
theorem inX4_reads : ∀ w ∈ wsX40, w ∈ wsX4_reads := fun _ h => List.mem_cons_of_mem _ (List.mem_append_left _ (List.mem_append_right _ (h)))
theorem hdX4_reads : yX4_reads.cls = RX4 ∧ yX4_reads.cls ≠ "java/lang/invoke/MethodHandle" ∧ yX4_reads.cls ≠ "java/lang/invoke/VarHandle" ∧ (parseMethodDescriptor yX4_reads.desc).map (fun d => d.parameters.length) = some 2 := by decide +kernel
def wX4_reads (Q : Int32 → ew_M → ew_M → Prop) (p1 : Int32) (p2 : Int32) (s1 : ew_M) (s2 : ew_M) (s3 : ew_M) (s4 : ew_M) (s5 : ew_M) (s6 : ew_M) : Prop := wX4_isNoPair (fun (r1 : Int32) => (r1 = 0 → wX3_canRead (fun (r4 : Int32) => (¬ r4 = 0 → wX3_markRead (fun (m8 : ew_M) => wX3_readersOf (fun (r9 : Int32) => wJ6_bitCount_0f7a4 (fun (r11 : Int32) => Q r11 m8 s6) r9) p2 m8) p1 p2 s1) ∧ (r4 = 0 → wX4_refuse (fun (r13 : Int32) (m14 : ew_M) => Q r13 s1 m14) (3 : Int32) s1 s2 s3 s4 s5 s6)) p1 p2 s1) ∧ (¬ r1 = 0 → wX4_refuse (fun (r15 : Int32) (m16 : ew_M) => Q r15 s1 m16) (1 : Int32) s1 s2 s3 s4 s5 s6)) p1 p2 s1 s2 s3 s4 s5 s6
set_option maxHeartbeats 4000000 in
set_option maxRecDepth 100000 in
theorem kX4_reads {X : ew_X} {l : Launch} (hX : ew_Ap X) {E : ew_M → ew_M → ew_M → ew_M → ew_M → ew_M → ew_S} (hE1 : ∀ (x2 x3 x4 x5 x6 : ew_M), ew_GE X 0 (ew_GT X.2.1 0) (fun M => E M x2 x3 x4 x5 x6)) (hE2 : ∀ (x1 x3 x4 x5 x6 : ew_M), ew_GE X 14 (ew_GT X.2.1 14) (fun M => E x1 M x3 x4 x5 x6)) (hE3 : ∀ (x1 x2 x4 x5 x6 : ew_M), ew_GE X 28 (ew_GT X.2.1 28) (fun M => E x1 x2 M x4 x5 x6)) (hE4 : ∀ (x1 x2 x3 x5 x6 : ew_M), ew_GE X 42 (ew_GL X.2.1) (fun M => E x1 x2 x3 M x5 x6)) (hE5 : ∀ (x1 x2 x3 x4 x6 : ew_M), ew_GE X 45 (ew_GR X.2.1) (fun M => E x1 x2 x3 x4 M x6)) (hE6 : ∀ (x1 x2 x3 x4 x5 : ew_M), ew_GE X 46 (ew_GX X.2.1) (fun M => E x1 x2 x3 x4 x5 M)) {Q : Int32 → ew_M → ew_M → Prop} {p1 : Int32} {p2 : Int32} {s1 : ew_M} {s2 : ew_M} {s3 : ew_M} {s4 : ew_M} {s5 : ew_M} {s6 : ew_M} (h : wX4_reads Q p1 p2 s1 s2 s3 s4 s5 s6) : Met l yX4_reads wsX4_reads ({ frames := 4, cells := 0, slots := 0, locals := 87 } : Room) (va_Pc [.ref (X.2.1 46), .int p1, .int p2] (ew_wd X (E s1 s2 s3 s4 s5 s6))) (va_Qi (fun (r : Int32) (u : ew_M × ew_M) => Q r u.1 u.2) (fun (u : ew_M × ew_M) => ew_wd X ((fun (u : ew_M × ew_M) => E u.1 s2 s3 s4 s5 u.2) u)) X.2.2.1) 0 0 X.2.2.1 := by
  refine ew_met (As := [.ref (X.2.1 46), .int p1, .int p2]) (L0 := [(0, .ref (X.2.1 46)), (1, .int p1), (2, .int p2)]) X l hX (by decide) rfl rfl rfl rfl (fun C hl Z hR => ?_)
  subst hl
  refine ez_aload_n (pc := 0) Z dX4_reads_0 0 rfl rfl ?_
  refine ez_iload_n (pc := 1) Z dX4_reads_1 1 rfl rfl ?_
  refine ez_iload_n (pc := 2) Z dX4_reads_2 2 rfl rfl ?_
  refine ez_callVi (pc := 3) (r := 46) (As := [.int p1, .int p2]) (st := []) Z (kX4_isNoPair Z.2.2.2.2.2.2.2.2.2.1 (E := E) hE1 hE2 hE3 hE4 hE5 hE6 h) gX4_reads_X4_isNoPair rfl rfl rfl hdX4_isNoPair rfl rfl (by decide) (ew_oX0 (hE6 s1 s2 s3 s4 s5) _) rfl rfl rfl rfl dX4_reads_3 (fun r1 u2 h => ?_)
  refine ez_if_eq (pc := 6) (tgt := 15) Z dX4_reads_6 rfl (fun c3 => ?_) (fun c3 => ?_)
  · replace h := h.1 c3
    refine ez_aload_n (pc := 15) Z dX4_reads_15 0 rfl rfl ?_
    refine fX4_now (pc := 16) (M := s6) Z (hE6 s1 s2 s3 s4 s5) inX4_reads (List.mem_of_getElem? (i := 1) rfl) dX4_reads_16 ?_
    refine ez_iload_n (pc := 19) Z dX4_reads_19 1 rfl rfl ?_
    refine ez_iload_n (pc := 20) Z dX4_reads_20 2 rfl rfl ?_
    refine ez_callVi (pc := 21) (r := 0) (As := [.int p1, .int p2]) (st := []) Z (kX3_canRead Z.2.2.2.2.2.2.2.2.2.1 (E := fun q1 => E q1 s2 s3 s4 s5 s6) (hE1 s2 s3 s4 s5 s6) h) gX4_reads_X3_canRead rfl rfl rfl hdX3_canRead rfl rfl (by decide) (ew_oT (hE1 s2 s3 s4 s5 s6) _) rfl rfl rfl rfl dX4_reads_21 (fun r4 u5 h => ?_)
    refine ez_if_ne (pc := 24) (tgt := 33) Z dX4_reads_24 rfl (fun c6 => ?_) (fun c6 => ?_)
    · replace h := h.1 c6
      refine ez_aload_n (pc := 33) Z dX4_reads_33 0 rfl rfl ?_
      refine fX4_now (pc := 34) (M := s6) Z (hE6 s1 s2 s3 s4 s5) inX4_reads (List.mem_of_getElem? (i := 1) rfl) dX4_reads_34 ?_
      refine ez_iload_n (pc := 37) Z dX4_reads_37 1 rfl rfl ?_
      refine ez_iload_n (pc := 38) Z dX4_reads_38 2 rfl rfl ?_
      refine ez_callVv (pc := 39) (r := 0) (As := [.int p1, .int p2]) (st := []) Z (kX3_markRead Z.2.2.2.2.2.2.2.2.2.1 (E := fun q1 => E q1 s2 s3 s4 s5 s6) (hE1 s2 s3 s4 s5 s6) h) gX4_reads_X3_markRead rfl rfl rfl hdX3_markRead rfl rfl (by decide) (ew_oT (hE1 s2 s3 s4 s5 s6) _) rfl rfl rfl rfl dX4_reads_39 (fun m8 h => ?_)
      refine ez_aload_n (pc := 42) Z dX4_reads_42 0 rfl rfl ?_
      refine fX4_now (pc := 43) (M := s6) Z (hE6 m8 s2 s3 s4 s5) inX4_reads (List.mem_of_getElem? (i := 1) rfl) dX4_reads_43 ?_
      refine ez_iload_n (pc := 46) Z dX4_reads_46 2 rfl rfl ?_
      refine ez_callVi (pc := 47) (r := 0) (As := [.int p2]) (st := []) Z (kX3_readersOf Z.2.2.2.2.2.2.2.2.2.1 (E := fun q1 => E q1 s2 s3 s4 s5 s6) (hE1 s2 s3 s4 s5 s6) h) gX4_reads_X3_readersOf rfl rfl rfl hdX3_readersOf rfl rfl (by decide) (ew_oT (hE1 s2 s3 s4 s5 s6) _) rfl rfl rfl rfl dX4_reads_47 (fun r9 u10 h => ?_)
      refine ez_callSi (pc := 50) (As := [.int r9]) (st := []) Z (kJ6_bitCount_0f7a4 Z.2.2.2.2.2.2.2.2.2.1 (S := E m8 s2 s3 s4 s5 s6) h) gX4_reads_J6_bitCount_0f7a4 rfl rfl rfl hdJ6_bitCount_0f7a4 rfl rfl rfl rfl rfl dX4_reads_50 (fun r11 u12 h => ?_)
      exact ez_iret (pc := 53) Z hR (m8, s6) h rfl dX4_reads_53
    · replace h := h.2 c6
      refine ez_aload_n (pc := 27) Z dX4_reads_27 0 rfl rfl ?_
      refine ez_iconst (pc := 28) Z dX4_reads_28 ec_3 ?_
      refine ez_callVi (pc := 29) (r := 46) (As := [.int (3 : Int32)]) (st := []) Z (kX4_refuse Z.2.2.2.2.2.2.2.2.2.1 (E := E) hE1 hE2 hE3 hE4 hE5 hE6 h) gX4_reads_X4_refuse rfl rfl rfl hdX4_refuse rfl rfl (by decide) (ew_oX0 (hE6 s1 s2 s3 s4 s5) _) rfl rfl rfl rfl dX4_reads_29 (fun r13 m14 h => ?_)
      exact ez_iret (pc := 32) Z hR (s1, m14) h rfl dX4_reads_32
  · replace h := h.2 c3
    refine ez_aload_n (pc := 9) Z dX4_reads_9 0 rfl rfl ?_
    refine ez_iconst (pc := 10) Z dX4_reads_10 ec_1 ?_
    refine ez_callVi (pc := 11) (r := 46) (As := [.int (1 : Int32)]) (st := []) Z (kX4_refuse Z.2.2.2.2.2.2.2.2.2.1 (E := E) hE1 hE2 hE3 hE4 hE5 hE6 h) gX4_reads_X4_refuse rfl rfl rfl hdX4_refuse rfl rfl (by decide) (ew_oX0 (hE6 s1 s2 s3 s4 s5) _) rfl rfl rfl rfl dX4_reads_11 (fun r15 m16 h => ?_)
    exact ez_iret (pc := 14) Z hR (s1, m16) h rfl dX4_reads_14
theorem inX4_hear : ∀ w ∈ wsX40, w ∈ wsX4_hear := fun _ h => List.mem_cons_of_mem _ (List.mem_append_left _ (List.mem_append_right _ (h)))
theorem hdX4_hear : yX4_hear.cls = RX4 ∧ yX4_hear.cls ≠ "java/lang/invoke/MethodHandle" ∧ yX4_hear.cls ≠ "java/lang/invoke/VarHandle" ∧ (parseMethodDescriptor yX4_hear.desc).map (fun d => d.parameters.length) = some 3 := by decide +kernel
def wX4_hear_16  (Q : Int32 → ew_M → ew_M → Prop) (s1 : ew_M) (s2 : ew_M) (s3 : ew_M) (s4 : ew_M) (s5 : ew_M) (s6 : ew_M) : Prop := wX4_refuse (fun (r1 : Int32) (m2 : ew_M) => Q r1 s1 m2) (1 : Int32) s1 s2 s3 s4 s5 s6
def wX4_hear (Q : Int32 → ew_M → ew_M → Prop) (p1 : Int32) (p2 : Int32) (p3 : Int32) (s1 : ew_M) (s2 : ew_M) (s3 : ew_M) (s4 : ew_M) (s5 : ew_M) (s6 : ew_M) : Prop := wX4_isNoPair (fun (r1 : Int32) => (¬ r1 = 0 → wX4_hear_16 Q s1 s2 s3 s4 s5 s6) ∧ (r1 = 0 → wX4_isNoThing (fun (r4 : Int32) => (r4 = 0 → wX3_isUnread (fun (r7 : Int32) => (¬ r7 = 0 → wX3_heardBy (fun (r10 : Int32) => (r10 < (3 : Int32) → wX3_clerkSays (fun (r13 : Int32) (m14 : ew_M) => Q r13 m14 s6) p1 p2 p3 s1) ∧ (¬ r10 < (3 : Int32) → wX4_refuse (fun (r15 : Int32) (m16 : ew_M) => Q r15 s1 m16) (6 : Int32) s1 s2 s3 s4 s5 s6)) p1 p2 s1) ∧ (r7 = 0 → wX4_refuse (fun (r17 : Int32) (m18 : ew_M) => Q r17 s1 m18) (3 : Int32) s1 s2 s3 s4 s5 s6)) p1 p2 s1) ∧ (¬ r4 = 0 → wX4_hear_16 Q s1 s2 s3 s4 s5 s6)) p3)) p1 p2 s1 s2 s3 s4 s5 s6
set_option maxHeartbeats 4000000 in
set_option maxRecDepth 100000 in
theorem tX4_hear_16 {C : ew_C} {X : ew_X} {E : ew_M → ew_M → ew_M → ew_M → ew_M → ew_M → ew_S} (hE1 : ∀ (x2 x3 x4 x5 x6 : ew_M), ew_GE X 0 (ew_GT X.2.1 0) (fun M => E M x2 x3 x4 x5 x6)) (hE2 : ∀ (x1 x3 x4 x5 x6 : ew_M), ew_GE X 14 (ew_GT X.2.1 14) (fun M => E x1 M x3 x4 x5 x6)) (hE3 : ∀ (x1 x2 x4 x5 x6 : ew_M), ew_GE X 28 (ew_GT X.2.1 28) (fun M => E x1 x2 M x4 x5 x6)) (hE4 : ∀ (x1 x2 x3 x5 x6 : ew_M), ew_GE X 42 (ew_GL X.2.1) (fun M => E x1 x2 x3 M x5 x6)) (hE5 : ∀ (x1 x2 x3 x4 x6 : ew_M), ew_GE X 45 (ew_GR X.2.1) (fun M => E x1 x2 x3 x4 M x6)) (hE6 : ∀ (x1 x2 x3 x4 x5 : ew_M), ew_GE X 46 (ew_GX X.2.1) (fun M => E x1 x2 x3 x4 x5 M)) (Z : ew_Z C X cX4_hear 4 RX4 wsX4_hear ({ frames := 3, cells := 0, slots := 0, locals := 80 } : Room) (some .int)) {Q : Int32 → ew_M → ew_M → Prop}  {s1 : ew_M} {s2 : ew_M} {s3 : ew_M} {s4 : ew_M} {s5 : ew_M} {s6 : ew_M} (hR : C.2.2.2.2.2.2.2.2.2.2 = MQ C.2.2.2.2.2.2.2.1 (va_Qi (fun (r : Int32) (u : ew_M × ew_M) => Q r u.1 u.2) (fun (u : ew_M × ew_M) => ew_wd X ((fun (u : ew_M × ew_M) => E u.1 s2 s3 s4 s5 u.2) u)) X.2.2.1) C.2.2.2.2.2.2.1 C.2.2.2.2.1 0 0 X.2.2.1) (h : wX4_hear_16 Q s1 s2 s3 s4 s5 s6) : ew_W C X 4 (E s1 s2 s3 s4 s5 s6) 16 [(0, .ref (X.2.1 46))] [] := by
  refine ez_aload_n (pc := 16) Z dX4_hear_16 0 rfl rfl ?_
  refine ez_iconst (pc := 17) Z dX4_hear_17 ec_1 ?_
  refine ez_callVi (pc := 18) (r := 46) (As := [.int (1 : Int32)]) (st := []) Z (kX4_refuse Z.2.2.2.2.2.2.2.2.2.1 (E := E) hE1 hE2 hE3 hE4 hE5 hE6 h) gX4_hear_X4_refuse rfl rfl rfl hdX4_refuse rfl rfl (by decide) (ew_oX0 (hE6 s1 s2 s3 s4 s5) _) rfl rfl rfl rfl dX4_hear_18 (fun r1 m2 h => ?_)
  exact ez_iret (pc := 21) Z hR (s1, m2) h rfl dX4_hear_21
set_option maxHeartbeats 4000000 in
set_option maxRecDepth 100000 in
theorem kX4_hear {X : ew_X} {l : Launch} (hX : ew_Ap X) {E : ew_M → ew_M → ew_M → ew_M → ew_M → ew_M → ew_S} (hE1 : ∀ (x2 x3 x4 x5 x6 : ew_M), ew_GE X 0 (ew_GT X.2.1 0) (fun M => E M x2 x3 x4 x5 x6)) (hE2 : ∀ (x1 x3 x4 x5 x6 : ew_M), ew_GE X 14 (ew_GT X.2.1 14) (fun M => E x1 M x3 x4 x5 x6)) (hE3 : ∀ (x1 x2 x4 x5 x6 : ew_M), ew_GE X 28 (ew_GT X.2.1 28) (fun M => E x1 x2 M x4 x5 x6)) (hE4 : ∀ (x1 x2 x3 x5 x6 : ew_M), ew_GE X 42 (ew_GL X.2.1) (fun M => E x1 x2 x3 M x5 x6)) (hE5 : ∀ (x1 x2 x3 x4 x6 : ew_M), ew_GE X 45 (ew_GR X.2.1) (fun M => E x1 x2 x3 x4 M x6)) (hE6 : ∀ (x1 x2 x3 x4 x5 : ew_M), ew_GE X 46 (ew_GX X.2.1) (fun M => E x1 x2 x3 x4 x5 M)) {Q : Int32 → ew_M → ew_M → Prop} {p1 : Int32} {p2 : Int32} {p3 : Int32} {s1 : ew_M} {s2 : ew_M} {s3 : ew_M} {s4 : ew_M} {s5 : ew_M} {s6 : ew_M} (h : wX4_hear Q p1 p2 p3 s1 s2 s3 s4 s5 s6) : Met l yX4_hear wsX4_hear ({ frames := 3, cells := 0, slots := 0, locals := 80 } : Room) (va_Pc [.ref (X.2.1 46), .int p1, .int p2, .int p3] (ew_wd X (E s1 s2 s3 s4 s5 s6))) (va_Qi (fun (r : Int32) (u : ew_M × ew_M) => Q r u.1 u.2) (fun (u : ew_M × ew_M) => ew_wd X ((fun (u : ew_M × ew_M) => E u.1 s2 s3 s4 s5 u.2) u)) X.2.2.1) 0 0 X.2.2.1 := by
  refine ew_met (As := [.ref (X.2.1 46), .int p1, .int p2, .int p3]) (L0 := [(0, .ref (X.2.1 46)), (1, .int p1), (2, .int p2), (3, .int p3)]) X l hX (by decide) rfl rfl rfl rfl (fun C hl Z hR => ?_)
  subst hl
  refine ez_aload_n (pc := 0) Z dX4_hear_0 0 rfl rfl ?_
  refine ez_iload_n (pc := 1) Z dX4_hear_1 1 rfl rfl ?_
  refine ez_iload_n (pc := 2) Z dX4_hear_2 2 rfl rfl ?_
  refine ez_callVi (pc := 3) (r := 46) (As := [.int p1, .int p2]) (st := []) Z (kX4_isNoPair Z.2.2.2.2.2.2.2.2.2.1 (E := E) hE1 hE2 hE3 hE4 hE5 hE6 h) gX4_hear_X4_isNoPair rfl rfl rfl hdX4_isNoPair rfl rfl (by decide) (ew_oX0 (hE6 s1 s2 s3 s4 s5) _) rfl rfl rfl rfl dX4_hear_3 (fun r1 u2 h => ?_)
  refine ez_if_ne (pc := 6) (tgt := 16) Z dX4_hear_6 rfl (fun c3 => ?_) (fun c3 => ?_)
  · replace h := h.1 c3
    refine ez_sub [(0, .ref (X.2.1 46))] [0] rfl ?_
    exact tX4_hear_16 hE1 hE2 hE3 hE4 hE5 hE6 Z hR  h
  · replace h := h.2 c3
    refine ez_iload_n (pc := 9) Z dX4_hear_9 3 rfl rfl ?_
    refine ez_callSi (pc := 10) (As := [.int p3]) (st := []) Z (kX4_isNoThing Z.2.2.2.2.2.2.2.2.2.1 (S := E s1 s2 s3 s4 s5 s6) h) gX4_hear_X4_isNoThing rfl rfl rfl hdX4_isNoThing rfl rfl rfl rfl rfl dX4_hear_10 (fun r4 u5 h => ?_)
    refine ez_if_eq (pc := 13) (tgt := 22) Z dX4_hear_13 rfl (fun c6 => ?_) (fun c6 => ?_)
    · replace h := h.1 c6
      refine ez_aload_n (pc := 22) Z dX4_hear_22 0 rfl rfl ?_
      refine fX4_now (pc := 23) (M := s6) Z (hE6 s1 s2 s3 s4 s5) inX4_hear (List.mem_of_getElem? (i := 1) rfl) dX4_hear_23 ?_
      refine ez_iload_n (pc := 26) Z dX4_hear_26 1 rfl rfl ?_
      refine ez_iload_n (pc := 27) Z dX4_hear_27 2 rfl rfl ?_
      refine ez_callVi (pc := 28) (r := 0) (As := [.int p1, .int p2]) (st := []) Z (kX3_isUnread Z.2.2.2.2.2.2.2.2.2.1 (E := fun q1 => E q1 s2 s3 s4 s5 s6) (hE1 s2 s3 s4 s5 s6) h) gX4_hear_X3_isUnread rfl rfl rfl hdX3_isUnread rfl rfl (by decide) (ew_oT (hE1 s2 s3 s4 s5 s6) _) rfl rfl rfl rfl dX4_hear_28 (fun r7 u8 h => ?_)
      refine ez_if_ne (pc := 31) (tgt := 40) Z dX4_hear_31 rfl (fun c9 => ?_) (fun c9 => ?_)
      · replace h := h.1 c9
        refine ez_aload_n (pc := 40) Z dX4_hear_40 0 rfl rfl ?_
        refine fX4_now (pc := 41) (M := s6) Z (hE6 s1 s2 s3 s4 s5) inX4_hear (List.mem_of_getElem? (i := 1) rfl) dX4_hear_41 ?_
        refine ez_iload_n (pc := 44) Z dX4_hear_44 1 rfl rfl ?_
        refine ez_iload_n (pc := 45) Z dX4_hear_45 2 rfl rfl ?_
        refine ez_callVi (pc := 46) (r := 0) (As := [.int p1, .int p2]) (st := []) Z (kX3_heardBy Z.2.2.2.2.2.2.2.2.2.1 (E := fun q1 => E q1 s2 s3 s4 s5 s6) (hE1 s2 s3 s4 s5 s6) h) gX4_hear_X3_heardBy rfl rfl rfl hdX3_heardBy rfl rfl (by decide) (ew_oT (hE1 s2 s3 s4 s5 s6) _) rfl rfl rfl rfl dX4_hear_46 (fun r10 u11 h => ?_)
        refine ez_iconst (pc := 49) Z dX4_hear_49 ec_3 ?_
        refine ez_icmp_lt (pc := 50) (tgt := 60) Z dX4_hear_50 rfl (fun c12 => ?_) (fun c12 => ?_)
        · replace h := h.1 c12
          refine ez_aload_n (pc := 60) Z dX4_hear_60 0 rfl rfl ?_
          refine fX4_now (pc := 61) (M := s6) Z (hE6 s1 s2 s3 s4 s5) inX4_hear (List.mem_of_getElem? (i := 1) rfl) dX4_hear_61 ?_
          refine ez_iload_n (pc := 64) Z dX4_hear_64 1 rfl rfl ?_
          refine ez_iload_n (pc := 65) Z dX4_hear_65 2 rfl rfl ?_
          refine ez_iload_n (pc := 66) Z dX4_hear_66 3 rfl rfl ?_
          refine ez_callVi (pc := 67) (r := 0) (As := [.int p1, .int p2, .int p3]) (st := []) Z (kX3_clerkSays Z.2.2.2.2.2.2.2.2.2.1 (E := fun q1 => E q1 s2 s3 s4 s5 s6) (hE1 s2 s3 s4 s5 s6) h) gX4_hear_X3_clerkSays rfl rfl rfl hdX3_clerkSays rfl rfl (by decide) (ew_oT (hE1 s2 s3 s4 s5 s6) _) rfl rfl rfl rfl dX4_hear_67 (fun r13 m14 h => ?_)
          exact ez_iret (pc := 70) Z hR (m14, s6) h rfl dX4_hear_70
        · replace h := h.2 c12
          refine ez_aload_n (pc := 53) Z dX4_hear_53 0 rfl rfl ?_
          refine ez_bipush (pc := 54) Z dX4_hear_54 eb_6 ?_
          refine ez_callVi (pc := 56) (r := 46) (As := [.int (6 : Int32)]) (st := []) Z (kX4_refuse Z.2.2.2.2.2.2.2.2.2.1 (E := E) hE1 hE2 hE3 hE4 hE5 hE6 h) gX4_hear_X4_refuse rfl rfl rfl hdX4_refuse rfl rfl (by decide) (ew_oX0 (hE6 s1 s2 s3 s4 s5) _) rfl rfl rfl rfl dX4_hear_56 (fun r15 m16 h => ?_)
          exact ez_iret (pc := 59) Z hR (s1, m16) h rfl dX4_hear_59
      · replace h := h.2 c9
        refine ez_aload_n (pc := 34) Z dX4_hear_34 0 rfl rfl ?_
        refine ez_iconst (pc := 35) Z dX4_hear_35 ec_3 ?_
        refine ez_callVi (pc := 36) (r := 46) (As := [.int (3 : Int32)]) (st := []) Z (kX4_refuse Z.2.2.2.2.2.2.2.2.2.1 (E := E) hE1 hE2 hE3 hE4 hE5 hE6 h) gX4_hear_X4_refuse rfl rfl rfl hdX4_refuse rfl rfl (by decide) (ew_oX0 (hE6 s1 s2 s3 s4 s5) _) rfl rfl rfl rfl dX4_hear_36 (fun r17 m18 h => ?_)
        exact ez_iret (pc := 39) Z hR (s1, m18) h rfl dX4_hear_39
    · replace h := h.2 c6
      refine ez_sub [(0, .ref (X.2.1 46))] [0] rfl ?_
      exact tX4_hear_16 hE1 hE2 hE3 hE4 hE5 hE6 Z hR  h
theorem inX4_refuseFarthest : ∀ w ∈ wsX40, w ∈ wsX4_refuseFarthest := fun _ h => List.mem_cons_of_mem _ (List.mem_append_right _ (h))
theorem hdX4_refuseFarthest : yX4_refuseFarthest.cls = RX4 ∧ yX4_refuseFarthest.cls ≠ "java/lang/invoke/MethodHandle" ∧ yX4_refuseFarthest.cls ≠ "java/lang/invoke/VarHandle" ∧ (parseMethodDescriptor yX4_refuseFarthest.desc).map (fun d => d.parameters.length) = some 1 := by decide +kernel
def wX4_refuseFarthest (Q : Int64 → ew_M → Prop) (p1 : Int32) (s1 : ew_M) (s2 : ew_M) (s3 : ew_M) (s4 : ew_M) (s5 : ew_M) (s6 : ew_M) : Prop := vp_in p1 7 ∧ (vp_in p1 7 ∧ (Q ((4000000000000000000 : Int64) + p1.toInt64) (ew_sA s6 1 p1.toNatClampNeg ((s6.2.1 1 p1.toNatClampNeg) + (1 : Int32)))))
set_option maxHeartbeats 4000000 in
set_option maxRecDepth 100000 in
theorem kX4_refuseFarthest {X : ew_X} {l : Launch} (hX : ew_Ap X) {E : ew_M → ew_M → ew_M → ew_M → ew_M → ew_M → ew_S} (hE1 : ∀ (x2 x3 x4 x5 x6 : ew_M), ew_GE X 0 (ew_GT X.2.1 0) (fun M => E M x2 x3 x4 x5 x6)) (hE2 : ∀ (x1 x3 x4 x5 x6 : ew_M), ew_GE X 14 (ew_GT X.2.1 14) (fun M => E x1 M x3 x4 x5 x6)) (hE3 : ∀ (x1 x2 x4 x5 x6 : ew_M), ew_GE X 28 (ew_GT X.2.1 28) (fun M => E x1 x2 M x4 x5 x6)) (hE4 : ∀ (x1 x2 x3 x5 x6 : ew_M), ew_GE X 42 (ew_GL X.2.1) (fun M => E x1 x2 x3 M x5 x6)) (hE5 : ∀ (x1 x2 x3 x4 x6 : ew_M), ew_GE X 45 (ew_GR X.2.1) (fun M => E x1 x2 x3 x4 M x6)) (hE6 : ∀ (x1 x2 x3 x4 x5 : ew_M), ew_GE X 46 (ew_GX X.2.1) (fun M => E x1 x2 x3 x4 x5 M)) {Q : Int64 → ew_M → Prop} {p1 : Int32} {s1 : ew_M} {s2 : ew_M} {s3 : ew_M} {s4 : ew_M} {s5 : ew_M} {s6 : ew_M} (h : wX4_refuseFarthest Q p1 s1 s2 s3 s4 s5 s6) : Met l yX4_refuseFarthest wsX4_refuseFarthest ({ frames := 0, cells := 0, slots := 0, locals := 0 } : Room) (va_Pc [.ref (X.2.1 46), .int p1] (ew_wd X (E s1 s2 s3 s4 s5 s6))) (va_Ql (fun (r : Int64) (u : ew_M) => Q r u) (fun (u : ew_M) => ew_wd X ((fun (u : ew_M) => E s1 s2 s3 s4 s5 u) u)) X.2.2.1) 0 0 X.2.2.1 := by
  refine ew_met (As := [.ref (X.2.1 46), .int p1]) (L0 := [(0, .ref (X.2.1 46)), (1, .int p1)]) X l hX (by decide) rfl rfl rfl rfl (fun C hl Z hR => ?_)
  subst hl
  refine ez_aload_n (pc := 0) Z dX4_refuseFarthest_0 0 rfl rfl ?_
  refine fX4_refusals (pc := 1) (M := s6) Z (hE6 s1 s2 s3 s4 s5) inX4_refuseFarthest (List.mem_of_getElem? (i := 1) rfl) dX4_refuseFarthest_1 ?_
  refine ez_iload_n (pc := 4) Z dX4_refuseFarthest_4 1 rfl rfl ?_
  refine ez_dup2_11 (pc := 5) Z dX4_refuseFarthest_5 rfl rfl ?_
  refine ez_iald (pc := 6) (n := 7) (a := 1) (v := s6.2.1 1 p1.toNatClampNeg) (M := s6) Z (hE6 s1 s2 s3 s4 s5) 3 rfl (by decide : 1 < 2) rfl rfl h.1 dX4_refuseFarthest_6 ?_
  replace h := h.2
  refine ez_iconst (pc := 7) Z dX4_refuseFarthest_7 ec_1 ?_
  refine ez_iadd (pc := 8) Z dX4_refuseFarthest_8 ?_
  refine ez_iast (pc := 9) (n := 7) (a := 1) (M := s6) (M' := ew_sA s6 1 p1.toNatClampNeg ((s6.2.1 1 p1.toNatClampNeg) + (1 : Int32))) Z (hE6 s1 s2 s3 s4 s5) 3 rfl (by decide : 1 < 2) rfl rfl h.1 dX4_refuseFarthest_9 ?_
  replace h := h.2
  refine ez_ldc2 (pc := 10) Z (List.mem_of_getElem? (i := 2) rfl) dX4_refuseFarthest_10 ?_
  refine ez_iload_n (pc := 13) Z dX4_refuseFarthest_13 1 rfl rfl ?_
  refine ez_i2l (pc := 14) Z dX4_refuseFarthest_14 ?_
  refine ez_ladd (pc := 15) Z dX4_refuseFarthest_15 ?_
  exact ez_lret (pc := 16) Z hR (ew_sA s6 1 p1.toNatClampNeg ((s6.2.1 1 p1.toNatClampNeg) + (1 : Int32))) h rfl dX4_refuseFarthest_16
theorem inX4_weight : ∀ w ∈ wsX40, w ∈ wsX4_weight := fun _ h => List.mem_cons_of_mem _ (List.mem_append_left _ (List.mem_append_right _ (h)))
theorem hdX4_weight : yX4_weight.cls = RX4 ∧ yX4_weight.cls ≠ "java/lang/invoke/MethodHandle" ∧ yX4_weight.cls ≠ "java/lang/invoke/VarHandle" ∧ (parseMethodDescriptor yX4_weight.desc).map (fun d => d.parameters.length) = some 3 := by decide +kernel
def wX4_weight_16  (Q : Int64 → ew_M → Prop) (s1 : ew_M) (s2 : ew_M) (s3 : ew_M) (s4 : ew_M) (s5 : ew_M) (s6 : ew_M) : Prop := wX4_refuseFarthest (fun (r1 : Int64) (m2 : ew_M) => Q r1 m2) (1 : Int32) s1 s2 s3 s4 s5 s6
def wX4_weight (Q : Int64 → ew_M → Prop) (p1 : Int32) (p2 : Int32) (p3 : Int32) (s1 : ew_M) (s2 : ew_M) (s3 : ew_M) (s4 : ew_M) (s5 : ew_M) (s6 : ew_M) : Prop := wX4_isNoPair (fun (r1 : Int32) => (¬ r1 = 0 → wX4_weight_16 Q s1 s2 s3 s4 s5 s6) ∧ (r1 = 0 → wX4_isNoThing (fun (r4 : Int32) => (r4 = 0 → wX3_isBound (fun (r7 : Int32) => (¬ r7 = 0 → wX3_weightOf (fun (r10 : Int64) => Q r10 s6) p1 p2 p3 s1) ∧ (r7 = 0 → wX4_refuseFarthest (fun (r12 : Int64) (m13 : ew_M) => Q r12 m13) (3 : Int32) s1 s2 s3 s4 s5 s6)) p1 p2 s1) ∧ (¬ r4 = 0 → wX4_weight_16 Q s1 s2 s3 s4 s5 s6)) p3)) p1 p2 s1 s2 s3 s4 s5 s6
set_option maxHeartbeats 4000000 in
set_option maxRecDepth 100000 in
theorem tX4_weight_16 {C : ew_C} {X : ew_X} {E : ew_M → ew_M → ew_M → ew_M → ew_M → ew_M → ew_S} (hE1 : ∀ (x2 x3 x4 x5 x6 : ew_M), ew_GE X 0 (ew_GT X.2.1 0) (fun M => E M x2 x3 x4 x5 x6)) (hE2 : ∀ (x1 x3 x4 x5 x6 : ew_M), ew_GE X 14 (ew_GT X.2.1 14) (fun M => E x1 M x3 x4 x5 x6)) (hE3 : ∀ (x1 x2 x4 x5 x6 : ew_M), ew_GE X 28 (ew_GT X.2.1 28) (fun M => E x1 x2 M x4 x5 x6)) (hE4 : ∀ (x1 x2 x3 x5 x6 : ew_M), ew_GE X 42 (ew_GL X.2.1) (fun M => E x1 x2 x3 M x5 x6)) (hE5 : ∀ (x1 x2 x3 x4 x6 : ew_M), ew_GE X 45 (ew_GR X.2.1) (fun M => E x1 x2 x3 x4 M x6)) (hE6 : ∀ (x1 x2 x3 x4 x5 : ew_M), ew_GE X 46 (ew_GX X.2.1) (fun M => E x1 x2 x3 x4 x5 M)) (Z : ew_Z C X cX4_weight 4 RX4 wsX4_weight ({ frames := 2, cells := 0, slots := 0, locals := 43 } : Room) (some .long)) {Q : Int64 → ew_M → Prop}  {s1 : ew_M} {s2 : ew_M} {s3 : ew_M} {s4 : ew_M} {s5 : ew_M} {s6 : ew_M} (hR : C.2.2.2.2.2.2.2.2.2.2 = MQ C.2.2.2.2.2.2.2.1 (va_Ql (fun (r : Int64) (u : ew_M) => Q r u) (fun (u : ew_M) => ew_wd X ((fun (u : ew_M) => E s1 s2 s3 s4 s5 u) u)) X.2.2.1) C.2.2.2.2.2.2.1 C.2.2.2.2.1 0 0 X.2.2.1) (h : wX4_weight_16 Q s1 s2 s3 s4 s5 s6) : ew_W C X 4 (E s1 s2 s3 s4 s5 s6) 16 [(0, .ref (X.2.1 46))] [] := by
  refine ez_aload_n (pc := 16) Z dX4_weight_16 0 rfl rfl ?_
  refine ez_iconst (pc := 17) Z dX4_weight_17 ec_1 ?_
  refine ez_callVl (pc := 18) (r := 46) (As := [.int (1 : Int32)]) (st := []) Z (kX4_refuseFarthest Z.2.2.2.2.2.2.2.2.2.1 (E := E) hE1 hE2 hE3 hE4 hE5 hE6 h) gX4_weight_X4_refuseFarthest rfl rfl rfl hdX4_refuseFarthest rfl rfl (by decide) (ew_oX0 (hE6 s1 s2 s3 s4 s5) _) rfl rfl rfl rfl dX4_weight_18 (fun r1 m2 h => ?_)
  exact ez_lret (pc := 21) Z hR m2 h rfl dX4_weight_21
set_option maxHeartbeats 4000000 in
set_option maxRecDepth 100000 in
theorem kX4_weight {X : ew_X} {l : Launch} (hX : ew_Ap X) {E : ew_M → ew_M → ew_M → ew_M → ew_M → ew_M → ew_S} (hE1 : ∀ (x2 x3 x4 x5 x6 : ew_M), ew_GE X 0 (ew_GT X.2.1 0) (fun M => E M x2 x3 x4 x5 x6)) (hE2 : ∀ (x1 x3 x4 x5 x6 : ew_M), ew_GE X 14 (ew_GT X.2.1 14) (fun M => E x1 M x3 x4 x5 x6)) (hE3 : ∀ (x1 x2 x4 x5 x6 : ew_M), ew_GE X 28 (ew_GT X.2.1 28) (fun M => E x1 x2 M x4 x5 x6)) (hE4 : ∀ (x1 x2 x3 x5 x6 : ew_M), ew_GE X 42 (ew_GL X.2.1) (fun M => E x1 x2 x3 M x5 x6)) (hE5 : ∀ (x1 x2 x3 x4 x6 : ew_M), ew_GE X 45 (ew_GR X.2.1) (fun M => E x1 x2 x3 x4 M x6)) (hE6 : ∀ (x1 x2 x3 x4 x5 : ew_M), ew_GE X 46 (ew_GX X.2.1) (fun M => E x1 x2 x3 x4 x5 M)) {Q : Int64 → ew_M → Prop} {p1 : Int32} {p2 : Int32} {p3 : Int32} {s1 : ew_M} {s2 : ew_M} {s3 : ew_M} {s4 : ew_M} {s5 : ew_M} {s6 : ew_M} (h : wX4_weight Q p1 p2 p3 s1 s2 s3 s4 s5 s6) : Met l yX4_weight wsX4_weight ({ frames := 2, cells := 0, slots := 0, locals := 43 } : Room) (va_Pc [.ref (X.2.1 46), .int p1, .int p2, .int p3] (ew_wd X (E s1 s2 s3 s4 s5 s6))) (va_Ql (fun (r : Int64) (u : ew_M) => Q r u) (fun (u : ew_M) => ew_wd X ((fun (u : ew_M) => E s1 s2 s3 s4 s5 u) u)) X.2.2.1) 0 0 X.2.2.1 := by
  refine ew_met (As := [.ref (X.2.1 46), .int p1, .int p2, .int p3]) (L0 := [(0, .ref (X.2.1 46)), (1, .int p1), (2, .int p2), (3, .int p3)]) X l hX (by decide) rfl rfl rfl rfl (fun C hl Z hR => ?_)
  subst hl
  refine ez_aload_n (pc := 0) Z dX4_weight_0 0 rfl rfl ?_
  refine ez_iload_n (pc := 1) Z dX4_weight_1 1 rfl rfl ?_
  refine ez_iload_n (pc := 2) Z dX4_weight_2 2 rfl rfl ?_
  refine ez_callVi (pc := 3) (r := 46) (As := [.int p1, .int p2]) (st := []) Z (kX4_isNoPair Z.2.2.2.2.2.2.2.2.2.1 (E := E) hE1 hE2 hE3 hE4 hE5 hE6 h) gX4_weight_X4_isNoPair rfl rfl rfl hdX4_isNoPair rfl rfl (by decide) (ew_oX0 (hE6 s1 s2 s3 s4 s5) _) rfl rfl rfl rfl dX4_weight_3 (fun r1 u2 h => ?_)
  refine ez_if_ne (pc := 6) (tgt := 16) Z dX4_weight_6 rfl (fun c3 => ?_) (fun c3 => ?_)
  · replace h := h.1 c3
    refine ez_sub [(0, .ref (X.2.1 46))] [0] rfl ?_
    exact tX4_weight_16 hE1 hE2 hE3 hE4 hE5 hE6 Z hR  h
  · replace h := h.2 c3
    refine ez_iload_n (pc := 9) Z dX4_weight_9 3 rfl rfl ?_
    refine ez_callSi (pc := 10) (As := [.int p3]) (st := []) Z (kX4_isNoThing Z.2.2.2.2.2.2.2.2.2.1 (S := E s1 s2 s3 s4 s5 s6) h) gX4_weight_X4_isNoThing rfl rfl rfl hdX4_isNoThing rfl rfl rfl rfl rfl dX4_weight_10 (fun r4 u5 h => ?_)
    refine ez_if_eq (pc := 13) (tgt := 22) Z dX4_weight_13 rfl (fun c6 => ?_) (fun c6 => ?_)
    · replace h := h.1 c6
      refine ez_aload_n (pc := 22) Z dX4_weight_22 0 rfl rfl ?_
      refine fX4_now (pc := 23) (M := s6) Z (hE6 s1 s2 s3 s4 s5) inX4_weight (List.mem_of_getElem? (i := 1) rfl) dX4_weight_23 ?_
      refine ez_iload_n (pc := 26) Z dX4_weight_26 1 rfl rfl ?_
      refine ez_iload_n (pc := 27) Z dX4_weight_27 2 rfl rfl ?_
      refine ez_callVi (pc := 28) (r := 0) (As := [.int p1, .int p2]) (st := []) Z (kX3_isBound Z.2.2.2.2.2.2.2.2.2.1 (E := fun q1 => E q1 s2 s3 s4 s5 s6) (hE1 s2 s3 s4 s5 s6) h) gX4_weight_X3_isBound rfl rfl rfl hdX3_isBound rfl rfl (by decide) (ew_oT (hE1 s2 s3 s4 s5 s6) _) rfl rfl rfl rfl dX4_weight_28 (fun r7 u8 h => ?_)
      refine ez_if_ne (pc := 31) (tgt := 40) Z dX4_weight_31 rfl (fun c9 => ?_) (fun c9 => ?_)
      · replace h := h.1 c9
        refine ez_aload_n (pc := 40) Z dX4_weight_40 0 rfl rfl ?_
        refine fX4_now (pc := 41) (M := s6) Z (hE6 s1 s2 s3 s4 s5) inX4_weight (List.mem_of_getElem? (i := 1) rfl) dX4_weight_41 ?_
        refine ez_iload_n (pc := 44) Z dX4_weight_44 1 rfl rfl ?_
        refine ez_iload_n (pc := 45) Z dX4_weight_45 2 rfl rfl ?_
        refine ez_iload_n (pc := 46) Z dX4_weight_46 3 rfl rfl ?_
        refine ez_callVl (pc := 47) (r := 0) (As := [.int p1, .int p2, .int p3]) (st := []) Z (kX3_weightOf Z.2.2.2.2.2.2.2.2.2.1 (E := fun q1 => E q1 s2 s3 s4 s5 s6) (hE1 s2 s3 s4 s5 s6) h) gX4_weight_X3_weightOf rfl rfl rfl hdX3_weightOf rfl rfl (by decide) (ew_oT (hE1 s2 s3 s4 s5 s6) _) rfl rfl rfl rfl dX4_weight_47 (fun r10 u11 h => ?_)
        exact ez_lret (pc := 50) Z hR s6 h rfl dX4_weight_50
      · replace h := h.2 c9
        refine ez_aload_n (pc := 34) Z dX4_weight_34 0 rfl rfl ?_
        refine ez_iconst (pc := 35) Z dX4_weight_35 ec_3 ?_
        refine ez_callVl (pc := 36) (r := 46) (As := [.int (3 : Int32)]) (st := []) Z (kX4_refuseFarthest Z.2.2.2.2.2.2.2.2.2.1 (E := E) hE1 hE2 hE3 hE4 hE5 hE6 h) gX4_weight_X4_refuseFarthest rfl rfl rfl hdX4_refuseFarthest rfl rfl (by decide) (ew_oX0 (hE6 s1 s2 s3 s4 s5) _) rfl rfl rfl rfl dX4_weight_36 (fun r12 m13 h => ?_)
        exact ez_lret (pc := 39) Z hR m13 h rfl dX4_weight_39
    · replace h := h.2 c6
      refine ez_sub [(0, .ref (X.2.1 46))] [0] rfl ?_
      exact tX4_weight_16 hE1 hE2 hE3 hE4 hE5 hE6 Z hR  h
theorem hdX4_isNoPart : yX4_isNoPart.cls ≠ "java/lang/invoke/MethodHandle" ∧ yX4_isNoPart.cls ≠ "java/lang/invoke/VarHandle" ∧ (parseMethodDescriptor yX4_isNoPart.desc).map (fun d => d.parameters.length) = some 1 := by decide +kernel
def wX4_isNoPart (Q : Int32 → Prop) (p1 : Int32) : Prop := (p1 = 0 → Q (0 : Int32) ) ∧ (¬ p1 = 0 → (p1 = (1 : Int32) → Q (0 : Int32) ) ∧ (¬ p1 = (1 : Int32) → Q (1 : Int32) ))
set_option maxHeartbeats 4000000 in
set_option maxRecDepth 100000 in
theorem kX4_isNoPart {X : ew_X} {l : Launch} (hX : ew_Ap X) {S : ew_S} {Q : Int32 → Prop} {p1 : Int32} (h : wX4_isNoPart Q p1) : Met l yX4_isNoPart wsX4_isNoPart ({ frames := 0, cells := 0, slots := 0, locals := 0 } : Room) (va_Pc [.int p1] (ew_wd X (S))) (va_Qi (fun (r : Int32) (_ : Unit) => Q r) (fun (u : Unit) => ew_wd X ((fun (_ : Unit) => S) u)) X.2.2.1) 0 0 X.2.2.1 := by
  refine ew_met (As := [.int p1]) (L0 := [(0, .int p1)]) X l hX (by decide) rfl rfl rfl rfl (fun C hl Z hR => ?_)
  subst hl
  refine ez_iload_n (pc := 0) Z dX4_isNoPart_0 0 rfl rfl ?_
  refine ez_if_eq (pc := 1) (tgt := 13) Z dX4_isNoPart_1 rfl (fun c1 => ?_) (fun c1 => ?_)
  · replace h := h.1 c1
    refine ez_iconst (pc := 13) Z dX4_isNoPart_13 ec_0 ?_
    exact ez_zret (pc := 14) Z hR () rfl h rfl dX4_isNoPart_14
  · replace h := h.2 c1
    refine ez_iload_n (pc := 4) Z dX4_isNoPart_4 0 rfl rfl ?_
    refine ez_iconst (pc := 5) Z dX4_isNoPart_5 ec_1 ?_
    refine ez_icmp_eq (pc := 6) (tgt := 13) Z dX4_isNoPart_6 rfl (fun c2 => ?_) (fun c2 => ?_)
    · replace h := h.1 c2
      refine ez_iconst (pc := 13) Z dX4_isNoPart_13 ec_0 ?_
      exact ez_zret (pc := 14) Z hR () rfl h rfl dX4_isNoPart_14
    · replace h := h.2 c2
      refine ez_iconst (pc := 9) Z dX4_isNoPart_9 ec_1 ?_
      refine ez_goto (pc := 10) (tgt := 14) Z dX4_isNoPart_10 rfl ?_
      exact ez_zret (pc := 14) Z hR () rfl h rfl dX4_isNoPart_14
theorem inX4_think : ∀ w ∈ wsX40, w ∈ wsX4_think := fun _ h => List.mem_cons_of_mem _ (List.mem_append_left _ (List.mem_append_left _ (List.mem_append_right _ (h))))
theorem hdX4_think : yX4_think.cls = RX4 ∧ yX4_think.cls ≠ "java/lang/invoke/MethodHandle" ∧ yX4_think.cls ≠ "java/lang/invoke/VarHandle" ∧ (parseMethodDescriptor yX4_think.desc).map (fun d => d.parameters.length) = some 3 := by decide +kernel
def wX4_think (Q : Int64 → ew_M → ew_M → Prop) (p1 : Int32) (p2 : Int32) (p3 : Int32) (s1 : ew_M) (s2 : ew_M) (s3 : ew_M) (s4 : ew_M) (s5 : ew_M) (s6 : ew_M) : Prop := wX4_isNoPair (fun (r1 : Int32) => (r1 = 0 → wX4_isNoPart (fun (r4 : Int32) => (r4 = 0 → wX3_isBound (fun (r7 : Int32) => (¬ r7 = 0 → wX3_thinkAbove (fun (r10 : Int64) => wX3_thinkBelow (fun (r12 : Int64) => wX2_become (fun (m15 : ew_M) => wX2_partOf (fun (r16 : Int64) => Q r16 m15 s6) p3 m15) r10 r12 s5) p1 p2 s1) p1 p2 s1) ∧ (r7 = 0 → wX4_refuseFarthest (fun (r18 : Int64) (m19 : ew_M) => Q r18 s5 m19) (3 : Int32) s1 s2 s3 s4 s5 s6)) p1 p2 s1) ∧ (¬ r4 = 0 → wX4_refuseFarthest (fun (r20 : Int64) (m21 : ew_M) => Q r20 s5 m21) (2 : Int32) s1 s2 s3 s4 s5 s6)) p3) ∧ (¬ r1 = 0 → wX4_refuseFarthest (fun (r22 : Int64) (m23 : ew_M) => Q r22 s5 m23) (1 : Int32) s1 s2 s3 s4 s5 s6)) p1 p2 s1 s2 s3 s4 s5 s6
set_option maxHeartbeats 4000000 in
set_option maxRecDepth 100000 in
theorem kX4_think {X : ew_X} {l : Launch} (hX : ew_Ap X) {E : ew_M → ew_M → ew_M → ew_M → ew_M → ew_M → ew_S} (hE1 : ∀ (x2 x3 x4 x5 x6 : ew_M), ew_GE X 0 (ew_GT X.2.1 0) (fun M => E M x2 x3 x4 x5 x6)) (hE2 : ∀ (x1 x3 x4 x5 x6 : ew_M), ew_GE X 14 (ew_GT X.2.1 14) (fun M => E x1 M x3 x4 x5 x6)) (hE3 : ∀ (x1 x2 x4 x5 x6 : ew_M), ew_GE X 28 (ew_GT X.2.1 28) (fun M => E x1 x2 M x4 x5 x6)) (hE4 : ∀ (x1 x2 x3 x5 x6 : ew_M), ew_GE X 42 (ew_GL X.2.1) (fun M => E x1 x2 x3 M x5 x6)) (hE5 : ∀ (x1 x2 x3 x4 x6 : ew_M), ew_GE X 45 (ew_GR X.2.1) (fun M => E x1 x2 x3 x4 M x6)) (hE6 : ∀ (x1 x2 x3 x4 x5 : ew_M), ew_GE X 46 (ew_GX X.2.1) (fun M => E x1 x2 x3 x4 x5 M)) {Q : Int64 → ew_M → ew_M → Prop} {p1 : Int32} {p2 : Int32} {p3 : Int32} {s1 : ew_M} {s2 : ew_M} {s3 : ew_M} {s4 : ew_M} {s5 : ew_M} {s6 : ew_M} (h : wX4_think Q p1 p2 p3 s1 s2 s3 s4 s5 s6) : Met l yX4_think wsX4_think ({ frames := 2, cells := 0, slots := 0, locals := 56 } : Room) (va_Pc [.ref (X.2.1 46), .int p1, .int p2, .int p3] (ew_wd X (E s1 s2 s3 s4 s5 s6))) (va_Ql (fun (r : Int64) (u : ew_M × ew_M) => Q r u.1 u.2) (fun (u : ew_M × ew_M) => ew_wd X ((fun (u : ew_M × ew_M) => E s1 s2 s3 s4 u.1 u.2) u)) X.2.2.1) 0 0 X.2.2.1 := by
  refine ew_met (As := [.ref (X.2.1 46), .int p1, .int p2, .int p3]) (L0 := [(0, .ref (X.2.1 46)), (1, .int p1), (2, .int p2), (3, .int p3)]) X l hX (by decide) rfl rfl rfl rfl (fun C hl Z hR => ?_)
  subst hl
  refine ez_aload_n (pc := 0) Z dX4_think_0 0 rfl rfl ?_
  refine ez_iload_n (pc := 1) Z dX4_think_1 1 rfl rfl ?_
  refine ez_iload_n (pc := 2) Z dX4_think_2 2 rfl rfl ?_
  refine ez_callVi (pc := 3) (r := 46) (As := [.int p1, .int p2]) (st := []) Z (kX4_isNoPair Z.2.2.2.2.2.2.2.2.2.1 (E := E) hE1 hE2 hE3 hE4 hE5 hE6 h) gX4_think_X4_isNoPair rfl rfl rfl hdX4_isNoPair rfl rfl (by decide) (ew_oX0 (hE6 s1 s2 s3 s4 s5) _) rfl rfl rfl rfl dX4_think_3 (fun r1 u2 h => ?_)
  refine ez_if_eq (pc := 6) (tgt := 15) Z dX4_think_6 rfl (fun c3 => ?_) (fun c3 => ?_)
  · replace h := h.1 c3
    refine ez_iload_n (pc := 15) Z dX4_think_15 3 rfl rfl ?_
    refine ez_callSi (pc := 16) (As := [.int p3]) (st := []) Z (kX4_isNoPart Z.2.2.2.2.2.2.2.2.2.1 (S := E s1 s2 s3 s4 s5 s6) h) gX4_think_X4_isNoPart rfl rfl rfl hdX4_isNoPart rfl rfl rfl rfl rfl dX4_think_16 (fun r4 u5 h => ?_)
    refine ez_if_eq (pc := 19) (tgt := 28) Z dX4_think_19 rfl (fun c6 => ?_) (fun c6 => ?_)
    · replace h := h.1 c6
      refine ez_aload_n (pc := 28) Z dX4_think_28 0 rfl rfl ?_
      refine fX4_now (pc := 29) (M := s6) Z (hE6 s1 s2 s3 s4 s5) inX4_think (List.mem_of_getElem? (i := 1) rfl) dX4_think_29 ?_
      refine ez_iload_n (pc := 32) Z dX4_think_32 1 rfl rfl ?_
      refine ez_iload_n (pc := 33) Z dX4_think_33 2 rfl rfl ?_
      refine ez_callVi (pc := 34) (r := 0) (As := [.int p1, .int p2]) (st := []) Z (kX3_isBound Z.2.2.2.2.2.2.2.2.2.1 (E := fun q1 => E q1 s2 s3 s4 s5 s6) (hE1 s2 s3 s4 s5 s6) h) gX4_think_X3_isBound rfl rfl rfl hdX3_isBound rfl rfl (by decide) (ew_oT (hE1 s2 s3 s4 s5 s6) _) rfl rfl rfl rfl dX4_think_34 (fun r7 u8 h => ?_)
      refine ez_if_ne (pc := 37) (tgt := 46) Z dX4_think_37 rfl (fun c9 => ?_) (fun c9 => ?_)
      · replace h := h.1 c9
        refine ez_aload_n (pc := 46) Z dX4_think_46 0 rfl rfl ?_
        refine fX4_ratio (pc := 47) (M := s6) Z (hE6 s1 s2 s3 s4 s5) inX4_think (List.mem_of_getElem? (i := 2) rfl) dX4_think_47 ?_
        refine ez_aload_n (pc := 50) Z dX4_think_50 0 rfl rfl ?_
        refine fX4_now (pc := 51) (M := s6) Z (hE6 s1 s2 s3 s4 s5) inX4_think (List.mem_of_getElem? (i := 1) rfl) dX4_think_51 ?_
        refine ez_iload_n (pc := 54) Z dX4_think_54 1 rfl rfl ?_
        refine ez_iload_n (pc := 55) Z dX4_think_55 2 rfl rfl ?_
        refine ez_callVl (pc := 56) (r := 0) (As := [.int p1, .int p2]) (st := [.ref (X.2.1 45)]) Z (kX3_thinkAbove Z.2.2.2.2.2.2.2.2.2.1 (E := fun q1 => E q1 s2 s3 s4 s5 s6) (hE1 s2 s3 s4 s5 s6) h) gX4_think_X3_thinkAbove rfl rfl rfl hdX3_thinkAbove rfl rfl (by decide) (ew_oT (hE1 s2 s3 s4 s5 s6) _) rfl rfl rfl rfl dX4_think_56 (fun r10 u11 h => ?_)
        refine ez_aload_n (pc := 59) Z dX4_think_59 0 rfl rfl ?_
        refine fX4_now (pc := 60) (M := s6) Z (hE6 s1 s2 s3 s4 s5) inX4_think (List.mem_of_getElem? (i := 1) rfl) dX4_think_60 ?_
        refine ez_iload_n (pc := 63) Z dX4_think_63 1 rfl rfl ?_
        refine ez_iload_n (pc := 64) Z dX4_think_64 2 rfl rfl ?_
        refine ez_callVl (pc := 65) (r := 0) (As := [.int p1, .int p2]) (st := [.long r10, .ref (X.2.1 45)]) Z (kX3_thinkBelow Z.2.2.2.2.2.2.2.2.2.1 (E := fun q1 => E q1 s2 s3 s4 s5 s6) (hE1 s2 s3 s4 s5 s6) h) gX4_think_X3_thinkBelow rfl rfl rfl hdX3_thinkBelow rfl rfl (by decide) (ew_oT (hE1 s2 s3 s4 s5 s6) _) rfl rfl rfl rfl dX4_think_65 (fun r12 u13 h => ?_)
        refine ez_callVv (pc := 68) (r := 45) (As := [.long r10, .long r12]) (st := []) Z (kX2_become Z.2.2.2.2.2.2.2.2.2.1 (E := fun q1 => E s1 s2 s3 s4 q1 s6) (hE5 s1 s2 s3 s4 s6) h) gX4_think_X2_become rfl rfl rfl hdX2_become rfl rfl (by decide) (ew_oR (hE5 s1 s2 s3 s4 s6) _) rfl rfl rfl rfl dX4_think_68 (fun m15 h => ?_)
        refine ez_aload_n (pc := 71) Z dX4_think_71 0 rfl rfl ?_
        refine fX4_ratio (pc := 72) (M := s6) Z (hE6 s1 s2 s3 s4 m15) inX4_think (List.mem_of_getElem? (i := 2) rfl) dX4_think_72 ?_
        refine ez_iload_n (pc := 75) Z dX4_think_75 3 rfl rfl ?_
        refine ez_callVl (pc := 76) (r := 45) (As := [.int p3]) (st := []) Z (kX2_partOf Z.2.2.2.2.2.2.2.2.2.1 (E := fun q1 => E s1 s2 s3 s4 q1 s6) (hE5 s1 s2 s3 s4 s6) h) gX4_think_X2_partOf rfl rfl rfl hdX2_partOf rfl rfl (by decide) (ew_oR (hE5 s1 s2 s3 s4 s6) _) rfl rfl rfl rfl dX4_think_76 (fun r16 u17 h => ?_)
        exact ez_lret (pc := 79) Z hR (m15, s6) h rfl dX4_think_79
      · replace h := h.2 c9
        refine ez_aload_n (pc := 40) Z dX4_think_40 0 rfl rfl ?_
        refine ez_iconst (pc := 41) Z dX4_think_41 ec_3 ?_
        refine ez_callVl (pc := 42) (r := 46) (As := [.int (3 : Int32)]) (st := []) Z (kX4_refuseFarthest Z.2.2.2.2.2.2.2.2.2.1 (E := E) hE1 hE2 hE3 hE4 hE5 hE6 h) gX4_think_X4_refuseFarthest rfl rfl rfl hdX4_refuseFarthest rfl rfl (by decide) (ew_oX0 (hE6 s1 s2 s3 s4 s5) _) rfl rfl rfl rfl dX4_think_42 (fun r18 m19 h => ?_)
        exact ez_lret (pc := 45) Z hR (s5, m19) h rfl dX4_think_45
    · replace h := h.2 c6
      refine ez_aload_n (pc := 22) Z dX4_think_22 0 rfl rfl ?_
      refine ez_iconst (pc := 23) Z dX4_think_23 ec_2 ?_
      refine ez_callVl (pc := 24) (r := 46) (As := [.int (2 : Int32)]) (st := []) Z (kX4_refuseFarthest Z.2.2.2.2.2.2.2.2.2.1 (E := E) hE1 hE2 hE3 hE4 hE5 hE6 h) gX4_think_X4_refuseFarthest rfl rfl rfl hdX4_refuseFarthest rfl rfl (by decide) (ew_oX0 (hE6 s1 s2 s3 s4 s5) _) rfl rfl rfl rfl dX4_think_24 (fun r20 m21 h => ?_)
      exact ez_lret (pc := 27) Z hR (s5, m21) h rfl dX4_think_27
  · replace h := h.2 c3
    refine ez_aload_n (pc := 9) Z dX4_think_9 0 rfl rfl ?_
    refine ez_iconst (pc := 10) Z dX4_think_10 ec_1 ?_
    refine ez_callVl (pc := 11) (r := 46) (As := [.int (1 : Int32)]) (st := []) Z (kX4_refuseFarthest Z.2.2.2.2.2.2.2.2.2.1 (E := E) hE1 hE2 hE3 hE4 hE5 hE6 h) gX4_think_X4_refuseFarthest rfl rfl rfl hdX4_refuseFarthest rfl rfl (by decide) (ew_oX0 (hE6 s1 s2 s3 s4 s5) _) rfl rfl rfl rfl dX4_think_11 (fun r22 m23 h => ?_)
    exact ez_lret (pc := 14) Z hR (s5, m23) h rfl dX4_think_14
theorem hdX4_whyNotSoMany : yX4_whyNotSoMany.cls ≠ "java/lang/invoke/MethodHandle" ∧ yX4_whyNotSoMany.cls ≠ "java/lang/invoke/VarHandle" ∧ (parseMethodDescriptor yX4_whyNotSoMany.desc).map (fun d => d.parameters.length) = some 2 := by decide +kernel
def wX4_whyNotSoMany (Q : Int32 → Prop) (p1 : Int32) (p2 : Int32) : Prop := ((1 : Int32) ≤ p1 → (p1 ≤ p2 → Q (0 : Int32) ) ∧ (¬ p1 ≤ p2 → Q (6 : Int32) )) ∧ (¬ (1 : Int32) ≤ p1 → Q (4 : Int32) )
set_option maxHeartbeats 4000000 in
set_option maxRecDepth 100000 in
theorem kX4_whyNotSoMany {X : ew_X} {l : Launch} (hX : ew_Ap X) {S : ew_S} {Q : Int32 → Prop} {p1 : Int32} {p2 : Int32} (h : wX4_whyNotSoMany Q p1 p2) : Met l yX4_whyNotSoMany wsX4_whyNotSoMany ({ frames := 0, cells := 0, slots := 0, locals := 0 } : Room) (va_Pc [.int p1, .int p2] (ew_wd X (S))) (va_Qi (fun (r : Int32) (_ : Unit) => Q r) (fun (u : Unit) => ew_wd X ((fun (_ : Unit) => S) u)) X.2.2.1) 0 0 X.2.2.1 := by
  refine ew_met (As := [.int p1, .int p2]) (L0 := [(0, .int p1), (1, .int p2)]) X l hX (by decide) rfl rfl rfl rfl (fun C hl Z hR => ?_)
  subst hl
  refine ez_iload_n (pc := 0) Z dX4_whyNotSoMany_0 0 rfl rfl ?_
  refine ez_iconst (pc := 1) Z dX4_whyNotSoMany_1 ec_1 ?_
  refine ez_icmp_ge (pc := 2) (tgt := 7) Z dX4_whyNotSoMany_2 rfl (fun c1 => ?_) (fun c1 => ?_)
  · replace h := h.1 c1
    refine ez_iload_n (pc := 7) Z dX4_whyNotSoMany_7 0 rfl rfl ?_
    refine ez_iload_n (pc := 8) Z dX4_whyNotSoMany_8 1 rfl rfl ?_
    refine ez_icmp_le (pc := 9) (tgt := 17) Z dX4_whyNotSoMany_9 rfl (fun c2 => ?_) (fun c2 => ?_)
    · replace h := h.1 c2
      refine ez_iconst (pc := 17) Z dX4_whyNotSoMany_17 ec_0 ?_
      exact ez_iret (pc := 18) Z hR () h rfl dX4_whyNotSoMany_18
    · replace h := h.2 c2
      refine ez_bipush (pc := 12) Z dX4_whyNotSoMany_12 eb_6 ?_
      refine ez_goto (pc := 14) (tgt := 18) Z dX4_whyNotSoMany_14 rfl ?_
      exact ez_iret (pc := 18) Z hR () h rfl dX4_whyNotSoMany_18
  · replace h := h.2 c1
    refine ez_iconst (pc := 5) Z dX4_whyNotSoMany_5 ec_4 ?_
    exact ez_iret (pc := 6) Z hR () h rfl dX4_whyNotSoMany_6
theorem inX4_weeks : ∀ w ∈ wsX40, w ∈ wsX4_weeks := fun _ h => List.mem_cons_of_mem _ (List.mem_append_left _ (List.mem_append_right _ (h)))
theorem hdX4_weeks : yX4_weeks.cls = RX4 ∧ yX4_weeks.cls ≠ "java/lang/invoke/MethodHandle" ∧ yX4_weeks.cls ≠ "java/lang/invoke/VarHandle" ∧ (parseMethodDescriptor yX4_weeks.desc).map (fun d => d.parameters.length) = some 1 := by decide +kernel
def wX4_weeks_19 (R19 : Int32 × ew_M → Prop) (Q : Int32 → ew_M → ew_M → Prop) (v1 : Int32) (v3 : Int32) (s1 : ew_M) (s2 : ew_M) (s3 : ew_M) (s4 : ew_M) (s5 : ew_M) (s6 : ew_M) : Prop := (v1 ≤ v3 → wX3_weekNow (fun (r2 : Int32) => Q r2 s1 s6) s1) ∧ (¬ v1 ≤ v3 → wX3_passWeek (fun (m5 : ew_M) => R19 (v3 + (1 : Int32), m5)) s1)
def wX4_weeks (Q : Int32 → ew_M → ew_M → Prop) (p1 : Int32) (s1 : ew_M) (s2 : ew_M) (s3 : ew_M) (s4 : ew_M) (s5 : ew_M) (s6 : ew_M) : Prop := wX4_whyNotSoMany (fun (r1 : Int32) => (r1 = 0 → ew_lp (fun (R : Int32 × ew_M → Prop) (x : Int32 × ew_M) => wX4_weeks_19 R Q p1 x.1 x.2 s2 s3 s4 s5 s6) ((0 : Int32), s1)) ∧ (¬ r1 = 0 → wX4_refuse (fun (r4 : Int32) (m5 : ew_M) => Q r4 s1 m5) r1 s1 s2 s3 s4 s5 s6)) p1 (99 : Int32)
set_option maxHeartbeats 4000000 in
set_option maxRecDepth 100000 in
theorem tX4_weeks_19 {C : ew_C} {X : ew_X} {E : ew_M → ew_M → ew_M → ew_M → ew_M → ew_M → ew_S} (hE1 : ∀ (x2 x3 x4 x5 x6 : ew_M), ew_GE X 0 (ew_GT X.2.1 0) (fun M => E M x2 x3 x4 x5 x6)) (hE2 : ∀ (x1 x3 x4 x5 x6 : ew_M), ew_GE X 14 (ew_GT X.2.1 14) (fun M => E x1 M x3 x4 x5 x6)) (hE3 : ∀ (x1 x2 x4 x5 x6 : ew_M), ew_GE X 28 (ew_GT X.2.1 28) (fun M => E x1 x2 M x4 x5 x6)) (hE4 : ∀ (x1 x2 x3 x5 x6 : ew_M), ew_GE X 42 (ew_GL X.2.1) (fun M => E x1 x2 x3 M x5 x6)) (hE5 : ∀ (x1 x2 x3 x4 x6 : ew_M), ew_GE X 45 (ew_GR X.2.1) (fun M => E x1 x2 x3 x4 M x6)) (hE6 : ∀ (x1 x2 x3 x4 x5 : ew_M), ew_GE X 46 (ew_GX X.2.1) (fun M => E x1 x2 x3 x4 x5 M)) (Z : ew_Z C X cX4_weeks 4 RX4 wsX4_weeks ({ frames := 6, cells := 0, slots := 0, locals := 137 } : Room) (some .int)) {Q : Int32 → ew_M → ew_M → Prop} {R19 : Int32 × ew_M → Prop} {v1 : Int32} {v3 : Int32} {s1 : ew_M} {s2 : ew_M} {s3 : ew_M} {s4 : ew_M} {s5 : ew_M} {s6 : ew_M} (hR : C.2.2.2.2.2.2.2.2.2.2 = MQ C.2.2.2.2.2.2.2.1 (va_Qi (fun (r : Int32) (u : ew_M × ew_M) => Q r u.1 u.2) (fun (u : ew_M × ew_M) => ew_wd X ((fun (u : ew_M × ew_M) => E u.1 s2 s3 s4 s5 u.2) u)) X.2.2.1) C.2.2.2.2.2.2.1 C.2.2.2.2.1 0 0 X.2.2.1) (hR19 : ∀ x : Int32 × ew_M, R19 x → ew_W C X 4 (E x.2 s2 s3 s4 s5 s6) 19 [(0, .ref (X.2.1 46)), (1, .int v1), (3, .int x.1)] []) (h : wX4_weeks_19 R19 Q v1 v3 s1 s2 s3 s4 s5 s6) : ew_W C X 4 (E s1 s2 s3 s4 s5 s6) 19 [(0, .ref (X.2.1 46)), (1, .int v1), (3, .int v3)] [] := by
  refine ez_iload_n (pc := 19) Z dX4_weeks_19 2 rfl rfl ?_
  refine ez_iload_n (pc := 20) Z dX4_weeks_20 1 rfl rfl ?_
  refine ez_icmp_ge (pc := 21) (tgt := 37) Z dX4_weeks_21 rfl (fun c1 => ?_) (fun c1 => ?_)
  · replace h := h.1 c1
    refine ez_aload_n (pc := 37) Z dX4_weeks_37 0 rfl rfl ?_
    refine fX4_now (pc := 38) (M := s6) Z (hE6 s1 s2 s3 s4 s5) inX4_weeks (List.mem_of_getElem? (i := 1) rfl) dX4_weeks_38 ?_
    refine ez_callVi (pc := 41) (r := 0) (As := []) (st := []) Z (kX3_weekNow Z.2.2.2.2.2.2.2.2.2.1 (E := fun q1 => E q1 s2 s3 s4 s5 s6) (hE1 s2 s3 s4 s5 s6) h) gX4_weeks_X3_weekNow rfl rfl rfl hdX3_weekNow rfl rfl (by decide) (ew_oT (hE1 s2 s3 s4 s5 s6) _) rfl rfl rfl rfl dX4_weeks_41 (fun r2 u3 h => ?_)
    exact ez_iret (pc := 44) Z hR (s1, s6) h rfl dX4_weeks_44
  · replace h := h.2 c1
    refine ez_aload_n (pc := 24) Z dX4_weeks_24 0 rfl rfl ?_
    refine fX4_now (pc := 25) (M := s6) Z (hE6 s1 s2 s3 s4 s5) inX4_weeks (List.mem_of_getElem? (i := 1) rfl) dX4_weeks_25 ?_
    refine ez_callVv (pc := 28) (r := 0) (As := []) (st := []) Z (kX3_passWeek Z.2.2.2.2.2.2.2.2.2.1 (E := fun q1 => E q1 s2 s3 s4 s5 s6) (hE1 s2 s3 s4 s5 s6) h) gX4_weeks_X3_passWeek rfl rfl rfl hdX3_passWeek rfl rfl (by decide) (ew_oT (hE1 s2 s3 s4 s5 s6) _) rfl rfl rfl rfl dX4_weeks_28 (fun m5 h => ?_)
    refine ez_iinc (pc := 31) (L' := [(3, .int (v3 + (1 : Int32))), (0, .ref (X.2.1 46)), (1, .int v1)]) Z dX4_weeks_31 2 rfl (ei_1 _) (by decide) rfl ?_
    refine ez_goto (pc := 34) (tgt := 19) Z dX4_weeks_34 rfl ?_
    refine ez_sub [(0, .ref (X.2.1 46)), (1, .int v1), (3, .int (v3 + (1 : Int32)))] [1, 2, 0] rfl ?_
    exact hR19 _ h
set_option maxHeartbeats 4000000 in
set_option maxRecDepth 100000 in
theorem kX4_weeks {X : ew_X} {l : Launch} (hX : ew_Ap X) {E : ew_M → ew_M → ew_M → ew_M → ew_M → ew_M → ew_S} (hE1 : ∀ (x2 x3 x4 x5 x6 : ew_M), ew_GE X 0 (ew_GT X.2.1 0) (fun M => E M x2 x3 x4 x5 x6)) (hE2 : ∀ (x1 x3 x4 x5 x6 : ew_M), ew_GE X 14 (ew_GT X.2.1 14) (fun M => E x1 M x3 x4 x5 x6)) (hE3 : ∀ (x1 x2 x4 x5 x6 : ew_M), ew_GE X 28 (ew_GT X.2.1 28) (fun M => E x1 x2 M x4 x5 x6)) (hE4 : ∀ (x1 x2 x3 x5 x6 : ew_M), ew_GE X 42 (ew_GL X.2.1) (fun M => E x1 x2 x3 M x5 x6)) (hE5 : ∀ (x1 x2 x3 x4 x6 : ew_M), ew_GE X 45 (ew_GR X.2.1) (fun M => E x1 x2 x3 x4 M x6)) (hE6 : ∀ (x1 x2 x3 x4 x5 : ew_M), ew_GE X 46 (ew_GX X.2.1) (fun M => E x1 x2 x3 x4 x5 M)) {Q : Int32 → ew_M → ew_M → Prop} {p1 : Int32} {s1 : ew_M} {s2 : ew_M} {s3 : ew_M} {s4 : ew_M} {s5 : ew_M} {s6 : ew_M} (h : wX4_weeks Q p1 s1 s2 s3 s4 s5 s6) : Met l yX4_weeks wsX4_weeks ({ frames := 6, cells := 0, slots := 0, locals := 137 } : Room) (va_Pc [.ref (X.2.1 46), .int p1] (ew_wd X (E s1 s2 s3 s4 s5 s6))) (va_Qi (fun (r : Int32) (u : ew_M × ew_M) => Q r u.1 u.2) (fun (u : ew_M × ew_M) => ew_wd X ((fun (u : ew_M × ew_M) => E u.1 s2 s3 s4 s5 u.2) u)) X.2.2.1) 0 0 X.2.2.1 := by
  refine ew_met (As := [.ref (X.2.1 46), .int p1]) (L0 := [(0, .ref (X.2.1 46)), (1, .int p1)]) X l hX (by decide) rfl rfl rfl rfl (fun C hl Z hR => ?_)
  subst hl
  refine ez_iload_n (pc := 0) Z dX4_weeks_0 1 rfl rfl ?_
  refine ez_bipush (pc := 1) Z dX4_weeks_1 eb_99 ?_
  refine ez_callSi (pc := 3) (As := [.int p1, .int (99 : Int32)]) (st := []) Z (kX4_whyNotSoMany Z.2.2.2.2.2.2.2.2.2.1 (S := E s1 s2 s3 s4 s5 s6) h) gX4_weeks_X4_whyNotSoMany rfl rfl rfl hdX4_whyNotSoMany rfl rfl rfl rfl rfl dX4_weeks_3 (fun r1 u2 h => ?_)
  refine ez_istore_n (pc := 6) (L' := [(2, .int r1), (0, .ref (X.2.1 46)), (1, .int p1)]) Z dX4_weeks_6 rfl (by decide) rfl ?_
  refine ez_iload_n (pc := 7) Z dX4_weeks_7 0 rfl rfl ?_
  refine ez_if_eq (pc := 8) (tgt := 17) Z dX4_weeks_8 rfl (fun c3 => ?_) (fun c3 => ?_)
  · replace h := h.1 c3
    refine ez_iconst (pc := 17) Z dX4_weeks_17 ec_0 ?_
    refine ez_istore_n (pc := 18) (L' := [(3, .int (0 : Int32)), (2, .int r1), (0, .ref (X.2.1 46)), (1, .int p1)]) Z dX4_weeks_18 rfl (by decide) rfl ?_
    refine ez_sub [(0, .ref (X.2.1 46)), (1, .int p1), (3, .int (0 : Int32))] [2, 3, 0] rfl ?_
    exact ew_ind (P := fun (x : Int32 × ew_M) => ew_W C X 4 (E x.2 s2 s3 s4 s5 s6) 19 [(0, .ref (X.2.1 46)), (1, .int p1), (3, .int x.1)] []) (fun R hR9 x h => tX4_weeks_19 hE1 hE2 hE3 hE4 hE5 hE6 Z hR  hR9 h) h
  · replace h := h.2 c3
    refine ez_aload_n (pc := 11) Z dX4_weeks_11 1 rfl rfl ?_
    refine ez_iload_n (pc := 12) Z dX4_weeks_12 0 rfl rfl ?_
    refine ez_callVi (pc := 13) (r := 46) (As := [.int r1]) (st := []) Z (kX4_refuse Z.2.2.2.2.2.2.2.2.2.1 (E := E) hE1 hE2 hE3 hE4 hE5 hE6 h) gX4_weeks_X4_refuse rfl rfl rfl hdX4_refuse rfl rfl (by decide) (ew_oX0 (hE6 s1 s2 s3 s4 s5) _) rfl rfl rfl rfl dX4_weeks_13 (fun r4 m5 h => ?_)
    exact ez_iret (pc := 16) Z hR (s1, m5) h rfl dX4_weeks_16
theorem inX4_had : ∀ w ∈ wsX40, w ∈ wsX4_had := fun _ h => List.mem_cons_of_mem _ (List.mem_append_left _ (List.mem_append_right _ (h)))
theorem hdX4_had : yX4_had.cls = RX4 ∧ yX4_had.cls ≠ "java/lang/invoke/MethodHandle" ∧ yX4_had.cls ≠ "java/lang/invoke/VarHandle" ∧ (parseMethodDescriptor yX4_had.desc).map (fun d => d.parameters.length) = some 1 := by decide +kernel
def wX4_had (Q : Int32 → ew_M → Prop) (p1 : Int32) (s1 : ew_M) (s2 : ew_M) (s3 : ew_M) (s4 : ew_M) (s5 : ew_M) (s6 : ew_M) : Prop := wX3_hasPerson (fun (r1 : Int32) => (¬ r1 = 0 → wX3_hadBy (fun (r4 : Int32) => Q r4 s6) p1 s1) ∧ (r1 = 0 → wX4_refuseFar (fun (r6 : Int32) (m7 : ew_M) => Q r6 m7) (1 : Int32) s1 s2 s3 s4 s5 s6)) p1 s1
set_option maxHeartbeats 4000000 in
set_option maxRecDepth 100000 in
theorem kX4_had {X : ew_X} {l : Launch} (hX : ew_Ap X) {E : ew_M → ew_M → ew_M → ew_M → ew_M → ew_M → ew_S} (hE1 : ∀ (x2 x3 x4 x5 x6 : ew_M), ew_GE X 0 (ew_GT X.2.1 0) (fun M => E M x2 x3 x4 x5 x6)) (hE2 : ∀ (x1 x3 x4 x5 x6 : ew_M), ew_GE X 14 (ew_GT X.2.1 14) (fun M => E x1 M x3 x4 x5 x6)) (hE3 : ∀ (x1 x2 x4 x5 x6 : ew_M), ew_GE X 28 (ew_GT X.2.1 28) (fun M => E x1 x2 M x4 x5 x6)) (hE4 : ∀ (x1 x2 x3 x5 x6 : ew_M), ew_GE X 42 (ew_GL X.2.1) (fun M => E x1 x2 x3 M x5 x6)) (hE5 : ∀ (x1 x2 x3 x4 x6 : ew_M), ew_GE X 45 (ew_GR X.2.1) (fun M => E x1 x2 x3 x4 M x6)) (hE6 : ∀ (x1 x2 x3 x4 x5 : ew_M), ew_GE X 46 (ew_GX X.2.1) (fun M => E x1 x2 x3 x4 x5 M)) {Q : Int32 → ew_M → Prop} {p1 : Int32} {s1 : ew_M} {s2 : ew_M} {s3 : ew_M} {s4 : ew_M} {s5 : ew_M} {s6 : ew_M} (h : wX4_had Q p1 s1 s2 s3 s4 s5 s6) : Met l yX4_had wsX4_had ({ frames := 1, cells := 0, slots := 0, locals := 21 } : Room) (va_Pc [.ref (X.2.1 46), .int p1] (ew_wd X (E s1 s2 s3 s4 s5 s6))) (va_Qi (fun (r : Int32) (u : ew_M) => Q r u) (fun (u : ew_M) => ew_wd X ((fun (u : ew_M) => E s1 s2 s3 s4 s5 u) u)) X.2.2.1) 0 0 X.2.2.1 := by
  refine ew_met (As := [.ref (X.2.1 46), .int p1]) (L0 := [(0, .ref (X.2.1 46)), (1, .int p1)]) X l hX (by decide) rfl rfl rfl rfl (fun C hl Z hR => ?_)
  subst hl
  refine ez_aload_n (pc := 0) Z dX4_had_0 0 rfl rfl ?_
  refine fX4_now (pc := 1) (M := s6) Z (hE6 s1 s2 s3 s4 s5) inX4_had (List.mem_of_getElem? (i := 1) rfl) dX4_had_1 ?_
  refine ez_iload_n (pc := 4) Z dX4_had_4 1 rfl rfl ?_
  refine ez_callVi (pc := 5) (r := 0) (As := [.int p1]) (st := []) Z (kX3_hasPerson Z.2.2.2.2.2.2.2.2.2.1 (E := fun q1 => E q1 s2 s3 s4 s5 s6) (hE1 s2 s3 s4 s5 s6) h) gX4_had_X3_hasPerson rfl rfl rfl hdX3_hasPerson rfl rfl (by decide) (ew_oT (hE1 s2 s3 s4 s5 s6) _) rfl rfl rfl rfl dX4_had_5 (fun r1 u2 h => ?_)
  refine ez_if_ne (pc := 8) (tgt := 17) Z dX4_had_8 rfl (fun c3 => ?_) (fun c3 => ?_)
  · replace h := h.1 c3
    refine ez_aload_n (pc := 17) Z dX4_had_17 0 rfl rfl ?_
    refine fX4_now (pc := 18) (M := s6) Z (hE6 s1 s2 s3 s4 s5) inX4_had (List.mem_of_getElem? (i := 1) rfl) dX4_had_18 ?_
    refine ez_iload_n (pc := 21) Z dX4_had_21 1 rfl rfl ?_
    refine ez_callVi (pc := 22) (r := 0) (As := [.int p1]) (st := []) Z (kX3_hadBy Z.2.2.2.2.2.2.2.2.2.1 (E := fun q1 => E q1 s2 s3 s4 s5 s6) (hE1 s2 s3 s4 s5 s6) h) gX4_had_X3_hadBy rfl rfl rfl hdX3_hadBy rfl rfl (by decide) (ew_oT (hE1 s2 s3 s4 s5 s6) _) rfl rfl rfl rfl dX4_had_22 (fun r4 u5 h => ?_)
    exact ez_iret (pc := 25) Z hR s6 h rfl dX4_had_25
  · replace h := h.2 c3
    refine ez_aload_n (pc := 11) Z dX4_had_11 0 rfl rfl ?_
    refine ez_iconst (pc := 12) Z dX4_had_12 ec_1 ?_
    refine ez_callVi (pc := 13) (r := 46) (As := [.int (1 : Int32)]) (st := []) Z (kX4_refuseFar Z.2.2.2.2.2.2.2.2.2.1 (E := E) hE1 hE2 hE3 hE4 hE5 hE6 h) gX4_had_X4_refuseFar rfl rfl rfl hdX4_refuseFar rfl rfl (by decide) (ew_oX0 (hE6 s1 s2 s3 s4 s5) _) rfl rfl rfl rfl dX4_had_13 (fun r6 m7 h => ?_)
    exact ez_iret (pc := 16) Z hR m7 h rfl dX4_had_16
theorem inX4_liars : ∀ w ∈ wsX40, w ∈ wsX4_liars := fun _ h => List.mem_cons_of_mem _ (List.mem_append_left _ (List.mem_append_right _ (h)))
theorem hdX4_liars : yX4_liars.cls = RX4 ∧ yX4_liars.cls ≠ "java/lang/invoke/MethodHandle" ∧ yX4_liars.cls ≠ "java/lang/invoke/VarHandle" ∧ (parseMethodDescriptor yX4_liars.desc).map (fun d => d.parameters.length) = some 1 := by decide +kernel
def wX4_liars (Q : Int32 → ew_M → Prop) (p1 : Int32) (s1 : ew_M) (s2 : ew_M) (s3 : ew_M) (s4 : ew_M) (s5 : ew_M) (s6 : ew_M) : Prop := wX3_hasPaper (fun (r1 : Int32) => (¬ r1 = 0 → wX3_liarsOf (fun (r4 : Int32) => Q r4 s6) p1 s1) ∧ (r1 = 0 → wX4_refuse (fun (r6 : Int32) (m7 : ew_M) => Q r6 m7) (1 : Int32) s1 s2 s3 s4 s5 s6)) p1 s1
set_option maxHeartbeats 4000000 in
set_option maxRecDepth 100000 in
theorem kX4_liars {X : ew_X} {l : Launch} (hX : ew_Ap X) {E : ew_M → ew_M → ew_M → ew_M → ew_M → ew_M → ew_S} (hE1 : ∀ (x2 x3 x4 x5 x6 : ew_M), ew_GE X 0 (ew_GT X.2.1 0) (fun M => E M x2 x3 x4 x5 x6)) (hE2 : ∀ (x1 x3 x4 x5 x6 : ew_M), ew_GE X 14 (ew_GT X.2.1 14) (fun M => E x1 M x3 x4 x5 x6)) (hE3 : ∀ (x1 x2 x4 x5 x6 : ew_M), ew_GE X 28 (ew_GT X.2.1 28) (fun M => E x1 x2 M x4 x5 x6)) (hE4 : ∀ (x1 x2 x3 x5 x6 : ew_M), ew_GE X 42 (ew_GL X.2.1) (fun M => E x1 x2 x3 M x5 x6)) (hE5 : ∀ (x1 x2 x3 x4 x6 : ew_M), ew_GE X 45 (ew_GR X.2.1) (fun M => E x1 x2 x3 x4 M x6)) (hE6 : ∀ (x1 x2 x3 x4 x5 : ew_M), ew_GE X 46 (ew_GX X.2.1) (fun M => E x1 x2 x3 x4 x5 M)) {Q : Int32 → ew_M → Prop} {p1 : Int32} {s1 : ew_M} {s2 : ew_M} {s3 : ew_M} {s4 : ew_M} {s5 : ew_M} {s6 : ew_M} (h : wX4_liars Q p1 s1 s2 s3 s4 s5 s6) : Met l yX4_liars wsX4_liars ({ frames := 1, cells := 0, slots := 0, locals := 21 } : Room) (va_Pc [.ref (X.2.1 46), .int p1] (ew_wd X (E s1 s2 s3 s4 s5 s6))) (va_Qi (fun (r : Int32) (u : ew_M) => Q r u) (fun (u : ew_M) => ew_wd X ((fun (u : ew_M) => E s1 s2 s3 s4 s5 u) u)) X.2.2.1) 0 0 X.2.2.1 := by
  refine ew_met (As := [.ref (X.2.1 46), .int p1]) (L0 := [(0, .ref (X.2.1 46)), (1, .int p1)]) X l hX (by decide) rfl rfl rfl rfl (fun C hl Z hR => ?_)
  subst hl
  refine ez_aload_n (pc := 0) Z dX4_liars_0 0 rfl rfl ?_
  refine fX4_now (pc := 1) (M := s6) Z (hE6 s1 s2 s3 s4 s5) inX4_liars (List.mem_of_getElem? (i := 1) rfl) dX4_liars_1 ?_
  refine ez_iload_n (pc := 4) Z dX4_liars_4 1 rfl rfl ?_
  refine ez_callVi (pc := 5) (r := 0) (As := [.int p1]) (st := []) Z (kX3_hasPaper Z.2.2.2.2.2.2.2.2.2.1 (E := fun q1 => E q1 s2 s3 s4 s5 s6) (hE1 s2 s3 s4 s5 s6) h) gX4_liars_X3_hasPaper rfl rfl rfl hdX3_hasPaper rfl rfl (by decide) (ew_oT (hE1 s2 s3 s4 s5 s6) _) rfl rfl rfl rfl dX4_liars_5 (fun r1 u2 h => ?_)
  refine ez_if_ne (pc := 8) (tgt := 17) Z dX4_liars_8 rfl (fun c3 => ?_) (fun c3 => ?_)
  · replace h := h.1 c3
    refine ez_aload_n (pc := 17) Z dX4_liars_17 0 rfl rfl ?_
    refine fX4_now (pc := 18) (M := s6) Z (hE6 s1 s2 s3 s4 s5) inX4_liars (List.mem_of_getElem? (i := 1) rfl) dX4_liars_18 ?_
    refine ez_iload_n (pc := 21) Z dX4_liars_21 1 rfl rfl ?_
    refine ez_callVi (pc := 22) (r := 0) (As := [.int p1]) (st := []) Z (kX3_liarsOf Z.2.2.2.2.2.2.2.2.2.1 (E := fun q1 => E q1 s2 s3 s4 s5 s6) (hE1 s2 s3 s4 s5 s6) h) gX4_liars_X3_liarsOf rfl rfl rfl hdX3_liarsOf rfl rfl (by decide) (ew_oT (hE1 s2 s3 s4 s5 s6) _) rfl rfl rfl rfl dX4_liars_22 (fun r4 u5 h => ?_)
    exact ez_iret (pc := 25) Z hR s6 h rfl dX4_liars_25
  · replace h := h.2 c3
    refine ez_aload_n (pc := 11) Z dX4_liars_11 0 rfl rfl ?_
    refine ez_iconst (pc := 12) Z dX4_liars_12 ec_1 ?_
    refine ez_callVi (pc := 13) (r := 46) (As := [.int (1 : Int32)]) (st := []) Z (kX4_refuse Z.2.2.2.2.2.2.2.2.2.1 (E := E) hE1 hE2 hE3 hE4 hE5 hE6 h) gX4_liars_X4_refuse rfl rfl rfl hdX4_refuse rfl rfl (by decide) (ew_oX0 (hE6 s1 s2 s3 s4 s5) _) rfl rfl rfl rfl dX4_liars_13 (fun r6 m7 h => ?_)
    exact ez_iret (pc := 16) Z hR m7 h rfl dX4_liars_16
theorem inX4_whyNotWhen : ∀ w ∈ wsX40, w ∈ wsX4_whyNotWhen := fun _ h => List.mem_cons_of_mem _ (List.mem_append_left _ (List.mem_append_right _ (h)))
theorem hdX4_whyNotWhen : yX4_whyNotWhen.cls = RX4 ∧ yX4_whyNotWhen.cls ≠ "java/lang/invoke/MethodHandle" ∧ yX4_whyNotWhen.cls ≠ "java/lang/invoke/VarHandle" ∧ (parseMethodDescriptor yX4_whyNotWhen.desc).map (fun d => d.parameters.length) = some 3 := by decide +kernel
def wX4_whyNotWhen (Q : Int32 → Prop) (p1 : Int32) (p2 : Int32) (p3 : Int32) (s1 : ew_M) (s2 : ew_M) (s3 : ew_M) (s4 : ew_M) (s5 : ew_M) (s6 : ew_M) : Prop := wX4_whyNotSoMany (fun (r1 : Int32) => (¬ r1 = 0 → Q r1 ) ∧ (r1 = 0 → wX3_isUnread (fun (r4 : Int32) => (¬ r4 = 0 → Q r1 ) ∧ (r4 = 0 → Q (3 : Int32) )) p1 p2 s1)) p3 (20 : Int32)
set_option maxHeartbeats 4000000 in
set_option maxRecDepth 100000 in
theorem kX4_whyNotWhen {X : ew_X} {l : Launch} (hX : ew_Ap X) {E : ew_M → ew_M → ew_M → ew_M → ew_M → ew_M → ew_S} (hE1 : ∀ (x2 x3 x4 x5 x6 : ew_M), ew_GE X 0 (ew_GT X.2.1 0) (fun M => E M x2 x3 x4 x5 x6)) (hE2 : ∀ (x1 x3 x4 x5 x6 : ew_M), ew_GE X 14 (ew_GT X.2.1 14) (fun M => E x1 M x3 x4 x5 x6)) (hE3 : ∀ (x1 x2 x4 x5 x6 : ew_M), ew_GE X 28 (ew_GT X.2.1 28) (fun M => E x1 x2 M x4 x5 x6)) (hE4 : ∀ (x1 x2 x3 x5 x6 : ew_M), ew_GE X 42 (ew_GL X.2.1) (fun M => E x1 x2 x3 M x5 x6)) (hE5 : ∀ (x1 x2 x3 x4 x6 : ew_M), ew_GE X 45 (ew_GR X.2.1) (fun M => E x1 x2 x3 x4 M x6)) (hE6 : ∀ (x1 x2 x3 x4 x5 : ew_M), ew_GE X 46 (ew_GX X.2.1) (fun M => E x1 x2 x3 x4 x5 M)) {Q : Int32 → Prop} {p1 : Int32} {p2 : Int32} {p3 : Int32} {s1 : ew_M} {s2 : ew_M} {s3 : ew_M} {s4 : ew_M} {s5 : ew_M} {s6 : ew_M} (h : wX4_whyNotWhen Q p1 p2 p3 s1 s2 s3 s4 s5 s6) : Met l yX4_whyNotWhen wsX4_whyNotWhen ({ frames := 2, cells := 0, slots := 0, locals := 43 } : Room) (va_Pc [.ref (X.2.1 46), .int p1, .int p2, .int p3] (ew_wd X (E s1 s2 s3 s4 s5 s6))) (va_Qi (fun (r : Int32) (_ : Unit) => Q r) (fun (u : Unit) => ew_wd X ((fun (_ : Unit) => E s1 s2 s3 s4 s5 s6) u)) X.2.2.1) 0 0 X.2.2.1 := by
  refine ew_met (As := [.ref (X.2.1 46), .int p1, .int p2, .int p3]) (L0 := [(0, .ref (X.2.1 46)), (1, .int p1), (2, .int p2), (3, .int p3)]) X l hX (by decide) rfl rfl rfl rfl (fun C hl Z hR => ?_)
  subst hl
  refine ez_iload_n (pc := 0) Z dX4_whyNotWhen_0 3 rfl rfl ?_
  refine ez_bipush (pc := 1) Z dX4_whyNotWhen_1 eb_20 ?_
  refine ez_callSi (pc := 3) (As := [.int p3, .int (20 : Int32)]) (st := []) Z (kX4_whyNotSoMany Z.2.2.2.2.2.2.2.2.2.1 (S := E s1 s2 s3 s4 s5 s6) h) gX4_whyNotWhen_X4_whyNotSoMany rfl rfl rfl hdX4_whyNotSoMany rfl rfl rfl rfl rfl dX4_whyNotWhen_3 (fun r1 u2 h => ?_)
  refine ez_istore (pc := 6) (L' := [(4, .int r1), (0, .ref (X.2.1 46)), (1, .int p1), (2, .int p2), (3, .int p3)]) Z dX4_whyNotWhen_6 (by decide) rfl ?_
  refine ez_iload (pc := 8) Z dX4_whyNotWhen_8 0 rfl ?_
  refine ez_if_ne (pc := 10) (tgt := 28) Z dX4_whyNotWhen_10 rfl (fun c3 => ?_) (fun c3 => ?_)
  · replace h := h.1 c3
    refine ez_iload (pc := 28) Z dX4_whyNotWhen_28 0 rfl ?_
    exact ez_iret (pc := 30) Z hR () h rfl dX4_whyNotWhen_30
  · replace h := h.2 c3
    refine ez_aload_n (pc := 13) Z dX4_whyNotWhen_13 1 rfl rfl ?_
    refine fX4_now (pc := 14) (M := s6) Z (hE6 s1 s2 s3 s4 s5) inX4_whyNotWhen (List.mem_of_getElem? (i := 1) rfl) dX4_whyNotWhen_14 ?_
    refine ez_iload_n (pc := 17) Z dX4_whyNotWhen_17 2 rfl rfl ?_
    refine ez_iload_n (pc := 18) Z dX4_whyNotWhen_18 3 rfl rfl ?_
    refine ez_callVi (pc := 19) (r := 0) (As := [.int p1, .int p2]) (st := []) Z (kX3_isUnread Z.2.2.2.2.2.2.2.2.2.1 (E := fun q1 => E q1 s2 s3 s4 s5 s6) (hE1 s2 s3 s4 s5 s6) h) gX4_whyNotWhen_X3_isUnread rfl rfl rfl hdX3_isUnread rfl rfl (by decide) (ew_oT (hE1 s2 s3 s4 s5 s6) _) rfl rfl rfl rfl dX4_whyNotWhen_19 (fun r4 u5 h => ?_)
    refine ez_if_ne (pc := 22) (tgt := 28) Z dX4_whyNotWhen_22 rfl (fun c6 => ?_) (fun c6 => ?_)
    · replace h := h.1 c6
      refine ez_iload (pc := 28) Z dX4_whyNotWhen_28 0 rfl ?_
      exact ez_iret (pc := 30) Z hR () h rfl dX4_whyNotWhen_30
    · replace h := h.2 c6
      refine ez_iconst (pc := 25) Z dX4_whyNotWhen_25 ec_3 ?_
      refine ez_istore (pc := 26) (L' := [(4, .int (3 : Int32)), (0, .ref (X.2.1 46)), (1, .int p1), (2, .int p2), (3, .int p3)]) Z dX4_whyNotWhen_26 (by decide) rfl ?_
      refine ez_iload (pc := 28) Z dX4_whyNotWhen_28 0 rfl ?_
      exact ez_iret (pc := 30) Z hR () h rfl dX4_whyNotWhen_30
theorem inX4_when : ∀ w ∈ wsX40, w ∈ wsX4_when := fun _ h => List.mem_cons_of_mem _ (List.mem_append_left _ (List.mem_append_left _ (List.mem_append_right _ (h))))
theorem hdX4_when : yX4_when.cls = RX4 ∧ yX4_when.cls ≠ "java/lang/invoke/MethodHandle" ∧ yX4_when.cls ≠ "java/lang/invoke/VarHandle" ∧ (parseMethodDescriptor yX4_when.desc).map (fun d => d.parameters.length) = some 3 := by decide +kernel
def wX4_when (Q : Int32 → ew_M → ew_M → Prop) (p1 : Int32) (p2 : Int32) (p3 : Int32) (s1 : ew_M) (s2 : ew_M) (s3 : ew_M) (s4 : ew_M) (s5 : ew_M) (s6 : ew_M) : Prop := wX4_isNoPair (fun (r1 : Int32) => (r1 = 0 → wX4_whyNotWhen (fun (r4 : Int32) => (r4 = 0 → wX1_bestWeek (fun (r7 : Int32) (m8 : ew_M) => Q r7 m8 s6) p1 p2 p3 s1 s2 s5 s6) ∧ (¬ r4 = 0 → wX4_refuse (fun (r9 : Int32) (m10 : ew_M) => Q r9 s2 m10) r4 s1 s2 s3 s4 s5 s6)) p1 p2 p3 s1 s2 s3 s4 s5 s6) ∧ (¬ r1 = 0 → wX4_refuse (fun (r11 : Int32) (m12 : ew_M) => Q r11 s2 m12) (1 : Int32) s1 s2 s3 s4 s5 s6)) p1 p2 s1 s2 s3 s4 s5 s6
set_option maxHeartbeats 4000000 in
set_option maxRecDepth 100000 in
theorem kX4_when {X : ew_X} {l : Launch} (hX : ew_Ap X) {E : ew_M → ew_M → ew_M → ew_M → ew_M → ew_M → ew_S} (hE1 : ∀ (x2 x3 x4 x5 x6 : ew_M), ew_GE X 0 (ew_GT X.2.1 0) (fun M => E M x2 x3 x4 x5 x6)) (hE2 : ∀ (x1 x3 x4 x5 x6 : ew_M), ew_GE X 14 (ew_GT X.2.1 14) (fun M => E x1 M x3 x4 x5 x6)) (hE3 : ∀ (x1 x2 x4 x5 x6 : ew_M), ew_GE X 28 (ew_GT X.2.1 28) (fun M => E x1 x2 M x4 x5 x6)) (hE4 : ∀ (x1 x2 x3 x5 x6 : ew_M), ew_GE X 42 (ew_GL X.2.1) (fun M => E x1 x2 x3 M x5 x6)) (hE5 : ∀ (x1 x2 x3 x4 x6 : ew_M), ew_GE X 45 (ew_GR X.2.1) (fun M => E x1 x2 x3 x4 M x6)) (hE6 : ∀ (x1 x2 x3 x4 x5 : ew_M), ew_GE X 46 (ew_GX X.2.1) (fun M => E x1 x2 x3 x4 x5 M)) {Q : Int32 → ew_M → ew_M → Prop} {p1 : Int32} {p2 : Int32} {p3 : Int32} {s1 : ew_M} {s2 : ew_M} {s3 : ew_M} {s4 : ew_M} {s5 : ew_M} {s6 : ew_M} (h : wX4_when Q p1 p2 p3 s1 s2 s3 s4 s5 s6) : Met l yX4_when wsX4_when ({ frames := 7, cells := 0, slots := 0, locals := 173 } : Room) (va_Pc [.ref (X.2.1 46), .int p1, .int p2, .int p3] (ew_wd X (E s1 s2 s3 s4 s5 s6))) (va_Qi (fun (r : Int32) (u : ew_M × ew_M) => Q r u.1 u.2) (fun (u : ew_M × ew_M) => ew_wd X ((fun (u : ew_M × ew_M) => E s1 u.1 s3 s4 s5 u.2) u)) X.2.2.1) 0 0 X.2.2.1 := by
  refine ew_met (As := [.ref (X.2.1 46), .int p1, .int p2, .int p3]) (L0 := [(0, .ref (X.2.1 46)), (1, .int p1), (2, .int p2), (3, .int p3)]) X l hX (by decide) rfl rfl rfl rfl (fun C hl Z hR => ?_)
  subst hl
  refine ez_aload_n (pc := 0) Z dX4_when_0 0 rfl rfl ?_
  refine ez_iload_n (pc := 1) Z dX4_when_1 1 rfl rfl ?_
  refine ez_iload_n (pc := 2) Z dX4_when_2 2 rfl rfl ?_
  refine ez_callVi (pc := 3) (r := 46) (As := [.int p1, .int p2]) (st := []) Z (kX4_isNoPair Z.2.2.2.2.2.2.2.2.2.1 (E := E) hE1 hE2 hE3 hE4 hE5 hE6 h) gX4_when_X4_isNoPair rfl rfl rfl hdX4_isNoPair rfl rfl (by decide) (ew_oX0 (hE6 s1 s2 s3 s4 s5) _) rfl rfl rfl rfl dX4_when_3 (fun r1 u2 h => ?_)
  refine ez_if_eq (pc := 6) (tgt := 15) Z dX4_when_6 rfl (fun c3 => ?_) (fun c3 => ?_)
  · replace h := h.1 c3
    refine ez_aload_n (pc := 15) Z dX4_when_15 0 rfl rfl ?_
    refine ez_iload_n (pc := 16) Z dX4_when_16 1 rfl rfl ?_
    refine ez_iload_n (pc := 17) Z dX4_when_17 2 rfl rfl ?_
    refine ez_iload_n (pc := 18) Z dX4_when_18 3 rfl rfl ?_
    refine ez_callVi (pc := 19) (r := 46) (As := [.int p1, .int p2, .int p3]) (st := []) Z (kX4_whyNotWhen Z.2.2.2.2.2.2.2.2.2.1 (E := E) hE1 hE2 hE3 hE4 hE5 hE6 h) gX4_when_X4_whyNotWhen rfl rfl rfl hdX4_whyNotWhen rfl rfl (by decide) (ew_oX0 (hE6 s1 s2 s3 s4 s5) _) rfl rfl rfl rfl dX4_when_19 (fun r4 u5 h => ?_)
    refine ez_istore (pc := 22) (L' := [(4, .int r4), (0, .ref (X.2.1 46)), (1, .int p1), (2, .int p2), (3, .int p3)]) Z dX4_when_22 (by decide) rfl ?_
    refine ez_iload (pc := 24) Z dX4_when_24 0 rfl ?_
    refine ez_if_eq (pc := 26) (tgt := 36) Z dX4_when_26 rfl (fun c6 => ?_) (fun c6 => ?_)
    · replace h := h.1 c6
      refine ez_aload_n (pc := 36) Z dX4_when_36 1 rfl rfl ?_
      refine fX4_mind (pc := 37) (M := s6) Z (hE6 s1 s2 s3 s4 s5) inX4_when (List.mem_of_getElem? (i := 1) rfl) dX4_when_37 ?_
      refine ez_iload_n (pc := 40) Z dX4_when_40 2 rfl rfl ?_
      refine ez_iload_n (pc := 41) Z dX4_when_41 3 rfl rfl ?_
      refine ez_iload_n (pc := 42) Z dX4_when_42 4 rfl rfl ?_
      refine ez_callVi (pc := 43) (r := 47) (As := [.int p1, .int p2, .int p3]) (st := []) Z (kX1_bestWeek Z.2.2.2.2.2.2.2.2.2.1 (E := fun q1 q2 q3 q4 => E q1 q2 s3 s4 q3 q4) (fun q2 q3 q4 => hE1 q2 s3 s4 q3 q4) (fun q1 q3 q4 => hE2 q1 s3 s4 q3 q4) (fun q1 q2 q4 => hE5 q1 q2 s3 s4 q4) (fun q1 q2 q3 => hE6 q1 q2 s3 s4 q3) h) gX4_when_X1_bestWeek rfl rfl rfl hdX1_bestWeek rfl rfl (by decide) (ew_oX1 (hE6 s1 s2 s3 s4 s5) _) rfl rfl rfl rfl dX4_when_43 (fun r7 m8 h => ?_)
      exact ez_iret (pc := 46) Z hR (m8, s6) h rfl dX4_when_46
    · replace h := h.2 c6
      refine ez_aload_n (pc := 29) Z dX4_when_29 1 rfl rfl ?_
      refine ez_iload (pc := 30) Z dX4_when_30 0 rfl ?_
      refine ez_callVi (pc := 32) (r := 46) (As := [.int r4]) (st := []) Z (kX4_refuse Z.2.2.2.2.2.2.2.2.2.1 (E := E) hE1 hE2 hE3 hE4 hE5 hE6 h) gX4_when_X4_refuse rfl rfl rfl hdX4_refuse rfl rfl (by decide) (ew_oX0 (hE6 s1 s2 s3 s4 s5) _) rfl rfl rfl rfl dX4_when_32 (fun r9 m10 h => ?_)
      exact ez_iret (pc := 35) Z hR (s2, m10) h rfl dX4_when_35
  · replace h := h.2 c3
    refine ez_aload_n (pc := 9) Z dX4_when_9 0 rfl rfl ?_
    refine ez_iconst (pc := 10) Z dX4_when_10 ec_1 ?_
    refine ez_callVi (pc := 11) (r := 46) (As := [.int (1 : Int32)]) (st := []) Z (kX4_refuse Z.2.2.2.2.2.2.2.2.2.1 (E := E) hE1 hE2 hE3 hE4 hE5 hE6 h) gX4_when_X4_refuse rfl rfl rfl hdX4_refuse rfl rfl (by decide) (ew_oX0 (hE6 s1 s2 s3 s4 s5) _) rfl rfl rfl rfl dX4_when_11 (fun r11 m12 h => ?_)
    exact ez_iret (pc := 14) Z hR (s2, m12) h rfl dX4_when_14
theorem inX4_mean : ∀ w ∈ wsX40, w ∈ wsX4_mean := fun _ h => List.mem_cons_of_mem _ (List.mem_append_left _ (List.mem_append_left _ (List.mem_append_left _ (List.mem_append_right _ (h)))))
theorem hdX4_mean : yX4_mean.cls = RX4 ∧ yX4_mean.cls ≠ "java/lang/invoke/MethodHandle" ∧ yX4_mean.cls ≠ "java/lang/invoke/VarHandle" ∧ (parseMethodDescriptor yX4_mean.desc).map (fun d => d.parameters.length) = some 4 := by decide +kernel
def wX4_mean (Q : Int64 → ew_M → ew_M → ew_M → Prop) (p1 : Int32) (p2 : Int32) (p3 : Int32) (p4 : Int32) (s1 : ew_M) (s2 : ew_M) (s3 : ew_M) (s4 : ew_M) (s5 : ew_M) (s6 : ew_M) : Prop := wX4_isNoPair (fun (r1 : Int32) => (r1 = 0 → wX4_isNoPart (fun (r4 : Int32) => (r4 = 0 → wX4_whyNotWhen (fun (r7 : Int32) => (r7 = 0 → wX1_bestWeek (fun (r10 : Int32) (m11 : ew_M) => wX1_lastsIfReadAt (fun (r12 : Int32) (m13 : ew_M) => wX3_thinkAbove (fun (r14 : Int64) => wX3_thinkBelow (fun (r16 : Int64) => wX2_become (fun (m19 : ew_M) => wX2_partOf (fun (r20 : Int64) => Q r20 m13 m19 s6) p4 m19) (r12.toInt64 * r14) r16 s5) p1 p2 s1) p1 p2 s1) p1 p2 p3 r10 s1 m11 s5 s6) p1 p2 p3 s1 s2 s5 s6) ∧ (¬ r7 = 0 → wX4_refuseFarthest (fun (r22 : Int64) (m23 : ew_M) => Q r22 s2 s5 m23) r7 s1 s2 s3 s4 s5 s6)) p1 p2 p3 s1 s2 s3 s4 s5 s6) ∧ (¬ r4 = 0 → wX4_refuseFarthest (fun (r24 : Int64) (m25 : ew_M) => Q r24 s2 s5 m25) (2 : Int32) s1 s2 s3 s4 s5 s6)) p4) ∧ (¬ r1 = 0 → wX4_refuseFarthest (fun (r26 : Int64) (m27 : ew_M) => Q r26 s2 s5 m27) (1 : Int32) s1 s2 s3 s4 s5 s6)) p1 p2 s1 s2 s3 s4 s5 s6
set_option maxHeartbeats 4000000 in
set_option maxRecDepth 100000 in
theorem kX4_mean {X : ew_X} {l : Launch} (hX : ew_Ap X) {E : ew_M → ew_M → ew_M → ew_M → ew_M → ew_M → ew_S} (hE1 : ∀ (x2 x3 x4 x5 x6 : ew_M), ew_GE X 0 (ew_GT X.2.1 0) (fun M => E M x2 x3 x4 x5 x6)) (hE2 : ∀ (x1 x3 x4 x5 x6 : ew_M), ew_GE X 14 (ew_GT X.2.1 14) (fun M => E x1 M x3 x4 x5 x6)) (hE3 : ∀ (x1 x2 x4 x5 x6 : ew_M), ew_GE X 28 (ew_GT X.2.1 28) (fun M => E x1 x2 M x4 x5 x6)) (hE4 : ∀ (x1 x2 x3 x5 x6 : ew_M), ew_GE X 42 (ew_GL X.2.1) (fun M => E x1 x2 x3 M x5 x6)) (hE5 : ∀ (x1 x2 x3 x4 x6 : ew_M), ew_GE X 45 (ew_GR X.2.1) (fun M => E x1 x2 x3 x4 M x6)) (hE6 : ∀ (x1 x2 x3 x4 x5 : ew_M), ew_GE X 46 (ew_GX X.2.1) (fun M => E x1 x2 x3 x4 x5 M)) {Q : Int64 → ew_M → ew_M → ew_M → Prop} {p1 : Int32} {p2 : Int32} {p3 : Int32} {p4 : Int32} {s1 : ew_M} {s2 : ew_M} {s3 : ew_M} {s4 : ew_M} {s5 : ew_M} {s6 : ew_M} (h : wX4_mean Q p1 p2 p3 p4 s1 s2 s3 s4 s5 s6) : Met l yX4_mean wsX4_mean ({ frames := 7, cells := 0, slots := 0, locals := 173 } : Room) (va_Pc [.ref (X.2.1 46), .int p1, .int p2, .int p3, .int p4] (ew_wd X (E s1 s2 s3 s4 s5 s6))) (va_Ql (fun (r : Int64) (u : ew_M × ew_M × ew_M) => Q r u.1 u.2.1 u.2.2) (fun (u : ew_M × ew_M × ew_M) => ew_wd X ((fun (u : ew_M × ew_M × ew_M) => E s1 u.1 s3 s4 u.2.1 u.2.2) u)) X.2.2.1) 0 0 X.2.2.1 := by
  refine ew_met (As := [.ref (X.2.1 46), .int p1, .int p2, .int p3, .int p4]) (L0 := [(0, .ref (X.2.1 46)), (1, .int p1), (2, .int p2), (3, .int p3), (4, .int p4)]) X l hX (by decide) rfl rfl rfl rfl (fun C hl Z hR => ?_)
  subst hl
  refine ez_aload_n (pc := 0) Z dX4_mean_0 0 rfl rfl ?_
  refine ez_iload_n (pc := 1) Z dX4_mean_1 1 rfl rfl ?_
  refine ez_iload_n (pc := 2) Z dX4_mean_2 2 rfl rfl ?_
  refine ez_callVi (pc := 3) (r := 46) (As := [.int p1, .int p2]) (st := []) Z (kX4_isNoPair Z.2.2.2.2.2.2.2.2.2.1 (E := E) hE1 hE2 hE3 hE4 hE5 hE6 h) gX4_mean_X4_isNoPair rfl rfl rfl hdX4_isNoPair rfl rfl (by decide) (ew_oX0 (hE6 s1 s2 s3 s4 s5) _) rfl rfl rfl rfl dX4_mean_3 (fun r1 u2 h => ?_)
  refine ez_if_eq (pc := 6) (tgt := 15) Z dX4_mean_6 rfl (fun c3 => ?_) (fun c3 => ?_)
  · replace h := h.1 c3
    refine ez_iload (pc := 15) Z dX4_mean_15 4 rfl ?_
    refine ez_callSi (pc := 17) (As := [.int p4]) (st := []) Z (kX4_isNoPart Z.2.2.2.2.2.2.2.2.2.1 (S := E s1 s2 s3 s4 s5 s6) h) gX4_mean_X4_isNoPart rfl rfl rfl hdX4_isNoPart rfl rfl rfl rfl rfl dX4_mean_17 (fun r4 u5 h => ?_)
    refine ez_if_eq (pc := 20) (tgt := 29) Z dX4_mean_20 rfl (fun c6 => ?_) (fun c6 => ?_)
    · replace h := h.1 c6
      refine ez_aload_n (pc := 29) Z dX4_mean_29 0 rfl rfl ?_
      refine ez_iload_n (pc := 30) Z dX4_mean_30 1 rfl rfl ?_
      refine ez_iload_n (pc := 31) Z dX4_mean_31 2 rfl rfl ?_
      refine ez_iload_n (pc := 32) Z dX4_mean_32 3 rfl rfl ?_
      refine ez_callVi (pc := 33) (r := 46) (As := [.int p1, .int p2, .int p3]) (st := []) Z (kX4_whyNotWhen Z.2.2.2.2.2.2.2.2.2.1 (E := E) hE1 hE2 hE3 hE4 hE5 hE6 h) gX4_mean_X4_whyNotWhen rfl rfl rfl hdX4_whyNotWhen rfl rfl (by decide) (ew_oX0 (hE6 s1 s2 s3 s4 s5) _) rfl rfl rfl rfl dX4_mean_33 (fun r7 u8 h => ?_)
      refine ez_istore (pc := 36) (L' := [(5, .int r7), (0, .ref (X.2.1 46)), (1, .int p1), (2, .int p2), (3, .int p3), (4, .int p4)]) Z dX4_mean_36 (by decide) rfl ?_
      refine ez_iload (pc := 38) Z dX4_mean_38 0 rfl ?_
      refine ez_if_eq (pc := 40) (tgt := 50) Z dX4_mean_40 rfl (fun c9 => ?_) (fun c9 => ?_)
      · replace h := h.1 c9
        refine ez_aload_n (pc := 50) Z dX4_mean_50 1 rfl rfl ?_
        refine fX4_mind (pc := 51) (M := s6) Z (hE6 s1 s2 s3 s4 s5) inX4_mean (List.mem_of_getElem? (i := 1) rfl) dX4_mean_51 ?_
        refine ez_iload_n (pc := 54) Z dX4_mean_54 2 rfl rfl ?_
        refine ez_iload_n (pc := 55) Z dX4_mean_55 3 rfl rfl ?_
        refine ez_iload_n (pc := 56) Z dX4_mean_56 4 rfl rfl ?_
        refine ez_callVi (pc := 57) (r := 47) (As := [.int p1, .int p2, .int p3]) (st := []) Z (kX1_bestWeek Z.2.2.2.2.2.2.2.2.2.1 (E := fun q1 q2 q3 q4 => E q1 q2 s3 s4 q3 q4) (fun q2 q3 q4 => hE1 q2 s3 s4 q3 q4) (fun q1 q3 q4 => hE2 q1 s3 s4 q3 q4) (fun q1 q2 q4 => hE5 q1 q2 s3 s4 q4) (fun q1 q2 q3 => hE6 q1 q2 s3 s4 q3) h) gX4_mean_X1_bestWeek rfl rfl rfl hdX1_bestWeek rfl rfl (by decide) (ew_oX1 (hE6 s1 s2 s3 s4 s5) _) rfl rfl rfl rfl dX4_mean_57 (fun r10 m11 h => ?_)
        refine ez_istore (pc := 60) (L' := [(6, .int r10), (5, .int r7), (0, .ref (X.2.1 46)), (1, .int p1), (2, .int p2), (3, .int p3), (4, .int p4)]) Z dX4_mean_60 (by decide) rfl ?_
        refine ez_aload_n (pc := 62) Z dX4_mean_62 2 rfl rfl ?_
        refine fX4_mind (pc := 63) (M := s6) Z (hE6 s1 m11 s3 s4 s5) inX4_mean (List.mem_of_getElem? (i := 1) rfl) dX4_mean_63 ?_
        refine ez_iload_n (pc := 66) Z dX4_mean_66 3 rfl rfl ?_
        refine ez_iload_n (pc := 67) Z dX4_mean_67 4 rfl rfl ?_
        refine ez_iload_n (pc := 68) Z dX4_mean_68 5 rfl rfl ?_
        refine ez_iload (pc := 69) Z dX4_mean_69 0 rfl ?_
        refine ez_callVi (pc := 71) (r := 47) (As := [.int p1, .int p2, .int p3, .int r10]) (st := []) Z (kX1_lastsIfReadAt Z.2.2.2.2.2.2.2.2.2.1 (E := fun q1 q2 q3 q4 => E q1 q2 s3 s4 q3 q4) (fun q2 q3 q4 => hE1 q2 s3 s4 q3 q4) (fun q1 q3 q4 => hE2 q1 s3 s4 q3 q4) (fun q1 q2 q4 => hE5 q1 q2 s3 s4 q4) (fun q1 q2 q3 => hE6 q1 q2 s3 s4 q3) h) gX4_mean_X1_lastsIfReadAt rfl rfl rfl hdX1_lastsIfReadAt rfl rfl (by decide) (ew_oX1 (hE6 s1 m11 s3 s4 s5) _) rfl rfl rfl rfl dX4_mean_71 (fun r12 m13 h => ?_)
        refine ez_i2l (pc := 74) Z dX4_mean_74 ?_
        refine ez_lstore (pc := 75) (L' := [(7, .long r12.toInt64), (6, .int r10), (5, .int r7), (0, .ref (X.2.1 46)), (1, .int p1), (2, .int p2), (3, .int p3), (4, .int p4)]) Z dX4_mean_75 (by decide) rfl ?_
        refine ez_aload_n (pc := 77) Z dX4_mean_77 3 rfl rfl ?_
        refine fX4_ratio (pc := 78) (M := s6) Z (hE6 s1 m13 s3 s4 s5) inX4_mean (List.mem_of_getElem? (i := 2) rfl) dX4_mean_78 ?_
        refine ez_lload (pc := 81) Z dX4_mean_81 0 rfl ?_
        refine ez_aload_n (pc := 83) Z dX4_mean_83 3 rfl rfl ?_
        refine fX4_now (pc := 84) (M := s6) Z (hE6 s1 m13 s3 s4 s5) inX4_mean (List.mem_of_getElem? (i := 3) rfl) dX4_mean_84 ?_
        refine ez_iload_n (pc := 87) Z dX4_mean_87 4 rfl rfl ?_
        refine ez_iload_n (pc := 88) Z dX4_mean_88 5 rfl rfl ?_
        refine ez_callVl (pc := 89) (r := 0) (As := [.int p1, .int p2]) (st := [.long r12.toInt64, .ref (X.2.1 45)]) Z (kX3_thinkAbove Z.2.2.2.2.2.2.2.2.2.1 (E := fun q1 => E q1 m13 s3 s4 s5 s6) (hE1 m13 s3 s4 s5 s6) h) gX4_mean_X3_thinkAbove rfl rfl rfl hdX3_thinkAbove rfl rfl (by decide) (ew_oT (hE1 m13 s3 s4 s5 s6) _) rfl rfl rfl rfl dX4_mean_89 (fun r14 u15 h => ?_)
        refine ez_lmul (pc := 92) Z dX4_mean_92 ?_
        refine ez_aload_n (pc := 93) Z dX4_mean_93 3 rfl rfl ?_
        refine fX4_now (pc := 94) (M := s6) Z (hE6 s1 m13 s3 s4 s5) inX4_mean (List.mem_of_getElem? (i := 3) rfl) dX4_mean_94 ?_
        refine ez_iload_n (pc := 97) Z dX4_mean_97 4 rfl rfl ?_
        refine ez_iload_n (pc := 98) Z dX4_mean_98 5 rfl rfl ?_
        refine ez_callVl (pc := 99) (r := 0) (As := [.int p1, .int p2]) (st := [.long (r12.toInt64 * r14), .ref (X.2.1 45)]) Z (kX3_thinkBelow Z.2.2.2.2.2.2.2.2.2.1 (E := fun q1 => E q1 m13 s3 s4 s5 s6) (hE1 m13 s3 s4 s5 s6) h) gX4_mean_X3_thinkBelow rfl rfl rfl hdX3_thinkBelow rfl rfl (by decide) (ew_oT (hE1 m13 s3 s4 s5 s6) _) rfl rfl rfl rfl dX4_mean_99 (fun r16 u17 h => ?_)
        refine ez_callVv (pc := 102) (r := 45) (As := [.long (r12.toInt64 * r14), .long r16]) (st := []) Z (kX2_become Z.2.2.2.2.2.2.2.2.2.1 (E := fun q1 => E s1 m13 s3 s4 q1 s6) (hE5 s1 m13 s3 s4 s6) h) gX4_mean_X2_become rfl rfl rfl hdX2_become rfl rfl (by decide) (ew_oR (hE5 s1 m13 s3 s4 s6) _) rfl rfl rfl rfl dX4_mean_102 (fun m19 h => ?_)
        refine ez_aload_n (pc := 105) Z dX4_mean_105 3 rfl rfl ?_
        refine fX4_ratio (pc := 106) (M := s6) Z (hE6 s1 m13 s3 s4 m19) inX4_mean (List.mem_of_getElem? (i := 2) rfl) dX4_mean_106 ?_
        refine ez_iload (pc := 109) Z dX4_mean_109 7 rfl ?_
        refine ez_callVl (pc := 111) (r := 45) (As := [.int p4]) (st := []) Z (kX2_partOf Z.2.2.2.2.2.2.2.2.2.1 (E := fun q1 => E s1 m13 s3 s4 q1 s6) (hE5 s1 m13 s3 s4 s6) h) gX4_mean_X2_partOf rfl rfl rfl hdX2_partOf rfl rfl (by decide) (ew_oR (hE5 s1 m13 s3 s4 s6) _) rfl rfl rfl rfl dX4_mean_111 (fun r20 u21 h => ?_)
        exact ez_lret (pc := 114) Z hR (m13, m19, s6) h rfl dX4_mean_114
      · replace h := h.2 c9
        refine ez_aload_n (pc := 43) Z dX4_mean_43 1 rfl rfl ?_
        refine ez_iload (pc := 44) Z dX4_mean_44 0 rfl ?_
        refine ez_callVl (pc := 46) (r := 46) (As := [.int r7]) (st := []) Z (kX4_refuseFarthest Z.2.2.2.2.2.2.2.2.2.1 (E := E) hE1 hE2 hE3 hE4 hE5 hE6 h) gX4_mean_X4_refuseFarthest rfl rfl rfl hdX4_refuseFarthest rfl rfl (by decide) (ew_oX0 (hE6 s1 s2 s3 s4 s5) _) rfl rfl rfl rfl dX4_mean_46 (fun r22 m23 h => ?_)
        exact ez_lret (pc := 49) Z hR (s2, s5, m23) h rfl dX4_mean_49
    · replace h := h.2 c6
      refine ez_aload_n (pc := 23) Z dX4_mean_23 0 rfl rfl ?_
      refine ez_iconst (pc := 24) Z dX4_mean_24 ec_2 ?_
      refine ez_callVl (pc := 25) (r := 46) (As := [.int (2 : Int32)]) (st := []) Z (kX4_refuseFarthest Z.2.2.2.2.2.2.2.2.2.1 (E := E) hE1 hE2 hE3 hE4 hE5 hE6 h) gX4_mean_X4_refuseFarthest rfl rfl rfl hdX4_refuseFarthest rfl rfl (by decide) (ew_oX0 (hE6 s1 s2 s3 s4 s5) _) rfl rfl rfl rfl dX4_mean_25 (fun r24 m25 h => ?_)
      exact ez_lret (pc := 28) Z hR (s2, s5, m25) h rfl dX4_mean_28
  · replace h := h.2 c3
    refine ez_aload_n (pc := 9) Z dX4_mean_9 0 rfl rfl ?_
    refine ez_iconst (pc := 10) Z dX4_mean_10 ec_1 ?_
    refine ez_callVl (pc := 11) (r := 46) (As := [.int (1 : Int32)]) (st := []) Z (kX4_refuseFarthest Z.2.2.2.2.2.2.2.2.2.1 (E := E) hE1 hE2 hE3 hE4 hE5 hE6 h) gX4_mean_X4_refuseFarthest rfl rfl rfl hdX4_refuseFarthest rfl rfl (by decide) (ew_oX0 (hE6 s1 s2 s3 s4 s5) _) rfl rfl rfl rfl dX4_mean_11 (fun r26 m27 h => ?_)
    exact ez_lret (pc := 14) Z hR (s2, s5, m27) h rfl dX4_mean_14
theorem inX4_rests : ∀ w ∈ wsX40, w ∈ wsX4_rests := fun _ h => List.mem_cons_of_mem _ (List.mem_append_left _ (List.mem_append_left _ (List.mem_append_right _ (h))))
theorem hdX4_rests : yX4_rests.cls = RX4 ∧ yX4_rests.cls ≠ "java/lang/invoke/MethodHandle" ∧ yX4_rests.cls ≠ "java/lang/invoke/VarHandle" ∧ (parseMethodDescriptor yX4_rests.desc).map (fun d => d.parameters.length) = some 1 := by decide +kernel
def wX4_rests (Q : Int32 → ew_M → Prop) (p1 : Int32) (s1 : ew_M) (s2 : ew_M) (s3 : ew_M) (s4 : ew_M) (s5 : ew_M) (s6 : ew_M) : Prop := wX3_hasPaper (fun (r1 : Int32) => (¬ r1 = 0 → wX1_countRests (fun (r4 : Int32) => Q r4 s6) p1 s1 s2 s5 s6) ∧ (r1 = 0 → wX4_refuse (fun (r6 : Int32) (m7 : ew_M) => Q r6 m7) (1 : Int32) s1 s2 s3 s4 s5 s6)) p1 s1
set_option maxHeartbeats 4000000 in
set_option maxRecDepth 100000 in
theorem kX4_rests {X : ew_X} {l : Launch} (hX : ew_Ap X) {E : ew_M → ew_M → ew_M → ew_M → ew_M → ew_M → ew_S} (hE1 : ∀ (x2 x3 x4 x5 x6 : ew_M), ew_GE X 0 (ew_GT X.2.1 0) (fun M => E M x2 x3 x4 x5 x6)) (hE2 : ∀ (x1 x3 x4 x5 x6 : ew_M), ew_GE X 14 (ew_GT X.2.1 14) (fun M => E x1 M x3 x4 x5 x6)) (hE3 : ∀ (x1 x2 x4 x5 x6 : ew_M), ew_GE X 28 (ew_GT X.2.1 28) (fun M => E x1 x2 M x4 x5 x6)) (hE4 : ∀ (x1 x2 x3 x5 x6 : ew_M), ew_GE X 42 (ew_GL X.2.1) (fun M => E x1 x2 x3 M x5 x6)) (hE5 : ∀ (x1 x2 x3 x4 x6 : ew_M), ew_GE X 45 (ew_GR X.2.1) (fun M => E x1 x2 x3 x4 M x6)) (hE6 : ∀ (x1 x2 x3 x4 x5 : ew_M), ew_GE X 46 (ew_GX X.2.1) (fun M => E x1 x2 x3 x4 x5 M)) {Q : Int32 → ew_M → Prop} {p1 : Int32} {s1 : ew_M} {s2 : ew_M} {s3 : ew_M} {s4 : ew_M} {s5 : ew_M} {s6 : ew_M} (h : wX4_rests Q p1 s1 s2 s3 s4 s5 s6) : Met l yX4_rests wsX4_rests ({ frames := 6, cells := 0, slots := 0, locals := 141 } : Room) (va_Pc [.ref (X.2.1 46), .int p1] (ew_wd X (E s1 s2 s3 s4 s5 s6))) (va_Qi (fun (r : Int32) (u : ew_M) => Q r u) (fun (u : ew_M) => ew_wd X ((fun (u : ew_M) => E s1 s2 s3 s4 s5 u) u)) X.2.2.1) 0 0 X.2.2.1 := by
  refine ew_met (As := [.ref (X.2.1 46), .int p1]) (L0 := [(0, .ref (X.2.1 46)), (1, .int p1)]) X l hX (by decide) rfl rfl rfl rfl (fun C hl Z hR => ?_)
  subst hl
  refine ez_aload_n (pc := 0) Z dX4_rests_0 0 rfl rfl ?_
  refine fX4_now (pc := 1) (M := s6) Z (hE6 s1 s2 s3 s4 s5) inX4_rests (List.mem_of_getElem? (i := 1) rfl) dX4_rests_1 ?_
  refine ez_iload_n (pc := 4) Z dX4_rests_4 1 rfl rfl ?_
  refine ez_callVi (pc := 5) (r := 0) (As := [.int p1]) (st := []) Z (kX3_hasPaper Z.2.2.2.2.2.2.2.2.2.1 (E := fun q1 => E q1 s2 s3 s4 s5 s6) (hE1 s2 s3 s4 s5 s6) h) gX4_rests_X3_hasPaper rfl rfl rfl hdX3_hasPaper rfl rfl (by decide) (ew_oT (hE1 s2 s3 s4 s5 s6) _) rfl rfl rfl rfl dX4_rests_5 (fun r1 u2 h => ?_)
  refine ez_if_ne (pc := 8) (tgt := 17) Z dX4_rests_8 rfl (fun c3 => ?_) (fun c3 => ?_)
  · replace h := h.1 c3
    refine ez_aload_n (pc := 17) Z dX4_rests_17 0 rfl rfl ?_
    refine fX4_mind (pc := 18) (M := s6) Z (hE6 s1 s2 s3 s4 s5) inX4_rests (List.mem_of_getElem? (i := 2) rfl) dX4_rests_18 ?_
    refine ez_iload_n (pc := 21) Z dX4_rests_21 1 rfl rfl ?_
    refine ez_callVi (pc := 22) (r := 47) (As := [.int p1]) (st := []) Z (kX1_countRests Z.2.2.2.2.2.2.2.2.2.1 (E := fun q1 q2 q3 q4 => E q1 q2 s3 s4 q3 q4) (fun q2 q3 q4 => hE1 q2 s3 s4 q3 q4) (fun q1 q3 q4 => hE2 q1 s3 s4 q3 q4) (fun q1 q2 q4 => hE5 q1 q2 s3 s4 q4) (fun q1 q2 q3 => hE6 q1 q2 s3 s4 q3) h) gX4_rests_X1_countRests rfl rfl rfl hdX1_countRests rfl rfl (by decide) (ew_oX1 (hE6 s1 s2 s3 s4 s5) _) rfl rfl rfl rfl dX4_rests_22 (fun r4 u5 h => ?_)
    exact ez_iret (pc := 25) Z hR s6 h rfl dX4_rests_25
  · replace h := h.2 c3
    refine ez_aload_n (pc := 11) Z dX4_rests_11 0 rfl rfl ?_
    refine ez_iconst (pc := 12) Z dX4_rests_12 ec_1 ?_
    refine ez_callVi (pc := 13) (r := 46) (As := [.int (1 : Int32)]) (st := []) Z (kX4_refuse Z.2.2.2.2.2.2.2.2.2.1 (E := E) hE1 hE2 hE3 hE4 hE5 hE6 h) gX4_rests_X4_refuse rfl rfl rfl hdX4_refuse rfl rfl (by decide) (ew_oX0 (hE6 s1 s2 s3 s4 s5) _) rfl rfl rfl rfl dX4_rests_13 (fun r6 m7 h => ?_)
    exact ez_iret (pc := 16) Z hR m7 h rfl dX4_rests_16
theorem inX4_rest : ∀ w ∈ wsX40, w ∈ wsX4_rest := fun _ h => List.mem_cons_of_mem _ (List.mem_append_left _ (List.mem_append_left _ (List.mem_append_right _ (h))))
theorem hdX4_rest : yX4_rest.cls = RX4 ∧ yX4_rest.cls ≠ "java/lang/invoke/MethodHandle" ∧ yX4_rest.cls ≠ "java/lang/invoke/VarHandle" ∧ (parseMethodDescriptor yX4_rest.desc).map (fun d => d.parameters.length) = some 1 := by decide +kernel
def wX4_rest (Q : Int32 → ew_M → Prop) (p1 : Int32) (s1 : ew_M) (s2 : ew_M) (s3 : ew_M) (s4 : ew_M) (s5 : ew_M) (s6 : ew_M) : Prop := wX3_hasPaper (fun (r1 : Int32) => (¬ r1 = 0 → wX1_firstRest (fun (r4 : Int32) => Q r4 s6) p1 s1 s2 s5 s6) ∧ (r1 = 0 → wX4_refuse (fun (r6 : Int32) (m7 : ew_M) => Q r6 m7) (1 : Int32) s1 s2 s3 s4 s5 s6)) p1 s1
set_option maxHeartbeats 4000000 in
set_option maxRecDepth 100000 in
theorem kX4_rest {X : ew_X} {l : Launch} (hX : ew_Ap X) {E : ew_M → ew_M → ew_M → ew_M → ew_M → ew_M → ew_S} (hE1 : ∀ (x2 x3 x4 x5 x6 : ew_M), ew_GE X 0 (ew_GT X.2.1 0) (fun M => E M x2 x3 x4 x5 x6)) (hE2 : ∀ (x1 x3 x4 x5 x6 : ew_M), ew_GE X 14 (ew_GT X.2.1 14) (fun M => E x1 M x3 x4 x5 x6)) (hE3 : ∀ (x1 x2 x4 x5 x6 : ew_M), ew_GE X 28 (ew_GT X.2.1 28) (fun M => E x1 x2 M x4 x5 x6)) (hE4 : ∀ (x1 x2 x3 x5 x6 : ew_M), ew_GE X 42 (ew_GL X.2.1) (fun M => E x1 x2 x3 M x5 x6)) (hE5 : ∀ (x1 x2 x3 x4 x6 : ew_M), ew_GE X 45 (ew_GR X.2.1) (fun M => E x1 x2 x3 x4 M x6)) (hE6 : ∀ (x1 x2 x3 x4 x5 : ew_M), ew_GE X 46 (ew_GX X.2.1) (fun M => E x1 x2 x3 x4 x5 M)) {Q : Int32 → ew_M → Prop} {p1 : Int32} {s1 : ew_M} {s2 : ew_M} {s3 : ew_M} {s4 : ew_M} {s5 : ew_M} {s6 : ew_M} (h : wX4_rest Q p1 s1 s2 s3 s4 s5 s6) : Met l yX4_rest wsX4_rest ({ frames := 6, cells := 0, slots := 0, locals := 140 } : Room) (va_Pc [.ref (X.2.1 46), .int p1] (ew_wd X (E s1 s2 s3 s4 s5 s6))) (va_Qi (fun (r : Int32) (u : ew_M) => Q r u) (fun (u : ew_M) => ew_wd X ((fun (u : ew_M) => E s1 s2 s3 s4 s5 u) u)) X.2.2.1) 0 0 X.2.2.1 := by
  refine ew_met (As := [.ref (X.2.1 46), .int p1]) (L0 := [(0, .ref (X.2.1 46)), (1, .int p1)]) X l hX (by decide) rfl rfl rfl rfl (fun C hl Z hR => ?_)
  subst hl
  refine ez_aload_n (pc := 0) Z dX4_rest_0 0 rfl rfl ?_
  refine fX4_now (pc := 1) (M := s6) Z (hE6 s1 s2 s3 s4 s5) inX4_rest (List.mem_of_getElem? (i := 1) rfl) dX4_rest_1 ?_
  refine ez_iload_n (pc := 4) Z dX4_rest_4 1 rfl rfl ?_
  refine ez_callVi (pc := 5) (r := 0) (As := [.int p1]) (st := []) Z (kX3_hasPaper Z.2.2.2.2.2.2.2.2.2.1 (E := fun q1 => E q1 s2 s3 s4 s5 s6) (hE1 s2 s3 s4 s5 s6) h) gX4_rest_X3_hasPaper rfl rfl rfl hdX3_hasPaper rfl rfl (by decide) (ew_oT (hE1 s2 s3 s4 s5 s6) _) rfl rfl rfl rfl dX4_rest_5 (fun r1 u2 h => ?_)
  refine ez_if_ne (pc := 8) (tgt := 17) Z dX4_rest_8 rfl (fun c3 => ?_) (fun c3 => ?_)
  · replace h := h.1 c3
    refine ez_aload_n (pc := 17) Z dX4_rest_17 0 rfl rfl ?_
    refine fX4_mind (pc := 18) (M := s6) Z (hE6 s1 s2 s3 s4 s5) inX4_rest (List.mem_of_getElem? (i := 2) rfl) dX4_rest_18 ?_
    refine ez_iload_n (pc := 21) Z dX4_rest_21 1 rfl rfl ?_
    refine ez_callVi (pc := 22) (r := 47) (As := [.int p1]) (st := []) Z (kX1_firstRest Z.2.2.2.2.2.2.2.2.2.1 (E := fun q1 q2 q3 q4 => E q1 q2 s3 s4 q3 q4) (fun q2 q3 q4 => hE1 q2 s3 s4 q3 q4) (fun q1 q3 q4 => hE2 q1 s3 s4 q3 q4) (fun q1 q2 q4 => hE5 q1 q2 s3 s4 q4) (fun q1 q2 q3 => hE6 q1 q2 s3 s4 q3) h) gX4_rest_X1_firstRest rfl rfl rfl hdX1_firstRest rfl rfl (by decide) (ew_oX1 (hE6 s1 s2 s3 s4 s5) _) rfl rfl rfl rfl dX4_rest_22 (fun r4 u5 h => ?_)
    exact ez_iret (pc := 25) Z hR s6 h rfl dX4_rest_25
  · replace h := h.2 c3
    refine ez_aload_n (pc := 11) Z dX4_rest_11 0 rfl rfl ?_
    refine ez_iconst (pc := 12) Z dX4_rest_12 ec_1 ?_
    refine ez_callVi (pc := 13) (r := 46) (As := [.int (1 : Int32)]) (st := []) Z (kX4_refuse Z.2.2.2.2.2.2.2.2.2.1 (E := E) hE1 hE2 hE3 hE4 hE5 hE6 h) gX4_rest_X4_refuse rfl rfl rfl hdX4_refuse rfl rfl (by decide) (ew_oX0 (hE6 s1 s2 s3 s4 s5) _) rfl rfl rfl rfl dX4_rest_13 (fun r6 m7 h => ?_)
    exact ez_iret (pc := 16) Z hR m7 h rfl dX4_rest_16
theorem inX4_ends : ∀ w ∈ wsX40, w ∈ wsX4_ends := fun _ h => List.mem_cons_of_mem _ (List.mem_append_left _ (List.mem_append_left _ (List.mem_append_right _ (h))))
theorem hdX4_ends : yX4_ends.cls = RX4 ∧ yX4_ends.cls ≠ "java/lang/invoke/MethodHandle" ∧ yX4_ends.cls ≠ "java/lang/invoke/VarHandle" ∧ (parseMethodDescriptor yX4_ends.desc).map (fun d => d.parameters.length) = some 1 := by decide +kernel
def wX4_ends (Q : Int32 → ew_M → Prop) (p1 : Int32) (s1 : ew_M) (s2 : ew_M) (s3 : ew_M) (s4 : ew_M) (s5 : ew_M) (s6 : ew_M) : Prop := wX3_hasPaper (fun (r1 : Int32) => (¬ r1 = 0 → wX1_endersOf (fun (r4 : Int32) => Q r4 s6) p1 s1 s2 s5 s6) ∧ (r1 = 0 → wX4_refuse (fun (r6 : Int32) (m7 : ew_M) => Q r6 m7) (1 : Int32) s1 s2 s3 s4 s5 s6)) p1 s1
set_option maxHeartbeats 4000000 in
set_option maxRecDepth 100000 in
theorem kX4_ends {X : ew_X} {l : Launch} (hX : ew_Ap X) {E : ew_M → ew_M → ew_M → ew_M → ew_M → ew_M → ew_S} (hE1 : ∀ (x2 x3 x4 x5 x6 : ew_M), ew_GE X 0 (ew_GT X.2.1 0) (fun M => E M x2 x3 x4 x5 x6)) (hE2 : ∀ (x1 x3 x4 x5 x6 : ew_M), ew_GE X 14 (ew_GT X.2.1 14) (fun M => E x1 M x3 x4 x5 x6)) (hE3 : ∀ (x1 x2 x4 x5 x6 : ew_M), ew_GE X 28 (ew_GT X.2.1 28) (fun M => E x1 x2 M x4 x5 x6)) (hE4 : ∀ (x1 x2 x3 x5 x6 : ew_M), ew_GE X 42 (ew_GL X.2.1) (fun M => E x1 x2 x3 M x5 x6)) (hE5 : ∀ (x1 x2 x3 x4 x6 : ew_M), ew_GE X 45 (ew_GR X.2.1) (fun M => E x1 x2 x3 x4 M x6)) (hE6 : ∀ (x1 x2 x3 x4 x5 : ew_M), ew_GE X 46 (ew_GX X.2.1) (fun M => E x1 x2 x3 x4 x5 M)) {Q : Int32 → ew_M → Prop} {p1 : Int32} {s1 : ew_M} {s2 : ew_M} {s3 : ew_M} {s4 : ew_M} {s5 : ew_M} {s6 : ew_M} (h : wX4_ends Q p1 s1 s2 s3 s4 s5 s6) : Met l yX4_ends wsX4_ends ({ frames := 4, cells := 0, slots := 0, locals := 88 } : Room) (va_Pc [.ref (X.2.1 46), .int p1] (ew_wd X (E s1 s2 s3 s4 s5 s6))) (va_Qi (fun (r : Int32) (u : ew_M) => Q r u) (fun (u : ew_M) => ew_wd X ((fun (u : ew_M) => E s1 s2 s3 s4 s5 u) u)) X.2.2.1) 0 0 X.2.2.1 := by
  refine ew_met (As := [.ref (X.2.1 46), .int p1]) (L0 := [(0, .ref (X.2.1 46)), (1, .int p1)]) X l hX (by decide) rfl rfl rfl rfl (fun C hl Z hR => ?_)
  subst hl
  refine ez_aload_n (pc := 0) Z dX4_ends_0 0 rfl rfl ?_
  refine fX4_now (pc := 1) (M := s6) Z (hE6 s1 s2 s3 s4 s5) inX4_ends (List.mem_of_getElem? (i := 1) rfl) dX4_ends_1 ?_
  refine ez_iload_n (pc := 4) Z dX4_ends_4 1 rfl rfl ?_
  refine ez_callVi (pc := 5) (r := 0) (As := [.int p1]) (st := []) Z (kX3_hasPaper Z.2.2.2.2.2.2.2.2.2.1 (E := fun q1 => E q1 s2 s3 s4 s5 s6) (hE1 s2 s3 s4 s5 s6) h) gX4_ends_X3_hasPaper rfl rfl rfl hdX3_hasPaper rfl rfl (by decide) (ew_oT (hE1 s2 s3 s4 s5 s6) _) rfl rfl rfl rfl dX4_ends_5 (fun r1 u2 h => ?_)
  refine ez_if_ne (pc := 8) (tgt := 17) Z dX4_ends_8 rfl (fun c3 => ?_) (fun c3 => ?_)
  · replace h := h.1 c3
    refine ez_aload_n (pc := 17) Z dX4_ends_17 0 rfl rfl ?_
    refine fX4_mind (pc := 18) (M := s6) Z (hE6 s1 s2 s3 s4 s5) inX4_ends (List.mem_of_getElem? (i := 2) rfl) dX4_ends_18 ?_
    refine ez_iload_n (pc := 21) Z dX4_ends_21 1 rfl rfl ?_
    refine ez_callVi (pc := 22) (r := 47) (As := [.int p1]) (st := []) Z (kX1_endersOf Z.2.2.2.2.2.2.2.2.2.1 (E := fun q1 q2 q3 q4 => E q1 q2 s3 s4 q3 q4) (fun q2 q3 q4 => hE1 q2 s3 s4 q3 q4) (fun q1 q3 q4 => hE2 q1 s3 s4 q3 q4) (fun q1 q2 q4 => hE5 q1 q2 s3 s4 q4) (fun q1 q2 q3 => hE6 q1 q2 s3 s4 q3) h) gX4_ends_X1_endersOf rfl rfl rfl hdX1_endersOf rfl rfl (by decide) (ew_oX1 (hE6 s1 s2 s3 s4 s5) _) rfl rfl rfl rfl dX4_ends_22 (fun r4 u5 h => ?_)
    exact ez_iret (pc := 25) Z hR s6 h rfl dX4_ends_25
  · replace h := h.2 c3
    refine ez_aload_n (pc := 11) Z dX4_ends_11 0 rfl rfl ?_
    refine ez_iconst (pc := 12) Z dX4_ends_12 ec_1 ?_
    refine ez_callVi (pc := 13) (r := 46) (As := [.int (1 : Int32)]) (st := []) Z (kX4_refuse Z.2.2.2.2.2.2.2.2.2.1 (E := E) hE1 hE2 hE3 hE4 hE5 hE6 h) gX4_ends_X4_refuse rfl rfl rfl hdX4_refuse rfl rfl (by decide) (ew_oX0 (hE6 s1 s2 s3 s4 s5) _) rfl rfl rfl rfl dX4_ends_13 (fun r6 m7 h => ?_)
    exact ez_iret (pc := 16) Z hR m7 h rfl dX4_ends_16
theorem inX4_asks : ∀ w ∈ wsX40, w ∈ wsX4_asks := fun _ h => List.mem_cons_of_mem _ (List.mem_append_left _ (List.mem_append_left _ (List.mem_append_right _ (h))))
theorem hdX4_asks : yX4_asks.cls = RX4 ∧ yX4_asks.cls ≠ "java/lang/invoke/MethodHandle" ∧ yX4_asks.cls ≠ "java/lang/invoke/VarHandle" ∧ (parseMethodDescriptor yX4_asks.desc).map (fun d => d.parameters.length) = some 3 := by decide +kernel
def wX4_asks (Q : Int32 → ew_M → Prop) (p1 : Int32) (p2 : Int32) (p3 : Int32) (s1 : ew_M) (s2 : ew_M) (s3 : ew_M) (s4 : ew_M) (s5 : ew_M) (s6 : ew_M) : Prop := wX4_isNoPair (fun (r1 : Int32) => (r1 = 0 → wX4_whyNotSoMany (fun (r4 : Int32) => (r4 = 0 → wX3_isBound (fun (r7 : Int32) => (¬ r7 = 0 → wX1_priceOf (fun (r10 : Int32) => Q r10 s6) p1 p2 p3 s1 s2 s5 s6) ∧ (r7 = 0 → wX4_refuse (fun (r12 : Int32) (m13 : ew_M) => Q r12 m13) (3 : Int32) s1 s2 s3 s4 s5 s6)) p1 p2 s1) ∧ (¬ r4 = 0 → wX4_refuse (fun (r14 : Int32) (m15 : ew_M) => Q r14 m15) r4 s1 s2 s3 s4 s5 s6)) p3 (99 : Int32)) ∧ (¬ r1 = 0 → wX4_refuse (fun (r16 : Int32) (m17 : ew_M) => Q r16 m17) (1 : Int32) s1 s2 s3 s4 s5 s6)) p1 p2 s1 s2 s3 s4 s5 s6
set_option maxHeartbeats 4000000 in
set_option maxRecDepth 100000 in
theorem kX4_asks {X : ew_X} {l : Launch} (hX : ew_Ap X) {E : ew_M → ew_M → ew_M → ew_M → ew_M → ew_M → ew_S} (hE1 : ∀ (x2 x3 x4 x5 x6 : ew_M), ew_GE X 0 (ew_GT X.2.1 0) (fun M => E M x2 x3 x4 x5 x6)) (hE2 : ∀ (x1 x3 x4 x5 x6 : ew_M), ew_GE X 14 (ew_GT X.2.1 14) (fun M => E x1 M x3 x4 x5 x6)) (hE3 : ∀ (x1 x2 x4 x5 x6 : ew_M), ew_GE X 28 (ew_GT X.2.1 28) (fun M => E x1 x2 M x4 x5 x6)) (hE4 : ∀ (x1 x2 x3 x5 x6 : ew_M), ew_GE X 42 (ew_GL X.2.1) (fun M => E x1 x2 x3 M x5 x6)) (hE5 : ∀ (x1 x2 x3 x4 x6 : ew_M), ew_GE X 45 (ew_GR X.2.1) (fun M => E x1 x2 x3 x4 M x6)) (hE6 : ∀ (x1 x2 x3 x4 x5 : ew_M), ew_GE X 46 (ew_GX X.2.1) (fun M => E x1 x2 x3 x4 x5 M)) {Q : Int32 → ew_M → Prop} {p1 : Int32} {p2 : Int32} {p3 : Int32} {s1 : ew_M} {s2 : ew_M} {s3 : ew_M} {s4 : ew_M} {s5 : ew_M} {s6 : ew_M} (h : wX4_asks Q p1 p2 p3 s1 s2 s3 s4 s5 s6) : Met l yX4_asks wsX4_asks ({ frames := 5, cells := 0, slots := 0, locals := 114 } : Room) (va_Pc [.ref (X.2.1 46), .int p1, .int p2, .int p3] (ew_wd X (E s1 s2 s3 s4 s5 s6))) (va_Qi (fun (r : Int32) (u : ew_M) => Q r u) (fun (u : ew_M) => ew_wd X ((fun (u : ew_M) => E s1 s2 s3 s4 s5 u) u)) X.2.2.1) 0 0 X.2.2.1 := by
  refine ew_met (As := [.ref (X.2.1 46), .int p1, .int p2, .int p3]) (L0 := [(0, .ref (X.2.1 46)), (1, .int p1), (2, .int p2), (3, .int p3)]) X l hX (by decide) rfl rfl rfl rfl (fun C hl Z hR => ?_)
  subst hl
  refine ez_aload_n (pc := 0) Z dX4_asks_0 0 rfl rfl ?_
  refine ez_iload_n (pc := 1) Z dX4_asks_1 1 rfl rfl ?_
  refine ez_iload_n (pc := 2) Z dX4_asks_2 2 rfl rfl ?_
  refine ez_callVi (pc := 3) (r := 46) (As := [.int p1, .int p2]) (st := []) Z (kX4_isNoPair Z.2.2.2.2.2.2.2.2.2.1 (E := E) hE1 hE2 hE3 hE4 hE5 hE6 h) gX4_asks_X4_isNoPair rfl rfl rfl hdX4_isNoPair rfl rfl (by decide) (ew_oX0 (hE6 s1 s2 s3 s4 s5) _) rfl rfl rfl rfl dX4_asks_3 (fun r1 u2 h => ?_)
  refine ez_if_eq (pc := 6) (tgt := 15) Z dX4_asks_6 rfl (fun c3 => ?_) (fun c3 => ?_)
  · replace h := h.1 c3
    refine ez_iload_n (pc := 15) Z dX4_asks_15 3 rfl rfl ?_
    refine ez_bipush (pc := 16) Z dX4_asks_16 eb_99 ?_
    refine ez_callSi (pc := 18) (As := [.int p3, .int (99 : Int32)]) (st := []) Z (kX4_whyNotSoMany Z.2.2.2.2.2.2.2.2.2.1 (S := E s1 s2 s3 s4 s5 s6) h) gX4_asks_X4_whyNotSoMany rfl rfl rfl hdX4_whyNotSoMany rfl rfl rfl rfl rfl dX4_asks_18 (fun r4 u5 h => ?_)
    refine ez_istore (pc := 21) (L' := [(4, .int r4), (0, .ref (X.2.1 46)), (1, .int p1), (2, .int p2), (3, .int p3)]) Z dX4_asks_21 (by decide) rfl ?_
    refine ez_iload (pc := 23) Z dX4_asks_23 0 rfl ?_
    refine ez_if_eq (pc := 25) (tgt := 35) Z dX4_asks_25 rfl (fun c6 => ?_) (fun c6 => ?_)
    · replace h := h.1 c6
      refine ez_aload_n (pc := 35) Z dX4_asks_35 1 rfl rfl ?_
      refine fX4_now (pc := 36) (M := s6) Z (hE6 s1 s2 s3 s4 s5) inX4_asks (List.mem_of_getElem? (i := 1) rfl) dX4_asks_36 ?_
      refine ez_iload_n (pc := 39) Z dX4_asks_39 2 rfl rfl ?_
      refine ez_iload_n (pc := 40) Z dX4_asks_40 3 rfl rfl ?_
      refine ez_callVi (pc := 41) (r := 0) (As := [.int p1, .int p2]) (st := []) Z (kX3_isBound Z.2.2.2.2.2.2.2.2.2.1 (E := fun q1 => E q1 s2 s3 s4 s5 s6) (hE1 s2 s3 s4 s5 s6) h) gX4_asks_X3_isBound rfl rfl rfl hdX3_isBound rfl rfl (by decide) (ew_oT (hE1 s2 s3 s4 s5 s6) _) rfl rfl rfl rfl dX4_asks_41 (fun r7 u8 h => ?_)
      refine ez_if_ne (pc := 44) (tgt := 53) Z dX4_asks_44 rfl (fun c9 => ?_) (fun c9 => ?_)
      · replace h := h.1 c9
        refine ez_aload_n (pc := 53) Z dX4_asks_53 1 rfl rfl ?_
        refine fX4_mind (pc := 54) (M := s6) Z (hE6 s1 s2 s3 s4 s5) inX4_asks (List.mem_of_getElem? (i := 2) rfl) dX4_asks_54 ?_
        refine ez_iload_n (pc := 57) Z dX4_asks_57 2 rfl rfl ?_
        refine ez_iload_n (pc := 58) Z dX4_asks_58 3 rfl rfl ?_
        refine ez_iload_n (pc := 59) Z dX4_asks_59 4 rfl rfl ?_
        refine ez_callVi (pc := 60) (r := 47) (As := [.int p1, .int p2, .int p3]) (st := []) Z (kX1_priceOf Z.2.2.2.2.2.2.2.2.2.1 (E := fun q1 q2 q3 q4 => E q1 q2 s3 s4 q3 q4) (fun q2 q3 q4 => hE1 q2 s3 s4 q3 q4) (fun q1 q3 q4 => hE2 q1 s3 s4 q3 q4) (fun q1 q2 q4 => hE5 q1 q2 s3 s4 q4) (fun q1 q2 q3 => hE6 q1 q2 s3 s4 q3) h) gX4_asks_X1_priceOf rfl rfl rfl hdX1_priceOf rfl rfl (by decide) (ew_oX1 (hE6 s1 s2 s3 s4 s5) _) rfl rfl rfl rfl dX4_asks_60 (fun r10 u11 h => ?_)
        exact ez_iret (pc := 63) Z hR s6 h rfl dX4_asks_63
      · replace h := h.2 c9
        refine ez_aload_n (pc := 47) Z dX4_asks_47 1 rfl rfl ?_
        refine ez_iconst (pc := 48) Z dX4_asks_48 ec_3 ?_
        refine ez_callVi (pc := 49) (r := 46) (As := [.int (3 : Int32)]) (st := []) Z (kX4_refuse Z.2.2.2.2.2.2.2.2.2.1 (E := E) hE1 hE2 hE3 hE4 hE5 hE6 h) gX4_asks_X4_refuse rfl rfl rfl hdX4_refuse rfl rfl (by decide) (ew_oX0 (hE6 s1 s2 s3 s4 s5) _) rfl rfl rfl rfl dX4_asks_49 (fun r12 m13 h => ?_)
        exact ez_iret (pc := 52) Z hR m13 h rfl dX4_asks_52
    · replace h := h.2 c6
      refine ez_aload_n (pc := 28) Z dX4_asks_28 1 rfl rfl ?_
      refine ez_iload (pc := 29) Z dX4_asks_29 0 rfl ?_
      refine ez_callVi (pc := 31) (r := 46) (As := [.int r4]) (st := []) Z (kX4_refuse Z.2.2.2.2.2.2.2.2.2.1 (E := E) hE1 hE2 hE3 hE4 hE5 hE6 h) gX4_asks_X4_refuse rfl rfl rfl hdX4_refuse rfl rfl (by decide) (ew_oX0 (hE6 s1 s2 s3 s4 s5) _) rfl rfl rfl rfl dX4_asks_31 (fun r14 m15 h => ?_)
      exact ez_iret (pc := 34) Z hR m15 h rfl dX4_asks_34
  · replace h := h.2 c3
    refine ez_aload_n (pc := 9) Z dX4_asks_9 0 rfl rfl ?_
    refine ez_iconst (pc := 10) Z dX4_asks_10 ec_1 ?_
    refine ez_callVi (pc := 11) (r := 46) (As := [.int (1 : Int32)]) (st := []) Z (kX4_refuse Z.2.2.2.2.2.2.2.2.2.1 (E := E) hE1 hE2 hE3 hE4 hE5 hE6 h) gX4_asks_X4_refuse rfl rfl rfl hdX4_refuse rfl rfl (by decide) (ew_oX0 (hE6 s1 s2 s3 s4 s5) _) rfl rfl rfl rfl dX4_asks_11 (fun r16 m17 h => ?_)
    exact ez_iret (pc := 14) Z hR m17 h rfl dX4_asks_14
theorem inX4_power : ∀ w ∈ wsX40, w ∈ wsX4_power := fun _ h => List.mem_cons_of_mem _ (List.mem_append_left _ (List.mem_append_left _ (List.mem_append_left _ (List.mem_append_right _ (h)))))
theorem hdX4_power : yX4_power.cls = RX4 ∧ yX4_power.cls ≠ "java/lang/invoke/MethodHandle" ∧ yX4_power.cls ≠ "java/lang/invoke/VarHandle" ∧ (parseMethodDescriptor yX4_power.desc).map (fun d => d.parameters.length) = some 3 := by decide +kernel
def wX4_power (Q : Int32 → ew_M → ew_M → Prop) (p1 : Int32) (p2 : Int32) (p3 : Int32) (s1 : ew_M) (s2 : ew_M) (s3 : ew_M) (s4 : ew_M) (s5 : ew_M) (s6 : ew_M) : Prop := wX4_isNoPair (fun (r1 : Int32) => (r1 = 0 → wX4_isNoPart (fun (r4 : Int32) => (r4 = 0 → wX3_isUnread (fun (r7 : Int32) => (¬ r7 = 0 → wX1_weighPower (fun (m11 : ew_M) => wX2_partOf (fun (r12 : Int64) => Q r12.toInt32 m11 s6) p3 m11) p2 s1 s2 s5 s6) ∧ (r7 = 0 → wX4_refuse (fun (r14 : Int32) (m15 : ew_M) => Q r14 s5 m15) (3 : Int32) s1 s2 s3 s4 s5 s6)) p1 p2 s1) ∧ (¬ r4 = 0 → wX4_refuse (fun (r16 : Int32) (m17 : ew_M) => Q r16 s5 m17) (2 : Int32) s1 s2 s3 s4 s5 s6)) p3) ∧ (¬ r1 = 0 → wX4_refuse (fun (r18 : Int32) (m19 : ew_M) => Q r18 s5 m19) (1 : Int32) s1 s2 s3 s4 s5 s6)) p1 p2 s1 s2 s3 s4 s5 s6
set_option maxHeartbeats 4000000 in
set_option maxRecDepth 100000 in
theorem kX4_power {X : ew_X} {l : Launch} (hX : ew_Ap X) {E : ew_M → ew_M → ew_M → ew_M → ew_M → ew_M → ew_S} (hE1 : ∀ (x2 x3 x4 x5 x6 : ew_M), ew_GE X 0 (ew_GT X.2.1 0) (fun M => E M x2 x3 x4 x5 x6)) (hE2 : ∀ (x1 x3 x4 x5 x6 : ew_M), ew_GE X 14 (ew_GT X.2.1 14) (fun M => E x1 M x3 x4 x5 x6)) (hE3 : ∀ (x1 x2 x4 x5 x6 : ew_M), ew_GE X 28 (ew_GT X.2.1 28) (fun M => E x1 x2 M x4 x5 x6)) (hE4 : ∀ (x1 x2 x3 x5 x6 : ew_M), ew_GE X 42 (ew_GL X.2.1) (fun M => E x1 x2 x3 M x5 x6)) (hE5 : ∀ (x1 x2 x3 x4 x6 : ew_M), ew_GE X 45 (ew_GR X.2.1) (fun M => E x1 x2 x3 x4 M x6)) (hE6 : ∀ (x1 x2 x3 x4 x5 : ew_M), ew_GE X 46 (ew_GX X.2.1) (fun M => E x1 x2 x3 x4 x5 M)) {Q : Int32 → ew_M → ew_M → Prop} {p1 : Int32} {p2 : Int32} {p3 : Int32} {s1 : ew_M} {s2 : ew_M} {s3 : ew_M} {s4 : ew_M} {s5 : ew_M} {s6 : ew_M} (h : wX4_power Q p1 p2 p3 s1 s2 s3 s4 s5 s6) : Met l yX4_power wsX4_power ({ frames := 4, cells := 0, slots := 0, locals := 89 } : Room) (va_Pc [.ref (X.2.1 46), .int p1, .int p2, .int p3] (ew_wd X (E s1 s2 s3 s4 s5 s6))) (va_Qi (fun (r : Int32) (u : ew_M × ew_M) => Q r u.1 u.2) (fun (u : ew_M × ew_M) => ew_wd X ((fun (u : ew_M × ew_M) => E s1 s2 s3 s4 u.1 u.2) u)) X.2.2.1) 0 0 X.2.2.1 := by
  refine ew_met (As := [.ref (X.2.1 46), .int p1, .int p2, .int p3]) (L0 := [(0, .ref (X.2.1 46)), (1, .int p1), (2, .int p2), (3, .int p3)]) X l hX (by decide) rfl rfl rfl rfl (fun C hl Z hR => ?_)
  subst hl
  refine ez_aload_n (pc := 0) Z dX4_power_0 0 rfl rfl ?_
  refine ez_iload_n (pc := 1) Z dX4_power_1 1 rfl rfl ?_
  refine ez_iload_n (pc := 2) Z dX4_power_2 2 rfl rfl ?_
  refine ez_callVi (pc := 3) (r := 46) (As := [.int p1, .int p2]) (st := []) Z (kX4_isNoPair Z.2.2.2.2.2.2.2.2.2.1 (E := E) hE1 hE2 hE3 hE4 hE5 hE6 h) gX4_power_X4_isNoPair rfl rfl rfl hdX4_isNoPair rfl rfl (by decide) (ew_oX0 (hE6 s1 s2 s3 s4 s5) _) rfl rfl rfl rfl dX4_power_3 (fun r1 u2 h => ?_)
  refine ez_if_eq (pc := 6) (tgt := 15) Z dX4_power_6 rfl (fun c3 => ?_) (fun c3 => ?_)
  · replace h := h.1 c3
    refine ez_iload_n (pc := 15) Z dX4_power_15 3 rfl rfl ?_
    refine ez_callSi (pc := 16) (As := [.int p3]) (st := []) Z (kX4_isNoPart Z.2.2.2.2.2.2.2.2.2.1 (S := E s1 s2 s3 s4 s5 s6) h) gX4_power_X4_isNoPart rfl rfl rfl hdX4_isNoPart rfl rfl rfl rfl rfl dX4_power_16 (fun r4 u5 h => ?_)
    refine ez_if_eq (pc := 19) (tgt := 28) Z dX4_power_19 rfl (fun c6 => ?_) (fun c6 => ?_)
    · replace h := h.1 c6
      refine ez_aload_n (pc := 28) Z dX4_power_28 0 rfl rfl ?_
      refine fX4_now (pc := 29) (M := s6) Z (hE6 s1 s2 s3 s4 s5) inX4_power (List.mem_of_getElem? (i := 1) rfl) dX4_power_29 ?_
      refine ez_iload_n (pc := 32) Z dX4_power_32 1 rfl rfl ?_
      refine ez_iload_n (pc := 33) Z dX4_power_33 2 rfl rfl ?_
      refine ez_callVi (pc := 34) (r := 0) (As := [.int p1, .int p2]) (st := []) Z (kX3_isUnread Z.2.2.2.2.2.2.2.2.2.1 (E := fun q1 => E q1 s2 s3 s4 s5 s6) (hE1 s2 s3 s4 s5 s6) h) gX4_power_X3_isUnread rfl rfl rfl hdX3_isUnread rfl rfl (by decide) (ew_oT (hE1 s2 s3 s4 s5 s6) _) rfl rfl rfl rfl dX4_power_34 (fun r7 u8 h => ?_)
      refine ez_if_ne (pc := 37) (tgt := 46) Z dX4_power_37 rfl (fun c9 => ?_) (fun c9 => ?_)
      · replace h := h.1 c9
        refine ez_aload_n (pc := 46) Z dX4_power_46 0 rfl rfl ?_
        refine fX4_mind (pc := 47) (M := s6) Z (hE6 s1 s2 s3 s4 s5) inX4_power (List.mem_of_getElem? (i := 2) rfl) dX4_power_47 ?_
        refine ez_iload_n (pc := 50) Z dX4_power_50 2 rfl rfl ?_
        refine ez_aload_n (pc := 51) Z dX4_power_51 0 rfl rfl ?_
        refine fX4_ratio (pc := 52) (M := s6) Z (hE6 s1 s2 s3 s4 s5) inX4_power (List.mem_of_getElem? (i := 3) rfl) dX4_power_52 ?_
        refine ez_callVv (pc := 55) (r := 47) (As := [.int p2, .ref (X.2.1 45)]) (st := []) Z (kX1_weighPower Z.2.2.2.2.2.2.2.2.2.1 (E := fun q1 q2 q3 q4 => E q1 q2 s3 s4 q3 q4) (fun q2 q3 q4 => hE1 q2 s3 s4 q3 q4) (fun q1 q3 q4 => hE2 q1 s3 s4 q3 q4) (fun q1 q2 q4 => hE5 q1 q2 s3 s4 q4) (fun q1 q2 q3 => hE6 q1 q2 s3 s4 q3) h) gX4_power_X1_weighPower rfl rfl rfl hdX1_weighPower rfl rfl (by decide) (ew_oX1 (hE6 s1 s2 s3 s4 s5) _) rfl rfl rfl rfl dX4_power_55 (fun m11 h => ?_)
        refine ez_aload_n (pc := 58) Z dX4_power_58 0 rfl rfl ?_
        refine fX4_ratio (pc := 59) (M := s6) Z (hE6 s1 s2 s3 s4 m11) inX4_power (List.mem_of_getElem? (i := 3) rfl) dX4_power_59 ?_
        refine ez_iload_n (pc := 62) Z dX4_power_62 3 rfl rfl ?_
        refine ez_callVl (pc := 63) (r := 45) (As := [.int p3]) (st := []) Z (kX2_partOf Z.2.2.2.2.2.2.2.2.2.1 (E := fun q1 => E s1 s2 s3 s4 q1 s6) (hE5 s1 s2 s3 s4 s6) h) gX4_power_X2_partOf rfl rfl rfl hdX2_partOf rfl rfl (by decide) (ew_oR (hE5 s1 s2 s3 s4 s6) _) rfl rfl rfl rfl dX4_power_63 (fun r12 u13 h => ?_)
        refine ez_l2i (pc := 66) Z dX4_power_66 ?_
        exact ez_iret (pc := 67) Z hR (m11, s6) h rfl dX4_power_67
      · replace h := h.2 c9
        refine ez_aload_n (pc := 40) Z dX4_power_40 0 rfl rfl ?_
        refine ez_iconst (pc := 41) Z dX4_power_41 ec_3 ?_
        refine ez_callVi (pc := 42) (r := 46) (As := [.int (3 : Int32)]) (st := []) Z (kX4_refuse Z.2.2.2.2.2.2.2.2.2.1 (E := E) hE1 hE2 hE3 hE4 hE5 hE6 h) gX4_power_X4_refuse rfl rfl rfl hdX4_refuse rfl rfl (by decide) (ew_oX0 (hE6 s1 s2 s3 s4 s5) _) rfl rfl rfl rfl dX4_power_42 (fun r14 m15 h => ?_)
        exact ez_iret (pc := 45) Z hR (s5, m15) h rfl dX4_power_45
    · replace h := h.2 c6
      refine ez_aload_n (pc := 22) Z dX4_power_22 0 rfl rfl ?_
      refine ez_iconst (pc := 23) Z dX4_power_23 ec_2 ?_
      refine ez_callVi (pc := 24) (r := 46) (As := [.int (2 : Int32)]) (st := []) Z (kX4_refuse Z.2.2.2.2.2.2.2.2.2.1 (E := E) hE1 hE2 hE3 hE4 hE5 hE6 h) gX4_power_X4_refuse rfl rfl rfl hdX4_refuse rfl rfl (by decide) (ew_oX0 (hE6 s1 s2 s3 s4 s5) _) rfl rfl rfl rfl dX4_power_24 (fun r16 m17 h => ?_)
      exact ez_iret (pc := 27) Z hR (s5, m17) h rfl dX4_power_27
  · replace h := h.2 c3
    refine ez_aload_n (pc := 9) Z dX4_power_9 0 rfl rfl ?_
    refine ez_iconst (pc := 10) Z dX4_power_10 ec_1 ?_
    refine ez_callVi (pc := 11) (r := 46) (As := [.int (1 : Int32)]) (st := []) Z (kX4_refuse Z.2.2.2.2.2.2.2.2.2.1 (E := E) hE1 hE2 hE3 hE4 hE5 hE6 h) gX4_power_X4_refuse rfl rfl rfl hdX4_refuse rfl rfl (by decide) (ew_oX0 (hE6 s1 s2 s3 s4 s5) _) rfl rfl rfl rfl dX4_power_11 (fun r18 m19 h => ?_)
    exact ez_iret (pc := 14) Z hR (s5, m19) h rfl dX4_power_14
theorem inX4_chance : ∀ w ∈ wsX40, w ∈ wsX4_chance := fun _ h => List.mem_cons_of_mem _ (List.mem_append_left _ (List.mem_append_left _ (List.mem_append_left _ (List.mem_append_right _ (h)))))
theorem hdX4_chance : yX4_chance.cls = RX4 ∧ yX4_chance.cls ≠ "java/lang/invoke/MethodHandle" ∧ yX4_chance.cls ≠ "java/lang/invoke/VarHandle" ∧ (parseMethodDescriptor yX4_chance.desc).map (fun d => d.parameters.length) = some 4 := by decide +kernel
def wX4_chance_39  (Q : Int64 → ew_M → ew_M → Prop) (s1 : ew_M) (s2 : ew_M) (s3 : ew_M) (s4 : ew_M) (s5 : ew_M) (s6 : ew_M) : Prop := wX4_refuseFarthest (fun (r1 : Int64) (m2 : ew_M) => Q r1 s5 m2) (4 : Int32) s1 s2 s3 s4 s5 s6
def wX4_chance_75  (Q : Int64 → ew_M → ew_M → Prop) (s1 : ew_M) (s2 : ew_M) (s3 : ew_M) (s4 : ew_M) (s5 : ew_M) (s6 : ew_M) : Prop := wX4_refuseFarthest (fun (r1 : Int64) (m2 : ew_M) => Q r1 s5 m2) (6 : Int32) s1 s2 s3 s4 s5 s6
def wX4_chance (Q : Int64 → ew_M → ew_M → Prop) (p1 : Int32) (p2 : Int32) (p3 : Int32) (p4 : Int32) (s1 : ew_M) (s2 : ew_M) (s3 : ew_M) (s4 : ew_M) (s5 : ew_M) (s6 : ew_M) : Prop := wX3_hasPaper (fun (r1 : Int32) => (¬ r1 = 0 → wX4_isNoPart (fun (r4 : Int32) => (r4 = 0 → (p2 < 0 → wX4_chance_39 Q s1 s2 s3 s4 s5 s6) ∧ (¬ p2 < 0 → (0 ≤ p3 → ((100 : Int32) < p2 → wX4_chance_75 Q s1 s2 s3 s4 s5 s6) ∧ (¬ (100 : Int32) < p2 → ((8 : Int32) < p3 → wX4_chance_75 Q s1 s2 s3 s4 s5 s6) ∧ (¬ (8 : Int32) < p3 → wX3_unreadOf (fun (r11 : Int32) => wJ6_bitCount_0f7a4 (fun (r13 : Int32) => ((p3 * r13) ≤ (8 : Int32) → wX1_weighChance (fun (m17 : ew_M) => wX2_partOf (fun (r18 : Int64) => Q r18 m17 s6) p4 m17) p1 p2 p3 s1 s2 s5 s6) ∧ (¬ (p3 * r13) ≤ (8 : Int32) → wX4_chance_75 Q s1 s2 s3 s4 s5 s6)) r11) p1 s1))) ∧ (¬ 0 ≤ p3 → wX4_chance_39 Q s1 s2 s3 s4 s5 s6))) ∧ (¬ r4 = 0 → wX4_refuseFarthest (fun (r20 : Int64) (m21 : ew_M) => Q r20 s5 m21) (2 : Int32) s1 s2 s3 s4 s5 s6)) p4) ∧ (r1 = 0 → wX4_refuseFarthest (fun (r22 : Int64) (m23 : ew_M) => Q r22 s5 m23) (1 : Int32) s1 s2 s3 s4 s5 s6)) p1 s1
set_option maxHeartbeats 4000000 in
set_option maxRecDepth 100000 in
theorem tX4_chance_39 {C : ew_C} {X : ew_X} {E : ew_M → ew_M → ew_M → ew_M → ew_M → ew_M → ew_S} (hE1 : ∀ (x2 x3 x4 x5 x6 : ew_M), ew_GE X 0 (ew_GT X.2.1 0) (fun M => E M x2 x3 x4 x5 x6)) (hE2 : ∀ (x1 x3 x4 x5 x6 : ew_M), ew_GE X 14 (ew_GT X.2.1 14) (fun M => E x1 M x3 x4 x5 x6)) (hE3 : ∀ (x1 x2 x4 x5 x6 : ew_M), ew_GE X 28 (ew_GT X.2.1 28) (fun M => E x1 x2 M x4 x5 x6)) (hE4 : ∀ (x1 x2 x3 x5 x6 : ew_M), ew_GE X 42 (ew_GL X.2.1) (fun M => E x1 x2 x3 M x5 x6)) (hE5 : ∀ (x1 x2 x3 x4 x6 : ew_M), ew_GE X 45 (ew_GR X.2.1) (fun M => E x1 x2 x3 x4 M x6)) (hE6 : ∀ (x1 x2 x3 x4 x5 : ew_M), ew_GE X 46 (ew_GX X.2.1) (fun M => E x1 x2 x3 x4 x5 M)) (Z : ew_Z C X cX4_chance 5 RX4 wsX4_chance ({ frames := 3, cells := 0, slots := 0, locals := 91 } : Room) (some .long)) {Q : Int64 → ew_M → ew_M → Prop}  {s1 : ew_M} {s2 : ew_M} {s3 : ew_M} {s4 : ew_M} {s5 : ew_M} {s6 : ew_M} (hR : C.2.2.2.2.2.2.2.2.2.2 = MQ C.2.2.2.2.2.2.2.1 (va_Ql (fun (r : Int64) (u : ew_M × ew_M) => Q r u.1 u.2) (fun (u : ew_M × ew_M) => ew_wd X ((fun (u : ew_M × ew_M) => E s1 s2 s3 s4 u.1 u.2) u)) X.2.2.1) C.2.2.2.2.2.2.1 C.2.2.2.2.1 0 0 X.2.2.1) (h : wX4_chance_39 Q s1 s2 s3 s4 s5 s6) : ew_W C X 5 (E s1 s2 s3 s4 s5 s6) 39 [(0, .ref (X.2.1 46))] [] := by
  refine ez_aload_n (pc := 39) Z dX4_chance_39 0 rfl rfl ?_
  refine ez_iconst (pc := 40) Z dX4_chance_40 ec_4 ?_
  refine ez_callVl (pc := 41) (r := 46) (As := [.int (4 : Int32)]) (st := []) Z (kX4_refuseFarthest Z.2.2.2.2.2.2.2.2.2.1 (E := E) hE1 hE2 hE3 hE4 hE5 hE6 h) gX4_chance_X4_refuseFarthest rfl rfl rfl hdX4_refuseFarthest rfl rfl (by decide) (ew_oX0 (hE6 s1 s2 s3 s4 s5) _) rfl rfl rfl rfl dX4_chance_41 (fun r1 m2 h => ?_)
  exact ez_lret (pc := 44) Z hR (s5, m2) h rfl dX4_chance_44
set_option maxHeartbeats 4000000 in
set_option maxRecDepth 100000 in
theorem tX4_chance_75 {C : ew_C} {X : ew_X} {E : ew_M → ew_M → ew_M → ew_M → ew_M → ew_M → ew_S} (hE1 : ∀ (x2 x3 x4 x5 x6 : ew_M), ew_GE X 0 (ew_GT X.2.1 0) (fun M => E M x2 x3 x4 x5 x6)) (hE2 : ∀ (x1 x3 x4 x5 x6 : ew_M), ew_GE X 14 (ew_GT X.2.1 14) (fun M => E x1 M x3 x4 x5 x6)) (hE3 : ∀ (x1 x2 x4 x5 x6 : ew_M), ew_GE X 28 (ew_GT X.2.1 28) (fun M => E x1 x2 M x4 x5 x6)) (hE4 : ∀ (x1 x2 x3 x5 x6 : ew_M), ew_GE X 42 (ew_GL X.2.1) (fun M => E x1 x2 x3 M x5 x6)) (hE5 : ∀ (x1 x2 x3 x4 x6 : ew_M), ew_GE X 45 (ew_GR X.2.1) (fun M => E x1 x2 x3 x4 M x6)) (hE6 : ∀ (x1 x2 x3 x4 x5 : ew_M), ew_GE X 46 (ew_GX X.2.1) (fun M => E x1 x2 x3 x4 x5 M)) (Z : ew_Z C X cX4_chance 5 RX4 wsX4_chance ({ frames := 3, cells := 0, slots := 0, locals := 91 } : Room) (some .long)) {Q : Int64 → ew_M → ew_M → Prop}  {s1 : ew_M} {s2 : ew_M} {s3 : ew_M} {s4 : ew_M} {s5 : ew_M} {s6 : ew_M} (hR : C.2.2.2.2.2.2.2.2.2.2 = MQ C.2.2.2.2.2.2.2.1 (va_Ql (fun (r : Int64) (u : ew_M × ew_M) => Q r u.1 u.2) (fun (u : ew_M × ew_M) => ew_wd X ((fun (u : ew_M × ew_M) => E s1 s2 s3 s4 u.1 u.2) u)) X.2.2.1) C.2.2.2.2.2.2.1 C.2.2.2.2.1 0 0 X.2.2.1) (h : wX4_chance_75 Q s1 s2 s3 s4 s5 s6) : ew_W C X 5 (E s1 s2 s3 s4 s5 s6) 75 [(0, .ref (X.2.1 46))] [] := by
  refine ez_aload_n (pc := 75) Z dX4_chance_75 0 rfl rfl ?_
  refine ez_bipush (pc := 76) Z dX4_chance_76 eb_6 ?_
  refine ez_callVl (pc := 78) (r := 46) (As := [.int (6 : Int32)]) (st := []) Z (kX4_refuseFarthest Z.2.2.2.2.2.2.2.2.2.1 (E := E) hE1 hE2 hE3 hE4 hE5 hE6 h) gX4_chance_X4_refuseFarthest rfl rfl rfl hdX4_refuseFarthest rfl rfl (by decide) (ew_oX0 (hE6 s1 s2 s3 s4 s5) _) rfl rfl rfl rfl dX4_chance_78 (fun r1 m2 h => ?_)
  exact ez_lret (pc := 81) Z hR (s5, m2) h rfl dX4_chance_81
set_option maxHeartbeats 4000000 in
set_option maxRecDepth 100000 in
theorem kX4_chance {X : ew_X} {l : Launch} (hX : ew_Ap X) {E : ew_M → ew_M → ew_M → ew_M → ew_M → ew_M → ew_S} (hE1 : ∀ (x2 x3 x4 x5 x6 : ew_M), ew_GE X 0 (ew_GT X.2.1 0) (fun M => E M x2 x3 x4 x5 x6)) (hE2 : ∀ (x1 x3 x4 x5 x6 : ew_M), ew_GE X 14 (ew_GT X.2.1 14) (fun M => E x1 M x3 x4 x5 x6)) (hE3 : ∀ (x1 x2 x4 x5 x6 : ew_M), ew_GE X 28 (ew_GT X.2.1 28) (fun M => E x1 x2 M x4 x5 x6)) (hE4 : ∀ (x1 x2 x3 x5 x6 : ew_M), ew_GE X 42 (ew_GL X.2.1) (fun M => E x1 x2 x3 M x5 x6)) (hE5 : ∀ (x1 x2 x3 x4 x6 : ew_M), ew_GE X 45 (ew_GR X.2.1) (fun M => E x1 x2 x3 x4 M x6)) (hE6 : ∀ (x1 x2 x3 x4 x5 : ew_M), ew_GE X 46 (ew_GX X.2.1) (fun M => E x1 x2 x3 x4 x5 M)) {Q : Int64 → ew_M → ew_M → Prop} {p1 : Int32} {p2 : Int32} {p3 : Int32} {p4 : Int32} {s1 : ew_M} {s2 : ew_M} {s3 : ew_M} {s4 : ew_M} {s5 : ew_M} {s6 : ew_M} (h : wX4_chance Q p1 p2 p3 p4 s1 s2 s3 s4 s5 s6) : Met l yX4_chance wsX4_chance ({ frames := 3, cells := 0, slots := 0, locals := 91 } : Room) (va_Pc [.ref (X.2.1 46), .int p1, .int p2, .int p3, .int p4] (ew_wd X (E s1 s2 s3 s4 s5 s6))) (va_Ql (fun (r : Int64) (u : ew_M × ew_M) => Q r u.1 u.2) (fun (u : ew_M × ew_M) => ew_wd X ((fun (u : ew_M × ew_M) => E s1 s2 s3 s4 u.1 u.2) u)) X.2.2.1) 0 0 X.2.2.1 := by
  refine ew_met (As := [.ref (X.2.1 46), .int p1, .int p2, .int p3, .int p4]) (L0 := [(0, .ref (X.2.1 46)), (1, .int p1), (2, .int p2), (3, .int p3), (4, .int p4)]) X l hX (by decide) rfl rfl rfl rfl (fun C hl Z hR => ?_)
  subst hl
  refine ez_aload_n (pc := 0) Z dX4_chance_0 0 rfl rfl ?_
  refine fX4_now (pc := 1) (M := s6) Z (hE6 s1 s2 s3 s4 s5) inX4_chance (List.mem_of_getElem? (i := 1) rfl) dX4_chance_1 ?_
  refine ez_iload_n (pc := 4) Z dX4_chance_4 1 rfl rfl ?_
  refine ez_callVi (pc := 5) (r := 0) (As := [.int p1]) (st := []) Z (kX3_hasPaper Z.2.2.2.2.2.2.2.2.2.1 (E := fun q1 => E q1 s2 s3 s4 s5 s6) (hE1 s2 s3 s4 s5 s6) h) gX4_chance_X3_hasPaper rfl rfl rfl hdX3_hasPaper rfl rfl (by decide) (ew_oT (hE1 s2 s3 s4 s5 s6) _) rfl rfl rfl rfl dX4_chance_5 (fun r1 u2 h => ?_)
  refine ez_if_ne (pc := 8) (tgt := 17) Z dX4_chance_8 rfl (fun c3 => ?_) (fun c3 => ?_)
  · replace h := h.1 c3
    refine ez_iload (pc := 17) Z dX4_chance_17 4 rfl ?_
    refine ez_callSi (pc := 19) (As := [.int p4]) (st := []) Z (kX4_isNoPart Z.2.2.2.2.2.2.2.2.2.1 (S := E s1 s2 s3 s4 s5 s6) h) gX4_chance_X4_isNoPart rfl rfl rfl hdX4_isNoPart rfl rfl rfl rfl rfl dX4_chance_19 (fun r4 u5 h => ?_)
    refine ez_if_eq (pc := 22) (tgt := 31) Z dX4_chance_22 rfl (fun c6 => ?_) (fun c6 => ?_)
    · replace h := h.1 c6
      refine ez_iload_n (pc := 31) Z dX4_chance_31 2 rfl rfl ?_
      refine ez_if_lt (pc := 32) (tgt := 39) Z dX4_chance_32 rfl (fun c7 => ?_) (fun c7 => ?_)
      · replace h := h.1 c7
        refine ez_sub [(0, .ref (X.2.1 46))] [0] rfl ?_
        exact tX4_chance_39 hE1 hE2 hE3 hE4 hE5 hE6 Z hR  h
      · replace h := h.2 c7
        refine ez_iload_n (pc := 35) Z dX4_chance_35 3 rfl rfl ?_
        refine ez_if_ge (pc := 36) (tgt := 45) Z dX4_chance_36 rfl (fun c8 => ?_) (fun c8 => ?_)
        · replace h := h.1 c8
          refine ez_iload_n (pc := 45) Z dX4_chance_45 2 rfl rfl ?_
          refine ez_bipush (pc := 46) Z dX4_chance_46 eb_100 ?_
          refine ez_icmp_gt (pc := 48) (tgt := 75) Z dX4_chance_48 rfl (fun c9 => ?_) (fun c9 => ?_)
          · replace h := h.1 c9
            refine ez_sub [(0, .ref (X.2.1 46))] [0] rfl ?_
            exact tX4_chance_75 hE1 hE2 hE3 hE4 hE5 hE6 Z hR  h
          · replace h := h.2 c9
            refine ez_iload_n (pc := 51) Z dX4_chance_51 3 rfl rfl ?_
            refine ez_bipush (pc := 52) Z dX4_chance_52 eb_8 ?_
            refine ez_icmp_gt (pc := 54) (tgt := 75) Z dX4_chance_54 rfl (fun c10 => ?_) (fun c10 => ?_)
            · replace h := h.1 c10
              refine ez_sub [(0, .ref (X.2.1 46))] [0] rfl ?_
              exact tX4_chance_75 hE1 hE2 hE3 hE4 hE5 hE6 Z hR  h
            · replace h := h.2 c10
              refine ez_iload_n (pc := 57) Z dX4_chance_57 3 rfl rfl ?_
              refine ez_aload_n (pc := 58) Z dX4_chance_58 0 rfl rfl ?_
              refine fX4_now (pc := 59) (M := s6) Z (hE6 s1 s2 s3 s4 s5) inX4_chance (List.mem_of_getElem? (i := 1) rfl) dX4_chance_59 ?_
              refine ez_iload_n (pc := 62) Z dX4_chance_62 1 rfl rfl ?_
              refine ez_callVi (pc := 63) (r := 0) (As := [.int p1]) (st := [.int p3]) Z (kX3_unreadOf Z.2.2.2.2.2.2.2.2.2.1 (E := fun q1 => E q1 s2 s3 s4 s5 s6) (hE1 s2 s3 s4 s5 s6) h) gX4_chance_X3_unreadOf rfl rfl rfl hdX3_unreadOf rfl rfl (by decide) (ew_oT (hE1 s2 s3 s4 s5 s6) _) rfl rfl rfl rfl dX4_chance_63 (fun r11 u12 h => ?_)
              refine ez_callSi (pc := 66) (As := [.int r11]) (st := [.int p3]) Z (kJ6_bitCount_0f7a4 Z.2.2.2.2.2.2.2.2.2.1 (S := E s1 s2 s3 s4 s5 s6) h) gX4_chance_J6_bitCount_0f7a4 rfl rfl rfl hdJ6_bitCount_0f7a4 rfl rfl rfl rfl rfl dX4_chance_66 (fun r13 u14 h => ?_)
              refine ez_imul (pc := 69) Z dX4_chance_69 ?_
              refine ez_bipush (pc := 70) Z dX4_chance_70 eb_8 ?_
              refine ez_icmp_le (pc := 72) (tgt := 82) Z dX4_chance_72 rfl (fun c15 => ?_) (fun c15 => ?_)
              · replace h := h.1 c15
                refine ez_aload_n (pc := 82) Z dX4_chance_82 0 rfl rfl ?_
                refine fX4_mind (pc := 83) (M := s6) Z (hE6 s1 s2 s3 s4 s5) inX4_chance (List.mem_of_getElem? (i := 2) rfl) dX4_chance_83 ?_
                refine ez_iload_n (pc := 86) Z dX4_chance_86 1 rfl rfl ?_
                refine ez_iload_n (pc := 87) Z dX4_chance_87 2 rfl rfl ?_
                refine ez_iload_n (pc := 88) Z dX4_chance_88 3 rfl rfl ?_
                refine ez_aload_n (pc := 89) Z dX4_chance_89 0 rfl rfl ?_
                refine fX4_ratio (pc := 90) (M := s6) Z (hE6 s1 s2 s3 s4 s5) inX4_chance (List.mem_of_getElem? (i := 3) rfl) dX4_chance_90 ?_
                refine ez_callVv (pc := 93) (r := 47) (As := [.int p1, .int p2, .int p3, .ref (X.2.1 45)]) (st := []) Z (kX1_weighChance Z.2.2.2.2.2.2.2.2.2.1 (E := fun q1 q2 q3 q4 => E q1 q2 s3 s4 q3 q4) (fun q2 q3 q4 => hE1 q2 s3 s4 q3 q4) (fun q1 q3 q4 => hE2 q1 s3 s4 q3 q4) (fun q1 q2 q4 => hE5 q1 q2 s3 s4 q4) (fun q1 q2 q3 => hE6 q1 q2 s3 s4 q3) h) gX4_chance_X1_weighChance rfl rfl rfl hdX1_weighChance rfl rfl (by decide) (ew_oX1 (hE6 s1 s2 s3 s4 s5) _) rfl rfl rfl rfl dX4_chance_93 (fun m17 h => ?_)
                refine ez_aload_n (pc := 96) Z dX4_chance_96 0 rfl rfl ?_
                refine fX4_ratio (pc := 97) (M := s6) Z (hE6 s1 s2 s3 s4 m17) inX4_chance (List.mem_of_getElem? (i := 3) rfl) dX4_chance_97 ?_
                refine ez_iload (pc := 100) Z dX4_chance_100 4 rfl ?_
                refine ez_callVl (pc := 102) (r := 45) (As := [.int p4]) (st := []) Z (kX2_partOf Z.2.2.2.2.2.2.2.2.2.1 (E := fun q1 => E s1 s2 s3 s4 q1 s6) (hE5 s1 s2 s3 s4 s6) h) gX4_chance_X2_partOf rfl rfl rfl hdX2_partOf rfl rfl (by decide) (ew_oR (hE5 s1 s2 s3 s4 s6) _) rfl rfl rfl rfl dX4_chance_102 (fun r18 u19 h => ?_)
                exact ez_lret (pc := 105) Z hR (m17, s6) h rfl dX4_chance_105
              · replace h := h.2 c15
                refine ez_sub [(0, .ref (X.2.1 46))] [0] rfl ?_
                exact tX4_chance_75 hE1 hE2 hE3 hE4 hE5 hE6 Z hR  h
        · replace h := h.2 c8
          refine ez_sub [(0, .ref (X.2.1 46))] [0] rfl ?_
          exact tX4_chance_39 hE1 hE2 hE3 hE4 hE5 hE6 Z hR  h
    · replace h := h.2 c6
      refine ez_aload_n (pc := 25) Z dX4_chance_25 0 rfl rfl ?_
      refine ez_iconst (pc := 26) Z dX4_chance_26 ec_2 ?_
      refine ez_callVl (pc := 27) (r := 46) (As := [.int (2 : Int32)]) (st := []) Z (kX4_refuseFarthest Z.2.2.2.2.2.2.2.2.2.1 (E := E) hE1 hE2 hE3 hE4 hE5 hE6 h) gX4_chance_X4_refuseFarthest rfl rfl rfl hdX4_refuseFarthest rfl rfl (by decide) (ew_oX0 (hE6 s1 s2 s3 s4 s5) _) rfl rfl rfl rfl dX4_chance_27 (fun r20 m21 h => ?_)
      exact ez_lret (pc := 30) Z hR (s5, m21) h rfl dX4_chance_30
  · replace h := h.2 c3
    refine ez_aload_n (pc := 11) Z dX4_chance_11 0 rfl rfl ?_
    refine ez_iconst (pc := 12) Z dX4_chance_12 ec_1 ?_
    refine ez_callVl (pc := 13) (r := 46) (As := [.int (1 : Int32)]) (st := []) Z (kX4_refuseFarthest Z.2.2.2.2.2.2.2.2.2.1 (E := E) hE1 hE2 hE3 hE4 hE5 hE6 h) gX4_chance_X4_refuseFarthest rfl rfl rfl hdX4_refuseFarthest rfl rfl (by decide) (ew_oX0 (hE6 s1 s2 s3 s4 s5) _) rfl rfl rfl rfl dX4_chance_13 (fun r22 m23 h => ?_)
    exact ez_lret (pc := 16) Z hR (s5, m23) h rfl dX4_chance_16
theorem inX4_laws : ∀ w ∈ wsX40, w ∈ wsX4_laws := fun _ h => List.mem_cons_of_mem _ (List.mem_append_left _ (List.mem_append_left _ (List.mem_append_right _ (h))))
theorem hdX4_laws : yX4_laws.cls = RX4 ∧ yX4_laws.cls ≠ "java/lang/invoke/MethodHandle" ∧ yX4_laws.cls ≠ "java/lang/invoke/VarHandle" ∧ (parseMethodDescriptor yX4_laws.desc).map (fun d => d.parameters.length) = some 3 := by decide +kernel
def wX4_laws (Q : Int32 → ew_M → ew_M → Prop) (p1 : Int32) (p2 : Int32) (p3 : Int32) (s1 : ew_M) (s2 : ew_M) (s3 : ew_M) (s4 : ew_M) (s5 : ew_M) (s6 : ew_M) : Prop := wX3_hasPaper (fun (r1 : Int32) => (¬ r1 = 0 → wX4_isNoLaw (fun (r4 : Int32) => (r4 = 0 → wX4_whyNotSoMany (fun (r7 : Int32) => (r7 = 0 → wX1_lastsUnder (fun (r10 : Int32) (m11 : ew_M) => Q r10 m11 s6) p1 p2 p3 s1 s2 s5 s6) ∧ (¬ r7 = 0 → wX4_refuse (fun (r12 : Int32) (m13 : ew_M) => Q r12 s2 m13) r7 s1 s2 s3 s4 s5 s6)) p3 (60 : Int32)) ∧ (¬ r4 = 0 → wX4_refuse (fun (r14 : Int32) (m15 : ew_M) => Q r14 s2 m15) (2 : Int32) s1 s2 s3 s4 s5 s6)) p2) ∧ (r1 = 0 → wX4_refuse (fun (r16 : Int32) (m17 : ew_M) => Q r16 s2 m17) (1 : Int32) s1 s2 s3 s4 s5 s6)) p1 s1
set_option maxHeartbeats 4000000 in
set_option maxRecDepth 100000 in
theorem kX4_laws {X : ew_X} {l : Launch} (hX : ew_Ap X) {E : ew_M → ew_M → ew_M → ew_M → ew_M → ew_M → ew_S} (hE1 : ∀ (x2 x3 x4 x5 x6 : ew_M), ew_GE X 0 (ew_GT X.2.1 0) (fun M => E M x2 x3 x4 x5 x6)) (hE2 : ∀ (x1 x3 x4 x5 x6 : ew_M), ew_GE X 14 (ew_GT X.2.1 14) (fun M => E x1 M x3 x4 x5 x6)) (hE3 : ∀ (x1 x2 x4 x5 x6 : ew_M), ew_GE X 28 (ew_GT X.2.1 28) (fun M => E x1 x2 M x4 x5 x6)) (hE4 : ∀ (x1 x2 x3 x5 x6 : ew_M), ew_GE X 42 (ew_GL X.2.1) (fun M => E x1 x2 x3 M x5 x6)) (hE5 : ∀ (x1 x2 x3 x4 x6 : ew_M), ew_GE X 45 (ew_GR X.2.1) (fun M => E x1 x2 x3 x4 M x6)) (hE6 : ∀ (x1 x2 x3 x4 x5 : ew_M), ew_GE X 46 (ew_GX X.2.1) (fun M => E x1 x2 x3 x4 x5 M)) {Q : Int32 → ew_M → ew_M → Prop} {p1 : Int32} {p2 : Int32} {p3 : Int32} {s1 : ew_M} {s2 : ew_M} {s3 : ew_M} {s4 : ew_M} {s5 : ew_M} {s6 : ew_M} (h : wX4_laws Q p1 p2 p3 s1 s2 s3 s4 s5 s6) : Met l yX4_laws wsX4_laws ({ frames := 6, cells := 0, slots := 0, locals := 141 } : Room) (va_Pc [.ref (X.2.1 46), .int p1, .int p2, .int p3] (ew_wd X (E s1 s2 s3 s4 s5 s6))) (va_Qi (fun (r : Int32) (u : ew_M × ew_M) => Q r u.1 u.2) (fun (u : ew_M × ew_M) => ew_wd X ((fun (u : ew_M × ew_M) => E s1 u.1 s3 s4 s5 u.2) u)) X.2.2.1) 0 0 X.2.2.1 := by
  refine ew_met (As := [.ref (X.2.1 46), .int p1, .int p2, .int p3]) (L0 := [(0, .ref (X.2.1 46)), (1, .int p1), (2, .int p2), (3, .int p3)]) X l hX (by decide) rfl rfl rfl rfl (fun C hl Z hR => ?_)
  subst hl
  refine ez_aload_n (pc := 0) Z dX4_laws_0 0 rfl rfl ?_
  refine fX4_now (pc := 1) (M := s6) Z (hE6 s1 s2 s3 s4 s5) inX4_laws (List.mem_of_getElem? (i := 1) rfl) dX4_laws_1 ?_
  refine ez_iload_n (pc := 4) Z dX4_laws_4 1 rfl rfl ?_
  refine ez_callVi (pc := 5) (r := 0) (As := [.int p1]) (st := []) Z (kX3_hasPaper Z.2.2.2.2.2.2.2.2.2.1 (E := fun q1 => E q1 s2 s3 s4 s5 s6) (hE1 s2 s3 s4 s5 s6) h) gX4_laws_X3_hasPaper rfl rfl rfl hdX3_hasPaper rfl rfl (by decide) (ew_oT (hE1 s2 s3 s4 s5 s6) _) rfl rfl rfl rfl dX4_laws_5 (fun r1 u2 h => ?_)
  refine ez_if_ne (pc := 8) (tgt := 17) Z dX4_laws_8 rfl (fun c3 => ?_) (fun c3 => ?_)
  · replace h := h.1 c3
    refine ez_iload_n (pc := 17) Z dX4_laws_17 2 rfl rfl ?_
    refine ez_callSi (pc := 18) (As := [.int p2]) (st := []) Z (kX4_isNoLaw Z.2.2.2.2.2.2.2.2.2.1 (S := E s1 s2 s3 s4 s5 s6) h) gX4_laws_X4_isNoLaw rfl rfl rfl hdX4_isNoLaw rfl rfl rfl rfl rfl dX4_laws_18 (fun r4 u5 h => ?_)
    refine ez_if_eq (pc := 21) (tgt := 30) Z dX4_laws_21 rfl (fun c6 => ?_) (fun c6 => ?_)
    · replace h := h.1 c6
      refine ez_iload_n (pc := 30) Z dX4_laws_30 3 rfl rfl ?_
      refine ez_bipush (pc := 31) Z dX4_laws_31 eb_60 ?_
      refine ez_callSi (pc := 33) (As := [.int p3, .int (60 : Int32)]) (st := []) Z (kX4_whyNotSoMany Z.2.2.2.2.2.2.2.2.2.1 (S := E s1 s2 s3 s4 s5 s6) h) gX4_laws_X4_whyNotSoMany rfl rfl rfl hdX4_whyNotSoMany rfl rfl rfl rfl rfl dX4_laws_33 (fun r7 u8 h => ?_)
      refine ez_istore (pc := 36) (L' := [(4, .int r7), (0, .ref (X.2.1 46)), (1, .int p1), (2, .int p2), (3, .int p3)]) Z dX4_laws_36 (by decide) rfl ?_
      refine ez_iload (pc := 38) Z dX4_laws_38 0 rfl ?_
      refine ez_if_eq (pc := 40) (tgt := 50) Z dX4_laws_40 rfl (fun c9 => ?_) (fun c9 => ?_)
      · replace h := h.1 c9
        refine ez_aload_n (pc := 50) Z dX4_laws_50 1 rfl rfl ?_
        refine fX4_mind (pc := 51) (M := s6) Z (hE6 s1 s2 s3 s4 s5) inX4_laws (List.mem_of_getElem? (i := 2) rfl) dX4_laws_51 ?_
        refine ez_iload_n (pc := 54) Z dX4_laws_54 2 rfl rfl ?_
        refine ez_iload_n (pc := 55) Z dX4_laws_55 3 rfl rfl ?_
        refine ez_iload_n (pc := 56) Z dX4_laws_56 4 rfl rfl ?_
        refine ez_callVi (pc := 57) (r := 47) (As := [.int p1, .int p2, .int p3]) (st := []) Z (kX1_lastsUnder Z.2.2.2.2.2.2.2.2.2.1 (E := fun q1 q2 q3 q4 => E q1 q2 s3 s4 q3 q4) (fun q2 q3 q4 => hE1 q2 s3 s4 q3 q4) (fun q1 q3 q4 => hE2 q1 s3 s4 q3 q4) (fun q1 q2 q4 => hE5 q1 q2 s3 s4 q4) (fun q1 q2 q3 => hE6 q1 q2 s3 s4 q3) h) gX4_laws_X1_lastsUnder rfl rfl rfl hdX1_lastsUnder rfl rfl (by decide) (ew_oX1 (hE6 s1 s2 s3 s4 s5) _) rfl rfl rfl rfl dX4_laws_57 (fun r10 m11 h => ?_)
        exact ez_iret (pc := 60) Z hR (m11, s6) h rfl dX4_laws_60
      · replace h := h.2 c9
        refine ez_aload_n (pc := 43) Z dX4_laws_43 1 rfl rfl ?_
        refine ez_iload (pc := 44) Z dX4_laws_44 0 rfl ?_
        refine ez_callVi (pc := 46) (r := 46) (As := [.int r7]) (st := []) Z (kX4_refuse Z.2.2.2.2.2.2.2.2.2.1 (E := E) hE1 hE2 hE3 hE4 hE5 hE6 h) gX4_laws_X4_refuse rfl rfl rfl hdX4_refuse rfl rfl (by decide) (ew_oX0 (hE6 s1 s2 s3 s4 s5) _) rfl rfl rfl rfl dX4_laws_46 (fun r12 m13 h => ?_)
        exact ez_iret (pc := 49) Z hR (s2, m13) h rfl dX4_laws_49
    · replace h := h.2 c6
      refine ez_aload_n (pc := 24) Z dX4_laws_24 0 rfl rfl ?_
      refine ez_iconst (pc := 25) Z dX4_laws_25 ec_2 ?_
      refine ez_callVi (pc := 26) (r := 46) (As := [.int (2 : Int32)]) (st := []) Z (kX4_refuse Z.2.2.2.2.2.2.2.2.2.1 (E := E) hE1 hE2 hE3 hE4 hE5 hE6 h) gX4_laws_X4_refuse rfl rfl rfl hdX4_refuse rfl rfl (by decide) (ew_oX0 (hE6 s1 s2 s3 s4 s5) _) rfl rfl rfl rfl dX4_laws_26 (fun r14 m15 h => ?_)
      exact ez_iret (pc := 29) Z hR (s2, m15) h rfl dX4_laws_29
  · replace h := h.2 c3
    refine ez_aload_n (pc := 11) Z dX4_laws_11 0 rfl rfl ?_
    refine ez_iconst (pc := 12) Z dX4_laws_12 ec_1 ?_
    refine ez_callVi (pc := 13) (r := 46) (As := [.int (1 : Int32)]) (st := []) Z (kX4_refuse Z.2.2.2.2.2.2.2.2.2.1 (E := E) hE1 hE2 hE3 hE4 hE5 hE6 h) gX4_laws_X4_refuse rfl rfl rfl hdX4_refuse rfl rfl (by decide) (ew_oX0 (hE6 s1 s2 s3 s4 s5) _) rfl rfl rfl rfl dX4_laws_13 (fun r16 m17 h => ?_)
    exact ez_iret (pc := 16) Z hR (s2, m17) h rfl dX4_laws_16
theorem inX4_lasting : ∀ w ∈ wsX40, w ∈ wsX4_lasting := fun _ h => List.mem_cons_of_mem _ (List.mem_append_left _ (List.mem_append_left _ (List.mem_append_right _ (h))))
theorem hdX4_lasting : yX4_lasting.cls = RX4 ∧ yX4_lasting.cls ≠ "java/lang/invoke/MethodHandle" ∧ yX4_lasting.cls ≠ "java/lang/invoke/VarHandle" ∧ (parseMethodDescriptor yX4_lasting.desc).map (fun d => d.parameters.length) = some 1 := by decide +kernel
def wX4_lasting (Q : Int32 → ew_M → ew_M → Prop) (p1 : Int32) (s1 : ew_M) (s2 : ew_M) (s3 : ew_M) (s4 : ew_M) (s5 : ew_M) (s6 : ew_M) : Prop := wX4_whyNotSoMany (fun (r1 : Int32) => (r1 = 0 → wX1_longestOf (fun (r4 : Int32) (m5 : ew_M) => Q r4 m5 s6) p1 s1 s2 s5 s6) ∧ (¬ r1 = 0 → wX4_refuse (fun (r6 : Int32) (m7 : ew_M) => Q r6 s2 m7) r1 s1 s2 s3 s4 s5 s6)) p1 (60 : Int32)
set_option maxHeartbeats 4000000 in
set_option maxRecDepth 100000 in
theorem kX4_lasting {X : ew_X} {l : Launch} (hX : ew_Ap X) {E : ew_M → ew_M → ew_M → ew_M → ew_M → ew_M → ew_S} (hE1 : ∀ (x2 x3 x4 x5 x6 : ew_M), ew_GE X 0 (ew_GT X.2.1 0) (fun M => E M x2 x3 x4 x5 x6)) (hE2 : ∀ (x1 x3 x4 x5 x6 : ew_M), ew_GE X 14 (ew_GT X.2.1 14) (fun M => E x1 M x3 x4 x5 x6)) (hE3 : ∀ (x1 x2 x4 x5 x6 : ew_M), ew_GE X 28 (ew_GT X.2.1 28) (fun M => E x1 x2 M x4 x5 x6)) (hE4 : ∀ (x1 x2 x3 x5 x6 : ew_M), ew_GE X 42 (ew_GL X.2.1) (fun M => E x1 x2 x3 M x5 x6)) (hE5 : ∀ (x1 x2 x3 x4 x6 : ew_M), ew_GE X 45 (ew_GR X.2.1) (fun M => E x1 x2 x3 x4 M x6)) (hE6 : ∀ (x1 x2 x3 x4 x5 : ew_M), ew_GE X 46 (ew_GX X.2.1) (fun M => E x1 x2 x3 x4 x5 M)) {Q : Int32 → ew_M → ew_M → Prop} {p1 : Int32} {s1 : ew_M} {s2 : ew_M} {s3 : ew_M} {s4 : ew_M} {s5 : ew_M} {s6 : ew_M} (h : wX4_lasting Q p1 s1 s2 s3 s4 s5 s6) : Met l yX4_lasting wsX4_lasting ({ frames := 7, cells := 0, slots := 0, locals := 166 } : Room) (va_Pc [.ref (X.2.1 46), .int p1] (ew_wd X (E s1 s2 s3 s4 s5 s6))) (va_Qi (fun (r : Int32) (u : ew_M × ew_M) => Q r u.1 u.2) (fun (u : ew_M × ew_M) => ew_wd X ((fun (u : ew_M × ew_M) => E s1 u.1 s3 s4 s5 u.2) u)) X.2.2.1) 0 0 X.2.2.1 := by
  refine ew_met (As := [.ref (X.2.1 46), .int p1]) (L0 := [(0, .ref (X.2.1 46)), (1, .int p1)]) X l hX (by decide) rfl rfl rfl rfl (fun C hl Z hR => ?_)
  subst hl
  refine ez_iload_n (pc := 0) Z dX4_lasting_0 1 rfl rfl ?_
  refine ez_bipush (pc := 1) Z dX4_lasting_1 eb_60 ?_
  refine ez_callSi (pc := 3) (As := [.int p1, .int (60 : Int32)]) (st := []) Z (kX4_whyNotSoMany Z.2.2.2.2.2.2.2.2.2.1 (S := E s1 s2 s3 s4 s5 s6) h) gX4_lasting_X4_whyNotSoMany rfl rfl rfl hdX4_whyNotSoMany rfl rfl rfl rfl rfl dX4_lasting_3 (fun r1 u2 h => ?_)
  refine ez_istore_n (pc := 6) (L' := [(2, .int r1), (0, .ref (X.2.1 46)), (1, .int p1)]) Z dX4_lasting_6 rfl (by decide) rfl ?_
  refine ez_iload_n (pc := 7) Z dX4_lasting_7 0 rfl rfl ?_
  refine ez_if_eq (pc := 8) (tgt := 17) Z dX4_lasting_8 rfl (fun c3 => ?_) (fun c3 => ?_)
  · replace h := h.1 c3
    refine ez_aload_n (pc := 17) Z dX4_lasting_17 1 rfl rfl ?_
    refine fX4_mind (pc := 18) (M := s6) Z (hE6 s1 s2 s3 s4 s5) inX4_lasting (List.mem_of_getElem? (i := 1) rfl) dX4_lasting_18 ?_
    refine ez_iload_n (pc := 21) Z dX4_lasting_21 2 rfl rfl ?_
    refine ez_callVi (pc := 22) (r := 47) (As := [.int p1]) (st := []) Z (kX1_longestOf Z.2.2.2.2.2.2.2.2.2.1 (E := fun q1 q2 q3 q4 => E q1 q2 s3 s4 q3 q4) (fun q2 q3 q4 => hE1 q2 s3 s4 q3 q4) (fun q1 q3 q4 => hE2 q1 s3 s4 q3 q4) (fun q1 q2 q4 => hE5 q1 q2 s3 s4 q4) (fun q1 q2 q3 => hE6 q1 q2 s3 s4 q3) h) gX4_lasting_X1_longestOf rfl rfl rfl hdX1_longestOf rfl rfl (by decide) (ew_oX1 (hE6 s1 s2 s3 s4 s5) _) rfl rfl rfl rfl dX4_lasting_22 (fun r4 m5 h => ?_)
    exact ez_iret (pc := 25) Z hR (m5, s6) h rfl dX4_lasting_25
  · replace h := h.2 c3
    refine ez_aload_n (pc := 11) Z dX4_lasting_11 1 rfl rfl ?_
    refine ez_iload_n (pc := 12) Z dX4_lasting_12 0 rfl rfl ?_
    refine ez_callVi (pc := 13) (r := 46) (As := [.int r1]) (st := []) Z (kX4_refuse Z.2.2.2.2.2.2.2.2.2.1 (E := E) hE1 hE2 hE3 hE4 hE5 hE6 h) gX4_lasting_X4_refuse rfl rfl rfl hdX4_refuse rfl rfl (by decide) (ew_oX0 (hE6 s1 s2 s3 s4 s5) _) rfl rfl rfl rfl dX4_lasting_13 (fun r6 m7 h => ?_)
    exact ez_iret (pc := 16) Z hR (s2, m7) h rfl dX4_lasting_16
theorem inX4_lots : ∀ w ∈ wsX40, w ∈ wsX4_lots := fun _ h => List.mem_cons_of_mem _ (List.mem_append_left _ (List.mem_append_left _ (List.mem_append_right _ (h))))
theorem hdX4_lots : yX4_lots.cls = RX4 ∧ yX4_lots.cls ≠ "java/lang/invoke/MethodHandle" ∧ yX4_lots.cls ≠ "java/lang/invoke/VarHandle" ∧ (parseMethodDescriptor yX4_lots.desc).map (fun d => d.parameters.length) = some 2 := by decide +kernel
def wX4_lots_33  (Q : Int32 → ew_M → ew_M → Prop) (v1 : Int32) (v2 : Int32) (v3 : Int32) (s1 : ew_M) (s2 : ew_M) (s3 : ew_M) (s4 : ew_M) (s5 : ew_M) (s6 : ew_M) : Prop := (v3 = 0 → wX1_drawWeeks (fun (r2 : Int32) (m3 : ew_M) (m4 : ew_M) => Q r2 m3 m4) v1 v2 s1 s2 s5 s6) ∧ (¬ v3 = 0 → wX4_refuseFar (fun (r6 : Int32) (m7 : ew_M) => Q r6 s2 m7) v3 s1 s2 s3 s4 s5 s6)
def wX4_lots_31  (Q : Int32 → ew_M → ew_M → Prop) (v1 : Int32) (v2 : Int32) (s1 : ew_M) (s2 : ew_M) (s3 : ew_M) (s4 : ew_M) (s5 : ew_M) (s6 : ew_M) : Prop := wX4_lots_33 Q v1 v2 (3 : Int32) s1 s2 s3 s4 s5 s6
def wX4_lots (Q : Int32 → ew_M → ew_M → Prop) (p1 : Int32) (p2 : Int32) (s1 : ew_M) (s2 : ew_M) (s3 : ew_M) (s4 : ew_M) (s5 : ew_M) (s6 : ew_M) : Prop := wX4_whyNotSoMany (fun (r1 : Int32) => (¬ r1 = 0 → wX4_lots_33 Q p1 p2 r1 s1 s2 s3 s4 s5 s6) ∧ (r1 = 0 → wX3_personCount (fun (r4 : Int32) => (r4 = 0 → wX4_lots_31 Q p1 p2 s1 s2 s3 s4 s5 s6) ∧ (¬ r4 = 0 → wX3_paperCount (fun (r7 : Int32) => (¬ r7 = 0 → wX4_lots_33 Q p1 p2 r1 s1 s2 s3 s4 s5 s6) ∧ (r7 = 0 → wX4_lots_31 Q p1 p2 s1 s2 s3 s4 s5 s6)) s1)) s1)) p1 (60 : Int32)
set_option maxHeartbeats 4000000 in
set_option maxRecDepth 100000 in
theorem tX4_lots_33 {C : ew_C} {X : ew_X} {E : ew_M → ew_M → ew_M → ew_M → ew_M → ew_M → ew_S} (hE1 : ∀ (x2 x3 x4 x5 x6 : ew_M), ew_GE X 0 (ew_GT X.2.1 0) (fun M => E M x2 x3 x4 x5 x6)) (hE2 : ∀ (x1 x3 x4 x5 x6 : ew_M), ew_GE X 14 (ew_GT X.2.1 14) (fun M => E x1 M x3 x4 x5 x6)) (hE3 : ∀ (x1 x2 x4 x5 x6 : ew_M), ew_GE X 28 (ew_GT X.2.1 28) (fun M => E x1 x2 M x4 x5 x6)) (hE4 : ∀ (x1 x2 x3 x5 x6 : ew_M), ew_GE X 42 (ew_GL X.2.1) (fun M => E x1 x2 x3 M x5 x6)) (hE5 : ∀ (x1 x2 x3 x4 x6 : ew_M), ew_GE X 45 (ew_GR X.2.1) (fun M => E x1 x2 x3 x4 M x6)) (hE6 : ∀ (x1 x2 x3 x4 x5 : ew_M), ew_GE X 46 (ew_GX X.2.1) (fun M => E x1 x2 x3 x4 x5 M)) (Z : ew_Z C X cX4_lots 4 RX4 wsX4_lots ({ frames := 7, cells := 0, slots := 0, locals := 162 } : Room) (some .int)) {Q : Int32 → ew_M → ew_M → Prop}  {v1 : Int32} {v2 : Int32} {v3 : Int32} {s1 : ew_M} {s2 : ew_M} {s3 : ew_M} {s4 : ew_M} {s5 : ew_M} {s6 : ew_M} (hR : C.2.2.2.2.2.2.2.2.2.2 = MQ C.2.2.2.2.2.2.2.1 (va_Qi (fun (r : Int32) (u : ew_M × ew_M) => Q r u.1 u.2) (fun (u : ew_M × ew_M) => ew_wd X ((fun (u : ew_M × ew_M) => E s1 u.1 s3 s4 s5 u.2) u)) X.2.2.1) C.2.2.2.2.2.2.1 C.2.2.2.2.1 0 0 X.2.2.1) (h : wX4_lots_33 Q v1 v2 v3 s1 s2 s3 s4 s5 s6) : ew_W C X 4 (E s1 s2 s3 s4 s5 s6) 33 [(0, .ref (X.2.1 46)), (1, .int v1), (2, .int v2), (3, .int v3)] [] := by
  refine ez_iload_n (pc := 33) Z dX4_lots_33 3 rfl rfl ?_
  refine ez_if_eq (pc := 34) (tgt := 43) Z dX4_lots_34 rfl (fun c1 => ?_) (fun c1 => ?_)
  · replace h := h.1 c1
    refine ez_aload_n (pc := 43) Z dX4_lots_43 0 rfl rfl ?_
    refine fX4_mind (pc := 44) (M := s6) Z (hE6 s1 s2 s3 s4 s5) inX4_lots (List.mem_of_getElem? (i := 2) rfl) dX4_lots_44 ?_
    refine ez_iload_n (pc := 47) Z dX4_lots_47 1 rfl rfl ?_
    refine ez_iload_n (pc := 48) Z dX4_lots_48 2 rfl rfl ?_
    refine ez_callVi (pc := 49) (r := 47) (As := [.int v1, .int v2]) (st := []) Z (kX1_drawWeeks Z.2.2.2.2.2.2.2.2.2.1 (E := fun q1 q2 q3 q4 => E q1 q2 s3 s4 q3 q4) (fun q2 q3 q4 => hE1 q2 s3 s4 q3 q4) (fun q1 q3 q4 => hE2 q1 s3 s4 q3 q4) (fun q1 q2 q4 => hE5 q1 q2 s3 s4 q4) (fun q1 q2 q3 => hE6 q1 q2 s3 s4 q3) h) gX4_lots_X1_drawWeeks rfl rfl rfl hdX1_drawWeeks rfl rfl (by decide) (ew_oX1 (hE6 s1 s2 s3 s4 s5) _) rfl rfl rfl rfl dX4_lots_49 (fun r2 u5 h => ?_)
    obtain ⟨m3, m4⟩ := u5
    dsimp only at h ⊢
    exact ez_iret (pc := 52) Z hR (m3, m4) h rfl dX4_lots_52
  · replace h := h.2 c1
    refine ez_aload_n (pc := 37) Z dX4_lots_37 0 rfl rfl ?_
    refine ez_iload_n (pc := 38) Z dX4_lots_38 3 rfl rfl ?_
    refine ez_callVi (pc := 39) (r := 46) (As := [.int v3]) (st := []) Z (kX4_refuseFar Z.2.2.2.2.2.2.2.2.2.1 (E := E) hE1 hE2 hE3 hE4 hE5 hE6 h) gX4_lots_X4_refuseFar rfl rfl rfl hdX4_refuseFar rfl rfl (by decide) (ew_oX0 (hE6 s1 s2 s3 s4 s5) _) rfl rfl rfl rfl dX4_lots_39 (fun r6 m7 h => ?_)
    exact ez_iret (pc := 42) Z hR (s2, m7) h rfl dX4_lots_42
set_option maxHeartbeats 4000000 in
set_option maxRecDepth 100000 in
theorem tX4_lots_31 {C : ew_C} {X : ew_X} {E : ew_M → ew_M → ew_M → ew_M → ew_M → ew_M → ew_S} (hE1 : ∀ (x2 x3 x4 x5 x6 : ew_M), ew_GE X 0 (ew_GT X.2.1 0) (fun M => E M x2 x3 x4 x5 x6)) (hE2 : ∀ (x1 x3 x4 x5 x6 : ew_M), ew_GE X 14 (ew_GT X.2.1 14) (fun M => E x1 M x3 x4 x5 x6)) (hE3 : ∀ (x1 x2 x4 x5 x6 : ew_M), ew_GE X 28 (ew_GT X.2.1 28) (fun M => E x1 x2 M x4 x5 x6)) (hE4 : ∀ (x1 x2 x3 x5 x6 : ew_M), ew_GE X 42 (ew_GL X.2.1) (fun M => E x1 x2 x3 M x5 x6)) (hE5 : ∀ (x1 x2 x3 x4 x6 : ew_M), ew_GE X 45 (ew_GR X.2.1) (fun M => E x1 x2 x3 x4 M x6)) (hE6 : ∀ (x1 x2 x3 x4 x5 : ew_M), ew_GE X 46 (ew_GX X.2.1) (fun M => E x1 x2 x3 x4 x5 M)) (Z : ew_Z C X cX4_lots 4 RX4 wsX4_lots ({ frames := 7, cells := 0, slots := 0, locals := 162 } : Room) (some .int)) {Q : Int32 → ew_M → ew_M → Prop}  {v1 : Int32} {v2 : Int32} {s1 : ew_M} {s2 : ew_M} {s3 : ew_M} {s4 : ew_M} {s5 : ew_M} {s6 : ew_M} (hR : C.2.2.2.2.2.2.2.2.2.2 = MQ C.2.2.2.2.2.2.2.1 (va_Qi (fun (r : Int32) (u : ew_M × ew_M) => Q r u.1 u.2) (fun (u : ew_M × ew_M) => ew_wd X ((fun (u : ew_M × ew_M) => E s1 u.1 s3 s4 s5 u.2) u)) X.2.2.1) C.2.2.2.2.2.2.1 C.2.2.2.2.1 0 0 X.2.2.1) (h : wX4_lots_31 Q v1 v2 s1 s2 s3 s4 s5 s6) : ew_W C X 4 (E s1 s2 s3 s4 s5 s6) 31 [(0, .ref (X.2.1 46)), (1, .int v1), (2, .int v2)] [] := by
  refine ez_iconst (pc := 31) Z dX4_lots_31 ec_3 ?_
  refine ez_istore_n (pc := 32) (L' := [(3, .int (3 : Int32)), (0, .ref (X.2.1 46)), (1, .int v1), (2, .int v2)]) Z dX4_lots_32 rfl (by decide) rfl ?_
  refine ez_sub [(0, .ref (X.2.1 46)), (1, .int v1), (2, .int v2), (3, .int (3 : Int32))] [1, 2, 3, 0] rfl ?_
  exact tX4_lots_33 hE1 hE2 hE3 hE4 hE5 hE6 Z hR  h
set_option maxHeartbeats 4000000 in
set_option maxRecDepth 100000 in
theorem kX4_lots {X : ew_X} {l : Launch} (hX : ew_Ap X) {E : ew_M → ew_M → ew_M → ew_M → ew_M → ew_M → ew_S} (hE1 : ∀ (x2 x3 x4 x5 x6 : ew_M), ew_GE X 0 (ew_GT X.2.1 0) (fun M => E M x2 x3 x4 x5 x6)) (hE2 : ∀ (x1 x3 x4 x5 x6 : ew_M), ew_GE X 14 (ew_GT X.2.1 14) (fun M => E x1 M x3 x4 x5 x6)) (hE3 : ∀ (x1 x2 x4 x5 x6 : ew_M), ew_GE X 28 (ew_GT X.2.1 28) (fun M => E x1 x2 M x4 x5 x6)) (hE4 : ∀ (x1 x2 x3 x5 x6 : ew_M), ew_GE X 42 (ew_GL X.2.1) (fun M => E x1 x2 x3 M x5 x6)) (hE5 : ∀ (x1 x2 x3 x4 x6 : ew_M), ew_GE X 45 (ew_GR X.2.1) (fun M => E x1 x2 x3 x4 M x6)) (hE6 : ∀ (x1 x2 x3 x4 x5 : ew_M), ew_GE X 46 (ew_GX X.2.1) (fun M => E x1 x2 x3 x4 x5 M)) {Q : Int32 → ew_M → ew_M → Prop} {p1 : Int32} {p2 : Int32} {s1 : ew_M} {s2 : ew_M} {s3 : ew_M} {s4 : ew_M} {s5 : ew_M} {s6 : ew_M} (h : wX4_lots Q p1 p2 s1 s2 s3 s4 s5 s6) : Met l yX4_lots wsX4_lots ({ frames := 7, cells := 0, slots := 0, locals := 162 } : Room) (va_Pc [.ref (X.2.1 46), .int p1, .int p2] (ew_wd X (E s1 s2 s3 s4 s5 s6))) (va_Qi (fun (r : Int32) (u : ew_M × ew_M) => Q r u.1 u.2) (fun (u : ew_M × ew_M) => ew_wd X ((fun (u : ew_M × ew_M) => E s1 u.1 s3 s4 s5 u.2) u)) X.2.2.1) 0 0 X.2.2.1 := by
  refine ew_met (As := [.ref (X.2.1 46), .int p1, .int p2]) (L0 := [(0, .ref (X.2.1 46)), (1, .int p1), (2, .int p2)]) X l hX (by decide) rfl rfl rfl rfl (fun C hl Z hR => ?_)
  subst hl
  refine ez_iload_n (pc := 0) Z dX4_lots_0 1 rfl rfl ?_
  refine ez_bipush (pc := 1) Z dX4_lots_1 eb_60 ?_
  refine ez_callSi (pc := 3) (As := [.int p1, .int (60 : Int32)]) (st := []) Z (kX4_whyNotSoMany Z.2.2.2.2.2.2.2.2.2.1 (S := E s1 s2 s3 s4 s5 s6) h) gX4_lots_X4_whyNotSoMany rfl rfl rfl hdX4_whyNotSoMany rfl rfl rfl rfl rfl dX4_lots_3 (fun r1 u2 h => ?_)
  refine ez_istore_n (pc := 6) (L' := [(3, .int r1), (0, .ref (X.2.1 46)), (1, .int p1), (2, .int p2)]) Z dX4_lots_6 rfl (by decide) rfl ?_
  refine ez_iload_n (pc := 7) Z dX4_lots_7 0 rfl rfl ?_
  refine ez_if_ne (pc := 8) (tgt := 33) Z dX4_lots_8 rfl (fun c3 => ?_) (fun c3 => ?_)
  · replace h := h.1 c3
    refine ez_sub [(0, .ref (X.2.1 46)), (1, .int p1), (2, .int p2), (3, .int r1)] [1, 2, 3, 0] rfl ?_
    exact tX4_lots_33 hE1 hE2 hE3 hE4 hE5 hE6 Z hR  h
  · replace h := h.2 c3
    refine ez_aload_n (pc := 11) Z dX4_lots_11 1 rfl rfl ?_
    refine fX4_now (pc := 12) (M := s6) Z (hE6 s1 s2 s3 s4 s5) inX4_lots (List.mem_of_getElem? (i := 1) rfl) dX4_lots_12 ?_
    refine ez_callVi (pc := 15) (r := 0) (As := []) (st := []) Z (kX3_personCount Z.2.2.2.2.2.2.2.2.2.1 (E := fun q1 => E q1 s2 s3 s4 s5 s6) (hE1 s2 s3 s4 s5 s6) h) gX4_lots_X3_personCount rfl rfl rfl hdX3_personCount rfl rfl (by decide) (ew_oT (hE1 s2 s3 s4 s5 s6) _) rfl rfl rfl rfl dX4_lots_15 (fun r4 u5 h => ?_)
    refine ez_if_eq (pc := 18) (tgt := 31) Z dX4_lots_18 rfl (fun c6 => ?_) (fun c6 => ?_)
    · replace h := h.1 c6
      refine ez_sub [(0, .ref (X.2.1 46)), (1, .int p1), (2, .int p2)] [1, 2, 3] rfl ?_
      exact tX4_lots_31 hE1 hE2 hE3 hE4 hE5 hE6 Z hR  h
    · replace h := h.2 c6
      refine ez_aload_n (pc := 21) Z dX4_lots_21 1 rfl rfl ?_
      refine fX4_now (pc := 22) (M := s6) Z (hE6 s1 s2 s3 s4 s5) inX4_lots (List.mem_of_getElem? (i := 1) rfl) dX4_lots_22 ?_
      refine ez_callVi (pc := 25) (r := 0) (As := []) (st := []) Z (kX3_paperCount Z.2.2.2.2.2.2.2.2.2.1 (E := fun q1 => E q1 s2 s3 s4 s5 s6) (hE1 s2 s3 s4 s5 s6) h) gX4_lots_X3_paperCount rfl rfl rfl hdX3_paperCount rfl rfl (by decide) (ew_oT (hE1 s2 s3 s4 s5 s6) _) rfl rfl rfl rfl dX4_lots_25 (fun r7 u8 h => ?_)
      refine ez_if_ne (pc := 28) (tgt := 33) Z dX4_lots_28 rfl (fun c9 => ?_) (fun c9 => ?_)
      · replace h := h.1 c9
        refine ez_sub [(0, .ref (X.2.1 46)), (1, .int p1), (2, .int p2), (3, .int r1)] [1, 2, 3, 0] rfl ?_
        exact tX4_lots_33 hE1 hE2 hE3 hE4 hE5 hE6 Z hR  h
      · replace h := h.2 c9
        refine ez_sub [(0, .ref (X.2.1 46)), (1, .int p1), (2, .int p2)] [1, 2, 3] rfl ?_
        exact tX4_lots_31 hE1 hE2 hE3 hE4 hE5 hE6 Z hR  h
theorem inX4_row : ∀ w ∈ wsX40, w ∈ wsX4_row := fun _ h => List.mem_cons_of_mem _ (List.mem_append_right _ (h))
theorem hdX4_row : yX4_row.cls = RX4 ∧ yX4_row.cls ≠ "java/lang/invoke/MethodHandle" ∧ yX4_row.cls ≠ "java/lang/invoke/VarHandle" ∧ (parseMethodDescriptor yX4_row.desc).map (fun d => d.parameters.length) = some 1 := by decide +kernel
def wX4_row_25  (Q : Int32 → ew_M → Prop) (s1 : ew_M) (s2 : ew_M) (s3 : ew_M) (s4 : ew_M) (s5 : ew_M) (s6 : ew_M) : Prop := wX4_refuse (fun (r1 : Int32) (m2 : ew_M) => Q r1 m2) (6 : Int32) s1 s2 s3 s4 s5 s6
def wX4_row (Q : Int32 → ew_M → Prop) (p1 : Int32) (s1 : ew_M) (s2 : ew_M) (s3 : ew_M) (s4 : ew_M) (s5 : ew_M) (s6 : ew_M) : Prop := (0 ≤ p1 → ((9 : Int32) < p1 → wX4_row_25 Q s1 s2 s3 s4 s5 s6) ∧ (¬ (9 : Int32) < p1 → ((s6.1 2) < (12 : Int32) → vp_in (s6.1 2) 12 ∧ (Q ((s6.1 2) + (1 : Int32)) (ew_sI (ew_sA s6 0 (s6.1 2).toNatClampNeg p1) 2 ((s6.1 2) + (1 : Int32))))) ∧ (¬ (s6.1 2) < (12 : Int32) → wX4_row_25 Q s1 s2 s3 s4 s5 s6))) ∧ (¬ 0 ≤ p1 → wX4_refuse (fun (r4 : Int32) (m5 : ew_M) => Q r4 m5) (4 : Int32) s1 s2 s3 s4 s5 s6)
set_option maxHeartbeats 4000000 in
set_option maxRecDepth 100000 in
theorem tX4_row_25 {C : ew_C} {X : ew_X} {E : ew_M → ew_M → ew_M → ew_M → ew_M → ew_M → ew_S} (hE1 : ∀ (x2 x3 x4 x5 x6 : ew_M), ew_GE X 0 (ew_GT X.2.1 0) (fun M => E M x2 x3 x4 x5 x6)) (hE2 : ∀ (x1 x3 x4 x5 x6 : ew_M), ew_GE X 14 (ew_GT X.2.1 14) (fun M => E x1 M x3 x4 x5 x6)) (hE3 : ∀ (x1 x2 x4 x5 x6 : ew_M), ew_GE X 28 (ew_GT X.2.1 28) (fun M => E x1 x2 M x4 x5 x6)) (hE4 : ∀ (x1 x2 x3 x5 x6 : ew_M), ew_GE X 42 (ew_GL X.2.1) (fun M => E x1 x2 x3 M x5 x6)) (hE5 : ∀ (x1 x2 x3 x4 x6 : ew_M), ew_GE X 45 (ew_GR X.2.1) (fun M => E x1 x2 x3 x4 M x6)) (hE6 : ∀ (x1 x2 x3 x4 x5 : ew_M), ew_GE X 46 (ew_GX X.2.1) (fun M => E x1 x2 x3 x4 x5 M)) (Z : ew_Z C X cX4_row 2 RX4 wsX4_row ({ frames := 1, cells := 0, slots := 0, locals := 21 } : Room) (some .int)) {Q : Int32 → ew_M → Prop}  {s1 : ew_M} {s2 : ew_M} {s3 : ew_M} {s4 : ew_M} {s5 : ew_M} {s6 : ew_M} (hR : C.2.2.2.2.2.2.2.2.2.2 = MQ C.2.2.2.2.2.2.2.1 (va_Qi (fun (r : Int32) (u : ew_M) => Q r u) (fun (u : ew_M) => ew_wd X ((fun (u : ew_M) => E s1 s2 s3 s4 s5 u) u)) X.2.2.1) C.2.2.2.2.2.2.1 C.2.2.2.2.1 0 0 X.2.2.1) (h : wX4_row_25 Q s1 s2 s3 s4 s5 s6) : ew_W C X 2 (E s1 s2 s3 s4 s5 s6) 25 [(0, .ref (X.2.1 46))] [] := by
  refine ez_aload_n (pc := 25) Z dX4_row_25 0 rfl rfl ?_
  refine ez_bipush (pc := 26) Z dX4_row_26 eb_6 ?_
  refine ez_callVi (pc := 28) (r := 46) (As := [.int (6 : Int32)]) (st := []) Z (kX4_refuse Z.2.2.2.2.2.2.2.2.2.1 (E := E) hE1 hE2 hE3 hE4 hE5 hE6 h) gX4_row_X4_refuse rfl rfl rfl hdX4_refuse rfl rfl (by decide) (ew_oX0 (hE6 s1 s2 s3 s4 s5) _) rfl rfl rfl rfl dX4_row_28 (fun r1 m2 h => ?_)
  exact ez_iret (pc := 31) Z hR m2 h rfl dX4_row_31
set_option maxHeartbeats 4000000 in
set_option maxRecDepth 100000 in
theorem kX4_row {X : ew_X} {l : Launch} (hX : ew_Ap X) {E : ew_M → ew_M → ew_M → ew_M → ew_M → ew_M → ew_S} (hE1 : ∀ (x2 x3 x4 x5 x6 : ew_M), ew_GE X 0 (ew_GT X.2.1 0) (fun M => E M x2 x3 x4 x5 x6)) (hE2 : ∀ (x1 x3 x4 x5 x6 : ew_M), ew_GE X 14 (ew_GT X.2.1 14) (fun M => E x1 M x3 x4 x5 x6)) (hE3 : ∀ (x1 x2 x4 x5 x6 : ew_M), ew_GE X 28 (ew_GT X.2.1 28) (fun M => E x1 x2 M x4 x5 x6)) (hE4 : ∀ (x1 x2 x3 x5 x6 : ew_M), ew_GE X 42 (ew_GL X.2.1) (fun M => E x1 x2 x3 M x5 x6)) (hE5 : ∀ (x1 x2 x3 x4 x6 : ew_M), ew_GE X 45 (ew_GR X.2.1) (fun M => E x1 x2 x3 x4 M x6)) (hE6 : ∀ (x1 x2 x3 x4 x5 : ew_M), ew_GE X 46 (ew_GX X.2.1) (fun M => E x1 x2 x3 x4 x5 M)) {Q : Int32 → ew_M → Prop} {p1 : Int32} {s1 : ew_M} {s2 : ew_M} {s3 : ew_M} {s4 : ew_M} {s5 : ew_M} {s6 : ew_M} (h : wX4_row Q p1 s1 s2 s3 s4 s5 s6) : Met l yX4_row wsX4_row ({ frames := 1, cells := 0, slots := 0, locals := 21 } : Room) (va_Pc [.ref (X.2.1 46), .int p1] (ew_wd X (E s1 s2 s3 s4 s5 s6))) (va_Qi (fun (r : Int32) (u : ew_M) => Q r u) (fun (u : ew_M) => ew_wd X ((fun (u : ew_M) => E s1 s2 s3 s4 s5 u) u)) X.2.2.1) 0 0 X.2.2.1 := by
  refine ew_met (As := [.ref (X.2.1 46), .int p1]) (L0 := [(0, .ref (X.2.1 46)), (1, .int p1)]) X l hX (by decide) rfl rfl rfl rfl (fun C hl Z hR => ?_)
  subst hl
  refine ez_iload_n (pc := 0) Z dX4_row_0 1 rfl rfl ?_
  refine ez_if_ge (pc := 1) (tgt := 10) Z dX4_row_1 rfl (fun c1 => ?_) (fun c1 => ?_)
  · replace h := h.1 c1
    refine ez_iload_n (pc := 10) Z dX4_row_10 1 rfl rfl ?_
    refine ez_bipush (pc := 11) Z dX4_row_11 eb_9 ?_
    refine ez_icmp_gt (pc := 13) (tgt := 25) Z dX4_row_13 rfl (fun c2 => ?_) (fun c2 => ?_)
    · replace h := h.1 c2
      refine ez_sub [(0, .ref (X.2.1 46))] [0] rfl ?_
      exact tX4_row_25 hE1 hE2 hE3 hE4 hE5 hE6 Z hR  h
    · replace h := h.2 c2
      refine ez_aload_n (pc := 16) Z dX4_row_16 0 rfl rfl ?_
      refine fX4_rowSize (pc := 17) (v := s6.1 2) Z (hE6 s1 s2 s3 s4 s5) rfl inX4_row (List.mem_of_getElem? (i := 1) rfl) dX4_row_17 ?_
      refine ez_bipush (pc := 20) Z dX4_row_20 eb_12 ?_
      refine ez_icmp_lt (pc := 22) (tgt := 32) Z dX4_row_22 rfl (fun c3 => ?_) (fun c3 => ?_)
      · replace h := h.1 c3
        refine ez_aload_n (pc := 32) Z dX4_row_32 0 rfl rfl ?_
        refine fX4_readRow (pc := 33) (M := s6) Z (hE6 s1 s2 s3 s4 s5) inX4_row (List.mem_of_getElem? (i := 2) rfl) dX4_row_33 ?_
        refine ez_aload_n (pc := 36) Z dX4_row_36 0 rfl rfl ?_
        refine fX4_rowSize (pc := 37) (v := s6.1 2) Z (hE6 s1 s2 s3 s4 s5) rfl inX4_row (List.mem_of_getElem? (i := 1) rfl) dX4_row_37 ?_
        refine ez_iload_n (pc := 40) Z dX4_row_40 1 rfl rfl ?_
        refine ez_iast (pc := 41) (n := 12) (a := 0) (M := s6) (M' := ew_sA s6 0 (s6.1 2).toNatClampNeg p1) Z (hE6 s1 s2 s3 s4 s5) 2 rfl (by decide : 0 < 2) rfl rfl h.1 dX4_row_41 ?_
        replace h := h.2
        refine ez_aload_n (pc := 42) Z dX4_row_42 0 rfl rfl ?_
        refine ez_dup (pc := 43) Z dX4_row_43 rfl ?_
        refine fX4_rowSize (pc := 44) (v := s6.1 2) Z (hE6 s1 s2 s3 s4 s5) rfl inX4_row (List.mem_of_getElem? (i := 1) rfl) dX4_row_44 ?_
        refine ez_iconst (pc := 47) Z dX4_row_47 ec_1 ?_
        refine ez_iadd (pc := 48) Z dX4_row_48 ?_
        refine pX4_rowSize (pc := 49) (M := ew_sA s6 0 (s6.1 2).toNatClampNeg p1) (M' := ew_sI (ew_sA s6 0 (s6.1 2).toNatClampNeg p1) 2 ((s6.1 2) + (1 : Int32))) Z (hE6 s1 s2 s3 s4 s5) rfl inX4_row (List.mem_of_getElem? (i := 1) rfl) dX4_row_49 ?_
        refine ez_aload_n (pc := 52) Z dX4_row_52 0 rfl rfl ?_
        refine fX4_rowSize (pc := 53) (v := (s6.1 2) + (1 : Int32)) Z (hE6 s1 s2 s3 s4 s5) rfl inX4_row (List.mem_of_getElem? (i := 1) rfl) dX4_row_53 ?_
        exact ez_iret (pc := 56) Z hR (ew_sI (ew_sA s6 0 (s6.1 2).toNatClampNeg p1) 2 ((s6.1 2) + (1 : Int32))) h rfl dX4_row_56
      · replace h := h.2 c3
        refine ez_sub [(0, .ref (X.2.1 46))] [0] rfl ?_
        exact tX4_row_25 hE1 hE2 hE3 hE4 hE5 hE6 Z hR  h
  · replace h := h.2 c1
    refine ez_aload_n (pc := 4) Z dX4_row_4 0 rfl rfl ?_
    refine ez_iconst (pc := 5) Z dX4_row_5 ec_4 ?_
    refine ez_callVi (pc := 6) (r := 46) (As := [.int (4 : Int32)]) (st := []) Z (kX4_refuse Z.2.2.2.2.2.2.2.2.2.1 (E := E) hE1 hE2 hE3 hE4 hE5 hE6 h) gX4_row_X4_refuse rfl rfl rfl hdX4_refuse rfl rfl (by decide) (ew_oX0 (hE6 s1 s2 s3 s4 s5) _) rfl rfl rfl rfl dX4_row_6 (fun r4 m5 h => ?_)
    exact ez_iret (pc := 9) Z hR m5 h rfl dX4_row_9
theorem inX4_judge : ∀ w ∈ wsX40, w ∈ wsX4_judge := fun _ h => List.mem_cons_of_mem _ (List.mem_append_left _ (List.mem_append_left _ (List.mem_append_right _ (h))))
theorem hdX4_judge : yX4_judge.cls = RX4 ∧ yX4_judge.cls ≠ "java/lang/invoke/MethodHandle" ∧ yX4_judge.cls ≠ "java/lang/invoke/VarHandle" ∧ (parseMethodDescriptor yX4_judge.desc).map (fun d => d.parameters.length) = some 1 := by decide +kernel
def wX4_judge (Q : Int32 → ew_M → ew_M → Prop) (p1 : Int32) (s1 : ew_M) (s2 : ew_M) (s3 : ew_M) (s4 : ew_M) (s5 : ew_M) (s6 : ew_M) : Prop := wX3_hasPaper (fun (r1 : Int32) => (¬ r1 = 0 → wX1_firstThatCanNot (fun (r4 : Int32) (m5 : ew_M) => Q r4 m5 (ew_sI s6 2 (0 : Int32))) p1 (s6.1 2) s1 s2 s5 s6) ∧ (r1 = 0 → wX4_refuse (fun (r6 : Int32) (m7 : ew_M) => Q r6 s2 m7) (1 : Int32) s1 s2 s3 s4 s5 s6)) p1 s1
set_option maxHeartbeats 4000000 in
set_option maxRecDepth 100000 in
theorem kX4_judge {X : ew_X} {l : Launch} (hX : ew_Ap X) {E : ew_M → ew_M → ew_M → ew_M → ew_M → ew_M → ew_S} (hE1 : ∀ (x2 x3 x4 x5 x6 : ew_M), ew_GE X 0 (ew_GT X.2.1 0) (fun M => E M x2 x3 x4 x5 x6)) (hE2 : ∀ (x1 x3 x4 x5 x6 : ew_M), ew_GE X 14 (ew_GT X.2.1 14) (fun M => E x1 M x3 x4 x5 x6)) (hE3 : ∀ (x1 x2 x4 x5 x6 : ew_M), ew_GE X 28 (ew_GT X.2.1 28) (fun M => E x1 x2 M x4 x5 x6)) (hE4 : ∀ (x1 x2 x3 x5 x6 : ew_M), ew_GE X 42 (ew_GL X.2.1) (fun M => E x1 x2 x3 M x5 x6)) (hE5 : ∀ (x1 x2 x3 x4 x6 : ew_M), ew_GE X 45 (ew_GR X.2.1) (fun M => E x1 x2 x3 x4 M x6)) (hE6 : ∀ (x1 x2 x3 x4 x5 : ew_M), ew_GE X 46 (ew_GX X.2.1) (fun M => E x1 x2 x3 x4 x5 M)) {Q : Int32 → ew_M → ew_M → Prop} {p1 : Int32} {s1 : ew_M} {s2 : ew_M} {s3 : ew_M} {s4 : ew_M} {s5 : ew_M} {s6 : ew_M} (h : wX4_judge Q p1 s1 s2 s3 s4 s5 s6) : Met l yX4_judge wsX4_judge ({ frames := 6, cells := 0, slots := 0, locals := 140 } : Room) (va_Pc [.ref (X.2.1 46), .int p1] (ew_wd X (E s1 s2 s3 s4 s5 s6))) (va_Qi (fun (r : Int32) (u : ew_M × ew_M) => Q r u.1 u.2) (fun (u : ew_M × ew_M) => ew_wd X ((fun (u : ew_M × ew_M) => E s1 u.1 s3 s4 s5 u.2) u)) X.2.2.1) 0 0 X.2.2.1 := by
  refine ew_met (As := [.ref (X.2.1 46), .int p1]) (L0 := [(0, .ref (X.2.1 46)), (1, .int p1)]) X l hX (by decide) rfl rfl rfl rfl (fun C hl Z hR => ?_)
  subst hl
  refine ez_aload_n (pc := 0) Z dX4_judge_0 0 rfl rfl ?_
  refine fX4_now (pc := 1) (M := s6) Z (hE6 s1 s2 s3 s4 s5) inX4_judge (List.mem_of_getElem? (i := 1) rfl) dX4_judge_1 ?_
  refine ez_iload_n (pc := 4) Z dX4_judge_4 1 rfl rfl ?_
  refine ez_callVi (pc := 5) (r := 0) (As := [.int p1]) (st := []) Z (kX3_hasPaper Z.2.2.2.2.2.2.2.2.2.1 (E := fun q1 => E q1 s2 s3 s4 s5 s6) (hE1 s2 s3 s4 s5 s6) h) gX4_judge_X3_hasPaper rfl rfl rfl hdX3_hasPaper rfl rfl (by decide) (ew_oT (hE1 s2 s3 s4 s5 s6) _) rfl rfl rfl rfl dX4_judge_5 (fun r1 u2 h => ?_)
  refine ez_if_ne (pc := 8) (tgt := 17) Z dX4_judge_8 rfl (fun c3 => ?_) (fun c3 => ?_)
  · replace h := h.1 c3
    refine ez_aload_n (pc := 17) Z dX4_judge_17 0 rfl rfl ?_
    refine fX4_mind (pc := 18) (M := s6) Z (hE6 s1 s2 s3 s4 s5) inX4_judge (List.mem_of_getElem? (i := 2) rfl) dX4_judge_18 ?_
    refine ez_iload_n (pc := 21) Z dX4_judge_21 1 rfl rfl ?_
    refine ez_aload_n (pc := 22) Z dX4_judge_22 0 rfl rfl ?_
    refine fX4_readRow (pc := 23) (M := s6) Z (hE6 s1 s2 s3 s4 s5) inX4_judge (List.mem_of_getElem? (i := 3) rfl) dX4_judge_23 ?_
    refine ez_aload_n (pc := 26) Z dX4_judge_26 0 rfl rfl ?_
    refine fX4_rowSize (pc := 27) (v := s6.1 2) Z (hE6 s1 s2 s3 s4 s5) rfl inX4_judge (List.mem_of_getElem? (i := 4) rfl) dX4_judge_27 ?_
    refine ez_callVi (pc := 30) (r := 47) (As := [.int p1, .ref (X.2.1 48), .int (s6.1 2)]) (st := []) Z (kX1_firstThatCanNot Z.2.2.2.2.2.2.2.2.2.1 (E := fun q1 q2 q3 q4 => E q1 q2 s3 s4 q3 q4) (fun q2 q3 q4 => hE1 q2 s3 s4 q3 q4) (fun q1 q3 q4 => hE2 q1 s3 s4 q3 q4) (fun q1 q2 q4 => hE5 q1 q2 s3 s4 q4) (fun q1 q2 q3 => hE6 q1 q2 s3 s4 q3) h) gX4_judge_X1_firstThatCanNot rfl rfl rfl hdX1_firstThatCanNot rfl rfl (by decide) (ew_oX1 (hE6 s1 s2 s3 s4 s5) _) rfl rfl rfl rfl dX4_judge_30 (fun r4 m5 h => ?_)
    refine ez_istore_n (pc := 33) (L' := [(2, .int r4), (0, .ref (X.2.1 46)), (1, .int p1)]) Z dX4_judge_33 rfl (by decide) rfl ?_
    refine ez_aload_n (pc := 34) Z dX4_judge_34 1 rfl rfl ?_
    refine ez_iconst (pc := 35) Z dX4_judge_35 ec_0 ?_
    refine pX4_rowSize (pc := 36) (M := s6) (M' := ew_sI s6 2 (0 : Int32)) Z (hE6 s1 m5 s3 s4 s5) rfl inX4_judge (List.mem_of_getElem? (i := 4) rfl) dX4_judge_36 ?_
    refine ez_iload_n (pc := 39) Z dX4_judge_39 0 rfl rfl ?_
    exact ez_iret (pc := 40) Z hR (m5, ew_sI s6 2 (0 : Int32)) h rfl dX4_judge_40
  · replace h := h.2 c3
    refine ez_aload_n (pc := 11) Z dX4_judge_11 0 rfl rfl ?_
    refine ez_iconst (pc := 12) Z dX4_judge_12 ec_1 ?_
    refine ez_callVi (pc := 13) (r := 46) (As := [.int (1 : Int32)]) (st := []) Z (kX4_refuse Z.2.2.2.2.2.2.2.2.2.1 (E := E) hE1 hE2 hE3 hE4 hE5 hE6 h) gX4_judge_X4_refuse rfl rfl rfl hdX4_refuse rfl rfl (by decide) (ew_oX0 (hE6 s1 s2 s3 s4 s5) _) rfl rfl rfl rfl dX4_judge_13 (fun r6 m7 h => ?_)
    exact ez_iret (pc := 16) Z hR (s2, m7) h rfl dX4_judge_16
theorem inX4_image : ∀ w ∈ wsX40, w ∈ wsX4_image := fun _ h => List.mem_cons_of_mem _ (List.mem_append_left _ (List.mem_append_right _ (h)))
theorem hdX4_image : yX4_image.cls = RX4 ∧ yX4_image.cls ≠ "java/lang/invoke/MethodHandle" ∧ yX4_image.cls ≠ "java/lang/invoke/VarHandle" ∧ (parseMethodDescriptor yX4_image.desc).map (fun d => d.parameters.length) = some 0 := by decide +kernel
def wX4_image (Q : Int32 → ew_M → ew_M → Prop) (s1 : ew_M) (s2 : ew_M) (s3 : ew_M) (s4 : ew_M) (s5 : ew_M) (s6 : ew_M) : Prop := wX3_become (fun (m2 : ew_M) => wX3_weekNow (fun (r3 : Int32) => Q r3 m2 (ew_sI s6 0 (1 : Int32))) s1) s3 s1
set_option maxHeartbeats 4000000 in
set_option maxRecDepth 100000 in
theorem kX4_image {X : ew_X} {l : Launch} (hX : ew_Ap X) {E : ew_M → ew_M → ew_M → ew_M → ew_M → ew_M → ew_S} (hE1 : ∀ (x2 x3 x4 x5 x6 : ew_M), ew_GE X 0 (ew_GT X.2.1 0) (fun M => E M x2 x3 x4 x5 x6)) (hE2 : ∀ (x1 x3 x4 x5 x6 : ew_M), ew_GE X 14 (ew_GT X.2.1 14) (fun M => E x1 M x3 x4 x5 x6)) (hE3 : ∀ (x1 x2 x4 x5 x6 : ew_M), ew_GE X 28 (ew_GT X.2.1 28) (fun M => E x1 x2 M x4 x5 x6)) (hE4 : ∀ (x1 x2 x3 x5 x6 : ew_M), ew_GE X 42 (ew_GL X.2.1) (fun M => E x1 x2 x3 M x5 x6)) (hE5 : ∀ (x1 x2 x3 x4 x6 : ew_M), ew_GE X 45 (ew_GR X.2.1) (fun M => E x1 x2 x3 x4 M x6)) (hE6 : ∀ (x1 x2 x3 x4 x5 : ew_M), ew_GE X 46 (ew_GX X.2.1) (fun M => E x1 x2 x3 x4 x5 M)) {Q : Int32 → ew_M → ew_M → Prop} {s1 : ew_M} {s2 : ew_M} {s3 : ew_M} {s4 : ew_M} {s5 : ew_M} {s6 : ew_M} (h : wX4_image Q s1 s2 s3 s4 s5 s6) : Met l yX4_image wsX4_image ({ frames := 2, cells := 0, slots := 0, locals := 39 } : Room) (va_Pc [.ref (X.2.1 46)] (ew_wd X (E s1 s2 s3 s4 s5 s6))) (va_Qi (fun (r : Int32) (u : ew_M × ew_M) => Q r u.1 u.2) (fun (u : ew_M × ew_M) => ew_wd X ((fun (u : ew_M × ew_M) => E s1 s2 u.1 s4 s5 u.2) u)) X.2.2.1) 0 0 X.2.2.1 := by
  refine ew_met (As := [.ref (X.2.1 46)]) (L0 := [(0, .ref (X.2.1 46))]) X l hX (by decide) rfl rfl rfl rfl (fun C hl Z hR => ?_)
  subst hl
  refine ez_aload_n (pc := 0) Z dX4_image_0 0 rfl rfl ?_
  refine fX4_kept (pc := 1) (M := s6) Z (hE6 s1 s2 s3 s4 s5) inX4_image (List.mem_of_getElem? (i := 1) rfl) dX4_image_1 ?_
  refine ez_aload_n (pc := 4) Z dX4_image_4 0 rfl rfl ?_
  refine fX4_now (pc := 5) (M := s6) Z (hE6 s1 s2 s3 s4 s5) inX4_image (List.mem_of_getElem? (i := 2) rfl) dX4_image_5 ?_
  refine ez_callVv (pc := 8) (r := 28) (As := [.ref (X.2.1 0)]) (st := []) Z (kX3_become Z.2.2.2.2.2.2.2.2.2.1 (E := fun q1 q2 => E q2 s2 q1 s4 s5 s6) (fun q2 => hE3 q2 s2 s4 s5 s6) (fun q1 => hE1 s2 q1 s4 s5 s6) h) gX4_image_X3_become rfl rfl rfl hdX3_become rfl rfl (by decide) (ew_oT (hE3 s1 s2 s4 s5 s6) _) rfl rfl rfl rfl dX4_image_8 (fun m2 h => ?_)
  refine ez_aload_n (pc := 11) Z dX4_image_11 0 rfl rfl ?_
  refine ez_iconst (pc := 12) Z dX4_image_12 ec_1 ?_
  refine pX4_hasKept (pc := 13) (M := s6) (M' := ew_sI s6 0 (1 : Int32)) Z (hE6 s1 s2 m2 s4 s5) rfl rfl rfl inX4_image (List.mem_of_getElem? (i := 3) rfl) dX4_image_13 ?_
  refine ez_aload_n (pc := 16) Z dX4_image_16 0 rfl rfl ?_
  refine fX4_now (pc := 17) (M := ew_sI s6 0 (1 : Int32)) Z (hE6 s1 s2 m2 s4 s5) inX4_image (List.mem_of_getElem? (i := 2) rfl) dX4_image_17 ?_
  refine ez_callVi (pc := 20) (r := 0) (As := []) (st := []) Z (kX3_weekNow Z.2.2.2.2.2.2.2.2.2.1 (E := fun q1 => E q1 s2 m2 s4 s5 (ew_sI s6 0 (1 : Int32))) (hE1 s2 m2 s4 s5 (ew_sI s6 0 (1 : Int32))) h) gX4_image_X3_weekNow rfl rfl rfl hdX3_weekNow rfl rfl (by decide) (ew_oT (hE1 s2 m2 s4 s5 (ew_sI s6 0 (1 : Int32))) _) rfl rfl rfl rfl dX4_image_20 (fun r3 u4 h => ?_)
  exact ez_iret (pc := 23) Z hR (m2, ew_sI s6 0 (1 : Int32)) h rfl dX4_image_23
theorem inX4_on : ∀ w ∈ wsX40, w ∈ wsX4_on := fun _ h => List.mem_cons_of_mem _ (List.mem_append_left _ (List.mem_append_right _ (h)))
theorem hdX4_on : yX4_on.cls = RX4 ∧ yX4_on.cls ≠ "java/lang/invoke/MethodHandle" ∧ yX4_on.cls ≠ "java/lang/invoke/VarHandle" ∧ (parseMethodDescriptor yX4_on.desc).map (fun d => d.parameters.length) = some 0 := by decide +kernel
def wX4_on (Q : Int32 → ew_M → ew_M → Prop) (s1 : ew_M) (s2 : ew_M) (s3 : ew_M) (s4 : ew_M) (s5 : ew_M) (s6 : ew_M) : Prop := (¬ (s6.1 0) = 0 → wX3_become (fun (m3 : ew_M) => wX3_weekNow (fun (r4 : Int32) => Q r4 m3 s6) m3) s1 s3) ∧ ((s6.1 0) = 0 → wX4_refuse (fun (r6 : Int32) (m7 : ew_M) => Q r6 s1 m7) (3 : Int32) s1 s2 s3 s4 s5 s6)
set_option maxHeartbeats 4000000 in
set_option maxRecDepth 100000 in
theorem kX4_on {X : ew_X} {l : Launch} (hX : ew_Ap X) {E : ew_M → ew_M → ew_M → ew_M → ew_M → ew_M → ew_S} (hE1 : ∀ (x2 x3 x4 x5 x6 : ew_M), ew_GE X 0 (ew_GT X.2.1 0) (fun M => E M x2 x3 x4 x5 x6)) (hE2 : ∀ (x1 x3 x4 x5 x6 : ew_M), ew_GE X 14 (ew_GT X.2.1 14) (fun M => E x1 M x3 x4 x5 x6)) (hE3 : ∀ (x1 x2 x4 x5 x6 : ew_M), ew_GE X 28 (ew_GT X.2.1 28) (fun M => E x1 x2 M x4 x5 x6)) (hE4 : ∀ (x1 x2 x3 x5 x6 : ew_M), ew_GE X 42 (ew_GL X.2.1) (fun M => E x1 x2 x3 M x5 x6)) (hE5 : ∀ (x1 x2 x3 x4 x6 : ew_M), ew_GE X 45 (ew_GR X.2.1) (fun M => E x1 x2 x3 x4 M x6)) (hE6 : ∀ (x1 x2 x3 x4 x5 : ew_M), ew_GE X 46 (ew_GX X.2.1) (fun M => E x1 x2 x3 x4 x5 M)) {Q : Int32 → ew_M → ew_M → Prop} {s1 : ew_M} {s2 : ew_M} {s3 : ew_M} {s4 : ew_M} {s5 : ew_M} {s6 : ew_M} (h : wX4_on Q s1 s2 s3 s4 s5 s6) : Met l yX4_on wsX4_on ({ frames := 2, cells := 0, slots := 0, locals := 39 } : Room) (va_Pc [.ref (X.2.1 46)] (ew_wd X (E s1 s2 s3 s4 s5 s6))) (va_Qi (fun (r : Int32) (u : ew_M × ew_M) => Q r u.1 u.2) (fun (u : ew_M × ew_M) => ew_wd X ((fun (u : ew_M × ew_M) => E u.1 s2 s3 s4 s5 u.2) u)) X.2.2.1) 0 0 X.2.2.1 := by
  refine ew_met (As := [.ref (X.2.1 46)]) (L0 := [(0, .ref (X.2.1 46))]) X l hX (by decide) rfl rfl rfl rfl (fun C hl Z hR => ?_)
  subst hl
  refine ez_aload_n (pc := 0) Z dX4_on_0 0 rfl rfl ?_
  refine fX4_hasKept (pc := 1) (v := s6.1 0) Z (hE6 s1 s2 s3 s4 s5) rfl inX4_on (List.mem_of_getElem? (i := 1) rfl) dX4_on_1 ?_
  refine ez_if_ne (pc := 4) (tgt := 13) Z dX4_on_4 rfl (fun c1 => ?_) (fun c1 => ?_)
  · replace h := h.1 c1
    refine ez_aload_n (pc := 13) Z dX4_on_13 0 rfl rfl ?_
    refine fX4_now (pc := 14) (M := s6) Z (hE6 s1 s2 s3 s4 s5) inX4_on (List.mem_of_getElem? (i := 2) rfl) dX4_on_14 ?_
    refine ez_aload_n (pc := 17) Z dX4_on_17 0 rfl rfl ?_
    refine fX4_kept (pc := 18) (M := s6) Z (hE6 s1 s2 s3 s4 s5) inX4_on (List.mem_of_getElem? (i := 3) rfl) dX4_on_18 ?_
    refine ez_callVv (pc := 21) (r := 0) (As := [.ref (X.2.1 28)]) (st := []) Z (kX3_become Z.2.2.2.2.2.2.2.2.2.1 (E := fun q1 q2 => E q1 s2 q2 s4 s5 s6) (fun q2 => hE1 s2 q2 s4 s5 s6) (fun q1 => hE3 q1 s2 s4 s5 s6) h) gX4_on_X3_become rfl rfl rfl hdX3_become rfl rfl (by decide) (ew_oT (hE1 s2 s3 s4 s5 s6) _) rfl rfl rfl rfl dX4_on_21 (fun m3 h => ?_)
    refine ez_aload_n (pc := 24) Z dX4_on_24 0 rfl rfl ?_
    refine fX4_now (pc := 25) (M := s6) Z (hE6 m3 s2 s3 s4 s5) inX4_on (List.mem_of_getElem? (i := 2) rfl) dX4_on_25 ?_
    refine ez_callVi (pc := 28) (r := 0) (As := []) (st := []) Z (kX3_weekNow Z.2.2.2.2.2.2.2.2.2.1 (E := fun q1 => E q1 s2 s3 s4 s5 s6) (hE1 s2 s3 s4 s5 s6) h) gX4_on_X3_weekNow rfl rfl rfl hdX3_weekNow rfl rfl (by decide) (ew_oT (hE1 s2 s3 s4 s5 s6) _) rfl rfl rfl rfl dX4_on_28 (fun r4 u5 h => ?_)
    exact ez_iret (pc := 31) Z hR (m3, s6) h rfl dX4_on_31
  · replace h := h.2 c1
    refine ez_aload_n (pc := 7) Z dX4_on_7 0 rfl rfl ?_
    refine ez_iconst (pc := 8) Z dX4_on_8 ec_3 ?_
    refine ez_callVi (pc := 9) (r := 46) (As := [.int (3 : Int32)]) (st := []) Z (kX4_refuse Z.2.2.2.2.2.2.2.2.2.1 (E := E) hE1 hE2 hE3 hE4 hE5 hE6 h) gX4_on_X4_refuse rfl rfl rfl hdX4_refuse rfl rfl (by decide) (ew_oX0 (hE6 s1 s2 s3 s4 s5) _) rfl rfl rfl rfl dX4_on_9 (fun r6 m7 h => ?_)
    exact ez_iret (pc := 12) Z hR (s1, m7) h rfl dX4_on_12
theorem inX4_refusalsOf : ∀ w ∈ wsX40, w ∈ wsX4_refusalsOf := fun _ h => List.mem_cons_of_mem _ (List.mem_append_right _ (h))
theorem hdX4_refusalsOf : yX4_refusalsOf.cls = RX4 ∧ yX4_refusalsOf.cls ≠ "java/lang/invoke/MethodHandle" ∧ yX4_refusalsOf.cls ≠ "java/lang/invoke/VarHandle" ∧ (parseMethodDescriptor yX4_refusalsOf.desc).map (fun d => d.parameters.length) = some 1 := by decide +kernel
def wX4_refusalsOf (Q : Int32 → Prop) (p1 : Int32) (s1 : ew_M) (s2 : ew_M) (s3 : ew_M) (s4 : ew_M) (s5 : ew_M) (s6 : ew_M) : Prop := (p1 < (1 : Int32) → Q (-9 : Int32) ) ∧ (¬ p1 < (1 : Int32) → (p1 ≤ (6 : Int32) → vp_in p1 7 ∧ (Q (s6.2.1 1 p1.toNatClampNeg) )) ∧ (¬ p1 ≤ (6 : Int32) → Q (-9 : Int32) ))
set_option maxHeartbeats 4000000 in
set_option maxRecDepth 100000 in
theorem kX4_refusalsOf {X : ew_X} {l : Launch} (hX : ew_Ap X) {E : ew_M → ew_M → ew_M → ew_M → ew_M → ew_M → ew_S} (hE1 : ∀ (x2 x3 x4 x5 x6 : ew_M), ew_GE X 0 (ew_GT X.2.1 0) (fun M => E M x2 x3 x4 x5 x6)) (hE2 : ∀ (x1 x3 x4 x5 x6 : ew_M), ew_GE X 14 (ew_GT X.2.1 14) (fun M => E x1 M x3 x4 x5 x6)) (hE3 : ∀ (x1 x2 x4 x5 x6 : ew_M), ew_GE X 28 (ew_GT X.2.1 28) (fun M => E x1 x2 M x4 x5 x6)) (hE4 : ∀ (x1 x2 x3 x5 x6 : ew_M), ew_GE X 42 (ew_GL X.2.1) (fun M => E x1 x2 x3 M x5 x6)) (hE5 : ∀ (x1 x2 x3 x4 x6 : ew_M), ew_GE X 45 (ew_GR X.2.1) (fun M => E x1 x2 x3 x4 M x6)) (hE6 : ∀ (x1 x2 x3 x4 x5 : ew_M), ew_GE X 46 (ew_GX X.2.1) (fun M => E x1 x2 x3 x4 x5 M)) {Q : Int32 → Prop} {p1 : Int32} {s1 : ew_M} {s2 : ew_M} {s3 : ew_M} {s4 : ew_M} {s5 : ew_M} {s6 : ew_M} (h : wX4_refusalsOf Q p1 s1 s2 s3 s4 s5 s6) : Met l yX4_refusalsOf wsX4_refusalsOf ({ frames := 0, cells := 0, slots := 0, locals := 0 } : Room) (va_Pc [.ref (X.2.1 46), .int p1] (ew_wd X (E s1 s2 s3 s4 s5 s6))) (va_Qi (fun (r : Int32) (_ : Unit) => Q r) (fun (u : Unit) => ew_wd X ((fun (_ : Unit) => E s1 s2 s3 s4 s5 s6) u)) X.2.2.1) 0 0 X.2.2.1 := by
  refine ew_met (As := [.ref (X.2.1 46), .int p1]) (L0 := [(0, .ref (X.2.1 46)), (1, .int p1)]) X l hX (by decide) rfl rfl rfl rfl (fun C hl Z hR => ?_)
  subst hl
  refine ez_iload_n (pc := 0) Z dX4_refusalsOf_0 1 rfl rfl ?_
  refine ez_iconst (pc := 1) Z dX4_refusalsOf_1 ec_1 ?_
  refine ez_icmp_lt (pc := 2) (tgt := 11) Z dX4_refusalsOf_2 rfl (fun c1 => ?_) (fun c1 => ?_)
  · replace h := h.1 c1
    refine ez_bipush (pc := 11) Z dX4_refusalsOf_11 eb_m9 ?_
    exact ez_iret (pc := 13) Z hR () h rfl dX4_refusalsOf_13
  · replace h := h.2 c1
    refine ez_iload_n (pc := 5) Z dX4_refusalsOf_5 1 rfl rfl ?_
    refine ez_bipush (pc := 6) Z dX4_refusalsOf_6 eb_6 ?_
    refine ez_icmp_le (pc := 8) (tgt := 14) Z dX4_refusalsOf_8 rfl (fun c2 => ?_) (fun c2 => ?_)
    · replace h := h.1 c2
      refine ez_aload_n (pc := 14) Z dX4_refusalsOf_14 0 rfl rfl ?_
      refine fX4_refusals (pc := 15) (M := s6) Z (hE6 s1 s2 s3 s4 s5) inX4_refusalsOf (List.mem_of_getElem? (i := 1) rfl) dX4_refusalsOf_15 ?_
      refine ez_iload_n (pc := 18) Z dX4_refusalsOf_18 1 rfl rfl ?_
      refine ez_iald (pc := 19) (n := 7) (a := 1) (v := s6.2.1 1 p1.toNatClampNeg) (M := s6) Z (hE6 s1 s2 s3 s4 s5) 3 rfl (by decide : 1 < 2) rfl rfl h.1 dX4_refusalsOf_19 ?_
      replace h := h.2
      exact ez_iret (pc := 20) Z hR () h rfl dX4_refusalsOf_20
    · replace h := h.2 c2
      refine ez_bipush (pc := 11) Z dX4_refusalsOf_11 eb_m9 ?_
      exact ez_iret (pc := 13) Z hR () h rfl dX4_refusalsOf_13
theorem inX4_count : ∀ w ∈ wsX40, w ∈ wsX4_count := fun _ h => List.mem_cons_of_mem _ (List.mem_append_left _ (List.mem_append_left _ (List.mem_append_right _ (h))))
theorem hdX4_count : yX4_count.cls = RX4 ∧ yX4_count.cls ≠ "java/lang/invoke/MethodHandle" ∧ yX4_count.cls ≠ "java/lang/invoke/VarHandle" ∧ (parseMethodDescriptor yX4_count.desc).map (fun d => d.parameters.length) = some 1 := by decide +kernel
def wX4_count (Q : Int32 → Prop) (p1 : Int32) (s1 : ew_M) (s2 : ew_M) (s3 : ew_M) (s4 : ew_M) (s5 : ew_M) (s6 : ew_M) : Prop := (p1 = (0 : Int32) → wX3_personCount (fun (r2 : Int32) => Q r2 ) s1) ∧ (¬ p1 = (0 : Int32) → (p1 = (1 : Int32) → wX3_paperCount (fun (r5 : Int32) => Q r5 ) s1) ∧ (¬ p1 = (1 : Int32) → (p1 = (2 : Int32) → wX3_weekNow (fun (r8 : Int32) => Q r8 ) s1) ∧ (¬ p1 = (2 : Int32) → (p1 = (3 : Int32) → wX3_papersInForce (fun (r11 : Int32) => Q r11 ) s1) ∧ (¬ p1 = (3 : Int32) → (p1 = (4 : Int32) → wX3_lawNow (fun (r14 : Int32) => Q r14 ) s1) ∧ (¬ p1 = (4 : Int32) → (p1 = (5 : Int32) → wX3_clerkNow (fun (r17 : Int32) => Q r17 ) s1) ∧ (¬ p1 = (5 : Int32) → (p1 = (6 : Int32) → Q (s6.1 2) ) ∧ (¬ p1 = (6 : Int32) → (p1 = (7 : Int32) → wX0_howMany (fun (r21 : Int32) => Q r21 ) s4) ∧ (¬ p1 = (7 : Int32) → wX4_refusalsOf (fun (r23 : Int32) => Q r23 ) (p1 - (10 : Int32)) s1 s2 s3 s4 s5 s6))))))))
set_option maxHeartbeats 4000000 in
set_option maxRecDepth 100000 in
theorem kX4_count {X : ew_X} {l : Launch} (hX : ew_Ap X) {E : ew_M → ew_M → ew_M → ew_M → ew_M → ew_M → ew_S} (hE1 : ∀ (x2 x3 x4 x5 x6 : ew_M), ew_GE X 0 (ew_GT X.2.1 0) (fun M => E M x2 x3 x4 x5 x6)) (hE2 : ∀ (x1 x3 x4 x5 x6 : ew_M), ew_GE X 14 (ew_GT X.2.1 14) (fun M => E x1 M x3 x4 x5 x6)) (hE3 : ∀ (x1 x2 x4 x5 x6 : ew_M), ew_GE X 28 (ew_GT X.2.1 28) (fun M => E x1 x2 M x4 x5 x6)) (hE4 : ∀ (x1 x2 x3 x5 x6 : ew_M), ew_GE X 42 (ew_GL X.2.1) (fun M => E x1 x2 x3 M x5 x6)) (hE5 : ∀ (x1 x2 x3 x4 x6 : ew_M), ew_GE X 45 (ew_GR X.2.1) (fun M => E x1 x2 x3 x4 M x6)) (hE6 : ∀ (x1 x2 x3 x4 x5 : ew_M), ew_GE X 46 (ew_GX X.2.1) (fun M => E x1 x2 x3 x4 x5 M)) {Q : Int32 → Prop} {p1 : Int32} {s1 : ew_M} {s2 : ew_M} {s3 : ew_M} {s4 : ew_M} {s5 : ew_M} {s6 : ew_M} (h : wX4_count Q p1 s1 s2 s3 s4 s5 s6) : Met l yX4_count wsX4_count ({ frames := 4, cells := 0, slots := 0, locals := 87 } : Room) (va_Pc [.ref (X.2.1 46), .int p1] (ew_wd X (E s1 s2 s3 s4 s5 s6))) (va_Qi (fun (r : Int32) (_ : Unit) => Q r) (fun (u : Unit) => ew_wd X ((fun (_ : Unit) => E s1 s2 s3 s4 s5 s6) u)) X.2.2.1) 0 0 X.2.2.1 := by
  refine ew_met (As := [.ref (X.2.1 46), .int p1]) (L0 := [(0, .ref (X.2.1 46)), (1, .int p1)]) X l hX (by decide) rfl rfl rfl rfl (fun C hl Z hR => ?_)
  subst hl
  refine ez_iload_n (pc := 0) Z dX4_count_0 1 rfl rfl ?_
  by_cases c1 : p1 = (0 : Int32)
  · replace h := h.1 c1
    refine ez_tabI (pc := 1) (off := 47) (tgt := 48) Z dX4_count_1 (0 : Int32) c1 (by decide) (by decide) (by decide) rfl ?_
    refine ez_aload_n (pc := 48) Z dX4_count_48 0 rfl rfl ?_
    refine fX4_now (pc := 49) (M := s6) Z (hE6 s1 s2 s3 s4 s5) inX4_count (List.mem_of_getElem? (i := 1) rfl) dX4_count_49 ?_
    refine ez_callVi (pc := 52) (r := 0) (As := []) (st := []) Z (kX3_personCount Z.2.2.2.2.2.2.2.2.2.1 (E := fun q1 => E q1 s2 s3 s4 s5 s6) (hE1 s2 s3 s4 s5 s6) h) gX4_count_X3_personCount rfl rfl rfl hdX3_personCount rfl rfl (by decide) (ew_oT (hE1 s2 s3 s4 s5 s6) _) rfl rfl rfl rfl dX4_count_52 (fun r2 u3 h => ?_)
    exact ez_iret (pc := 55) Z hR () h rfl dX4_count_55
  · replace h := h.2 c1
    by_cases c4 : p1 = (1 : Int32)
    · replace h := h.1 c4
      refine ez_tabI (pc := 1) (off := 55) (tgt := 56) Z dX4_count_1 (1 : Int32) c4 (by decide) (by decide) (by decide) rfl ?_
      refine ez_aload_n (pc := 56) Z dX4_count_56 0 rfl rfl ?_
      refine fX4_now (pc := 57) (M := s6) Z (hE6 s1 s2 s3 s4 s5) inX4_count (List.mem_of_getElem? (i := 1) rfl) dX4_count_57 ?_
      refine ez_callVi (pc := 60) (r := 0) (As := []) (st := []) Z (kX3_paperCount Z.2.2.2.2.2.2.2.2.2.1 (E := fun q1 => E q1 s2 s3 s4 s5 s6) (hE1 s2 s3 s4 s5 s6) h) gX4_count_X3_paperCount rfl rfl rfl hdX3_paperCount rfl rfl (by decide) (ew_oT (hE1 s2 s3 s4 s5 s6) _) rfl rfl rfl rfl dX4_count_60 (fun r5 u6 h => ?_)
      exact ez_iret (pc := 63) Z hR () h rfl dX4_count_63
    · replace h := h.2 c4
      by_cases c7 : p1 = (2 : Int32)
      · replace h := h.1 c7
        refine ez_tabI (pc := 1) (off := 63) (tgt := 64) Z dX4_count_1 (2 : Int32) c7 (by decide) (by decide) (by decide) rfl ?_
        refine ez_aload_n (pc := 64) Z dX4_count_64 0 rfl rfl ?_
        refine fX4_now (pc := 65) (M := s6) Z (hE6 s1 s2 s3 s4 s5) inX4_count (List.mem_of_getElem? (i := 1) rfl) dX4_count_65 ?_
        refine ez_callVi (pc := 68) (r := 0) (As := []) (st := []) Z (kX3_weekNow Z.2.2.2.2.2.2.2.2.2.1 (E := fun q1 => E q1 s2 s3 s4 s5 s6) (hE1 s2 s3 s4 s5 s6) h) gX4_count_X3_weekNow rfl rfl rfl hdX3_weekNow rfl rfl (by decide) (ew_oT (hE1 s2 s3 s4 s5 s6) _) rfl rfl rfl rfl dX4_count_68 (fun r8 u9 h => ?_)
        exact ez_iret (pc := 71) Z hR () h rfl dX4_count_71
      · replace h := h.2 c7
        by_cases c10 : p1 = (3 : Int32)
        · replace h := h.1 c10
          refine ez_tabI (pc := 1) (off := 71) (tgt := 72) Z dX4_count_1 (3 : Int32) c10 (by decide) (by decide) (by decide) rfl ?_
          refine ez_aload_n (pc := 72) Z dX4_count_72 0 rfl rfl ?_
          refine fX4_now (pc := 73) (M := s6) Z (hE6 s1 s2 s3 s4 s5) inX4_count (List.mem_of_getElem? (i := 1) rfl) dX4_count_73 ?_
          refine ez_callVi (pc := 76) (r := 0) (As := []) (st := []) Z (kX3_papersInForce Z.2.2.2.2.2.2.2.2.2.1 (E := fun q1 => E q1 s2 s3 s4 s5 s6) (hE1 s2 s3 s4 s5 s6) h) gX4_count_X3_papersInForce rfl rfl rfl hdX3_papersInForce rfl rfl (by decide) (ew_oT (hE1 s2 s3 s4 s5 s6) _) rfl rfl rfl rfl dX4_count_76 (fun r11 u12 h => ?_)
          exact ez_iret (pc := 79) Z hR () h rfl dX4_count_79
        · replace h := h.2 c10
          by_cases c13 : p1 = (4 : Int32)
          · replace h := h.1 c13
            refine ez_tabI (pc := 1) (off := 79) (tgt := 80) Z dX4_count_1 (4 : Int32) c13 (by decide) (by decide) (by decide) rfl ?_
            refine ez_aload_n (pc := 80) Z dX4_count_80 0 rfl rfl ?_
            refine fX4_now (pc := 81) (M := s6) Z (hE6 s1 s2 s3 s4 s5) inX4_count (List.mem_of_getElem? (i := 1) rfl) dX4_count_81 ?_
            refine ez_callVi (pc := 84) (r := 0) (As := []) (st := []) Z (kX3_lawNow Z.2.2.2.2.2.2.2.2.2.1 (E := fun q1 => E q1 s2 s3 s4 s5 s6) (hE1 s2 s3 s4 s5 s6) h) gX4_count_X3_lawNow rfl rfl rfl hdX3_lawNow rfl rfl (by decide) (ew_oT (hE1 s2 s3 s4 s5 s6) _) rfl rfl rfl rfl dX4_count_84 (fun r14 u15 h => ?_)
            exact ez_iret (pc := 87) Z hR () h rfl dX4_count_87
          · replace h := h.2 c13
            by_cases c16 : p1 = (5 : Int32)
            · replace h := h.1 c16
              refine ez_tabI (pc := 1) (off := 87) (tgt := 88) Z dX4_count_1 (5 : Int32) c16 (by decide) (by decide) (by decide) rfl ?_
              refine ez_aload_n (pc := 88) Z dX4_count_88 0 rfl rfl ?_
              refine fX4_now (pc := 89) (M := s6) Z (hE6 s1 s2 s3 s4 s5) inX4_count (List.mem_of_getElem? (i := 1) rfl) dX4_count_89 ?_
              refine ez_callVi (pc := 92) (r := 0) (As := []) (st := []) Z (kX3_clerkNow Z.2.2.2.2.2.2.2.2.2.1 (E := fun q1 => E q1 s2 s3 s4 s5 s6) (hE1 s2 s3 s4 s5 s6) h) gX4_count_X3_clerkNow rfl rfl rfl hdX3_clerkNow rfl rfl (by decide) (ew_oT (hE1 s2 s3 s4 s5 s6) _) rfl rfl rfl rfl dX4_count_92 (fun r17 u18 h => ?_)
              exact ez_iret (pc := 95) Z hR () h rfl dX4_count_95
            · replace h := h.2 c16
              by_cases c19 : p1 = (6 : Int32)
              · replace h := h.1 c19
                refine ez_tabI (pc := 1) (off := 95) (tgt := 96) Z dX4_count_1 (6 : Int32) c19 (by decide) (by decide) (by decide) rfl ?_
                refine ez_aload_n (pc := 96) Z dX4_count_96 0 rfl rfl ?_
                refine fX4_rowSize (pc := 97) (v := s6.1 2) Z (hE6 s1 s2 s3 s4 s5) rfl inX4_count (List.mem_of_getElem? (i := 2) rfl) dX4_count_97 ?_
                exact ez_iret (pc := 100) Z hR () h rfl dX4_count_100
              · replace h := h.2 c19
                by_cases c20 : p1 = (7 : Int32)
                · replace h := h.1 c20
                  refine ez_tabI (pc := 1) (off := 100) (tgt := 101) Z dX4_count_1 (7 : Int32) c20 (by decide) (by decide) (by decide) rfl ?_
                  refine ez_aload_n (pc := 101) Z dX4_count_101 0 rfl rfl ?_
                  refine fX4_letters (pc := 102) (M := s6) Z (hE6 s1 s2 s3 s4 s5) inX4_count (List.mem_of_getElem? (i := 3) rfl) dX4_count_102 ?_
                  refine ez_callVi (pc := 105) (r := 42) (As := []) (st := []) Z (kX0_howMany Z.2.2.2.2.2.2.2.2.2.1 (E := fun q1 => E s1 s2 s3 q1 s5 s6) (hE4 s1 s2 s3 s5 s6) h) gX4_count_X0_howMany rfl rfl rfl hdX0_howMany rfl rfl (by decide) (ew_oL (hE4 s1 s2 s3 s5 s6) _) rfl rfl rfl rfl dX4_count_105 (fun r21 u22 h => ?_)
                  exact ez_iret (pc := 108) Z hR () h rfl dX4_count_108
                · replace h := h.2 c20
                  have gc1 := ez_nt c1
                  have gc4 := ez_nt c4
                  have gc7 := ez_nt c7
                  have gc10 := ez_nt c10
                  have gc13 := ez_nt c13
                  have gc16 := ez_nt c16
                  have gc19 := ez_nt c19
                  have gc20 := ez_nt c20
                  refine ez_tabO (pc := 1) (tgt := 109) Z dX4_count_1 (by simp only [ez_t0, ez_t1, ez_t2, ez_t3, ez_t4, ez_t5, ez_t6, ez_t7] at gc1 gc4 gc7 gc10 gc13 gc16 gc19 gc20; omega) rfl ?_
                  refine ez_aload_n (pc := 109) Z dX4_count_109 0 rfl rfl ?_
                  refine ez_iload_n (pc := 110) Z dX4_count_110 1 rfl rfl ?_
                  refine ez_bipush (pc := 111) Z dX4_count_111 eb_10 ?_
                  refine ez_isub (pc := 113) Z dX4_count_113 ?_
                  refine ez_callVi (pc := 114) (r := 46) (As := [.int (p1 - (10 : Int32))]) (st := []) Z (kX4_refusalsOf Z.2.2.2.2.2.2.2.2.2.1 (E := E) hE1 hE2 hE3 hE4 hE5 hE6 h) gX4_count_X4_refusalsOf rfl rfl rfl hdX4_refusalsOf rfl rfl (by decide) (ew_oX0 (hE6 s1 s2 s3 s4 s5) _) rfl rfl rfl rfl dX4_count_114 (fun r23 u24 h => ?_)
                  exact ez_iret (pc := 117) Z hR () h rfl dX4_count_117
