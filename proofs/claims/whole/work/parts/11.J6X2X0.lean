theorem inX0_isFull : ∀ w ∈ wsX00, w ∈ wsX0_isFull := fun _ h => List.mem_cons_of_mem _ (List.mem_append_right _ (h))
theorem hdX0_isFull : yX0_isFull.cls = RX0 ∧ yX0_isFull.cls ≠ "java/lang/invoke/MethodHandle" ∧ yX0_isFull.cls ≠ "java/lang/invoke/VarHandle" ∧ (parseMethodDescriptor yX0_isFull.desc).map (fun d => d.parameters.length) = some 0 := by decide +kernel
def wX0_isFull (Q : Int32 → Prop) (s1 : ew_M) : Prop := ((s1.1 0) < (64 : Int32) → Q (0 : Int32) ) ∧ (¬ (s1.1 0) < (64 : Int32) → Q (1 : Int32) )
set_option maxHeartbeats 4000000 in
set_option maxRecDepth 100000 in
theorem kX0_isFull {X : ew_X} {l : Launch} (hX : ew_Ap X) {E : ew_M → ew_S} (hE1 : ew_GE X 42 (ew_GL X.2.1) E) {Q : Int32 → Prop} {s1 : ew_M} (h : wX0_isFull Q s1) : Met l yX0_isFull wsX0_isFull ({ frames := 0, cells := 0, slots := 0, locals := 0 } : Room) (va_Pc [.ref (X.2.1 42)] (ew_wd X (E s1))) (va_Qi (fun (r : Int32) (_ : Unit) => Q r) (fun (u : Unit) => ew_wd X ((fun (_ : Unit) => E s1) u)) X.2.2.1) 0 0 X.2.2.1 := by
  refine ew_met (As := [.ref (X.2.1 42)]) (L0 := [(0, .ref (X.2.1 42))]) X l hX (by decide) rfl rfl rfl rfl (fun C hl Z hR => ?_)
  subst hl
  refine ez_aload_n (pc := 0) Z dX0_isFull_0 0 rfl rfl ?_
  refine fX0_size (pc := 1) (v := s1.1 0) Z hE1 rfl inX0_isFull (List.mem_of_getElem? (i := 1) rfl) dX0_isFull_1 ?_
  refine ez_bipush (pc := 4) Z dX0_isFull_4 eb_64 ?_
  refine ez_icmp_lt (pc := 6) (tgt := 13) Z dX0_isFull_6 rfl (fun c1 => ?_) (fun c1 => ?_)
  · replace h := h.1 c1
    refine ez_iconst (pc := 13) Z dX0_isFull_13 ec_0 ?_
    exact ez_zret (pc := 14) Z hR () rfl h rfl dX0_isFull_14
  · replace h := h.2 c1
    refine ez_iconst (pc := 9) Z dX0_isFull_9 ec_1 ?_
    refine ez_goto (pc := 10) (tgt := 14) Z dX0_isFull_10 rfl ?_
    exact ez_zret (pc := 14) Z hR () rfl h rfl dX0_isFull_14
theorem inX0_add : ∀ w ∈ wsX00, w ∈ wsX0_add := fun _ h => List.mem_cons_of_mem _ (List.mem_append_right _ (h))
theorem hdX0_add : yX0_add.cls = RX0 ∧ yX0_add.cls ≠ "java/lang/invoke/MethodHandle" ∧ yX0_add.cls ≠ "java/lang/invoke/VarHandle" ∧ (parseMethodDescriptor yX0_add.desc).map (fun d => d.parameters.length) = some 1 := by decide +kernel
def wX0_add_29  (Q : Int32 → ew_M → Prop) (s1 : ew_M) : Prop := Q (s1.1 0) s1
def wX0_add (Q : Int32 → ew_M → Prop) (p1 : Int32) (s1 : ew_M) : Prop := ((64 : Int32) ≤ (s1.1 0) → wX0_add_29 Q s1) ∧ (¬ (64 : Int32) ≤ (s1.1 0) → vp_in (s1.1 0) 64 ∧ (wX0_add_29 Q (ew_sI (ew_sA s1 0 (s1.1 0).toNatClampNeg p1) 0 ((s1.1 0) + (1 : Int32)))))
set_option maxHeartbeats 4000000 in
set_option maxRecDepth 100000 in
theorem tX0_add_29 {C : ew_C} {X : ew_X} {E : ew_M → ew_S} (hE1 : ew_GE X 42 (ew_GL X.2.1) E) (Z : ew_Z C X cX0_add 2 RX0 wsX0_add ({ frames := 0, cells := 0, slots := 0, locals := 0 } : Room) (some .int)) {Q : Int32 → ew_M → Prop}  {s1 : ew_M} (hR : C.2.2.2.2.2.2.2.2.2.2 = MQ C.2.2.2.2.2.2.2.1 (va_Qi (fun (r : Int32) (u : ew_M) => Q r u) (fun (u : ew_M) => ew_wd X ((fun (u : ew_M) => E u) u)) X.2.2.1) C.2.2.2.2.2.2.1 C.2.2.2.2.1 0 0 X.2.2.1) (h : wX0_add_29 Q s1) : ew_W C X 2 (E s1) 29 [(0, .ref (X.2.1 42))] [] := by
  refine ez_aload_n (pc := 29) Z dX0_add_29 0 rfl rfl ?_
  refine fX0_size (pc := 30) (v := s1.1 0) Z hE1 rfl inX0_add (List.mem_of_getElem? (i := 1) rfl) dX0_add_30 ?_
  exact ez_iret (pc := 33) Z hR s1 h rfl dX0_add_33
set_option maxHeartbeats 4000000 in
set_option maxRecDepth 100000 in
theorem kX0_add {X : ew_X} {l : Launch} (hX : ew_Ap X) {E : ew_M → ew_S} (hE1 : ew_GE X 42 (ew_GL X.2.1) E) {Q : Int32 → ew_M → Prop} {p1 : Int32} {s1 : ew_M} (h : wX0_add Q p1 s1) : Met l yX0_add wsX0_add ({ frames := 0, cells := 0, slots := 0, locals := 0 } : Room) (va_Pc [.ref (X.2.1 42), .int p1] (ew_wd X (E s1))) (va_Qi (fun (r : Int32) (u : ew_M) => Q r u) (fun (u : ew_M) => ew_wd X ((fun (u : ew_M) => E u) u)) X.2.2.1) 0 0 X.2.2.1 := by
  refine ew_met (As := [.ref (X.2.1 42), .int p1]) (L0 := [(0, .ref (X.2.1 42)), (1, .int p1)]) X l hX (by decide) rfl rfl rfl rfl (fun C hl Z hR => ?_)
  subst hl
  refine ez_aload_n (pc := 0) Z dX0_add_0 0 rfl rfl ?_
  refine fX0_size (pc := 1) (v := s1.1 0) Z hE1 rfl inX0_add (List.mem_of_getElem? (i := 1) rfl) dX0_add_1 ?_
  refine ez_bipush (pc := 4) Z dX0_add_4 eb_64 ?_
  refine ez_icmp_ge (pc := 6) (tgt := 29) Z dX0_add_6 rfl (fun c1 => ?_) (fun c1 => ?_)
  · replace h := h.1 c1
    refine ez_sub [(0, .ref (X.2.1 42))] [0] rfl ?_
    exact tX0_add_29 hE1 Z hR  h
  · replace h := h.2 c1
    refine ez_aload_n (pc := 9) Z dX0_add_9 0 rfl rfl ?_
    refine fX0_text (pc := 10) (M := s1) Z hE1 inX0_add (List.mem_of_getElem? (i := 2) rfl) dX0_add_10 ?_
    refine ez_aload_n (pc := 13) Z dX0_add_13 0 rfl rfl ?_
    refine fX0_size (pc := 14) (v := s1.1 0) Z hE1 rfl inX0_add (List.mem_of_getElem? (i := 1) rfl) dX0_add_14 ?_
    refine ez_iload_n (pc := 17) Z dX0_add_17 1 rfl rfl ?_
    refine ez_iast (pc := 18) (n := 64) (a := 0) (M := s1) (M' := ew_sA s1 0 (s1.1 0).toNatClampNeg p1) Z hE1 1 rfl (by decide : 0 < 2) rfl rfl h.1 dX0_add_18 ?_
    replace h := h.2
    refine ez_aload_n (pc := 19) Z dX0_add_19 0 rfl rfl ?_
    refine ez_dup (pc := 20) Z dX0_add_20 rfl ?_
    refine fX0_size (pc := 21) (v := s1.1 0) Z hE1 rfl inX0_add (List.mem_of_getElem? (i := 1) rfl) dX0_add_21 ?_
    refine ez_iconst (pc := 24) Z dX0_add_24 ec_1 ?_
    refine ez_iadd (pc := 25) Z dX0_add_25 ?_
    refine pX0_size (pc := 26) (M := ew_sA s1 0 (s1.1 0).toNatClampNeg p1) (M' := ew_sI (ew_sA s1 0 (s1.1 0).toNatClampNeg p1) 0 ((s1.1 0) + (1 : Int32))) Z hE1 rfl inX0_add (List.mem_of_getElem? (i := 1) rfl) dX0_add_26 ?_
    refine ez_sub [(0, .ref (X.2.1 42))] [0] rfl ?_
    exact tX0_add_29 hE1 Z hR  h
theorem inX0_rewind : ∀ w ∈ wsX00, w ∈ wsX0_rewind := fun _ h => List.mem_cons_of_mem _ (List.mem_append_right _ (h))
theorem hdX0_rewind : yX0_rewind.cls = RX0 ∧ yX0_rewind.cls ≠ "java/lang/invoke/MethodHandle" ∧ yX0_rewind.cls ≠ "java/lang/invoke/VarHandle" ∧ (parseMethodDescriptor yX0_rewind.desc).map (fun d => d.parameters.length) = some 0 := by decide +kernel
def wX0_rewind (Q : ew_M → Prop) (s1 : ew_M) : Prop := Q (ew_sI s1 1 (0 : Int32))
set_option maxHeartbeats 4000000 in
set_option maxRecDepth 100000 in
theorem kX0_rewind {X : ew_X} {l : Launch} (hX : ew_Ap X) {E : ew_M → ew_S} (hE1 : ew_GE X 42 (ew_GL X.2.1) E) {Q : ew_M → Prop} {s1 : ew_M} (h : wX0_rewind Q s1) : Met l yX0_rewind wsX0_rewind ({ frames := 0, cells := 0, slots := 0, locals := 0 } : Room) (va_Pc [.ref (X.2.1 42)] (ew_wd X (E s1))) (va_Qv (fun (u : ew_M) => Q u) (fun (u : ew_M) => ew_wd X ((fun (u : ew_M) => E u) u)) X.2.2.1) 0 0 X.2.2.1 := by
  refine ew_met (As := [.ref (X.2.1 42)]) (L0 := [(0, .ref (X.2.1 42))]) X l hX (by decide) rfl rfl rfl rfl (fun C hl Z hR => ?_)
  subst hl
  refine ez_aload_n (pc := 0) Z dX0_rewind_0 0 rfl rfl ?_
  refine ez_iconst (pc := 1) Z dX0_rewind_1 ec_0 ?_
  refine pX0_at (pc := 2) (M := s1) (M' := ew_sI s1 1 (0 : Int32)) Z hE1 rfl inX0_rewind (List.mem_of_getElem? (i := 1) rfl) dX0_rewind_2 ?_
  exact ez_vret (pc := 5) Z hR (ew_sI s1 1 (0 : Int32)) h rfl dX0_rewind_5
theorem inX0_passes : ∀ w ∈ wsX00, w ∈ wsX0_passes := fun _ h => List.mem_cons_of_mem _ (List.mem_append_right _ (h))
theorem hdX0_passes : yX0_passes.cls = RX0 ∧ yX0_passes.cls ≠ "java/lang/invoke/MethodHandle" ∧ yX0_passes.cls ≠ "java/lang/invoke/VarHandle" ∧ (parseMethodDescriptor yX0_passes.desc).map (fun d => d.parameters.length) = some 1 := by decide +kernel
def wX0_passes (Q : Int32 → ew_M → Prop) (p1 : Int32) (s1 : ew_M) : Prop := ((s1.1 0) ≤ (s1.1 1) → Q (0 : Int32) s1) ∧ (¬ (s1.1 0) ≤ (s1.1 1) → vp_in (s1.1 1) 64 ∧ ((¬ (s1.2.1 0 (s1.1 1).toNatClampNeg) = p1 → Q (0 : Int32) s1) ∧ ((s1.2.1 0 (s1.1 1).toNatClampNeg) = p1 → Q (1 : Int32) (ew_sI s1 1 ((s1.1 1) + (1 : Int32))))))
set_option maxHeartbeats 4000000 in
set_option maxRecDepth 100000 in
theorem kX0_passes {X : ew_X} {l : Launch} (hX : ew_Ap X) {E : ew_M → ew_S} (hE1 : ew_GE X 42 (ew_GL X.2.1) E) {Q : Int32 → ew_M → Prop} {p1 : Int32} {s1 : ew_M} (h : wX0_passes Q p1 s1) : Met l yX0_passes wsX0_passes ({ frames := 0, cells := 0, slots := 0, locals := 0 } : Room) (va_Pc [.ref (X.2.1 42), .int p1] (ew_wd X (E s1))) (va_Qi (fun (r : Int32) (u : ew_M) => Q r u) (fun (u : ew_M) => ew_wd X ((fun (u : ew_M) => E u) u)) X.2.2.1) 0 0 X.2.2.1 := by
  refine ew_met (As := [.ref (X.2.1 42), .int p1]) (L0 := [(0, .ref (X.2.1 42)), (1, .int p1)]) X l hX (by decide) rfl rfl rfl rfl (fun C hl Z hR => ?_)
  subst hl
  refine ez_aload_n (pc := 0) Z dX0_passes_0 0 rfl rfl ?_
  refine fX0_at (pc := 1) (v := s1.1 1) Z hE1 rfl inX0_passes (List.mem_of_getElem? (i := 1) rfl) dX0_passes_1 ?_
  refine ez_aload_n (pc := 4) Z dX0_passes_4 0 rfl rfl ?_
  refine fX0_size (pc := 5) (v := s1.1 0) Z hE1 rfl inX0_passes (List.mem_of_getElem? (i := 2) rfl) dX0_passes_5 ?_
  refine ez_icmp_ge (pc := 8) (tgt := 36) Z dX0_passes_8 rfl (fun c1 => ?_) (fun c1 => ?_)
  · replace h := h.1 c1
    refine ez_iconst (pc := 36) Z dX0_passes_36 ec_0 ?_
    exact ez_zret (pc := 37) Z hR s1 rfl h rfl dX0_passes_37
  · replace h := h.2 c1
    refine ez_aload_n (pc := 11) Z dX0_passes_11 0 rfl rfl ?_
    refine fX0_text (pc := 12) (M := s1) Z hE1 inX0_passes (List.mem_of_getElem? (i := 3) rfl) dX0_passes_12 ?_
    refine ez_aload_n (pc := 15) Z dX0_passes_15 0 rfl rfl ?_
    refine fX0_at (pc := 16) (v := s1.1 1) Z hE1 rfl inX0_passes (List.mem_of_getElem? (i := 1) rfl) dX0_passes_16 ?_
    refine ez_iald (pc := 19) (n := 64) (a := 0) (v := s1.2.1 0 (s1.1 1).toNatClampNeg) (M := s1) Z hE1 1 rfl (by decide : 0 < 2) rfl rfl h.1 dX0_passes_19 ?_
    replace h := h.2
    refine ez_iload_n (pc := 20) Z dX0_passes_20 1 rfl rfl ?_
    refine ez_icmp_ne (pc := 21) (tgt := 36) Z dX0_passes_21 rfl (fun c2 => ?_) (fun c2 => ?_)
    · replace h := h.1 c2
      refine ez_iconst (pc := 36) Z dX0_passes_36 ec_0 ?_
      exact ez_zret (pc := 37) Z hR s1 rfl h rfl dX0_passes_37
    · replace h := h.2 c2
      refine ez_aload_n (pc := 24) Z dX0_passes_24 0 rfl rfl ?_
      refine ez_dup (pc := 25) Z dX0_passes_25 rfl ?_
      refine fX0_at (pc := 26) (v := s1.1 1) Z hE1 rfl inX0_passes (List.mem_of_getElem? (i := 1) rfl) dX0_passes_26 ?_
      refine ez_iconst (pc := 29) Z dX0_passes_29 ec_1 ?_
      refine ez_iadd (pc := 30) Z dX0_passes_30 ?_
      refine pX0_at (pc := 31) (M := s1) (M' := ew_sI s1 1 ((s1.1 1) + (1 : Int32))) Z hE1 rfl inX0_passes (List.mem_of_getElem? (i := 1) rfl) dX0_passes_31 ?_
      refine ez_iconst (pc := 34) Z dX0_passes_34 ec_1 ?_
      exact ez_zret (pc := 35) Z hR (ew_sI s1 1 ((s1.1 1) + (1 : Int32))) rfl h rfl dX0_passes_35
theorem hdJ0_isLatin1_aae02 : yJ0_isLatin1_aae02.cls = RJ0 ∧ yJ0_isLatin1_aae02.cls ≠ "java/lang/invoke/MethodHandle" ∧ yJ0_isLatin1_aae02.cls ≠ "java/lang/invoke/VarHandle" ∧ (parseMethodDescriptor yJ0_isLatin1_aae02.desc).map (fun d => d.parameters.length) = some 0 := by decide +kernel
def wJ0_isLatin1_aae02 (Q : Int32 → Prop)  : Prop := ((1 : Int32) = 0 → Q (0 : Int32) ) ∧ (¬ (1 : Int32) = 0 → (¬ (0 : Int32) = 0 → Q (0 : Int32) ) ∧ ((0 : Int32) = 0 → Q (1 : Int32) ))
set_option maxHeartbeats 4000000 in
set_option maxRecDepth 100000 in
theorem kJ0_isLatin1_aae02 {X : ew_X} {l : Launch} (hX : ew_Ap X) {S : ew_S} {Q : Int32 → Prop}  (h : wJ0_isLatin1_aae02 Q ) : Met l yJ0_isLatin1_aae02 wsJ0_isLatin1_aae02 ({ frames := 0, cells := 0, slots := 0, locals := 0 } : Room) (va_Pc [.ref X.2.2.2.2.2.1] (ew_wd X (S))) (va_Qi (fun (r : Int32) (_ : Unit) => Q r) (fun (u : Unit) => ew_wd X ((fun (_ : Unit) => S) u)) X.2.2.1) 0 0 X.2.2.1 := by
  refine ew_met (As := [.ref X.2.2.2.2.2.1]) (L0 := [(0, .ref X.2.2.2.2.2.1)]) X l hX (by decide) rfl rfl rfl rfl (fun C hl Z hR => ?_)
  subst hl
  refine ez_gets (pc := 0) Z (List.mem_of_getElem? (i := 1) rfl) dJ0_isLatin1_aae02_0 ?_
  refine ez_if_eq (pc := 3) (tgt := 17) Z dJ0_isLatin1_aae02_3 rfl (fun c1 => ?_) (fun c1 => ?_)
  · replace h := h.1 c1
    refine ez_iconst (pc := 17) Z dJ0_isLatin1_aae02_17 ec_0 ?_
    exact ez_zret (pc := 18) Z hR () rfl h rfl dJ0_isLatin1_aae02_18
  · replace h := h.2 c1
    refine ez_aload_n (pc := 6) Z dJ0_isLatin1_aae02_6 0 rfl rfl ?_
    refine ez_strc (pc := 7) Z (List.mem_of_getElem? (i := 2) rfl) dJ0_isLatin1_aae02_7 ?_
    refine ez_if_ne (pc := 10) (tgt := 17) Z dJ0_isLatin1_aae02_10 rfl (fun c2 => ?_) (fun c2 => ?_)
    · replace h := h.1 c2
      refine ez_iconst (pc := 17) Z dJ0_isLatin1_aae02_17 ec_0 ?_
      exact ez_zret (pc := 18) Z hR () rfl h rfl dJ0_isLatin1_aae02_18
    · replace h := h.2 c2
      refine ez_iconst (pc := 13) Z dJ0_isLatin1_aae02_13 ec_1 ?_
      refine ez_goto (pc := 14) (tgt := 18) Z dJ0_isLatin1_aae02_14 rfl ?_
      exact ez_zret (pc := 18) Z hR () rfl h rfl dJ0_isLatin1_aae02_18
theorem hdJ0_coder_7d493 : yJ0_coder_7d493.cls = RJ0 ∧ yJ0_coder_7d493.cls ≠ "java/lang/invoke/MethodHandle" ∧ yJ0_coder_7d493.cls ≠ "java/lang/invoke/VarHandle" ∧ (parseMethodDescriptor yJ0_coder_7d493.desc).map (fun d => d.parameters.length) = some 0 := by decide +kernel
def wJ0_coder_7d493 (Q : Int32 → Prop)  : Prop := ((1 : Int32) = 0 → Q (1 : Int32)) ∧ (¬ (1 : Int32) = 0 → Q (0 : Int32))
set_option maxHeartbeats 4000000 in
set_option maxRecDepth 100000 in
theorem kJ0_coder_7d493 {X : ew_X} {l : Launch} (hX : ew_Ap X) {S : ew_S} {Q : Int32 → Prop}  (h : wJ0_coder_7d493 Q ) : Met l yJ0_coder_7d493 wsJ0_coder_7d493 ({ frames := 0, cells := 0, slots := 0, locals := 0 } : Room) (va_Pc [.ref X.2.2.2.2.2.1] (ew_wd X (S))) (va_Qi (fun (r : Int32) (_ : Unit) => Q r) (fun (u : Unit) => ew_wd X ((fun (_ : Unit) => S) u)) X.2.2.1) 0 0 X.2.2.1 := by
  refine ew_met (As := [.ref X.2.2.2.2.2.1]) (L0 := [(0, .ref X.2.2.2.2.2.1)]) X l hX (by decide) rfl rfl rfl rfl (fun C hl Z hR => ?_)
  subst hl
  refine ez_gets (pc := 0) Z (List.mem_of_getElem? (i := 1) rfl) dJ0_coder_7d493_0 ?_
  refine ez_if_eq (pc := 3) (tgt := 13) Z dJ0_coder_7d493_3 rfl (fun c1 => ?_) (fun c1 => ?_)
  · replace h := h.1 c1
    refine ez_iconst (pc := 13) Z dJ0_coder_7d493_13 ec_1 ?_
    exact ez_bret (pc := 14) Z hR () rfl h rfl dJ0_coder_7d493_14
  · replace h := h.2 c1
    refine ez_aload_n (pc := 6) Z dJ0_coder_7d493_6 0 rfl rfl ?_
    refine ez_strc (pc := 7) Z (List.mem_of_getElem? (i := 2) rfl) dJ0_coder_7d493_7 ?_
    refine ez_goto (pc := 10) (tgt := 14) Z dJ0_coder_7d493_10 rfl ?_
    exact ez_bret (pc := 14) Z hR () rfl h rfl dJ0_coder_7d493_14
theorem hdJ0_length_8abf5 : yJ0_length_8abf5.cls = RJ0 ∧ yJ0_length_8abf5.cls ≠ "java/lang/invoke/MethodHandle" ∧ yJ0_length_8abf5.cls ≠ "java/lang/invoke/VarHandle" ∧ (parseMethodDescriptor yJ0_length_8abf5.desc).map (fun d => d.parameters.length) = some 0 := by decide +kernel
def wJ0_length_8abf5 (Q : Int32 → Prop)  : Prop := wJ0_coder_7d493 (fun (r1 : Int32) => Q ((7 : Int32) >>> (r1 &&& 31)) ) 
set_option maxHeartbeats 4000000 in
set_option maxRecDepth 100000 in
theorem kJ0_length_8abf5 {X : ew_X} {l : Launch} (hX : ew_Ap X) {S : ew_S} {Q : Int32 → Prop}  (h : wJ0_length_8abf5 Q ) : Met l yJ0_length_8abf5 wsJ0_length_8abf5 ({ frames := 1, cells := 0, slots := 0, locals := 20 } : Room) (va_Pc [.ref X.2.2.2.2.2.1] (ew_wd X (S))) (va_Qi (fun (r : Int32) (_ : Unit) => Q r) (fun (u : Unit) => ew_wd X ((fun (_ : Unit) => S) u)) X.2.2.1) 0 0 X.2.2.1 := by
  refine ew_met (As := [.ref X.2.2.2.2.2.1]) (L0 := [(0, .ref X.2.2.2.2.2.1)]) X l hX (by decide) rfl rfl rfl rfl (fun C hl Z hR => ?_)
  subst hl
  refine ez_aload_n (pc := 0) Z dJ0_length_8abf5_0 0 rfl rfl ?_
  refine ez_strv (pc := 1) Z (List.mem_of_getElem? (i := 1) rfl) dJ0_length_8abf5_1 ?_
  refine ez_blen (pc := 4) Z dJ0_length_8abf5_4 ?_
  refine ez_aload_n (pc := 5) Z dJ0_length_8abf5_5 0 rfl rfl ?_
  refine ez_callT (pc := 6) (As := []) (st := [.int (7 : Int32)]) Z (kJ0_coder_7d493 Z.2.2.2.2.2.2.2.2.2.1 (S := S) h) gJ0_length_8abf5_J0_coder_7d493 rfl rfl rfl hdJ0_coder_7d493 rfl rfl rfl rfl rfl dJ0_length_8abf5_6 (fun r1 u2 h => ?_)
  refine ez_ishr (pc := 9) Z dJ0_length_8abf5_9 ?_
  exact ez_iret (pc := 10) Z hR () h rfl dJ0_length_8abf5_10
theorem hdJ1_canEncode_9a6ad : yJ1_canEncode_9a6ad.cls ≠ "java/lang/invoke/MethodHandle" ∧ yJ1_canEncode_9a6ad.cls ≠ "java/lang/invoke/VarHandle" ∧ (parseMethodDescriptor yJ1_canEncode_9a6ad.desc).map (fun d => d.parameters.length) = some 1 := by decide +kernel
def wJ1_canEncode_9a6ad (Q : Int32 → Prop) (p1 : Int32) : Prop := (p1 < 0 → Q (0 : Int32) ) ∧ (¬ p1 < 0 → ((255 : Int32) < p1 → Q (0 : Int32) ) ∧ (¬ (255 : Int32) < p1 → Q (1 : Int32) ))
set_option maxHeartbeats 4000000 in
set_option maxRecDepth 100000 in
theorem kJ1_canEncode_9a6ad {X : ew_X} {l : Launch} (hX : ew_Ap X) {S : ew_S} {Q : Int32 → Prop} {p1 : Int32} (h : wJ1_canEncode_9a6ad Q p1) : Met l yJ1_canEncode_9a6ad wsJ1_canEncode_9a6ad ({ frames := 0, cells := 0, slots := 0, locals := 0 } : Room) (va_Pc [.int p1] (ew_wd X (S))) (va_Qi (fun (r : Int32) (_ : Unit) => Q r) (fun (u : Unit) => ew_wd X ((fun (_ : Unit) => S) u)) X.2.2.1) 0 0 X.2.2.1 := by
  refine ew_met (As := [.int p1]) (L0 := [(0, .int p1)]) X l hX (by decide) rfl rfl rfl rfl (fun C hl Z hR => ?_)
  subst hl
  refine ez_iload_n (pc := 0) Z dJ1_canEncode_9a6ad_0 0 rfl rfl ?_
  refine ez_if_lt (pc := 1) (tgt := 15) Z dJ1_canEncode_9a6ad_1 rfl (fun c1 => ?_) (fun c1 => ?_)
  · replace h := h.1 c1
    refine ez_iconst (pc := 15) Z dJ1_canEncode_9a6ad_15 ec_0 ?_
    exact ez_zret (pc := 16) Z hR () rfl h rfl dJ1_canEncode_9a6ad_16
  · replace h := h.2 c1
    refine ez_iload_n (pc := 4) Z dJ1_canEncode_9a6ad_4 0 rfl rfl ?_
    refine ez_sipush (pc := 5) Z dJ1_canEncode_9a6ad_5 es_255 ?_
    refine ez_icmp_gt (pc := 8) (tgt := 15) Z dJ1_canEncode_9a6ad_8 rfl (fun c2 => ?_) (fun c2 => ?_)
    · replace h := h.1 c2
      refine ez_iconst (pc := 15) Z dJ1_canEncode_9a6ad_15 ec_0 ?_
      exact ez_zret (pc := 16) Z hR () rfl h rfl dJ1_canEncode_9a6ad_16
    · replace h := h.2 c2
      refine ez_iconst (pc := 11) Z dJ1_canEncode_9a6ad_11 ec_1 ?_
      refine ez_goto (pc := 12) (tgt := 16) Z dJ1_canEncode_9a6ad_12 rfl ?_
      exact ez_zret (pc := 16) Z hR () rfl h rfl dJ1_canEncode_9a6ad_16
theorem hdJ1_indexOfChar_4cfef : yJ1_indexOfChar_4cfef.cls ≠ "java/lang/invoke/MethodHandle" ∧ yJ1_indexOfChar_4cfef.cls ≠ "java/lang/invoke/VarHandle" ∧ (parseMethodDescriptor yJ1_indexOfChar_4cfef.desc).map (fun d => d.parameters.length) = some 4 := by decide +kernel
def wJ1_indexOfChar_4cfef_7 (R7 : Int32 → Prop) (Q : Int32 → Prop) (v3 : Int32) (v4 : Int32) (v5 : Int32) : Prop := (v3 ≤ v5 → Q (-1 : Int32) ) ∧ (¬ v3 ≤ v5 → vp_in v5 7 ∧ ((¬ (ew_kinds v5.toNatClampNeg) = v4 → R7 (v5 + (1 : Int32))) ∧ ((ew_kinds v5.toNatClampNeg) = v4 → Q v5 )))
def wJ1_indexOfChar_4cfef (Q : Int32 → Prop) (p2 : Int32) (p3 : Int32) (p4 : Int32) : Prop := ew_lp (fun (R : Int32 → Prop) (x : Int32) => wJ1_indexOfChar_4cfef_7 R Q p4 p2.toInt8.toInt32 x) p3
set_option maxHeartbeats 4000000 in
set_option maxRecDepth 100000 in
theorem tJ1_indexOfChar_4cfef_7 {C : ew_C} {X : ew_X} {S : ew_S} (Z : ew_Z C X cJ1_indexOfChar_4cfef 6 RJ1 wsJ1_indexOfChar_4cfef ({ frames := 0, cells := 0, slots := 0, locals := 0 } : Room) (some .int)) {Q : Int32 → Prop} {R7 : Int32 → Prop} {v3 : Int32} {v4 : Int32} {v5 : Int32} (hR : C.2.2.2.2.2.2.2.2.2.2 = MQ C.2.2.2.2.2.2.2.1 (va_Qi (fun (r : Int32) (_ : Unit) => Q r) (fun (u : Unit) => ew_wd X ((fun (_ : Unit) => S) u)) X.2.2.1) C.2.2.2.2.2.2.1 C.2.2.2.2.1 0 0 X.2.2.1) (hR7 : ∀ x : Int32, R7 x → ew_W C X 6 (S) 7 [(0, .ref X.2.2.2.2.2.2), (3, .int v3), (4, .int v4), (5, .int x)] []) (h : wJ1_indexOfChar_4cfef_7 R7 Q v3 v4 v5) : ew_W C X 6 (S) 7 [(0, .ref X.2.2.2.2.2.2), (3, .int v3), (4, .int v4), (5, .int v5)] [] := by
  refine ez_iload (pc := 7) Z dJ1_indexOfChar_4cfef_7 3 rfl ?_
  refine ez_iload_n (pc := 9) Z dJ1_indexOfChar_4cfef_9 1 rfl rfl ?_
  refine ez_icmp_ge (pc := 10) (tgt := 31) Z dJ1_indexOfChar_4cfef_10 rfl (fun c1 => ?_) (fun c1 => ?_)
  · replace h := h.1 c1
    refine ez_iconst (pc := 31) Z dJ1_indexOfChar_4cfef_31 ec_m1 ?_
    exact ez_iret (pc := 32) Z hR () h rfl dJ1_indexOfChar_4cfef_32
  · replace h := h.2 c1
    refine ez_aload_n (pc := 13) Z dJ1_indexOfChar_4cfef_13 0 rfl rfl ?_
    refine ez_iload (pc := 14) Z dJ1_indexOfChar_4cfef_14 3 rfl ?_
    refine ez_bald (pc := 16) Z h.1 dJ1_indexOfChar_4cfef_16 ?_
    replace h := h.2
    refine ez_iload (pc := 17) Z dJ1_indexOfChar_4cfef_17 2 rfl ?_
    refine ez_icmp_ne (pc := 19) (tgt := 25) Z dJ1_indexOfChar_4cfef_19 rfl (fun c2 => ?_) (fun c2 => ?_)
    · replace h := h.1 c2
      refine ez_iinc (pc := 25) (L' := [(5, .int (v5 + (1 : Int32))), (0, .ref X.2.2.2.2.2.2), (3, .int v3), (4, .int v4)]) Z dJ1_indexOfChar_4cfef_25 3 rfl (ei_1 _) (by decide) rfl ?_
      refine ez_goto (pc := 28) (tgt := 7) Z dJ1_indexOfChar_4cfef_28 rfl ?_
      refine ez_sub [(0, .ref X.2.2.2.2.2.2), (3, .int v3), (4, .int v4), (5, .int (v5 + (1 : Int32)))] [1, 2, 3, 0] rfl ?_
      exact hR7 _ h
    · replace h := h.2 c2
      refine ez_iload (pc := 22) Z dJ1_indexOfChar_4cfef_22 3 rfl ?_
      exact ez_iret (pc := 24) Z hR () h rfl dJ1_indexOfChar_4cfef_24
set_option maxHeartbeats 4000000 in
set_option maxRecDepth 100000 in
theorem kJ1_indexOfChar_4cfef {X : ew_X} {l : Launch} (hX : ew_Ap X) {S : ew_S} {Q : Int32 → Prop} {p2 : Int32} {p3 : Int32} {p4 : Int32} (h : wJ1_indexOfChar_4cfef Q p2 p3 p4) : Met l yJ1_indexOfChar_4cfef wsJ1_indexOfChar_4cfef ({ frames := 0, cells := 0, slots := 0, locals := 0 } : Room) (va_Pc [.ref X.2.2.2.2.2.2, .int p2, .int p3, .int p4] (ew_wd X (S))) (va_Qi (fun (r : Int32) (_ : Unit) => Q r) (fun (u : Unit) => ew_wd X ((fun (_ : Unit) => S) u)) X.2.2.1) 0 0 X.2.2.1 := by
  refine ew_met (As := [.ref X.2.2.2.2.2.2, .int p2, .int p3, .int p4]) (L0 := [(0, .ref X.2.2.2.2.2.2), (1, .int p2), (2, .int p3), (3, .int p4)]) X l hX (by decide) rfl rfl rfl rfl (fun C hl Z hR => ?_)
  subst hl
  refine ez_iload_n (pc := 0) Z dJ1_indexOfChar_4cfef_0 1 rfl rfl ?_
  refine ez_i2b (pc := 1) Z dJ1_indexOfChar_4cfef_1 ?_
  refine ez_istore (pc := 2) (L' := [(4, .int p2.toInt8.toInt32), (0, .ref X.2.2.2.2.2.2), (1, .int p2), (2, .int p3), (3, .int p4)]) Z dJ1_indexOfChar_4cfef_2 (by decide) rfl ?_
  refine ez_iload_n (pc := 4) Z dJ1_indexOfChar_4cfef_4 3 rfl rfl ?_
  refine ez_istore (pc := 5) (L' := [(5, .int p3), (4, .int p2.toInt8.toInt32), (0, .ref X.2.2.2.2.2.2), (1, .int p2), (2, .int p3), (3, .int p4)]) Z dJ1_indexOfChar_4cfef_5 (by decide) rfl ?_
  refine ez_sub [(0, .ref X.2.2.2.2.2.2), (3, .int p4), (4, .int p2.toInt8.toInt32), (5, .int p3)] [2, 5, 1, 0] rfl ?_
  exact ew_ind (P := fun (x : Int32) => ew_W C X 6 (S) 7 [(0, .ref X.2.2.2.2.2.2), (3, .int p4), (4, .int p2.toInt8.toInt32), (5, .int x)] []) (fun R hR9 x h => tJ1_indexOfChar_4cfef_7  Z hR  hR9 h) h
theorem hdJ1_indexOf_4cfef : yJ1_indexOf_4cfef.cls ≠ "java/lang/invoke/MethodHandle" ∧ yJ1_indexOf_4cfef.cls ≠ "java/lang/invoke/VarHandle" ∧ (parseMethodDescriptor yJ1_indexOf_4cfef.desc).map (fun d => d.parameters.length) = some 4 := by decide +kernel
def wJ1_indexOf_4cfef (Q : Int32 → Prop) (p2 : Int32) (p3 : Int32) (p4 : Int32) : Prop := wJ1_canEncode_9a6ad (fun (r1 : Int32) => (¬ r1 = 0 → ((if p3 < (0 : Int32) then (0 : Int32) else p3) < (if (7 : Int32) < p4 then (7 : Int32) else p4) → wJ1_indexOfChar_4cfef (fun (r5 : Int32) => Q r5 ) p2 (if p3 < (0 : Int32) then (0 : Int32) else p3) (if (7 : Int32) < p4 then (7 : Int32) else p4)) ∧ (¬ (if p3 < (0 : Int32) then (0 : Int32) else p3) < (if (7 : Int32) < p4 then (7 : Int32) else p4) → Q (-1 : Int32) )) ∧ (r1 = 0 → Q (-1 : Int32) )) p2
set_option maxHeartbeats 4000000 in
set_option maxRecDepth 100000 in
theorem kJ1_indexOf_4cfef {X : ew_X} {l : Launch} (hX : ew_Ap X) {S : ew_S} {Q : Int32 → Prop} {p2 : Int32} {p3 : Int32} {p4 : Int32} (h : wJ1_indexOf_4cfef Q p2 p3 p4) : Met l yJ1_indexOf_4cfef wsJ1_indexOf_4cfef ({ frames := 1, cells := 0, slots := 0, locals := 25 } : Room) (va_Pc [.ref X.2.2.2.2.2.2, .int p2, .int p3, .int p4] (ew_wd X (S))) (va_Qi (fun (r : Int32) (_ : Unit) => Q r) (fun (u : Unit) => ew_wd X ((fun (_ : Unit) => S) u)) X.2.2.1) 0 0 X.2.2.1 := by
  refine ew_met (As := [.ref X.2.2.2.2.2.2, .int p2, .int p3, .int p4]) (L0 := [(0, .ref X.2.2.2.2.2.2), (1, .int p2), (2, .int p3), (3, .int p4)]) X l hX (by decide) rfl rfl rfl rfl (fun C hl Z hR => ?_)
  subst hl
  refine ez_iload_n (pc := 0) Z dJ1_indexOf_4cfef_0 1 rfl rfl ?_
  refine ez_callSi (pc := 1) (As := [.int p2]) (st := []) Z (kJ1_canEncode_9a6ad Z.2.2.2.2.2.2.2.2.2.1 (S := S) h) gJ1_indexOf_4cfef_J1_canEncode_9a6ad rfl rfl rfl hdJ1_canEncode_9a6ad rfl rfl rfl rfl rfl dJ1_indexOf_4cfef_1 (fun r1 u2 h => ?_)
  refine ez_if_ne (pc := 4) (tgt := 9) Z dJ1_indexOf_4cfef_4 rfl (fun c3 => ?_) (fun c3 => ?_)
  · replace h := h.1 c3
    refine ez_iload_n (pc := 9) Z dJ1_indexOf_4cfef_9 2 rfl rfl ?_
    refine ez_iconst (pc := 10) Z dJ1_indexOf_4cfef_10 ec_0 ?_
    refine ez_max (pc := 11) Z (List.mem_of_getElem? (i := 1) rfl) (List.mem_of_getElem? (i := 2) rfl) (List.mem_of_getElem? (i := 3) rfl) (List.mem_of_getElem? (i := 4) rfl) rfl rfl dJ1_indexOf_4cfef_11 ?_
    refine ez_istore_n (pc := 14) (L' := [(2, .int (if p3 < (0 : Int32) then (0 : Int32) else p3)), (0, .ref X.2.2.2.2.2.2), (1, .int p2), (3, .int p4)]) Z dJ1_indexOf_4cfef_14 rfl (by decide) rfl ?_
    refine ez_iload_n (pc := 15) Z dJ1_indexOf_4cfef_15 3 rfl rfl ?_
    refine ez_aload_n (pc := 16) Z dJ1_indexOf_4cfef_16 1 rfl rfl ?_
    refine ez_blen (pc := 17) Z dJ1_indexOf_4cfef_17 ?_
    refine ez_min (pc := 18) Z (List.mem_of_getElem? (i := 5) rfl) (List.mem_of_getElem? (i := 6) rfl) (List.mem_of_getElem? (i := 3) rfl) (List.mem_of_getElem? (i := 7) rfl) rfl rfl dJ1_indexOf_4cfef_18 ?_
    refine ez_istore_n (pc := 21) (L' := [(3, .int (if (7 : Int32) < p4 then (7 : Int32) else p4)), (2, .int (if p3 < (0 : Int32) then (0 : Int32) else p3)), (0, .ref X.2.2.2.2.2.2), (1, .int p2)]) Z dJ1_indexOf_4cfef_21 rfl (by decide) rfl ?_
    refine ez_iload_n (pc := 22) Z dJ1_indexOf_4cfef_22 1 rfl rfl ?_
    refine ez_iload_n (pc := 23) Z dJ1_indexOf_4cfef_23 0 rfl rfl ?_
    refine ez_icmp_lt (pc := 24) (tgt := 29) Z dJ1_indexOf_4cfef_24 rfl (fun c4 => ?_) (fun c4 => ?_)
    · replace h := h.1 c4
      refine ez_aload_n (pc := 29) Z dJ1_indexOf_4cfef_29 2 rfl rfl ?_
      refine ez_iload_n (pc := 30) Z dJ1_indexOf_4cfef_30 3 rfl rfl ?_
      refine ez_iload_n (pc := 31) Z dJ1_indexOf_4cfef_31 1 rfl rfl ?_
      refine ez_iload_n (pc := 32) Z dJ1_indexOf_4cfef_32 0 rfl rfl ?_
      refine ez_callSi (pc := 33) (As := [.ref X.2.2.2.2.2.2, .int p2, .int (if p3 < (0 : Int32) then (0 : Int32) else p3), .int (if (7 : Int32) < p4 then (7 : Int32) else p4)]) (st := []) Z (kJ1_indexOfChar_4cfef Z.2.2.2.2.2.2.2.2.2.1 (S := S) h) gJ1_indexOf_4cfef_J1_indexOfChar_4cfef rfl rfl rfl hdJ1_indexOfChar_4cfef rfl rfl rfl rfl rfl dJ1_indexOf_4cfef_33 (fun r5 u6 h => ?_)
      exact ez_iret (pc := 36) Z hR () h rfl dJ1_indexOf_4cfef_36
    · replace h := h.2 c4
      refine ez_iconst (pc := 27) Z dJ1_indexOf_4cfef_27 ec_m1 ?_
      exact ez_iret (pc := 28) Z hR () h rfl dJ1_indexOf_4cfef_28
  · replace h := h.2 c3
    refine ez_iconst (pc := 7) Z dJ1_indexOf_4cfef_7 ec_m1 ?_
    exact ez_iret (pc := 8) Z hR () h rfl dJ1_indexOf_4cfef_8
theorem hdJ0_indexOf_7cf53 : yJ0_indexOf_7cf53.cls = RJ0 ∧ yJ0_indexOf_7cf53.cls ≠ "java/lang/invoke/MethodHandle" ∧ yJ0_indexOf_7cf53.cls ≠ "java/lang/invoke/VarHandle" ∧ (parseMethodDescriptor yJ0_indexOf_7cf53.desc).map (fun d => d.parameters.length) = some 2 := by decide +kernel
def wJ0_indexOf_7cf53 (Q : Int32 → Prop) (p1 : Int32) (p2 : Int32) : Prop := wJ0_isLatin1_aae02 (fun (r1 : Int32) => r1 = (1 : Int32) ∧ (wJ0_length_8abf5 (fun (r3 : Int32) => wJ1_indexOf_4cfef (fun (r5 : Int32) => Q r5 ) p1 p2 r3) )) 
set_option maxHeartbeats 4000000 in
set_option maxRecDepth 100000 in
theorem kJ0_indexOf_7cf53 {X : ew_X} {l : Launch} (hX : ew_Ap X) {S : ew_S} {Q : Int32 → Prop} {p1 : Int32} {p2 : Int32} (h : wJ0_indexOf_7cf53 Q p1 p2) : Met l yJ0_indexOf_7cf53 wsJ0_indexOf_7cf53 ({ frames := 2, cells := 0, slots := 0, locals := 48 } : Room) (va_Pc [.ref X.2.2.2.2.2.1, .int p1, .int p2] (ew_wd X (S))) (va_Qi (fun (r : Int32) (_ : Unit) => Q r) (fun (u : Unit) => ew_wd X ((fun (_ : Unit) => S) u)) X.2.2.1) 0 0 X.2.2.1 := by
  refine ew_met (As := [.ref X.2.2.2.2.2.1, .int p1, .int p2]) (L0 := [(0, .ref X.2.2.2.2.2.1), (1, .int p1), (2, .int p2)]) X l hX (by decide) rfl rfl rfl rfl (fun C hl Z hR => ?_)
  subst hl
  refine ez_aload_n (pc := 0) Z dJ0_indexOf_7cf53_0 0 rfl rfl ?_
  refine ez_callT (pc := 1) (As := []) (st := []) Z (kJ0_isLatin1_aae02 Z.2.2.2.2.2.2.2.2.2.1 (S := S) h) gJ0_indexOf_7cf53_J0_isLatin1_aae02 rfl rfl rfl hdJ0_isLatin1_aae02 rfl rfl rfl rfl rfl dJ0_indexOf_7cf53_1 (fun r1 u2 h => ?_)
  obtain ⟨rfl, h⟩ := h
  refine ez_if_eq (pc := 4) (tgt := 23) Z dJ0_indexOf_7cf53_4 rfl (fun c => absurd c (by decide)) (fun _ => ?_)
  refine ez_aload_n (pc := 7) Z dJ0_indexOf_7cf53_7 0 rfl rfl ?_
  refine ez_strv (pc := 8) Z (List.mem_of_getElem? (i := 1) rfl) dJ0_indexOf_7cf53_8 ?_
  refine ez_iload_n (pc := 11) Z dJ0_indexOf_7cf53_11 1 rfl rfl ?_
  refine ez_iload_n (pc := 12) Z dJ0_indexOf_7cf53_12 2 rfl rfl ?_
  refine ez_aload_n (pc := 13) Z dJ0_indexOf_7cf53_13 0 rfl rfl ?_
  refine ez_callT (pc := 14) (As := []) (st := [.int p2, .int p1, .ref X.2.2.2.2.2.2]) Z (kJ0_length_8abf5 Z.2.2.2.2.2.2.2.2.2.1 (S := S) h) gJ0_indexOf_7cf53_J0_length_8abf5 rfl rfl rfl hdJ0_length_8abf5 rfl rfl rfl rfl rfl dJ0_indexOf_7cf53_14 (fun r3 u4 h => ?_)
  refine ez_callSi (pc := 17) (As := [.ref X.2.2.2.2.2.2, .int p1, .int p2, .int r3]) (st := []) Z (kJ1_indexOf_4cfef Z.2.2.2.2.2.2.2.2.2.1 (S := S) h) gJ0_indexOf_7cf53_J1_indexOf_4cfef rfl rfl rfl hdJ1_indexOf_4cfef rfl rfl rfl rfl rfl dJ0_indexOf_7cf53_17 (fun r5 u6 h => ?_)
  refine ez_goto (pc := 20) (tgt := 36) Z dJ0_indexOf_7cf53_20 rfl ?_
  exact ez_iret (pc := 36) Z hR () h rfl dJ0_indexOf_7cf53_36
theorem hdJ0_indexOf_0f7a4 : yJ0_indexOf_0f7a4.cls = RJ0 ∧ yJ0_indexOf_0f7a4.cls ≠ "java/lang/invoke/MethodHandle" ∧ yJ0_indexOf_0f7a4.cls ≠ "java/lang/invoke/VarHandle" ∧ (parseMethodDescriptor yJ0_indexOf_0f7a4.desc).map (fun d => d.parameters.length) = some 1 := by decide +kernel
def wJ0_indexOf_0f7a4 (Q : Int32 → Prop) (p1 : Int32) : Prop := wJ0_indexOf_7cf53 (fun (r1 : Int32) => Q r1 ) p1 (0 : Int32)
set_option maxHeartbeats 4000000 in
set_option maxRecDepth 100000 in
theorem kJ0_indexOf_0f7a4 {X : ew_X} {l : Launch} (hX : ew_Ap X) {S : ew_S} {Q : Int32 → Prop} {p1 : Int32} (h : wJ0_indexOf_0f7a4 Q p1) : Met l yJ0_indexOf_0f7a4 wsJ0_indexOf_0f7a4 ({ frames := 3, cells := 0, slots := 0, locals := 70 } : Room) (va_Pc [.ref X.2.2.2.2.2.1, .int p1] (ew_wd X (S))) (va_Qi (fun (r : Int32) (_ : Unit) => Q r) (fun (u : Unit) => ew_wd X ((fun (_ : Unit) => S) u)) X.2.2.1) 0 0 X.2.2.1 := by
  refine ew_met (As := [.ref X.2.2.2.2.2.1, .int p1]) (L0 := [(0, .ref X.2.2.2.2.2.1), (1, .int p1)]) X l hX (by decide) rfl rfl rfl rfl (fun C hl Z hR => ?_)
  subst hl
  refine ez_aload_n (pc := 0) Z dJ0_indexOf_0f7a4_0 0 rfl rfl ?_
  refine ez_iload_n (pc := 1) Z dJ0_indexOf_0f7a4_1 1 rfl rfl ?_
  refine ez_iconst (pc := 2) Z dJ0_indexOf_0f7a4_2 ec_0 ?_
  refine ez_callT (pc := 3) (As := [.int p1, .int (0 : Int32)]) (st := []) Z (kJ0_indexOf_7cf53 Z.2.2.2.2.2.2.2.2.2.1 (S := S) h) gJ0_indexOf_0f7a4_J0_indexOf_7cf53 rfl rfl rfl hdJ0_indexOf_7cf53 rfl rfl rfl rfl rfl dJ0_indexOf_0f7a4_3 (fun r1 u2 h => ?_)
  exact ez_iret (pc := 6) Z hR () h rfl dJ0_indexOf_0f7a4_6
theorem inX0_passesKind : ∀ w ∈ wsX00, w ∈ wsX0_passesKind := fun _ h => List.mem_cons_of_mem _ (List.mem_append_right _ (h))
theorem hdX0_passesKind : yX0_passesKind.cls = RX0 ∧ yX0_passesKind.cls ≠ "java/lang/invoke/MethodHandle" ∧ yX0_passesKind.cls ≠ "java/lang/invoke/VarHandle" ∧ (parseMethodDescriptor yX0_passesKind.desc).map (fun d => d.parameters.length) = some 0 := by decide +kernel
def wX0_passesKind_30  (Q : Int32 → ew_M → Prop) (t0 : Int32) (s1 : ew_M) : Prop := (0 ≤ t0 → Q (1 : Int32) (ew_sI (ew_sA s1 1 0 t0) 1 ((s1.1 1) + (1 : Int32)))) ∧ (¬ 0 ≤ t0 → Q (0 : Int32) s1)
def wX0_passesKind (Q : Int32 → ew_M → Prop) (s1 : ew_M) : Prop := ((s1.1 0) ≤ (s1.1 1) → wX0_passesKind_30 Q (-1 : Int32) s1) ∧ (¬ (s1.1 0) ≤ (s1.1 1) → vp_in (s1.1 1) 64 ∧ (wJ0_indexOf_0f7a4 (fun (r2 : Int32) => wX0_passesKind_30 Q r2 s1) (((s1.2.1 0 (s1.1 1).toNatClampNeg).toUInt32 % 65536).toInt32)))
set_option maxHeartbeats 4000000 in
set_option maxRecDepth 100000 in
theorem tX0_passesKind_30 {C : ew_C} {X : ew_X} {E : ew_M → ew_S} (hE1 : ew_GE X 42 (ew_GL X.2.1) E) (Z : ew_Z C X cX0_passesKind 2 RX0 wsX0_passesKind ({ frames := 4, cells := 0, slots := 0, locals := 91 } : Room) (some .boolean)) {Q : Int32 → ew_M → Prop}  {t0 : Int32} {s1 : ew_M} (hR : C.2.2.2.2.2.2.2.2.2.2 = MQ C.2.2.2.2.2.2.2.1 (va_Qi (fun (r : Int32) (u : ew_M) => Q r u) (fun (u : ew_M) => ew_wd X ((fun (u : ew_M) => E u) u)) X.2.2.1) C.2.2.2.2.2.2.1 C.2.2.2.2.1 0 0 X.2.2.1) (h : wX0_passesKind_30 Q t0 s1) : ew_W C X 2 (E s1) 30 [(0, .ref (X.2.1 42))] [.int t0] := by
  refine ez_istore_n (pc := 30) (L' := [(1, .int t0), (0, .ref (X.2.1 42))]) Z dX0_passesKind_30 rfl (by decide) rfl ?_
  refine ez_iload_n (pc := 31) Z dX0_passesKind_31 0 rfl rfl ?_
  refine ez_if_ge (pc := 32) (tgt := 37) Z dX0_passesKind_32 rfl (fun c1 => ?_) (fun c1 => ?_)
  · replace h := h.1 c1
    refine ez_aload_n (pc := 37) Z dX0_passesKind_37 1 rfl rfl ?_
    refine fX0_numbers (pc := 38) (M := s1) Z hE1 inX0_passesKind (List.mem_of_getElem? (i := 4) rfl) dX0_passesKind_38 ?_
    refine ez_iconst (pc := 41) Z dX0_passesKind_41 ec_0 ?_
    refine ez_iload_n (pc := 42) Z dX0_passesKind_42 0 rfl rfl ?_
    refine ez_iast (pc := 43) (n := 6) (a := 1) (M := s1) (M' := ew_sA s1 1 0 t0) Z hE1 2 rfl (by decide : 1 < 2) rfl (by rw [ek_0]) (by unfold vp_in; decide) dX0_passesKind_43 ?_
    refine ez_aload_n (pc := 44) Z dX0_passesKind_44 1 rfl rfl ?_
    refine ez_dup (pc := 45) Z dX0_passesKind_45 rfl ?_
    refine fX0_at (pc := 46) (v := s1.1 1) Z hE1 rfl inX0_passesKind (List.mem_of_getElem? (i := 1) rfl) dX0_passesKind_46 ?_
    refine ez_iconst (pc := 49) Z dX0_passesKind_49 ec_1 ?_
    refine ez_iadd (pc := 50) Z dX0_passesKind_50 ?_
    refine pX0_at (pc := 51) (M := ew_sA s1 1 0 t0) (M' := ew_sI (ew_sA s1 1 0 t0) 1 ((s1.1 1) + (1 : Int32))) Z hE1 rfl inX0_passesKind (List.mem_of_getElem? (i := 1) rfl) dX0_passesKind_51 ?_
    refine ez_iconst (pc := 54) Z dX0_passesKind_54 ec_1 ?_
    exact ez_zret (pc := 55) Z hR (ew_sI (ew_sA s1 1 0 t0) 1 ((s1.1 1) + (1 : Int32))) rfl h rfl dX0_passesKind_55
  · replace h := h.2 c1
    refine ez_iconst (pc := 35) Z dX0_passesKind_35 ec_0 ?_
    exact ez_zret (pc := 36) Z hR s1 rfl h rfl dX0_passesKind_36
set_option maxHeartbeats 4000000 in
set_option maxRecDepth 100000 in
theorem kX0_passesKind {X : ew_X} {l : Launch} (hX : ew_Ap X) {E : ew_M → ew_S} (hE1 : ew_GE X 42 (ew_GL X.2.1) E) {Q : Int32 → ew_M → Prop} {s1 : ew_M} (h : wX0_passesKind Q s1) : Met l yX0_passesKind wsX0_passesKind ({ frames := 4, cells := 0, slots := 0, locals := 91 } : Room) (va_Pc [.ref (X.2.1 42)] (ew_wd X (E s1))) (va_Qi (fun (r : Int32) (u : ew_M) => Q r u) (fun (u : ew_M) => ew_wd X ((fun (u : ew_M) => E u) u)) X.2.2.1) 0 0 X.2.2.1 := by
  refine ew_met (As := [.ref (X.2.1 42)]) (L0 := [(0, .ref (X.2.1 42))]) X l hX (by decide) rfl rfl rfl rfl (fun C hl Z hR => ?_)
  subst hl
  refine ez_aload_n (pc := 0) Z dX0_passesKind_0 0 rfl rfl ?_
  refine fX0_at (pc := 1) (v := s1.1 1) Z hE1 rfl inX0_passesKind (List.mem_of_getElem? (i := 1) rfl) dX0_passesKind_1 ?_
  refine ez_aload_n (pc := 4) Z dX0_passesKind_4 0 rfl rfl ?_
  refine fX0_size (pc := 5) (v := s1.1 0) Z hE1 rfl inX0_passesKind (List.mem_of_getElem? (i := 2) rfl) dX0_passesKind_5 ?_
  refine ez_icmp_ge (pc := 8) (tgt := 29) Z dX0_passesKind_8 rfl (fun c1 => ?_) (fun c1 => ?_)
  · replace h := h.1 c1
    refine ez_iconst (pc := 29) Z dX0_passesKind_29 ec_m1 ?_
    exact tX0_passesKind_30 hE1 Z hR  h
  · replace h := h.2 c1
    refine ez_ldcs (pc := 11) Z dX0_passesKind_11 ?_
    refine ez_aload_n (pc := 13) Z dX0_passesKind_13 0 rfl rfl ?_
    refine fX0_text (pc := 14) (M := s1) Z hE1 inX0_passesKind (List.mem_of_getElem? (i := 3) rfl) dX0_passesKind_14 ?_
    refine ez_aload_n (pc := 17) Z dX0_passesKind_17 0 rfl rfl ?_
    refine fX0_at (pc := 18) (v := s1.1 1) Z hE1 rfl inX0_passesKind (List.mem_of_getElem? (i := 1) rfl) dX0_passesKind_18 ?_
    refine ez_iald (pc := 21) (n := 64) (a := 0) (v := s1.2.1 0 (s1.1 1).toNatClampNeg) (M := s1) Z hE1 1 rfl (by decide : 0 < 2) rfl rfl h.1 dX0_passesKind_21 ?_
    replace h := h.2
    refine ez_i2c (pc := 22) Z dX0_passesKind_22 ?_
    refine ez_callT (pc := 23) (As := [.int (((s1.2.1 0 (s1.1 1).toNatClampNeg).toUInt32 % 65536).toInt32)]) (st := []) Z (kJ0_indexOf_0f7a4 Z.2.2.2.2.2.2.2.2.2.1 (S := E s1) h) gX0_passesKind_J0_indexOf_0f7a4 rfl rfl rfl hdJ0_indexOf_0f7a4 rfl rfl rfl rfl rfl dX0_passesKind_23 (fun r2 u3 h => ?_)
    refine ez_goto (pc := 26) (tgt := 30) Z dX0_passesKind_26 rfl ?_
    exact tX0_passesKind_30 hE1 Z hR  h
theorem inX0_isAtDigit : ∀ w ∈ wsX00, w ∈ wsX0_isAtDigit := fun _ h => List.mem_cons_of_mem _ (List.mem_append_right _ (h))
theorem hdX0_isAtDigit : yX0_isAtDigit.cls = RX0 ∧ yX0_isAtDigit.cls ≠ "java/lang/invoke/MethodHandle" ∧ yX0_isAtDigit.cls ≠ "java/lang/invoke/VarHandle" ∧ (parseMethodDescriptor yX0_isAtDigit.desc).map (fun d => d.parameters.length) = some 0 := by decide +kernel
def wX0_isAtDigit (Q : Int32 → Prop) (s1 : ew_M) : Prop := ((s1.1 0) ≤ (s1.1 1) → Q (0 : Int32) ) ∧ (¬ (s1.1 0) ≤ (s1.1 1) → vp_in (s1.1 1) 64 ∧ (((s1.2.1 0 (s1.1 1).toNatClampNeg) < (48 : Int32) → Q (0 : Int32) ) ∧ (¬ (s1.2.1 0 (s1.1 1).toNatClampNeg) < (48 : Int32) → vp_in (s1.1 1) 64 ∧ (((57 : Int32) < (s1.2.1 0 (s1.1 1).toNatClampNeg) → Q (0 : Int32) ) ∧ (¬ (57 : Int32) < (s1.2.1 0 (s1.1 1).toNatClampNeg) → Q (1 : Int32) )))))
set_option maxHeartbeats 4000000 in
set_option maxRecDepth 100000 in
theorem kX0_isAtDigit {X : ew_X} {l : Launch} (hX : ew_Ap X) {E : ew_M → ew_S} (hE1 : ew_GE X 42 (ew_GL X.2.1) E) {Q : Int32 → Prop} {s1 : ew_M} (h : wX0_isAtDigit Q s1) : Met l yX0_isAtDigit wsX0_isAtDigit ({ frames := 0, cells := 0, slots := 0, locals := 0 } : Room) (va_Pc [.ref (X.2.1 42)] (ew_wd X (E s1))) (va_Qi (fun (r : Int32) (_ : Unit) => Q r) (fun (u : Unit) => ew_wd X ((fun (_ : Unit) => E s1) u)) X.2.2.1) 0 0 X.2.2.1 := by
  refine ew_met (As := [.ref (X.2.1 42)]) (L0 := [(0, .ref (X.2.1 42))]) X l hX (by decide) rfl rfl rfl rfl (fun C hl Z hR => ?_)
  subst hl
  refine ez_aload_n (pc := 0) Z dX0_isAtDigit_0 0 rfl rfl ?_
  refine fX0_at (pc := 1) (v := s1.1 1) Z hE1 rfl inX0_isAtDigit (List.mem_of_getElem? (i := 1) rfl) dX0_isAtDigit_1 ?_
  refine ez_aload_n (pc := 4) Z dX0_isAtDigit_4 0 rfl rfl ?_
  refine fX0_size (pc := 5) (v := s1.1 0) Z hE1 rfl inX0_isAtDigit (List.mem_of_getElem? (i := 2) rfl) dX0_isAtDigit_5 ?_
  refine ez_icmp_ge (pc := 8) (tgt := 43) Z dX0_isAtDigit_8 rfl (fun c1 => ?_) (fun c1 => ?_)
  · replace h := h.1 c1
    refine ez_iconst (pc := 43) Z dX0_isAtDigit_43 ec_0 ?_
    exact ez_zret (pc := 44) Z hR () rfl h rfl dX0_isAtDigit_44
  · replace h := h.2 c1
    refine ez_aload_n (pc := 11) Z dX0_isAtDigit_11 0 rfl rfl ?_
    refine fX0_text (pc := 12) (M := s1) Z hE1 inX0_isAtDigit (List.mem_of_getElem? (i := 3) rfl) dX0_isAtDigit_12 ?_
    refine ez_aload_n (pc := 15) Z dX0_isAtDigit_15 0 rfl rfl ?_
    refine fX0_at (pc := 16) (v := s1.1 1) Z hE1 rfl inX0_isAtDigit (List.mem_of_getElem? (i := 1) rfl) dX0_isAtDigit_16 ?_
    refine ez_iald (pc := 19) (n := 64) (a := 0) (v := s1.2.1 0 (s1.1 1).toNatClampNeg) (M := s1) Z hE1 1 rfl (by decide : 0 < 2) rfl rfl h.1 dX0_isAtDigit_19 ?_
    replace h := h.2
    refine ez_bipush (pc := 20) Z dX0_isAtDigit_20 eb_48 ?_
    refine ez_icmp_lt (pc := 22) (tgt := 43) Z dX0_isAtDigit_22 rfl (fun c2 => ?_) (fun c2 => ?_)
    · replace h := h.1 c2
      refine ez_iconst (pc := 43) Z dX0_isAtDigit_43 ec_0 ?_
      exact ez_zret (pc := 44) Z hR () rfl h rfl dX0_isAtDigit_44
    · replace h := h.2 c2
      refine ez_aload_n (pc := 25) Z dX0_isAtDigit_25 0 rfl rfl ?_
      refine fX0_text (pc := 26) (M := s1) Z hE1 inX0_isAtDigit (List.mem_of_getElem? (i := 3) rfl) dX0_isAtDigit_26 ?_
      refine ez_aload_n (pc := 29) Z dX0_isAtDigit_29 0 rfl rfl ?_
      refine fX0_at (pc := 30) (v := s1.1 1) Z hE1 rfl inX0_isAtDigit (List.mem_of_getElem? (i := 1) rfl) dX0_isAtDigit_30 ?_
      refine ez_iald (pc := 33) (n := 64) (a := 0) (v := s1.2.1 0 (s1.1 1).toNatClampNeg) (M := s1) Z hE1 1 rfl (by decide : 0 < 2) rfl rfl h.1 dX0_isAtDigit_33 ?_
      replace h := h.2
      refine ez_bipush (pc := 34) Z dX0_isAtDigit_34 eb_57 ?_
      refine ez_icmp_gt (pc := 36) (tgt := 43) Z dX0_isAtDigit_36 rfl (fun c3 => ?_) (fun c3 => ?_)
      · replace h := h.1 c3
        refine ez_iconst (pc := 43) Z dX0_isAtDigit_43 ec_0 ?_
        exact ez_zret (pc := 44) Z hR () rfl h rfl dX0_isAtDigit_44
      · replace h := h.2 c3
        refine ez_iconst (pc := 39) Z dX0_isAtDigit_39 ec_1 ?_
        refine ez_goto (pc := 40) (tgt := 44) Z dX0_isAtDigit_40 rfl ?_
        exact ez_zret (pc := 44) Z hR () rfl h rfl dX0_isAtDigit_44
theorem inX0_passesNumber : ∀ w ∈ wsX00, w ∈ wsX0_passesNumber := fun _ h => List.mem_cons_of_mem _ (List.mem_append_right _ (h))
theorem hdX0_passesNumber : yX0_passesNumber.cls = RX0 ∧ yX0_passesNumber.cls ≠ "java/lang/invoke/MethodHandle" ∧ yX0_passesNumber.cls ≠ "java/lang/invoke/VarHandle" ∧ (parseMethodDescriptor yX0_passesNumber.desc).map (fun d => d.parameters.length) = some 2 := by decide +kernel
def wX0_passesNumber_52  (Q : Int32 → ew_M → Prop) (v1 : Int32) (v3 : Int32) (v4 : Int32) (s1 : ew_M) : Prop := vp_in v1 6 ∧ ((v4 ≤ 0 → Q (0 : Int32) (ew_sA s1 1 v1.toNatClampNeg v3)) ∧ (¬ v4 ≤ 0 → Q (1 : Int32) (ew_sA s1 1 v1.toNatClampNeg v3)))
def wX0_passesNumber_5 (R5 : Int32 × Int32 × ew_M → Prop) (Q : Int32 → ew_M → Prop) (v1 : Int32) (v2 : Int32) (v3 : Int32) (v4 : Int32) (s1 : ew_M) : Prop := (v2 ≤ v4 → wX0_passesNumber_52 Q v1 v3 v4 s1) ∧ (¬ v2 ≤ v4 → wX0_isAtDigit (fun (r2 : Int32) => (r2 = 0 → wX0_passesNumber_52 Q v1 v3 v4 s1) ∧ (¬ r2 = 0 → vp_in (s1.1 1) 64 ∧ (R5 (((v3 * (10 : Int32)) + (s1.2.1 0 (s1.1 1).toNatClampNeg)) - (48 : Int32), v4 + (1 : Int32), ew_sI s1 1 ((s1.1 1) + (1 : Int32)))))) s1)
def wX0_passesNumber (Q : Int32 → ew_M → Prop) (p1 : Int32) (p2 : Int32) (s1 : ew_M) : Prop := ew_lp (fun (R : Int32 × Int32 × ew_M → Prop) (x : Int32 × Int32 × ew_M) => wX0_passesNumber_5 R Q p1 p2 x.1 x.2.1 x.2.2) ((0 : Int32), (0 : Int32), s1)
set_option maxHeartbeats 4000000 in
set_option maxRecDepth 100000 in
theorem tX0_passesNumber_52 {C : ew_C} {X : ew_X} {E : ew_M → ew_S} (hE1 : ew_GE X 42 (ew_GL X.2.1) E) (Z : ew_Z C X cX0_passesNumber 5 RX0 wsX0_passesNumber ({ frames := 1, cells := 0, slots := 0, locals := 20 } : Room) (some .boolean)) {Q : Int32 → ew_M → Prop}  {v1 : Int32} {v3 : Int32} {v4 : Int32} {s1 : ew_M} (hR : C.2.2.2.2.2.2.2.2.2.2 = MQ C.2.2.2.2.2.2.2.1 (va_Qi (fun (r : Int32) (u : ew_M) => Q r u) (fun (u : ew_M) => ew_wd X ((fun (u : ew_M) => E u) u)) X.2.2.1) C.2.2.2.2.2.2.1 C.2.2.2.2.1 0 0 X.2.2.1) (h : wX0_passesNumber_52 Q v1 v3 v4 s1) : ew_W C X 5 (E s1) 52 [(0, .ref (X.2.1 42)), (1, .int v1), (3, .int v3), (4, .int v4)] [] := by
  refine ez_aload_n (pc := 52) Z dX0_passesNumber_52 0 rfl rfl ?_
  refine fX0_numbers (pc := 53) (M := s1) Z hE1 inX0_passesNumber (List.mem_of_getElem? (i := 3) rfl) dX0_passesNumber_53 ?_
  refine ez_iload_n (pc := 56) Z dX0_passesNumber_56 1 rfl rfl ?_
  refine ez_iload_n (pc := 57) Z dX0_passesNumber_57 2 rfl rfl ?_
  refine ez_iast (pc := 58) (n := 6) (a := 1) (M := s1) (M' := ew_sA s1 1 v1.toNatClampNeg v3) Z hE1 2 rfl (by decide : 1 < 2) rfl rfl h.1 dX0_passesNumber_58 ?_
  replace h := h.2
  refine ez_iload (pc := 59) Z dX0_passesNumber_59 3 rfl ?_
  refine ez_if_le (pc := 61) (tgt := 68) Z dX0_passesNumber_61 rfl (fun c1 => ?_) (fun c1 => ?_)
  · replace h := h.1 c1
    refine ez_iconst (pc := 68) Z dX0_passesNumber_68 ec_0 ?_
    exact ez_zret (pc := 69) Z hR (ew_sA s1 1 v1.toNatClampNeg v3) rfl h rfl dX0_passesNumber_69
  · replace h := h.2 c1
    refine ez_iconst (pc := 64) Z dX0_passesNumber_64 ec_1 ?_
    refine ez_goto (pc := 65) (tgt := 69) Z dX0_passesNumber_65 rfl ?_
    exact ez_zret (pc := 69) Z hR (ew_sA s1 1 v1.toNatClampNeg v3) rfl h rfl dX0_passesNumber_69
set_option maxHeartbeats 4000000 in
set_option maxRecDepth 100000 in
theorem tX0_passesNumber_5 {C : ew_C} {X : ew_X} {E : ew_M → ew_S} (hE1 : ew_GE X 42 (ew_GL X.2.1) E) (Z : ew_Z C X cX0_passesNumber 5 RX0 wsX0_passesNumber ({ frames := 1, cells := 0, slots := 0, locals := 20 } : Room) (some .boolean)) {Q : Int32 → ew_M → Prop} {R5 : Int32 × Int32 × ew_M → Prop} {v1 : Int32} {v2 : Int32} {v3 : Int32} {v4 : Int32} {s1 : ew_M} (hR : C.2.2.2.2.2.2.2.2.2.2 = MQ C.2.2.2.2.2.2.2.1 (va_Qi (fun (r : Int32) (u : ew_M) => Q r u) (fun (u : ew_M) => ew_wd X ((fun (u : ew_M) => E u) u)) X.2.2.1) C.2.2.2.2.2.2.1 C.2.2.2.2.1 0 0 X.2.2.1) (hR5 : ∀ x : Int32 × Int32 × ew_M, R5 x → ew_W C X 5 (E x.2.2) 5 [(0, .ref (X.2.1 42)), (1, .int v1), (2, .int v2), (3, .int x.1), (4, .int x.2.1)] []) (h : wX0_passesNumber_5 R5 Q v1 v2 v3 v4 s1) : ew_W C X 5 (E s1) 5 [(0, .ref (X.2.1 42)), (1, .int v1), (2, .int v2), (3, .int v3), (4, .int v4)] [] := by
  refine ez_iload (pc := 5) Z dX0_passesNumber_5 4 rfl ?_
  refine ez_iload_n (pc := 7) Z dX0_passesNumber_7 2 rfl rfl ?_
  refine ez_icmp_ge (pc := 8) (tgt := 52) Z dX0_passesNumber_8 rfl (fun c1 => ?_) (fun c1 => ?_)
  · replace h := h.1 c1
    refine ez_sub [(0, .ref (X.2.1 42)), (1, .int v1), (3, .int v3), (4, .int v4)] [0, 1, 3, 4] rfl ?_
    exact tX0_passesNumber_52 hE1 Z hR  h
  · replace h := h.2 c1
    refine ez_aload_n (pc := 11) Z dX0_passesNumber_11 0 rfl rfl ?_
    refine ez_callVi (pc := 12) (r := 42) (As := []) (st := []) Z (kX0_isAtDigit Z.2.2.2.2.2.2.2.2.2.1 (E := E) hE1 h) gX0_passesNumber_X0_isAtDigit rfl rfl rfl hdX0_isAtDigit rfl rfl (by decide) (ew_oL hE1 _) rfl rfl rfl rfl dX0_passesNumber_12 (fun r2 u3 h => ?_)
    refine ez_if_eq (pc := 15) (tgt := 52) Z dX0_passesNumber_15 rfl (fun c4 => ?_) (fun c4 => ?_)
    · replace h := h.1 c4
      refine ez_sub [(0, .ref (X.2.1 42)), (1, .int v1), (3, .int v3), (4, .int v4)] [0, 1, 3, 4] rfl ?_
      exact tX0_passesNumber_52 hE1 Z hR  h
    · replace h := h.2 c4
      refine ez_iload_n (pc := 18) Z dX0_passesNumber_18 3 rfl rfl ?_
      refine ez_bipush (pc := 19) Z dX0_passesNumber_19 eb_10 ?_
      refine ez_imul (pc := 21) Z dX0_passesNumber_21 ?_
      refine ez_aload_n (pc := 22) Z dX0_passesNumber_22 0 rfl rfl ?_
      refine fX0_text (pc := 23) (M := s1) Z hE1 inX0_passesNumber (List.mem_of_getElem? (i := 1) rfl) dX0_passesNumber_23 ?_
      refine ez_aload_n (pc := 26) Z dX0_passesNumber_26 0 rfl rfl ?_
      refine fX0_at (pc := 27) (v := s1.1 1) Z hE1 rfl inX0_passesNumber (List.mem_of_getElem? (i := 2) rfl) dX0_passesNumber_27 ?_
      refine ez_iald (pc := 30) (n := 64) (a := 0) (v := s1.2.1 0 (s1.1 1).toNatClampNeg) (M := s1) Z hE1 1 rfl (by decide : 0 < 2) rfl rfl h.1 dX0_passesNumber_30 ?_
      replace h := h.2
      refine ez_iadd (pc := 31) Z dX0_passesNumber_31 ?_
      refine ez_bipush (pc := 32) Z dX0_passesNumber_32 eb_48 ?_
      refine ez_isub (pc := 34) Z dX0_passesNumber_34 ?_
      refine ez_istore_n (pc := 35) (L' := [(3, .int (((v3 * (10 : Int32)) + (s1.2.1 0 (s1.1 1).toNatClampNeg)) - (48 : Int32))), (0, .ref (X.2.1 42)), (1, .int v1), (2, .int v2), (4, .int v4)]) Z dX0_passesNumber_35 rfl (by decide) rfl ?_
      refine ez_aload_n (pc := 36) Z dX0_passesNumber_36 1 rfl rfl ?_
      refine ez_dup (pc := 37) Z dX0_passesNumber_37 rfl ?_
      refine fX0_at (pc := 38) (v := s1.1 1) Z hE1 rfl inX0_passesNumber (List.mem_of_getElem? (i := 2) rfl) dX0_passesNumber_38 ?_
      refine ez_iconst (pc := 41) Z dX0_passesNumber_41 ec_1 ?_
      refine ez_iadd (pc := 42) Z dX0_passesNumber_42 ?_
      refine pX0_at (pc := 43) (M := s1) (M' := ew_sI s1 1 ((s1.1 1) + (1 : Int32))) Z hE1 rfl inX0_passesNumber (List.mem_of_getElem? (i := 2) rfl) dX0_passesNumber_43 ?_
      refine ez_iinc (pc := 46) (L' := [(4, .int (v4 + (1 : Int32))), (3, .int (((v3 * (10 : Int32)) + (s1.2.1 0 (s1.1 1).toNatClampNeg)) - (48 : Int32))), (0, .ref (X.2.1 42)), (1, .int v1), (2, .int v2)]) Z dX0_passesNumber_46 4 rfl (ei_1 _) (by decide) rfl ?_
      refine ez_goto (pc := 49) (tgt := 5) Z dX0_passesNumber_49 rfl ?_
      refine ez_sub [(0, .ref (X.2.1 42)), (1, .int v1), (2, .int v2), (3, .int (((v3 * (10 : Int32)) + (s1.2.1 0 (s1.1 1).toNatClampNeg)) - (48 : Int32))), (4, .int (v4 + (1 : Int32)))] [2, 3, 4, 1, 0] rfl ?_
      exact hR5 _ h
set_option maxHeartbeats 4000000 in
set_option maxRecDepth 100000 in
theorem kX0_passesNumber {X : ew_X} {l : Launch} (hX : ew_Ap X) {E : ew_M → ew_S} (hE1 : ew_GE X 42 (ew_GL X.2.1) E) {Q : Int32 → ew_M → Prop} {p1 : Int32} {p2 : Int32} {s1 : ew_M} (h : wX0_passesNumber Q p1 p2 s1) : Met l yX0_passesNumber wsX0_passesNumber ({ frames := 1, cells := 0, slots := 0, locals := 20 } : Room) (va_Pc [.ref (X.2.1 42), .int p1, .int p2] (ew_wd X (E s1))) (va_Qi (fun (r : Int32) (u : ew_M) => Q r u) (fun (u : ew_M) => ew_wd X ((fun (u : ew_M) => E u) u)) X.2.2.1) 0 0 X.2.2.1 := by
  refine ew_met (As := [.ref (X.2.1 42), .int p1, .int p2]) (L0 := [(0, .ref (X.2.1 42)), (1, .int p1), (2, .int p2)]) X l hX (by decide) rfl rfl rfl rfl (fun C hl Z hR => ?_)
  subst hl
  refine ez_iconst (pc := 0) Z dX0_passesNumber_0 ec_0 ?_
  refine ez_istore_n (pc := 1) (L' := [(3, .int (0 : Int32)), (0, .ref (X.2.1 42)), (1, .int p1), (2, .int p2)]) Z dX0_passesNumber_1 rfl (by decide) rfl ?_
  refine ez_iconst (pc := 2) Z dX0_passesNumber_2 ec_0 ?_
  refine ez_istore (pc := 3) (L' := [(4, .int (0 : Int32)), (3, .int (0 : Int32)), (0, .ref (X.2.1 42)), (1, .int p1), (2, .int p2)]) Z dX0_passesNumber_3 (by decide) rfl ?_
  refine ez_sub [(0, .ref (X.2.1 42)), (1, .int p1), (2, .int p2), (3, .int (0 : Int32)), (4, .int (0 : Int32))] [2, 3, 4, 1, 0] rfl ?_
  exact ew_ind (P := fun (x : Int32 × Int32 × ew_M) => ew_W C X 5 (E x.2.2) 5 [(0, .ref (X.2.1 42)), (1, .int p1), (2, .int p2), (3, .int x.1), (4, .int x.2.1)] []) (fun R hR9 x h => tX0_passesNumber_5 hE1 Z hR  hR9 h) h
theorem inX0_passesPersons : ∀ w ∈ wsX00, w ∈ wsX0_passesPersons := fun _ h => List.mem_cons_of_mem _ (List.mem_append_right _ (h))
theorem hdX0_passesPersons : yX0_passesPersons.cls = RX0 ∧ yX0_passesPersons.cls ≠ "java/lang/invoke/MethodHandle" ∧ yX0_passesPersons.cls ≠ "java/lang/invoke/VarHandle" ∧ (parseMethodDescriptor yX0_passesPersons.desc).map (fun d => d.parameters.length) = some 0 := by decide +kernel
def wX0_passesPersons_50 (R6 : Int32 × Int32 × Int32 × ew_M → Prop) (Q : Int32 → ew_M → Prop) (v1 : Int32) (v3 : Int32) (v4 : Int32) (t0 : Int32) (s1 : ew_M) : Prop := R6 (v1 ||| v4, t0, v3 + (1 : Int32), ew_sI s1 1 ((s1.1 1) + (1 : Int32)))
def wX0_passesPersons_49 (R6 : Int32 × Int32 × Int32 × ew_M → Prop) (Q : Int32 → ew_M → Prop) (v1 : Int32) (v3 : Int32) (v4 : Int32) (s1 : ew_M) : Prop := wX0_passesPersons_50 R6 Q v1 v3 v4 (0 : Int32) s1
def wX0_passesPersons_86  (Q : Int32 → ew_M → Prop) (v3 : Int32) (t0 : Int32) (t1 : Int32) (s1 : ew_M) : Prop := vp_in t1 6 ∧ ((v3 ≤ 0 → Q (0 : Int32) (ew_sA s1 1 t1.toNatClampNeg t0)) ∧ (¬ v3 ≤ 0 → Q (1 : Int32) (ew_sA s1 1 t1.toNatClampNeg t0)))
def wX0_passesPersons_72  (Q : Int32 → ew_M → Prop) (v1 : Int32) (v2 : Int32) (v3 : Int32) (s1 : ew_M) : Prop := (v2 = 0 → wX0_passesPersons_86 Q v3 (0 : Int32) (0 : Int32) s1) ∧ (¬ v2 = 0 → wX0_passesPersons_86 Q v3 v1 (0 : Int32) s1)
def wX0_passesPersons_6 (R6 : Int32 × Int32 × Int32 × ew_M → Prop) (Q : Int32 → ew_M → Prop) (v1 : Int32) (v2 : Int32) (v3 : Int32) (s1 : ew_M) : Prop := ((6 : Int32) ≤ v3 → wX0_passesPersons_72 Q v1 v2 v3 s1) ∧ (¬ (6 : Int32) ≤ v3 → wX0_isAtDigit (fun (r2 : Int32) => (r2 = 0 → wX0_passesPersons_72 Q v1 v2 v3 s1) ∧ (¬ r2 = 0 → vp_in (s1.1 1) 64 ∧ ((v2 = 0 → wX0_passesPersons_49 R6 Q v1 v3 ((1 : Int32) <<< (((s1.2.1 0 (s1.1 1).toNatClampNeg) - (48 : Int32)) &&& 31)) s1) ∧ (¬ v2 = 0 → (((1 : Int32) <<< (((s1.2.1 0 (s1.1 1).toNatClampNeg) - (48 : Int32)) &&& 31)) ≤ v1 → wX0_passesPersons_49 R6 Q v1 v3 ((1 : Int32) <<< (((s1.2.1 0 (s1.1 1).toNatClampNeg) - (48 : Int32)) &&& 31)) s1) ∧ (¬ ((1 : Int32) <<< (((s1.2.1 0 (s1.1 1).toNatClampNeg) - (48 : Int32)) &&& 31)) ≤ v1 → wX0_passesPersons_50 R6 Q v1 v3 ((1 : Int32) <<< (((s1.2.1 0 (s1.1 1).toNatClampNeg) - (48 : Int32)) &&& 31)) (1 : Int32) s1))))) s1)
def wX0_passesPersons (Q : Int32 → ew_M → Prop) (s1 : ew_M) : Prop := ew_lp (fun (R : Int32 × Int32 × Int32 × ew_M → Prop) (x : Int32 × Int32 × Int32 × ew_M) => wX0_passesPersons_6 R Q x.1 x.2.1 x.2.2.1 x.2.2.2) ((0 : Int32), (1 : Int32), (0 : Int32), s1)
set_option maxHeartbeats 4000000 in
set_option maxRecDepth 100000 in
theorem tX0_passesPersons_50 {C : ew_C} {X : ew_X} {E : ew_M → ew_S} (hE1 : ew_GE X 42 (ew_GL X.2.1) E) (Z : ew_Z C X cX0_passesPersons 5 RX0 wsX0_passesPersons ({ frames := 1, cells := 0, slots := 0, locals := 20 } : Room) (some .boolean)) {Q : Int32 → ew_M → Prop} {R6 : Int32 × Int32 × Int32 × ew_M → Prop} {v1 : Int32} {v3 : Int32} {v4 : Int32} {t0 : Int32} {s1 : ew_M} (hR : C.2.2.2.2.2.2.2.2.2.2 = MQ C.2.2.2.2.2.2.2.1 (va_Qi (fun (r : Int32) (u : ew_M) => Q r u) (fun (u : ew_M) => ew_wd X ((fun (u : ew_M) => E u) u)) X.2.2.1) C.2.2.2.2.2.2.1 C.2.2.2.2.1 0 0 X.2.2.1) (hR6 : ∀ x : Int32 × Int32 × Int32 × ew_M, R6 x → ew_W C X 5 (E x.2.2.2) 6 [(0, .ref (X.2.1 42)), (1, .int x.1), (2, .int x.2.1), (3, .int x.2.2.1)] []) (h : wX0_passesPersons_50 R6 Q v1 v3 v4 t0 s1) : ew_W C X 5 (E s1) 50 [(0, .ref (X.2.1 42)), (1, .int v1), (3, .int v3), (4, .int v4)] [.int t0] := by
  refine ez_istore_n (pc := 50) (L' := [(2, .int t0), (0, .ref (X.2.1 42)), (1, .int v1), (3, .int v3), (4, .int v4)]) Z dX0_passesPersons_50 rfl (by decide) rfl ?_
  refine ez_iload_n (pc := 51) Z dX0_passesPersons_51 2 rfl rfl ?_
  refine ez_iload (pc := 52) Z dX0_passesPersons_52 4 rfl ?_
  refine ez_ior (pc := 54) Z dX0_passesPersons_54 ?_
  refine ez_istore_n (pc := 55) (L' := [(1, .int (v1 ||| v4)), (2, .int t0), (0, .ref (X.2.1 42)), (3, .int v3), (4, .int v4)]) Z dX0_passesPersons_55 rfl (by decide) rfl ?_
  refine ez_aload_n (pc := 56) Z dX0_passesPersons_56 2 rfl rfl ?_
  refine ez_dup (pc := 57) Z dX0_passesPersons_57 rfl ?_
  refine fX0_at (pc := 58) (v := s1.1 1) Z hE1 rfl inX0_passesPersons (List.mem_of_getElem? (i := 2) rfl) dX0_passesPersons_58 ?_
  refine ez_iconst (pc := 61) Z dX0_passesPersons_61 ec_1 ?_
  refine ez_iadd (pc := 62) Z dX0_passesPersons_62 ?_
  refine pX0_at (pc := 63) (M := s1) (M' := ew_sI s1 1 ((s1.1 1) + (1 : Int32))) Z hE1 rfl inX0_passesPersons (List.mem_of_getElem? (i := 2) rfl) dX0_passesPersons_63 ?_
  refine ez_iinc (pc := 66) (L' := [(3, .int (v3 + (1 : Int32))), (1, .int (v1 ||| v4)), (2, .int t0), (0, .ref (X.2.1 42)), (4, .int v4)]) Z dX0_passesPersons_66 3 rfl (ei_1 _) (by decide) rfl ?_
  refine ez_goto (pc := 69) (tgt := 6) Z dX0_passesPersons_69 rfl ?_
  refine ez_sub [(0, .ref (X.2.1 42)), (1, .int (v1 ||| v4)), (2, .int t0), (3, .int (v3 + (1 : Int32)))] [3, 1, 2, 0] rfl ?_
  exact hR6 _ h
set_option maxHeartbeats 4000000 in
set_option maxRecDepth 100000 in
theorem tX0_passesPersons_49 {C : ew_C} {X : ew_X} {E : ew_M → ew_S} (hE1 : ew_GE X 42 (ew_GL X.2.1) E) (Z : ew_Z C X cX0_passesPersons 5 RX0 wsX0_passesPersons ({ frames := 1, cells := 0, slots := 0, locals := 20 } : Room) (some .boolean)) {Q : Int32 → ew_M → Prop} {R6 : Int32 × Int32 × Int32 × ew_M → Prop} {v1 : Int32} {v3 : Int32} {v4 : Int32} {s1 : ew_M} (hR : C.2.2.2.2.2.2.2.2.2.2 = MQ C.2.2.2.2.2.2.2.1 (va_Qi (fun (r : Int32) (u : ew_M) => Q r u) (fun (u : ew_M) => ew_wd X ((fun (u : ew_M) => E u) u)) X.2.2.1) C.2.2.2.2.2.2.1 C.2.2.2.2.1 0 0 X.2.2.1) (hR6 : ∀ x : Int32 × Int32 × Int32 × ew_M, R6 x → ew_W C X 5 (E x.2.2.2) 6 [(0, .ref (X.2.1 42)), (1, .int x.1), (2, .int x.2.1), (3, .int x.2.2.1)] []) (h : wX0_passesPersons_49 R6 Q v1 v3 v4 s1) : ew_W C X 5 (E s1) 49 [(0, .ref (X.2.1 42)), (1, .int v1), (3, .int v3), (4, .int v4)] [] := by
  refine ez_iconst (pc := 49) Z dX0_passesPersons_49 ec_0 ?_
  exact tX0_passesPersons_50 hE1 Z hR hR6 h
set_option maxHeartbeats 4000000 in
set_option maxRecDepth 100000 in
theorem tX0_passesPersons_86 {C : ew_C} {X : ew_X} {E : ew_M → ew_S} (hE1 : ew_GE X 42 (ew_GL X.2.1) E) (Z : ew_Z C X cX0_passesPersons 5 RX0 wsX0_passesPersons ({ frames := 1, cells := 0, slots := 0, locals := 20 } : Room) (some .boolean)) {Q : Int32 → ew_M → Prop}  {v3 : Int32} {t0 : Int32} {t1 : Int32} {s1 : ew_M} (hR : C.2.2.2.2.2.2.2.2.2.2 = MQ C.2.2.2.2.2.2.2.1 (va_Qi (fun (r : Int32) (u : ew_M) => Q r u) (fun (u : ew_M) => ew_wd X ((fun (u : ew_M) => E u) u)) X.2.2.1) C.2.2.2.2.2.2.1 C.2.2.2.2.1 0 0 X.2.2.1) (h : wX0_passesPersons_86 Q v3 t0 t1 s1) : ew_W C X 5 (E s1) 86 [(3, .int v3)] [.int t0, .int t1, .ref (X.2.1 44)] := by
  refine ez_iast (pc := 86) (n := 6) (a := 1) (M := s1) (M' := ew_sA s1 1 t1.toNatClampNeg t0) Z hE1 2 rfl (by decide : 1 < 2) rfl rfl h.1 dX0_passesPersons_86 ?_
  replace h := h.2
  refine ez_iload_n (pc := 87) Z dX0_passesPersons_87 0 rfl rfl ?_
  refine ez_if_le (pc := 88) (tgt := 95) Z dX0_passesPersons_88 rfl (fun c1 => ?_) (fun c1 => ?_)
  · replace h := h.1 c1
    refine ez_iconst (pc := 95) Z dX0_passesPersons_95 ec_0 ?_
    exact ez_zret (pc := 96) Z hR (ew_sA s1 1 t1.toNatClampNeg t0) rfl h rfl dX0_passesPersons_96
  · replace h := h.2 c1
    refine ez_iconst (pc := 91) Z dX0_passesPersons_91 ec_1 ?_
    refine ez_goto (pc := 92) (tgt := 96) Z dX0_passesPersons_92 rfl ?_
    exact ez_zret (pc := 96) Z hR (ew_sA s1 1 t1.toNatClampNeg t0) rfl h rfl dX0_passesPersons_96
set_option maxHeartbeats 4000000 in
set_option maxRecDepth 100000 in
theorem tX0_passesPersons_72 {C : ew_C} {X : ew_X} {E : ew_M → ew_S} (hE1 : ew_GE X 42 (ew_GL X.2.1) E) (Z : ew_Z C X cX0_passesPersons 5 RX0 wsX0_passesPersons ({ frames := 1, cells := 0, slots := 0, locals := 20 } : Room) (some .boolean)) {Q : Int32 → ew_M → Prop}  {v1 : Int32} {v2 : Int32} {v3 : Int32} {s1 : ew_M} (hR : C.2.2.2.2.2.2.2.2.2.2 = MQ C.2.2.2.2.2.2.2.1 (va_Qi (fun (r : Int32) (u : ew_M) => Q r u) (fun (u : ew_M) => ew_wd X ((fun (u : ew_M) => E u) u)) X.2.2.1) C.2.2.2.2.2.2.1 C.2.2.2.2.1 0 0 X.2.2.1) (h : wX0_passesPersons_72 Q v1 v2 v3 s1) : ew_W C X 5 (E s1) 72 [(0, .ref (X.2.1 42)), (1, .int v1), (2, .int v2), (3, .int v3)] [] := by
  refine ez_aload_n (pc := 72) Z dX0_passesPersons_72 0 rfl rfl ?_
  refine fX0_numbers (pc := 73) (M := s1) Z hE1 inX0_passesPersons (List.mem_of_getElem? (i := 3) rfl) dX0_passesPersons_73 ?_
  refine ez_iconst (pc := 76) Z dX0_passesPersons_76 ec_0 ?_
  refine ez_iload_n (pc := 77) Z dX0_passesPersons_77 2 rfl rfl ?_
  refine ez_if_eq (pc := 78) (tgt := 85) Z dX0_passesPersons_78 rfl (fun c1 => ?_) (fun c1 => ?_)
  · replace h := h.1 c1
    refine ez_iconst (pc := 85) Z dX0_passesPersons_85 ec_0 ?_
    refine ez_sub [(3, .int v3)] [3] rfl ?_
    exact tX0_passesPersons_86 hE1 Z hR  h
  · replace h := h.2 c1
    refine ez_iload_n (pc := 81) Z dX0_passesPersons_81 1 rfl rfl ?_
    refine ez_goto (pc := 82) (tgt := 86) Z dX0_passesPersons_82 rfl ?_
    refine ez_sub [(3, .int v3)] [3] rfl ?_
    exact tX0_passesPersons_86 hE1 Z hR  h
set_option maxHeartbeats 4000000 in
set_option maxRecDepth 100000 in
theorem tX0_passesPersons_6 {C : ew_C} {X : ew_X} {E : ew_M → ew_S} (hE1 : ew_GE X 42 (ew_GL X.2.1) E) (Z : ew_Z C X cX0_passesPersons 5 RX0 wsX0_passesPersons ({ frames := 1, cells := 0, slots := 0, locals := 20 } : Room) (some .boolean)) {Q : Int32 → ew_M → Prop} {R6 : Int32 × Int32 × Int32 × ew_M → Prop} {v1 : Int32} {v2 : Int32} {v3 : Int32} {s1 : ew_M} (hR : C.2.2.2.2.2.2.2.2.2.2 = MQ C.2.2.2.2.2.2.2.1 (va_Qi (fun (r : Int32) (u : ew_M) => Q r u) (fun (u : ew_M) => ew_wd X ((fun (u : ew_M) => E u) u)) X.2.2.1) C.2.2.2.2.2.2.1 C.2.2.2.2.1 0 0 X.2.2.1) (hR6 : ∀ x : Int32 × Int32 × Int32 × ew_M, R6 x → ew_W C X 5 (E x.2.2.2) 6 [(0, .ref (X.2.1 42)), (1, .int x.1), (2, .int x.2.1), (3, .int x.2.2.1)] []) (h : wX0_passesPersons_6 R6 Q v1 v2 v3 s1) : ew_W C X 5 (E s1) 6 [(0, .ref (X.2.1 42)), (1, .int v1), (2, .int v2), (3, .int v3)] [] := by
  refine ez_iload_n (pc := 6) Z dX0_passesPersons_6 3 rfl rfl ?_
  refine ez_bipush (pc := 7) Z dX0_passesPersons_7 eb_6 ?_
  refine ez_icmp_ge (pc := 9) (tgt := 72) Z dX0_passesPersons_9 rfl (fun c1 => ?_) (fun c1 => ?_)
  · replace h := h.1 c1
    exact tX0_passesPersons_72 hE1 Z hR  h
  · replace h := h.2 c1
    refine ez_aload_n (pc := 12) Z dX0_passesPersons_12 0 rfl rfl ?_
    refine ez_callVi (pc := 13) (r := 42) (As := []) (st := []) Z (kX0_isAtDigit Z.2.2.2.2.2.2.2.2.2.1 (E := E) hE1 h) gX0_passesPersons_X0_isAtDigit rfl rfl rfl hdX0_isAtDigit rfl rfl (by decide) (ew_oL hE1 _) rfl rfl rfl rfl dX0_passesPersons_13 (fun r2 u3 h => ?_)
    refine ez_if_eq (pc := 16) (tgt := 72) Z dX0_passesPersons_16 rfl (fun c4 => ?_) (fun c4 => ?_)
    · replace h := h.1 c4
      exact tX0_passesPersons_72 hE1 Z hR  h
    · replace h := h.2 c4
      refine ez_iconst (pc := 19) Z dX0_passesPersons_19 ec_1 ?_
      refine ez_aload_n (pc := 20) Z dX0_passesPersons_20 0 rfl rfl ?_
      refine fX0_text (pc := 21) (M := s1) Z hE1 inX0_passesPersons (List.mem_of_getElem? (i := 1) rfl) dX0_passesPersons_21 ?_
      refine ez_aload_n (pc := 24) Z dX0_passesPersons_24 0 rfl rfl ?_
      refine fX0_at (pc := 25) (v := s1.1 1) Z hE1 rfl inX0_passesPersons (List.mem_of_getElem? (i := 2) rfl) dX0_passesPersons_25 ?_
      refine ez_iald (pc := 28) (n := 64) (a := 0) (v := s1.2.1 0 (s1.1 1).toNatClampNeg) (M := s1) Z hE1 1 rfl (by decide : 0 < 2) rfl rfl h.1 dX0_passesPersons_28 ?_
      replace h := h.2
      refine ez_bipush (pc := 29) Z dX0_passesPersons_29 eb_48 ?_
      refine ez_isub (pc := 31) Z dX0_passesPersons_31 ?_
      refine ez_ishl (pc := 32) Z dX0_passesPersons_32 ?_
      refine ez_istore (pc := 33) (L' := [(4, .int ((1 : Int32) <<< (((s1.2.1 0 (s1.1 1).toNatClampNeg) - (48 : Int32)) &&& 31))), (0, .ref (X.2.1 42)), (1, .int v1), (2, .int v2), (3, .int v3)]) Z dX0_passesPersons_33 (by decide) rfl ?_
      refine ez_iload_n (pc := 35) Z dX0_passesPersons_35 3 rfl rfl ?_
      refine ez_if_eq (pc := 36) (tgt := 49) Z dX0_passesPersons_36 rfl (fun c5 => ?_) (fun c5 => ?_)
      · replace h := h.1 c5
        refine ez_sub [(0, .ref (X.2.1 42)), (1, .int v1), (3, .int v3), (4, .int ((1 : Int32) <<< (((s1.2.1 0 (s1.1 1).toNatClampNeg) - (48 : Int32)) &&& 31)))] [1, 2, 4, 0] rfl ?_
        exact tX0_passesPersons_49 hE1 Z hR hR6 h
      · replace h := h.2 c5
        refine ez_iload (pc := 39) Z dX0_passesPersons_39 0 rfl ?_
        refine ez_iload_n (pc := 41) Z dX0_passesPersons_41 2 rfl rfl ?_
        refine ez_icmp_le (pc := 42) (tgt := 49) Z dX0_passesPersons_42 rfl (fun c6 => ?_) (fun c6 => ?_)
        · replace h := h.1 c6
          refine ez_sub [(0, .ref (X.2.1 42)), (1, .int v1), (3, .int v3), (4, .int ((1 : Int32) <<< (((s1.2.1 0 (s1.1 1).toNatClampNeg) - (48 : Int32)) &&& 31)))] [1, 2, 4, 0] rfl ?_
          exact tX0_passesPersons_49 hE1 Z hR hR6 h
        · replace h := h.2 c6
          refine ez_iconst (pc := 45) Z dX0_passesPersons_45 ec_1 ?_
          refine ez_goto (pc := 46) (tgt := 50) Z dX0_passesPersons_46 rfl ?_
          refine ez_sub [(0, .ref (X.2.1 42)), (1, .int v1), (3, .int v3), (4, .int ((1 : Int32) <<< (((s1.2.1 0 (s1.1 1).toNatClampNeg) - (48 : Int32)) &&& 31)))] [1, 2, 4, 0] rfl ?_
          exact tX0_passesPersons_50 hE1 Z hR hR6 h
set_option maxHeartbeats 4000000 in
set_option maxRecDepth 100000 in
theorem kX0_passesPersons {X : ew_X} {l : Launch} (hX : ew_Ap X) {E : ew_M → ew_S} (hE1 : ew_GE X 42 (ew_GL X.2.1) E) {Q : Int32 → ew_M → Prop} {s1 : ew_M} (h : wX0_passesPersons Q s1) : Met l yX0_passesPersons wsX0_passesPersons ({ frames := 1, cells := 0, slots := 0, locals := 20 } : Room) (va_Pc [.ref (X.2.1 42)] (ew_wd X (E s1))) (va_Qi (fun (r : Int32) (u : ew_M) => Q r u) (fun (u : ew_M) => ew_wd X ((fun (u : ew_M) => E u) u)) X.2.2.1) 0 0 X.2.2.1 := by
  refine ew_met (As := [.ref (X.2.1 42)]) (L0 := [(0, .ref (X.2.1 42))]) X l hX (by decide) rfl rfl rfl rfl (fun C hl Z hR => ?_)
  subst hl
  refine ez_iconst (pc := 0) Z dX0_passesPersons_0 ec_0 ?_
  refine ez_istore_n (pc := 1) (L' := [(1, .int (0 : Int32)), (0, .ref (X.2.1 42))]) Z dX0_passesPersons_1 rfl (by decide) rfl ?_
  refine ez_iconst (pc := 2) Z dX0_passesPersons_2 ec_1 ?_
  refine ez_istore_n (pc := 3) (L' := [(2, .int (1 : Int32)), (1, .int (0 : Int32)), (0, .ref (X.2.1 42))]) Z dX0_passesPersons_3 rfl (by decide) rfl ?_
  refine ez_iconst (pc := 4) Z dX0_passesPersons_4 ec_0 ?_
  refine ez_istore_n (pc := 5) (L' := [(3, .int (0 : Int32)), (2, .int (1 : Int32)), (1, .int (0 : Int32)), (0, .ref (X.2.1 42))]) Z dX0_passesPersons_5 rfl (by decide) rfl ?_
  refine ez_sub [(0, .ref (X.2.1 42)), (1, .int (0 : Int32)), (2, .int (1 : Int32)), (3, .int (0 : Int32))] [3, 2, 1, 0] rfl ?_
  exact ew_ind (P := fun (x : Int32 × Int32 × Int32 × ew_M) => ew_W C X 5 (E x.2.2.2) 6 [(0, .ref (X.2.1 42)), (1, .int x.1), (2, .int x.2.1), (3, .int x.2.2.1)] []) (fun R hR9 x h => tX0_passesPersons_6 hE1 Z hR  hR9 h) h
theorem inX0_nextStatement : ∀ w ∈ wsX00, w ∈ wsX0_nextStatement := fun _ h => List.mem_cons_of_mem _ (List.mem_append_right _ (h))
theorem hdX0_nextStatement : yX0_nextStatement.cls = RX0 ∧ yX0_nextStatement.cls ≠ "java/lang/invoke/MethodHandle" ∧ yX0_nextStatement.cls ≠ "java/lang/invoke/VarHandle" ∧ (parseMethodDescriptor yX0_nextStatement.desc).map (fun d => d.parameters.length) = some 0 := by decide +kernel
def wX0_nextStatement_25  (Q : Int32 → ew_M → Prop) (t0 : Int32) (s1 : ew_M) : Prop := (t0 = (97 : Int32) → wX0_passes (fun (r2 : Int32) (m3 : ew_M) => (r2 = 0 → Q (0 : Int32) m3) ∧ (¬ r2 = 0 → wX0_passesPersons (fun (r5 : Int32) (m6 : ew_M) => (r5 = 0 → Q (0 : Int32) m6) ∧ (¬ r5 = 0 → wX0_passes (fun (r8 : Int32) (m9 : ew_M) => (r8 = 0 → Q (0 : Int32) m9) ∧ (¬ r8 = 0 → wX0_passesNumber (fun (r11 : Int32) (m12 : ew_M) => (r11 = 0 → Q (0 : Int32) m12) ∧ (¬ r11 = 0 → wX0_passes (fun (r14 : Int32) (m15 : ew_M) => (r14 = 0 → Q (0 : Int32) m15) ∧ (¬ r14 = 0 → wX0_passesNumber (fun (r17 : Int32) (m18 : ew_M) => (r17 = 0 → Q (0 : Int32) m18) ∧ (¬ r17 = 0 → wX0_passes (fun (r20 : Int32) (m21 : ew_M) => (r20 = 0 → Q (0 : Int32) m21) ∧ (¬ r20 = 0 → wX0_passesNumber (fun (r23 : Int32) (m24 : ew_M) => (r23 = 0 → Q (0 : Int32) m24) ∧ (¬ r23 = 0 → wX0_passesNumber (fun (r26 : Int32) (m27 : ew_M) => (r26 = 0 → Q (0 : Int32) m27) ∧ (¬ r26 = 0 → wX0_passesNumber (fun (r29 : Int32) (m30 : ew_M) => (r29 = 0 → Q (0 : Int32) m30) ∧ (¬ r29 = 0 → wX0_passes (fun (r32 : Int32) (m33 : ew_M) => (r32 = 0 → Q (0 : Int32) m33) ∧ (¬ r32 = 0 → Q (1 : Int32) m33)) (59 : Int32) m30)) (5 : Int32) (1 : Int32) m27)) (4 : Int32) (1 : Int32) m24)) (3 : Int32) (1 : Int32) m21)) (58 : Int32) m18)) (2 : Int32) (3 : Int32) m15)) (44 : Int32) m12)) (1 : Int32) (3 : Int32) m9)) (44 : Int32) m6)) m3)) (97 : Int32) (ew_sI s1 2 t0)) ∧ (¬ t0 = (97 : Int32) → (t0 = (99 : Int32) → wX0_passes (fun (r36 : Int32) (m37 : ew_M) => (r36 = 0 → Q (0 : Int32) m37) ∧ (¬ r36 = 0 → wX0_passesNumber (fun (r39 : Int32) (m40 : ew_M) => (r39 = 0 → Q (0 : Int32) m40) ∧ (¬ r39 = 0 → wX0_passes (fun (r42 : Int32) (m43 : ew_M) => (r42 = 0 → Q (0 : Int32) m43) ∧ (¬ r42 = 0 → Q (1 : Int32) m43)) (59 : Int32) m40)) (0 : Int32) (3 : Int32) m37)) (99 : Int32) (ew_sI s1 2 t0)) ∧ (¬ t0 = (99 : Int32) → (t0 = (108 : Int32) → wX0_passes (fun (r46 : Int32) (m47 : ew_M) => (r46 = 0 → Q (0 : Int32) m47) ∧ (¬ r46 = 0 → wX0_passesNumber (fun (r49 : Int32) (m50 : ew_M) => (r49 = 0 → Q (0 : Int32) m50) ∧ (¬ r49 = 0 → wX0_passes (fun (r52 : Int32) (m53 : ew_M) => (r52 = 0 → Q (0 : Int32) m53) ∧ (¬ r52 = 0 → Q (1 : Int32) m53)) (59 : Int32) m50)) (0 : Int32) (1 : Int32) m47)) (108 : Int32) (ew_sI s1 2 t0)) ∧ (¬ t0 = (108 : Int32) → (t0 = (112 : Int32) → wX0_passes (fun (r56 : Int32) (m57 : ew_M) => (r56 = 0 → Q (0 : Int32) m57) ∧ (¬ r56 = 0 → wX0_passesKind (fun (r59 : Int32) (m60 : ew_M) => (r59 = 0 → Q (0 : Int32) m60) ∧ (¬ r59 = 0 → wX0_passesNumber (fun (r62 : Int32) (m63 : ew_M) => (r62 = 0 → Q (0 : Int32) m63) ∧ (¬ r62 = 0 → wX0_passesNumber (fun (r65 : Int32) (m66 : ew_M) => (r65 = 0 → Q (0 : Int32) m66) ∧ (¬ r65 = 0 → wX0_passes (fun (r68 : Int32) (m69 : ew_M) => (r68 = 0 → Q (0 : Int32) m69) ∧ (¬ r68 = 0 → Q (1 : Int32) m69)) (59 : Int32) m66)) (2 : Int32) (2 : Int32) m63)) (1 : Int32) (1 : Int32) m60)) m57)) (112 : Int32) (ew_sI s1 2 t0)) ∧ (¬ t0 = (112 : Int32) → Q (0 : Int32) (ew_sI s1 2 t0)))))
def wX0_nextStatement (Q : Int32 → ew_M → Prop) (s1 : ew_M) : Prop := ((s1.1 0) ≤ (s1.1 1) → wX0_nextStatement_25 Q (-1 : Int32) s1) ∧ (¬ (s1.1 0) ≤ (s1.1 1) → vp_in (s1.1 1) 64 ∧ (wX0_nextStatement_25 Q (s1.2.1 0 (s1.1 1).toNatClampNeg) s1))
set_option maxHeartbeats 4000000 in
set_option maxRecDepth 100000 in
theorem tX0_nextStatement_25 {C : ew_C} {X : ew_X} {E : ew_M → ew_S} (hE1 : ew_GE X 42 (ew_GL X.2.1) E) (Z : ew_Z C X cX0_nextStatement 1 RX0 wsX0_nextStatement ({ frames := 5, cells := 0, slots := 0, locals := 112 } : Room) (some .boolean)) {Q : Int32 → ew_M → Prop}  {t0 : Int32} {s1 : ew_M} (hR : C.2.2.2.2.2.2.2.2.2.2 = MQ C.2.2.2.2.2.2.2.1 (va_Qi (fun (r : Int32) (u : ew_M) => Q r u) (fun (u : ew_M) => ew_wd X ((fun (u : ew_M) => E u) u)) X.2.2.1) C.2.2.2.2.2.2.1 C.2.2.2.2.1 0 0 X.2.2.1) (h : wX0_nextStatement_25 Q t0 s1) : ew_W C X 1 (E s1) 25 [(0, .ref (X.2.1 42))] [.int t0, .ref (X.2.1 42)] := by
  refine pX0_sort (pc := 25) (M := s1) (M' := ew_sI s1 2 t0) Z hE1 rfl inX0_nextStatement (List.mem_of_getElem? (i := 4) rfl) dX0_nextStatement_25 ?_
  refine ez_aload_n (pc := 28) Z dX0_nextStatement_28 0 rfl rfl ?_
  refine fX0_sort (pc := 29) (v := t0) Z hE1 rfl inX0_nextStatement (List.mem_of_getElem? (i := 4) rfl) dX0_nextStatement_29 ?_
  by_cases c1 : t0 = (97 : Int32)
  · replace h := h.1 c1
    refine ez_lkpI (pc := 32) (off := 93) (tgt := 125) Z dX0_nextStatement_32 (97 : Int32) c1 (by decide) (by decide +kernel) rfl ?_
    refine ez_aload_n (pc := 125) Z dX0_nextStatement_125 0 rfl rfl ?_
    refine ez_bipush (pc := 126) Z dX0_nextStatement_126 eb_97 ?_
    refine ez_callVi (pc := 128) (r := 42) (As := [.int (97 : Int32)]) (st := []) Z (kX0_passes Z.2.2.2.2.2.2.2.2.2.1 (E := E) hE1 h) gX0_nextStatement_X0_passes rfl rfl rfl hdX0_passes rfl rfl (by decide) (ew_oL hE1 _) rfl rfl rfl rfl dX0_nextStatement_128 (fun r2 m3 h => ?_)
    refine ez_if_eq (pc := 131) (tgt := 226) Z dX0_nextStatement_131 rfl (fun c4 => ?_) (fun c4 => ?_)
    · replace h := h.1 c4
      refine ez_iconst (pc := 226) Z dX0_nextStatement_226 ec_0 ?_
      exact ez_zret (pc := 227) Z hR m3 rfl h rfl dX0_nextStatement_227
    · replace h := h.2 c4
      refine ez_aload_n (pc := 134) Z dX0_nextStatement_134 0 rfl rfl ?_
      refine ez_callVi (pc := 135) (r := 42) (As := []) (st := []) Z (kX0_passesPersons Z.2.2.2.2.2.2.2.2.2.1 (E := E) hE1 h) gX0_nextStatement_X0_passesPersons rfl rfl rfl hdX0_passesPersons rfl rfl (by decide) (ew_oL hE1 _) rfl rfl rfl rfl dX0_nextStatement_135 (fun r5 m6 h => ?_)
      refine ez_if_eq (pc := 138) (tgt := 226) Z dX0_nextStatement_138 rfl (fun c7 => ?_) (fun c7 => ?_)
      · replace h := h.1 c7
        refine ez_iconst (pc := 226) Z dX0_nextStatement_226 ec_0 ?_
        exact ez_zret (pc := 227) Z hR m6 rfl h rfl dX0_nextStatement_227
      · replace h := h.2 c7
        refine ez_aload_n (pc := 141) Z dX0_nextStatement_141 0 rfl rfl ?_
        refine ez_bipush (pc := 142) Z dX0_nextStatement_142 eb_44 ?_
        refine ez_callVi (pc := 144) (r := 42) (As := [.int (44 : Int32)]) (st := []) Z (kX0_passes Z.2.2.2.2.2.2.2.2.2.1 (E := E) hE1 h) gX0_nextStatement_X0_passes rfl rfl rfl hdX0_passes rfl rfl (by decide) (ew_oL hE1 _) rfl rfl rfl rfl dX0_nextStatement_144 (fun r8 m9 h => ?_)
        refine ez_if_eq (pc := 147) (tgt := 226) Z dX0_nextStatement_147 rfl (fun c10 => ?_) (fun c10 => ?_)
        · replace h := h.1 c10
          refine ez_iconst (pc := 226) Z dX0_nextStatement_226 ec_0 ?_
          exact ez_zret (pc := 227) Z hR m9 rfl h rfl dX0_nextStatement_227
        · replace h := h.2 c10
          refine ez_aload_n (pc := 150) Z dX0_nextStatement_150 0 rfl rfl ?_
          refine ez_iconst (pc := 151) Z dX0_nextStatement_151 ec_1 ?_
          refine ez_iconst (pc := 152) Z dX0_nextStatement_152 ec_3 ?_
          refine ez_callVi (pc := 153) (r := 42) (As := [.int (1 : Int32), .int (3 : Int32)]) (st := []) Z (kX0_passesNumber Z.2.2.2.2.2.2.2.2.2.1 (E := E) hE1 h) gX0_nextStatement_X0_passesNumber rfl rfl rfl hdX0_passesNumber rfl rfl (by decide) (ew_oL hE1 _) rfl rfl rfl rfl dX0_nextStatement_153 (fun r11 m12 h => ?_)
          refine ez_if_eq (pc := 156) (tgt := 226) Z dX0_nextStatement_156 rfl (fun c13 => ?_) (fun c13 => ?_)
          · replace h := h.1 c13
            refine ez_iconst (pc := 226) Z dX0_nextStatement_226 ec_0 ?_
            exact ez_zret (pc := 227) Z hR m12 rfl h rfl dX0_nextStatement_227
          · replace h := h.2 c13
            refine ez_aload_n (pc := 159) Z dX0_nextStatement_159 0 rfl rfl ?_
            refine ez_bipush (pc := 160) Z dX0_nextStatement_160 eb_44 ?_
            refine ez_callVi (pc := 162) (r := 42) (As := [.int (44 : Int32)]) (st := []) Z (kX0_passes Z.2.2.2.2.2.2.2.2.2.1 (E := E) hE1 h) gX0_nextStatement_X0_passes rfl rfl rfl hdX0_passes rfl rfl (by decide) (ew_oL hE1 _) rfl rfl rfl rfl dX0_nextStatement_162 (fun r14 m15 h => ?_)
            refine ez_if_eq (pc := 165) (tgt := 226) Z dX0_nextStatement_165 rfl (fun c16 => ?_) (fun c16 => ?_)
            · replace h := h.1 c16
              refine ez_iconst (pc := 226) Z dX0_nextStatement_226 ec_0 ?_
              exact ez_zret (pc := 227) Z hR m15 rfl h rfl dX0_nextStatement_227
            · replace h := h.2 c16
              refine ez_aload_n (pc := 168) Z dX0_nextStatement_168 0 rfl rfl ?_
              refine ez_iconst (pc := 169) Z dX0_nextStatement_169 ec_2 ?_
              refine ez_iconst (pc := 170) Z dX0_nextStatement_170 ec_3 ?_
              refine ez_callVi (pc := 171) (r := 42) (As := [.int (2 : Int32), .int (3 : Int32)]) (st := []) Z (kX0_passesNumber Z.2.2.2.2.2.2.2.2.2.1 (E := E) hE1 h) gX0_nextStatement_X0_passesNumber rfl rfl rfl hdX0_passesNumber rfl rfl (by decide) (ew_oL hE1 _) rfl rfl rfl rfl dX0_nextStatement_171 (fun r17 m18 h => ?_)
              refine ez_if_eq (pc := 174) (tgt := 226) Z dX0_nextStatement_174 rfl (fun c19 => ?_) (fun c19 => ?_)
              · replace h := h.1 c19
                refine ez_iconst (pc := 226) Z dX0_nextStatement_226 ec_0 ?_
                exact ez_zret (pc := 227) Z hR m18 rfl h rfl dX0_nextStatement_227
              · replace h := h.2 c19
                refine ez_aload_n (pc := 177) Z dX0_nextStatement_177 0 rfl rfl ?_
                refine ez_bipush (pc := 178) Z dX0_nextStatement_178 eb_58 ?_
                refine ez_callVi (pc := 180) (r := 42) (As := [.int (58 : Int32)]) (st := []) Z (kX0_passes Z.2.2.2.2.2.2.2.2.2.1 (E := E) hE1 h) gX0_nextStatement_X0_passes rfl rfl rfl hdX0_passes rfl rfl (by decide) (ew_oL hE1 _) rfl rfl rfl rfl dX0_nextStatement_180 (fun r20 m21 h => ?_)
                refine ez_if_eq (pc := 183) (tgt := 226) Z dX0_nextStatement_183 rfl (fun c22 => ?_) (fun c22 => ?_)
                · replace h := h.1 c22
                  refine ez_iconst (pc := 226) Z dX0_nextStatement_226 ec_0 ?_
                  exact ez_zret (pc := 227) Z hR m21 rfl h rfl dX0_nextStatement_227
                · replace h := h.2 c22
                  refine ez_aload_n (pc := 186) Z dX0_nextStatement_186 0 rfl rfl ?_
                  refine ez_iconst (pc := 187) Z dX0_nextStatement_187 ec_3 ?_
                  refine ez_iconst (pc := 188) Z dX0_nextStatement_188 ec_1 ?_
                  refine ez_callVi (pc := 189) (r := 42) (As := [.int (3 : Int32), .int (1 : Int32)]) (st := []) Z (kX0_passesNumber Z.2.2.2.2.2.2.2.2.2.1 (E := E) hE1 h) gX0_nextStatement_X0_passesNumber rfl rfl rfl hdX0_passesNumber rfl rfl (by decide) (ew_oL hE1 _) rfl rfl rfl rfl dX0_nextStatement_189 (fun r23 m24 h => ?_)
                  refine ez_if_eq (pc := 192) (tgt := 226) Z dX0_nextStatement_192 rfl (fun c25 => ?_) (fun c25 => ?_)
                  · replace h := h.1 c25
                    refine ez_iconst (pc := 226) Z dX0_nextStatement_226 ec_0 ?_
                    exact ez_zret (pc := 227) Z hR m24 rfl h rfl dX0_nextStatement_227
                  · replace h := h.2 c25
                    refine ez_aload_n (pc := 195) Z dX0_nextStatement_195 0 rfl rfl ?_
                    refine ez_iconst (pc := 196) Z dX0_nextStatement_196 ec_4 ?_
                    refine ez_iconst (pc := 197) Z dX0_nextStatement_197 ec_1 ?_
                    refine ez_callVi (pc := 198) (r := 42) (As := [.int (4 : Int32), .int (1 : Int32)]) (st := []) Z (kX0_passesNumber Z.2.2.2.2.2.2.2.2.2.1 (E := E) hE1 h) gX0_nextStatement_X0_passesNumber rfl rfl rfl hdX0_passesNumber rfl rfl (by decide) (ew_oL hE1 _) rfl rfl rfl rfl dX0_nextStatement_198 (fun r26 m27 h => ?_)
                    refine ez_if_eq (pc := 201) (tgt := 226) Z dX0_nextStatement_201 rfl (fun c28 => ?_) (fun c28 => ?_)
                    · replace h := h.1 c28
                      refine ez_iconst (pc := 226) Z dX0_nextStatement_226 ec_0 ?_
                      exact ez_zret (pc := 227) Z hR m27 rfl h rfl dX0_nextStatement_227
                    · replace h := h.2 c28
                      refine ez_aload_n (pc := 204) Z dX0_nextStatement_204 0 rfl rfl ?_
                      refine ez_iconst (pc := 205) Z dX0_nextStatement_205 ec_5 ?_
                      refine ez_iconst (pc := 206) Z dX0_nextStatement_206 ec_1 ?_
                      refine ez_callVi (pc := 207) (r := 42) (As := [.int (5 : Int32), .int (1 : Int32)]) (st := []) Z (kX0_passesNumber Z.2.2.2.2.2.2.2.2.2.1 (E := E) hE1 h) gX0_nextStatement_X0_passesNumber rfl rfl rfl hdX0_passesNumber rfl rfl (by decide) (ew_oL hE1 _) rfl rfl rfl rfl dX0_nextStatement_207 (fun r29 m30 h => ?_)
                      refine ez_if_eq (pc := 210) (tgt := 226) Z dX0_nextStatement_210 rfl (fun c31 => ?_) (fun c31 => ?_)
                      · replace h := h.1 c31
                        refine ez_iconst (pc := 226) Z dX0_nextStatement_226 ec_0 ?_
                        exact ez_zret (pc := 227) Z hR m30 rfl h rfl dX0_nextStatement_227
                      · replace h := h.2 c31
                        refine ez_aload_n (pc := 213) Z dX0_nextStatement_213 0 rfl rfl ?_
                        refine ez_bipush (pc := 214) Z dX0_nextStatement_214 eb_59 ?_
                        refine ez_callVi (pc := 216) (r := 42) (As := [.int (59 : Int32)]) (st := []) Z (kX0_passes Z.2.2.2.2.2.2.2.2.2.1 (E := E) hE1 h) gX0_nextStatement_X0_passes rfl rfl rfl hdX0_passes rfl rfl (by decide) (ew_oL hE1 _) rfl rfl rfl rfl dX0_nextStatement_216 (fun r32 m33 h => ?_)
                        refine ez_if_eq (pc := 219) (tgt := 226) Z dX0_nextStatement_219 rfl (fun c34 => ?_) (fun c34 => ?_)
                        · replace h := h.1 c34
                          refine ez_iconst (pc := 226) Z dX0_nextStatement_226 ec_0 ?_
                          exact ez_zret (pc := 227) Z hR m33 rfl h rfl dX0_nextStatement_227
                        · replace h := h.2 c34
                          refine ez_iconst (pc := 222) Z dX0_nextStatement_222 ec_1 ?_
                          refine ez_goto (pc := 223) (tgt := 227) Z dX0_nextStatement_223 rfl ?_
                          exact ez_zret (pc := 227) Z hR m33 rfl h rfl dX0_nextStatement_227
  · replace h := h.2 c1
    by_cases c35 : t0 = (99 : Int32)
    · replace h := h.1 c35
      refine ez_lkpI (pc := 32) (off := 229) (tgt := 261) Z dX0_nextStatement_32 (99 : Int32) c35 (by decide) (by decide +kernel) rfl ?_
      refine ez_aload_n (pc := 261) Z dX0_nextStatement_261 0 rfl rfl ?_
      refine ez_bipush (pc := 262) Z dX0_nextStatement_262 eb_99 ?_
      refine ez_callVi (pc := 264) (r := 42) (As := [.int (99 : Int32)]) (st := []) Z (kX0_passes Z.2.2.2.2.2.2.2.2.2.1 (E := E) hE1 h) gX0_nextStatement_X0_passes rfl rfl rfl hdX0_passes rfl rfl (by decide) (ew_oL hE1 _) rfl rfl rfl rfl dX0_nextStatement_264 (fun r36 m37 h => ?_)
      refine ez_if_eq (pc := 267) (tgt := 292) Z dX0_nextStatement_267 rfl (fun c38 => ?_) (fun c38 => ?_)
      · replace h := h.1 c38
        refine ez_iconst (pc := 292) Z dX0_nextStatement_292 ec_0 ?_
        exact ez_zret (pc := 293) Z hR m37 rfl h rfl dX0_nextStatement_293
      · replace h := h.2 c38
        refine ez_aload_n (pc := 270) Z dX0_nextStatement_270 0 rfl rfl ?_
        refine ez_iconst (pc := 271) Z dX0_nextStatement_271 ec_0 ?_
        refine ez_iconst (pc := 272) Z dX0_nextStatement_272 ec_3 ?_
        refine ez_callVi (pc := 273) (r := 42) (As := [.int (0 : Int32), .int (3 : Int32)]) (st := []) Z (kX0_passesNumber Z.2.2.2.2.2.2.2.2.2.1 (E := E) hE1 h) gX0_nextStatement_X0_passesNumber rfl rfl rfl hdX0_passesNumber rfl rfl (by decide) (ew_oL hE1 _) rfl rfl rfl rfl dX0_nextStatement_273 (fun r39 m40 h => ?_)
        refine ez_if_eq (pc := 276) (tgt := 292) Z dX0_nextStatement_276 rfl (fun c41 => ?_) (fun c41 => ?_)
        · replace h := h.1 c41
          refine ez_iconst (pc := 292) Z dX0_nextStatement_292 ec_0 ?_
          exact ez_zret (pc := 293) Z hR m40 rfl h rfl dX0_nextStatement_293
        · replace h := h.2 c41
          refine ez_aload_n (pc := 279) Z dX0_nextStatement_279 0 rfl rfl ?_
          refine ez_bipush (pc := 280) Z dX0_nextStatement_280 eb_59 ?_
          refine ez_callVi (pc := 282) (r := 42) (As := [.int (59 : Int32)]) (st := []) Z (kX0_passes Z.2.2.2.2.2.2.2.2.2.1 (E := E) hE1 h) gX0_nextStatement_X0_passes rfl rfl rfl hdX0_passes rfl rfl (by decide) (ew_oL hE1 _) rfl rfl rfl rfl dX0_nextStatement_282 (fun r42 m43 h => ?_)
          refine ez_if_eq (pc := 285) (tgt := 292) Z dX0_nextStatement_285 rfl (fun c44 => ?_) (fun c44 => ?_)
          · replace h := h.1 c44
            refine ez_iconst (pc := 292) Z dX0_nextStatement_292 ec_0 ?_
            exact ez_zret (pc := 293) Z hR m43 rfl h rfl dX0_nextStatement_293
          · replace h := h.2 c44
            refine ez_iconst (pc := 288) Z dX0_nextStatement_288 ec_1 ?_
            refine ez_goto (pc := 289) (tgt := 293) Z dX0_nextStatement_289 rfl ?_
            exact ez_zret (pc := 293) Z hR m43 rfl h rfl dX0_nextStatement_293
    · replace h := h.2 c35
      by_cases c45 : t0 = (108 : Int32)
      · replace h := h.1 c45
        refine ez_lkpI (pc := 32) (off := 196) (tgt := 228) Z dX0_nextStatement_32 (108 : Int32) c45 (by decide) (by decide +kernel) rfl ?_
        refine ez_aload_n (pc := 228) Z dX0_nextStatement_228 0 rfl rfl ?_
        refine ez_bipush (pc := 229) Z dX0_nextStatement_229 eb_108 ?_
        refine ez_callVi (pc := 231) (r := 42) (As := [.int (108 : Int32)]) (st := []) Z (kX0_passes Z.2.2.2.2.2.2.2.2.2.1 (E := E) hE1 h) gX0_nextStatement_X0_passes rfl rfl rfl hdX0_passes rfl rfl (by decide) (ew_oL hE1 _) rfl rfl rfl rfl dX0_nextStatement_231 (fun r46 m47 h => ?_)
        refine ez_if_eq (pc := 234) (tgt := 259) Z dX0_nextStatement_234 rfl (fun c48 => ?_) (fun c48 => ?_)
        · replace h := h.1 c48
          refine ez_iconst (pc := 259) Z dX0_nextStatement_259 ec_0 ?_
          exact ez_zret (pc := 260) Z hR m47 rfl h rfl dX0_nextStatement_260
        · replace h := h.2 c48
          refine ez_aload_n (pc := 237) Z dX0_nextStatement_237 0 rfl rfl ?_
          refine ez_iconst (pc := 238) Z dX0_nextStatement_238 ec_0 ?_
          refine ez_iconst (pc := 239) Z dX0_nextStatement_239 ec_1 ?_
          refine ez_callVi (pc := 240) (r := 42) (As := [.int (0 : Int32), .int (1 : Int32)]) (st := []) Z (kX0_passesNumber Z.2.2.2.2.2.2.2.2.2.1 (E := E) hE1 h) gX0_nextStatement_X0_passesNumber rfl rfl rfl hdX0_passesNumber rfl rfl (by decide) (ew_oL hE1 _) rfl rfl rfl rfl dX0_nextStatement_240 (fun r49 m50 h => ?_)
          refine ez_if_eq (pc := 243) (tgt := 259) Z dX0_nextStatement_243 rfl (fun c51 => ?_) (fun c51 => ?_)
          · replace h := h.1 c51
            refine ez_iconst (pc := 259) Z dX0_nextStatement_259 ec_0 ?_
            exact ez_zret (pc := 260) Z hR m50 rfl h rfl dX0_nextStatement_260
          · replace h := h.2 c51
            refine ez_aload_n (pc := 246) Z dX0_nextStatement_246 0 rfl rfl ?_
            refine ez_bipush (pc := 247) Z dX0_nextStatement_247 eb_59 ?_
            refine ez_callVi (pc := 249) (r := 42) (As := [.int (59 : Int32)]) (st := []) Z (kX0_passes Z.2.2.2.2.2.2.2.2.2.1 (E := E) hE1 h) gX0_nextStatement_X0_passes rfl rfl rfl hdX0_passes rfl rfl (by decide) (ew_oL hE1 _) rfl rfl rfl rfl dX0_nextStatement_249 (fun r52 m53 h => ?_)
            refine ez_if_eq (pc := 252) (tgt := 259) Z dX0_nextStatement_252 rfl (fun c54 => ?_) (fun c54 => ?_)
            · replace h := h.1 c54
              refine ez_iconst (pc := 259) Z dX0_nextStatement_259 ec_0 ?_
              exact ez_zret (pc := 260) Z hR m53 rfl h rfl dX0_nextStatement_260
            · replace h := h.2 c54
              refine ez_iconst (pc := 255) Z dX0_nextStatement_255 ec_1 ?_
              refine ez_goto (pc := 256) (tgt := 260) Z dX0_nextStatement_256 rfl ?_
              exact ez_zret (pc := 260) Z hR m53 rfl h rfl dX0_nextStatement_260
      · replace h := h.2 c45
        by_cases c55 : t0 = (112 : Int32)
        · replace h := h.1 c55
          refine ez_lkpI (pc := 32) (off := 44) (tgt := 76) Z dX0_nextStatement_32 (112 : Int32) c55 (by decide) (by decide +kernel) rfl ?_
          refine ez_aload_n (pc := 76) Z dX0_nextStatement_76 0 rfl rfl ?_
          refine ez_bipush (pc := 77) Z dX0_nextStatement_77 eb_112 ?_
          refine ez_callVi (pc := 79) (r := 42) (As := [.int (112 : Int32)]) (st := []) Z (kX0_passes Z.2.2.2.2.2.2.2.2.2.1 (E := E) hE1 h) gX0_nextStatement_X0_passes rfl rfl rfl hdX0_passes rfl rfl (by decide) (ew_oL hE1 _) rfl rfl rfl rfl dX0_nextStatement_79 (fun r56 m57 h => ?_)
          refine ez_if_eq (pc := 82) (tgt := 123) Z dX0_nextStatement_82 rfl (fun c58 => ?_) (fun c58 => ?_)
          · replace h := h.1 c58
            refine ez_iconst (pc := 123) Z dX0_nextStatement_123 ec_0 ?_
            exact ez_zret (pc := 124) Z hR m57 rfl h rfl dX0_nextStatement_124
          · replace h := h.2 c58
            refine ez_aload_n (pc := 85) Z dX0_nextStatement_85 0 rfl rfl ?_
            refine ez_callVi (pc := 86) (r := 42) (As := []) (st := []) Z (kX0_passesKind Z.2.2.2.2.2.2.2.2.2.1 (E := E) hE1 h) gX0_nextStatement_X0_passesKind rfl rfl rfl hdX0_passesKind rfl rfl (by decide) (ew_oL hE1 _) rfl rfl rfl rfl dX0_nextStatement_86 (fun r59 m60 h => ?_)
            refine ez_if_eq (pc := 89) (tgt := 123) Z dX0_nextStatement_89 rfl (fun c61 => ?_) (fun c61 => ?_)
            · replace h := h.1 c61
              refine ez_iconst (pc := 123) Z dX0_nextStatement_123 ec_0 ?_
              exact ez_zret (pc := 124) Z hR m60 rfl h rfl dX0_nextStatement_124
            · replace h := h.2 c61
              refine ez_aload_n (pc := 92) Z dX0_nextStatement_92 0 rfl rfl ?_
              refine ez_iconst (pc := 93) Z dX0_nextStatement_93 ec_1 ?_
              refine ez_iconst (pc := 94) Z dX0_nextStatement_94 ec_1 ?_
              refine ez_callVi (pc := 95) (r := 42) (As := [.int (1 : Int32), .int (1 : Int32)]) (st := []) Z (kX0_passesNumber Z.2.2.2.2.2.2.2.2.2.1 (E := E) hE1 h) gX0_nextStatement_X0_passesNumber rfl rfl rfl hdX0_passesNumber rfl rfl (by decide) (ew_oL hE1 _) rfl rfl rfl rfl dX0_nextStatement_95 (fun r62 m63 h => ?_)
              refine ez_if_eq (pc := 98) (tgt := 123) Z dX0_nextStatement_98 rfl (fun c64 => ?_) (fun c64 => ?_)
              · replace h := h.1 c64
                refine ez_iconst (pc := 123) Z dX0_nextStatement_123 ec_0 ?_
                exact ez_zret (pc := 124) Z hR m63 rfl h rfl dX0_nextStatement_124
              · replace h := h.2 c64
                refine ez_aload_n (pc := 101) Z dX0_nextStatement_101 0 rfl rfl ?_
                refine ez_iconst (pc := 102) Z dX0_nextStatement_102 ec_2 ?_
                refine ez_iconst (pc := 103) Z dX0_nextStatement_103 ec_2 ?_
                refine ez_callVi (pc := 104) (r := 42) (As := [.int (2 : Int32), .int (2 : Int32)]) (st := []) Z (kX0_passesNumber Z.2.2.2.2.2.2.2.2.2.1 (E := E) hE1 h) gX0_nextStatement_X0_passesNumber rfl rfl rfl hdX0_passesNumber rfl rfl (by decide) (ew_oL hE1 _) rfl rfl rfl rfl dX0_nextStatement_104 (fun r65 m66 h => ?_)
                refine ez_if_eq (pc := 107) (tgt := 123) Z dX0_nextStatement_107 rfl (fun c67 => ?_) (fun c67 => ?_)
                · replace h := h.1 c67
                  refine ez_iconst (pc := 123) Z dX0_nextStatement_123 ec_0 ?_
                  exact ez_zret (pc := 124) Z hR m66 rfl h rfl dX0_nextStatement_124
                · replace h := h.2 c67
                  refine ez_aload_n (pc := 110) Z dX0_nextStatement_110 0 rfl rfl ?_
                  refine ez_bipush (pc := 111) Z dX0_nextStatement_111 eb_59 ?_
                  refine ez_callVi (pc := 113) (r := 42) (As := [.int (59 : Int32)]) (st := []) Z (kX0_passes Z.2.2.2.2.2.2.2.2.2.1 (E := E) hE1 h) gX0_nextStatement_X0_passes rfl rfl rfl hdX0_passes rfl rfl (by decide) (ew_oL hE1 _) rfl rfl rfl rfl dX0_nextStatement_113 (fun r68 m69 h => ?_)
                  refine ez_if_eq (pc := 116) (tgt := 123) Z dX0_nextStatement_116 rfl (fun c70 => ?_) (fun c70 => ?_)
                  · replace h := h.1 c70
                    refine ez_iconst (pc := 123) Z dX0_nextStatement_123 ec_0 ?_
                    exact ez_zret (pc := 124) Z hR m69 rfl h rfl dX0_nextStatement_124
                  · replace h := h.2 c70
                    refine ez_iconst (pc := 119) Z dX0_nextStatement_119 ec_1 ?_
                    refine ez_goto (pc := 120) (tgt := 124) Z dX0_nextStatement_120 rfl ?_
                    exact ez_zret (pc := 124) Z hR m69 rfl h rfl dX0_nextStatement_124
        · replace h := h.2 c55
          refine ez_lkpO (pc := 32) (tgt := 294) Z dX0_nextStatement_32 (by decide) ((lv_osw c1 (by decide)).trans ((lv_osw c35 (by decide)).trans ((lv_osw c45 (by decide)).trans ((lv_osw c55 (by decide)).trans rfl)))) rfl ?_
          refine ez_iconst (pc := 294) Z dX0_nextStatement_294 ec_0 ?_
          exact ez_zret (pc := 295) Z hR (ew_sI s1 2 t0) rfl h rfl dX0_nextStatement_295
set_option maxHeartbeats 4000000 in
set_option maxRecDepth 100000 in
theorem kX0_nextStatement {X : ew_X} {l : Launch} (hX : ew_Ap X) {E : ew_M → ew_S} (hE1 : ew_GE X 42 (ew_GL X.2.1) E) {Q : Int32 → ew_M → Prop} {s1 : ew_M} (h : wX0_nextStatement Q s1) : Met l yX0_nextStatement wsX0_nextStatement ({ frames := 5, cells := 0, slots := 0, locals := 112 } : Room) (va_Pc [.ref (X.2.1 42)] (ew_wd X (E s1))) (va_Qi (fun (r : Int32) (u : ew_M) => Q r u) (fun (u : ew_M) => ew_wd X ((fun (u : ew_M) => E u) u)) X.2.2.1) 0 0 X.2.2.1 := by
  refine ew_met (As := [.ref (X.2.1 42)]) (L0 := [(0, .ref (X.2.1 42))]) X l hX (by decide) rfl rfl rfl rfl (fun C hl Z hR => ?_)
  subst hl
  refine ez_aload_n (pc := 0) Z dX0_nextStatement_0 0 rfl rfl ?_
  refine ez_aload_n (pc := 1) Z dX0_nextStatement_1 0 rfl rfl ?_
  refine fX0_at (pc := 2) (v := s1.1 1) Z hE1 rfl inX0_nextStatement (List.mem_of_getElem? (i := 1) rfl) dX0_nextStatement_2 ?_
  refine ez_aload_n (pc := 5) Z dX0_nextStatement_5 0 rfl rfl ?_
  refine fX0_size (pc := 6) (v := s1.1 0) Z hE1 rfl inX0_nextStatement (List.mem_of_getElem? (i := 2) rfl) dX0_nextStatement_6 ?_
  refine ez_icmp_ge (pc := 9) (tgt := 24) Z dX0_nextStatement_9 rfl (fun c1 => ?_) (fun c1 => ?_)
  · replace h := h.1 c1
    refine ez_iconst (pc := 24) Z dX0_nextStatement_24 ec_m1 ?_
    exact tX0_nextStatement_25 hE1 Z hR  h
  · replace h := h.2 c1
    refine ez_aload_n (pc := 12) Z dX0_nextStatement_12 0 rfl rfl ?_
    refine fX0_text (pc := 13) (M := s1) Z hE1 inX0_nextStatement (List.mem_of_getElem? (i := 3) rfl) dX0_nextStatement_13 ?_
    refine ez_aload_n (pc := 16) Z dX0_nextStatement_16 0 rfl rfl ?_
    refine fX0_at (pc := 17) (v := s1.1 1) Z hE1 rfl inX0_nextStatement (List.mem_of_getElem? (i := 1) rfl) dX0_nextStatement_17 ?_
    refine ez_iald (pc := 20) (n := 64) (a := 0) (v := s1.2.1 0 (s1.1 1).toNatClampNeg) (M := s1) Z hE1 1 rfl (by decide : 0 < 2) rfl rfl h.1 dX0_nextStatement_20 ?_
    replace h := h.2
    refine ez_goto (pc := 21) (tgt := 25) Z dX0_nextStatement_21 rfl ?_
    exact tX0_nextStatement_25 hE1 Z hR  h
theorem inX0_hasMore : ∀ w ∈ wsX00, w ∈ wsX0_hasMore := fun _ h => List.mem_cons_of_mem _ (List.mem_append_right _ (h))
theorem hdX0_hasMore : yX0_hasMore.cls = RX0 ∧ yX0_hasMore.cls ≠ "java/lang/invoke/MethodHandle" ∧ yX0_hasMore.cls ≠ "java/lang/invoke/VarHandle" ∧ (parseMethodDescriptor yX0_hasMore.desc).map (fun d => d.parameters.length) = some 0 := by decide +kernel
def wX0_hasMore (Q : Int32 → Prop) (s1 : ew_M) : Prop := ((s1.1 0) ≤ (s1.1 1) → Q (0 : Int32) ) ∧ (¬ (s1.1 0) ≤ (s1.1 1) → Q (1 : Int32) )
set_option maxHeartbeats 4000000 in
set_option maxRecDepth 100000 in
theorem kX0_hasMore {X : ew_X} {l : Launch} (hX : ew_Ap X) {E : ew_M → ew_S} (hE1 : ew_GE X 42 (ew_GL X.2.1) E) {Q : Int32 → Prop} {s1 : ew_M} (h : wX0_hasMore Q s1) : Met l yX0_hasMore wsX0_hasMore ({ frames := 0, cells := 0, slots := 0, locals := 0 } : Room) (va_Pc [.ref (X.2.1 42)] (ew_wd X (E s1))) (va_Qi (fun (r : Int32) (_ : Unit) => Q r) (fun (u : Unit) => ew_wd X ((fun (_ : Unit) => E s1) u)) X.2.2.1) 0 0 X.2.2.1 := by
  refine ew_met (As := [.ref (X.2.1 42)]) (L0 := [(0, .ref (X.2.1 42))]) X l hX (by decide) rfl rfl rfl rfl (fun C hl Z hR => ?_)
  subst hl
  refine ez_aload_n (pc := 0) Z dX0_hasMore_0 0 rfl rfl ?_
  refine fX0_at (pc := 1) (v := s1.1 1) Z hE1 rfl inX0_hasMore (List.mem_of_getElem? (i := 1) rfl) dX0_hasMore_1 ?_
  refine ez_aload_n (pc := 4) Z dX0_hasMore_4 0 rfl rfl ?_
  refine fX0_size (pc := 5) (v := s1.1 0) Z hE1 rfl inX0_hasMore (List.mem_of_getElem? (i := 2) rfl) dX0_hasMore_5 ?_
  refine ez_icmp_ge (pc := 8) (tgt := 15) Z dX0_hasMore_8 rfl (fun c1 => ?_) (fun c1 => ?_)
  · replace h := h.1 c1
    refine ez_iconst (pc := 15) Z dX0_hasMore_15 ec_0 ?_
    exact ez_zret (pc := 16) Z hR () rfl h rfl dX0_hasMore_16
  · replace h := h.2 c1
    refine ez_iconst (pc := 11) Z dX0_hasMore_11 ec_1 ?_
    refine ez_goto (pc := 12) (tgt := 16) Z dX0_hasMore_12 rfl ?_
    exact ez_zret (pc := 16) Z hR () rfl h rfl dX0_hasMore_16
theorem inX0_brokenPlace : ∀ w ∈ wsX00, w ∈ wsX0_brokenPlace := fun _ h => List.mem_cons_of_mem _ (List.mem_append_right _ (h))
theorem hdX0_brokenPlace : yX0_brokenPlace.cls = RX0 ∧ yX0_brokenPlace.cls ≠ "java/lang/invoke/MethodHandle" ∧ yX0_brokenPlace.cls ≠ "java/lang/invoke/VarHandle" ∧ (parseMethodDescriptor yX0_brokenPlace.desc).map (fun d => d.parameters.length) = some 0 := by decide +kernel
def wX0_brokenPlace_6 (R6 : Int32 × ew_M → Prop) (Q : Int32 → ew_M → Prop) (v1 : Int32) (s1 : ew_M) : Prop := wX0_nextStatement (fun (r1 : Int32) (m2 : ew_M) => (¬ r1 = 0 → wX0_hasMore (fun (r4 : Int32) => (r4 = 0 → Q (-1 : Int32) m2) ∧ (¬ r4 = 0 → ((v1 + (1 : Int32)) < (64 : Int32) → R6 (v1 + (1 : Int32), m2)) ∧ (¬ (v1 + (1 : Int32)) < (64 : Int32) → Q (-1 : Int32) m2))) m2) ∧ (r1 = 0 → Q (m2.1 1) m2)) s1
def wX0_brokenPlace (Q : Int32 → ew_M → Prop) (s1 : ew_M) : Prop := wX0_rewind (fun (m2 : ew_M) => ew_lp (fun (R : Int32 × ew_M → Prop) (x : Int32 × ew_M) => wX0_brokenPlace_6 R Q x.1 x.2) ((0 : Int32), m2)) s1
set_option maxHeartbeats 4000000 in
set_option maxRecDepth 100000 in
theorem tX0_brokenPlace_6 {C : ew_C} {X : ew_X} {E : ew_M → ew_S} (hE1 : ew_GE X 42 (ew_GL X.2.1) E) (Z : ew_Z C X cX0_brokenPlace 2 RX0 wsX0_brokenPlace ({ frames := 6, cells := 0, slots := 0, locals := 132 } : Room) (some .int)) {Q : Int32 → ew_M → Prop} {R6 : Int32 × ew_M → Prop} {v1 : Int32} {s1 : ew_M} (hR : C.2.2.2.2.2.2.2.2.2.2 = MQ C.2.2.2.2.2.2.2.1 (va_Qi (fun (r : Int32) (u : ew_M) => Q r u) (fun (u : ew_M) => ew_wd X ((fun (u : ew_M) => E u) u)) X.2.2.1) C.2.2.2.2.2.2.1 C.2.2.2.2.1 0 0 X.2.2.1) (hR6 : ∀ x : Int32 × ew_M, R6 x → ew_W C X 2 (E x.2) 6 [(0, .ref (X.2.1 42)), (1, .int x.1)] []) (h : wX0_brokenPlace_6 R6 Q v1 s1) : ew_W C X 2 (E s1) 6 [(0, .ref (X.2.1 42)), (1, .int v1)] [] := by
  refine ez_aload_n (pc := 6) Z dX0_brokenPlace_6 0 rfl rfl ?_
  refine ez_callVi (pc := 7) (r := 42) (As := []) (st := []) Z (kX0_nextStatement Z.2.2.2.2.2.2.2.2.2.1 (E := E) hE1 h) gX0_brokenPlace_X0_nextStatement rfl rfl rfl hdX0_nextStatement rfl rfl (by decide) (ew_oL hE1 _) rfl rfl rfl rfl dX0_brokenPlace_7 (fun r1 m2 h => ?_)
  refine ez_if_ne (pc := 10) (tgt := 18) Z dX0_brokenPlace_10 rfl (fun c3 => ?_) (fun c3 => ?_)
  · replace h := h.1 c3
    refine ez_iinc (pc := 18) (L' := [(1, .int (v1 + (1 : Int32))), (0, .ref (X.2.1 42))]) Z dX0_brokenPlace_18 1 rfl (ei_1 _) (by decide) rfl ?_
    refine ez_aload_n (pc := 21) Z dX0_brokenPlace_21 1 rfl rfl ?_
    refine ez_callVi (pc := 22) (r := 42) (As := []) (st := []) Z (kX0_hasMore Z.2.2.2.2.2.2.2.2.2.1 (E := E) hE1 h) gX0_brokenPlace_X0_hasMore rfl rfl rfl hdX0_hasMore rfl rfl (by decide) (ew_oL hE1 _) rfl rfl rfl rfl dX0_brokenPlace_22 (fun r4 u5 h => ?_)
    refine ez_if_eq (pc := 25) (tgt := 34) Z dX0_brokenPlace_25 rfl (fun c6 => ?_) (fun c6 => ?_)
    · replace h := h.1 c6
      refine ez_iconst (pc := 34) Z dX0_brokenPlace_34 ec_m1 ?_
      exact ez_iret (pc := 35) Z hR m2 h rfl dX0_brokenPlace_35
    · replace h := h.2 c6
      refine ez_iload_n (pc := 28) Z dX0_brokenPlace_28 0 rfl rfl ?_
      refine ez_bipush (pc := 29) Z dX0_brokenPlace_29 eb_64 ?_
      refine ez_icmp_lt (pc := 31) (tgt := 6) Z dX0_brokenPlace_31 rfl (fun c7 => ?_) (fun c7 => ?_)
      · replace h := h.1 c7
        refine ez_sub [(0, .ref (X.2.1 42)), (1, .int (v1 + (1 : Int32)))] [1, 0] rfl ?_
        exact hR6 _ h
      · replace h := h.2 c7
        refine ez_iconst (pc := 34) Z dX0_brokenPlace_34 ec_m1 ?_
        exact ez_iret (pc := 35) Z hR m2 h rfl dX0_brokenPlace_35
  · replace h := h.2 c3
    refine ez_aload_n (pc := 13) Z dX0_brokenPlace_13 0 rfl rfl ?_
    refine fX0_at (pc := 14) (v := m2.1 1) Z hE1 rfl inX0_brokenPlace (List.mem_of_getElem? (i := 1) rfl) dX0_brokenPlace_14 ?_
    exact ez_iret (pc := 17) Z hR m2 h rfl dX0_brokenPlace_17
set_option maxHeartbeats 4000000 in
set_option maxRecDepth 100000 in
theorem kX0_brokenPlace {X : ew_X} {l : Launch} (hX : ew_Ap X) {E : ew_M → ew_S} (hE1 : ew_GE X 42 (ew_GL X.2.1) E) {Q : Int32 → ew_M → Prop} {s1 : ew_M} (h : wX0_brokenPlace Q s1) : Met l yX0_brokenPlace wsX0_brokenPlace ({ frames := 6, cells := 0, slots := 0, locals := 132 } : Room) (va_Pc [.ref (X.2.1 42)] (ew_wd X (E s1))) (va_Qi (fun (r : Int32) (u : ew_M) => Q r u) (fun (u : ew_M) => ew_wd X ((fun (u : ew_M) => E u) u)) X.2.2.1) 0 0 X.2.2.1 := by
  refine ew_met (As := [.ref (X.2.1 42)]) (L0 := [(0, .ref (X.2.1 42))]) X l hX (by decide) rfl rfl rfl rfl (fun C hl Z hR => ?_)
  subst hl
  refine ez_aload_n (pc := 0) Z dX0_brokenPlace_0 0 rfl rfl ?_
  refine ez_callVv (pc := 1) (r := 42) (As := []) (st := []) Z (kX0_rewind Z.2.2.2.2.2.2.2.2.2.1 (E := E) hE1 h) gX0_brokenPlace_X0_rewind rfl rfl rfl hdX0_rewind rfl rfl (by decide) (ew_oL hE1 _) rfl rfl rfl rfl dX0_brokenPlace_1 (fun m2 h => ?_)
  refine ez_iconst (pc := 4) Z dX0_brokenPlace_4 ec_0 ?_
  refine ez_istore_n (pc := 5) (L' := [(1, .int (0 : Int32)), (0, .ref (X.2.1 42))]) Z dX0_brokenPlace_5 rfl (by decide) rfl ?_
  refine ez_sub [(0, .ref (X.2.1 42)), (1, .int (0 : Int32))] [1, 0] rfl ?_
  exact ew_ind (P := fun (x : Int32 × ew_M) => ew_W C X 2 (E x.2) 6 [(0, .ref (X.2.1 42)), (1, .int x.1)] []) (fun R hR9 x h => tX0_brokenPlace_6 hE1 Z hR  hR9 h) h
theorem inX0_place : ∀ w ∈ wsX00, w ∈ wsX0_place := fun _ h => List.mem_cons_of_mem _ (List.mem_append_right _ (h))
theorem hdX0_place : yX0_place.cls = RX0 ∧ yX0_place.cls ≠ "java/lang/invoke/MethodHandle" ∧ yX0_place.cls ≠ "java/lang/invoke/VarHandle" ∧ (parseMethodDescriptor yX0_place.desc).map (fun d => d.parameters.length) = some 0 := by decide +kernel
def wX0_place (Q : Int32 → Prop) (s1 : ew_M) : Prop := Q (s1.1 1) 
set_option maxHeartbeats 4000000 in
set_option maxRecDepth 100000 in
theorem kX0_place {X : ew_X} {l : Launch} (hX : ew_Ap X) {E : ew_M → ew_S} (hE1 : ew_GE X 42 (ew_GL X.2.1) E) {Q : Int32 → Prop} {s1 : ew_M} (h : wX0_place Q s1) : Met l yX0_place wsX0_place ({ frames := 0, cells := 0, slots := 0, locals := 0 } : Room) (va_Pc [.ref (X.2.1 42)] (ew_wd X (E s1))) (va_Qi (fun (r : Int32) (_ : Unit) => Q r) (fun (u : Unit) => ew_wd X ((fun (_ : Unit) => E s1) u)) X.2.2.1) 0 0 X.2.2.1 := by
  refine ew_met (As := [.ref (X.2.1 42)]) (L0 := [(0, .ref (X.2.1 42))]) X l hX (by decide) rfl rfl rfl rfl (fun C hl Z hR => ?_)
  subst hl
  refine ez_aload_n (pc := 0) Z dX0_place_0 0 rfl rfl ?_
  refine fX0_at (pc := 1) (v := s1.1 1) Z hE1 rfl inX0_place (List.mem_of_getElem? (i := 1) rfl) dX0_place_1 ?_
  exact ez_iret (pc := 4) Z hR () h rfl dX0_place_4
theorem inX0_sortOfStatement : ∀ w ∈ wsX00, w ∈ wsX0_sortOfStatement := fun _ h => List.mem_cons_of_mem _ (List.mem_append_right _ (h))
theorem hdX0_sortOfStatement : yX0_sortOfStatement.cls = RX0 ∧ yX0_sortOfStatement.cls ≠ "java/lang/invoke/MethodHandle" ∧ yX0_sortOfStatement.cls ≠ "java/lang/invoke/VarHandle" ∧ (parseMethodDescriptor yX0_sortOfStatement.desc).map (fun d => d.parameters.length) = some 0 := by decide +kernel
def wX0_sortOfStatement (Q : Int32 → Prop) (s1 : ew_M) : Prop := Q (s1.1 2) 
set_option maxHeartbeats 4000000 in
set_option maxRecDepth 100000 in
theorem kX0_sortOfStatement {X : ew_X} {l : Launch} (hX : ew_Ap X) {E : ew_M → ew_S} (hE1 : ew_GE X 42 (ew_GL X.2.1) E) {Q : Int32 → Prop} {s1 : ew_M} (h : wX0_sortOfStatement Q s1) : Met l yX0_sortOfStatement wsX0_sortOfStatement ({ frames := 0, cells := 0, slots := 0, locals := 0 } : Room) (va_Pc [.ref (X.2.1 42)] (ew_wd X (E s1))) (va_Qi (fun (r : Int32) (_ : Unit) => Q r) (fun (u : Unit) => ew_wd X ((fun (_ : Unit) => E s1) u)) X.2.2.1) 0 0 X.2.2.1 := by
  refine ew_met (As := [.ref (X.2.1 42)]) (L0 := [(0, .ref (X.2.1 42))]) X l hX (by decide) rfl rfl rfl rfl (fun C hl Z hR => ?_)
  subst hl
  refine ez_aload_n (pc := 0) Z dX0_sortOfStatement_0 0 rfl rfl ?_
  refine fX0_sort (pc := 1) (v := s1.1 2) Z hE1 rfl inX0_sortOfStatement (List.mem_of_getElem? (i := 1) rfl) dX0_sortOfStatement_1 ?_
  exact ez_iret (pc := 4) Z hR () h rfl dX0_sortOfStatement_4
theorem inX0_number : ∀ w ∈ wsX00, w ∈ wsX0_number := fun _ h => List.mem_cons_of_mem _ (List.mem_append_right _ (h))
theorem hdX0_number : yX0_number.cls = RX0 ∧ yX0_number.cls ≠ "java/lang/invoke/MethodHandle" ∧ yX0_number.cls ≠ "java/lang/invoke/VarHandle" ∧ (parseMethodDescriptor yX0_number.desc).map (fun d => d.parameters.length) = some 1 := by decide +kernel
def wX0_number (Q : Int32 → Prop) (p1 : Int32) (s1 : ew_M) : Prop := (p1 < 0 → Q (0 : Int32) ) ∧ (¬ p1 < 0 → ((6 : Int32) ≤ p1 → Q (0 : Int32) ) ∧ (¬ (6 : Int32) ≤ p1 → vp_in p1 6 ∧ (Q (s1.2.1 1 p1.toNatClampNeg) )))
set_option maxHeartbeats 4000000 in
set_option maxRecDepth 100000 in
theorem kX0_number {X : ew_X} {l : Launch} (hX : ew_Ap X) {E : ew_M → ew_S} (hE1 : ew_GE X 42 (ew_GL X.2.1) E) {Q : Int32 → Prop} {p1 : Int32} {s1 : ew_M} (h : wX0_number Q p1 s1) : Met l yX0_number wsX0_number ({ frames := 0, cells := 0, slots := 0, locals := 0 } : Room) (va_Pc [.ref (X.2.1 42), .int p1] (ew_wd X (E s1))) (va_Qi (fun (r : Int32) (_ : Unit) => Q r) (fun (u : Unit) => ew_wd X ((fun (_ : Unit) => E s1) u)) X.2.2.1) 0 0 X.2.2.1 := by
  refine ew_met (As := [.ref (X.2.1 42), .int p1]) (L0 := [(0, .ref (X.2.1 42)), (1, .int p1)]) X l hX (by decide) rfl rfl rfl rfl (fun C hl Z hR => ?_)
  subst hl
  refine ez_iload_n (pc := 0) Z dX0_number_0 1 rfl rfl ?_
  refine ez_if_lt (pc := 1) (tgt := 19) Z dX0_number_1 rfl (fun c1 => ?_) (fun c1 => ?_)
  · replace h := h.1 c1
    refine ez_iconst (pc := 19) Z dX0_number_19 ec_0 ?_
    exact ez_iret (pc := 20) Z hR () h rfl dX0_number_20
  · replace h := h.2 c1
    refine ez_iload_n (pc := 4) Z dX0_number_4 1 rfl rfl ?_
    refine ez_bipush (pc := 5) Z dX0_number_5 eb_6 ?_
    refine ez_icmp_ge (pc := 7) (tgt := 19) Z dX0_number_7 rfl (fun c2 => ?_) (fun c2 => ?_)
    · replace h := h.1 c2
      refine ez_iconst (pc := 19) Z dX0_number_19 ec_0 ?_
      exact ez_iret (pc := 20) Z hR () h rfl dX0_number_20
    · replace h := h.2 c2
      refine ez_aload_n (pc := 10) Z dX0_number_10 0 rfl rfl ?_
      refine fX0_numbers (pc := 11) (M := s1) Z hE1 inX0_number (List.mem_of_getElem? (i := 1) rfl) dX0_number_11 ?_
      refine ez_iload_n (pc := 14) Z dX0_number_14 1 rfl rfl ?_
      refine ez_iald (pc := 15) (n := 6) (a := 1) (v := s1.2.1 1 p1.toNatClampNeg) (M := s1) Z hE1 2 rfl (by decide : 1 < 2) rfl rfl h.1 dX0_number_15 ?_
      replace h := h.2
      refine ez_goto (pc := 16) (tgt := 20) Z dX0_number_16 rfl ?_
      exact ez_iret (pc := 20) Z hR () h rfl dX0_number_20
theorem hdX2_commonOf : yX2_commonOf.cls ≠ "java/lang/invoke/MethodHandle" ∧ yX2_commonOf.cls ≠ "java/lang/invoke/VarHandle" ∧ (parseMethodDescriptor yX2_commonOf.desc).map (fun d => d.parameters.length) = some 2 := by decide +kernel
def wX2_commonOf_9 (R9 : Int64 × Int64 × Int32 → Prop) (Q : Int64 → Prop) (v4 : Int64) (v6 : Int64) (v8 : Int32) : Prop := ((1000 : Int32) ≤ v8 → Q v4 ) ∧ (¬ (1000 : Int32) ≤ v8 → ((lg_cmp v6 (0 : Int64)) = 0 → Q v4 ) ∧ (¬ (lg_cmp v6 (0 : Int64)) = 0 → (¬ v6 = 0) ∧ (R9 (v6, v4 - v4 / v6 * v6, v8 + (1 : Int32)))))
def wX2_commonOf (Q : Int64 → Prop) (p1 : Int64) (p2 : Int64) : Prop := ew_lp (fun (R : Int64 × Int64 × Int32 → Prop) (x : Int64 × Int64 × Int32) => wX2_commonOf_9 R Q x.1 x.2.1 x.2.2) (p1, p2, (0 : Int32))
set_option maxHeartbeats 4000000 in
set_option maxRecDepth 100000 in
theorem tX2_commonOf_9 {C : ew_C} {X : ew_X} {S : ew_S} (Z : ew_Z C X cX2_commonOf 11 RX2 wsX2_commonOf ({ frames := 0, cells := 0, slots := 0, locals := 0 } : Room) (some .long)) {Q : Int64 → Prop} {R9 : Int64 × Int64 × Int32 → Prop} {v4 : Int64} {v6 : Int64} {v8 : Int32} (hR : C.2.2.2.2.2.2.2.2.2.2 = MQ C.2.2.2.2.2.2.2.1 (va_Ql (fun (r : Int64) (_ : Unit) => Q r) (fun (u : Unit) => ew_wd X ((fun (_ : Unit) => S) u)) X.2.2.1) C.2.2.2.2.2.2.1 C.2.2.2.2.1 0 0 X.2.2.1) (hR9 : ∀ x : Int64 × Int64 × Int32, R9 x → ew_W C X 11 (S) 9 [(4, .long x.1), (6, .long x.2.1), (8, .int x.2.2)] []) (h : wX2_commonOf_9 R9 Q v4 v6 v8) : ew_W C X 11 (S) 9 [(4, .long v4), (6, .long v6), (8, .int v8)] [] := by
  refine ez_iload (pc := 9) Z dX2_commonOf_9 2 rfl ?_
  refine ez_sipush (pc := 11) Z dX2_commonOf_11 es_1000 ?_
  refine ez_icmp_ge (pc := 14) (tgt := 45) Z dX2_commonOf_14 rfl (fun c1 => ?_) (fun c1 => ?_)
  · replace h := h.1 c1
    refine ez_lload (pc := 45) Z dX2_commonOf_45 0 rfl ?_
    exact ez_lret (pc := 47) Z hR () h rfl dX2_commonOf_47
  · replace h := h.2 c1
    refine ez_lload (pc := 17) Z dX2_commonOf_17 1 rfl ?_
    refine ez_lconst (pc := 19) Z dX2_commonOf_19 el_0 ?_
    refine ez_lcmp (pc := 20) Z dX2_commonOf_20 ?_
    refine ez_if_eq (pc := 21) (tgt := 45) Z dX2_commonOf_21 rfl (fun c2 => ?_) (fun c2 => ?_)
    · replace h := h.1 c2
      refine ez_lload (pc := 45) Z dX2_commonOf_45 0 rfl ?_
      exact ez_lret (pc := 47) Z hR () h rfl dX2_commonOf_47
    · replace h := h.2 c2
      refine ez_lload (pc := 24) Z dX2_commonOf_24 0 rfl ?_
      refine ez_lload (pc := 26) Z dX2_commonOf_26 1 rfl ?_
      refine ez_lrem (pc := 28) Z dX2_commonOf_28 h.1 ?_
      replace h := h.2
      refine ez_lstore (pc := 29) (L' := [(9, .long (v4 - v4 / v6 * v6)), (4, .long v4), (6, .long v6), (8, .int v8)]) Z dX2_commonOf_29 (by decide) rfl ?_
      refine ez_lload (pc := 31) Z dX2_commonOf_31 2 rfl ?_
      refine ez_lstore (pc := 33) (L' := [(4, .long v6), (9, .long (v4 - v4 / v6 * v6)), (6, .long v6), (8, .int v8)]) Z dX2_commonOf_33 (by decide) rfl ?_
      refine ez_lload (pc := 35) Z dX2_commonOf_35 1 rfl ?_
      refine ez_lstore (pc := 37) (L' := [(6, .long (v4 - v4 / v6 * v6)), (4, .long v6), (9, .long (v4 - v4 / v6 * v6)), (8, .int v8)]) Z dX2_commonOf_37 (by decide) rfl ?_
      refine ez_iinc (pc := 39) (L' := [(8, .int (v8 + (1 : Int32))), (6, .long (v4 - v4 / v6 * v6)), (4, .long v6), (9, .long (v4 - v4 / v6 * v6))]) Z dX2_commonOf_39 3 rfl (ei_1 _) (by decide) rfl ?_
      refine ez_goto (pc := 42) (tgt := 9) Z dX2_commonOf_42 rfl ?_
      refine ez_sub [(4, .long v6), (6, .long (v4 - v4 / v6 * v6)), (8, .int (v8 + (1 : Int32)))] [2, 1, 0] rfl ?_
      exact hR9 _ h
set_option maxHeartbeats 4000000 in
set_option maxRecDepth 100000 in
theorem kX2_commonOf {X : ew_X} {l : Launch} (hX : ew_Ap X) {S : ew_S} {Q : Int64 → Prop} {p1 : Int64} {p2 : Int64} (h : wX2_commonOf Q p1 p2) : Met l yX2_commonOf wsX2_commonOf ({ frames := 0, cells := 0, slots := 0, locals := 0 } : Room) (va_Pc [.long p1, .long p2] (ew_wd X (S))) (va_Ql (fun (r : Int64) (_ : Unit) => Q r) (fun (u : Unit) => ew_wd X ((fun (_ : Unit) => S) u)) X.2.2.1) 0 0 X.2.2.1 := by
  refine ew_met (As := [.long p1, .long p2]) (L0 := [(0, .long p1), (2, .long p2)]) X l hX (by decide) rfl rfl rfl rfl (fun C hl Z hR => ?_)
  subst hl
  refine ez_lload_n (pc := 0) Z dX2_commonOf_0 0 rfl rfl ?_
  refine ez_lstore (pc := 1) (L' := [(4, .long p1), (0, .long p1), (2, .long p2)]) Z dX2_commonOf_1 (by decide) rfl ?_
  refine ez_lload_n (pc := 3) Z dX2_commonOf_3 2 rfl rfl ?_
  refine ez_lstore (pc := 4) (L' := [(6, .long p2), (4, .long p1), (0, .long p1), (2, .long p2)]) Z dX2_commonOf_4 (by decide) rfl ?_
  refine ez_iconst (pc := 6) Z dX2_commonOf_6 ec_0 ?_
  refine ez_istore (pc := 7) (L' := [(8, .int (0 : Int32)), (6, .long p2), (4, .long p1), (0, .long p1), (2, .long p2)]) Z dX2_commonOf_7 (by decide) rfl ?_
  refine ez_sub [(4, .long p1), (6, .long p2), (8, .int (0 : Int32))] [2, 1, 0] rfl ?_
  exact ew_ind (P := fun (x : Int64 × Int64 × Int32) => ew_W C X 11 (S) 9 [(4, .long x.1), (6, .long x.2.1), (8, .int x.2.2)] []) (fun R hR9 x h => tX2_commonOf_9  Z hR  hR9 h) h
theorem hdX4_isNoLaw : yX4_isNoLaw.cls ≠ "java/lang/invoke/MethodHandle" ∧ yX4_isNoLaw.cls ≠ "java/lang/invoke/VarHandle" ∧ (parseMethodDescriptor yX4_isNoLaw.desc).map (fun d => d.parameters.length) = some 1 := by decide +kernel
def wX4_isNoLaw (Q : Int32 → Prop) (p1 : Int32) : Prop := (p1 < 0 → Q (1 : Int32) ) ∧ (¬ p1 < 0 → (p1 < (5 : Int32) → Q (0 : Int32) ) ∧ (¬ p1 < (5 : Int32) → Q (1 : Int32) ))
set_option maxHeartbeats 4000000 in
set_option maxRecDepth 100000 in
theorem kX4_isNoLaw {X : ew_X} {l : Launch} (hX : ew_Ap X) {S : ew_S} {Q : Int32 → Prop} {p1 : Int32} (h : wX4_isNoLaw Q p1) : Met l yX4_isNoLaw wsX4_isNoLaw ({ frames := 0, cells := 0, slots := 0, locals := 0 } : Room) (va_Pc [.int p1] (ew_wd X (S))) (va_Qi (fun (r : Int32) (_ : Unit) => Q r) (fun (u : Unit) => ew_wd X ((fun (_ : Unit) => S) u)) X.2.2.1) 0 0 X.2.2.1 := by
  refine ew_met (As := [.int p1]) (L0 := [(0, .int p1)]) X l hX (by decide) rfl rfl rfl rfl (fun C hl Z hR => ?_)
  subst hl
  refine ez_iload_n (pc := 0) Z dX4_isNoLaw_0 0 rfl rfl ?_
  refine ez_if_lt (pc := 1) (tgt := 9) Z dX4_isNoLaw_1 rfl (fun c1 => ?_) (fun c1 => ?_)
  · replace h := h.1 c1
    refine ez_iconst (pc := 9) Z dX4_isNoLaw_9 ec_1 ?_
    refine ez_goto (pc := 10) (tgt := 14) Z dX4_isNoLaw_10 rfl ?_
    exact ez_zret (pc := 14) Z hR () rfl h rfl dX4_isNoLaw_14
  · replace h := h.2 c1
    refine ez_iload_n (pc := 4) Z dX4_isNoLaw_4 0 rfl rfl ?_
    refine ez_iconst (pc := 5) Z dX4_isNoLaw_5 ec_5 ?_
    refine ez_icmp_lt (pc := 6) (tgt := 13) Z dX4_isNoLaw_6 rfl (fun c2 => ?_) (fun c2 => ?_)
    · replace h := h.1 c2
      refine ez_iconst (pc := 13) Z dX4_isNoLaw_13 ec_0 ?_
      exact ez_zret (pc := 14) Z hR () rfl h rfl dX4_isNoLaw_14
    · replace h := h.2 c2
      refine ez_iconst (pc := 9) Z dX4_isNoLaw_9 ec_1 ?_
      refine ez_goto (pc := 10) (tgt := 14) Z dX4_isNoLaw_10 rfl ?_
      exact ez_zret (pc := 14) Z hR () rfl h rfl dX4_isNoLaw_14
theorem inX0_clear : ∀ w ∈ wsX00, w ∈ wsX0_clear := fun _ h => List.mem_cons_of_mem _ (List.mem_append_right _ (h))
theorem hdX0_clear : yX0_clear.cls = RX0 ∧ yX0_clear.cls ≠ "java/lang/invoke/MethodHandle" ∧ yX0_clear.cls ≠ "java/lang/invoke/VarHandle" ∧ (parseMethodDescriptor yX0_clear.desc).map (fun d => d.parameters.length) = some 0 := by decide +kernel
def wX0_clear (Q : ew_M → Prop) (s1 : ew_M) : Prop := Q (ew_sI (ew_sI s1 0 (0 : Int32)) 1 (0 : Int32))
set_option maxHeartbeats 4000000 in
set_option maxRecDepth 100000 in
theorem kX0_clear {X : ew_X} {l : Launch} (hX : ew_Ap X) {E : ew_M → ew_S} (hE1 : ew_GE X 42 (ew_GL X.2.1) E) {Q : ew_M → Prop} {s1 : ew_M} (h : wX0_clear Q s1) : Met l yX0_clear wsX0_clear ({ frames := 0, cells := 0, slots := 0, locals := 0 } : Room) (va_Pc [.ref (X.2.1 42)] (ew_wd X (E s1))) (va_Qv (fun (u : ew_M) => Q u) (fun (u : ew_M) => ew_wd X ((fun (u : ew_M) => E u) u)) X.2.2.1) 0 0 X.2.2.1 := by
  refine ew_met (As := [.ref (X.2.1 42)]) (L0 := [(0, .ref (X.2.1 42))]) X l hX (by decide) rfl rfl rfl rfl (fun C hl Z hR => ?_)
  subst hl
  refine ez_aload_n (pc := 0) Z dX0_clear_0 0 rfl rfl ?_
  refine ez_iconst (pc := 1) Z dX0_clear_1 ec_0 ?_
  refine pX0_size (pc := 2) (M := s1) (M' := ew_sI s1 0 (0 : Int32)) Z hE1 rfl inX0_clear (List.mem_of_getElem? (i := 1) rfl) dX0_clear_2 ?_
  refine ez_aload_n (pc := 5) Z dX0_clear_5 0 rfl rfl ?_
  refine ez_iconst (pc := 6) Z dX0_clear_6 ec_0 ?_
  refine pX0_at (pc := 7) (M := ew_sI s1 0 (0 : Int32)) (M' := ew_sI (ew_sI s1 0 (0 : Int32)) 1 (0 : Int32)) Z hE1 rfl inX0_clear (List.mem_of_getElem? (i := 2) rfl) dX0_clear_7 ?_
  exact ez_vret (pc := 10) Z hR (ew_sI (ew_sI s1 0 (0 : Int32)) 1 (0 : Int32)) h rfl dX0_clear_10
theorem hdJ6_bitCount_0f7a4 : yJ6_bitCount_0f7a4.cls ≠ "java/lang/invoke/MethodHandle" ∧ yJ6_bitCount_0f7a4.cls ≠ "java/lang/invoke/VarHandle" ∧ (parseMethodDescriptor yJ6_bitCount_0f7a4.desc).map (fun d => d.parameters.length) = some 1 := by decide +kernel
def wJ6_bitCount_0f7a4 (Q : Int32 → Prop) (p1 : Int32) : Prop := ∀ (y1 : Int32), y1 = ((p1 - (((p1.toUInt32 >>> ((1 : Int32).toUInt32 &&& Int32.toUInt32 31)).toInt32) &&& (1431655765 : Int32))).toUInt32 >>> ((2 : Int32).toUInt32 &&& Int32.toUInt32 31)).toInt32 → ∀ (y2 : Int32), y2 = ((p1 - (((p1.toUInt32 >>> ((1 : Int32).toUInt32 &&& Int32.toUInt32 31)).toInt32) &&& (1431655765 : Int32))) &&& (858993459 : Int32)) + (y1 &&& (858993459 : Int32)) → ∀ (y3 : Int32), y3 = (((y2 + ((y2.toUInt32 >>> ((4 : Int32).toUInt32 &&& Int32.toUInt32 31)).toInt32)) &&& (252645135 : Int32)).toUInt32 >>> ((8 : Int32).toUInt32 &&& Int32.toUInt32 31)).toInt32 → ∀ (y4 : Int32), y4 = ((((y2 + ((y2.toUInt32 >>> ((4 : Int32).toUInt32 &&& Int32.toUInt32 31)).toInt32)) &&& (252645135 : Int32)) + y3).toUInt32 >>> ((16 : Int32).toUInt32 &&& Int32.toUInt32 31)).toInt32 → Q (((((y2 + ((y2.toUInt32 >>> ((4 : Int32).toUInt32 &&& Int32.toUInt32 31)).toInt32)) &&& (252645135 : Int32)) + y3) + y4) &&& (63 : Int32)) 
set_option maxHeartbeats 4000000 in
set_option maxRecDepth 100000 in
theorem kJ6_bitCount_0f7a4 {X : ew_X} {l : Launch} (hX : ew_Ap X) {S : ew_S} {Q : Int32 → Prop} {p1 : Int32} (h : wJ6_bitCount_0f7a4 Q p1) : Met l yJ6_bitCount_0f7a4 wsJ6_bitCount_0f7a4 ({ frames := 0, cells := 0, slots := 0, locals := 0 } : Room) (va_Pc [.int p1] (ew_wd X (S))) (va_Qi (fun (r : Int32) (_ : Unit) => Q r) (fun (u : Unit) => ew_wd X ((fun (_ : Unit) => S) u)) X.2.2.1) 0 0 X.2.2.1 := by
  refine ew_met (As := [.int p1]) (L0 := [(0, .int p1)]) X l hX (by decide) rfl rfl rfl rfl (fun C hl Z hR => ?_)
  subst hl
  refine ez_iload_n (pc := 0) Z dJ6_bitCount_0f7a4_0 0 rfl rfl ?_
  refine ez_iload_n (pc := 1) Z dJ6_bitCount_0f7a4_1 0 rfl rfl ?_
  refine ez_iconst (pc := 2) Z dJ6_bitCount_0f7a4_2 ec_1 ?_
  refine ez_iushr (pc := 3) Z dJ6_bitCount_0f7a4_3 ?_
  refine ez_ldcw (pc := 4) Z (List.mem_of_getElem? (i := 1) rfl) dJ6_bitCount_0f7a4_4 ?_
  refine ez_iand (pc := 7) Z dJ6_bitCount_0f7a4_7 ?_
  refine ez_isub (pc := 8) Z dJ6_bitCount_0f7a4_8 ?_
  refine ez_istore_n (pc := 9) (L' := [(0, .int (p1 - (((p1.toUInt32 >>> ((1 : Int32).toUInt32 &&& Int32.toUInt32 31)).toInt32) &&& (1431655765 : Int32))))]) Z dJ6_bitCount_0f7a4_9 rfl (by decide) rfl ?_
  refine ez_iload_n (pc := 10) Z dJ6_bitCount_0f7a4_10 0 rfl rfl ?_
  refine ez_ldcw (pc := 11) Z (List.mem_of_getElem? (i := 2) rfl) dJ6_bitCount_0f7a4_11 ?_
  refine ez_iand (pc := 14) Z dJ6_bitCount_0f7a4_14 ?_
  refine ez_iload_n (pc := 15) Z dJ6_bitCount_0f7a4_15 0 rfl rfl ?_
  refine ez_iconst (pc := 16) Z dJ6_bitCount_0f7a4_16 ec_2 ?_
  refine ez_iushr (pc := 17) Z dJ6_bitCount_0f7a4_17 ?_
  refine ez_topi (fun y1 ey1 => ?_)
  replace h := h y1 ey1
  refine ez_ldcw (pc := 18) Z (List.mem_of_getElem? (i := 2) rfl) dJ6_bitCount_0f7a4_18 ?_
  refine ez_iand (pc := 21) Z dJ6_bitCount_0f7a4_21 ?_
  refine ez_iadd (pc := 22) Z dJ6_bitCount_0f7a4_22 ?_
  refine ez_topi (fun y2 ey2 => ?_)
  replace h := h y2 ey2
  refine ez_istore_n (pc := 23) (L' := [(0, .int y2)]) Z dJ6_bitCount_0f7a4_23 rfl (by decide) rfl ?_
  refine ez_iload_n (pc := 24) Z dJ6_bitCount_0f7a4_24 0 rfl rfl ?_
  refine ez_iload_n (pc := 25) Z dJ6_bitCount_0f7a4_25 0 rfl rfl ?_
  refine ez_iconst (pc := 26) Z dJ6_bitCount_0f7a4_26 ec_4 ?_
  refine ez_iushr (pc := 27) Z dJ6_bitCount_0f7a4_27 ?_
  refine ez_iadd (pc := 28) Z dJ6_bitCount_0f7a4_28 ?_
  refine ez_ldcw (pc := 29) Z (List.mem_of_getElem? (i := 3) rfl) dJ6_bitCount_0f7a4_29 ?_
  refine ez_iand (pc := 32) Z dJ6_bitCount_0f7a4_32 ?_
  refine ez_istore_n (pc := 33) (L' := [(0, .int ((y2 + ((y2.toUInt32 >>> ((4 : Int32).toUInt32 &&& Int32.toUInt32 31)).toInt32)) &&& (252645135 : Int32)))]) Z dJ6_bitCount_0f7a4_33 rfl (by decide) rfl ?_
  refine ez_iload_n (pc := 34) Z dJ6_bitCount_0f7a4_34 0 rfl rfl ?_
  refine ez_iload_n (pc := 35) Z dJ6_bitCount_0f7a4_35 0 rfl rfl ?_
  refine ez_bipush (pc := 36) Z dJ6_bitCount_0f7a4_36 eb_8 ?_
  refine ez_iushr (pc := 38) Z dJ6_bitCount_0f7a4_38 ?_
  refine ez_topi (fun y3 ey3 => ?_)
  replace h := h y3 ey3
  refine ez_iadd (pc := 39) Z dJ6_bitCount_0f7a4_39 ?_
  refine ez_istore_n (pc := 40) (L' := [(0, .int (((y2 + ((y2.toUInt32 >>> ((4 : Int32).toUInt32 &&& Int32.toUInt32 31)).toInt32)) &&& (252645135 : Int32)) + y3))]) Z dJ6_bitCount_0f7a4_40 rfl (by decide) rfl ?_
  refine ez_iload_n (pc := 41) Z dJ6_bitCount_0f7a4_41 0 rfl rfl ?_
  refine ez_iload_n (pc := 42) Z dJ6_bitCount_0f7a4_42 0 rfl rfl ?_
  refine ez_bipush (pc := 43) Z dJ6_bitCount_0f7a4_43 eb_16 ?_
  refine ez_iushr (pc := 45) Z dJ6_bitCount_0f7a4_45 ?_
  refine ez_topi (fun y4 ey4 => ?_)
  replace h := h y4 ey4
  refine ez_iadd (pc := 46) Z dJ6_bitCount_0f7a4_46 ?_
  refine ez_istore_n (pc := 47) (L' := [(0, .int ((((y2 + ((y2.toUInt32 >>> ((4 : Int32).toUInt32 &&& Int32.toUInt32 31)).toInt32)) &&& (252645135 : Int32)) + y3) + y4))]) Z dJ6_bitCount_0f7a4_47 rfl (by decide) rfl ?_
  refine ez_iload_n (pc := 48) Z dJ6_bitCount_0f7a4_48 0 rfl rfl ?_
  refine ez_bipush (pc := 49) Z dJ6_bitCount_0f7a4_49 eb_63 ?_
  refine ez_iand (pc := 51) Z dJ6_bitCount_0f7a4_51 ?_
  exact ez_iret (pc := 52) Z hR () h rfl dJ6_bitCount_0f7a4_52
theorem inX2_become : ∀ w ∈ wsX20, w ∈ wsX2_become := fun _ h => List.mem_cons_of_mem _ (List.mem_append_right _ (h))
theorem hdX2_become : yX2_become.cls = RX2 ∧ yX2_become.cls ≠ "java/lang/invoke/MethodHandle" ∧ yX2_become.cls ≠ "java/lang/invoke/VarHandle" ∧ (parseMethodDescriptor yX2_become.desc).map (fun d => d.parameters.length) = some 2 := by decide +kernel
def wX2_become_45  (Q : ew_M → Prop) (t0 : Int64) (s1 : ew_M) : Prop := Q (ew_sW s1 0 1 t0)
def wX2_become_26  (Q : ew_M → Prop) (v3 : Int64) (v5 : Int64) (t0 : Int64) (s1 : ew_M) : Prop := ((lg_cmp v5 (1 : Int64)) ≤ 0 → wX2_become_45 Q v3 (ew_sW s1 0 0 t0)) ∧ (¬ (lg_cmp v5 (1 : Int64)) ≤ 0 → (¬ v5 = 0) ∧ (wX2_become_45 Q (v3 / v5) (ew_sW s1 0 0 t0)))
def wX2_become (Q : ew_M → Prop) (p1 : Int64) (p2 : Int64) (s1 : ew_M) : Prop := wX2_commonOf (fun (r1 : Int64) => ((lg_cmp r1 (1 : Int64)) ≤ 0 → wX2_become_26 Q p2 r1 p1 s1) ∧ (¬ (lg_cmp r1 (1 : Int64)) ≤ 0 → (¬ r1 = 0) ∧ (wX2_become_26 Q p2 r1 (p1 / r1) s1))) (if 0 < p1 then p1 else -p1) p2
set_option maxHeartbeats 4000000 in
set_option maxRecDepth 100000 in
theorem tX2_become_45 {C : ew_C} {X : ew_X} {E : ew_M → ew_S} (hE1 : ew_GE X 45 (ew_GR X.2.1) E) (Z : ew_Z C X cX2_become 7 RX2 wsX2_become ({ frames := 1, cells := 0, slots := 0, locals := 30 } : Room) none) {Q : ew_M → Prop}  {t0 : Int64} {s1 : ew_M} (hR : C.2.2.2.2.2.2.2.2.2.2 = MQ C.2.2.2.2.2.2.2.1 (va_Qv (fun (u : ew_M) => Q u) (fun (u : ew_M) => ew_wd X ((fun (u : ew_M) => E u) u)) X.2.2.1) C.2.2.2.2.2.2.1 C.2.2.2.2.1 0 0 X.2.2.1) (h : wX2_become_45 Q t0 s1) : ew_W C X 7 (E s1) 45 [] [.long t0, .ref (X.2.1 45)] := by
  refine pX2_below (pc := 45) (M := s1) (M' := ew_sW s1 0 1 t0) Z hE1 rfl inX2_become (List.mem_of_getElem? (i := 6) rfl) dX2_become_45 ?_
  exact ez_vret (pc := 48) Z hR (ew_sW s1 0 1 t0) h rfl dX2_become_48
set_option maxHeartbeats 4000000 in
set_option maxRecDepth 100000 in
theorem tX2_become_26 {C : ew_C} {X : ew_X} {E : ew_M → ew_S} (hE1 : ew_GE X 45 (ew_GR X.2.1) E) (Z : ew_Z C X cX2_become 7 RX2 wsX2_become ({ frames := 1, cells := 0, slots := 0, locals := 30 } : Room) none) {Q : ew_M → Prop}  {v3 : Int64} {v5 : Int64} {t0 : Int64} {s1 : ew_M} (hR : C.2.2.2.2.2.2.2.2.2.2 = MQ C.2.2.2.2.2.2.2.1 (va_Qv (fun (u : ew_M) => Q u) (fun (u : ew_M) => ew_wd X ((fun (u : ew_M) => E u) u)) X.2.2.1) C.2.2.2.2.2.2.1 C.2.2.2.2.1 0 0 X.2.2.1) (h : wX2_become_26 Q v3 v5 t0 s1) : ew_W C X 7 (E s1) 26 [(0, .ref (X.2.1 45)), (3, .long v3), (5, .long v5)] [.long t0, .ref (X.2.1 45)] := by
  refine pX2_above (pc := 26) (M := s1) (M' := ew_sW s1 0 0 t0) Z hE1 rfl inX2_become (List.mem_of_getElem? (i := 5) rfl) dX2_become_26 ?_
  refine ez_aload_n (pc := 29) Z dX2_become_29 0 rfl rfl ?_
  refine ez_lload (pc := 30) Z dX2_become_30 2 rfl ?_
  refine ez_lconst (pc := 32) Z dX2_become_32 el_1 ?_
  refine ez_lcmp (pc := 33) Z dX2_become_33 ?_
  refine ez_if_le (pc := 34) (tgt := 44) Z dX2_become_34 rfl (fun c1 => ?_) (fun c1 => ?_)
  · replace h := h.1 c1
    refine ez_lload_n (pc := 44) Z dX2_become_44 1 rfl rfl ?_
    refine ez_sub [] [] rfl ?_
    exact tX2_become_45 hE1 Z hR  h
  · replace h := h.2 c1
    refine ez_lload_n (pc := 37) Z dX2_become_37 1 rfl rfl ?_
    refine ez_lload (pc := 38) Z dX2_become_38 2 rfl ?_
    refine ez_ldiv (pc := 40) Z dX2_become_40 h.1 ?_
    replace h := h.2
    refine ez_goto (pc := 41) (tgt := 45) Z dX2_become_41 rfl ?_
    refine ez_sub [] [] rfl ?_
    exact tX2_become_45 hE1 Z hR  h
set_option maxHeartbeats 4000000 in
set_option maxRecDepth 100000 in
theorem kX2_become {X : ew_X} {l : Launch} (hX : ew_Ap X) {E : ew_M → ew_S} (hE1 : ew_GE X 45 (ew_GR X.2.1) E) {Q : ew_M → Prop} {p1 : Int64} {p2 : Int64} {s1 : ew_M} (h : wX2_become Q p1 p2 s1) : Met l yX2_become wsX2_become ({ frames := 1, cells := 0, slots := 0, locals := 30 } : Room) (va_Pc [.ref (X.2.1 45), .long p1, .long p2] (ew_wd X (E s1))) (va_Qv (fun (u : ew_M) => Q u) (fun (u : ew_M) => ew_wd X ((fun (u : ew_M) => E u) u)) X.2.2.1) 0 0 X.2.2.1 := by
  refine ew_met (As := [.ref (X.2.1 45), .long p1, .long p2]) (L0 := [(0, .ref (X.2.1 45)), (1, .long p1), (3, .long p2)]) X l hX (by decide) rfl rfl rfl rfl (fun C hl Z hR => ?_)
  subst hl
  refine ez_lload_n (pc := 0) Z dX2_become_0 1 rfl rfl ?_
  refine ez_labs (pc := 1) Z (List.mem_of_getElem? (i := 1) rfl) (List.mem_of_getElem? (i := 2) rfl) (List.mem_of_getElem? (i := 3) rfl) (List.mem_of_getElem? (i := 4) rfl) rfl rfl dX2_become_1 ?_
  refine ez_lload_n (pc := 4) Z dX2_become_4 2 rfl rfl ?_
  refine ez_callSl (pc := 5) (As := [.long (if 0 < p1 then p1 else -p1), .long p2]) (st := []) Z (kX2_commonOf Z.2.2.2.2.2.2.2.2.2.1 (S := E s1) h) gX2_become_X2_commonOf rfl rfl rfl hdX2_commonOf rfl rfl rfl rfl rfl dX2_become_5 (fun r1 u2 h => ?_)
  refine ez_lstore (pc := 8) (L' := [(5, .long r1), (0, .ref (X.2.1 45)), (1, .long p1), (3, .long p2)]) Z dX2_become_8 (by decide) rfl ?_
  refine ez_aload_n (pc := 10) Z dX2_become_10 1 rfl rfl ?_
  refine ez_lload (pc := 11) Z dX2_become_11 0 rfl ?_
  refine ez_lconst (pc := 13) Z dX2_become_13 el_1 ?_
  refine ez_lcmp (pc := 14) Z dX2_become_14 ?_
  refine ez_if_le (pc := 15) (tgt := 25) Z dX2_become_15 rfl (fun c3 => ?_) (fun c3 => ?_)
  · replace h := h.1 c3
    refine ez_lload_n (pc := 25) Z dX2_become_25 2 rfl rfl ?_
    refine ez_sub [(0, .ref (X.2.1 45)), (3, .long p2), (5, .long r1)] [1, 3, 0] rfl ?_
    exact tX2_become_26 hE1 Z hR  h
  · replace h := h.2 c3
    refine ez_lload_n (pc := 18) Z dX2_become_18 2 rfl rfl ?_
    refine ez_lload (pc := 19) Z dX2_become_19 0 rfl ?_
    refine ez_ldiv (pc := 21) Z dX2_become_21 h.1 ?_
    replace h := h.2
    refine ez_goto (pc := 22) (tgt := 26) Z dX2_become_22 rfl ?_
    refine ez_sub [(0, .ref (X.2.1 45)), (3, .long p2), (5, .long r1)] [1, 3, 0] rfl ?_
    exact tX2_become_26 hE1 Z hR  h
theorem inX2_partOf : ∀ w ∈ wsX20, w ∈ wsX2_partOf := fun _ h => List.mem_cons_of_mem _ (List.mem_append_right _ (h))
theorem hdX2_partOf : yX2_partOf.cls = RX2 ∧ yX2_partOf.cls ≠ "java/lang/invoke/MethodHandle" ∧ yX2_partOf.cls ≠ "java/lang/invoke/VarHandle" ∧ (parseMethodDescriptor yX2_partOf.desc).map (fun d => d.parameters.length) = some 1 := by decide +kernel
def wX2_partOf (Q : Int64 → Prop) (p1 : Int32) (s1 : ew_M) : Prop := (¬ p1 = 0 → Q (s1.2.2 0 1) ) ∧ (p1 = 0 → Q (s1.2.2 0 0) )
set_option maxHeartbeats 4000000 in
set_option maxRecDepth 100000 in
theorem kX2_partOf {X : ew_X} {l : Launch} (hX : ew_Ap X) {E : ew_M → ew_S} (hE1 : ew_GE X 45 (ew_GR X.2.1) E) {Q : Int64 → Prop} {p1 : Int32} {s1 : ew_M} (h : wX2_partOf Q p1 s1) : Met l yX2_partOf wsX2_partOf ({ frames := 0, cells := 0, slots := 0, locals := 0 } : Room) (va_Pc [.ref (X.2.1 45), .int p1] (ew_wd X (E s1))) (va_Ql (fun (r : Int64) (_ : Unit) => Q r) (fun (u : Unit) => ew_wd X ((fun (_ : Unit) => E s1) u)) X.2.2.1) 0 0 X.2.2.1 := by
  refine ew_met (As := [.ref (X.2.1 45), .int p1]) (L0 := [(0, .ref (X.2.1 45)), (1, .int p1)]) X l hX (by decide) rfl rfl rfl rfl (fun C hl Z hR => ?_)
  subst hl
  refine ez_iload_n (pc := 0) Z dX2_partOf_0 1 rfl rfl ?_
  refine ez_if_ne (pc := 1) (tgt := 11) Z dX2_partOf_1 rfl (fun c1 => ?_) (fun c1 => ?_)
  · replace h := h.1 c1
    refine ez_aload_n (pc := 11) Z dX2_partOf_11 0 rfl rfl ?_
    refine fX2_below (pc := 12) (v := s1.2.2 0 1) Z hE1 rfl inX2_partOf (List.mem_of_getElem? (i := 2) rfl) dX2_partOf_12 ?_
    exact ez_lret (pc := 15) Z hR () h rfl dX2_partOf_15
  · replace h := h.2 c1
    refine ez_aload_n (pc := 4) Z dX2_partOf_4 0 rfl rfl ?_
    refine fX2_above (pc := 5) (v := s1.2.2 0 0) Z hE1 rfl inX2_partOf (List.mem_of_getElem? (i := 1) rfl) dX2_partOf_5 ?_
    refine ez_goto (pc := 8) (tgt := 15) Z dX2_partOf_8 rfl ?_
    exact ez_lret (pc := 15) Z hR () h rfl dX2_partOf_15
theorem inX0_howMany : ∀ w ∈ wsX00, w ∈ wsX0_howMany := fun _ h => List.mem_cons_of_mem _ (List.mem_append_right _ (h))
theorem hdX0_howMany : yX0_howMany.cls = RX0 ∧ yX0_howMany.cls ≠ "java/lang/invoke/MethodHandle" ∧ yX0_howMany.cls ≠ "java/lang/invoke/VarHandle" ∧ (parseMethodDescriptor yX0_howMany.desc).map (fun d => d.parameters.length) = some 0 := by decide +kernel
def wX0_howMany (Q : Int32 → Prop) (s1 : ew_M) : Prop := Q (s1.1 0) 
set_option maxHeartbeats 4000000 in
set_option maxRecDepth 100000 in
theorem kX0_howMany {X : ew_X} {l : Launch} (hX : ew_Ap X) {E : ew_M → ew_S} (hE1 : ew_GE X 42 (ew_GL X.2.1) E) {Q : Int32 → Prop} {s1 : ew_M} (h : wX0_howMany Q s1) : Met l yX0_howMany wsX0_howMany ({ frames := 0, cells := 0, slots := 0, locals := 0 } : Room) (va_Pc [.ref (X.2.1 42)] (ew_wd X (E s1))) (va_Qi (fun (r : Int32) (_ : Unit) => Q r) (fun (u : Unit) => ew_wd X ((fun (_ : Unit) => E s1) u)) X.2.2.1) 0 0 X.2.2.1 := by
  refine ew_met (As := [.ref (X.2.1 42)]) (L0 := [(0, .ref (X.2.1 42))]) X l hX (by decide) rfl rfl rfl rfl (fun C hl Z hR => ?_)
  subst hl
  refine ez_aload_n (pc := 0) Z dX0_howMany_0 0 rfl rfl ?_
  refine fX0_size (pc := 1) (v := s1.1 0) Z hE1 rfl inX0_howMany (List.mem_of_getElem? (i := 1) rfl) dX0_howMany_1 ?_
  exact ez_iret (pc := 4) Z hR () h rfl dX0_howMany_4
