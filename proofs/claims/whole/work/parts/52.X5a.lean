theorem inX5_refuse : ∀ w ∈ wsX50, w ∈ wsX5_refuse := fun _ h => List.mem_cons_of_mem _ (List.mem_append_right _ (h))
theorem hdX5_refuse : yX5_refuse.cls = RX5 ∧ yX5_refuse.cls ≠ "java/lang/invoke/MethodHandle" ∧ yX5_refuse.cls ≠ "java/lang/invoke/VarHandle" ∧ (parseMethodDescriptor yX5_refuse.desc).map (fun d => d.parameters.length) = some 1 := by decide +kernel
def wX5_refuse (Q : Int32 → ew_M → Prop) (p1 : Int32) (s1 : ew_M) : Prop := vp_in (-p1) 7 ∧ (vp_in (-p1) 7 ∧ (Q p1 (ew_sA s1 14 (-p1).toNatClampNeg ((s1.2.1 14 (-p1).toNatClampNeg) + (1 : Int32)))))
set_option maxHeartbeats 4000000 in
set_option maxRecDepth 100000 in
theorem kX5_refuse {X : ew_X} {l : Launch} (hX : ew_Ap X) {E : ew_M → ew_S} (hE1 : ew_GE X 50 (ew_GM X.2.1) E) {Q : Int32 → ew_M → Prop} {p1 : Int32} {s1 : ew_M} (h : wX5_refuse Q p1 s1) : Met l yX5_refuse wsX5_refuse ({ frames := 0, cells := 0, slots := 0, locals := 0 } : Room) (va_Pc [.ref (X.2.1 50), .int p1] (ew_wd X (E s1))) (va_Qi (fun (r : Int32) (u : ew_M) => Q r u) (fun (u : ew_M) => ew_wd X ((fun (u : ew_M) => E u) u)) X.2.2.1) 0 0 X.2.2.1 := by
  refine ew_met (As := [.ref (X.2.1 50), .int p1]) (L0 := [(0, .ref (X.2.1 50)), (1, .int p1)]) X l hX (by decide) rfl rfl rfl rfl (fun C hl Z hR => ?_)
  subst hl
  refine ez_aload_n (pc := 0) Z dX5_refuse_0 0 rfl rfl ?_
  refine fX5_refused (pc := 1) (M := s1) Z hE1 inX5_refuse (List.mem_of_getElem? (i := 1) rfl) dX5_refuse_1 ?_
  refine ez_iload_n (pc := 4) Z dX5_refuse_4 1 rfl rfl ?_
  refine ez_ineg (pc := 5) Z dX5_refuse_5 ?_
  refine ez_dup2_11 (pc := 6) Z dX5_refuse_6 rfl rfl ?_
  refine ez_iald (pc := 7) (n := 7) (a := 14) (v := s1.2.1 14 (-p1).toNatClampNeg) (M := s1) Z hE1 15 rfl (by decide : 14 < 36) rfl rfl h.1 dX5_refuse_7 ?_
  replace h := h.2
  refine ez_iconst (pc := 8) Z dX5_refuse_8 ec_1 ?_
  refine ez_iadd (pc := 9) Z dX5_refuse_9 ?_
  refine ez_iast (pc := 10) (n := 7) (a := 14) (M := s1) (M' := ew_sA s1 14 (-p1).toNatClampNeg ((s1.2.1 14 (-p1).toNatClampNeg) + (1 : Int32))) Z hE1 15 rfl (by decide : 14 < 36) rfl rfl h.1 dX5_refuse_10 ?_
  replace h := h.2
  refine ez_iload_n (pc := 11) Z dX5_refuse_11 1 rfl rfl ?_
  exact ez_iret (pc := 12) Z hR (ew_sA s1 14 (-p1).toNatClampNeg ((s1.2.1 14 (-p1).toNatClampNeg) + (1 : Int32))) h rfl dX5_refuse_12
theorem inX5_refuseLong : ∀ w ∈ wsX50, w ∈ wsX5_refuseLong := fun _ h => List.mem_cons_of_mem _ (List.mem_append_right _ (h))
theorem hdX5_refuseLong : yX5_refuseLong.cls = RX5 ∧ yX5_refuseLong.cls ≠ "java/lang/invoke/MethodHandle" ∧ yX5_refuseLong.cls ≠ "java/lang/invoke/VarHandle" ∧ (parseMethodDescriptor yX5_refuseLong.desc).map (fun d => d.parameters.length) = some 1 := by decide +kernel
def wX5_refuseLong (Q : Int64 → ew_M → Prop) (p1 : Int32) (s1 : ew_M) : Prop := wX5_refuse (fun (r1 : Int32) (m2 : ew_M) => Q ((4000000000000000000 : Int64) - r1.toInt64) m2) p1 s1
set_option maxHeartbeats 4000000 in
set_option maxRecDepth 100000 in
theorem kX5_refuseLong {X : ew_X} {l : Launch} (hX : ew_Ap X) {E : ew_M → ew_S} (hE1 : ew_GE X 50 (ew_GM X.2.1) E) {Q : Int64 → ew_M → Prop} {p1 : Int32} {s1 : ew_M} (h : wX5_refuseLong Q p1 s1) : Met l yX5_refuseLong wsX5_refuseLong ({ frames := 1, cells := 0, slots := 0, locals := 21 } : Room) (va_Pc [.ref (X.2.1 50), .int p1] (ew_wd X (E s1))) (va_Ql (fun (r : Int64) (u : ew_M) => Q r u) (fun (u : ew_M) => ew_wd X ((fun (u : ew_M) => E u) u)) X.2.2.1) 0 0 X.2.2.1 := by
  refine ew_met (As := [.ref (X.2.1 50), .int p1]) (L0 := [(0, .ref (X.2.1 50)), (1, .int p1)]) X l hX (by decide) rfl rfl rfl rfl (fun C hl Z hR => ?_)
  subst hl
  refine ez_ldc2 (pc := 0) Z (List.mem_of_getElem? (i := 1) rfl) dX5_refuseLong_0 ?_
  refine ez_aload_n (pc := 3) Z dX5_refuseLong_3 0 rfl rfl ?_
  refine ez_iload_n (pc := 4) Z dX5_refuseLong_4 1 rfl rfl ?_
  refine ez_callVi (pc := 5) (r := 50) (As := [.int p1]) (st := [.long (4000000000000000000 : Int64)]) Z (kX5_refuse Z.2.2.2.2.2.2.2.2.2.1 (E := E) hE1 h) gX5_refuseLong_X5_refuse rfl rfl rfl hdX5_refuse rfl rfl (by decide) (ew_oM hE1 _) rfl rfl rfl rfl dX5_refuseLong_5 (fun r1 m2 h => ?_)
  refine ez_i2l (pc := 8) Z dX5_refuseLong_8 ?_
  refine ez_lsub (pc := 9) Z dX5_refuseLong_9 ?_
  exact ez_lret (pc := 10) Z hR m2 h rfl dX5_refuseLong_10
theorem inX5_refuseFar : ∀ w ∈ wsX50, w ∈ wsX5_refuseFar := fun _ h => List.mem_cons_of_mem _ (List.mem_append_right _ (h))
theorem hdX5_refuseFar : yX5_refuseFar.cls = RX5 ∧ yX5_refuseFar.cls ≠ "java/lang/invoke/MethodHandle" ∧ yX5_refuseFar.cls ≠ "java/lang/invoke/VarHandle" ∧ (parseMethodDescriptor yX5_refuseFar.desc).map (fun d => d.parameters.length) = some 1 := by decide +kernel
def wX5_refuseFar (Q : Int32 → ew_M → Prop) (p1 : Int32) (s1 : ew_M) : Prop := wX5_refuse (fun (r1 : Int32) (m2 : ew_M) => Q ((1000000000 : Int32) - r1) m2) p1 s1
set_option maxHeartbeats 4000000 in
set_option maxRecDepth 100000 in
theorem kX5_refuseFar {X : ew_X} {l : Launch} (hX : ew_Ap X) {E : ew_M → ew_S} (hE1 : ew_GE X 50 (ew_GM X.2.1) E) {Q : Int32 → ew_M → Prop} {p1 : Int32} {s1 : ew_M} (h : wX5_refuseFar Q p1 s1) : Met l yX5_refuseFar wsX5_refuseFar ({ frames := 1, cells := 0, slots := 0, locals := 21 } : Room) (va_Pc [.ref (X.2.1 50), .int p1] (ew_wd X (E s1))) (va_Qi (fun (r : Int32) (u : ew_M) => Q r u) (fun (u : ew_M) => ew_wd X ((fun (u : ew_M) => E u) u)) X.2.2.1) 0 0 X.2.2.1 := by
  refine ew_met (As := [.ref (X.2.1 50), .int p1]) (L0 := [(0, .ref (X.2.1 50)), (1, .int p1)]) X l hX (by decide) rfl rfl rfl rfl (fun C hl Z hR => ?_)
  subst hl
  refine ez_ldc (pc := 0) Z (List.mem_of_getElem? (i := 1) rfl) dX5_refuseFar_0 ?_
  refine ez_aload_n (pc := 2) Z dX5_refuseFar_2 0 rfl rfl ?_
  refine ez_iload_n (pc := 3) Z dX5_refuseFar_3 1 rfl rfl ?_
  refine ez_callVi (pc := 4) (r := 50) (As := [.int p1]) (st := [.int (1000000000 : Int32)]) Z (kX5_refuse Z.2.2.2.2.2.2.2.2.2.1 (E := E) hE1 h) gX5_refuseFar_X5_refuse rfl rfl rfl hdX5_refuse rfl rfl (by decide) (ew_oM hE1 _) rfl rfl rfl rfl dX5_refuseFar_4 (fun r1 m2 h => ?_)
  refine ez_isub (pc := 7) Z dX5_refuseFar_7 ?_
  exact ez_iret (pc := 8) Z hR m2 h rfl dX5_refuseFar_8
theorem hdX5_in : yX5_in.cls ≠ "java/lang/invoke/MethodHandle" ∧ yX5_in.cls ≠ "java/lang/invoke/VarHandle" ∧ (parseMethodDescriptor yX5_in.desc).map (fun d => d.parameters.length) = some 3 := by decide +kernel
def wX5_in (Q : Int32 → Prop) (p1 : Int32) (p2 : Int32) (p3 : Int32) : Prop := (p1 < p2 → Q (0 : Int32) ) ∧ (¬ p1 < p2 → (p3 < p1 → Q (0 : Int32) ) ∧ (¬ p3 < p1 → Q (1 : Int32) ))
set_option maxHeartbeats 4000000 in
set_option maxRecDepth 100000 in
theorem kX5_in {X : ew_X} {l : Launch} (hX : ew_Ap X) {S : ew_S} {Q : Int32 → Prop} {p1 : Int32} {p2 : Int32} {p3 : Int32} (h : wX5_in Q p1 p2 p3) : Met l yX5_in wsX5_in ({ frames := 0, cells := 0, slots := 0, locals := 0 } : Room) (va_Pc [.int p1, .int p2, .int p3] (ew_wd X (S))) (va_Qi (fun (r : Int32) (_ : Unit) => Q r) (fun (u : Unit) => ew_wd X ((fun (_ : Unit) => S) u)) X.2.2.1) 0 0 X.2.2.1 := by
  refine ew_met (As := [.int p1, .int p2, .int p3]) (L0 := [(0, .int p1), (1, .int p2), (2, .int p3)]) X l hX (by decide) rfl rfl rfl rfl (fun C hl Z hR => ?_)
  subst hl
  refine ez_iload_n (pc := 0) Z dX5_in_0 0 rfl rfl ?_
  refine ez_iload_n (pc := 1) Z dX5_in_1 1 rfl rfl ?_
  refine ez_icmp_lt (pc := 2) (tgt := 14) Z dX5_in_2 rfl (fun c1 => ?_) (fun c1 => ?_)
  · replace h := h.1 c1
    refine ez_iconst (pc := 14) Z dX5_in_14 ec_0 ?_
    exact ez_zret (pc := 15) Z hR () rfl h rfl dX5_in_15
  · replace h := h.2 c1
    refine ez_iload_n (pc := 5) Z dX5_in_5 0 rfl rfl ?_
    refine ez_iload_n (pc := 6) Z dX5_in_6 2 rfl rfl ?_
    refine ez_icmp_gt (pc := 7) (tgt := 14) Z dX5_in_7 rfl (fun c2 => ?_) (fun c2 => ?_)
    · replace h := h.1 c2
      refine ez_iconst (pc := 14) Z dX5_in_14 ec_0 ?_
      exact ez_zret (pc := 15) Z hR () rfl h rfl dX5_in_15
    · replace h := h.2 c2
      refine ez_iconst (pc := 10) Z dX5_in_10 ec_1 ?_
      refine ez_goto (pc := 11) (tgt := 15) Z dX5_in_11 rfl ?_
      exact ez_zret (pc := 15) Z hR () rfl h rfl dX5_in_15
theorem inX5_isPerson : ∀ w ∈ wsX50, w ∈ wsX5_isPerson := fun _ h => List.mem_cons_of_mem _ (List.mem_append_right _ (h))
theorem hdX5_isPerson : yX5_isPerson.cls = RX5 ∧ yX5_isPerson.cls ≠ "java/lang/invoke/MethodHandle" ∧ yX5_isPerson.cls ≠ "java/lang/invoke/VarHandle" ∧ (parseMethodDescriptor yX5_isPerson.desc).map (fun d => d.parameters.length) = some 1 := by decide +kernel
def wX5_isPerson (Q : Int32 → Prop) (p1 : Int32) (s1 : ew_M) : Prop := wX5_in (fun (r1 : Int32) => narrow .boolean (.int r1) = .int r1 ∧ Q r1 ) p1 (0 : Int32) ((s1.1 0) - (1 : Int32))
set_option maxHeartbeats 4000000 in
set_option maxRecDepth 100000 in
theorem kX5_isPerson {X : ew_X} {l : Launch} (hX : ew_Ap X) {E : ew_M → ew_S} (hE1 : ew_GE X 50 (ew_GM X.2.1) E) {Q : Int32 → Prop} {p1 : Int32} {s1 : ew_M} (h : wX5_isPerson Q p1 s1) : Met l yX5_isPerson wsX5_isPerson ({ frames := 1, cells := 0, slots := 0, locals := 22 } : Room) (va_Pc [.ref (X.2.1 50), .int p1] (ew_wd X (E s1))) (va_Qi (fun (r : Int32) (_ : Unit) => Q r) (fun (u : Unit) => ew_wd X ((fun (_ : Unit) => E s1) u)) X.2.2.1) 0 0 X.2.2.1 := by
  refine ew_met (As := [.ref (X.2.1 50), .int p1]) (L0 := [(0, .ref (X.2.1 50)), (1, .int p1)]) X l hX (by decide) rfl rfl rfl rfl (fun C hl Z hR => ?_)
  subst hl
  refine ez_iload_n (pc := 0) Z dX5_isPerson_0 1 rfl rfl ?_
  refine ez_iconst (pc := 1) Z dX5_isPerson_1 ec_0 ?_
  refine ez_aload_n (pc := 2) Z dX5_isPerson_2 0 rfl rfl ?_
  refine fX5_persons (pc := 3) (v := s1.1 0) Z hE1 rfl inX5_isPerson (List.mem_of_getElem? (i := 1) rfl) dX5_isPerson_3 ?_
  refine ez_iconst (pc := 6) Z dX5_isPerson_6 ec_1 ?_
  refine ez_isub (pc := 7) Z dX5_isPerson_7 ?_
  refine ez_callSi (pc := 8) (As := [.int p1, .int (0 : Int32), .int ((s1.1 0) - (1 : Int32))]) (st := []) Z (kX5_in Z.2.2.2.2.2.2.2.2.2.1 (S := E s1) h) gX5_isPerson_X5_in rfl rfl rfl hdX5_in rfl rfl rfl rfl rfl dX5_isPerson_8 (fun r1 u2 h => ?_)
  exact ez_zret (pc := 11) Z hR () h.1 h.2 rfl dX5_isPerson_11
theorem inX5_isPaper : ∀ w ∈ wsX50, w ∈ wsX5_isPaper := fun _ h => List.mem_cons_of_mem _ (List.mem_append_right _ (h))
theorem hdX5_isPaper : yX5_isPaper.cls = RX5 ∧ yX5_isPaper.cls ≠ "java/lang/invoke/MethodHandle" ∧ yX5_isPaper.cls ≠ "java/lang/invoke/VarHandle" ∧ (parseMethodDescriptor yX5_isPaper.desc).map (fun d => d.parameters.length) = some 1 := by decide +kernel
def wX5_isPaper (Q : Int32 → Prop) (p1 : Int32) (s1 : ew_M) : Prop := wX5_in (fun (r1 : Int32) => narrow .boolean (.int r1) = .int r1 ∧ Q r1 ) p1 (0 : Int32) ((s1.1 5) - (1 : Int32))
set_option maxHeartbeats 4000000 in
set_option maxRecDepth 100000 in
theorem kX5_isPaper {X : ew_X} {l : Launch} (hX : ew_Ap X) {E : ew_M → ew_S} (hE1 : ew_GE X 50 (ew_GM X.2.1) E) {Q : Int32 → Prop} {p1 : Int32} {s1 : ew_M} (h : wX5_isPaper Q p1 s1) : Met l yX5_isPaper wsX5_isPaper ({ frames := 1, cells := 0, slots := 0, locals := 22 } : Room) (va_Pc [.ref (X.2.1 50), .int p1] (ew_wd X (E s1))) (va_Qi (fun (r : Int32) (_ : Unit) => Q r) (fun (u : Unit) => ew_wd X ((fun (_ : Unit) => E s1) u)) X.2.2.1) 0 0 X.2.2.1 := by
  refine ew_met (As := [.ref (X.2.1 50), .int p1]) (L0 := [(0, .ref (X.2.1 50)), (1, .int p1)]) X l hX (by decide) rfl rfl rfl rfl (fun C hl Z hR => ?_)
  subst hl
  refine ez_iload_n (pc := 0) Z dX5_isPaper_0 1 rfl rfl ?_
  refine ez_iconst (pc := 1) Z dX5_isPaper_1 ec_0 ?_
  refine ez_aload_n (pc := 2) Z dX5_isPaper_2 0 rfl rfl ?_
  refine fX5_papers (pc := 3) (v := s1.1 5) Z hE1 rfl inX5_isPaper (List.mem_of_getElem? (i := 1) rfl) dX5_isPaper_3 ?_
  refine ez_iconst (pc := 6) Z dX5_isPaper_6 ec_1 ?_
  refine ez_isub (pc := 7) Z dX5_isPaper_7 ?_
  refine ez_callSi (pc := 8) (As := [.int p1, .int (0 : Int32), .int ((s1.1 5) - (1 : Int32))]) (st := []) Z (kX5_in Z.2.2.2.2.2.2.2.2.2.1 (S := E s1) h) gX5_isPaper_X5_in rfl rfl rfl hdX5_in rfl rfl rfl rfl rfl dX5_isPaper_8 (fun r1 u2 h => ?_)
  exact ez_zret (pc := 11) Z hR () h.1 h.2 rfl dX5_isPaper_11
theorem inX5_isBound : ∀ w ∈ wsX50, w ∈ wsX5_isBound := fun _ h => List.mem_cons_of_mem _ (List.mem_append_right _ (h))
theorem hdX5_isBound : yX5_isBound.cls = RX5 ∧ yX5_isBound.cls ≠ "java/lang/invoke/MethodHandle" ∧ yX5_isBound.cls ≠ "java/lang/invoke/VarHandle" ∧ (parseMethodDescriptor yX5_isBound.desc).map (fun d => d.parameters.length) = some 2 := by decide +kernel
def wX5_isBound (Q : Int32 → Prop) (p1 : Int32) (p2 : Int32) (s1 : ew_M) : Prop := vp_in p2 5 ∧ ((¬ (((s1.2.1 4 p2.toNatClampNeg) >>> (p1 &&& 31)) &&& (1 : Int32)) = (1 : Int32) → Q (0 : Int32) ) ∧ ((((s1.2.1 4 p2.toNatClampNeg) >>> (p1 &&& 31)) &&& (1 : Int32)) = (1 : Int32) → Q (1 : Int32) ))
set_option maxHeartbeats 4000000 in
set_option maxRecDepth 100000 in
theorem kX5_isBound {X : ew_X} {l : Launch} (hX : ew_Ap X) {E : ew_M → ew_S} (hE1 : ew_GE X 50 (ew_GM X.2.1) E) {Q : Int32 → Prop} {p1 : Int32} {p2 : Int32} {s1 : ew_M} (h : wX5_isBound Q p1 p2 s1) : Met l yX5_isBound wsX5_isBound ({ frames := 0, cells := 0, slots := 0, locals := 0 } : Room) (va_Pc [.ref (X.2.1 50), .int p1, .int p2] (ew_wd X (E s1))) (va_Qi (fun (r : Int32) (_ : Unit) => Q r) (fun (u : Unit) => ew_wd X ((fun (_ : Unit) => E s1) u)) X.2.2.1) 0 0 X.2.2.1 := by
  refine ew_met (As := [.ref (X.2.1 50), .int p1, .int p2]) (L0 := [(0, .ref (X.2.1 50)), (1, .int p1), (2, .int p2)]) X l hX (by decide) rfl rfl rfl rfl (fun C hl Z hR => ?_)
  subst hl
  refine ez_aload_n (pc := 0) Z dX5_isBound_0 0 rfl rfl ?_
  refine fX5_bound (pc := 1) (M := s1) Z hE1 inX5_isBound (List.mem_of_getElem? (i := 1) rfl) dX5_isBound_1 ?_
  refine ez_iload_n (pc := 4) Z dX5_isBound_4 2 rfl rfl ?_
  refine ez_iald (pc := 5) (n := 5) (a := 4) (v := s1.2.1 4 p2.toNatClampNeg) (M := s1) Z hE1 5 rfl (by decide : 4 < 36) rfl rfl h.1 dX5_isBound_5 ?_
  replace h := h.2
  refine ez_iload_n (pc := 6) Z dX5_isBound_6 1 rfl rfl ?_
  refine ez_ishr (pc := 7) Z dX5_isBound_7 ?_
  refine ez_iconst (pc := 8) Z dX5_isBound_8 ec_1 ?_
  refine ez_iand (pc := 9) Z dX5_isBound_9 ?_
  refine ez_iconst (pc := 10) Z dX5_isBound_10 ec_1 ?_
  refine ez_icmp_ne (pc := 11) (tgt := 18) Z dX5_isBound_11 rfl (fun c1 => ?_) (fun c1 => ?_)
  · replace h := h.1 c1
    refine ez_iconst (pc := 18) Z dX5_isBound_18 ec_0 ?_
    exact ez_zret (pc := 19) Z hR () rfl h rfl dX5_isBound_19
  · replace h := h.2 c1
    refine ez_iconst (pc := 14) Z dX5_isBound_14 ec_1 ?_
    refine ez_goto (pc := 15) (tgt := 19) Z dX5_isBound_15 rfl ?_
    exact ez_zret (pc := 19) Z hR () rfl h rfl dX5_isBound_19
theorem inX5_hasRead : ∀ w ∈ wsX50, w ∈ wsX5_hasRead := fun _ h => List.mem_cons_of_mem _ (List.mem_append_right _ (h))
theorem hdX5_hasRead : yX5_hasRead.cls = RX5 ∧ yX5_hasRead.cls ≠ "java/lang/invoke/MethodHandle" ∧ yX5_hasRead.cls ≠ "java/lang/invoke/VarHandle" ∧ (parseMethodDescriptor yX5_hasRead.desc).map (fun d => d.parameters.length) = some 2 := by decide +kernel
def wX5_hasRead (Q : Int32 → Prop) (p1 : Int32) (p2 : Int32) (s1 : ew_M) : Prop := vp_in p2 5 ∧ ((¬ (((s1.2.1 8 p2.toNatClampNeg) >>> (p1 &&& 31)) &&& (1 : Int32)) = (1 : Int32) → Q (0 : Int32) ) ∧ ((((s1.2.1 8 p2.toNatClampNeg) >>> (p1 &&& 31)) &&& (1 : Int32)) = (1 : Int32) → Q (1 : Int32) ))
set_option maxHeartbeats 4000000 in
set_option maxRecDepth 100000 in
theorem kX5_hasRead {X : ew_X} {l : Launch} (hX : ew_Ap X) {E : ew_M → ew_S} (hE1 : ew_GE X 50 (ew_GM X.2.1) E) {Q : Int32 → Prop} {p1 : Int32} {p2 : Int32} {s1 : ew_M} (h : wX5_hasRead Q p1 p2 s1) : Met l yX5_hasRead wsX5_hasRead ({ frames := 0, cells := 0, slots := 0, locals := 0 } : Room) (va_Pc [.ref (X.2.1 50), .int p1, .int p2] (ew_wd X (E s1))) (va_Qi (fun (r : Int32) (_ : Unit) => Q r) (fun (u : Unit) => ew_wd X ((fun (_ : Unit) => E s1) u)) X.2.2.1) 0 0 X.2.2.1 := by
  refine ew_met (As := [.ref (X.2.1 50), .int p1, .int p2]) (L0 := [(0, .ref (X.2.1 50)), (1, .int p1), (2, .int p2)]) X l hX (by decide) rfl rfl rfl rfl (fun C hl Z hR => ?_)
  subst hl
  refine ez_aload_n (pc := 0) Z dX5_hasRead_0 0 rfl rfl ?_
  refine fX5_read (pc := 1) (M := s1) Z hE1 inX5_hasRead (List.mem_of_getElem? (i := 1) rfl) dX5_hasRead_1 ?_
  refine ez_iload_n (pc := 4) Z dX5_hasRead_4 2 rfl rfl ?_
  refine ez_iald (pc := 5) (n := 5) (a := 8) (v := s1.2.1 8 p2.toNatClampNeg) (M := s1) Z hE1 9 rfl (by decide : 8 < 36) rfl rfl h.1 dX5_hasRead_5 ?_
  replace h := h.2
  refine ez_iload_n (pc := 6) Z dX5_hasRead_6 1 rfl rfl ?_
  refine ez_ishr (pc := 7) Z dX5_hasRead_7 ?_
  refine ez_iconst (pc := 8) Z dX5_hasRead_8 ec_1 ?_
  refine ez_iand (pc := 9) Z dX5_hasRead_9 ?_
  refine ez_iconst (pc := 10) Z dX5_hasRead_10 ec_1 ?_
  refine ez_icmp_ne (pc := 11) (tgt := 18) Z dX5_hasRead_11 rfl (fun c1 => ?_) (fun c1 => ?_)
  · replace h := h.1 c1
    refine ez_iconst (pc := 18) Z dX5_hasRead_18 ec_0 ?_
    exact ez_zret (pc := 19) Z hR () rfl h rfl dX5_hasRead_19
  · replace h := h.2 c1
    refine ez_iconst (pc := 14) Z dX5_hasRead_14 ec_1 ?_
    refine ez_goto (pc := 15) (tgt := 19) Z dX5_hasRead_15 rfl ?_
    exact ez_zret (pc := 19) Z hR () rfl h rfl dX5_hasRead_19
theorem inX5_letter : ∀ w ∈ wsX50, w ∈ wsX5_letter := fun _ h => List.mem_cons_of_mem _ (List.mem_append_right _ (h))
theorem hdX5_letter : yX5_letter.cls = RX5 ∧ yX5_letter.cls ≠ "java/lang/invoke/MethodHandle" ∧ yX5_letter.cls ≠ "java/lang/invoke/VarHandle" ∧ (parseMethodDescriptor yX5_letter.desc).map (fun d => d.parameters.length) = some 1 := by decide +kernel
def wX5_letter_27  (Q : Int32 → ew_M → Prop) (s1 : ew_M) : Prop := wX5_refuse (fun (r1 : Int32) (m2 : ew_M) => Q r1 m2) (-6 : Int32) s1
def wX5_letter (Q : Int32 → ew_M → Prop) (p1 : Int32) (s1 : ew_M) : Prop := (0 ≤ p1 → ((255 : Int32) < p1 → wX5_letter_27 Q s1) ∧ (¬ (255 : Int32) < p1 → (¬ (s1.1 18) = (64 : Int32) → vp_in (s1.1 18) 64 ∧ (Q ((s1.1 18) + (1 : Int32)) (ew_sI (ew_sA s1 12 (s1.1 18).toNatClampNeg p1) 18 ((s1.1 18) + (1 : Int32))))) ∧ ((s1.1 18) = (64 : Int32) → wX5_letter_27 Q s1))) ∧ (¬ 0 ≤ p1 → wX5_refuse (fun (r4 : Int32) (m5 : ew_M) => Q r4 m5) (-4 : Int32) s1)
set_option maxHeartbeats 4000000 in
set_option maxRecDepth 100000 in
theorem tX5_letter_27 {C : ew_C} {X : ew_X} {E : ew_M → ew_S} (hE1 : ew_GE X 50 (ew_GM X.2.1) E) (Z : ew_Z C X cX5_letter 2 RX5 wsX5_letter ({ frames := 1, cells := 0, slots := 0, locals := 21 } : Room) (some .int)) {Q : Int32 → ew_M → Prop}  {s1 : ew_M} (hR : C.2.2.2.2.2.2.2.2.2.2 = MQ C.2.2.2.2.2.2.2.1 (va_Qi (fun (r : Int32) (u : ew_M) => Q r u) (fun (u : ew_M) => ew_wd X ((fun (u : ew_M) => E u) u)) X.2.2.1) C.2.2.2.2.2.2.1 C.2.2.2.2.1 0 0 X.2.2.1) (h : wX5_letter_27 Q s1) : ew_W C X 2 (E s1) 27 [(0, .ref (X.2.1 50))] [] := by
  refine ez_aload_n (pc := 27) Z dX5_letter_27 0 rfl rfl ?_
  refine ez_bipush (pc := 28) Z dX5_letter_28 eb_m6 ?_
  refine ez_callVi (pc := 30) (r := 50) (As := [.int (-6 : Int32)]) (st := []) Z (kX5_refuse Z.2.2.2.2.2.2.2.2.2.1 (E := E) hE1 h) gX5_letter_X5_refuse rfl rfl rfl hdX5_refuse rfl rfl (by decide) (ew_oM hE1 _) rfl rfl rfl rfl dX5_letter_30 (fun r1 m2 h => ?_)
  exact ez_iret (pc := 33) Z hR m2 h rfl dX5_letter_33
set_option maxHeartbeats 4000000 in
set_option maxRecDepth 100000 in
theorem kX5_letter {X : ew_X} {l : Launch} (hX : ew_Ap X) {E : ew_M → ew_S} (hE1 : ew_GE X 50 (ew_GM X.2.1) E) {Q : Int32 → ew_M → Prop} {p1 : Int32} {s1 : ew_M} (h : wX5_letter Q p1 s1) : Met l yX5_letter wsX5_letter ({ frames := 1, cells := 0, slots := 0, locals := 21 } : Room) (va_Pc [.ref (X.2.1 50), .int p1] (ew_wd X (E s1))) (va_Qi (fun (r : Int32) (u : ew_M) => Q r u) (fun (u : ew_M) => ew_wd X ((fun (u : ew_M) => E u) u)) X.2.2.1) 0 0 X.2.2.1 := by
  refine ew_met (As := [.ref (X.2.1 50), .int p1]) (L0 := [(0, .ref (X.2.1 50)), (1, .int p1)]) X l hX (by decide) rfl rfl rfl rfl (fun C hl Z hR => ?_)
  subst hl
  refine ez_iload_n (pc := 0) Z dX5_letter_0 1 rfl rfl ?_
  refine ez_if_ge (pc := 1) (tgt := 11) Z dX5_letter_1 rfl (fun c1 => ?_) (fun c1 => ?_)
  · replace h := h.1 c1
    refine ez_iload_n (pc := 11) Z dX5_letter_11 1 rfl rfl ?_
    refine ez_sipush (pc := 12) Z dX5_letter_12 es_255 ?_
    refine ez_icmp_gt (pc := 15) (tgt := 27) Z dX5_letter_15 rfl (fun c2 => ?_) (fun c2 => ?_)
    · replace h := h.1 c2
      refine ez_sub [(0, .ref (X.2.1 50))] [0] rfl ?_
      exact tX5_letter_27 hE1 Z hR  h
    · replace h := h.2 c2
      refine ez_aload_n (pc := 18) Z dX5_letter_18 0 rfl rfl ?_
      refine fX5_written (pc := 19) (v := s1.1 18) Z hE1 rfl inX5_letter (List.mem_of_getElem? (i := 1) rfl) dX5_letter_19 ?_
      refine ez_bipush (pc := 22) Z dX5_letter_22 eb_64 ?_
      refine ez_icmp_ne (pc := 24) (tgt := 34) Z dX5_letter_24 rfl (fun c3 => ?_) (fun c3 => ?_)
      · replace h := h.1 c3
        refine ez_aload_n (pc := 34) Z dX5_letter_34 0 rfl rfl ?_
        refine fX5_letters (pc := 35) (M := s1) Z hE1 inX5_letter (List.mem_of_getElem? (i := 2) rfl) dX5_letter_35 ?_
        refine ez_aload_n (pc := 38) Z dX5_letter_38 0 rfl rfl ?_
        refine fX5_written (pc := 39) (v := s1.1 18) Z hE1 rfl inX5_letter (List.mem_of_getElem? (i := 1) rfl) dX5_letter_39 ?_
        refine ez_iload_n (pc := 42) Z dX5_letter_42 1 rfl rfl ?_
        refine ez_iast (pc := 43) (n := 64) (a := 12) (M := s1) (M' := ew_sA s1 12 (s1.1 18).toNatClampNeg p1) Z hE1 13 rfl (by decide : 12 < 36) rfl rfl h.1 dX5_letter_43 ?_
        replace h := h.2
        refine ez_aload_n (pc := 44) Z dX5_letter_44 0 rfl rfl ?_
        refine ez_dup (pc := 45) Z dX5_letter_45 rfl ?_
        refine fX5_written (pc := 46) (v := s1.1 18) Z hE1 rfl inX5_letter (List.mem_of_getElem? (i := 1) rfl) dX5_letter_46 ?_
        refine ez_iconst (pc := 49) Z dX5_letter_49 ec_1 ?_
        refine ez_iadd (pc := 50) Z dX5_letter_50 ?_
        refine pX5_written (pc := 51) (M := ew_sA s1 12 (s1.1 18).toNatClampNeg p1) (M' := ew_sI (ew_sA s1 12 (s1.1 18).toNatClampNeg p1) 18 ((s1.1 18) + (1 : Int32))) Z hE1 rfl inX5_letter (List.mem_of_getElem? (i := 1) rfl) dX5_letter_51 ?_
        refine ez_aload_n (pc := 54) Z dX5_letter_54 0 rfl rfl ?_
        refine fX5_written (pc := 55) (v := (s1.1 18) + (1 : Int32)) Z hE1 rfl inX5_letter (List.mem_of_getElem? (i := 1) rfl) dX5_letter_55 ?_
        exact ez_iret (pc := 58) Z hR (ew_sI (ew_sA s1 12 (s1.1 18).toNatClampNeg p1) 18 ((s1.1 18) + (1 : Int32))) h rfl dX5_letter_58
      · replace h := h.2 c3
        refine ez_sub [(0, .ref (X.2.1 50))] [0] rfl ?_
        exact tX5_letter_27 hE1 Z hR  h
  · replace h := h.2 c1
    refine ez_aload_n (pc := 4) Z dX5_letter_4 0 rfl rfl ?_
    refine ez_bipush (pc := 5) Z dX5_letter_5 eb_m4 ?_
    refine ez_callVi (pc := 7) (r := 50) (As := [.int (-4 : Int32)]) (st := []) Z (kX5_refuse Z.2.2.2.2.2.2.2.2.2.1 (E := E) hE1 h) gX5_letter_X5_refuse rfl rfl rfl hdX5_refuse rfl rfl (by decide) (ew_oM hE1 _) rfl rfl rfl rfl dX5_letter_7 (fun r4 m5 h => ?_)
    exact ez_iret (pc := 10) Z hR m5 h rfl dX5_letter_10
theorem inX5_sign : ∀ w ∈ wsX50, w ∈ wsX5_sign := fun _ h => List.mem_cons_of_mem _ (List.mem_append_right _ (h))
theorem hdX5_sign : yX5_sign.cls = RX5 ∧ yX5_sign.cls ≠ "java/lang/invoke/MethodHandle" ∧ yX5_sign.cls ≠ "java/lang/invoke/VarHandle" ∧ (parseMethodDescriptor yX5_sign.desc).map (fun d => d.parameters.length) = some 0 := by decide +kernel
def wX5_sign (Q : Int32 → Prop) (s1 : ew_M) : Prop := ((s1.1 18) ≤ (s1.1 28) → Q (-1 : Int32) ) ∧ (¬ (s1.1 18) ≤ (s1.1 28) → vp_in (s1.1 28) 64 ∧ (Q (s1.2.1 12 (s1.1 28).toNatClampNeg) ))
set_option maxHeartbeats 4000000 in
set_option maxRecDepth 100000 in
theorem kX5_sign {X : ew_X} {l : Launch} (hX : ew_Ap X) {E : ew_M → ew_S} (hE1 : ew_GE X 50 (ew_GM X.2.1) E) {Q : Int32 → Prop} {s1 : ew_M} (h : wX5_sign Q s1) : Met l yX5_sign wsX5_sign ({ frames := 0, cells := 0, slots := 0, locals := 0 } : Room) (va_Pc [.ref (X.2.1 50)] (ew_wd X (E s1))) (va_Qi (fun (r : Int32) (_ : Unit) => Q r) (fun (u : Unit) => ew_wd X ((fun (_ : Unit) => E s1) u)) X.2.2.1) 0 0 X.2.2.1 := by
  refine ew_met (As := [.ref (X.2.1 50)]) (L0 := [(0, .ref (X.2.1 50))]) X l hX (by decide) rfl rfl rfl rfl (fun C hl Z hR => ?_)
  subst hl
  refine ez_aload_n (pc := 0) Z dX5_sign_0 0 rfl rfl ?_
  refine fX5_at0 (pc := 1) (v := s1.1 28) Z hE1 rfl inX5_sign (List.mem_of_getElem? (i := 1) rfl) dX5_sign_1 ?_
  refine ez_aload_n (pc := 4) Z dX5_sign_4 0 rfl rfl ?_
  refine fX5_written (pc := 5) (v := s1.1 18) Z hE1 rfl inX5_sign (List.mem_of_getElem? (i := 2) rfl) dX5_sign_5 ?_
  refine ez_icmp_ge (pc := 8) (tgt := 23) Z dX5_sign_8 rfl (fun c1 => ?_) (fun c1 => ?_)
  · replace h := h.1 c1
    refine ez_iconst (pc := 23) Z dX5_sign_23 ec_m1 ?_
    exact ez_iret (pc := 24) Z hR () h rfl dX5_sign_24
  · replace h := h.2 c1
    refine ez_aload_n (pc := 11) Z dX5_sign_11 0 rfl rfl ?_
    refine fX5_letters (pc := 12) (M := s1) Z hE1 inX5_sign (List.mem_of_getElem? (i := 3) rfl) dX5_sign_12 ?_
    refine ez_aload_n (pc := 15) Z dX5_sign_15 0 rfl rfl ?_
    refine fX5_at0 (pc := 16) (v := s1.1 28) Z hE1 rfl inX5_sign (List.mem_of_getElem? (i := 1) rfl) dX5_sign_16 ?_
    refine ez_iald (pc := 19) (n := 64) (a := 12) (v := s1.2.1 12 (s1.1 28).toNatClampNeg) (M := s1) Z hE1 13 rfl (by decide : 12 < 36) rfl rfl h.1 dX5_sign_19 ?_
    replace h := h.2
    refine ez_goto (pc := 20) (tgt := 24) Z dX5_sign_20 rfl ?_
    exact ez_iret (pc := 24) Z hR () h rfl dX5_sign_24
theorem inX5_goesBy : ∀ w ∈ wsX50, w ∈ wsX5_goesBy := fun _ h => List.mem_cons_of_mem _ (List.mem_append_right _ (h))
theorem hdX5_goesBy : yX5_goesBy.cls = RX5 ∧ yX5_goesBy.cls ≠ "java/lang/invoke/MethodHandle" ∧ yX5_goesBy.cls ≠ "java/lang/invoke/VarHandle" ∧ (parseMethodDescriptor yX5_goesBy.desc).map (fun d => d.parameters.length) = some 1 := by decide +kernel
def wX5_goesBy (Q : Int32 → ew_M → Prop) (p1 : Int32) (s1 : ew_M) : Prop := wX5_sign (fun (r1 : Int32) => (r1 = p1 → Q (1 : Int32) (ew_sI s1 28 ((s1.1 28) + (1 : Int32)))) ∧ (¬ r1 = p1 → Q (0 : Int32) s1)) s1
set_option maxHeartbeats 4000000 in
set_option maxRecDepth 100000 in
theorem kX5_goesBy {X : ew_X} {l : Launch} (hX : ew_Ap X) {E : ew_M → ew_S} (hE1 : ew_GE X 50 (ew_GM X.2.1) E) {Q : Int32 → ew_M → Prop} {p1 : Int32} {s1 : ew_M} (h : wX5_goesBy Q p1 s1) : Met l yX5_goesBy wsX5_goesBy ({ frames := 1, cells := 0, slots := 0, locals := 20 } : Room) (va_Pc [.ref (X.2.1 50), .int p1] (ew_wd X (E s1))) (va_Qi (fun (r : Int32) (u : ew_M) => Q r u) (fun (u : ew_M) => ew_wd X ((fun (u : ew_M) => E u) u)) X.2.2.1) 0 0 X.2.2.1 := by
  refine ew_met (As := [.ref (X.2.1 50), .int p1]) (L0 := [(0, .ref (X.2.1 50)), (1, .int p1)]) X l hX (by decide) rfl rfl rfl rfl (fun C hl Z hR => ?_)
  subst hl
  refine ez_aload_n (pc := 0) Z dX5_goesBy_0 0 rfl rfl ?_
  refine ez_callVi (pc := 1) (r := 50) (As := []) (st := []) Z (kX5_sign Z.2.2.2.2.2.2.2.2.2.1 (E := E) hE1 h) gX5_goesBy_X5_sign rfl rfl rfl hdX5_sign rfl rfl (by decide) (ew_oM hE1 _) rfl rfl rfl rfl dX5_goesBy_1 (fun r1 u2 h => ?_)
  refine ez_iload_n (pc := 4) Z dX5_goesBy_4 1 rfl rfl ?_
  refine ez_icmp_eq (pc := 5) (tgt := 10) Z dX5_goesBy_5 rfl (fun c3 => ?_) (fun c3 => ?_)
  · replace h := h.1 c3
    refine ez_aload_n (pc := 10) Z dX5_goesBy_10 0 rfl rfl ?_
    refine ez_dup (pc := 11) Z dX5_goesBy_11 rfl ?_
    refine fX5_at0 (pc := 12) (v := s1.1 28) Z hE1 rfl inX5_goesBy (List.mem_of_getElem? (i := 1) rfl) dX5_goesBy_12 ?_
    refine ez_iconst (pc := 15) Z dX5_goesBy_15 ec_1 ?_
    refine ez_iadd (pc := 16) Z dX5_goesBy_16 ?_
    refine pX5_at0 (pc := 17) (M := s1) (M' := ew_sI s1 28 ((s1.1 28) + (1 : Int32))) Z hE1 rfl inX5_goesBy (List.mem_of_getElem? (i := 1) rfl) dX5_goesBy_17 ?_
    refine ez_iconst (pc := 20) Z dX5_goesBy_20 ec_1 ?_
    exact ez_zret (pc := 21) Z hR (ew_sI s1 28 ((s1.1 28) + (1 : Int32))) rfl h rfl dX5_goesBy_21
  · replace h := h.2 c3
    refine ez_iconst (pc := 8) Z dX5_goesBy_8 ec_0 ?_
    exact ez_zret (pc := 9) Z hR s1 rfl h rfl dX5_goesBy_9
theorem inX5_numberTo : ∀ w ∈ wsX50, w ∈ wsX5_numberTo := fun _ h => List.mem_cons_of_mem _ (List.mem_append_right _ (h))
theorem hdX5_numberTo : yX5_numberTo.cls = RX5 ∧ yX5_numberTo.cls ≠ "java/lang/invoke/MethodHandle" ∧ yX5_numberTo.cls ≠ "java/lang/invoke/VarHandle" ∧ (parseMethodDescriptor yX5_numberTo.desc).map (fun d => d.parameters.length) = some 2 := by decide +kernel
def wX5_numberTo_54  (Q : Int32 → ew_M → Prop) (v1 : Int32) (v3 : Int32) (v4 : Int32) (s1 : ew_M) : Prop := vp_in v1 288 ∧ ((v4 ≤ 0 → Q (0 : Int32) (ew_sA s1 17 v1.toNatClampNeg v3)) ∧ (¬ v4 ≤ 0 → Q (1 : Int32) (ew_sA s1 17 v1.toNatClampNeg v3)))
def wX5_numberTo_5 (R5 : Int32 × Int32 × ew_M → Prop) (Q : Int32 → ew_M → Prop) (v1 : Int32) (v2 : Int32) (v3 : Int32) (v4 : Int32) (s1 : ew_M) : Prop := (v2 ≤ v4 → wX5_numberTo_54 Q v1 v3 v4 s1) ∧ (¬ v2 ≤ v4 → wX5_sign (fun (r2 : Int32) => wX5_in (fun (r4 : Int32) => (r4 = 0 → wX5_numberTo_54 Q v1 v3 v4 s1) ∧ (¬ r4 = 0 → wX5_sign (fun (r7 : Int32) => R5 ((((10 : Int32) * v3) + r7) - (48 : Int32), v4 + (1 : Int32), ew_sI s1 28 ((s1.1 28) + (1 : Int32)))) s1)) r2 (48 : Int32) (57 : Int32)) s1)
def wX5_numberTo (Q : Int32 → ew_M → Prop) (p1 : Int32) (p2 : Int32) (s1 : ew_M) : Prop := ew_lp (fun (R : Int32 × Int32 × ew_M → Prop) (x : Int32 × Int32 × ew_M) => wX5_numberTo_5 R Q p1 p2 x.1 x.2.1 x.2.2) ((0 : Int32), (0 : Int32), s1)
set_option maxHeartbeats 4000000 in
set_option maxRecDepth 100000 in
theorem tX5_numberTo_54 {C : ew_C} {X : ew_X} {E : ew_M → ew_S} (hE1 : ew_GE X 50 (ew_GM X.2.1) E) (Z : ew_Z C X cX5_numberTo 5 RX5 wsX5_numberTo ({ frames := 1, cells := 0, slots := 0, locals := 22 } : Room) (some .boolean)) {Q : Int32 → ew_M → Prop}  {v1 : Int32} {v3 : Int32} {v4 : Int32} {s1 : ew_M} (hR : C.2.2.2.2.2.2.2.2.2.2 = MQ C.2.2.2.2.2.2.2.1 (va_Qi (fun (r : Int32) (u : ew_M) => Q r u) (fun (u : ew_M) => ew_wd X ((fun (u : ew_M) => E u) u)) X.2.2.1) C.2.2.2.2.2.2.1 C.2.2.2.2.1 0 0 X.2.2.1) (h : wX5_numberTo_54 Q v1 v3 v4 s1) : ew_W C X 5 (E s1) 54 [(0, .ref (X.2.1 50)), (1, .int v1), (3, .int v3), (4, .int v4)] [] := by
  refine ez_aload_n (pc := 54) Z dX5_numberTo_54 0 rfl rfl ?_
  refine fX5_numbers (pc := 55) (M := s1) Z hE1 inX5_numberTo (List.mem_of_getElem? (i := 2) rfl) dX5_numberTo_55 ?_
  refine ez_iload_n (pc := 58) Z dX5_numberTo_58 1 rfl rfl ?_
  refine ez_iload_n (pc := 59) Z dX5_numberTo_59 2 rfl rfl ?_
  refine ez_iast (pc := 60) (n := 288) (a := 17) (M := s1) (M' := ew_sA s1 17 v1.toNatClampNeg v3) Z hE1 18 rfl (by decide : 17 < 36) rfl rfl h.1 dX5_numberTo_60 ?_
  replace h := h.2
  refine ez_iload (pc := 61) Z dX5_numberTo_61 3 rfl ?_
  refine ez_if_le (pc := 63) (tgt := 70) Z dX5_numberTo_63 rfl (fun c1 => ?_) (fun c1 => ?_)
  · replace h := h.1 c1
    refine ez_iconst (pc := 70) Z dX5_numberTo_70 ec_0 ?_
    exact ez_zret (pc := 71) Z hR (ew_sA s1 17 v1.toNatClampNeg v3) rfl h rfl dX5_numberTo_71
  · replace h := h.2 c1
    refine ez_iconst (pc := 66) Z dX5_numberTo_66 ec_1 ?_
    refine ez_goto (pc := 67) (tgt := 71) Z dX5_numberTo_67 rfl ?_
    exact ez_zret (pc := 71) Z hR (ew_sA s1 17 v1.toNatClampNeg v3) rfl h rfl dX5_numberTo_71
set_option maxHeartbeats 4000000 in
set_option maxRecDepth 100000 in
theorem tX5_numberTo_5 {C : ew_C} {X : ew_X} {E : ew_M → ew_S} (hE1 : ew_GE X 50 (ew_GM X.2.1) E) (Z : ew_Z C X cX5_numberTo 5 RX5 wsX5_numberTo ({ frames := 1, cells := 0, slots := 0, locals := 22 } : Room) (some .boolean)) {Q : Int32 → ew_M → Prop} {R5 : Int32 × Int32 × ew_M → Prop} {v1 : Int32} {v2 : Int32} {v3 : Int32} {v4 : Int32} {s1 : ew_M} (hR : C.2.2.2.2.2.2.2.2.2.2 = MQ C.2.2.2.2.2.2.2.1 (va_Qi (fun (r : Int32) (u : ew_M) => Q r u) (fun (u : ew_M) => ew_wd X ((fun (u : ew_M) => E u) u)) X.2.2.1) C.2.2.2.2.2.2.1 C.2.2.2.2.1 0 0 X.2.2.1) (hR5 : ∀ x : Int32 × Int32 × ew_M, R5 x → ew_W C X 5 (E x.2.2) 5 [(0, .ref (X.2.1 50)), (1, .int v1), (2, .int v2), (3, .int x.1), (4, .int x.2.1)] []) (h : wX5_numberTo_5 R5 Q v1 v2 v3 v4 s1) : ew_W C X 5 (E s1) 5 [(0, .ref (X.2.1 50)), (1, .int v1), (2, .int v2), (3, .int v3), (4, .int v4)] [] := by
  refine ez_iload (pc := 5) Z dX5_numberTo_5 4 rfl ?_
  refine ez_iload_n (pc := 7) Z dX5_numberTo_7 2 rfl rfl ?_
  refine ez_icmp_ge (pc := 8) (tgt := 54) Z dX5_numberTo_8 rfl (fun c1 => ?_) (fun c1 => ?_)
  · replace h := h.1 c1
    refine ez_sub [(0, .ref (X.2.1 50)), (1, .int v1), (3, .int v3), (4, .int v4)] [0, 1, 3, 4] rfl ?_
    exact tX5_numberTo_54 hE1 Z hR  h
  · replace h := h.2 c1
    refine ez_aload_n (pc := 11) Z dX5_numberTo_11 0 rfl rfl ?_
    refine ez_callVi (pc := 12) (r := 50) (As := []) (st := []) Z (kX5_sign Z.2.2.2.2.2.2.2.2.2.1 (E := E) hE1 h) gX5_numberTo_X5_sign rfl rfl rfl hdX5_sign rfl rfl (by decide) (ew_oM hE1 _) rfl rfl rfl rfl dX5_numberTo_12 (fun r2 u3 h => ?_)
    refine ez_bipush (pc := 15) Z dX5_numberTo_15 eb_48 ?_
    refine ez_bipush (pc := 17) Z dX5_numberTo_17 eb_57 ?_
    refine ez_callSi (pc := 19) (As := [.int r2, .int (48 : Int32), .int (57 : Int32)]) (st := []) Z (kX5_in Z.2.2.2.2.2.2.2.2.2.1 (S := E s1) h) gX5_numberTo_X5_in rfl rfl rfl hdX5_in rfl rfl rfl rfl rfl dX5_numberTo_19 (fun r4 u5 h => ?_)
    refine ez_if_eq (pc := 22) (tgt := 54) Z dX5_numberTo_22 rfl (fun c6 => ?_) (fun c6 => ?_)
    · replace h := h.1 c6
      refine ez_sub [(0, .ref (X.2.1 50)), (1, .int v1), (3, .int v3), (4, .int v4)] [0, 1, 3, 4] rfl ?_
      exact tX5_numberTo_54 hE1 Z hR  h
    · replace h := h.2 c6
      refine ez_bipush (pc := 25) Z dX5_numberTo_25 eb_10 ?_
      refine ez_iload_n (pc := 27) Z dX5_numberTo_27 3 rfl rfl ?_
      refine ez_imul (pc := 28) Z dX5_numberTo_28 ?_
      refine ez_aload_n (pc := 29) Z dX5_numberTo_29 0 rfl rfl ?_
      refine ez_callVi (pc := 30) (r := 50) (As := []) (st := [.int ((10 : Int32) * v3)]) Z (kX5_sign Z.2.2.2.2.2.2.2.2.2.1 (E := E) hE1 h) gX5_numberTo_X5_sign rfl rfl rfl hdX5_sign rfl rfl (by decide) (ew_oM hE1 _) rfl rfl rfl rfl dX5_numberTo_30 (fun r7 u8 h => ?_)
      refine ez_iadd (pc := 33) Z dX5_numberTo_33 ?_
      refine ez_bipush (pc := 34) Z dX5_numberTo_34 eb_48 ?_
      refine ez_isub (pc := 36) Z dX5_numberTo_36 ?_
      refine ez_istore_n (pc := 37) (L' := [(3, .int ((((10 : Int32) * v3) + r7) - (48 : Int32))), (0, .ref (X.2.1 50)), (1, .int v1), (2, .int v2), (4, .int v4)]) Z dX5_numberTo_37 rfl (by decide) rfl ?_
      refine ez_aload_n (pc := 38) Z dX5_numberTo_38 1 rfl rfl ?_
      refine ez_dup (pc := 39) Z dX5_numberTo_39 rfl ?_
      refine fX5_at0 (pc := 40) (v := s1.1 28) Z hE1 rfl inX5_numberTo (List.mem_of_getElem? (i := 1) rfl) dX5_numberTo_40 ?_
      refine ez_iconst (pc := 43) Z dX5_numberTo_43 ec_1 ?_
      refine ez_iadd (pc := 44) Z dX5_numberTo_44 ?_
      refine pX5_at0 (pc := 45) (M := s1) (M' := ew_sI s1 28 ((s1.1 28) + (1 : Int32))) Z hE1 rfl inX5_numberTo (List.mem_of_getElem? (i := 1) rfl) dX5_numberTo_45 ?_
      refine ez_iinc (pc := 48) (L' := [(4, .int (v4 + (1 : Int32))), (3, .int ((((10 : Int32) * v3) + r7) - (48 : Int32))), (0, .ref (X.2.1 50)), (1, .int v1), (2, .int v2)]) Z dX5_numberTo_48 4 rfl (ei_1 _) (by decide) rfl ?_
      refine ez_goto (pc := 51) (tgt := 5) Z dX5_numberTo_51 rfl ?_
      refine ez_sub [(0, .ref (X.2.1 50)), (1, .int v1), (2, .int v2), (3, .int ((((10 : Int32) * v3) + r7) - (48 : Int32))), (4, .int (v4 + (1 : Int32)))] [2, 3, 4, 1, 0] rfl ?_
      exact hR5 _ h
set_option maxHeartbeats 4000000 in
set_option maxRecDepth 100000 in
theorem kX5_numberTo {X : ew_X} {l : Launch} (hX : ew_Ap X) {E : ew_M → ew_S} (hE1 : ew_GE X 50 (ew_GM X.2.1) E) {Q : Int32 → ew_M → Prop} {p1 : Int32} {p2 : Int32} {s1 : ew_M} (h : wX5_numberTo Q p1 p2 s1) : Met l yX5_numberTo wsX5_numberTo ({ frames := 1, cells := 0, slots := 0, locals := 22 } : Room) (va_Pc [.ref (X.2.1 50), .int p1, .int p2] (ew_wd X (E s1))) (va_Qi (fun (r : Int32) (u : ew_M) => Q r u) (fun (u : ew_M) => ew_wd X ((fun (u : ew_M) => E u) u)) X.2.2.1) 0 0 X.2.2.1 := by
  refine ew_met (As := [.ref (X.2.1 50), .int p1, .int p2]) (L0 := [(0, .ref (X.2.1 50)), (1, .int p1), (2, .int p2)]) X l hX (by decide) rfl rfl rfl rfl (fun C hl Z hR => ?_)
  subst hl
  refine ez_iconst (pc := 0) Z dX5_numberTo_0 ec_0 ?_
  refine ez_istore_n (pc := 1) (L' := [(3, .int (0 : Int32)), (0, .ref (X.2.1 50)), (1, .int p1), (2, .int p2)]) Z dX5_numberTo_1 rfl (by decide) rfl ?_
  refine ez_iconst (pc := 2) Z dX5_numberTo_2 ec_0 ?_
  refine ez_istore (pc := 3) (L' := [(4, .int (0 : Int32)), (3, .int (0 : Int32)), (0, .ref (X.2.1 50)), (1, .int p1), (2, .int p2)]) Z dX5_numberTo_3 (by decide) rfl ?_
  refine ez_sub [(0, .ref (X.2.1 50)), (1, .int p1), (2, .int p2), (3, .int (0 : Int32)), (4, .int (0 : Int32))] [2, 3, 4, 1, 0] rfl ?_
  exact ew_ind (P := fun (x : Int32 × Int32 × ew_M) => ew_W C X 5 (E x.2.2) 5 [(0, .ref (X.2.1 50)), (1, .int p1), (2, .int p2), (3, .int x.1), (4, .int x.2.1)] []) (fun R hR9 x h => tX5_numberTo_5 hE1 Z hR  hR9 h) h
theorem hdX5_kindOf : yX5_kindOf.cls ≠ "java/lang/invoke/MethodHandle" ∧ yX5_kindOf.cls ≠ "java/lang/invoke/VarHandle" ∧ (parseMethodDescriptor yX5_kindOf.desc).map (fun d => d.parameters.length) = some 1 := by decide +kernel
def wX5_kindOf (Q : Int32 → Prop) (p1 : Int32) : Prop := (¬ p1 = (98 : Int32) → (¬ p1 = (108 : Int32) → (¬ p1 = (116 : Int32) → (¬ p1 = (101 : Int32) → (¬ p1 = (119 : Int32) → (¬ p1 = (103 : Int32) → (¬ p1 = (115 : Int32) → Q (-1 : Int32) ) ∧ (p1 = (115 : Int32) → Q (6 : Int32) )) ∧ (p1 = (103 : Int32) → Q (5 : Int32) )) ∧ (p1 = (119 : Int32) → Q (4 : Int32) )) ∧ (p1 = (101 : Int32) → Q (3 : Int32) )) ∧ (p1 = (116 : Int32) → Q (2 : Int32) )) ∧ (p1 = (108 : Int32) → Q (1 : Int32) )) ∧ (p1 = (98 : Int32) → Q (0 : Int32) )
set_option maxHeartbeats 4000000 in
set_option maxRecDepth 100000 in
theorem kX5_kindOf {X : ew_X} {l : Launch} (hX : ew_Ap X) {S : ew_S} {Q : Int32 → Prop} {p1 : Int32} (h : wX5_kindOf Q p1) : Met l yX5_kindOf wsX5_kindOf ({ frames := 0, cells := 0, slots := 0, locals := 0 } : Room) (va_Pc [.int p1] (ew_wd X (S))) (va_Qi (fun (r : Int32) (_ : Unit) => Q r) (fun (u : Unit) => ew_wd X ((fun (_ : Unit) => S) u)) X.2.2.1) 0 0 X.2.2.1 := by
  refine ew_met (As := [.int p1]) (L0 := [(0, .int p1)]) X l hX (by decide) rfl rfl rfl rfl (fun C hl Z hR => ?_)
  subst hl
  refine ez_iload_n (pc := 0) Z dX5_kindOf_0 0 rfl rfl ?_
  refine ez_bipush (pc := 1) Z dX5_kindOf_1 eb_98 ?_
  refine ez_icmp_ne (pc := 3) (tgt := 10) Z dX5_kindOf_3 rfl (fun c1 => ?_) (fun c1 => ?_)
  · replace h := h.1 c1
    refine ez_iload_n (pc := 10) Z dX5_kindOf_10 0 rfl rfl ?_
    refine ez_bipush (pc := 11) Z dX5_kindOf_11 eb_108 ?_
    refine ez_icmp_ne (pc := 13) (tgt := 20) Z dX5_kindOf_13 rfl (fun c2 => ?_) (fun c2 => ?_)
    · replace h := h.1 c2
      refine ez_iload_n (pc := 20) Z dX5_kindOf_20 0 rfl rfl ?_
      refine ez_bipush (pc := 21) Z dX5_kindOf_21 eb_116 ?_
      refine ez_icmp_ne (pc := 23) (tgt := 30) Z dX5_kindOf_23 rfl (fun c3 => ?_) (fun c3 => ?_)
      · replace h := h.1 c3
        refine ez_iload_n (pc := 30) Z dX5_kindOf_30 0 rfl rfl ?_
        refine ez_bipush (pc := 31) Z dX5_kindOf_31 eb_101 ?_
        refine ez_icmp_ne (pc := 33) (tgt := 40) Z dX5_kindOf_33 rfl (fun c4 => ?_) (fun c4 => ?_)
        · replace h := h.1 c4
          refine ez_iload_n (pc := 40) Z dX5_kindOf_40 0 rfl rfl ?_
          refine ez_bipush (pc := 41) Z dX5_kindOf_41 eb_119 ?_
          refine ez_icmp_ne (pc := 43) (tgt := 50) Z dX5_kindOf_43 rfl (fun c5 => ?_) (fun c5 => ?_)
          · replace h := h.1 c5
            refine ez_iload_n (pc := 50) Z dX5_kindOf_50 0 rfl rfl ?_
            refine ez_bipush (pc := 51) Z dX5_kindOf_51 eb_103 ?_
            refine ez_icmp_ne (pc := 53) (tgt := 60) Z dX5_kindOf_53 rfl (fun c6 => ?_) (fun c6 => ?_)
            · replace h := h.1 c6
              refine ez_iload_n (pc := 60) Z dX5_kindOf_60 0 rfl rfl ?_
              refine ez_bipush (pc := 61) Z dX5_kindOf_61 eb_115 ?_
              refine ez_icmp_ne (pc := 63) (tgt := 71) Z dX5_kindOf_63 rfl (fun c7 => ?_) (fun c7 => ?_)
              · replace h := h.1 c7
                refine ez_iconst (pc := 71) Z dX5_kindOf_71 ec_m1 ?_
                exact ez_iret (pc := 72) Z hR () h rfl dX5_kindOf_72
              · replace h := h.2 c7
                refine ez_bipush (pc := 66) Z dX5_kindOf_66 eb_6 ?_
                refine ez_goto (pc := 68) (tgt := 72) Z dX5_kindOf_68 rfl ?_
                exact ez_iret (pc := 72) Z hR () h rfl dX5_kindOf_72
            · replace h := h.2 c6
              refine ez_iconst (pc := 56) Z dX5_kindOf_56 ec_5 ?_
              refine ez_goto (pc := 57) (tgt := 72) Z dX5_kindOf_57 rfl ?_
              exact ez_iret (pc := 72) Z hR () h rfl dX5_kindOf_72
          · replace h := h.2 c5
            refine ez_iconst (pc := 46) Z dX5_kindOf_46 ec_4 ?_
            refine ez_goto (pc := 47) (tgt := 72) Z dX5_kindOf_47 rfl ?_
            exact ez_iret (pc := 72) Z hR () h rfl dX5_kindOf_72
        · replace h := h.2 c4
          refine ez_iconst (pc := 36) Z dX5_kindOf_36 ec_3 ?_
          refine ez_goto (pc := 37) (tgt := 72) Z dX5_kindOf_37 rfl ?_
          exact ez_iret (pc := 72) Z hR () h rfl dX5_kindOf_72
      · replace h := h.2 c3
        refine ez_iconst (pc := 26) Z dX5_kindOf_26 ec_2 ?_
        refine ez_goto (pc := 27) (tgt := 72) Z dX5_kindOf_27 rfl ?_
        exact ez_iret (pc := 72) Z hR () h rfl dX5_kindOf_72
    · replace h := h.2 c2
      refine ez_iconst (pc := 16) Z dX5_kindOf_16 ec_1 ?_
      refine ez_goto (pc := 17) (tgt := 72) Z dX5_kindOf_17 rfl ?_
      exact ez_iret (pc := 72) Z hR () h rfl dX5_kindOf_72
  · replace h := h.2 c1
    refine ez_iconst (pc := 6) Z dX5_kindOf_6 ec_0 ?_
    refine ez_goto (pc := 7) (tgt := 72) Z dX5_kindOf_7 rfl ?_
    exact ez_iret (pc := 72) Z hR () h rfl dX5_kindOf_72
theorem inX5_personTold : ∀ w ∈ wsX50, w ∈ wsX5_personTold := fun _ h => List.mem_cons_of_mem _ (List.mem_append_right _ (h))
theorem hdX5_personTold : yX5_personTold.cls = RX5 ∧ yX5_personTold.cls ≠ "java/lang/invoke/MethodHandle" ∧ yX5_personTold.cls ≠ "java/lang/invoke/VarHandle" ∧ (parseMethodDescriptor yX5_personTold.desc).map (fun d => d.parameters.length) = some 1 := by decide +kernel
def wX5_personTold (Q : Int32 → ew_M → Prop) (p1 : Int32) (s1 : ew_M) : Prop := wX5_sign (fun (r1 : Int32) => wX5_kindOf (fun (r3 : Int32) => (0 ≤ r3 → vp_in p1 288 ∧ (wX5_numberTo (fun (r6 : Int32) (m7 : ew_M) => (r6 = 0 → Q (0 : Int32) m7) ∧ (¬ r6 = 0 → wX5_numberTo (fun (r9 : Int32) (m10 : ew_M) => (r9 = 0 → Q (0 : Int32) m10) ∧ (¬ r9 = 0 → Q (1 : Int32) m10)) (p1 + (2 : Int32)) (2 : Int32) m7)) (p1 + (1 : Int32)) (1 : Int32) (ew_sA (ew_sI s1 28 ((s1.1 28) + (1 : Int32))) 17 p1.toNatClampNeg r3))) ∧ (¬ 0 ≤ r3 → Q (0 : Int32) s1)) r1) s1
set_option maxHeartbeats 4000000 in
set_option maxRecDepth 100000 in
theorem kX5_personTold {X : ew_X} {l : Launch} (hX : ew_Ap X) {E : ew_M → ew_S} (hE1 : ew_GE X 50 (ew_GM X.2.1) E) {Q : Int32 → ew_M → Prop} {p1 : Int32} {s1 : ew_M} (h : wX5_personTold Q p1 s1) : Met l yX5_personTold wsX5_personTold ({ frames := 2, cells := 0, slots := 0, locals := 46 } : Room) (va_Pc [.ref (X.2.1 50), .int p1] (ew_wd X (E s1))) (va_Qi (fun (r : Int32) (u : ew_M) => Q r u) (fun (u : ew_M) => ew_wd X ((fun (u : ew_M) => E u) u)) X.2.2.1) 0 0 X.2.2.1 := by
  refine ew_met (As := [.ref (X.2.1 50), .int p1]) (L0 := [(0, .ref (X.2.1 50)), (1, .int p1)]) X l hX (by decide) rfl rfl rfl rfl (fun C hl Z hR => ?_)
  subst hl
  refine ez_aload_n (pc := 0) Z dX5_personTold_0 0 rfl rfl ?_
  refine ez_callVi (pc := 1) (r := 50) (As := []) (st := []) Z (kX5_sign Z.2.2.2.2.2.2.2.2.2.1 (E := E) hE1 h) gX5_personTold_X5_sign rfl rfl rfl hdX5_sign rfl rfl (by decide) (ew_oM hE1 _) rfl rfl rfl rfl dX5_personTold_1 (fun r1 u2 h => ?_)
  refine ez_callSi (pc := 4) (As := [.int r1]) (st := []) Z (kX5_kindOf Z.2.2.2.2.2.2.2.2.2.1 (S := E s1) h) gX5_personTold_X5_kindOf rfl rfl rfl hdX5_kindOf rfl rfl rfl rfl rfl dX5_personTold_4 (fun r3 u4 h => ?_)
  refine ez_istore_n (pc := 7) (L' := [(2, .int r3), (0, .ref (X.2.1 50)), (1, .int p1)]) Z dX5_personTold_7 rfl (by decide) rfl ?_
  refine ez_iload_n (pc := 8) Z dX5_personTold_8 0 rfl rfl ?_
  refine ez_if_ge (pc := 9) (tgt := 14) Z dX5_personTold_9 rfl (fun c5 => ?_) (fun c5 => ?_)
  · replace h := h.1 c5
    refine ez_aload_n (pc := 14) Z dX5_personTold_14 1 rfl rfl ?_
    refine ez_dup (pc := 15) Z dX5_personTold_15 rfl ?_
    refine fX5_at0 (pc := 16) (v := s1.1 28) Z hE1 rfl inX5_personTold (List.mem_of_getElem? (i := 1) rfl) dX5_personTold_16 ?_
    refine ez_iconst (pc := 19) Z dX5_personTold_19 ec_1 ?_
    refine ez_iadd (pc := 20) Z dX5_personTold_20 ?_
    refine pX5_at0 (pc := 21) (M := s1) (M' := ew_sI s1 28 ((s1.1 28) + (1 : Int32))) Z hE1 rfl inX5_personTold (List.mem_of_getElem? (i := 1) rfl) dX5_personTold_21 ?_
    refine ez_aload_n (pc := 24) Z dX5_personTold_24 1 rfl rfl ?_
    refine fX5_numbers (pc := 25) (M := ew_sI s1 28 ((s1.1 28) + (1 : Int32))) Z hE1 inX5_personTold (List.mem_of_getElem? (i := 2) rfl) dX5_personTold_25 ?_
    refine ez_iload_n (pc := 28) Z dX5_personTold_28 2 rfl rfl ?_
    refine ez_iload_n (pc := 29) Z dX5_personTold_29 0 rfl rfl ?_
    refine ez_iast (pc := 30) (n := 288) (a := 17) (M := ew_sI s1 28 ((s1.1 28) + (1 : Int32))) (M' := ew_sA (ew_sI s1 28 ((s1.1 28) + (1 : Int32))) 17 p1.toNatClampNeg r3) Z hE1 18 rfl (by decide : 17 < 36) rfl rfl h.1 dX5_personTold_30 ?_
    replace h := h.2
    refine ez_aload_n (pc := 31) Z dX5_personTold_31 1 rfl rfl ?_
    refine ez_iload_n (pc := 32) Z dX5_personTold_32 2 rfl rfl ?_
    refine ez_iconst (pc := 33) Z dX5_personTold_33 ec_1 ?_
    refine ez_iadd (pc := 34) Z dX5_personTold_34 ?_
    refine ez_iconst (pc := 35) Z dX5_personTold_35 ec_1 ?_
    refine ez_callVi (pc := 36) (r := 50) (As := [.int (p1 + (1 : Int32)), .int (1 : Int32)]) (st := []) Z (kX5_numberTo Z.2.2.2.2.2.2.2.2.2.1 (E := E) hE1 h) gX5_personTold_X5_numberTo rfl rfl rfl hdX5_numberTo rfl rfl (by decide) (ew_oM hE1 _) rfl rfl rfl rfl dX5_personTold_36 (fun r6 m7 h => ?_)
    refine ez_if_eq (pc := 39) (tgt := 57) Z dX5_personTold_39 rfl (fun c8 => ?_) (fun c8 => ?_)
    · replace h := h.1 c8
      refine ez_iconst (pc := 57) Z dX5_personTold_57 ec_0 ?_
      exact ez_zret (pc := 58) Z hR m7 rfl h rfl dX5_personTold_58
    · replace h := h.2 c8
      refine ez_aload_n (pc := 42) Z dX5_personTold_42 1 rfl rfl ?_
      refine ez_iload_n (pc := 43) Z dX5_personTold_43 2 rfl rfl ?_
      refine ez_iconst (pc := 44) Z dX5_personTold_44 ec_2 ?_
      refine ez_iadd (pc := 45) Z dX5_personTold_45 ?_
      refine ez_iconst (pc := 46) Z dX5_personTold_46 ec_2 ?_
      refine ez_callVi (pc := 47) (r := 50) (As := [.int (p1 + (2 : Int32)), .int (2 : Int32)]) (st := []) Z (kX5_numberTo Z.2.2.2.2.2.2.2.2.2.1 (E := E) hE1 h) gX5_personTold_X5_numberTo rfl rfl rfl hdX5_numberTo rfl rfl (by decide) (ew_oM hE1 _) rfl rfl rfl rfl dX5_personTold_47 (fun r9 m10 h => ?_)
      refine ez_if_eq (pc := 50) (tgt := 57) Z dX5_personTold_50 rfl (fun c11 => ?_) (fun c11 => ?_)
      · replace h := h.1 c11
        refine ez_iconst (pc := 57) Z dX5_personTold_57 ec_0 ?_
        exact ez_zret (pc := 58) Z hR m10 rfl h rfl dX5_personTold_58
      · replace h := h.2 c11
        refine ez_iconst (pc := 53) Z dX5_personTold_53 ec_1 ?_
        refine ez_goto (pc := 54) (tgt := 58) Z dX5_personTold_54 rfl ?_
        exact ez_zret (pc := 58) Z hR m10 rfl h rfl dX5_personTold_58
  · replace h := h.2 c5
    refine ez_iconst (pc := 12) Z dX5_personTold_12 ec_0 ?_
    exact ez_zret (pc := 13) Z hR s1 rfl h rfl dX5_personTold_13
theorem inX5_paperTold : ∀ w ∈ wsX50, w ∈ wsX5_paperTold := fun _ h => List.mem_cons_of_mem _ (List.mem_append_right _ (h))
theorem hdX5_paperTold : yX5_paperTold.cls = RX5 ∧ yX5_paperTold.cls ≠ "java/lang/invoke/MethodHandle" ∧ yX5_paperTold.cls ≠ "java/lang/invoke/VarHandle" ∧ (parseMethodDescriptor yX5_paperTold.desc).map (fun d => d.parameters.length) = some 1 := by decide +kernel
def wX5_paperTold_56 (R10 : Int32 × Int32 × Int32 × Int32 × ew_M → Prop) (Q : Int32 → ew_M → Prop) (v1 : Int32) (v2 : Int32) (v4 : Int32) (v6 : Int32) (t0 : Int32) (s1 : ew_M) : Prop := R10 (v2 ||| ((1 : Int32) <<< (v6 &&& 31)), v6, v4 + (1 : Int32), t0, ew_sI s1 28 ((s1.1 28) + (1 : Int32)))
def wX5_paperTold_55 (R10 : Int32 × Int32 × Int32 × Int32 × ew_M → Prop) (Q : Int32 → ew_M → Prop) (v1 : Int32) (v2 : Int32) (v4 : Int32) (v6 : Int32) (s1 : ew_M) : Prop := wX5_paperTold_56 R10 Q v1 v2 v4 v6 (0 : Int32) s1
def wX5_paperTold_109  (Q : Int32 → ew_M → Prop) (v1 : Int32) (v4 : Int32) (t0 : Int32) (t1 : Int32) (s1 : ew_M) : Prop := vp_in t1 288 ∧ ((v4 ≤ 0 → Q (0 : Int32) (ew_sA s1 17 t1.toNatClampNeg t0)) ∧ (¬ v4 ≤ 0 → wX5_goesBy (fun (r2 : Int32) (m3 : ew_M) => (r2 = 0 → Q (0 : Int32) m3) ∧ (¬ r2 = 0 → wX5_numberTo (fun (r5 : Int32) (m6 : ew_M) => (r5 = 0 → Q (0 : Int32) m6) ∧ (¬ r5 = 0 → wX5_goesBy (fun (r8 : Int32) (m9 : ew_M) => (r8 = 0 → Q (0 : Int32) m9) ∧ (¬ r8 = 0 → wX5_numberTo (fun (r11 : Int32) (m12 : ew_M) => (r11 = 0 → Q (0 : Int32) m12) ∧ (¬ r11 = 0 → wX5_goesBy (fun (r14 : Int32) (m15 : ew_M) => (r14 = 0 → Q (0 : Int32) m15) ∧ (¬ r14 = 0 → wX5_numberTo (fun (r17 : Int32) (m18 : ew_M) => (r17 = 0 → Q (0 : Int32) m18) ∧ (¬ r17 = 0 → wX5_numberTo (fun (r20 : Int32) (m21 : ew_M) => (r20 = 0 → Q (0 : Int32) m21) ∧ (¬ r20 = 0 → wX5_numberTo (fun (r23 : Int32) (m24 : ew_M) => (r23 = 0 → Q (0 : Int32) m24) ∧ (¬ r23 = 0 → Q (1 : Int32) m24)) (v1 + (6 : Int32)) (1 : Int32) m21)) (v1 + (5 : Int32)) (1 : Int32) m18)) (v1 + (4 : Int32)) (1 : Int32) m15)) (58 : Int32) m12)) (v1 + (3 : Int32)) (3 : Int32) m9)) (44 : Int32) m6)) (v1 + (2 : Int32)) (3 : Int32) m3)) (44 : Int32) (ew_sA s1 17 t1.toNatClampNeg t0)))
def wX5_paperTold_84  (Q : Int32 → ew_M → Prop) (v1 : Int32) (v2 : Int32) (v3 : Int32) (v4 : Int32) (v5 : Int32) (s1 : ew_M) : Prop := vp_in v1 288 ∧ ((v5 = 0 → wX5_paperTold_109 Q v1 v4 (99 : Int32) (v1 + (1 : Int32)) (ew_sA s1 17 v1.toNatClampNeg v2)) ∧ (¬ v5 = 0 → wX5_paperTold_109 Q v1 v4 v3 (v1 + (1 : Int32)) (ew_sA s1 17 v1.toNatClampNeg v2)))
def wX5_paperTold_10 (R10 : Int32 × Int32 × Int32 × Int32 × ew_M → Prop) (Q : Int32 → ew_M → Prop) (v1 : Int32) (v2 : Int32) (v3 : Int32) (v4 : Int32) (v5 : Int32) (s1 : ew_M) : Prop := ((6 : Int32) ≤ v4 → wX5_paperTold_84 Q v1 v2 v3 v4 v5 s1) ∧ (¬ (6 : Int32) ≤ v4 → wX5_sign (fun (r2 : Int32) => wX5_in (fun (r4 : Int32) => (r4 = 0 → wX5_paperTold_84 Q v1 v2 v3 v4 v5 s1) ∧ (¬ r4 = 0 → wX5_sign (fun (r7 : Int32) => (v5 = 0 → wX5_paperTold_55 R10 Q v1 v2 v4 (r7 - (48 : Int32)) s1) ∧ (¬ v5 = 0 → ((r7 - (48 : Int32)) ≤ v3 → wX5_paperTold_55 R10 Q v1 v2 v4 (r7 - (48 : Int32)) s1) ∧ (¬ (r7 - (48 : Int32)) ≤ v3 → wX5_paperTold_56 R10 Q v1 v2 v4 (r7 - (48 : Int32)) (1 : Int32) s1))) s1)) r2 (48 : Int32) (57 : Int32)) s1)
def wX5_paperTold (Q : Int32 → ew_M → Prop) (p1 : Int32) (s1 : ew_M) : Prop := ew_lp (fun (R : Int32 × Int32 × Int32 × Int32 × ew_M → Prop) (x : Int32 × Int32 × Int32 × Int32 × ew_M) => wX5_paperTold_10 R Q p1 x.1 x.2.1 x.2.2.1 x.2.2.2.1 x.2.2.2.2) ((0 : Int32), (-1 : Int32), (0 : Int32), (1 : Int32), s1)
set_option maxHeartbeats 4000000 in
set_option maxRecDepth 100000 in
theorem tX5_paperTold_56 {C : ew_C} {X : ew_X} {E : ew_M → ew_S} (hE1 : ew_GE X 50 (ew_GM X.2.1) E) (Z : ew_Z C X cX5_paperTold 7 RX5 wsX5_paperTold ({ frames := 2, cells := 0, slots := 0, locals := 46 } : Room) (some .boolean)) {Q : Int32 → ew_M → Prop} {R10 : Int32 × Int32 × Int32 × Int32 × ew_M → Prop} {v1 : Int32} {v2 : Int32} {v4 : Int32} {v6 : Int32} {t0 : Int32} {s1 : ew_M} (hR : C.2.2.2.2.2.2.2.2.2.2 = MQ C.2.2.2.2.2.2.2.1 (va_Qi (fun (r : Int32) (u : ew_M) => Q r u) (fun (u : ew_M) => ew_wd X ((fun (u : ew_M) => E u) u)) X.2.2.1) C.2.2.2.2.2.2.1 C.2.2.2.2.1 0 0 X.2.2.1) (hR10 : ∀ x : Int32 × Int32 × Int32 × Int32 × ew_M, R10 x → ew_W C X 7 (E x.2.2.2.2) 10 [(0, .ref (X.2.1 50)), (1, .int v1), (2, .int x.1), (3, .int x.2.1), (4, .int x.2.2.1), (5, .int x.2.2.2.1)] []) (h : wX5_paperTold_56 R10 Q v1 v2 v4 v6 t0 s1) : ew_W C X 7 (E s1) 56 [(0, .ref (X.2.1 50)), (1, .int v1), (2, .int v2), (4, .int v4), (6, .int v6)] [.int t0] := by
  refine ez_istore (pc := 56) (L' := [(5, .int t0), (0, .ref (X.2.1 50)), (1, .int v1), (2, .int v2), (4, .int v4), (6, .int v6)]) Z dX5_paperTold_56 (by decide) rfl ?_
  refine ez_iload (pc := 58) Z dX5_paperTold_58 5 rfl ?_
  refine ez_istore_n (pc := 60) (L' := [(3, .int v6), (5, .int t0), (0, .ref (X.2.1 50)), (1, .int v1), (2, .int v2), (4, .int v4), (6, .int v6)]) Z dX5_paperTold_60 rfl (by decide) rfl ?_
  refine ez_iload_n (pc := 61) Z dX5_paperTold_61 4 rfl rfl ?_
  refine ez_iconst (pc := 62) Z dX5_paperTold_62 ec_1 ?_
  refine ez_iload (pc := 63) Z dX5_paperTold_63 6 rfl ?_
  refine ez_ishl (pc := 65) Z dX5_paperTold_65 ?_
  refine ez_ior (pc := 66) Z dX5_paperTold_66 ?_
  refine ez_istore_n (pc := 67) (L' := [(2, .int (v2 ||| ((1 : Int32) <<< (v6 &&& 31)))), (3, .int v6), (5, .int t0), (0, .ref (X.2.1 50)), (1, .int v1), (4, .int v4), (6, .int v6)]) Z dX5_paperTold_67 rfl (by decide) rfl ?_
  refine ez_aload_n (pc := 68) Z dX5_paperTold_68 3 rfl rfl ?_
  refine ez_dup (pc := 69) Z dX5_paperTold_69 rfl ?_
  refine fX5_at0 (pc := 70) (v := s1.1 28) Z hE1 rfl inX5_paperTold (List.mem_of_getElem? (i := 1) rfl) dX5_paperTold_70 ?_
  refine ez_iconst (pc := 73) Z dX5_paperTold_73 ec_1 ?_
  refine ez_iadd (pc := 74) Z dX5_paperTold_74 ?_
  refine pX5_at0 (pc := 75) (M := s1) (M' := ew_sI s1 28 ((s1.1 28) + (1 : Int32))) Z hE1 rfl inX5_paperTold (List.mem_of_getElem? (i := 1) rfl) dX5_paperTold_75 ?_
  refine ez_iinc (pc := 78) (L' := [(4, .int (v4 + (1 : Int32))), (2, .int (v2 ||| ((1 : Int32) <<< (v6 &&& 31)))), (3, .int v6), (5, .int t0), (0, .ref (X.2.1 50)), (1, .int v1), (6, .int v6)]) Z dX5_paperTold_78 5 rfl (ei_1 _) (by decide) rfl ?_
  refine ez_goto (pc := 81) (tgt := 10) Z dX5_paperTold_81 rfl ?_
  refine ez_sub [(0, .ref (X.2.1 50)), (1, .int v1), (2, .int (v2 ||| ((1 : Int32) <<< (v6 &&& 31)))), (3, .int v6), (4, .int (v4 + (1 : Int32))), (5, .int t0)] [4, 5, 1, 2, 0, 3] rfl ?_
  exact hR10 _ h
set_option maxHeartbeats 4000000 in
set_option maxRecDepth 100000 in
theorem tX5_paperTold_55 {C : ew_C} {X : ew_X} {E : ew_M → ew_S} (hE1 : ew_GE X 50 (ew_GM X.2.1) E) (Z : ew_Z C X cX5_paperTold 7 RX5 wsX5_paperTold ({ frames := 2, cells := 0, slots := 0, locals := 46 } : Room) (some .boolean)) {Q : Int32 → ew_M → Prop} {R10 : Int32 × Int32 × Int32 × Int32 × ew_M → Prop} {v1 : Int32} {v2 : Int32} {v4 : Int32} {v6 : Int32} {s1 : ew_M} (hR : C.2.2.2.2.2.2.2.2.2.2 = MQ C.2.2.2.2.2.2.2.1 (va_Qi (fun (r : Int32) (u : ew_M) => Q r u) (fun (u : ew_M) => ew_wd X ((fun (u : ew_M) => E u) u)) X.2.2.1) C.2.2.2.2.2.2.1 C.2.2.2.2.1 0 0 X.2.2.1) (hR10 : ∀ x : Int32 × Int32 × Int32 × Int32 × ew_M, R10 x → ew_W C X 7 (E x.2.2.2.2) 10 [(0, .ref (X.2.1 50)), (1, .int v1), (2, .int x.1), (3, .int x.2.1), (4, .int x.2.2.1), (5, .int x.2.2.2.1)] []) (h : wX5_paperTold_55 R10 Q v1 v2 v4 v6 s1) : ew_W C X 7 (E s1) 55 [(0, .ref (X.2.1 50)), (1, .int v1), (2, .int v2), (4, .int v4), (6, .int v6)] [] := by
  refine ez_iconst (pc := 55) Z dX5_paperTold_55 ec_0 ?_
  exact tX5_paperTold_56 hE1 Z hR hR10 h
set_option maxHeartbeats 4000000 in
set_option maxRecDepth 100000 in
theorem tX5_paperTold_109 {C : ew_C} {X : ew_X} {E : ew_M → ew_S} (hE1 : ew_GE X 50 (ew_GM X.2.1) E) (Z : ew_Z C X cX5_paperTold 7 RX5 wsX5_paperTold ({ frames := 2, cells := 0, slots := 0, locals := 46 } : Room) (some .boolean)) {Q : Int32 → ew_M → Prop}  {v1 : Int32} {v4 : Int32} {t0 : Int32} {t1 : Int32} {s1 : ew_M} (hR : C.2.2.2.2.2.2.2.2.2.2 = MQ C.2.2.2.2.2.2.2.1 (va_Qi (fun (r : Int32) (u : ew_M) => Q r u) (fun (u : ew_M) => ew_wd X ((fun (u : ew_M) => E u) u)) X.2.2.1) C.2.2.2.2.2.2.1 C.2.2.2.2.1 0 0 X.2.2.1) (h : wX5_paperTold_109 Q v1 v4 t0 t1 s1) : ew_W C X 7 (E s1) 109 [(0, .ref (X.2.1 50)), (1, .int v1), (4, .int v4)] [.int t0, .int t1, .ref (X.2.1 68)] := by
  refine ez_iast (pc := 109) (n := 288) (a := 17) (M := s1) (M' := ew_sA s1 17 t1.toNatClampNeg t0) Z hE1 18 rfl (by decide : 17 < 36) rfl rfl h.1 dX5_paperTold_109 ?_
  replace h := h.2
  refine ez_iload (pc := 110) Z dX5_paperTold_110 2 rfl ?_
  refine ez_if_le (pc := 112) (tgt := 202) Z dX5_paperTold_112 rfl (fun c1 => ?_) (fun c1 => ?_)
  · replace h := h.1 c1
    refine ez_iconst (pc := 202) Z dX5_paperTold_202 ec_0 ?_
    exact ez_zret (pc := 203) Z hR (ew_sA s1 17 t1.toNatClampNeg t0) rfl h rfl dX5_paperTold_203
  · replace h := h.2 c1
    refine ez_aload_n (pc := 115) Z dX5_paperTold_115 0 rfl rfl ?_
    refine ez_bipush (pc := 116) Z dX5_paperTold_116 eb_44 ?_
    refine ez_callVi (pc := 118) (r := 50) (As := [.int (44 : Int32)]) (st := []) Z (kX5_goesBy Z.2.2.2.2.2.2.2.2.2.1 (E := E) hE1 h) gX5_paperTold_X5_goesBy rfl rfl rfl hdX5_goesBy rfl rfl (by decide) (ew_oM hE1 _) rfl rfl rfl rfl dX5_paperTold_118 (fun r2 m3 h => ?_)
    refine ez_if_eq (pc := 121) (tgt := 202) Z dX5_paperTold_121 rfl (fun c4 => ?_) (fun c4 => ?_)
    · replace h := h.1 c4
      refine ez_iconst (pc := 202) Z dX5_paperTold_202 ec_0 ?_
      exact ez_zret (pc := 203) Z hR m3 rfl h rfl dX5_paperTold_203
    · replace h := h.2 c4
      refine ez_aload_n (pc := 124) Z dX5_paperTold_124 0 rfl rfl ?_
      refine ez_iload_n (pc := 125) Z dX5_paperTold_125 1 rfl rfl ?_
      refine ez_iconst (pc := 126) Z dX5_paperTold_126 ec_2 ?_
      refine ez_iadd (pc := 127) Z dX5_paperTold_127 ?_
      refine ez_iconst (pc := 128) Z dX5_paperTold_128 ec_3 ?_
      refine ez_callVi (pc := 129) (r := 50) (As := [.int (v1 + (2 : Int32)), .int (3 : Int32)]) (st := []) Z (kX5_numberTo Z.2.2.2.2.2.2.2.2.2.1 (E := E) hE1 h) gX5_paperTold_X5_numberTo rfl rfl rfl hdX5_numberTo rfl rfl (by decide) (ew_oM hE1 _) rfl rfl rfl rfl dX5_paperTold_129 (fun r5 m6 h => ?_)
      refine ez_if_eq (pc := 132) (tgt := 202) Z dX5_paperTold_132 rfl (fun c7 => ?_) (fun c7 => ?_)
      · replace h := h.1 c7
        refine ez_iconst (pc := 202) Z dX5_paperTold_202 ec_0 ?_
        exact ez_zret (pc := 203) Z hR m6 rfl h rfl dX5_paperTold_203
      · replace h := h.2 c7
        refine ez_aload_n (pc := 135) Z dX5_paperTold_135 0 rfl rfl ?_
        refine ez_bipush (pc := 136) Z dX5_paperTold_136 eb_44 ?_
        refine ez_callVi (pc := 138) (r := 50) (As := [.int (44 : Int32)]) (st := []) Z (kX5_goesBy Z.2.2.2.2.2.2.2.2.2.1 (E := E) hE1 h) gX5_paperTold_X5_goesBy rfl rfl rfl hdX5_goesBy rfl rfl (by decide) (ew_oM hE1 _) rfl rfl rfl rfl dX5_paperTold_138 (fun r8 m9 h => ?_)
        refine ez_if_eq (pc := 141) (tgt := 202) Z dX5_paperTold_141 rfl (fun c10 => ?_) (fun c10 => ?_)
        · replace h := h.1 c10
          refine ez_iconst (pc := 202) Z dX5_paperTold_202 ec_0 ?_
          exact ez_zret (pc := 203) Z hR m9 rfl h rfl dX5_paperTold_203
        · replace h := h.2 c10
          refine ez_aload_n (pc := 144) Z dX5_paperTold_144 0 rfl rfl ?_
          refine ez_iload_n (pc := 145) Z dX5_paperTold_145 1 rfl rfl ?_
          refine ez_iconst (pc := 146) Z dX5_paperTold_146 ec_3 ?_
          refine ez_iadd (pc := 147) Z dX5_paperTold_147 ?_
          refine ez_iconst (pc := 148) Z dX5_paperTold_148 ec_3 ?_
          refine ez_callVi (pc := 149) (r := 50) (As := [.int (v1 + (3 : Int32)), .int (3 : Int32)]) (st := []) Z (kX5_numberTo Z.2.2.2.2.2.2.2.2.2.1 (E := E) hE1 h) gX5_paperTold_X5_numberTo rfl rfl rfl hdX5_numberTo rfl rfl (by decide) (ew_oM hE1 _) rfl rfl rfl rfl dX5_paperTold_149 (fun r11 m12 h => ?_)
          refine ez_if_eq (pc := 152) (tgt := 202) Z dX5_paperTold_152 rfl (fun c13 => ?_) (fun c13 => ?_)
          · replace h := h.1 c13
            refine ez_iconst (pc := 202) Z dX5_paperTold_202 ec_0 ?_
            exact ez_zret (pc := 203) Z hR m12 rfl h rfl dX5_paperTold_203
          · replace h := h.2 c13
            refine ez_aload_n (pc := 155) Z dX5_paperTold_155 0 rfl rfl ?_
            refine ez_bipush (pc := 156) Z dX5_paperTold_156 eb_58 ?_
            refine ez_callVi (pc := 158) (r := 50) (As := [.int (58 : Int32)]) (st := []) Z (kX5_goesBy Z.2.2.2.2.2.2.2.2.2.1 (E := E) hE1 h) gX5_paperTold_X5_goesBy rfl rfl rfl hdX5_goesBy rfl rfl (by decide) (ew_oM hE1 _) rfl rfl rfl rfl dX5_paperTold_158 (fun r14 m15 h => ?_)
            refine ez_if_eq (pc := 161) (tgt := 202) Z dX5_paperTold_161 rfl (fun c16 => ?_) (fun c16 => ?_)
            · replace h := h.1 c16
              refine ez_iconst (pc := 202) Z dX5_paperTold_202 ec_0 ?_
              exact ez_zret (pc := 203) Z hR m15 rfl h rfl dX5_paperTold_203
            · replace h := h.2 c16
              refine ez_aload_n (pc := 164) Z dX5_paperTold_164 0 rfl rfl ?_
              refine ez_iload_n (pc := 165) Z dX5_paperTold_165 1 rfl rfl ?_
              refine ez_iconst (pc := 166) Z dX5_paperTold_166 ec_4 ?_
              refine ez_iadd (pc := 167) Z dX5_paperTold_167 ?_
              refine ez_iconst (pc := 168) Z dX5_paperTold_168 ec_1 ?_
              refine ez_callVi (pc := 169) (r := 50) (As := [.int (v1 + (4 : Int32)), .int (1 : Int32)]) (st := []) Z (kX5_numberTo Z.2.2.2.2.2.2.2.2.2.1 (E := E) hE1 h) gX5_paperTold_X5_numberTo rfl rfl rfl hdX5_numberTo rfl rfl (by decide) (ew_oM hE1 _) rfl rfl rfl rfl dX5_paperTold_169 (fun r17 m18 h => ?_)
              refine ez_if_eq (pc := 172) (tgt := 202) Z dX5_paperTold_172 rfl (fun c19 => ?_) (fun c19 => ?_)
              · replace h := h.1 c19
                refine ez_iconst (pc := 202) Z dX5_paperTold_202 ec_0 ?_
                exact ez_zret (pc := 203) Z hR m18 rfl h rfl dX5_paperTold_203
              · replace h := h.2 c19
                refine ez_aload_n (pc := 175) Z dX5_paperTold_175 0 rfl rfl ?_
                refine ez_iload_n (pc := 176) Z dX5_paperTold_176 1 rfl rfl ?_
                refine ez_iconst (pc := 177) Z dX5_paperTold_177 ec_5 ?_
                refine ez_iadd (pc := 178) Z dX5_paperTold_178 ?_
                refine ez_iconst (pc := 179) Z dX5_paperTold_179 ec_1 ?_
                refine ez_callVi (pc := 180) (r := 50) (As := [.int (v1 + (5 : Int32)), .int (1 : Int32)]) (st := []) Z (kX5_numberTo Z.2.2.2.2.2.2.2.2.2.1 (E := E) hE1 h) gX5_paperTold_X5_numberTo rfl rfl rfl hdX5_numberTo rfl rfl (by decide) (ew_oM hE1 _) rfl rfl rfl rfl dX5_paperTold_180 (fun r20 m21 h => ?_)
                refine ez_if_eq (pc := 183) (tgt := 202) Z dX5_paperTold_183 rfl (fun c22 => ?_) (fun c22 => ?_)
                · replace h := h.1 c22
                  refine ez_iconst (pc := 202) Z dX5_paperTold_202 ec_0 ?_
                  exact ez_zret (pc := 203) Z hR m21 rfl h rfl dX5_paperTold_203
                · replace h := h.2 c22
                  refine ez_aload_n (pc := 186) Z dX5_paperTold_186 0 rfl rfl ?_
                  refine ez_iload_n (pc := 187) Z dX5_paperTold_187 1 rfl rfl ?_
                  refine ez_bipush (pc := 188) Z dX5_paperTold_188 eb_6 ?_
                  refine ez_iadd (pc := 190) Z dX5_paperTold_190 ?_
                  refine ez_iconst (pc := 191) Z dX5_paperTold_191 ec_1 ?_
                  refine ez_callVi (pc := 192) (r := 50) (As := [.int (v1 + (6 : Int32)), .int (1 : Int32)]) (st := []) Z (kX5_numberTo Z.2.2.2.2.2.2.2.2.2.1 (E := E) hE1 h) gX5_paperTold_X5_numberTo rfl rfl rfl hdX5_numberTo rfl rfl (by decide) (ew_oM hE1 _) rfl rfl rfl rfl dX5_paperTold_192 (fun r23 m24 h => ?_)
                  refine ez_if_eq (pc := 195) (tgt := 202) Z dX5_paperTold_195 rfl (fun c25 => ?_) (fun c25 => ?_)
                  · replace h := h.1 c25
                    refine ez_iconst (pc := 202) Z dX5_paperTold_202 ec_0 ?_
                    exact ez_zret (pc := 203) Z hR m24 rfl h rfl dX5_paperTold_203
                  · replace h := h.2 c25
                    refine ez_iconst (pc := 198) Z dX5_paperTold_198 ec_1 ?_
                    refine ez_goto (pc := 199) (tgt := 203) Z dX5_paperTold_199 rfl ?_
                    exact ez_zret (pc := 203) Z hR m24 rfl h rfl dX5_paperTold_203
set_option maxHeartbeats 4000000 in
set_option maxRecDepth 100000 in
theorem tX5_paperTold_84 {C : ew_C} {X : ew_X} {E : ew_M → ew_S} (hE1 : ew_GE X 50 (ew_GM X.2.1) E) (Z : ew_Z C X cX5_paperTold 7 RX5 wsX5_paperTold ({ frames := 2, cells := 0, slots := 0, locals := 46 } : Room) (some .boolean)) {Q : Int32 → ew_M → Prop}  {v1 : Int32} {v2 : Int32} {v3 : Int32} {v4 : Int32} {v5 : Int32} {s1 : ew_M} (hR : C.2.2.2.2.2.2.2.2.2.2 = MQ C.2.2.2.2.2.2.2.1 (va_Qi (fun (r : Int32) (u : ew_M) => Q r u) (fun (u : ew_M) => ew_wd X ((fun (u : ew_M) => E u) u)) X.2.2.1) C.2.2.2.2.2.2.1 C.2.2.2.2.1 0 0 X.2.2.1) (h : wX5_paperTold_84 Q v1 v2 v3 v4 v5 s1) : ew_W C X 7 (E s1) 84 [(0, .ref (X.2.1 50)), (1, .int v1), (2, .int v2), (3, .int v3), (4, .int v4), (5, .int v5)] [] := by
  refine ez_aload_n (pc := 84) Z dX5_paperTold_84 0 rfl rfl ?_
  refine fX5_numbers (pc := 85) (M := s1) Z hE1 inX5_paperTold (List.mem_of_getElem? (i := 2) rfl) dX5_paperTold_85 ?_
  refine ez_iload_n (pc := 88) Z dX5_paperTold_88 1 rfl rfl ?_
  refine ez_iload_n (pc := 89) Z dX5_paperTold_89 2 rfl rfl ?_
  refine ez_iast (pc := 90) (n := 288) (a := 17) (M := s1) (M' := ew_sA s1 17 v1.toNatClampNeg v2) Z hE1 18 rfl (by decide : 17 < 36) rfl rfl h.1 dX5_paperTold_90 ?_
  replace h := h.2
  refine ez_aload_n (pc := 91) Z dX5_paperTold_91 0 rfl rfl ?_
  refine fX5_numbers (pc := 92) (M := ew_sA s1 17 v1.toNatClampNeg v2) Z hE1 inX5_paperTold (List.mem_of_getElem? (i := 2) rfl) dX5_paperTold_92 ?_
  refine ez_iload_n (pc := 95) Z dX5_paperTold_95 1 rfl rfl ?_
  refine ez_iconst (pc := 96) Z dX5_paperTold_96 ec_1 ?_
  refine ez_iadd (pc := 97) Z dX5_paperTold_97 ?_
  refine ez_iload (pc := 98) Z dX5_paperTold_98 5 rfl ?_
  refine ez_if_eq (pc := 100) (tgt := 107) Z dX5_paperTold_100 rfl (fun c1 => ?_) (fun c1 => ?_)
  · replace h := h.1 c1
    refine ez_bipush (pc := 107) Z dX5_paperTold_107 eb_99 ?_
    refine ez_sub [(0, .ref (X.2.1 50)), (1, .int v1), (4, .int v4)] [0, 1, 4] rfl ?_
    exact tX5_paperTold_109 hE1 Z hR  h
  · replace h := h.2 c1
    refine ez_iload_n (pc := 103) Z dX5_paperTold_103 3 rfl rfl ?_
    refine ez_goto (pc := 104) (tgt := 109) Z dX5_paperTold_104 rfl ?_
    refine ez_sub [(0, .ref (X.2.1 50)), (1, .int v1), (4, .int v4)] [0, 1, 4] rfl ?_
    exact tX5_paperTold_109 hE1 Z hR  h
set_option maxHeartbeats 4000000 in
set_option maxRecDepth 100000 in
theorem tX5_paperTold_10 {C : ew_C} {X : ew_X} {E : ew_M → ew_S} (hE1 : ew_GE X 50 (ew_GM X.2.1) E) (Z : ew_Z C X cX5_paperTold 7 RX5 wsX5_paperTold ({ frames := 2, cells := 0, slots := 0, locals := 46 } : Room) (some .boolean)) {Q : Int32 → ew_M → Prop} {R10 : Int32 × Int32 × Int32 × Int32 × ew_M → Prop} {v1 : Int32} {v2 : Int32} {v3 : Int32} {v4 : Int32} {v5 : Int32} {s1 : ew_M} (hR : C.2.2.2.2.2.2.2.2.2.2 = MQ C.2.2.2.2.2.2.2.1 (va_Qi (fun (r : Int32) (u : ew_M) => Q r u) (fun (u : ew_M) => ew_wd X ((fun (u : ew_M) => E u) u)) X.2.2.1) C.2.2.2.2.2.2.1 C.2.2.2.2.1 0 0 X.2.2.1) (hR10 : ∀ x : Int32 × Int32 × Int32 × Int32 × ew_M, R10 x → ew_W C X 7 (E x.2.2.2.2) 10 [(0, .ref (X.2.1 50)), (1, .int v1), (2, .int x.1), (3, .int x.2.1), (4, .int x.2.2.1), (5, .int x.2.2.2.1)] []) (h : wX5_paperTold_10 R10 Q v1 v2 v3 v4 v5 s1) : ew_W C X 7 (E s1) 10 [(0, .ref (X.2.1 50)), (1, .int v1), (2, .int v2), (3, .int v3), (4, .int v4), (5, .int v5)] [] := by
  refine ez_iload (pc := 10) Z dX5_paperTold_10 4 rfl ?_
  refine ez_bipush (pc := 12) Z dX5_paperTold_12 eb_6 ?_
  refine ez_icmp_ge (pc := 14) (tgt := 84) Z dX5_paperTold_14 rfl (fun c1 => ?_) (fun c1 => ?_)
  · replace h := h.1 c1
    exact tX5_paperTold_84 hE1 Z hR  h
  · replace h := h.2 c1
    refine ez_aload_n (pc := 17) Z dX5_paperTold_17 0 rfl rfl ?_
    refine ez_callVi (pc := 18) (r := 50) (As := []) (st := []) Z (kX5_sign Z.2.2.2.2.2.2.2.2.2.1 (E := E) hE1 h) gX5_paperTold_X5_sign rfl rfl rfl hdX5_sign rfl rfl (by decide) (ew_oM hE1 _) rfl rfl rfl rfl dX5_paperTold_18 (fun r2 u3 h => ?_)
    refine ez_bipush (pc := 21) Z dX5_paperTold_21 eb_48 ?_
    refine ez_bipush (pc := 23) Z dX5_paperTold_23 eb_57 ?_
    refine ez_callSi (pc := 25) (As := [.int r2, .int (48 : Int32), .int (57 : Int32)]) (st := []) Z (kX5_in Z.2.2.2.2.2.2.2.2.2.1 (S := E s1) h) gX5_paperTold_X5_in rfl rfl rfl hdX5_in rfl rfl rfl rfl rfl dX5_paperTold_25 (fun r4 u5 h => ?_)
    refine ez_if_eq (pc := 28) (tgt := 84) Z dX5_paperTold_28 rfl (fun c6 => ?_) (fun c6 => ?_)
    · replace h := h.1 c6
      exact tX5_paperTold_84 hE1 Z hR  h
    · replace h := h.2 c6
      refine ez_aload_n (pc := 31) Z dX5_paperTold_31 0 rfl rfl ?_
      refine ez_callVi (pc := 32) (r := 50) (As := []) (st := []) Z (kX5_sign Z.2.2.2.2.2.2.2.2.2.1 (E := E) hE1 h) gX5_paperTold_X5_sign rfl rfl rfl hdX5_sign rfl rfl (by decide) (ew_oM hE1 _) rfl rfl rfl rfl dX5_paperTold_32 (fun r7 u8 h => ?_)
      refine ez_bipush (pc := 35) Z dX5_paperTold_35 eb_48 ?_
      refine ez_isub (pc := 37) Z dX5_paperTold_37 ?_
      refine ez_istore (pc := 38) (L' := [(6, .int (r7 - (48 : Int32))), (0, .ref (X.2.1 50)), (1, .int v1), (2, .int v2), (3, .int v3), (4, .int v4), (5, .int v5)]) Z dX5_paperTold_38 (by decide) rfl ?_
      refine ez_iload (pc := 40) Z dX5_paperTold_40 6 rfl ?_
      refine ez_if_eq (pc := 42) (tgt := 55) Z dX5_paperTold_42 rfl (fun c9 => ?_) (fun c9 => ?_)
      · replace h := h.1 c9
        refine ez_sub [(0, .ref (X.2.1 50)), (1, .int v1), (2, .int v2), (4, .int v4), (6, .int (r7 - (48 : Int32)))] [1, 2, 3, 5, 0] rfl ?_
        exact tX5_paperTold_55 hE1 Z hR hR10 h
      · replace h := h.2 c9
        refine ez_iload (pc := 45) Z dX5_paperTold_45 0 rfl ?_
        refine ez_iload_n (pc := 47) Z dX5_paperTold_47 4 rfl rfl ?_
        refine ez_icmp_le (pc := 48) (tgt := 55) Z dX5_paperTold_48 rfl (fun c10 => ?_) (fun c10 => ?_)
        · replace h := h.1 c10
          refine ez_sub [(0, .ref (X.2.1 50)), (1, .int v1), (2, .int v2), (4, .int v4), (6, .int (r7 - (48 : Int32)))] [1, 2, 3, 5, 0] rfl ?_
          exact tX5_paperTold_55 hE1 Z hR hR10 h
        · replace h := h.2 c10
          refine ez_iconst (pc := 51) Z dX5_paperTold_51 ec_1 ?_
          refine ez_goto (pc := 52) (tgt := 56) Z dX5_paperTold_52 rfl ?_
          refine ez_sub [(0, .ref (X.2.1 50)), (1, .int v1), (2, .int v2), (4, .int v4), (6, .int (r7 - (48 : Int32)))] [1, 2, 3, 5, 0] rfl ?_
          exact tX5_paperTold_56 hE1 Z hR hR10 h
set_option maxHeartbeats 4000000 in
set_option maxRecDepth 100000 in
theorem kX5_paperTold {X : ew_X} {l : Launch} (hX : ew_Ap X) {E : ew_M → ew_S} (hE1 : ew_GE X 50 (ew_GM X.2.1) E) {Q : Int32 → ew_M → Prop} {p1 : Int32} {s1 : ew_M} (h : wX5_paperTold Q p1 s1) : Met l yX5_paperTold wsX5_paperTold ({ frames := 2, cells := 0, slots := 0, locals := 46 } : Room) (va_Pc [.ref (X.2.1 50), .int p1] (ew_wd X (E s1))) (va_Qi (fun (r : Int32) (u : ew_M) => Q r u) (fun (u : ew_M) => ew_wd X ((fun (u : ew_M) => E u) u)) X.2.2.1) 0 0 X.2.2.1 := by
  refine ew_met (As := [.ref (X.2.1 50), .int p1]) (L0 := [(0, .ref (X.2.1 50)), (1, .int p1)]) X l hX (by decide) rfl rfl rfl rfl (fun C hl Z hR => ?_)
  subst hl
  refine ez_iconst (pc := 0) Z dX5_paperTold_0 ec_0 ?_
  refine ez_istore_n (pc := 1) (L' := [(2, .int (0 : Int32)), (0, .ref (X.2.1 50)), (1, .int p1)]) Z dX5_paperTold_1 rfl (by decide) rfl ?_
  refine ez_iconst (pc := 2) Z dX5_paperTold_2 ec_m1 ?_
  refine ez_istore_n (pc := 3) (L' := [(3, .int (-1 : Int32)), (2, .int (0 : Int32)), (0, .ref (X.2.1 50)), (1, .int p1)]) Z dX5_paperTold_3 rfl (by decide) rfl ?_
  refine ez_iconst (pc := 4) Z dX5_paperTold_4 ec_0 ?_
  refine ez_istore (pc := 5) (L' := [(4, .int (0 : Int32)), (3, .int (-1 : Int32)), (2, .int (0 : Int32)), (0, .ref (X.2.1 50)), (1, .int p1)]) Z dX5_paperTold_5 (by decide) rfl ?_
  refine ez_iconst (pc := 7) Z dX5_paperTold_7 ec_1 ?_
  refine ez_istore (pc := 8) (L' := [(5, .int (1 : Int32)), (4, .int (0 : Int32)), (3, .int (-1 : Int32)), (2, .int (0 : Int32)), (0, .ref (X.2.1 50)), (1, .int p1)]) Z dX5_paperTold_8 (by decide) rfl ?_
  refine ez_sub [(0, .ref (X.2.1 50)), (1, .int p1), (2, .int (0 : Int32)), (3, .int (-1 : Int32)), (4, .int (0 : Int32)), (5, .int (1 : Int32))] [4, 5, 3, 2, 1, 0] rfl ?_
  exact ew_ind (P := fun (x : Int32 × Int32 × Int32 × Int32 × ew_M) => ew_W C X 7 (E x.2.2.2.2) 10 [(0, .ref (X.2.1 50)), (1, .int p1), (2, .int x.1), (3, .int x.2.1), (4, .int x.2.2.1), (5, .int x.2.2.2.1)] []) (fun R hR9 x h => tX5_paperTold_10 hE1 Z hR  hR9 h) h
theorem inX5_statementTold : ∀ w ∈ wsX50, w ∈ wsX5_statementTold := fun _ h => List.mem_cons_of_mem _ (List.mem_append_right _ (h))
theorem hdX5_statementTold : yX5_statementTold.cls = RX5 ∧ yX5_statementTold.cls ≠ "java/lang/invoke/MethodHandle" ∧ yX5_statementTold.cls ≠ "java/lang/invoke/VarHandle" ∧ (parseMethodDescriptor yX5_statementTold.desc).map (fun d => d.parameters.length) = some 0 := by decide +kernel
def wX5_statementTold_144  (Q : Int32 → ew_M → Prop) (t0 : Int32) (s1 : ew_M) : Prop := (t0 = 0 → Q (0 : Int32) s1) ∧ (¬ t0 = 0 → wX5_goesBy (fun (r2 : Int32) (m3 : ew_M) => (¬ r2 = 0 → Q (1 : Int32) (ew_sI m3 23 ((m3.1 23) + (1 : Int32)))) ∧ (r2 = 0 → Q (0 : Int32) m3)) (59 : Int32) s1)
def wX5_statementTold_141  (Q : Int32 → ew_M → Prop) (t0 : Int32) (t1 : Int32) (s1 : ew_M) : Prop := wX5_numberTo (fun (r1 : Int32) (m2 : ew_M) => wX5_statementTold_144 Q r1 m2) t1 t0 s1
def wX5_statementTold_75  (Q : Int32 → ew_M → Prop) (v1 : Int32) (v2 : Int32) (t0 : Int32) (t1 : Int32) (s1 : ew_M) : Prop := vp_in t1 32 ∧ (vp_in (s1.1 23) 32 ∧ ((0 ≤ ((ew_sA s1 16 t1.toNatClampNeg t0).2.1 16 (s1.1 23).toNatClampNeg) → (¬ v2 = (112 : Int32) → (¬ v2 = (97 : Int32) → (¬ v2 = (108 : Int32) → wX5_statementTold_141 Q (3 : Int32) v1 (ew_sI (ew_sA s1 16 t1.toNatClampNeg t0) 28 ((s1.1 28) + (1 : Int32)))) ∧ (v2 = (108 : Int32) → wX5_statementTold_141 Q (1 : Int32) v1 (ew_sI (ew_sA s1 16 t1.toNatClampNeg t0) 28 ((s1.1 28) + (1 : Int32))))) ∧ (v2 = (97 : Int32) → wX5_paperTold (fun (r5 : Int32) (m6 : ew_M) => wX5_statementTold_144 Q r5 m6) v1 (ew_sI (ew_sA s1 16 t1.toNatClampNeg t0) 28 ((s1.1 28) + (1 : Int32))))) ∧ (v2 = (112 : Int32) → wX5_personTold (fun (r7 : Int32) (m8 : ew_M) => wX5_statementTold_144 Q r7 m8) v1 (ew_sI (ew_sA s1 16 t1.toNatClampNeg t0) 28 ((s1.1 28) + (1 : Int32))))) ∧ (¬ 0 ≤ ((ew_sA s1 16 t1.toNatClampNeg t0).2.1 16 (s1.1 23).toNatClampNeg) → Q (0 : Int32) (ew_sA s1 16 t1.toNatClampNeg t0))))
def wX5_statementTold (Q : Int32 → ew_M → Prop) (s1 : ew_M) : Prop := vp_in (s1.1 23) 32 ∧ (wX5_sign (fun (r1 : Int32) => (¬ r1 = (112 : Int32) → (¬ r1 = (97 : Int32) → (¬ r1 = (108 : Int32) → (¬ r1 = (99 : Int32) → wX5_statementTold_75 Q ((9 : Int32) * (s1.1 23)) r1 (-1 : Int32) (s1.1 23) (ew_sA s1 15 (s1.1 23).toNatClampNeg (s1.1 28))) ∧ (r1 = (99 : Int32) → wX5_statementTold_75 Q ((9 : Int32) * (s1.1 23)) r1 (3 : Int32) (s1.1 23) (ew_sA s1 15 (s1.1 23).toNatClampNeg (s1.1 28)))) ∧ (r1 = (108 : Int32) → wX5_statementTold_75 Q ((9 : Int32) * (s1.1 23)) r1 (2 : Int32) (s1.1 23) (ew_sA s1 15 (s1.1 23).toNatClampNeg (s1.1 28)))) ∧ (r1 = (97 : Int32) → wX5_statementTold_75 Q ((9 : Int32) * (s1.1 23)) r1 (1 : Int32) (s1.1 23) (ew_sA s1 15 (s1.1 23).toNatClampNeg (s1.1 28)))) ∧ (r1 = (112 : Int32) → wX5_statementTold_75 Q ((9 : Int32) * (s1.1 23)) r1 (0 : Int32) (s1.1 23) (ew_sA s1 15 (s1.1 23).toNatClampNeg (s1.1 28)))) (ew_sA s1 15 (s1.1 23).toNatClampNeg (s1.1 28)))
set_option maxHeartbeats 4000000 in
set_option maxRecDepth 100000 in
theorem tX5_statementTold_144 {C : ew_C} {X : ew_X} {E : ew_M → ew_S} (hE1 : ew_GE X 50 (ew_GM X.2.1) E) (Z : ew_Z C X cX5_statementTold 4 RX5 wsX5_statementTold ({ frames := 3, cells := 0, slots := 0, locals := 72 } : Room) (some .boolean)) {Q : Int32 → ew_M → Prop}  {t0 : Int32} {s1 : ew_M} (hR : C.2.2.2.2.2.2.2.2.2.2 = MQ C.2.2.2.2.2.2.2.1 (va_Qi (fun (r : Int32) (u : ew_M) => Q r u) (fun (u : ew_M) => ew_wd X ((fun (u : ew_M) => E u) u)) X.2.2.1) C.2.2.2.2.2.2.1 C.2.2.2.2.1 0 0 X.2.2.1) (h : wX5_statementTold_144 Q t0 s1) : ew_W C X 4 (E s1) 144 [(0, .ref (X.2.1 50))] [.int t0] := by
  refine ez_istore_n (pc := 144) (L' := [(3, .int t0), (0, .ref (X.2.1 50))]) Z dX5_statementTold_144 rfl (by decide) rfl ?_
  refine ez_iload_n (pc := 145) Z dX5_statementTold_145 0 rfl rfl ?_
  refine ez_if_eq (pc := 146) (tgt := 158) Z dX5_statementTold_146 rfl (fun c1 => ?_) (fun c1 => ?_)
  · replace h := h.1 c1
    refine ez_iconst (pc := 158) Z dX5_statementTold_158 ec_0 ?_
    exact ez_zret (pc := 159) Z hR s1 rfl h rfl dX5_statementTold_159
  · replace h := h.2 c1
    refine ez_aload_n (pc := 149) Z dX5_statementTold_149 1 rfl rfl ?_
    refine ez_bipush (pc := 150) Z dX5_statementTold_150 eb_59 ?_
    refine ez_callVi (pc := 152) (r := 50) (As := [.int (59 : Int32)]) (st := []) Z (kX5_goesBy Z.2.2.2.2.2.2.2.2.2.1 (E := E) hE1 h) gX5_statementTold_X5_goesBy rfl rfl rfl hdX5_goesBy rfl rfl (by decide) (ew_oM hE1 _) rfl rfl rfl rfl dX5_statementTold_152 (fun r2 m3 h => ?_)
    refine ez_if_ne (pc := 155) (tgt := 160) Z dX5_statementTold_155 rfl (fun c4 => ?_) (fun c4 => ?_)
    · replace h := h.1 c4
      refine ez_aload_n (pc := 160) Z dX5_statementTold_160 1 rfl rfl ?_
      refine ez_dup (pc := 161) Z dX5_statementTold_161 rfl ?_
      refine fX5_told (pc := 162) (v := m3.1 23) Z hE1 rfl inX5_statementTold (List.mem_of_getElem? (i := 1) rfl) dX5_statementTold_162 ?_
      refine ez_iconst (pc := 165) Z dX5_statementTold_165 ec_1 ?_
      refine ez_iadd (pc := 166) Z dX5_statementTold_166 ?_
      refine pX5_told (pc := 167) (M := m3) (M' := ew_sI m3 23 ((m3.1 23) + (1 : Int32))) Z hE1 rfl inX5_statementTold (List.mem_of_getElem? (i := 1) rfl) dX5_statementTold_167 ?_
      refine ez_iconst (pc := 170) Z dX5_statementTold_170 ec_1 ?_
      exact ez_zret (pc := 171) Z hR (ew_sI m3 23 ((m3.1 23) + (1 : Int32))) rfl h rfl dX5_statementTold_171
    · replace h := h.2 c4
      refine ez_iconst (pc := 158) Z dX5_statementTold_158 ec_0 ?_
      exact ez_zret (pc := 159) Z hR m3 rfl h rfl dX5_statementTold_159
set_option maxHeartbeats 4000000 in
set_option maxRecDepth 100000 in
theorem tX5_statementTold_141 {C : ew_C} {X : ew_X} {E : ew_M → ew_S} (hE1 : ew_GE X 50 (ew_GM X.2.1) E) (Z : ew_Z C X cX5_statementTold 4 RX5 wsX5_statementTold ({ frames := 3, cells := 0, slots := 0, locals := 72 } : Room) (some .boolean)) {Q : Int32 → ew_M → Prop}  {t0 : Int32} {t1 : Int32} {s1 : ew_M} (hR : C.2.2.2.2.2.2.2.2.2.2 = MQ C.2.2.2.2.2.2.2.1 (va_Qi (fun (r : Int32) (u : ew_M) => Q r u) (fun (u : ew_M) => ew_wd X ((fun (u : ew_M) => E u) u)) X.2.2.1) C.2.2.2.2.2.2.1 C.2.2.2.2.1 0 0 X.2.2.1) (h : wX5_statementTold_141 Q t0 t1 s1) : ew_W C X 4 (E s1) 141 [(0, .ref (X.2.1 50))] [.int t0, .int t1, .ref (X.2.1 50)] := by
  refine ez_callVi (pc := 141) (r := 50) (As := [.int t1, .int t0]) (st := []) Z (kX5_numberTo Z.2.2.2.2.2.2.2.2.2.1 (E := E) hE1 h) gX5_statementTold_X5_numberTo rfl rfl rfl hdX5_numberTo rfl rfl (by decide) (ew_oM hE1 _) rfl rfl rfl rfl dX5_statementTold_141 (fun r1 m2 h => ?_)
  exact tX5_statementTold_144 hE1 Z hR  h
set_option maxHeartbeats 4000000 in
set_option maxRecDepth 100000 in
theorem tX5_statementTold_75 {C : ew_C} {X : ew_X} {E : ew_M → ew_S} (hE1 : ew_GE X 50 (ew_GM X.2.1) E) (Z : ew_Z C X cX5_statementTold 4 RX5 wsX5_statementTold ({ frames := 3, cells := 0, slots := 0, locals := 72 } : Room) (some .boolean)) {Q : Int32 → ew_M → Prop}  {v1 : Int32} {v2 : Int32} {t0 : Int32} {t1 : Int32} {s1 : ew_M} (hR : C.2.2.2.2.2.2.2.2.2.2 = MQ C.2.2.2.2.2.2.2.1 (va_Qi (fun (r : Int32) (u : ew_M) => Q r u) (fun (u : ew_M) => ew_wd X ((fun (u : ew_M) => E u) u)) X.2.2.1) C.2.2.2.2.2.2.1 C.2.2.2.2.1 0 0 X.2.2.1) (h : wX5_statementTold_75 Q v1 v2 t0 t1 s1) : ew_W C X 4 (E s1) 75 [(0, .ref (X.2.1 50)), (1, .int v1), (2, .int v2)] [.int t0, .int t1, .ref (X.2.1 67)] := by
  refine ez_iast (pc := 75) (n := 32) (a := 16) (M := s1) (M' := ew_sA s1 16 t1.toNatClampNeg t0) Z hE1 17 rfl (by decide : 16 < 36) rfl rfl h.1 dX5_statementTold_75 ?_
  replace h := h.2
  refine ez_aload_n (pc := 76) Z dX5_statementTold_76 0 rfl rfl ?_
  refine fX5_which (pc := 77) (M := ew_sA s1 16 t1.toNatClampNeg t0) Z hE1 inX5_statementTold (List.mem_of_getElem? (i := 4) rfl) dX5_statementTold_77 ?_
  refine ez_aload_n (pc := 80) Z dX5_statementTold_80 0 rfl rfl ?_
  refine fX5_told (pc := 81) (v := s1.1 23) Z hE1 rfl inX5_statementTold (List.mem_of_getElem? (i := 1) rfl) dX5_statementTold_81 ?_
  refine ez_iald (pc := 84) (n := 32) (a := 16) (v := (ew_sA s1 16 t1.toNatClampNeg t0).2.1 16 (s1.1 23).toNatClampNeg) (M := ew_sA s1 16 t1.toNatClampNeg t0) Z hE1 17 rfl (by decide : 16 < 36) rfl rfl h.1 dX5_statementTold_84 ?_
  replace h := h.2
  refine ez_if_ge (pc := 85) (tgt := 90) Z dX5_statementTold_85 rfl (fun c1 => ?_) (fun c1 => ?_)
  · replace h := h.1 c1
    refine ez_aload_n (pc := 90) Z dX5_statementTold_90 0 rfl rfl ?_
    refine ez_dup (pc := 91) Z dX5_statementTold_91 rfl ?_
    refine fX5_at0 (pc := 92) (v := s1.1 28) Z hE1 rfl inX5_statementTold (List.mem_of_getElem? (i := 3) rfl) dX5_statementTold_92 ?_
    refine ez_iconst (pc := 95) Z dX5_statementTold_95 ec_1 ?_
    refine ez_iadd (pc := 96) Z dX5_statementTold_96 ?_
    refine pX5_at0 (pc := 97) (M := ew_sA s1 16 t1.toNatClampNeg t0) (M' := ew_sI (ew_sA s1 16 t1.toNatClampNeg t0) 28 ((s1.1 28) + (1 : Int32))) Z hE1 rfl inX5_statementTold (List.mem_of_getElem? (i := 3) rfl) dX5_statementTold_97 ?_
    refine ez_iload_n (pc := 100) Z dX5_statementTold_100 2 rfl rfl ?_
    refine ez_bipush (pc := 101) Z dX5_statementTold_101 eb_112 ?_
    refine ez_icmp_ne (pc := 103) (tgt := 114) Z dX5_statementTold_103 rfl (fun c2 => ?_) (fun c2 => ?_)
    · replace h := h.1 c2
      refine ez_iload_n (pc := 114) Z dX5_statementTold_114 2 rfl rfl ?_
      refine ez_bipush (pc := 115) Z dX5_statementTold_115 eb_97 ?_
      refine ez_icmp_ne (pc := 117) (tgt := 128) Z dX5_statementTold_117 rfl (fun c3 => ?_) (fun c3 => ?_)
      · replace h := h.1 c3
        refine ez_aload_n (pc := 128) Z dX5_statementTold_128 0 rfl rfl ?_
        refine ez_iload_n (pc := 129) Z dX5_statementTold_129 1 rfl rfl ?_
        refine ez_iload_n (pc := 130) Z dX5_statementTold_130 2 rfl rfl ?_
        refine ez_bipush (pc := 131) Z dX5_statementTold_131 eb_108 ?_
        refine ez_icmp_ne (pc := 133) (tgt := 140) Z dX5_statementTold_133 rfl (fun c4 => ?_) (fun c4 => ?_)
        · replace h := h.1 c4
          refine ez_iconst (pc := 140) Z dX5_statementTold_140 ec_3 ?_
          refine ez_sub [(0, .ref (X.2.1 50))] [0] rfl ?_
          exact tX5_statementTold_141 hE1 Z hR  h
        · replace h := h.2 c4
          refine ez_iconst (pc := 136) Z dX5_statementTold_136 ec_1 ?_
          refine ez_goto (pc := 137) (tgt := 141) Z dX5_statementTold_137 rfl ?_
          refine ez_sub [(0, .ref (X.2.1 50))] [0] rfl ?_
          exact tX5_statementTold_141 hE1 Z hR  h
      · replace h := h.2 c3
        refine ez_aload_n (pc := 120) Z dX5_statementTold_120 0 rfl rfl ?_
        refine ez_iload_n (pc := 121) Z dX5_statementTold_121 1 rfl rfl ?_
        refine ez_callVi (pc := 122) (r := 50) (As := [.int v1]) (st := []) Z (kX5_paperTold Z.2.2.2.2.2.2.2.2.2.1 (E := E) hE1 h) gX5_statementTold_X5_paperTold rfl rfl rfl hdX5_paperTold rfl rfl (by decide) (ew_oM hE1 _) rfl rfl rfl rfl dX5_statementTold_122 (fun r5 m6 h => ?_)
        refine ez_goto (pc := 125) (tgt := 144) Z dX5_statementTold_125 rfl ?_
        refine ez_sub [(0, .ref (X.2.1 50))] [0] rfl ?_
        exact tX5_statementTold_144 hE1 Z hR  h
    · replace h := h.2 c2
      refine ez_aload_n (pc := 106) Z dX5_statementTold_106 0 rfl rfl ?_
      refine ez_iload_n (pc := 107) Z dX5_statementTold_107 1 rfl rfl ?_
      refine ez_callVi (pc := 108) (r := 50) (As := [.int v1]) (st := []) Z (kX5_personTold Z.2.2.2.2.2.2.2.2.2.1 (E := E) hE1 h) gX5_statementTold_X5_personTold rfl rfl rfl hdX5_personTold rfl rfl (by decide) (ew_oM hE1 _) rfl rfl rfl rfl dX5_statementTold_108 (fun r7 m8 h => ?_)
      refine ez_goto (pc := 111) (tgt := 144) Z dX5_statementTold_111 rfl ?_
      refine ez_sub [(0, .ref (X.2.1 50))] [0] rfl ?_
      exact tX5_statementTold_144 hE1 Z hR  h
  · replace h := h.2 c1
    refine ez_iconst (pc := 88) Z dX5_statementTold_88 ec_0 ?_
    exact ez_zret (pc := 89) Z hR (ew_sA s1 16 t1.toNatClampNeg t0) rfl h rfl dX5_statementTold_89
set_option maxHeartbeats 4000000 in
set_option maxRecDepth 100000 in
theorem kX5_statementTold {X : ew_X} {l : Launch} (hX : ew_Ap X) {E : ew_M → ew_S} (hE1 : ew_GE X 50 (ew_GM X.2.1) E) {Q : Int32 → ew_M → Prop} {s1 : ew_M} (h : wX5_statementTold Q s1) : Met l yX5_statementTold wsX5_statementTold ({ frames := 3, cells := 0, slots := 0, locals := 72 } : Room) (va_Pc [.ref (X.2.1 50)] (ew_wd X (E s1))) (va_Qi (fun (r : Int32) (u : ew_M) => Q r u) (fun (u : ew_M) => ew_wd X ((fun (u : ew_M) => E u) u)) X.2.2.1) 0 0 X.2.2.1 := by
  refine ew_met (As := [.ref (X.2.1 50)]) (L0 := [(0, .ref (X.2.1 50))]) X l hX (by decide) rfl rfl rfl rfl (fun C hl Z hR => ?_)
  subst hl
  refine ez_bipush (pc := 0) Z dX5_statementTold_0 eb_9 ?_
  refine ez_aload_n (pc := 2) Z dX5_statementTold_2 0 rfl rfl ?_
  refine fX5_told (pc := 3) (v := s1.1 23) Z hE1 rfl inX5_statementTold (List.mem_of_getElem? (i := 1) rfl) dX5_statementTold_3 ?_
  refine ez_imul (pc := 6) Z dX5_statementTold_6 ?_
  refine ez_istore_n (pc := 7) (L' := [(1, .int ((9 : Int32) * (s1.1 23))), (0, .ref (X.2.1 50))]) Z dX5_statementTold_7 rfl (by decide) rfl ?_
  refine ez_aload_n (pc := 8) Z dX5_statementTold_8 1 rfl rfl ?_
  refine fX5_begins (pc := 9) (M := s1) Z hE1 inX5_statementTold (List.mem_of_getElem? (i := 2) rfl) dX5_statementTold_9 ?_
  refine ez_aload_n (pc := 12) Z dX5_statementTold_12 1 rfl rfl ?_
  refine fX5_told (pc := 13) (v := s1.1 23) Z hE1 rfl inX5_statementTold (List.mem_of_getElem? (i := 1) rfl) dX5_statementTold_13 ?_
  refine ez_aload_n (pc := 16) Z dX5_statementTold_16 1 rfl rfl ?_
  refine fX5_at0 (pc := 17) (v := s1.1 28) Z hE1 rfl inX5_statementTold (List.mem_of_getElem? (i := 3) rfl) dX5_statementTold_17 ?_
  refine ez_iast (pc := 20) (n := 32) (a := 15) (M := s1) (M' := ew_sA s1 15 (s1.1 23).toNatClampNeg (s1.1 28)) Z hE1 16 rfl (by decide : 15 < 36) rfl rfl h.1 dX5_statementTold_20 ?_
  replace h := h.2
  refine ez_aload_n (pc := 21) Z dX5_statementTold_21 1 rfl rfl ?_
  refine ez_callVi (pc := 22) (r := 50) (As := []) (st := []) Z (kX5_sign Z.2.2.2.2.2.2.2.2.2.1 (E := E) hE1 h) gX5_statementTold_X5_sign rfl rfl rfl hdX5_sign rfl rfl (by decide) (ew_oM hE1 _) rfl rfl rfl rfl dX5_statementTold_22 (fun r1 u2 h => ?_)
  refine ez_istore_n (pc := 25) (L' := [(2, .int r1), (1, .int ((9 : Int32) * (s1.1 23))), (0, .ref (X.2.1 50))]) Z dX5_statementTold_25 rfl (by decide) rfl ?_
  refine ez_aload_n (pc := 26) Z dX5_statementTold_26 2 rfl rfl ?_
  refine fX5_which (pc := 27) (M := ew_sA s1 15 (s1.1 23).toNatClampNeg (s1.1 28)) Z hE1 inX5_statementTold (List.mem_of_getElem? (i := 4) rfl) dX5_statementTold_27 ?_
  refine ez_aload_n (pc := 30) Z dX5_statementTold_30 2 rfl rfl ?_
  refine fX5_told (pc := 31) (v := s1.1 23) Z hE1 rfl inX5_statementTold (List.mem_of_getElem? (i := 1) rfl) dX5_statementTold_31 ?_
  refine ez_iload_n (pc := 34) Z dX5_statementTold_34 0 rfl rfl ?_
  refine ez_bipush (pc := 35) Z dX5_statementTold_35 eb_112 ?_
  refine ez_icmp_ne (pc := 37) (tgt := 44) Z dX5_statementTold_37 rfl (fun c3 => ?_) (fun c3 => ?_)
  · replace h := h.1 c3
    refine ez_iload_n (pc := 44) Z dX5_statementTold_44 0 rfl rfl ?_
    refine ez_bipush (pc := 45) Z dX5_statementTold_45 eb_97 ?_
    refine ez_icmp_ne (pc := 47) (tgt := 54) Z dX5_statementTold_47 rfl (fun c4 => ?_) (fun c4 => ?_)
    · replace h := h.1 c4
      refine ez_iload_n (pc := 54) Z dX5_statementTold_54 0 rfl rfl ?_
      refine ez_bipush (pc := 55) Z dX5_statementTold_55 eb_108 ?_
      refine ez_icmp_ne (pc := 57) (tgt := 64) Z dX5_statementTold_57 rfl (fun c5 => ?_) (fun c5 => ?_)
      · replace h := h.1 c5
        refine ez_iload_n (pc := 64) Z dX5_statementTold_64 0 rfl rfl ?_
        refine ez_bipush (pc := 65) Z dX5_statementTold_65 eb_99 ?_
        refine ez_icmp_ne (pc := 67) (tgt := 74) Z dX5_statementTold_67 rfl (fun c6 => ?_) (fun c6 => ?_)
        · replace h := h.1 c6
          refine ez_iconst (pc := 74) Z dX5_statementTold_74 ec_m1 ?_
          refine ez_sub [(0, .ref (X.2.1 50)), (1, .int ((9 : Int32) * (s1.1 23))), (2, .int r1)] [2, 1, 0] rfl ?_
          exact tX5_statementTold_75 hE1 Z hR  h
        · replace h := h.2 c6
          refine ez_iconst (pc := 70) Z dX5_statementTold_70 ec_3 ?_
          refine ez_goto (pc := 71) (tgt := 75) Z dX5_statementTold_71 rfl ?_
          refine ez_sub [(0, .ref (X.2.1 50)), (1, .int ((9 : Int32) * (s1.1 23))), (2, .int r1)] [2, 1, 0] rfl ?_
          exact tX5_statementTold_75 hE1 Z hR  h
      · replace h := h.2 c5
        refine ez_iconst (pc := 60) Z dX5_statementTold_60 ec_2 ?_
        refine ez_goto (pc := 61) (tgt := 75) Z dX5_statementTold_61 rfl ?_
        refine ez_sub [(0, .ref (X.2.1 50)), (1, .int ((9 : Int32) * (s1.1 23))), (2, .int r1)] [2, 1, 0] rfl ?_
        exact tX5_statementTold_75 hE1 Z hR  h
    · replace h := h.2 c4
      refine ez_iconst (pc := 50) Z dX5_statementTold_50 ec_1 ?_
      refine ez_goto (pc := 51) (tgt := 75) Z dX5_statementTold_51 rfl ?_
      refine ez_sub [(0, .ref (X.2.1 50)), (1, .int ((9 : Int32) * (s1.1 23))), (2, .int r1)] [2, 1, 0] rfl ?_
      exact tX5_statementTold_75 hE1 Z hR  h
  · replace h := h.2 c3
    refine ez_iconst (pc := 40) Z dX5_statementTold_40 ec_0 ?_
    refine ez_goto (pc := 41) (tgt := 75) Z dX5_statementTold_41 rfl ?_
    refine ez_sub [(0, .ref (X.2.1 50)), (1, .int ((9 : Int32) * (s1.1 23))), (2, .int r1)] [2, 1, 0] rfl ?_
    exact tX5_statementTold_75 hE1 Z hR  h
theorem inX5_wrongOne : ∀ w ∈ wsX50, w ∈ wsX5_wrongOne := fun _ h => List.mem_cons_of_mem _ (List.mem_append_right _ (h))
theorem hdX5_wrongOne : yX5_wrongOne.cls = RX5 ∧ yX5_wrongOne.cls ≠ "java/lang/invoke/MethodHandle" ∧ yX5_wrongOne.cls ≠ "java/lang/invoke/VarHandle" ∧ (parseMethodDescriptor yX5_wrongOne.desc).map (fun d => d.parameters.length) = some 0 := by decide +kernel
def wX5_wrongOne_155 (R12 : Int32 × Int32 × Int32 → Prop) (Q : Int32 → Prop) (v1 : Int32) (v2 : Int32) (v3 : Int32) (v5 : Int32) (s1 : ew_M) : Prop := (¬ v5 = 0 → R12 (v1, v2, v3 + (1 : Int32))) ∧ (v5 = 0 → Q v3 )
def wX5_wrongOne_49 (R12 : Int32 × Int32 × Int32 → Prop) (Q : Int32 → Prop) (v1 : Int32) (v2 : Int32) (v3 : Int32) (t0 : Int32) (s1 : ew_M) : Prop := wX5_wrongOne_155 R12 Q (v1 + (1 : Int32)) v2 v3 t0 s1
def wX5_wrongOne_114 (R12 : Int32 × Int32 × Int32 → Prop) (Q : Int32 → Prop) (v1 : Int32) (v2 : Int32) (v3 : Int32) (t0 : Int32) (s1 : ew_M) : Prop := wX5_wrongOne_155 R12 Q v1 (v2 + (1 : Int32)) v3 t0 s1
def wX5_wrongOne_113 (R12 : Int32 × Int32 × Int32 → Prop) (Q : Int32 → Prop) (v1 : Int32) (v2 : Int32) (v3 : Int32) (s1 : ew_M) : Prop := wX5_wrongOne_114 R12 Q v1 v2 v3 (0 : Int32) s1
def wX5_wrongOne_153 (R12 : Int32 × Int32 × Int32 → Prop) (Q : Int32 → Prop) (v1 : Int32) (v2 : Int32) (v3 : Int32) (t0 : Int32) (s1 : ew_M) : Prop := wX5_wrongOne_155 R12 Q v1 v2 v3 t0 s1
def wX5_wrongOne_145 (R12 : Int32 × Int32 × Int32 → Prop) (Q : Int32 → Prop) (v1 : Int32) (v2 : Int32) (v3 : Int32) (t0 : Int32) (t1 : Int32) (s1 : ew_M) : Prop := (t0 < t1 → wX5_wrongOne_153 R12 Q v1 v2 v3 (0 : Int32) s1) ∧ (¬ t0 < t1 → wX5_wrongOne_153 R12 Q v1 v2 v3 (1 : Int32) s1)
def wX5_wrongOne_12 (R12 : Int32 × Int32 × Int32 → Prop) (Q : Int32 → Prop) (v1 : Int32) (v2 : Int32) (v3 : Int32) (s1 : ew_M) : Prop := ((s1.1 23) ≤ v3 → Q (s1.1 23) ) ∧ (¬ (s1.1 23) ≤ v3 → vp_in v3 32 ∧ ((¬ (s1.2.1 16 v3.toNatClampNeg) = 0 → vp_in v3 32 ∧ ((¬ (s1.2.1 16 v3.toNatClampNeg) = (1 : Int32) → vp_in ((9 : Int32) * v3) 288 ∧ (vp_in v3 32 ∧ ((¬ (s1.2.1 16 v3.toNatClampNeg) = (2 : Int32) → wX5_wrongOne_145 R12 Q v1 v2 v3 (100 : Int32) (s1.2.1 17 ((9 : Int32) * v3).toNatClampNeg) s1) ∧ ((s1.2.1 16 v3.toNatClampNeg) = (2 : Int32) → wX5_wrongOne_145 R12 Q v1 v2 v3 (4 : Int32) (s1.2.1 17 ((9 : Int32) * v3).toNatClampNeg) s1)))) ∧ ((s1.2.1 16 v3.toNatClampNeg) = (1 : Int32) → ((5 : Int32) ≤ v2 → wX5_wrongOne_113 R12 Q v1 v2 v3 s1) ∧ (¬ (5 : Int32) ≤ v2 → vp_in (((9 : Int32) * v3) + (1 : Int32)) 288 ∧ ((v1 ≤ (s1.2.1 17 (((9 : Int32) * v3) + (1 : Int32)).toNatClampNeg) → wX5_wrongOne_113 R12 Q v1 v2 v3 s1) ∧ (¬ v1 ≤ (s1.2.1 17 (((9 : Int32) * v3) + (1 : Int32)).toNatClampNeg) → vp_in (((9 : Int32) * v3) + (2 : Int32)) 288 ∧ (vp_in (((9 : Int32) * v3) + (3 : Int32)) 288 ∧ (((100 : Int32) < ((s1.2.1 17 (((9 : Int32) * v3) + (2 : Int32)).toNatClampNeg) + (s1.2.1 17 (((9 : Int32) * v3) + (3 : Int32)).toNatClampNeg)) → wX5_wrongOne_113 R12 Q v1 v2 v3 s1) ∧ (¬ (100 : Int32) < ((s1.2.1 17 (((9 : Int32) * v3) + (2 : Int32)).toNatClampNeg) + (s1.2.1 17 (((9 : Int32) * v3) + (3 : Int32)).toNatClampNeg)) → wX5_wrongOne_114 R12 Q v1 v2 v3 (1 : Int32) s1))))))))) ∧ ((s1.2.1 16 v3.toNatClampNeg) = 0 → ((6 : Int32) ≤ v1 → wX5_wrongOne_49 R12 Q v1 v2 v3 (0 : Int32) s1) ∧ (¬ (6 : Int32) ≤ v1 → wX5_wrongOne_49 R12 Q v1 v2 v3 (1 : Int32) s1))))
def wX5_wrongOne (Q : Int32 → Prop) (s1 : ew_M) : Prop := ew_lp (fun (R : Int32 × Int32 × Int32 → Prop) (x : Int32 × Int32 × Int32) => wX5_wrongOne_12 R Q x.1 x.2.1 x.2.2 s1) ((s1.1 0), (s1.1 5), (0 : Int32))
set_option maxHeartbeats 4000000 in
set_option maxRecDepth 100000 in
theorem tX5_wrongOne_155 {C : ew_C} {X : ew_X} {E : ew_M → ew_S} (hE1 : ew_GE X 50 (ew_GM X.2.1) E) (Z : ew_Z C X cX5_wrongOne 6 RX5 wsX5_wrongOne ({ frames := 0, cells := 0, slots := 0, locals := 0 } : Room) (some .int)) {Q : Int32 → Prop} {R12 : Int32 × Int32 × Int32 → Prop} {v1 : Int32} {v2 : Int32} {v3 : Int32} {v5 : Int32} {s1 : ew_M} (hR : C.2.2.2.2.2.2.2.2.2.2 = MQ C.2.2.2.2.2.2.2.1 (va_Qi (fun (r : Int32) (_ : Unit) => Q r) (fun (u : Unit) => ew_wd X ((fun (_ : Unit) => E s1) u)) X.2.2.1) C.2.2.2.2.2.2.1 C.2.2.2.2.1 0 0 X.2.2.1) (hR12 : ∀ x : Int32 × Int32 × Int32, R12 x → ew_W C X 6 (E s1) 12 [(0, .ref (X.2.1 50)), (1, .int x.1), (2, .int x.2.1), (3, .int x.2.2)] []) (h : wX5_wrongOne_155 R12 Q v1 v2 v3 v5 s1) : ew_W C X 6 (E s1) 155 [(0, .ref (X.2.1 50)), (1, .int v1), (2, .int v2), (3, .int v3), (5, .int v5)] [] := by
  refine ez_iload (pc := 155) Z dX5_wrongOne_155 4 rfl ?_
  refine ez_if_ne (pc := 157) (tgt := 162) Z dX5_wrongOne_157 rfl (fun c1 => ?_) (fun c1 => ?_)
  · replace h := h.1 c1
    refine ez_iinc (pc := 162) (L' := [(3, .int (v3 + (1 : Int32))), (0, .ref (X.2.1 50)), (1, .int v1), (2, .int v2), (5, .int v5)]) Z dX5_wrongOne_162 3 rfl (ei_1 _) (by decide) rfl ?_
    refine ez_goto (pc := 165) (tgt := 12) Z dX5_wrongOne_165 rfl ?_
    refine ez_sub [(0, .ref (X.2.1 50)), (1, .int v1), (2, .int v2), (3, .int (v3 + (1 : Int32)))] [1, 2, 3, 0] rfl ?_
    exact hR12 _ h
  · replace h := h.2 c1
    refine ez_iload_n (pc := 160) Z dX5_wrongOne_160 3 rfl rfl ?_
    exact ez_iret (pc := 161) Z hR () h rfl dX5_wrongOne_161
set_option maxHeartbeats 4000000 in
set_option maxRecDepth 100000 in
theorem tX5_wrongOne_49 {C : ew_C} {X : ew_X} {E : ew_M → ew_S} (hE1 : ew_GE X 50 (ew_GM X.2.1) E) (Z : ew_Z C X cX5_wrongOne 6 RX5 wsX5_wrongOne ({ frames := 0, cells := 0, slots := 0, locals := 0 } : Room) (some .int)) {Q : Int32 → Prop} {R12 : Int32 × Int32 × Int32 → Prop} {v1 : Int32} {v2 : Int32} {v3 : Int32} {t0 : Int32} {s1 : ew_M} (hR : C.2.2.2.2.2.2.2.2.2.2 = MQ C.2.2.2.2.2.2.2.1 (va_Qi (fun (r : Int32) (_ : Unit) => Q r) (fun (u : Unit) => ew_wd X ((fun (_ : Unit) => E s1) u)) X.2.2.1) C.2.2.2.2.2.2.1 C.2.2.2.2.1 0 0 X.2.2.1) (hR12 : ∀ x : Int32 × Int32 × Int32, R12 x → ew_W C X 6 (E s1) 12 [(0, .ref (X.2.1 50)), (1, .int x.1), (2, .int x.2.1), (3, .int x.2.2)] []) (h : wX5_wrongOne_49 R12 Q v1 v2 v3 t0 s1) : ew_W C X 6 (E s1) 49 [(0, .ref (X.2.1 50)), (1, .int v1), (2, .int v2), (3, .int v3)] [.int t0] := by
  refine ez_istore (pc := 49) (L' := [(5, .int t0), (0, .ref (X.2.1 50)), (1, .int v1), (2, .int v2), (3, .int v3)]) Z dX5_wrongOne_49 (by decide) rfl ?_
  refine ez_iinc (pc := 51) (L' := [(1, .int (v1 + (1 : Int32))), (5, .int t0), (0, .ref (X.2.1 50)), (2, .int v2), (3, .int v3)]) Z dX5_wrongOne_51 2 rfl (ei_1 _) (by decide) rfl ?_
  refine ez_goto (pc := 54) (tgt := 155) Z dX5_wrongOne_54 rfl ?_
  refine ez_sub [(0, .ref (X.2.1 50)), (1, .int (v1 + (1 : Int32))), (2, .int v2), (3, .int v3), (5, .int t0)] [2, 0, 3, 4, 1] rfl ?_
  exact tX5_wrongOne_155 hE1 Z hR hR12 h
set_option maxHeartbeats 4000000 in
set_option maxRecDepth 100000 in
theorem tX5_wrongOne_114 {C : ew_C} {X : ew_X} {E : ew_M → ew_S} (hE1 : ew_GE X 50 (ew_GM X.2.1) E) (Z : ew_Z C X cX5_wrongOne 6 RX5 wsX5_wrongOne ({ frames := 0, cells := 0, slots := 0, locals := 0 } : Room) (some .int)) {Q : Int32 → Prop} {R12 : Int32 × Int32 × Int32 → Prop} {v1 : Int32} {v2 : Int32} {v3 : Int32} {t0 : Int32} {s1 : ew_M} (hR : C.2.2.2.2.2.2.2.2.2.2 = MQ C.2.2.2.2.2.2.2.1 (va_Qi (fun (r : Int32) (_ : Unit) => Q r) (fun (u : Unit) => ew_wd X ((fun (_ : Unit) => E s1) u)) X.2.2.1) C.2.2.2.2.2.2.1 C.2.2.2.2.1 0 0 X.2.2.1) (hR12 : ∀ x : Int32 × Int32 × Int32, R12 x → ew_W C X 6 (E s1) 12 [(0, .ref (X.2.1 50)), (1, .int x.1), (2, .int x.2.1), (3, .int x.2.2)] []) (h : wX5_wrongOne_114 R12 Q v1 v2 v3 t0 s1) : ew_W C X 6 (E s1) 114 [(0, .ref (X.2.1 50)), (1, .int v1), (2, .int v2), (3, .int v3)] [.int t0] := by
  refine ez_istore (pc := 114) (L' := [(5, .int t0), (0, .ref (X.2.1 50)), (1, .int v1), (2, .int v2), (3, .int v3)]) Z dX5_wrongOne_114 (by decide) rfl ?_
  refine ez_iinc (pc := 116) (L' := [(2, .int (v2 + (1 : Int32))), (5, .int t0), (0, .ref (X.2.1 50)), (1, .int v1), (3, .int v3)]) Z dX5_wrongOne_116 3 rfl (ei_1 _) (by decide) rfl ?_
  refine ez_goto (pc := 119) (tgt := 155) Z dX5_wrongOne_119 rfl ?_
  refine ez_sub [(0, .ref (X.2.1 50)), (1, .int v1), (2, .int (v2 + (1 : Int32))), (3, .int v3), (5, .int t0)] [2, 3, 0, 4, 1] rfl ?_
  exact tX5_wrongOne_155 hE1 Z hR hR12 h
set_option maxHeartbeats 4000000 in
set_option maxRecDepth 100000 in
theorem tX5_wrongOne_113 {C : ew_C} {X : ew_X} {E : ew_M → ew_S} (hE1 : ew_GE X 50 (ew_GM X.2.1) E) (Z : ew_Z C X cX5_wrongOne 6 RX5 wsX5_wrongOne ({ frames := 0, cells := 0, slots := 0, locals := 0 } : Room) (some .int)) {Q : Int32 → Prop} {R12 : Int32 × Int32 × Int32 → Prop} {v1 : Int32} {v2 : Int32} {v3 : Int32} {s1 : ew_M} (hR : C.2.2.2.2.2.2.2.2.2.2 = MQ C.2.2.2.2.2.2.2.1 (va_Qi (fun (r : Int32) (_ : Unit) => Q r) (fun (u : Unit) => ew_wd X ((fun (_ : Unit) => E s1) u)) X.2.2.1) C.2.2.2.2.2.2.1 C.2.2.2.2.1 0 0 X.2.2.1) (hR12 : ∀ x : Int32 × Int32 × Int32, R12 x → ew_W C X 6 (E s1) 12 [(0, .ref (X.2.1 50)), (1, .int x.1), (2, .int x.2.1), (3, .int x.2.2)] []) (h : wX5_wrongOne_113 R12 Q v1 v2 v3 s1) : ew_W C X 6 (E s1) 113 [(0, .ref (X.2.1 50)), (1, .int v1), (2, .int v2), (3, .int v3)] [] := by
  refine ez_iconst (pc := 113) Z dX5_wrongOne_113 ec_0 ?_
  exact tX5_wrongOne_114 hE1 Z hR hR12 h
set_option maxHeartbeats 4000000 in
set_option maxRecDepth 100000 in
theorem tX5_wrongOne_153 {C : ew_C} {X : ew_X} {E : ew_M → ew_S} (hE1 : ew_GE X 50 (ew_GM X.2.1) E) (Z : ew_Z C X cX5_wrongOne 6 RX5 wsX5_wrongOne ({ frames := 0, cells := 0, slots := 0, locals := 0 } : Room) (some .int)) {Q : Int32 → Prop} {R12 : Int32 × Int32 × Int32 → Prop} {v1 : Int32} {v2 : Int32} {v3 : Int32} {t0 : Int32} {s1 : ew_M} (hR : C.2.2.2.2.2.2.2.2.2.2 = MQ C.2.2.2.2.2.2.2.1 (va_Qi (fun (r : Int32) (_ : Unit) => Q r) (fun (u : Unit) => ew_wd X ((fun (_ : Unit) => E s1) u)) X.2.2.1) C.2.2.2.2.2.2.1 C.2.2.2.2.1 0 0 X.2.2.1) (hR12 : ∀ x : Int32 × Int32 × Int32, R12 x → ew_W C X 6 (E s1) 12 [(0, .ref (X.2.1 50)), (1, .int x.1), (2, .int x.2.1), (3, .int x.2.2)] []) (h : wX5_wrongOne_153 R12 Q v1 v2 v3 t0 s1) : ew_W C X 6 (E s1) 153 [(0, .ref (X.2.1 50)), (1, .int v1), (2, .int v2), (3, .int v3)] [.int t0] := by
  refine ez_istore (pc := 153) (L' := [(5, .int t0), (0, .ref (X.2.1 50)), (1, .int v1), (2, .int v2), (3, .int v3)]) Z dX5_wrongOne_153 (by decide) rfl ?_
  refine ez_sub [(0, .ref (X.2.1 50)), (1, .int v1), (2, .int v2), (3, .int v3), (5, .int t0)] [1, 2, 3, 4, 0] rfl ?_
  exact tX5_wrongOne_155 hE1 Z hR hR12 h
set_option maxHeartbeats 4000000 in
set_option maxRecDepth 100000 in
theorem tX5_wrongOne_145 {C : ew_C} {X : ew_X} {E : ew_M → ew_S} (hE1 : ew_GE X 50 (ew_GM X.2.1) E) (Z : ew_Z C X cX5_wrongOne 6 RX5 wsX5_wrongOne ({ frames := 0, cells := 0, slots := 0, locals := 0 } : Room) (some .int)) {Q : Int32 → Prop} {R12 : Int32 × Int32 × Int32 → Prop} {v1 : Int32} {v2 : Int32} {v3 : Int32} {t0 : Int32} {t1 : Int32} {s1 : ew_M} (hR : C.2.2.2.2.2.2.2.2.2.2 = MQ C.2.2.2.2.2.2.2.1 (va_Qi (fun (r : Int32) (_ : Unit) => Q r) (fun (u : Unit) => ew_wd X ((fun (_ : Unit) => E s1) u)) X.2.2.1) C.2.2.2.2.2.2.1 C.2.2.2.2.1 0 0 X.2.2.1) (hR12 : ∀ x : Int32 × Int32 × Int32, R12 x → ew_W C X 6 (E s1) 12 [(0, .ref (X.2.1 50)), (1, .int x.1), (2, .int x.2.1), (3, .int x.2.2)] []) (h : wX5_wrongOne_145 R12 Q v1 v2 v3 t0 t1 s1) : ew_W C X 6 (E s1) 145 [(0, .ref (X.2.1 50)), (1, .int v1), (2, .int v2), (3, .int v3)] [.int t0, .int t1] := by
  refine ez_icmp_gt (pc := 145) (tgt := 152) Z dX5_wrongOne_145 rfl (fun c1 => ?_) (fun c1 => ?_)
  · replace h := h.1 c1
    refine ez_iconst (pc := 152) Z dX5_wrongOne_152 ec_0 ?_
    exact tX5_wrongOne_153 hE1 Z hR hR12 h
  · replace h := h.2 c1
    refine ez_iconst (pc := 148) Z dX5_wrongOne_148 ec_1 ?_
    refine ez_goto (pc := 149) (tgt := 153) Z dX5_wrongOne_149 rfl ?_
    exact tX5_wrongOne_153 hE1 Z hR hR12 h
set_option maxHeartbeats 4000000 in
set_option maxRecDepth 100000 in
theorem tX5_wrongOne_12 {C : ew_C} {X : ew_X} {E : ew_M → ew_S} (hE1 : ew_GE X 50 (ew_GM X.2.1) E) (Z : ew_Z C X cX5_wrongOne 6 RX5 wsX5_wrongOne ({ frames := 0, cells := 0, slots := 0, locals := 0 } : Room) (some .int)) {Q : Int32 → Prop} {R12 : Int32 × Int32 × Int32 → Prop} {v1 : Int32} {v2 : Int32} {v3 : Int32} {s1 : ew_M} (hR : C.2.2.2.2.2.2.2.2.2.2 = MQ C.2.2.2.2.2.2.2.1 (va_Qi (fun (r : Int32) (_ : Unit) => Q r) (fun (u : Unit) => ew_wd X ((fun (_ : Unit) => E s1) u)) X.2.2.1) C.2.2.2.2.2.2.1 C.2.2.2.2.1 0 0 X.2.2.1) (hR12 : ∀ x : Int32 × Int32 × Int32, R12 x → ew_W C X 6 (E s1) 12 [(0, .ref (X.2.1 50)), (1, .int x.1), (2, .int x.2.1), (3, .int x.2.2)] []) (h : wX5_wrongOne_12 R12 Q v1 v2 v3 s1) : ew_W C X 6 (E s1) 12 [(0, .ref (X.2.1 50)), (1, .int v1), (2, .int v2), (3, .int v3)] [] := by
  refine ez_iload_n (pc := 12) Z dX5_wrongOne_12 3 rfl rfl ?_
  refine ez_aload_n (pc := 13) Z dX5_wrongOne_13 0 rfl rfl ?_
  refine fX5_told (pc := 14) (v := s1.1 23) Z hE1 rfl inX5_wrongOne (List.mem_of_getElem? (i := 3) rfl) dX5_wrongOne_14 ?_
  refine ez_icmp_ge (pc := 17) (tgt := 168) Z dX5_wrongOne_17 rfl (fun c1 => ?_) (fun c1 => ?_)
  · replace h := h.1 c1
    refine ez_aload_n (pc := 168) Z dX5_wrongOne_168 0 rfl rfl ?_
    refine fX5_told (pc := 169) (v := s1.1 23) Z hE1 rfl inX5_wrongOne (List.mem_of_getElem? (i := 3) rfl) dX5_wrongOne_169 ?_
    exact ez_iret (pc := 172) Z hR () h rfl dX5_wrongOne_172
  · replace h := h.2 c1
    refine ez_bipush (pc := 20) Z dX5_wrongOne_20 eb_9 ?_
    refine ez_iload_n (pc := 22) Z dX5_wrongOne_22 3 rfl rfl ?_
    refine ez_imul (pc := 23) Z dX5_wrongOne_23 ?_
    refine ez_istore (pc := 24) (L' := [(4, .int ((9 : Int32) * v3)), (0, .ref (X.2.1 50)), (1, .int v1), (2, .int v2), (3, .int v3)]) Z dX5_wrongOne_24 (by decide) rfl ?_
    refine ez_iconst (pc := 26) Z dX5_wrongOne_26 ec_1 ?_
    refine ez_istore (pc := 27) (L' := [(5, .int (1 : Int32)), (4, .int ((9 : Int32) * v3)), (0, .ref (X.2.1 50)), (1, .int v1), (2, .int v2), (3, .int v3)]) Z dX5_wrongOne_27 (by decide) rfl ?_
    refine ez_aload_n (pc := 29) Z dX5_wrongOne_29 2 rfl rfl ?_
    refine fX5_which (pc := 30) (M := s1) Z hE1 inX5_wrongOne (List.mem_of_getElem? (i := 4) rfl) dX5_wrongOne_30 ?_
    refine ez_iload_n (pc := 33) Z dX5_wrongOne_33 5 rfl rfl ?_
    refine ez_iald (pc := 34) (n := 32) (a := 16) (v := s1.2.1 16 v3.toNatClampNeg) (M := s1) Z hE1 17 rfl (by decide : 16 < 36) rfl rfl h.1 dX5_wrongOne_34 ?_
    replace h := h.2
    refine ez_if_ne (pc := 35) (tgt := 57) Z dX5_wrongOne_35 rfl (fun c2 => ?_) (fun c2 => ?_)
    · replace h := h.1 c2
      refine ez_aload_n (pc := 57) Z dX5_wrongOne_57 2 rfl rfl ?_
      refine fX5_which (pc := 58) (M := s1) Z hE1 inX5_wrongOne (List.mem_of_getElem? (i := 4) rfl) dX5_wrongOne_58 ?_
      refine ez_iload_n (pc := 61) Z dX5_wrongOne_61 5 rfl rfl ?_
      refine ez_iald (pc := 62) (n := 32) (a := 16) (v := s1.2.1 16 v3.toNatClampNeg) (M := s1) Z hE1 17 rfl (by decide : 16 < 36) rfl rfl h.1 dX5_wrongOne_62 ?_
      replace h := h.2
      refine ez_iconst (pc := 63) Z dX5_wrongOne_63 ec_1 ?_
      refine ez_icmp_ne (pc := 64) (tgt := 122) Z dX5_wrongOne_64 rfl (fun c3 => ?_) (fun c3 => ?_)
      · replace h := h.1 c3
        refine ez_aload_n (pc := 122) Z dX5_wrongOne_122 2 rfl rfl ?_
        refine fX5_numbers (pc := 123) (M := s1) Z hE1 inX5_wrongOne (List.mem_of_getElem? (i := 5) rfl) dX5_wrongOne_123 ?_
        refine ez_iload (pc := 126) Z dX5_wrongOne_126 1 rfl ?_
        refine ez_iald (pc := 128) (n := 288) (a := 17) (v := s1.2.1 17 ((9 : Int32) * v3).toNatClampNeg) (M := s1) Z hE1 18 rfl (by decide : 17 < 36) rfl rfl h.1 dX5_wrongOne_128 ?_
        replace h := h.2
        refine ez_aload_n (pc := 129) Z dX5_wrongOne_129 2 rfl rfl ?_
        refine fX5_which (pc := 130) (M := s1) Z hE1 inX5_wrongOne (List.mem_of_getElem? (i := 4) rfl) dX5_wrongOne_130 ?_
        refine ez_iload_n (pc := 133) Z dX5_wrongOne_133 5 rfl rfl ?_
        refine ez_iald (pc := 134) (n := 32) (a := 16) (v := s1.2.1 16 v3.toNatClampNeg) (M := s1) Z hE1 17 rfl (by decide : 16 < 36) rfl rfl h.1 dX5_wrongOne_134 ?_
        replace h := h.2
        refine ez_iconst (pc := 135) Z dX5_wrongOne_135 ec_2 ?_
        refine ez_icmp_ne (pc := 136) (tgt := 143) Z dX5_wrongOne_136 rfl (fun c4 => ?_) (fun c4 => ?_)
        · replace h := h.1 c4
          refine ez_bipush (pc := 143) Z dX5_wrongOne_143 eb_100 ?_
          refine ez_sub [(0, .ref (X.2.1 50)), (1, .int v1), (2, .int v2), (3, .int v3)] [2, 3, 4, 5] rfl ?_
          exact tX5_wrongOne_145 hE1 Z hR hR12 h
        · replace h := h.2 c4
          refine ez_iconst (pc := 139) Z dX5_wrongOne_139 ec_4 ?_
          refine ez_goto (pc := 140) (tgt := 145) Z dX5_wrongOne_140 rfl ?_
          refine ez_sub [(0, .ref (X.2.1 50)), (1, .int v1), (2, .int v2), (3, .int v3)] [2, 3, 4, 5] rfl ?_
          exact tX5_wrongOne_145 hE1 Z hR hR12 h
      · replace h := h.2 c3
        refine ez_iload_n (pc := 67) Z dX5_wrongOne_67 4 rfl rfl ?_
        refine ez_iconst (pc := 68) Z dX5_wrongOne_68 ec_5 ?_
        refine ez_icmp_ge (pc := 69) (tgt := 113) Z dX5_wrongOne_69 rfl (fun c5 => ?_) (fun c5 => ?_)
        · replace h := h.1 c5
          refine ez_sub [(0, .ref (X.2.1 50)), (1, .int v1), (2, .int v2), (3, .int v3)] [2, 3, 4, 5] rfl ?_
          exact tX5_wrongOne_113 hE1 Z hR hR12 h
        · replace h := h.2 c5
          refine ez_aload_n (pc := 72) Z dX5_wrongOne_72 2 rfl rfl ?_
          refine fX5_numbers (pc := 73) (M := s1) Z hE1 inX5_wrongOne (List.mem_of_getElem? (i := 5) rfl) dX5_wrongOne_73 ?_
          refine ez_iload (pc := 76) Z dX5_wrongOne_76 1 rfl ?_
          refine ez_iconst (pc := 78) Z dX5_wrongOne_78 ec_1 ?_
          refine ez_iadd (pc := 79) Z dX5_wrongOne_79 ?_
          refine ez_iald (pc := 80) (n := 288) (a := 17) (v := s1.2.1 17 (((9 : Int32) * v3) + (1 : Int32)).toNatClampNeg) (M := s1) Z hE1 18 rfl (by decide : 17 < 36) rfl rfl h.1 dX5_wrongOne_80 ?_
          replace h := h.2
          refine ez_iload_n (pc := 81) Z dX5_wrongOne_81 3 rfl rfl ?_
          refine ez_icmp_ge (pc := 82) (tgt := 113) Z dX5_wrongOne_82 rfl (fun c6 => ?_) (fun c6 => ?_)
          · replace h := h.1 c6
            refine ez_sub [(0, .ref (X.2.1 50)), (1, .int v1), (2, .int v2), (3, .int v3)] [2, 3, 4, 5] rfl ?_
            exact tX5_wrongOne_113 hE1 Z hR hR12 h
          · replace h := h.2 c6
            refine ez_aload_n (pc := 85) Z dX5_wrongOne_85 2 rfl rfl ?_
            refine fX5_numbers (pc := 86) (M := s1) Z hE1 inX5_wrongOne (List.mem_of_getElem? (i := 5) rfl) dX5_wrongOne_86 ?_
            refine ez_iload (pc := 89) Z dX5_wrongOne_89 1 rfl ?_
            refine ez_iconst (pc := 91) Z dX5_wrongOne_91 ec_2 ?_
            refine ez_iadd (pc := 92) Z dX5_wrongOne_92 ?_
            refine ez_iald (pc := 93) (n := 288) (a := 17) (v := s1.2.1 17 (((9 : Int32) * v3) + (2 : Int32)).toNatClampNeg) (M := s1) Z hE1 18 rfl (by decide : 17 < 36) rfl rfl h.1 dX5_wrongOne_93 ?_
            replace h := h.2
            refine ez_aload_n (pc := 94) Z dX5_wrongOne_94 2 rfl rfl ?_
            refine fX5_numbers (pc := 95) (M := s1) Z hE1 inX5_wrongOne (List.mem_of_getElem? (i := 5) rfl) dX5_wrongOne_95 ?_
            refine ez_iload (pc := 98) Z dX5_wrongOne_98 1 rfl ?_
            refine ez_iconst (pc := 100) Z dX5_wrongOne_100 ec_3 ?_
            refine ez_iadd (pc := 101) Z dX5_wrongOne_101 ?_
            refine ez_iald (pc := 102) (n := 288) (a := 17) (v := s1.2.1 17 (((9 : Int32) * v3) + (3 : Int32)).toNatClampNeg) (M := s1) Z hE1 18 rfl (by decide : 17 < 36) rfl rfl h.1 dX5_wrongOne_102 ?_
            replace h := h.2
            refine ez_iadd (pc := 103) Z dX5_wrongOne_103 ?_
            refine ez_bipush (pc := 104) Z dX5_wrongOne_104 eb_100 ?_
            refine ez_icmp_gt (pc := 106) (tgt := 113) Z dX5_wrongOne_106 rfl (fun c7 => ?_) (fun c7 => ?_)
            · replace h := h.1 c7
              refine ez_sub [(0, .ref (X.2.1 50)), (1, .int v1), (2, .int v2), (3, .int v3)] [2, 3, 4, 5] rfl ?_
              exact tX5_wrongOne_113 hE1 Z hR hR12 h
            · replace h := h.2 c7
              refine ez_iconst (pc := 109) Z dX5_wrongOne_109 ec_1 ?_
              refine ez_goto (pc := 110) (tgt := 114) Z dX5_wrongOne_110 rfl ?_
              refine ez_sub [(0, .ref (X.2.1 50)), (1, .int v1), (2, .int v2), (3, .int v3)] [2, 3, 4, 5] rfl ?_
              exact tX5_wrongOne_114 hE1 Z hR hR12 h
    · replace h := h.2 c2
      refine ez_iload_n (pc := 38) Z dX5_wrongOne_38 3 rfl rfl ?_
      refine ez_bipush (pc := 39) Z dX5_wrongOne_39 eb_6 ?_
      refine ez_icmp_ge (pc := 41) (tgt := 48) Z dX5_wrongOne_41 rfl (fun c8 => ?_) (fun c8 => ?_)
      · replace h := h.1 c8
        refine ez_iconst (pc := 48) Z dX5_wrongOne_48 ec_0 ?_
        refine ez_sub [(0, .ref (X.2.1 50)), (1, .int v1), (2, .int v2), (3, .int v3)] [2, 3, 4, 5] rfl ?_
        exact tX5_wrongOne_49 hE1 Z hR hR12 h
      · replace h := h.2 c8
        refine ez_iconst (pc := 44) Z dX5_wrongOne_44 ec_1 ?_
        refine ez_goto (pc := 45) (tgt := 49) Z dX5_wrongOne_45 rfl ?_
        refine ez_sub [(0, .ref (X.2.1 50)), (1, .int v1), (2, .int v2), (3, .int v3)] [2, 3, 4, 5] rfl ?_
        exact tX5_wrongOne_49 hE1 Z hR hR12 h
set_option maxHeartbeats 4000000 in
set_option maxRecDepth 100000 in
theorem kX5_wrongOne {X : ew_X} {l : Launch} (hX : ew_Ap X) {E : ew_M → ew_S} (hE1 : ew_GE X 50 (ew_GM X.2.1) E) {Q : Int32 → Prop} {s1 : ew_M} (h : wX5_wrongOne Q s1) : Met l yX5_wrongOne wsX5_wrongOne ({ frames := 0, cells := 0, slots := 0, locals := 0 } : Room) (va_Pc [.ref (X.2.1 50)] (ew_wd X (E s1))) (va_Qi (fun (r : Int32) (_ : Unit) => Q r) (fun (u : Unit) => ew_wd X ((fun (_ : Unit) => E s1) u)) X.2.2.1) 0 0 X.2.2.1 := by
  refine ew_met (As := [.ref (X.2.1 50)]) (L0 := [(0, .ref (X.2.1 50))]) X l hX (by decide) rfl rfl rfl rfl (fun C hl Z hR => ?_)
  subst hl
  refine ez_aload_n (pc := 0) Z dX5_wrongOne_0 0 rfl rfl ?_
  refine fX5_persons (pc := 1) (v := s1.1 0) Z hE1 rfl inX5_wrongOne (List.mem_of_getElem? (i := 1) rfl) dX5_wrongOne_1 ?_
  refine ez_istore_n (pc := 4) (L' := [(1, .int (s1.1 0)), (0, .ref (X.2.1 50))]) Z dX5_wrongOne_4 rfl (by decide) rfl ?_
  refine ez_aload_n (pc := 5) Z dX5_wrongOne_5 1 rfl rfl ?_
  refine fX5_papers (pc := 6) (v := s1.1 5) Z hE1 rfl inX5_wrongOne (List.mem_of_getElem? (i := 2) rfl) dX5_wrongOne_6 ?_
  refine ez_istore_n (pc := 9) (L' := [(2, .int (s1.1 5)), (1, .int (s1.1 0)), (0, .ref (X.2.1 50))]) Z dX5_wrongOne_9 rfl (by decide) rfl ?_
  refine ez_iconst (pc := 10) Z dX5_wrongOne_10 ec_0 ?_
  refine ez_istore_n (pc := 11) (L' := [(3, .int (0 : Int32)), (2, .int (s1.1 5)), (1, .int (s1.1 0)), (0, .ref (X.2.1 50))]) Z dX5_wrongOne_11 rfl (by decide) rfl ?_
  refine ez_sub [(0, .ref (X.2.1 50)), (1, .int (s1.1 0)), (2, .int (s1.1 5)), (3, .int (0 : Int32))] [3, 2, 1, 0] rfl ?_
  exact ew_ind (P := fun (x : Int32 × Int32 × Int32) => ew_W C X 6 (E s1) 12 [(0, .ref (X.2.1 50)), (1, .int x.1), (2, .int x.2.1), (3, .int x.2.2)] []) (fun R hR9 x h => tX5_wrongOne_12 hE1 Z hR  hR9 h) h
theorem hdX5_common : yX5_common.cls ≠ "java/lang/invoke/MethodHandle" ∧ yX5_common.cls ≠ "java/lang/invoke/VarHandle" ∧ (parseMethodDescriptor yX5_common.desc).map (fun d => d.parameters.length) = some 2 := by decide +kernel
def wX5_common_28 (R28 : Int64 × Int64 → Prop) (Q : Int64 → Prop) (v4 : Int64) (v6 : Int64) : Prop := ((lg_cmp v6 (0 : Int64)) = 0 → Q v4 ) ∧ (¬ (lg_cmp v6 (0 : Int64)) = 0 → (¬ v6 = 0) ∧ (R28 (v6, v4 - v4 / v6 * v6)))
def wX5_common_26  (Q : Int64 → Prop) (v4 : Int64) (t0 : Int64) : Prop := ew_lp (fun (R : Int64 × Int64 → Prop) (x : Int64 × Int64) => wX5_common_28 R Q x.1 x.2) (v4, t0)
def wX5_common_12  (Q : Int64 → Prop) (v2 : Int64) (t0 : Int64) : Prop := (0 ≤ (lg_cmp v2 (0 : Int64)) → wX5_common_26 Q t0 v2) ∧ (¬ 0 ≤ (lg_cmp v2 (0 : Int64)) → wX5_common_26 Q t0 (-v2))
def wX5_common (Q : Int64 → Prop) (p1 : Int64) (p2 : Int64) : Prop := (0 ≤ (lg_cmp p1 (0 : Int64)) → wX5_common_12 Q p2 p1) ∧ (¬ 0 ≤ (lg_cmp p1 (0 : Int64)) → wX5_common_12 Q p2 (-p1))
set_option maxHeartbeats 4000000 in
set_option maxRecDepth 100000 in
theorem tX5_common_28 {C : ew_C} {X : ew_X} {S : ew_S} (Z : ew_Z C X cX5_common 10 RX5 wsX5_common ({ frames := 0, cells := 0, slots := 0, locals := 0 } : Room) (some .long)) {Q : Int64 → Prop} {R28 : Int64 × Int64 → Prop} {v4 : Int64} {v6 : Int64} (hR : C.2.2.2.2.2.2.2.2.2.2 = MQ C.2.2.2.2.2.2.2.1 (va_Ql (fun (r : Int64) (_ : Unit) => Q r) (fun (u : Unit) => ew_wd X ((fun (_ : Unit) => S) u)) X.2.2.1) C.2.2.2.2.2.2.1 C.2.2.2.2.1 0 0 X.2.2.1) (hR28 : ∀ x : Int64 × Int64, R28 x → ew_W C X 10 (S) 28 [(4, .long x.1), (6, .long x.2)] []) (h : wX5_common_28 R28 Q v4 v6) : ew_W C X 10 (S) 28 [(4, .long v4), (6, .long v6)] [] := by
  refine ez_lload (pc := 28) Z dX5_common_28 1 rfl ?_
  refine ez_lconst (pc := 30) Z dX5_common_30 el_0 ?_
  refine ez_lcmp (pc := 31) Z dX5_common_31 ?_
  refine ez_if_eq (pc := 32) (tgt := 53) Z dX5_common_32 rfl (fun c1 => ?_) (fun c1 => ?_)
  · replace h := h.1 c1
    refine ez_lload (pc := 53) Z dX5_common_53 0 rfl ?_
    exact ez_lret (pc := 55) Z hR () h rfl dX5_common_55
  · replace h := h.2 c1
    refine ez_lload (pc := 35) Z dX5_common_35 0 rfl ?_
    refine ez_lload (pc := 37) Z dX5_common_37 1 rfl ?_
    refine ez_lrem (pc := 39) Z dX5_common_39 h.1 ?_
    replace h := h.2
    refine ez_lstore (pc := 40) (L' := [(8, .long (v4 - v4 / v6 * v6)), (4, .long v4), (6, .long v6)]) Z dX5_common_40 (by decide) rfl ?_
    refine ez_lload (pc := 42) Z dX5_common_42 2 rfl ?_
    refine ez_lstore (pc := 44) (L' := [(4, .long v6), (8, .long (v4 - v4 / v6 * v6)), (6, .long v6)]) Z dX5_common_44 (by decide) rfl ?_
    refine ez_lload (pc := 46) Z dX5_common_46 1 rfl ?_
    refine ez_lstore (pc := 48) (L' := [(6, .long (v4 - v4 / v6 * v6)), (4, .long v6), (8, .long (v4 - v4 / v6 * v6))]) Z dX5_common_48 (by decide) rfl ?_
    refine ez_goto (pc := 50) (tgt := 28) Z dX5_common_50 rfl ?_
    refine ez_sub [(4, .long v6), (6, .long (v4 - v4 / v6 * v6))] [1, 0] rfl ?_
    exact hR28 _ h
set_option maxHeartbeats 4000000 in
set_option maxRecDepth 100000 in
theorem tX5_common_26 {C : ew_C} {X : ew_X} {S : ew_S} (Z : ew_Z C X cX5_common 10 RX5 wsX5_common ({ frames := 0, cells := 0, slots := 0, locals := 0 } : Room) (some .long)) {Q : Int64 → Prop}  {v4 : Int64} {t0 : Int64} (hR : C.2.2.2.2.2.2.2.2.2.2 = MQ C.2.2.2.2.2.2.2.1 (va_Ql (fun (r : Int64) (_ : Unit) => Q r) (fun (u : Unit) => ew_wd X ((fun (_ : Unit) => S) u)) X.2.2.1) C.2.2.2.2.2.2.1 C.2.2.2.2.1 0 0 X.2.2.1) (h : wX5_common_26 Q v4 t0) : ew_W C X 10 (S) 26 [(4, .long v4)] [.long t0] := by
  refine ez_lstore (pc := 26) (L' := [(6, .long t0), (4, .long v4)]) Z dX5_common_26 (by decide) rfl ?_
  refine ez_sub [(4, .long v4), (6, .long t0)] [1, 0] rfl ?_
  exact ew_ind (P := fun (x : Int64 × Int64) => ew_W C X 10 (S) 28 [(4, .long x.1), (6, .long x.2)] []) (fun R hR9 x h => tX5_common_28  Z hR  hR9 h) h
set_option maxHeartbeats 4000000 in
set_option maxRecDepth 100000 in
theorem tX5_common_12 {C : ew_C} {X : ew_X} {S : ew_S} (Z : ew_Z C X cX5_common 10 RX5 wsX5_common ({ frames := 0, cells := 0, slots := 0, locals := 0 } : Room) (some .long)) {Q : Int64 → Prop}  {v2 : Int64} {t0 : Int64} (hR : C.2.2.2.2.2.2.2.2.2.2 = MQ C.2.2.2.2.2.2.2.1 (va_Ql (fun (r : Int64) (_ : Unit) => Q r) (fun (u : Unit) => ew_wd X ((fun (_ : Unit) => S) u)) X.2.2.1) C.2.2.2.2.2.2.1 C.2.2.2.2.1 0 0 X.2.2.1) (h : wX5_common_12 Q v2 t0) : ew_W C X 10 (S) 12 [(2, .long v2)] [.long t0] := by
  refine ez_lstore (pc := 12) (L' := [(4, .long t0), (2, .long v2)]) Z dX5_common_12 (by decide) rfl ?_
  refine ez_lload_n (pc := 14) Z dX5_common_14 1 rfl rfl ?_
  refine ez_lconst (pc := 15) Z dX5_common_15 el_0 ?_
  refine ez_lcmp (pc := 16) Z dX5_common_16 ?_
  refine ez_if_ge (pc := 17) (tgt := 25) Z dX5_common_17 rfl (fun c1 => ?_) (fun c1 => ?_)
  · replace h := h.1 c1
    refine ez_lload_n (pc := 25) Z dX5_common_25 1 rfl rfl ?_
    refine ez_sub [(4, .long t0)] [0] rfl ?_
    exact tX5_common_26  Z hR  h
  · replace h := h.2 c1
    refine ez_lload_n (pc := 20) Z dX5_common_20 1 rfl rfl ?_
    refine ez_lneg (pc := 21) Z dX5_common_21 ?_
    refine ez_goto (pc := 22) (tgt := 26) Z dX5_common_22 rfl ?_
    refine ez_sub [(4, .long t0)] [0] rfl ?_
    exact tX5_common_26  Z hR  h
set_option maxHeartbeats 4000000 in
set_option maxRecDepth 100000 in
theorem kX5_common {X : ew_X} {l : Launch} (hX : ew_Ap X) {S : ew_S} {Q : Int64 → Prop} {p1 : Int64} {p2 : Int64} (h : wX5_common Q p1 p2) : Met l yX5_common wsX5_common ({ frames := 0, cells := 0, slots := 0, locals := 0 } : Room) (va_Pc [.long p1, .long p2] (ew_wd X (S))) (va_Ql (fun (r : Int64) (_ : Unit) => Q r) (fun (u : Unit) => ew_wd X ((fun (_ : Unit) => S) u)) X.2.2.1) 0 0 X.2.2.1 := by
  refine ew_met (As := [.long p1, .long p2]) (L0 := [(0, .long p1), (2, .long p2)]) X l hX (by decide) rfl rfl rfl rfl (fun C hl Z hR => ?_)
  subst hl
  refine ez_lload_n (pc := 0) Z dX5_common_0 0 rfl rfl ?_
  refine ez_lconst (pc := 1) Z dX5_common_1 el_0 ?_
  refine ez_lcmp (pc := 2) Z dX5_common_2 ?_
  refine ez_if_ge (pc := 3) (tgt := 11) Z dX5_common_3 rfl (fun c1 => ?_) (fun c1 => ?_)
  · replace h := h.1 c1
    refine ez_lload_n (pc := 11) Z dX5_common_11 0 rfl rfl ?_
    refine ez_sub [(2, .long p2)] [1] rfl ?_
    exact tX5_common_12  Z hR  h
  · replace h := h.2 c1
    refine ez_lload_n (pc := 6) Z dX5_common_6 0 rfl rfl ?_
    refine ez_lneg (pc := 7) Z dX5_common_7 ?_
    refine ez_goto (pc := 8) (tgt := 12) Z dX5_common_8 rfl ?_
    refine ez_sub [(2, .long p2)] [1] rfl ?_
    exact tX5_common_12  Z hR  h
theorem inX5_least : ∀ w ∈ wsX50, w ∈ wsX5_least := fun _ h => List.mem_cons_of_mem _ (List.mem_append_right _ (h))
theorem hdX5_least : yX5_least.cls = RX5 ∧ yX5_least.cls ≠ "java/lang/invoke/MethodHandle" ∧ yX5_least.cls ≠ "java/lang/invoke/VarHandle" ∧ (parseMethodDescriptor yX5_least.desc).map (fun d => d.parameters.length) = some 1 := by decide +kernel
def wX5_least_32 (R32 : Int32 × ew_M → Prop) (Q : ew_M → Prop) (v1 : Int32) (v2 : Int64) (v4 : Int32) (s1 : ew_M) : Prop := ((3 : Int32) ≤ v4 → Q s1) ∧ (¬ (3 : Int32) ≤ v4 → vp_in (v1 + v4) 90 ∧ ((¬ v2 = 0) ∧ (vp_in (v1 + v4) 90 ∧ (R32 (v4 + (1 : Int32), ew_sW s1 0 (v1 + v4).toNatClampNeg ((s1.2.2 0 (v1 + v4).toNatClampNeg) / v2))))))
def wX5_least (Q : ew_M → Prop) (p1 : Int32) (s1 : ew_M) : Prop := vp_in p1 90 ∧ (vp_in (p1 + (1 : Int32)) 90 ∧ (wX5_common (fun (r1 : Int64) => vp_in (p1 + (2 : Int32)) 90 ∧ (wX5_common (fun (r3 : Int64) => ew_lp (fun (R : Int32 × ew_M → Prop) (x : Int32 × ew_M) => wX5_least_32 R Q p1 r3 x.1 x.2) ((0 : Int32), s1)) r1 (s1.2.2 0 (p1 + (2 : Int32)).toNatClampNeg))) (s1.2.2 0 p1.toNatClampNeg) (s1.2.2 0 (p1 + (1 : Int32)).toNatClampNeg)))
set_option maxHeartbeats 4000000 in
set_option maxRecDepth 100000 in
theorem tX5_least_32 {C : ew_C} {X : ew_X} {E : ew_M → ew_S} (hE1 : ew_GE X 50 (ew_GM X.2.1) E) (Z : ew_Z C X cX5_least 5 RX5 wsX5_least ({ frames := 1, cells := 0, slots := 0, locals := 29 } : Room) none) {Q : ew_M → Prop} {R32 : Int32 × ew_M → Prop} {v1 : Int32} {v2 : Int64} {v4 : Int32} {s1 : ew_M} (hR : C.2.2.2.2.2.2.2.2.2.2 = MQ C.2.2.2.2.2.2.2.1 (va_Qv (fun (u : ew_M) => Q u) (fun (u : ew_M) => ew_wd X ((fun (u : ew_M) => E u) u)) X.2.2.1) C.2.2.2.2.2.2.1 C.2.2.2.2.1 0 0 X.2.2.1) (hR32 : ∀ x : Int32 × ew_M, R32 x → ew_W C X 5 (E x.2) 32 [(0, .ref (X.2.1 50)), (1, .int v1), (2, .long v2), (4, .int x.1)] []) (h : wX5_least_32 R32 Q v1 v2 v4 s1) : ew_W C X 5 (E s1) 32 [(0, .ref (X.2.1 50)), (1, .int v1), (2, .long v2), (4, .int v4)] [] := by
  refine ez_iload (pc := 32) Z dX5_least_32 3 rfl ?_
  refine ez_iconst (pc := 34) Z dX5_least_34 ec_3 ?_
  refine ez_icmp_ge (pc := 35) (tgt := 57) Z dX5_least_35 rfl (fun c1 => ?_) (fun c1 => ?_)
  · replace h := h.1 c1
    exact ez_vret (pc := 57) Z hR s1 h rfl dX5_least_57
  · replace h := h.2 c1
    refine ez_aload_n (pc := 38) Z dX5_least_38 0 rfl rfl ?_
    refine fX5_weights (pc := 39) (M := s1) Z hE1 inX5_least (List.mem_of_getElem? (i := 1) rfl) dX5_least_39 ?_
    refine ez_iload_n (pc := 42) Z dX5_least_42 1 rfl rfl ?_
    refine ez_iload (pc := 43) Z dX5_least_43 3 rfl ?_
    refine ez_iadd (pc := 45) Z dX5_least_45 ?_
    refine ez_dup2_11 (pc := 46) Z dX5_least_46 rfl rfl ?_
    refine ez_lald (pc := 47) (n := 90) (a := 0) (v := s1.2.2 0 (v1 + v4).toNatClampNeg) (M := s1) Z hE1 37 rfl (by decide : 0 < 3) rfl rfl h.1 dX5_least_47 ?_
    replace h := h.2
    refine ez_lload_n (pc := 48) Z dX5_least_48 2 rfl rfl ?_
    refine ez_ldiv (pc := 49) Z dX5_least_49 h.1 ?_
    replace h := h.2
    refine ez_last (pc := 50) (n := 90) (a := 0) (M := s1) (M' := ew_sW s1 0 (v1 + v4).toNatClampNeg ((s1.2.2 0 (v1 + v4).toNatClampNeg) / v2)) Z hE1 37 rfl (by decide : 0 < 3) rfl (fun _ _ _ => rfl) rfl h.1 dX5_least_50 ?_
    replace h := h.2
    refine ez_iinc (pc := 51) (L' := [(4, .int (v4 + (1 : Int32))), (0, .ref (X.2.1 50)), (1, .int v1), (2, .long v2)]) Z dX5_least_51 3 rfl (ei_1 _) (by decide) rfl ?_
    refine ez_goto (pc := 54) (tgt := 32) Z dX5_least_54 rfl ?_
    refine ez_sub [(0, .ref (X.2.1 50)), (1, .int v1), (2, .long v2), (4, .int (v4 + (1 : Int32)))] [1, 2, 3, 0] rfl ?_
    exact hR32 _ h
set_option maxHeartbeats 4000000 in
set_option maxRecDepth 100000 in
theorem kX5_least {X : ew_X} {l : Launch} (hX : ew_Ap X) {E : ew_M → ew_S} (hE1 : ew_GE X 50 (ew_GM X.2.1) E) {Q : ew_M → Prop} {p1 : Int32} {s1 : ew_M} (h : wX5_least Q p1 s1) : Met l yX5_least wsX5_least ({ frames := 1, cells := 0, slots := 0, locals := 29 } : Room) (va_Pc [.ref (X.2.1 50), .int p1] (ew_wd X (E s1))) (va_Qv (fun (u : ew_M) => Q u) (fun (u : ew_M) => ew_wd X ((fun (u : ew_M) => E u) u)) X.2.2.1) 0 0 X.2.2.1 := by
  refine ew_met (As := [.ref (X.2.1 50), .int p1]) (L0 := [(0, .ref (X.2.1 50)), (1, .int p1)]) X l hX (by decide) rfl rfl rfl rfl (fun C hl Z hR => ?_)
  subst hl
  refine ez_aload_n (pc := 0) Z dX5_least_0 0 rfl rfl ?_
  refine fX5_weights (pc := 1) (M := s1) Z hE1 inX5_least (List.mem_of_getElem? (i := 1) rfl) dX5_least_1 ?_
  refine ez_iload_n (pc := 4) Z dX5_least_4 1 rfl rfl ?_
  refine ez_lald (pc := 5) (n := 90) (a := 0) (v := s1.2.2 0 p1.toNatClampNeg) (M := s1) Z hE1 37 rfl (by decide : 0 < 3) rfl rfl h.1 dX5_least_5 ?_
  replace h := h.2
  refine ez_aload_n (pc := 6) Z dX5_least_6 0 rfl rfl ?_
  refine fX5_weights (pc := 7) (M := s1) Z hE1 inX5_least (List.mem_of_getElem? (i := 1) rfl) dX5_least_7 ?_
  refine ez_iload_n (pc := 10) Z dX5_least_10 1 rfl rfl ?_
  refine ez_iconst (pc := 11) Z dX5_least_11 ec_1 ?_
  refine ez_iadd (pc := 12) Z dX5_least_12 ?_
  refine ez_lald (pc := 13) (n := 90) (a := 0) (v := s1.2.2 0 (p1 + (1 : Int32)).toNatClampNeg) (M := s1) Z hE1 37 rfl (by decide : 0 < 3) rfl rfl h.1 dX5_least_13 ?_
  replace h := h.2
  refine ez_callSl (pc := 14) (As := [.long (s1.2.2 0 p1.toNatClampNeg), .long (s1.2.2 0 (p1 + (1 : Int32)).toNatClampNeg)]) (st := []) Z (kX5_common Z.2.2.2.2.2.2.2.2.2.1 (S := E s1) h) gX5_least_X5_common rfl rfl rfl hdX5_common rfl rfl rfl rfl rfl dX5_least_14 (fun r1 u2 h => ?_)
  refine ez_aload_n (pc := 17) Z dX5_least_17 0 rfl rfl ?_
  refine fX5_weights (pc := 18) (M := s1) Z hE1 inX5_least (List.mem_of_getElem? (i := 1) rfl) dX5_least_18 ?_
  refine ez_iload_n (pc := 21) Z dX5_least_21 1 rfl rfl ?_
  refine ez_iconst (pc := 22) Z dX5_least_22 ec_2 ?_
  refine ez_iadd (pc := 23) Z dX5_least_23 ?_
  refine ez_lald (pc := 24) (n := 90) (a := 0) (v := s1.2.2 0 (p1 + (2 : Int32)).toNatClampNeg) (M := s1) Z hE1 37 rfl (by decide : 0 < 3) rfl rfl h.1 dX5_least_24 ?_
  replace h := h.2
  refine ez_callSl (pc := 25) (As := [.long r1, .long (s1.2.2 0 (p1 + (2 : Int32)).toNatClampNeg)]) (st := []) Z (kX5_common Z.2.2.2.2.2.2.2.2.2.1 (S := E s1) h) gX5_least_X5_common rfl rfl rfl hdX5_common rfl rfl rfl rfl rfl dX5_least_25 (fun r3 u4 h => ?_)
  refine ez_lstore_n (pc := 28) (L' := [(2, .long r3), (0, .ref (X.2.1 50)), (1, .int p1)]) Z dX5_least_28 rfl (by decide) rfl ?_
  refine ez_iconst (pc := 29) Z dX5_least_29 ec_0 ?_
  refine ez_istore (pc := 30) (L' := [(4, .int (0 : Int32)), (2, .long r3), (0, .ref (X.2.1 50)), (1, .int p1)]) Z dX5_least_30 (by decide) rfl ?_
  refine ez_sub [(0, .ref (X.2.1 50)), (1, .int p1), (2, .long r3), (4, .int (0 : Int32))] [2, 3, 1, 0] rfl ?_
  exact ew_ind (P := fun (x : Int32 × ew_M) => ew_W C X 5 (E x.2) 32 [(0, .ref (X.2.1 50)), (1, .int p1), (2, .long r3), (4, .int x.1)] []) (fun R hR9 x h => tX5_least_32 hE1 Z hR  hR9 h) h
theorem hdX5_fromOf : yX5_fromOf.cls ≠ "java/lang/invoke/MethodHandle" ∧ yX5_fromOf.cls ≠ "java/lang/invoke/VarHandle" ∧ (parseMethodDescriptor yX5_fromOf.desc).map (fun d => d.parameters.length) = some 2 := by decide +kernel
def wX5_fromOf (Q : Int32 → Prop) (p1 : Int32) (p2 : Int32) : Prop := Q ((3 : Int32) * (((6 : Int32) * p2) + p1)) 
set_option maxHeartbeats 4000000 in
set_option maxRecDepth 100000 in
theorem kX5_fromOf {X : ew_X} {l : Launch} (hX : ew_Ap X) {S : ew_S} {Q : Int32 → Prop} {p1 : Int32} {p2 : Int32} (h : wX5_fromOf Q p1 p2) : Met l yX5_fromOf wsX5_fromOf ({ frames := 0, cells := 0, slots := 0, locals := 0 } : Room) (va_Pc [.int p1, .int p2] (ew_wd X (S))) (va_Qi (fun (r : Int32) (_ : Unit) => Q r) (fun (u : Unit) => ew_wd X ((fun (_ : Unit) => S) u)) X.2.2.1) 0 0 X.2.2.1 := by
  refine ew_met (As := [.int p1, .int p2]) (L0 := [(0, .int p1), (1, .int p2)]) X l hX (by decide) rfl rfl rfl rfl (fun C hl Z hR => ?_)
  subst hl
  refine ez_iconst (pc := 0) Z dX5_fromOf_0 ec_3 ?_
  refine ez_bipush (pc := 1) Z dX5_fromOf_1 eb_6 ?_
  refine ez_iload_n (pc := 3) Z dX5_fromOf_3 1 rfl rfl ?_
  refine ez_imul (pc := 4) Z dX5_fromOf_4 ?_
  refine ez_iload_n (pc := 5) Z dX5_fromOf_5 0 rfl rfl ?_
  refine ez_iadd (pc := 6) Z dX5_fromOf_6 ?_
  refine ez_imul (pc := 7) Z dX5_fromOf_7 ?_
  exact ez_iret (pc := 8) Z hR () h rfl dX5_fromOf_8
theorem inX5_comes : ∀ w ∈ wsX50, w ∈ wsX5_comes := fun _ h => List.mem_cons_of_mem _ (List.mem_append_right _ (h))
theorem hdX5_comes : yX5_comes.cls = RX5 ∧ yX5_comes.cls ≠ "java/lang/invoke/MethodHandle" ∧ yX5_comes.cls ≠ "java/lang/invoke/VarHandle" ∧ (parseMethodDescriptor yX5_comes.desc).map (fun d => d.parameters.length) = some 1 := by decide +kernel
def wX5_comes_288 (R264 : Int32 × ew_M → Prop) (R288 : Int32 × ew_M → Prop) (Q : ew_M → Prop) (v3 : Int32) (v4 : Int32) (s1 : ew_M) : Prop := ((3 : Int32) ≤ v4 → wX5_fromOf (fun (r2 : Int32) => wX5_least (fun (m5 : ew_M) => R264 (v3 + (1 : Int32), m5)) r2 s1) v3 (s1.1 5)) ∧ (¬ (3 : Int32) ≤ v4 → wX5_fromOf (fun (r6 : Int32) => vp_in (((3 : Int32) * (s1.1 5)) + v4) 15 ∧ (vp_in (r6 + v4) 90 ∧ (R288 (v4 + (1 : Int32), ew_sW s1 0 (r6 + v4).toNatClampNeg ((s1.2.1 5 (((3 : Int32) * (s1.1 5)) + v4).toNatClampNeg).toInt64))))) v3 (s1.1 5))
def wX5_comes_264 (R264 : Int32 × ew_M → Prop) (Q : ew_M → Prop) (v3 : Int32) (s1 : ew_M) : Prop := ((6 : Int32) ≤ v3 → Q (ew_sI s1 5 ((s1.1 5) + (1 : Int32)))) ∧ (¬ (6 : Int32) ≤ v3 → vp_in (((6 : Int32) * (s1.1 5)) + v3) 30 ∧ (ew_lp (fun (R : Int32 × ew_M → Prop) (x : Int32 × ew_M) => wX5_comes_288 R264 R Q v3 x.1 x.2) ((0 : Int32), (ew_sA s1 11 (((6 : Int32) * (s1.1 5)) + v3).toNatClampNeg (0 : Int32)))))
def wX5_comes_186 (R186 : Int32 × ew_M → Prop) (Q : ew_M → Prop) (v2 : Int32) (v3 : Int32) (s1 : ew_M) : Prop := ((3 : Int32) ≤ v3 → vp_in (s1.1 5) 5 ∧ (vp_in (s1.1 5) 5 ∧ (vp_in (s1.1 5) 5 ∧ (vp_in (s1.1 5) 5 ∧ (∀ (z2 : ew_M), z2 = ew_sA (ew_sA (ew_sA (ew_sA s1 7 (s1.1 5).toNatClampNeg (0 : Int32)) 8 (s1.1 5).toNatClampNeg (0 : Int32)) 9 (s1.1 5).toNatClampNeg (0 : Int32)) 10 (s1.1 5).toNatClampNeg (0 : Int32) → ew_lp (fun (R : Int32 × ew_M → Prop) (x : Int32 × ew_M) => wX5_comes_264 R Q x.1 x.2) ((0 : Int32), z2)))))) ∧ (¬ (3 : Int32) ≤ v3 → vp_in ((v2 + (4 : Int32)) + v3) 288 ∧ (vp_in (((3 : Int32) * (s1.1 5)) + v3) 15 ∧ (R186 (v3 + (1 : Int32), ew_sA s1 6 (((3 : Int32) * (s1.1 5)) + v3).toNatClampNeg ((s1.2.1 17 ((v2 + (4 : Int32)) + v3).toNatClampNeg) - (4 : Int32))))))
def wX5_comes (Q : ew_M → Prop) (p1 : Int32) (s1 : ew_M) : Prop := vp_in p1 32 ∧ ((¬ (s1.2.1 16 p1.toNatClampNeg) = 0 → vp_in p1 32 ∧ ((¬ (s1.2.1 16 p1.toNatClampNeg) = (1 : Int32) → vp_in p1 32 ∧ ((¬ (s1.2.1 16 p1.toNatClampNeg) = (2 : Int32) → vp_in ((9 : Int32) * p1) 288 ∧ (Q (ew_sI s1 16 (s1.2.1 17 ((9 : Int32) * p1).toNatClampNeg)))) ∧ ((s1.2.1 16 p1.toNatClampNeg) = (2 : Int32) → vp_in ((9 : Int32) * p1) 288 ∧ (Q (ew_sI s1 15 (s1.2.1 17 ((9 : Int32) * p1).toNatClampNeg)))))) ∧ ((s1.2.1 16 p1.toNatClampNeg) = (1 : Int32) → vp_in ((9 : Int32) * p1) 288 ∧ (vp_in (s1.1 5) 5 ∧ (vp_in (((9 : Int32) * p1) + (2 : Int32)) 288 ∧ (vp_in ((3 : Int32) * (s1.1 5)) 15 ∧ (∀ (z4 : ew_M), z4 = ew_sA (ew_sA s1 4 (s1.1 5).toNatClampNeg (s1.2.1 17 ((9 : Int32) * p1).toNatClampNeg)) 5 ((3 : Int32) * (s1.1 5)).toNatClampNeg (s1.2.1 17 (((9 : Int32) * p1) + (2 : Int32)).toNatClampNeg) → vp_in (((9 : Int32) * p1) + (3 : Int32)) 288 ∧ (vp_in (((3 : Int32) * (z4.1 5)) + (1 : Int32)) 15 ∧ (vp_in (((9 : Int32) * p1) + (2 : Int32)) 288 ∧ (vp_in (((9 : Int32) * p1) + (3 : Int32)) 288 ∧ (vp_in (((3 : Int32) * (z4.1 5)) + (2 : Int32)) 15 ∧ (∀ (z5 : ew_M), z5 = ew_sA (ew_sA z4 5 (((3 : Int32) * (z4.1 5)) + (1 : Int32)).toNatClampNeg (z4.2.1 17 (((9 : Int32) * p1) + (3 : Int32)).toNatClampNeg)) 5 (((3 : Int32) * (z4.1 5)) + (2 : Int32)).toNatClampNeg (((100 : Int32) - (z4.2.1 17 (((9 : Int32) * p1) + (2 : Int32)).toNatClampNeg)) - (z4.2.1 17 (((9 : Int32) * p1) + (3 : Int32)).toNatClampNeg)) → ew_lp (fun (R : Int32 × ew_M → Prop) (x : Int32 × ew_M) => wX5_comes_186 R Q ((9 : Int32) * p1) x.1 x.2) ((0 : Int32), z5))))))))))))) ∧ ((s1.2.1 16 p1.toNatClampNeg) = 0 → vp_in ((9 : Int32) * p1) 288 ∧ (vp_in (s1.1 0) 6 ∧ (vp_in (((9 : Int32) * p1) + (1 : Int32)) 288 ∧ (vp_in (s1.1 0) 6 ∧ (∀ (z6 : ew_M), z6 = ew_sA (ew_sA s1 0 (s1.1 0).toNatClampNeg (s1.2.1 17 ((9 : Int32) * p1).toNatClampNeg)) 1 (s1.1 0).toNatClampNeg (s1.2.1 17 (((9 : Int32) * p1) + (1 : Int32)).toNatClampNeg) → vp_in (((9 : Int32) * p1) + (2 : Int32)) 288 ∧ (vp_in (z6.1 0) 6 ∧ (vp_in (z6.1 0) 6 ∧ (∀ (z7 : ew_M), z7 = ew_sI (ew_sA (ew_sA z6 2 (z6.1 0).toNatClampNeg (z6.2.1 17 (((9 : Int32) * p1) + (2 : Int32)).toNatClampNeg)) 3 (z6.1 0).toNatClampNeg (0 : Int32)) 0 ((z6.1 0) + (1 : Int32)) → Q z7)))))))))
set_option maxHeartbeats 4000000 in
set_option maxRecDepth 100000 in
theorem tX5_comes_288 {C : ew_C} {X : ew_X} {E : ew_M → ew_S} (hE1 : ew_GE X 50 (ew_GM X.2.1) E) (Z : ew_Z C X cX5_comes 5 RX5 wsX5_comes ({ frames := 2, cells := 0, slots := 0, locals := 53 } : Room) none) {Q : ew_M → Prop} {R264 : Int32 × ew_M → Prop} {R288 : Int32 × ew_M → Prop} {v3 : Int32} {v4 : Int32} {s1 : ew_M} (hR : C.2.2.2.2.2.2.2.2.2.2 = MQ C.2.2.2.2.2.2.2.1 (va_Qv (fun (u : ew_M) => Q u) (fun (u : ew_M) => ew_wd X ((fun (u : ew_M) => E u) u)) X.2.2.1) C.2.2.2.2.2.2.1 C.2.2.2.2.1 0 0 X.2.2.1) (hR264 : ∀ x : Int32 × ew_M, R264 x → ew_W C X 5 (E x.2) 264 [(0, .ref (X.2.1 50)), (3, .int x.1)] []) (hR288 : ∀ x : Int32 × ew_M, R288 x → ew_W C X 5 (E x.2) 288 [(0, .ref (X.2.1 50)), (3, .int v3), (4, .int x.1)] []) (h : wX5_comes_288 R264 R288 Q v3 v4 s1) : ew_W C X 5 (E s1) 288 [(0, .ref (X.2.1 50)), (3, .int v3), (4, .int v4)] [] := by
  refine ez_iload (pc := 288) Z dX5_comes_288 2 rfl ?_
  refine ez_iconst (pc := 290) Z dX5_comes_290 ec_3 ?_
  refine ez_icmp_ge (pc := 291) (tgt := 331) Z dX5_comes_291 rfl (fun c1 => ?_) (fun c1 => ?_)
  · replace h := h.1 c1
    refine ez_aload_n (pc := 331) Z dX5_comes_331 0 rfl rfl ?_
    refine ez_iload_n (pc := 332) Z dX5_comes_332 1 rfl rfl ?_
    refine ez_aload_n (pc := 333) Z dX5_comes_333 0 rfl rfl ?_
    refine fX5_papers (pc := 334) (v := s1.1 5) Z hE1 rfl inX5_comes (List.mem_of_getElem? (i := 9) rfl) dX5_comes_334 ?_
    refine ez_callSi (pc := 337) (As := [.int v3, .int (s1.1 5)]) (st := [.ref (X.2.1 50)]) Z (kX5_fromOf Z.2.2.2.2.2.2.2.2.2.1 (S := E s1) h) gX5_comes_X5_fromOf rfl rfl rfl hdX5_fromOf rfl rfl rfl rfl rfl dX5_comes_337 (fun r2 u3 h => ?_)
    refine ez_callVv (pc := 340) (r := 50) (As := [.int r2]) (st := []) Z (kX5_least Z.2.2.2.2.2.2.2.2.2.1 (E := E) hE1 h) gX5_comes_X5_least rfl rfl rfl hdX5_least rfl rfl (by decide) (ew_oM hE1 _) rfl rfl rfl rfl dX5_comes_340 (fun m5 h => ?_)
    refine ez_iinc (pc := 343) (L' := [(3, .int (v3 + (1 : Int32))), (0, .ref (X.2.1 50)), (4, .int v4)]) Z dX5_comes_343 1 rfl (ei_1 _) (by decide) rfl ?_
    refine ez_goto (pc := 346) (tgt := 264) Z dX5_comes_346 rfl ?_
    refine ez_sub [(0, .ref (X.2.1 50)), (3, .int (v3 + (1 : Int32)))] [1, 0] rfl ?_
    exact hR264 _ h
  · replace h := h.2 c1
    refine ez_aload_n (pc := 294) Z dX5_comes_294 0 rfl rfl ?_
    refine fX5_weights (pc := 295) (M := s1) Z hE1 inX5_comes (List.mem_of_getElem? (i := 17) rfl) dX5_comes_295 ?_
    refine ez_iload_n (pc := 298) Z dX5_comes_298 1 rfl rfl ?_
    refine ez_aload_n (pc := 299) Z dX5_comes_299 0 rfl rfl ?_
    refine fX5_papers (pc := 300) (v := s1.1 5) Z hE1 rfl inX5_comes (List.mem_of_getElem? (i := 9) rfl) dX5_comes_300 ?_
    refine ez_callSi (pc := 303) (As := [.int v3, .int (s1.1 5)]) (st := [.ref (X.2.1 87)]) Z (kX5_fromOf Z.2.2.2.2.2.2.2.2.2.1 (S := E s1) h) gX5_comes_X5_fromOf rfl rfl rfl hdX5_fromOf rfl rfl rfl rfl rfl dX5_comes_303 (fun r6 u7 h => ?_)
    refine ez_iload (pc := 306) Z dX5_comes_306 2 rfl ?_
    refine ez_iadd (pc := 308) Z dX5_comes_308 ?_
    refine ez_aload_n (pc := 309) Z dX5_comes_309 0 rfl rfl ?_
    refine fX5_share (pc := 310) (M := s1) Z hE1 inX5_comes (List.mem_of_getElem? (i := 10) rfl) dX5_comes_310 ?_
    refine ez_iconst (pc := 313) Z dX5_comes_313 ec_3 ?_
    refine ez_aload_n (pc := 314) Z dX5_comes_314 0 rfl rfl ?_
    refine fX5_papers (pc := 315) (v := s1.1 5) Z hE1 rfl inX5_comes (List.mem_of_getElem? (i := 9) rfl) dX5_comes_315 ?_
    refine ez_imul (pc := 318) Z dX5_comes_318 ?_
    refine ez_iload (pc := 319) Z dX5_comes_319 2 rfl ?_
    refine ez_iadd (pc := 321) Z dX5_comes_321 ?_
    refine ez_iald (pc := 322) (n := 15) (a := 5) (v := s1.2.1 5 (((3 : Int32) * (s1.1 5)) + v4).toNatClampNeg) (M := s1) Z hE1 6 rfl (by decide : 5 < 36) rfl rfl h.1 dX5_comes_322 ?_
    replace h := h.2
    refine ez_i2l (pc := 323) Z dX5_comes_323 ?_
    refine ez_last (pc := 324) (n := 90) (a := 0) (M := s1) (M' := ew_sW s1 0 (r6 + v4).toNatClampNeg ((s1.2.1 5 (((3 : Int32) * (s1.1 5)) + v4).toNatClampNeg).toInt64)) Z hE1 37 rfl (by decide : 0 < 3) rfl (fun _ _ _ => rfl) rfl h.1 dX5_comes_324 ?_
    replace h := h.2
    refine ez_iinc (pc := 325) (L' := [(4, .int (v4 + (1 : Int32))), (0, .ref (X.2.1 50)), (3, .int v3)]) Z dX5_comes_325 2 rfl (ei_1 _) (by decide) rfl ?_
    refine ez_goto (pc := 328) (tgt := 288) Z dX5_comes_328 rfl ?_
    refine ez_sub [(0, .ref (X.2.1 50)), (3, .int v3), (4, .int (v4 + (1 : Int32)))] [1, 2, 0] rfl ?_
    exact hR288 _ h
set_option maxHeartbeats 4000000 in
set_option maxRecDepth 100000 in
theorem tX5_comes_264 {C : ew_C} {X : ew_X} {E : ew_M → ew_S} (hE1 : ew_GE X 50 (ew_GM X.2.1) E) (Z : ew_Z C X cX5_comes 5 RX5 wsX5_comes ({ frames := 2, cells := 0, slots := 0, locals := 53 } : Room) none) {Q : ew_M → Prop} {R264 : Int32 × ew_M → Prop} {v3 : Int32} {s1 : ew_M} (hR : C.2.2.2.2.2.2.2.2.2.2 = MQ C.2.2.2.2.2.2.2.1 (va_Qv (fun (u : ew_M) => Q u) (fun (u : ew_M) => ew_wd X ((fun (u : ew_M) => E u) u)) X.2.2.1) C.2.2.2.2.2.2.1 C.2.2.2.2.1 0 0 X.2.2.1) (hR264 : ∀ x : Int32 × ew_M, R264 x → ew_W C X 5 (E x.2) 264 [(0, .ref (X.2.1 50)), (3, .int x.1)] []) (h : wX5_comes_264 R264 Q v3 s1) : ew_W C X 5 (E s1) 264 [(0, .ref (X.2.1 50)), (3, .int v3)] [] := by
  refine ez_iload_n (pc := 264) Z dX5_comes_264 1 rfl rfl ?_
  refine ez_bipush (pc := 265) Z dX5_comes_265 eb_6 ?_
  refine ez_icmp_ge (pc := 267) (tgt := 349) Z dX5_comes_267 rfl (fun c1 => ?_) (fun c1 => ?_)
  · replace h := h.1 c1
    refine ez_aload_n (pc := 349) Z dX5_comes_349 0 rfl rfl ?_
    refine ez_dup (pc := 350) Z dX5_comes_350 rfl ?_
    refine fX5_papers (pc := 351) (v := s1.1 5) Z hE1 rfl inX5_comes (List.mem_of_getElem? (i := 9) rfl) dX5_comes_351 ?_
    refine ez_iconst (pc := 354) Z dX5_comes_354 ec_1 ?_
    refine ez_iadd (pc := 355) Z dX5_comes_355 ?_
    refine pX5_papers (pc := 356) (M := s1) (M' := ew_sI s1 5 ((s1.1 5) + (1 : Int32))) Z hE1 rfl inX5_comes (List.mem_of_getElem? (i := 9) rfl) dX5_comes_356 ?_
    refine ez_goto (pc := 359) (tgt := 395) Z dX5_comes_359 rfl ?_
    exact ez_vret (pc := 395) Z hR (ew_sI s1 5 ((s1.1 5) + (1 : Int32))) h rfl dX5_comes_395
  · replace h := h.2 c1
    refine ez_aload_n (pc := 270) Z dX5_comes_270 0 rfl rfl ?_
    refine fX5_heard (pc := 271) (M := s1) Z hE1 inX5_comes (List.mem_of_getElem? (i := 16) rfl) dX5_comes_271 ?_
    refine ez_bipush (pc := 274) Z dX5_comes_274 eb_6 ?_
    refine ez_aload_n (pc := 276) Z dX5_comes_276 0 rfl rfl ?_
    refine fX5_papers (pc := 277) (v := s1.1 5) Z hE1 rfl inX5_comes (List.mem_of_getElem? (i := 9) rfl) dX5_comes_277 ?_
    refine ez_imul (pc := 280) Z dX5_comes_280 ?_
    refine ez_iload_n (pc := 281) Z dX5_comes_281 1 rfl rfl ?_
    refine ez_iadd (pc := 282) Z dX5_comes_282 ?_
    refine ez_iconst (pc := 283) Z dX5_comes_283 ec_0 ?_
    refine ez_iast (pc := 284) (n := 30) (a := 11) (M := s1) (M' := ew_sA s1 11 (((6 : Int32) * (s1.1 5)) + v3).toNatClampNeg (0 : Int32)) Z hE1 12 rfl (by decide : 11 < 36) rfl rfl h.1 dX5_comes_284 ?_
    replace h := h.2
    refine ez_iconst (pc := 285) Z dX5_comes_285 ec_0 ?_
    refine ez_istore (pc := 286) (L' := [(4, .int (0 : Int32)), (0, .ref (X.2.1 50)), (3, .int v3)]) Z dX5_comes_286 (by decide) rfl ?_
    refine ez_sub [(0, .ref (X.2.1 50)), (3, .int v3), (4, .int (0 : Int32))] [1, 2, 0] rfl ?_
    exact ew_ind (P := fun (x : Int32 × ew_M) => ew_W C X 5 (E x.2) 288 [(0, .ref (X.2.1 50)), (3, .int v3), (4, .int x.1)] []) (fun R hR9 x h => tX5_comes_288 hE1 Z hR hR264 hR9 h) h
set_option maxHeartbeats 4000000 in
set_option maxRecDepth 100000 in
theorem tX5_comes_186 {C : ew_C} {X : ew_X} {E : ew_M → ew_S} (hE1 : ew_GE X 50 (ew_GM X.2.1) E) (Z : ew_Z C X cX5_comes 5 RX5 wsX5_comes ({ frames := 2, cells := 0, slots := 0, locals := 53 } : Room) none) {Q : ew_M → Prop} {R186 : Int32 × ew_M → Prop} {v2 : Int32} {v3 : Int32} {s1 : ew_M} (hR : C.2.2.2.2.2.2.2.2.2.2 = MQ C.2.2.2.2.2.2.2.1 (va_Qv (fun (u : ew_M) => Q u) (fun (u : ew_M) => ew_wd X ((fun (u : ew_M) => E u) u)) X.2.2.1) C.2.2.2.2.2.2.1 C.2.2.2.2.1 0 0 X.2.2.1) (hR186 : ∀ x : Int32 × ew_M, R186 x → ew_W C X 5 (E x.2) 186 [(0, .ref (X.2.1 50)), (2, .int v2), (3, .int x.1)] []) (h : wX5_comes_186 R186 Q v2 v3 s1) : ew_W C X 5 (E s1) 186 [(0, .ref (X.2.1 50)), (2, .int v2), (3, .int v3)] [] := by
  refine ez_iload_n (pc := 186) Z dX5_comes_186 2 rfl rfl ?_
  refine ez_iconst (pc := 187) Z dX5_comes_187 ec_3 ?_
  refine ez_icmp_ge (pc := 188) (tgt := 222) Z dX5_comes_188 rfl (fun c1 => ?_) (fun c1 => ?_)
  · replace h := h.1 c1
    refine ez_aload_n (pc := 222) Z dX5_comes_222 0 rfl rfl ?_
    refine fX5_trueOne (pc := 223) (M := s1) Z hE1 inX5_comes (List.mem_of_getElem? (i := 12) rfl) dX5_comes_223 ?_
    refine ez_aload_n (pc := 226) Z dX5_comes_226 0 rfl rfl ?_
    refine fX5_papers (pc := 227) (v := s1.1 5) Z hE1 rfl inX5_comes (List.mem_of_getElem? (i := 9) rfl) dX5_comes_227 ?_
    refine ez_iconst (pc := 230) Z dX5_comes_230 ec_0 ?_
    refine ez_iast (pc := 231) (n := 5) (a := 7) (M := s1) (M' := ew_sA s1 7 (s1.1 5).toNatClampNeg (0 : Int32)) Z hE1 8 rfl (by decide : 7 < 36) rfl rfl h.1 dX5_comes_231 ?_
    replace h := h.2
    refine ez_aload_n (pc := 232) Z dX5_comes_232 0 rfl rfl ?_
    refine fX5_read (pc := 233) (M := ew_sA s1 7 (s1.1 5).toNatClampNeg (0 : Int32)) Z hE1 inX5_comes (List.mem_of_getElem? (i := 13) rfl) dX5_comes_233 ?_
    refine ez_aload_n (pc := 236) Z dX5_comes_236 0 rfl rfl ?_
    refine fX5_papers (pc := 237) (v := s1.1 5) Z hE1 rfl inX5_comes (List.mem_of_getElem? (i := 9) rfl) dX5_comes_237 ?_
    refine ez_iconst (pc := 240) Z dX5_comes_240 ec_0 ?_
    refine ez_iast (pc := 241) (n := 5) (a := 8) (M := ew_sA s1 7 (s1.1 5).toNatClampNeg (0 : Int32)) (M' := ew_sA (ew_sA s1 7 (s1.1 5).toNatClampNeg (0 : Int32)) 8 (s1.1 5).toNatClampNeg (0 : Int32)) Z hE1 9 rfl (by decide : 8 < 36) rfl rfl h.1 dX5_comes_241 ?_
    replace h := h.2
    refine ez_aload_n (pc := 242) Z dX5_comes_242 0 rfl rfl ?_
    refine fX5_said (pc := 243) (M := ew_sA (ew_sA s1 7 (s1.1 5).toNatClampNeg (0 : Int32)) 8 (s1.1 5).toNatClampNeg (0 : Int32)) Z hE1 inX5_comes (List.mem_of_getElem? (i := 14) rfl) dX5_comes_243 ?_
    refine ez_aload_n (pc := 246) Z dX5_comes_246 0 rfl rfl ?_
    refine fX5_papers (pc := 247) (v := s1.1 5) Z hE1 rfl inX5_comes (List.mem_of_getElem? (i := 9) rfl) dX5_comes_247 ?_
    refine ez_iconst (pc := 250) Z dX5_comes_250 ec_0 ?_
    refine ez_iast (pc := 251) (n := 5) (a := 9) (M := ew_sA (ew_sA s1 7 (s1.1 5).toNatClampNeg (0 : Int32)) 8 (s1.1 5).toNatClampNeg (0 : Int32)) (M' := ew_sA (ew_sA (ew_sA s1 7 (s1.1 5).toNatClampNeg (0 : Int32)) 8 (s1.1 5).toNatClampNeg (0 : Int32)) 9 (s1.1 5).toNatClampNeg (0 : Int32)) Z hE1 10 rfl (by decide : 9 < 36) rfl rfl h.1 dX5_comes_251 ?_
    replace h := h.2
    refine ez_aload_n (pc := 252) Z dX5_comes_252 0 rfl rfl ?_
    refine fX5_lasted (pc := 253) (M := ew_sA (ew_sA (ew_sA s1 7 (s1.1 5).toNatClampNeg (0 : Int32)) 8 (s1.1 5).toNatClampNeg (0 : Int32)) 9 (s1.1 5).toNatClampNeg (0 : Int32)) Z hE1 inX5_comes (List.mem_of_getElem? (i := 15) rfl) dX5_comes_253 ?_
    refine ez_aload_n (pc := 256) Z dX5_comes_256 0 rfl rfl ?_
    refine fX5_papers (pc := 257) (v := s1.1 5) Z hE1 rfl inX5_comes (List.mem_of_getElem? (i := 9) rfl) dX5_comes_257 ?_
    refine ez_iconst (pc := 260) Z dX5_comes_260 ec_0 ?_
    refine ez_iast (pc := 261) (n := 5) (a := 10) (M := ew_sA (ew_sA (ew_sA s1 7 (s1.1 5).toNatClampNeg (0 : Int32)) 8 (s1.1 5).toNatClampNeg (0 : Int32)) 9 (s1.1 5).toNatClampNeg (0 : Int32)) (M' := ew_sA (ew_sA (ew_sA (ew_sA s1 7 (s1.1 5).toNatClampNeg (0 : Int32)) 8 (s1.1 5).toNatClampNeg (0 : Int32)) 9 (s1.1 5).toNatClampNeg (0 : Int32)) 10 (s1.1 5).toNatClampNeg (0 : Int32)) Z hE1 11 rfl (by decide : 10 < 36) rfl rfl h.1 dX5_comes_261 ?_
    replace h := h.2
    refine ez_nm (E := E) (fun z2 ez2 => ?_)
    replace h := h z2 ez2
    refine ez_iconst (pc := 262) Z dX5_comes_262 ec_0 ?_
    refine ez_istore_n (pc := 263) (L' := [(3, .int (0 : Int32)), (0, .ref (X.2.1 50)), (2, .int v2)]) Z dX5_comes_263 rfl (by decide) rfl ?_
    refine ez_sub [(0, .ref (X.2.1 50)), (3, .int (0 : Int32))] [1, 0] rfl ?_
    exact ew_ind (P := fun (x : Int32 × ew_M) => ew_W C X 5 (E x.2) 264 [(0, .ref (X.2.1 50)), (3, .int x.1)] []) (fun R hR9 x h => tX5_comes_264 hE1 Z hR  hR9 h) h
  · replace h := h.2 c1
    refine ez_aload_n (pc := 191) Z dX5_comes_191 0 rfl rfl ?_
    refine fX5_brings (pc := 192) (M := s1) Z hE1 inX5_comes (List.mem_of_getElem? (i := 11) rfl) dX5_comes_192 ?_
    refine ez_iconst (pc := 195) Z dX5_comes_195 ec_3 ?_
    refine ez_aload_n (pc := 196) Z dX5_comes_196 0 rfl rfl ?_
    refine fX5_papers (pc := 197) (v := s1.1 5) Z hE1 rfl inX5_comes (List.mem_of_getElem? (i := 9) rfl) dX5_comes_197 ?_
    refine ez_imul (pc := 200) Z dX5_comes_200 ?_
    refine ez_iload_n (pc := 201) Z dX5_comes_201 2 rfl rfl ?_
    refine ez_iadd (pc := 202) Z dX5_comes_202 ?_
    refine ez_aload_n (pc := 203) Z dX5_comes_203 0 rfl rfl ?_
    refine fX5_numbers (pc := 204) (M := s1) Z hE1 inX5_comes (List.mem_of_getElem? (i := 4) rfl) dX5_comes_204 ?_
    refine ez_iload_n (pc := 207) Z dX5_comes_207 1 rfl rfl ?_
    refine ez_iconst (pc := 208) Z dX5_comes_208 ec_4 ?_
    refine ez_iadd (pc := 209) Z dX5_comes_209 ?_
    refine ez_iload_n (pc := 210) Z dX5_comes_210 2 rfl rfl ?_
    refine ez_iadd (pc := 211) Z dX5_comes_211 ?_
    refine ez_iald (pc := 212) (n := 288) (a := 17) (v := s1.2.1 17 ((v2 + (4 : Int32)) + v3).toNatClampNeg) (M := s1) Z hE1 18 rfl (by decide : 17 < 36) rfl rfl h.1 dX5_comes_212 ?_
    replace h := h.2
    refine ez_iconst (pc := 213) Z dX5_comes_213 ec_4 ?_
    refine ez_isub (pc := 214) Z dX5_comes_214 ?_
    refine ez_iast (pc := 215) (n := 15) (a := 6) (M := s1) (M' := ew_sA s1 6 (((3 : Int32) * (s1.1 5)) + v3).toNatClampNeg ((s1.2.1 17 ((v2 + (4 : Int32)) + v3).toNatClampNeg) - (4 : Int32))) Z hE1 7 rfl (by decide : 6 < 36) rfl rfl h.1 dX5_comes_215 ?_
    replace h := h.2
    refine ez_iinc (pc := 216) (L' := [(3, .int (v3 + (1 : Int32))), (0, .ref (X.2.1 50)), (2, .int v2)]) Z dX5_comes_216 2 rfl (ei_1 _) (by decide) rfl ?_
    refine ez_goto (pc := 219) (tgt := 186) Z dX5_comes_219 rfl ?_
    refine ez_sub [(0, .ref (X.2.1 50)), (2, .int v2), (3, .int (v3 + (1 : Int32)))] [1, 2, 0] rfl ?_
    exact hR186 _ h
set_option maxHeartbeats 4000000 in
set_option maxRecDepth 100000 in
theorem kX5_comes {X : ew_X} {l : Launch} (hX : ew_Ap X) {E : ew_M → ew_S} (hE1 : ew_GE X 50 (ew_GM X.2.1) E) {Q : ew_M → Prop} {p1 : Int32} {s1 : ew_M} (h : wX5_comes Q p1 s1) : Met l yX5_comes wsX5_comes ({ frames := 2, cells := 0, slots := 0, locals := 53 } : Room) (va_Pc [.ref (X.2.1 50), .int p1] (ew_wd X (E s1))) (va_Qv (fun (u : ew_M) => Q u) (fun (u : ew_M) => ew_wd X ((fun (u : ew_M) => E u) u)) X.2.2.1) 0 0 X.2.2.1 := by
  refine ew_met (As := [.ref (X.2.1 50), .int p1]) (L0 := [(0, .ref (X.2.1 50)), (1, .int p1)]) X l hX (by decide) rfl rfl rfl rfl (fun C hl Z hR => ?_)
  subst hl
  refine ez_bipush (pc := 0) Z dX5_comes_0 eb_9 ?_
  refine ez_iload_n (pc := 2) Z dX5_comes_2 1 rfl rfl ?_
  refine ez_imul (pc := 3) Z dX5_comes_3 ?_
  refine ez_istore_n (pc := 4) (L' := [(2, .int ((9 : Int32) * p1)), (0, .ref (X.2.1 50)), (1, .int p1)]) Z dX5_comes_4 rfl (by decide) rfl ?_
  refine ez_aload_n (pc := 5) Z dX5_comes_5 1 rfl rfl ?_
  refine fX5_which (pc := 6) (M := s1) Z hE1 inX5_comes (List.mem_of_getElem? (i := 1) rfl) dX5_comes_6 ?_
  refine ez_iload_n (pc := 9) Z dX5_comes_9 2 rfl rfl ?_
  refine ez_iald (pc := 10) (n := 32) (a := 16) (v := s1.2.1 16 p1.toNatClampNeg) (M := s1) Z hE1 17 rfl (by decide : 16 < 36) rfl rfl h.1 dX5_comes_10 ?_
  replace h := h.2
  refine ez_if_ne (pc := 11) (tgt := 86) Z dX5_comes_11 rfl (fun c1 => ?_) (fun c1 => ?_)
  · replace h := h.1 c1
    refine ez_aload_n (pc := 86) Z dX5_comes_86 1 rfl rfl ?_
    refine fX5_which (pc := 87) (M := s1) Z hE1 inX5_comes (List.mem_of_getElem? (i := 1) rfl) dX5_comes_87 ?_
    refine ez_iload_n (pc := 90) Z dX5_comes_90 2 rfl rfl ?_
    refine ez_iald (pc := 91) (n := 32) (a := 16) (v := s1.2.1 16 p1.toNatClampNeg) (M := s1) Z hE1 17 rfl (by decide : 16 < 36) rfl rfl h.1 dX5_comes_91 ?_
    replace h := h.2
    refine ez_iconst (pc := 92) Z dX5_comes_92 ec_1 ?_
    refine ez_icmp_ne (pc := 93) (tgt := 362) Z dX5_comes_93 rfl (fun c2 => ?_) (fun c2 => ?_)
    · replace h := h.1 c2
      refine ez_aload_n (pc := 362) Z dX5_comes_362 1 rfl rfl ?_
      refine fX5_which (pc := 363) (M := s1) Z hE1 inX5_comes (List.mem_of_getElem? (i := 1) rfl) dX5_comes_363 ?_
      refine ez_iload_n (pc := 366) Z dX5_comes_366 2 rfl rfl ?_
      refine ez_iald (pc := 367) (n := 32) (a := 16) (v := s1.2.1 16 p1.toNatClampNeg) (M := s1) Z hE1 17 rfl (by decide : 16 < 36) rfl rfl h.1 dX5_comes_367 ?_
      replace h := h.2
      refine ez_iconst (pc := 368) Z dX5_comes_368 ec_2 ?_
      refine ez_icmp_ne (pc := 369) (tgt := 385) Z dX5_comes_369 rfl (fun c3 => ?_) (fun c3 => ?_)
      · replace h := h.1 c3
        refine ez_aload_n (pc := 385) Z dX5_comes_385 1 rfl rfl ?_
        refine ez_aload_n (pc := 386) Z dX5_comes_386 1 rfl rfl ?_
        refine fX5_numbers (pc := 387) (M := s1) Z hE1 inX5_comes (List.mem_of_getElem? (i := 4) rfl) dX5_comes_387 ?_
        refine ez_iload_n (pc := 390) Z dX5_comes_390 0 rfl rfl ?_
        refine ez_iald (pc := 391) (n := 288) (a := 17) (v := s1.2.1 17 ((9 : Int32) * p1).toNatClampNeg) (M := s1) Z hE1 18 rfl (by decide : 17 < 36) rfl rfl h.1 dX5_comes_391 ?_
        replace h := h.2
        refine pX5_truthful (pc := 392) (M := s1) (M' := ew_sI s1 16 (s1.2.1 17 ((9 : Int32) * p1).toNatClampNeg)) Z hE1 rfl inX5_comes (List.mem_of_getElem? (i := 19) rfl) dX5_comes_392 ?_
        exact ez_vret (pc := 395) Z hR (ew_sI s1 16 (s1.2.1 17 ((9 : Int32) * p1).toNatClampNeg)) h rfl dX5_comes_395
      · replace h := h.2 c3
        refine ez_aload_n (pc := 372) Z dX5_comes_372 1 rfl rfl ?_
        refine ez_aload_n (pc := 373) Z dX5_comes_373 1 rfl rfl ?_
        refine fX5_numbers (pc := 374) (M := s1) Z hE1 inX5_comes (List.mem_of_getElem? (i := 4) rfl) dX5_comes_374 ?_
        refine ez_iload_n (pc := 377) Z dX5_comes_377 0 rfl rfl ?_
        refine ez_iald (pc := 378) (n := 288) (a := 17) (v := s1.2.1 17 ((9 : Int32) * p1).toNatClampNeg) (M := s1) Z hE1 18 rfl (by decide : 17 < 36) rfl rfl h.1 dX5_comes_378 ?_
        replace h := h.2
        refine pX5_law (pc := 379) (M := s1) (M' := ew_sI s1 15 (s1.2.1 17 ((9 : Int32) * p1).toNatClampNeg)) Z hE1 rfl inX5_comes (List.mem_of_getElem? (i := 18) rfl) dX5_comes_379 ?_
        refine ez_goto (pc := 382) (tgt := 395) Z dX5_comes_382 rfl ?_
        exact ez_vret (pc := 395) Z hR (ew_sI s1 15 (s1.2.1 17 ((9 : Int32) * p1).toNatClampNeg)) h rfl dX5_comes_395
    · replace h := h.2 c2
      refine ez_aload_n (pc := 96) Z dX5_comes_96 1 rfl rfl ?_
      refine fX5_bound (pc := 97) (M := s1) Z hE1 inX5_comes (List.mem_of_getElem? (i := 8) rfl) dX5_comes_97 ?_
      refine ez_aload_n (pc := 100) Z dX5_comes_100 1 rfl rfl ?_
      refine fX5_papers (pc := 101) (v := s1.1 5) Z hE1 rfl inX5_comes (List.mem_of_getElem? (i := 9) rfl) dX5_comes_101 ?_
      refine ez_aload_n (pc := 104) Z dX5_comes_104 1 rfl rfl ?_
      refine fX5_numbers (pc := 105) (M := s1) Z hE1 inX5_comes (List.mem_of_getElem? (i := 4) rfl) dX5_comes_105 ?_
      refine ez_iload_n (pc := 108) Z dX5_comes_108 0 rfl rfl ?_
      refine ez_iald (pc := 109) (n := 288) (a := 17) (v := s1.2.1 17 ((9 : Int32) * p1).toNatClampNeg) (M := s1) Z hE1 18 rfl (by decide : 17 < 36) rfl rfl h.1 dX5_comes_109 ?_
      replace h := h.2
      refine ez_iast (pc := 110) (n := 5) (a := 4) (M := s1) (M' := ew_sA s1 4 (s1.1 5).toNatClampNeg (s1.2.1 17 ((9 : Int32) * p1).toNatClampNeg)) Z hE1 5 rfl (by decide : 4 < 36) rfl rfl h.1 dX5_comes_110 ?_
      replace h := h.2
      refine ez_aload_n (pc := 111) Z dX5_comes_111 1 rfl rfl ?_
      refine fX5_share (pc := 112) (M := ew_sA s1 4 (s1.1 5).toNatClampNeg (s1.2.1 17 ((9 : Int32) * p1).toNatClampNeg)) Z hE1 inX5_comes (List.mem_of_getElem? (i := 10) rfl) dX5_comes_112 ?_
      refine ez_iconst (pc := 115) Z dX5_comes_115 ec_3 ?_
      refine ez_aload_n (pc := 116) Z dX5_comes_116 1 rfl rfl ?_
      refine fX5_papers (pc := 117) (v := s1.1 5) Z hE1 rfl inX5_comes (List.mem_of_getElem? (i := 9) rfl) dX5_comes_117 ?_
      refine ez_imul (pc := 120) Z dX5_comes_120 ?_
      refine ez_aload_n (pc := 121) Z dX5_comes_121 1 rfl rfl ?_
      refine fX5_numbers (pc := 122) (M := ew_sA s1 4 (s1.1 5).toNatClampNeg (s1.2.1 17 ((9 : Int32) * p1).toNatClampNeg)) Z hE1 inX5_comes (List.mem_of_getElem? (i := 4) rfl) dX5_comes_122 ?_
      refine ez_iload_n (pc := 125) Z dX5_comes_125 0 rfl rfl ?_
      refine ez_iconst (pc := 126) Z dX5_comes_126 ec_2 ?_
      refine ez_iadd (pc := 127) Z dX5_comes_127 ?_
      refine ez_iald (pc := 128) (n := 288) (a := 17) (v := s1.2.1 17 (((9 : Int32) * p1) + (2 : Int32)).toNatClampNeg) (M := ew_sA s1 4 (s1.1 5).toNatClampNeg (s1.2.1 17 ((9 : Int32) * p1).toNatClampNeg)) Z hE1 18 rfl (by decide : 17 < 36) rfl rfl h.1 dX5_comes_128 ?_
      replace h := h.2
      refine ez_iast (pc := 129) (n := 15) (a := 5) (M := ew_sA s1 4 (s1.1 5).toNatClampNeg (s1.2.1 17 ((9 : Int32) * p1).toNatClampNeg)) (M' := ew_sA (ew_sA s1 4 (s1.1 5).toNatClampNeg (s1.2.1 17 ((9 : Int32) * p1).toNatClampNeg)) 5 ((3 : Int32) * (s1.1 5)).toNatClampNeg (s1.2.1 17 (((9 : Int32) * p1) + (2 : Int32)).toNatClampNeg)) Z hE1 6 rfl (by decide : 5 < 36) rfl rfl h.1 dX5_comes_129 ?_
      replace h := h.2
      refine ez_nm (E := E) (fun z4 ez4 => ?_)
      replace h := h z4 ez4
      refine ez_aload_n (pc := 130) Z dX5_comes_130 1 rfl rfl ?_
      refine fX5_share (pc := 131) (M := z4) Z hE1 inX5_comes (List.mem_of_getElem? (i := 10) rfl) dX5_comes_131 ?_
      refine ez_iconst (pc := 134) Z dX5_comes_134 ec_3 ?_
      refine ez_aload_n (pc := 135) Z dX5_comes_135 1 rfl rfl ?_
      refine fX5_papers (pc := 136) (v := z4.1 5) Z hE1 rfl inX5_comes (List.mem_of_getElem? (i := 9) rfl) dX5_comes_136 ?_
      refine ez_imul (pc := 139) Z dX5_comes_139 ?_
      refine ez_iconst (pc := 140) Z dX5_comes_140 ec_1 ?_
      refine ez_iadd (pc := 141) Z dX5_comes_141 ?_
      refine ez_aload_n (pc := 142) Z dX5_comes_142 1 rfl rfl ?_
      refine fX5_numbers (pc := 143) (M := z4) Z hE1 inX5_comes (List.mem_of_getElem? (i := 4) rfl) dX5_comes_143 ?_
      refine ez_iload_n (pc := 146) Z dX5_comes_146 0 rfl rfl ?_
      refine ez_iconst (pc := 147) Z dX5_comes_147 ec_3 ?_
      refine ez_iadd (pc := 148) Z dX5_comes_148 ?_
      refine ez_iald (pc := 149) (n := 288) (a := 17) (v := z4.2.1 17 (((9 : Int32) * p1) + (3 : Int32)).toNatClampNeg) (M := z4) Z hE1 18 rfl (by decide : 17 < 36) rfl rfl h.1 dX5_comes_149 ?_
      replace h := h.2
      refine ez_iast (pc := 150) (n := 15) (a := 5) (M := z4) (M' := ew_sA z4 5 (((3 : Int32) * (z4.1 5)) + (1 : Int32)).toNatClampNeg (z4.2.1 17 (((9 : Int32) * p1) + (3 : Int32)).toNatClampNeg)) Z hE1 6 rfl (by decide : 5 < 36) rfl rfl h.1 dX5_comes_150 ?_
      replace h := h.2
      refine ez_aload_n (pc := 151) Z dX5_comes_151 1 rfl rfl ?_
      refine fX5_share (pc := 152) (M := ew_sA z4 5 (((3 : Int32) * (z4.1 5)) + (1 : Int32)).toNatClampNeg (z4.2.1 17 (((9 : Int32) * p1) + (3 : Int32)).toNatClampNeg)) Z hE1 inX5_comes (List.mem_of_getElem? (i := 10) rfl) dX5_comes_152 ?_
      refine ez_iconst (pc := 155) Z dX5_comes_155 ec_3 ?_
      refine ez_aload_n (pc := 156) Z dX5_comes_156 1 rfl rfl ?_
      refine fX5_papers (pc := 157) (v := z4.1 5) Z hE1 rfl inX5_comes (List.mem_of_getElem? (i := 9) rfl) dX5_comes_157 ?_
      refine ez_imul (pc := 160) Z dX5_comes_160 ?_
      refine ez_iconst (pc := 161) Z dX5_comes_161 ec_2 ?_
      refine ez_iadd (pc := 162) Z dX5_comes_162 ?_
      refine ez_bipush (pc := 163) Z dX5_comes_163 eb_100 ?_
      refine ez_aload_n (pc := 165) Z dX5_comes_165 1 rfl rfl ?_
      refine fX5_numbers (pc := 166) (M := ew_sA z4 5 (((3 : Int32) * (z4.1 5)) + (1 : Int32)).toNatClampNeg (z4.2.1 17 (((9 : Int32) * p1) + (3 : Int32)).toNatClampNeg)) Z hE1 inX5_comes (List.mem_of_getElem? (i := 4) rfl) dX5_comes_166 ?_
      refine ez_iload_n (pc := 169) Z dX5_comes_169 0 rfl rfl ?_
      refine ez_iconst (pc := 170) Z dX5_comes_170 ec_2 ?_
      refine ez_iadd (pc := 171) Z dX5_comes_171 ?_
      refine ez_iald (pc := 172) (n := 288) (a := 17) (v := z4.2.1 17 (((9 : Int32) * p1) + (2 : Int32)).toNatClampNeg) (M := ew_sA z4 5 (((3 : Int32) * (z4.1 5)) + (1 : Int32)).toNatClampNeg (z4.2.1 17 (((9 : Int32) * p1) + (3 : Int32)).toNatClampNeg)) Z hE1 18 rfl (by decide : 17 < 36) rfl rfl h.1 dX5_comes_172 ?_
      replace h := h.2
      refine ez_isub (pc := 173) Z dX5_comes_173 ?_
      refine ez_aload_n (pc := 174) Z dX5_comes_174 1 rfl rfl ?_
      refine fX5_numbers (pc := 175) (M := ew_sA z4 5 (((3 : Int32) * (z4.1 5)) + (1 : Int32)).toNatClampNeg (z4.2.1 17 (((9 : Int32) * p1) + (3 : Int32)).toNatClampNeg)) Z hE1 inX5_comes (List.mem_of_getElem? (i := 4) rfl) dX5_comes_175 ?_
      refine ez_iload_n (pc := 178) Z dX5_comes_178 0 rfl rfl ?_
      refine ez_iconst (pc := 179) Z dX5_comes_179 ec_3 ?_
      refine ez_iadd (pc := 180) Z dX5_comes_180 ?_
      refine ez_iald (pc := 181) (n := 288) (a := 17) (v := z4.2.1 17 (((9 : Int32) * p1) + (3 : Int32)).toNatClampNeg) (M := ew_sA z4 5 (((3 : Int32) * (z4.1 5)) + (1 : Int32)).toNatClampNeg (z4.2.1 17 (((9 : Int32) * p1) + (3 : Int32)).toNatClampNeg)) Z hE1 18 rfl (by decide : 17 < 36) rfl rfl h.1 dX5_comes_181 ?_
      replace h := h.2
      refine ez_isub (pc := 182) Z dX5_comes_182 ?_
      refine ez_iast (pc := 183) (n := 15) (a := 5) (M := ew_sA z4 5 (((3 : Int32) * (z4.1 5)) + (1 : Int32)).toNatClampNeg (z4.2.1 17 (((9 : Int32) * p1) + (3 : Int32)).toNatClampNeg)) (M' := ew_sA (ew_sA z4 5 (((3 : Int32) * (z4.1 5)) + (1 : Int32)).toNatClampNeg (z4.2.1 17 (((9 : Int32) * p1) + (3 : Int32)).toNatClampNeg)) 5 (((3 : Int32) * (z4.1 5)) + (2 : Int32)).toNatClampNeg (((100 : Int32) - (z4.2.1 17 (((9 : Int32) * p1) + (2 : Int32)).toNatClampNeg)) - (z4.2.1 17 (((9 : Int32) * p1) + (3 : Int32)).toNatClampNeg))) Z hE1 6 rfl (by decide : 5 < 36) rfl rfl h.1 dX5_comes_183 ?_
      replace h := h.2
      refine ez_nm (E := E) (fun z5 ez5 => ?_)
      replace h := h z5 ez5
      refine ez_iconst (pc := 184) Z dX5_comes_184 ec_0 ?_
      refine ez_istore_n (pc := 185) (L' := [(3, .int (0 : Int32)), (2, .int ((9 : Int32) * p1)), (0, .ref (X.2.1 50)), (1, .int p1)]) Z dX5_comes_185 rfl (by decide) rfl ?_
      refine ez_sub [(0, .ref (X.2.1 50)), (2, .int ((9 : Int32) * p1)), (3, .int (0 : Int32))] [2, 1, 0] rfl ?_
      exact ew_ind (P := fun (x : Int32 × ew_M) => ew_W C X 5 (E x.2) 186 [(0, .ref (X.2.1 50)), (2, .int ((9 : Int32) * p1)), (3, .int x.1)] []) (fun R hR9 x h => tX5_comes_186 hE1 Z hR  hR9 h) h
  · replace h := h.2 c1
    refine ez_aload_n (pc := 14) Z dX5_comes_14 1 rfl rfl ?_
    refine fX5_kind (pc := 15) (M := s1) Z hE1 inX5_comes (List.mem_of_getElem? (i := 2) rfl) dX5_comes_15 ?_
    refine ez_aload_n (pc := 18) Z dX5_comes_18 1 rfl rfl ?_
    refine fX5_persons (pc := 19) (v := s1.1 0) Z hE1 rfl inX5_comes (List.mem_of_getElem? (i := 3) rfl) dX5_comes_19 ?_
    refine ez_aload_n (pc := 22) Z dX5_comes_22 1 rfl rfl ?_
    refine fX5_numbers (pc := 23) (M := s1) Z hE1 inX5_comes (List.mem_of_getElem? (i := 4) rfl) dX5_comes_23 ?_
    refine ez_iload_n (pc := 26) Z dX5_comes_26 0 rfl rfl ?_
    refine ez_iald (pc := 27) (n := 288) (a := 17) (v := s1.2.1 17 ((9 : Int32) * p1).toNatClampNeg) (M := s1) Z hE1 18 rfl (by decide : 17 < 36) rfl rfl h.1 dX5_comes_27 ?_
    replace h := h.2
    refine ez_iast (pc := 28) (n := 6) (a := 0) (M := s1) (M' := ew_sA s1 0 (s1.1 0).toNatClampNeg (s1.2.1 17 ((9 : Int32) * p1).toNatClampNeg)) Z hE1 1 rfl (by decide : 0 < 36) rfl rfl h.1 dX5_comes_28 ?_
    replace h := h.2
    refine ez_aload_n (pc := 29) Z dX5_comes_29 1 rfl rfl ?_
    refine fX5_bar (pc := 30) (M := ew_sA s1 0 (s1.1 0).toNatClampNeg (s1.2.1 17 ((9 : Int32) * p1).toNatClampNeg)) Z hE1 inX5_comes (List.mem_of_getElem? (i := 5) rfl) dX5_comes_30 ?_
    refine ez_aload_n (pc := 33) Z dX5_comes_33 1 rfl rfl ?_
    refine fX5_persons (pc := 34) (v := s1.1 0) Z hE1 rfl inX5_comes (List.mem_of_getElem? (i := 3) rfl) dX5_comes_34 ?_
    refine ez_aload_n (pc := 37) Z dX5_comes_37 1 rfl rfl ?_
    refine fX5_numbers (pc := 38) (M := ew_sA s1 0 (s1.1 0).toNatClampNeg (s1.2.1 17 ((9 : Int32) * p1).toNatClampNeg)) Z hE1 inX5_comes (List.mem_of_getElem? (i := 4) rfl) dX5_comes_38 ?_
    refine ez_iload_n (pc := 41) Z dX5_comes_41 0 rfl rfl ?_
    refine ez_iconst (pc := 42) Z dX5_comes_42 ec_1 ?_
    refine ez_iadd (pc := 43) Z dX5_comes_43 ?_
    refine ez_iald (pc := 44) (n := 288) (a := 17) (v := s1.2.1 17 (((9 : Int32) * p1) + (1 : Int32)).toNatClampNeg) (M := ew_sA s1 0 (s1.1 0).toNatClampNeg (s1.2.1 17 ((9 : Int32) * p1).toNatClampNeg)) Z hE1 18 rfl (by decide : 17 < 36) rfl rfl h.1 dX5_comes_44 ?_
    replace h := h.2
    refine ez_iast (pc := 45) (n := 6) (a := 1) (M := ew_sA s1 0 (s1.1 0).toNatClampNeg (s1.2.1 17 ((9 : Int32) * p1).toNatClampNeg)) (M' := ew_sA (ew_sA s1 0 (s1.1 0).toNatClampNeg (s1.2.1 17 ((9 : Int32) * p1).toNatClampNeg)) 1 (s1.1 0).toNatClampNeg (s1.2.1 17 (((9 : Int32) * p1) + (1 : Int32)).toNatClampNeg)) Z hE1 2 rfl (by decide : 1 < 36) rfl rfl h.1 dX5_comes_45 ?_
    replace h := h.2
    refine ez_nm (E := E) (fun z6 ez6 => ?_)
    replace h := h z6 ez6
    refine ez_aload_n (pc := 46) Z dX5_comes_46 1 rfl rfl ?_
    refine fX5_patience (pc := 47) (M := z6) Z hE1 inX5_comes (List.mem_of_getElem? (i := 6) rfl) dX5_comes_47 ?_
    refine ez_aload_n (pc := 50) Z dX5_comes_50 1 rfl rfl ?_
    refine fX5_persons (pc := 51) (v := z6.1 0) Z hE1 rfl inX5_comes (List.mem_of_getElem? (i := 3) rfl) dX5_comes_51 ?_
    refine ez_aload_n (pc := 54) Z dX5_comes_54 1 rfl rfl ?_
    refine fX5_numbers (pc := 55) (M := z6) Z hE1 inX5_comes (List.mem_of_getElem? (i := 4) rfl) dX5_comes_55 ?_
    refine ez_iload_n (pc := 58) Z dX5_comes_58 0 rfl rfl ?_
    refine ez_iconst (pc := 59) Z dX5_comes_59 ec_2 ?_
    refine ez_iadd (pc := 60) Z dX5_comes_60 ?_
    refine ez_iald (pc := 61) (n := 288) (a := 17) (v := z6.2.1 17 (((9 : Int32) * p1) + (2 : Int32)).toNatClampNeg) (M := z6) Z hE1 18 rfl (by decide : 17 < 36) rfl rfl h.1 dX5_comes_61 ?_
    replace h := h.2
    refine ez_iast (pc := 62) (n := 6) (a := 2) (M := z6) (M' := ew_sA z6 2 (z6.1 0).toNatClampNeg (z6.2.1 17 (((9 : Int32) * p1) + (2 : Int32)).toNatClampNeg)) Z hE1 3 rfl (by decide : 2 < 36) rfl rfl h.1 dX5_comes_62 ?_
    replace h := h.2
    refine ez_aload_n (pc := 63) Z dX5_comes_63 1 rfl rfl ?_
    refine fX5_had (pc := 64) (M := ew_sA z6 2 (z6.1 0).toNatClampNeg (z6.2.1 17 (((9 : Int32) * p1) + (2 : Int32)).toNatClampNeg)) Z hE1 inX5_comes (List.mem_of_getElem? (i := 7) rfl) dX5_comes_64 ?_
    refine ez_aload_n (pc := 67) Z dX5_comes_67 1 rfl rfl ?_
    refine fX5_persons (pc := 68) (v := z6.1 0) Z hE1 rfl inX5_comes (List.mem_of_getElem? (i := 3) rfl) dX5_comes_68 ?_
    refine ez_iconst (pc := 71) Z dX5_comes_71 ec_0 ?_
    refine ez_iast (pc := 72) (n := 6) (a := 3) (M := ew_sA z6 2 (z6.1 0).toNatClampNeg (z6.2.1 17 (((9 : Int32) * p1) + (2 : Int32)).toNatClampNeg)) (M' := ew_sA (ew_sA z6 2 (z6.1 0).toNatClampNeg (z6.2.1 17 (((9 : Int32) * p1) + (2 : Int32)).toNatClampNeg)) 3 (z6.1 0).toNatClampNeg (0 : Int32)) Z hE1 4 rfl (by decide : 3 < 36) rfl rfl h.1 dX5_comes_72 ?_
    replace h := h.2
    refine ez_aload_n (pc := 73) Z dX5_comes_73 1 rfl rfl ?_
    refine ez_dup (pc := 74) Z dX5_comes_74 rfl ?_
    refine fX5_persons (pc := 75) (v := z6.1 0) Z hE1 rfl inX5_comes (List.mem_of_getElem? (i := 3) rfl) dX5_comes_75 ?_
    refine ez_iconst (pc := 78) Z dX5_comes_78 ec_1 ?_
    refine ez_iadd (pc := 79) Z dX5_comes_79 ?_
    refine pX5_persons (pc := 80) (M := ew_sA (ew_sA z6 2 (z6.1 0).toNatClampNeg (z6.2.1 17 (((9 : Int32) * p1) + (2 : Int32)).toNatClampNeg)) 3 (z6.1 0).toNatClampNeg (0 : Int32)) (M' := ew_sI (ew_sA (ew_sA z6 2 (z6.1 0).toNatClampNeg (z6.2.1 17 (((9 : Int32) * p1) + (2 : Int32)).toNatClampNeg)) 3 (z6.1 0).toNatClampNeg (0 : Int32)) 0 ((z6.1 0) + (1 : Int32))) Z hE1 rfl inX5_comes (List.mem_of_getElem? (i := 3) rfl) dX5_comes_80 ?_
    refine ez_nm (E := E) (fun z7 ez7 => ?_)
    replace h := h z7 ez7
    refine ez_goto (pc := 83) (tgt := 395) Z dX5_comes_83 rfl ?_
    exact ez_vret (pc := 395) Z hR z7 h rfl dX5_comes_395
theorem inX5_town : ∀ w ∈ wsX50, w ∈ wsX5_town := fun _ h => List.mem_cons_of_mem _ (List.mem_append_right _ (h))
theorem hdX5_town : yX5_town.cls = RX5 ∧ yX5_town.cls ≠ "java/lang/invoke/MethodHandle" ∧ yX5_town.cls ≠ "java/lang/invoke/VarHandle" ∧ (parseMethodDescriptor yX5_town.desc).map (fun d => d.parameters.length) = some 0 := by decide +kernel
def wX5_town_101 (R101 : Int32 × ew_M → Prop) (Q : Int32 → ew_M → Prop) (v4 : Int32) (s1 : ew_M) : Prop := ((s1.1 23) ≤ v4 → Q (s1.1 23) s1) ∧ (¬ (s1.1 23) ≤ v4 → wX5_comes (fun (m3 : ew_M) => R101 (v4 + (1 : Int32), m3)) v4 s1)
def wX5_town_63  (Q : Int32 → ew_M → Prop) (v1 : Int32) (v2 : Int32) (t0 : Int32) (s1 : ew_M) : Prop := (¬ v1 = 0 → ((s1.1 23) ≤ t0 → ew_lp (fun (R : Int32 × ew_M → Prop) (x : Int32 × ew_M) => wX5_town_101 R Q x.1 x.2) ((0 : Int32), (ew_sI s1 18 (0 : Int32)))) ∧ (¬ (s1.1 23) ≤ t0 → vp_in t0 32 ∧ (Q ((-2000 : Int32) - (s1.2.1 15 t0.toNatClampNeg)) (ew_sI s1 18 (0 : Int32))))) ∧ (v1 = 0 → Q ((-1000 : Int32) - v2) (ew_sI s1 18 (0 : Int32)))
def wX5_town_46  (Q : Int32 → ew_M → Prop) (v1 : Int32) (s1 : ew_M) : Prop := (v1 = 0 → wX5_town_63 Q v1 (s1.1 28) (0 : Int32) s1) ∧ (¬ v1 = 0 → wX5_wrongOne (fun (r2 : Int32) => wX5_town_63 Q v1 (s1.1 28) r2 s1) s1)
def wX5_town_23 (R23 : Int32 × ew_M → Prop) (Q : Int32 → ew_M → Prop) (v1 : Int32) (s1 : ew_M) : Prop := (v1 = 0 → wX5_town_46 Q v1 s1) ∧ (¬ v1 = 0 → ((s1.1 18) ≤ (s1.1 28) → wX5_town_46 Q v1 s1) ∧ (¬ (s1.1 18) ≤ (s1.1 28) → wX5_statementTold (fun (r3 : Int32) (m4 : ew_M) => R23 (r3, m4)) s1))
def wX5_town_22  (Q : Int32 → ew_M → Prop) (t0 : Int32) (s1 : ew_M) : Prop := ew_lp (fun (R : Int32 × ew_M → Prop) (x : Int32 × ew_M) => wX5_town_23 R Q x.1 x.2) (t0, s1)
def wX5_town (Q : Int32 → ew_M → Prop) (s1 : ew_M) : Prop := ((s1.1 18) ≤ 0 → wX5_town_22 Q (0 : Int32) (ew_sI (ew_sI s1 28 (0 : Int32)) 23 (0 : Int32))) ∧ (¬ (s1.1 18) ≤ 0 → wX5_town_22 Q (1 : Int32) (ew_sI (ew_sI s1 28 (0 : Int32)) 23 (0 : Int32)))
set_option maxHeartbeats 4000000 in
set_option maxRecDepth 100000 in
theorem tX5_town_101 {C : ew_C} {X : ew_X} {E : ew_M → ew_S} (hE1 : ew_GE X 50 (ew_GM X.2.1) E) (Z : ew_Z C X cX5_town 5 RX5 wsX5_town ({ frames := 4, cells := 0, slots := 0, locals := 95 } : Room) (some .int)) {Q : Int32 → ew_M → Prop} {R101 : Int32 × ew_M → Prop} {v4 : Int32} {s1 : ew_M} (hR : C.2.2.2.2.2.2.2.2.2.2 = MQ C.2.2.2.2.2.2.2.1 (va_Qi (fun (r : Int32) (u : ew_M) => Q r u) (fun (u : ew_M) => ew_wd X ((fun (u : ew_M) => E u) u)) X.2.2.1) C.2.2.2.2.2.2.1 C.2.2.2.2.1 0 0 X.2.2.1) (hR101 : ∀ x : Int32 × ew_M, R101 x → ew_W C X 5 (E x.2) 101 [(0, .ref (X.2.1 50)), (4, .int x.1)] []) (h : wX5_town_101 R101 Q v4 s1) : ew_W C X 5 (E s1) 101 [(0, .ref (X.2.1 50)), (4, .int v4)] [] := by
  refine ez_iload (pc := 101) Z dX5_town_101 1 rfl ?_
  refine ez_aload_n (pc := 103) Z dX5_town_103 0 rfl rfl ?_
  refine fX5_told (pc := 104) (v := s1.1 23) Z hE1 rfl inX5_town (List.mem_of_getElem? (i := 2) rfl) dX5_town_104 ?_
  refine ez_icmp_ge (pc := 107) (tgt := 122) Z dX5_town_107 rfl (fun c1 => ?_) (fun c1 => ?_)
  · replace h := h.1 c1
    refine ez_aload_n (pc := 122) Z dX5_town_122 0 rfl rfl ?_
    refine fX5_told (pc := 123) (v := s1.1 23) Z hE1 rfl inX5_town (List.mem_of_getElem? (i := 2) rfl) dX5_town_123 ?_
    exact ez_iret (pc := 126) Z hR s1 h rfl dX5_town_126
  · replace h := h.2 c1
    refine ez_aload_n (pc := 110) Z dX5_town_110 0 rfl rfl ?_
    refine ez_iload (pc := 111) Z dX5_town_111 1 rfl ?_
    refine ez_callVv (pc := 113) (r := 50) (As := [.int v4]) (st := []) Z (kX5_comes Z.2.2.2.2.2.2.2.2.2.1 (E := E) hE1 h) gX5_town_X5_comes rfl rfl rfl hdX5_comes rfl rfl (by decide) (ew_oM hE1 _) rfl rfl rfl rfl dX5_town_113 (fun m3 h => ?_)
    refine ez_iinc (pc := 116) (L' := [(4, .int (v4 + (1 : Int32))), (0, .ref (X.2.1 50))]) Z dX5_town_116 1 rfl (ei_1 _) (by decide) rfl ?_
    refine ez_goto (pc := 119) (tgt := 101) Z dX5_town_119 rfl ?_
    refine ez_sub [(0, .ref (X.2.1 50)), (4, .int (v4 + (1 : Int32)))] [1, 0] rfl ?_
    exact hR101 _ h
set_option maxHeartbeats 4000000 in
set_option maxRecDepth 100000 in
theorem tX5_town_63 {C : ew_C} {X : ew_X} {E : ew_M → ew_S} (hE1 : ew_GE X 50 (ew_GM X.2.1) E) (Z : ew_Z C X cX5_town 5 RX5 wsX5_town ({ frames := 4, cells := 0, slots := 0, locals := 95 } : Room) (some .int)) {Q : Int32 → ew_M → Prop}  {v1 : Int32} {v2 : Int32} {t0 : Int32} {s1 : ew_M} (hR : C.2.2.2.2.2.2.2.2.2.2 = MQ C.2.2.2.2.2.2.2.1 (va_Qi (fun (r : Int32) (u : ew_M) => Q r u) (fun (u : ew_M) => ew_wd X ((fun (u : ew_M) => E u) u)) X.2.2.1) C.2.2.2.2.2.2.1 C.2.2.2.2.1 0 0 X.2.2.1) (h : wX5_town_63 Q v1 v2 t0 s1) : ew_W C X 5 (E s1) 63 [(0, .ref (X.2.1 50)), (1, .int v1), (2, .int v2)] [.int t0] := by
  refine ez_istore_n (pc := 63) (L' := [(3, .int t0), (0, .ref (X.2.1 50)), (1, .int v1), (2, .int v2)]) Z dX5_town_63 rfl (by decide) rfl ?_
  refine ez_aload_n (pc := 64) Z dX5_town_64 1 rfl rfl ?_
  refine ez_iconst (pc := 65) Z dX5_town_65 ec_0 ?_
  refine pX5_written (pc := 66) (M := s1) (M' := ew_sI s1 18 (0 : Int32)) Z hE1 rfl inX5_town (List.mem_of_getElem? (i := 3) rfl) dX5_town_66 ?_
  refine ez_iload_n (pc := 69) Z dX5_town_69 2 rfl rfl ?_
  refine ez_if_ne (pc := 70) (tgt := 79) Z dX5_town_70 rfl (fun c1 => ?_) (fun c1 => ?_)
  · replace h := h.1 c1
    refine ez_iload_n (pc := 79) Z dX5_town_79 0 rfl rfl ?_
    refine ez_aload_n (pc := 80) Z dX5_town_80 1 rfl rfl ?_
    refine fX5_told (pc := 81) (v := s1.1 23) Z hE1 rfl inX5_town (List.mem_of_getElem? (i := 2) rfl) dX5_town_81 ?_
    refine ez_icmp_ge (pc := 84) (tgt := 98) Z dX5_town_84 rfl (fun c2 => ?_) (fun c2 => ?_)
    · replace h := h.1 c2
      refine ez_iconst (pc := 98) Z dX5_town_98 ec_0 ?_
      refine ez_istore (pc := 99) (L' := [(4, .int (0 : Int32)), (3, .int t0), (0, .ref (X.2.1 50)), (1, .int v1), (2, .int v2)]) Z dX5_town_99 (by decide) rfl ?_
      refine ez_sub [(0, .ref (X.2.1 50)), (4, .int (0 : Int32))] [2, 0] rfl ?_
      exact ew_ind (P := fun (x : Int32 × ew_M) => ew_W C X 5 (E x.2) 101 [(0, .ref (X.2.1 50)), (4, .int x.1)] []) (fun R hR9 x h => tX5_town_101 hE1 Z hR  hR9 h) h
    · replace h := h.2 c2
      refine ez_sipush (pc := 87) Z dX5_town_87 es_m2000 ?_
      refine ez_aload_n (pc := 90) Z dX5_town_90 1 rfl rfl ?_
      refine fX5_begins (pc := 91) (M := ew_sI s1 18 (0 : Int32)) Z hE1 inX5_town (List.mem_of_getElem? (i := 4) rfl) dX5_town_91 ?_
      refine ez_iload_n (pc := 94) Z dX5_town_94 0 rfl rfl ?_
      refine ez_iald (pc := 95) (n := 32) (a := 15) (v := s1.2.1 15 t0.toNatClampNeg) (M := ew_sI s1 18 (0 : Int32)) Z hE1 16 rfl (by decide : 15 < 36) rfl rfl h.1 dX5_town_95 ?_
      replace h := h.2
      refine ez_isub (pc := 96) Z dX5_town_96 ?_
      exact ez_iret (pc := 97) Z hR (ew_sI s1 18 (0 : Int32)) h rfl dX5_town_97
  · replace h := h.2 c1
    refine ez_sipush (pc := 73) Z dX5_town_73 es_m1000 ?_
    refine ez_iload_n (pc := 76) Z dX5_town_76 3 rfl rfl ?_
    refine ez_isub (pc := 77) Z dX5_town_77 ?_
    exact ez_iret (pc := 78) Z hR (ew_sI s1 18 (0 : Int32)) h rfl dX5_town_78
set_option maxHeartbeats 4000000 in
set_option maxRecDepth 100000 in
theorem tX5_town_46 {C : ew_C} {X : ew_X} {E : ew_M → ew_S} (hE1 : ew_GE X 50 (ew_GM X.2.1) E) (Z : ew_Z C X cX5_town 5 RX5 wsX5_town ({ frames := 4, cells := 0, slots := 0, locals := 95 } : Room) (some .int)) {Q : Int32 → ew_M → Prop}  {v1 : Int32} {s1 : ew_M} (hR : C.2.2.2.2.2.2.2.2.2.2 = MQ C.2.2.2.2.2.2.2.1 (va_Qi (fun (r : Int32) (u : ew_M) => Q r u) (fun (u : ew_M) => ew_wd X ((fun (u : ew_M) => E u) u)) X.2.2.1) C.2.2.2.2.2.2.1 C.2.2.2.2.1 0 0 X.2.2.1) (h : wX5_town_46 Q v1 s1) : ew_W C X 5 (E s1) 46 [(0, .ref (X.2.1 50)), (1, .int v1)] [] := by
  refine ez_aload_n (pc := 46) Z dX5_town_46 0 rfl rfl ?_
  refine fX5_at0 (pc := 47) (v := s1.1 28) Z hE1 rfl inX5_town (List.mem_of_getElem? (i := 1) rfl) dX5_town_47 ?_
  refine ez_istore_n (pc := 50) (L' := [(2, .int (s1.1 28)), (0, .ref (X.2.1 50)), (1, .int v1)]) Z dX5_town_50 rfl (by decide) rfl ?_
  refine ez_iload_n (pc := 51) Z dX5_town_51 2 rfl rfl ?_
  refine ez_if_eq (pc := 52) (tgt := 62) Z dX5_town_52 rfl (fun c1 => ?_) (fun c1 => ?_)
  · replace h := h.1 c1
    refine ez_iconst (pc := 62) Z dX5_town_62 ec_0 ?_
    refine ez_sub [(0, .ref (X.2.1 50)), (1, .int v1), (2, .int (s1.1 28))] [1, 2, 0] rfl ?_
    exact tX5_town_63 hE1 Z hR  h
  · replace h := h.2 c1
    refine ez_aload_n (pc := 55) Z dX5_town_55 1 rfl rfl ?_
    refine ez_callVi (pc := 56) (r := 50) (As := []) (st := []) Z (kX5_wrongOne Z.2.2.2.2.2.2.2.2.2.1 (E := E) hE1 h) gX5_town_X5_wrongOne rfl rfl rfl hdX5_wrongOne rfl rfl (by decide) (ew_oM hE1 _) rfl rfl rfl rfl dX5_town_56 (fun r2 u3 h => ?_)
    refine ez_goto (pc := 59) (tgt := 63) Z dX5_town_59 rfl ?_
    refine ez_sub [(0, .ref (X.2.1 50)), (1, .int v1), (2, .int (s1.1 28))] [1, 2, 0] rfl ?_
    exact tX5_town_63 hE1 Z hR  h
set_option maxHeartbeats 4000000 in
set_option maxRecDepth 100000 in
theorem tX5_town_23 {C : ew_C} {X : ew_X} {E : ew_M → ew_S} (hE1 : ew_GE X 50 (ew_GM X.2.1) E) (Z : ew_Z C X cX5_town 5 RX5 wsX5_town ({ frames := 4, cells := 0, slots := 0, locals := 95 } : Room) (some .int)) {Q : Int32 → ew_M → Prop} {R23 : Int32 × ew_M → Prop} {v1 : Int32} {s1 : ew_M} (hR : C.2.2.2.2.2.2.2.2.2.2 = MQ C.2.2.2.2.2.2.2.1 (va_Qi (fun (r : Int32) (u : ew_M) => Q r u) (fun (u : ew_M) => ew_wd X ((fun (u : ew_M) => E u) u)) X.2.2.1) C.2.2.2.2.2.2.1 C.2.2.2.2.1 0 0 X.2.2.1) (hR23 : ∀ x : Int32 × ew_M, R23 x → ew_W C X 5 (E x.2) 23 [(0, .ref (X.2.1 50)), (1, .int x.1)] []) (h : wX5_town_23 R23 Q v1 s1) : ew_W C X 5 (E s1) 23 [(0, .ref (X.2.1 50)), (1, .int v1)] [] := by
  refine ez_iload_n (pc := 23) Z dX5_town_23 1 rfl rfl ?_
  refine ez_if_eq (pc := 24) (tgt := 46) Z dX5_town_24 rfl (fun c1 => ?_) (fun c1 => ?_)
  · replace h := h.1 c1
    exact tX5_town_46 hE1 Z hR  h
  · replace h := h.2 c1
    refine ez_aload_n (pc := 27) Z dX5_town_27 0 rfl rfl ?_
    refine fX5_at0 (pc := 28) (v := s1.1 28) Z hE1 rfl inX5_town (List.mem_of_getElem? (i := 1) rfl) dX5_town_28 ?_
    refine ez_aload_n (pc := 31) Z dX5_town_31 0 rfl rfl ?_
    refine fX5_written (pc := 32) (v := s1.1 18) Z hE1 rfl inX5_town (List.mem_of_getElem? (i := 3) rfl) dX5_town_32 ?_
    refine ez_icmp_ge (pc := 35) (tgt := 46) Z dX5_town_35 rfl (fun c2 => ?_) (fun c2 => ?_)
    · replace h := h.1 c2
      exact tX5_town_46 hE1 Z hR  h
    · replace h := h.2 c2
      refine ez_aload_n (pc := 38) Z dX5_town_38 0 rfl rfl ?_
      refine ez_callVi (pc := 39) (r := 50) (As := []) (st := []) Z (kX5_statementTold Z.2.2.2.2.2.2.2.2.2.1 (E := E) hE1 h) gX5_town_X5_statementTold rfl rfl rfl hdX5_statementTold rfl rfl (by decide) (ew_oM hE1 _) rfl rfl rfl rfl dX5_town_39 (fun r3 m4 h => ?_)
      refine ez_istore_n (pc := 42) (L' := [(1, .int r3), (0, .ref (X.2.1 50))]) Z dX5_town_42 rfl (by decide) rfl ?_
      refine ez_goto (pc := 43) (tgt := 23) Z dX5_town_43 rfl ?_
      refine ez_sub [(0, .ref (X.2.1 50)), (1, .int r3)] [1, 0] rfl ?_
      exact hR23 _ h
set_option maxHeartbeats 4000000 in
set_option maxRecDepth 100000 in
theorem tX5_town_22 {C : ew_C} {X : ew_X} {E : ew_M → ew_S} (hE1 : ew_GE X 50 (ew_GM X.2.1) E) (Z : ew_Z C X cX5_town 5 RX5 wsX5_town ({ frames := 4, cells := 0, slots := 0, locals := 95 } : Room) (some .int)) {Q : Int32 → ew_M → Prop}  {t0 : Int32} {s1 : ew_M} (hR : C.2.2.2.2.2.2.2.2.2.2 = MQ C.2.2.2.2.2.2.2.1 (va_Qi (fun (r : Int32) (u : ew_M) => Q r u) (fun (u : ew_M) => ew_wd X ((fun (u : ew_M) => E u) u)) X.2.2.1) C.2.2.2.2.2.2.1 C.2.2.2.2.1 0 0 X.2.2.1) (h : wX5_town_22 Q t0 s1) : ew_W C X 5 (E s1) 22 [(0, .ref (X.2.1 50))] [.int t0] := by
  refine ez_istore_n (pc := 22) (L' := [(1, .int t0), (0, .ref (X.2.1 50))]) Z dX5_town_22 rfl (by decide) rfl ?_
  refine ez_sub [(0, .ref (X.2.1 50)), (1, .int t0)] [1, 0] rfl ?_
  exact ew_ind (P := fun (x : Int32 × ew_M) => ew_W C X 5 (E x.2) 23 [(0, .ref (X.2.1 50)), (1, .int x.1)] []) (fun R hR9 x h => tX5_town_23 hE1 Z hR  hR9 h) h
set_option maxHeartbeats 4000000 in
set_option maxRecDepth 100000 in
theorem kX5_town {X : ew_X} {l : Launch} (hX : ew_Ap X) {E : ew_M → ew_S} (hE1 : ew_GE X 50 (ew_GM X.2.1) E) {Q : Int32 → ew_M → Prop} {s1 : ew_M} (h : wX5_town Q s1) : Met l yX5_town wsX5_town ({ frames := 4, cells := 0, slots := 0, locals := 95 } : Room) (va_Pc [.ref (X.2.1 50)] (ew_wd X (E s1))) (va_Qi (fun (r : Int32) (u : ew_M) => Q r u) (fun (u : ew_M) => ew_wd X ((fun (u : ew_M) => E u) u)) X.2.2.1) 0 0 X.2.2.1 := by
  refine ew_met (As := [.ref (X.2.1 50)]) (L0 := [(0, .ref (X.2.1 50))]) X l hX (by decide) rfl rfl rfl rfl (fun C hl Z hR => ?_)
  subst hl
  refine ez_aload_n (pc := 0) Z dX5_town_0 0 rfl rfl ?_
  refine ez_iconst (pc := 1) Z dX5_town_1 ec_0 ?_
  refine pX5_at0 (pc := 2) (M := s1) (M' := ew_sI s1 28 (0 : Int32)) Z hE1 rfl inX5_town (List.mem_of_getElem? (i := 1) rfl) dX5_town_2 ?_
  refine ez_aload_n (pc := 5) Z dX5_town_5 0 rfl rfl ?_
  refine ez_iconst (pc := 6) Z dX5_town_6 ec_0 ?_
  refine pX5_told (pc := 7) (M := ew_sI s1 28 (0 : Int32)) (M' := ew_sI (ew_sI s1 28 (0 : Int32)) 23 (0 : Int32)) Z hE1 rfl inX5_town (List.mem_of_getElem? (i := 2) rfl) dX5_town_7 ?_
  refine ez_aload_n (pc := 10) Z dX5_town_10 0 rfl rfl ?_
  refine fX5_written (pc := 11) (v := s1.1 18) Z hE1 rfl inX5_town (List.mem_of_getElem? (i := 3) rfl) dX5_town_11 ?_
  refine ez_if_le (pc := 14) (tgt := 21) Z dX5_town_14 rfl (fun c1 => ?_) (fun c1 => ?_)
  · replace h := h.1 c1
    refine ez_iconst (pc := 21) Z dX5_town_21 ec_0 ?_
    exact tX5_town_22 hE1 Z hR  h
  · replace h := h.2 c1
    refine ez_iconst (pc := 17) Z dX5_town_17 ec_1 ?_
    refine ez_goto (pc := 18) (tgt := 22) Z dX5_town_18 rfl ?_
    exact tX5_town_22 hE1 Z hR  h
theorem inX5_bindsOf : ∀ w ∈ wsX50, w ∈ wsX5_bindsOf := fun _ h => List.mem_cons_of_mem _ (List.mem_append_right _ (h))
theorem hdX5_bindsOf : yX5_bindsOf.cls = RX5 ∧ yX5_bindsOf.cls ≠ "java/lang/invoke/MethodHandle" ∧ yX5_bindsOf.cls ≠ "java/lang/invoke/VarHandle" ∧ (parseMethodDescriptor yX5_bindsOf.desc).map (fun d => d.parameters.length) = some 1 := by decide +kernel
def wX5_bindsOf_29 (R4 : Int32 × Int32 → Prop) (Q : Int32 → Prop) (v1 : Int32) (v3 : Int32) (t0 : Int32) (t1 : Int32) (s1 : ew_M) : Prop := R4 (t1 ||| t0, v3 + (1 : Int32))
def wX5_bindsOf_4 (R4 : Int32 × Int32 → Prop) (Q : Int32 → Prop) (v1 : Int32) (v2 : Int32) (v3 : Int32) (s1 : ew_M) : Prop := ((s1.1 5) ≤ v3 → Q v2 ) ∧ (¬ (s1.1 5) ≤ v3 → wX5_isBound (fun (r2 : Int32) => (r2 = 0 → wX5_bindsOf_29 R4 Q v1 v3 (0 : Int32) v2 s1) ∧ (¬ r2 = 0 → wX5_bindsOf_29 R4 Q v1 v3 ((1 : Int32) <<< (v3 &&& 31)) v2 s1)) v1 v3 s1)
def wX5_bindsOf (Q : Int32 → Prop) (p1 : Int32) (s1 : ew_M) : Prop := ew_lp (fun (R : Int32 × Int32 → Prop) (x : Int32 × Int32) => wX5_bindsOf_4 R Q p1 x.1 x.2 s1) ((0 : Int32), (0 : Int32))
set_option maxHeartbeats 4000000 in
set_option maxRecDepth 100000 in
theorem tX5_bindsOf_29 {C : ew_C} {X : ew_X} {E : ew_M → ew_S} (hE1 : ew_GE X 50 (ew_GM X.2.1) E) (Z : ew_Z C X cX5_bindsOf 4 RX5 wsX5_bindsOf ({ frames := 1, cells := 0, slots := 0, locals := 22 } : Room) (some .int)) {Q : Int32 → Prop} {R4 : Int32 × Int32 → Prop} {v1 : Int32} {v3 : Int32} {t0 : Int32} {t1 : Int32} {s1 : ew_M} (hR : C.2.2.2.2.2.2.2.2.2.2 = MQ C.2.2.2.2.2.2.2.1 (va_Qi (fun (r : Int32) (_ : Unit) => Q r) (fun (u : Unit) => ew_wd X ((fun (_ : Unit) => E s1) u)) X.2.2.1) C.2.2.2.2.2.2.1 C.2.2.2.2.1 0 0 X.2.2.1) (hR4 : ∀ x : Int32 × Int32, R4 x → ew_W C X 4 (E s1) 4 [(0, .ref (X.2.1 50)), (1, .int v1), (2, .int x.1), (3, .int x.2)] []) (h : wX5_bindsOf_29 R4 Q v1 v3 t0 t1 s1) : ew_W C X 4 (E s1) 29 [(0, .ref (X.2.1 50)), (1, .int v1), (3, .int v3)] [.int t0, .int t1] := by
  refine ez_ior (pc := 29) Z dX5_bindsOf_29 ?_
  refine ez_istore_n (pc := 30) (L' := [(2, .int (t1 ||| t0)), (0, .ref (X.2.1 50)), (1, .int v1), (3, .int v3)]) Z dX5_bindsOf_30 rfl (by decide) rfl ?_
  refine ez_iinc (pc := 31) (L' := [(3, .int (v3 + (1 : Int32))), (2, .int (t1 ||| t0)), (0, .ref (X.2.1 50)), (1, .int v1)]) Z dX5_bindsOf_31 3 rfl (ei_1 _) (by decide) rfl ?_
  refine ez_goto (pc := 34) (tgt := 4) Z dX5_bindsOf_34 rfl ?_
  refine ez_sub [(0, .ref (X.2.1 50)), (1, .int v1), (2, .int (t1 ||| t0)), (3, .int (v3 + (1 : Int32)))] [2, 3, 1, 0] rfl ?_
  exact hR4 _ h
set_option maxHeartbeats 4000000 in
set_option maxRecDepth 100000 in
theorem tX5_bindsOf_4 {C : ew_C} {X : ew_X} {E : ew_M → ew_S} (hE1 : ew_GE X 50 (ew_GM X.2.1) E) (Z : ew_Z C X cX5_bindsOf 4 RX5 wsX5_bindsOf ({ frames := 1, cells := 0, slots := 0, locals := 22 } : Room) (some .int)) {Q : Int32 → Prop} {R4 : Int32 × Int32 → Prop} {v1 : Int32} {v2 : Int32} {v3 : Int32} {s1 : ew_M} (hR : C.2.2.2.2.2.2.2.2.2.2 = MQ C.2.2.2.2.2.2.2.1 (va_Qi (fun (r : Int32) (_ : Unit) => Q r) (fun (u : Unit) => ew_wd X ((fun (_ : Unit) => E s1) u)) X.2.2.1) C.2.2.2.2.2.2.1 C.2.2.2.2.1 0 0 X.2.2.1) (hR4 : ∀ x : Int32 × Int32, R4 x → ew_W C X 4 (E s1) 4 [(0, .ref (X.2.1 50)), (1, .int v1), (2, .int x.1), (3, .int x.2)] []) (h : wX5_bindsOf_4 R4 Q v1 v2 v3 s1) : ew_W C X 4 (E s1) 4 [(0, .ref (X.2.1 50)), (1, .int v1), (2, .int v2), (3, .int v3)] [] := by
  refine ez_iload_n (pc := 4) Z dX5_bindsOf_4 3 rfl rfl ?_
  refine ez_aload_n (pc := 5) Z dX5_bindsOf_5 0 rfl rfl ?_
  refine fX5_papers (pc := 6) (v := s1.1 5) Z hE1 rfl inX5_bindsOf (List.mem_of_getElem? (i := 1) rfl) dX5_bindsOf_6 ?_
  refine ez_icmp_ge (pc := 9) (tgt := 37) Z dX5_bindsOf_9 rfl (fun c1 => ?_) (fun c1 => ?_)
  · replace h := h.1 c1
    refine ez_iload_n (pc := 37) Z dX5_bindsOf_37 2 rfl rfl ?_
    exact ez_iret (pc := 38) Z hR () h rfl dX5_bindsOf_38
  · replace h := h.2 c1
    refine ez_iload_n (pc := 12) Z dX5_bindsOf_12 2 rfl rfl ?_
    refine ez_aload_n (pc := 13) Z dX5_bindsOf_13 0 rfl rfl ?_
    refine ez_iload_n (pc := 14) Z dX5_bindsOf_14 1 rfl rfl ?_
    refine ez_iload_n (pc := 15) Z dX5_bindsOf_15 3 rfl rfl ?_
    refine ez_callVi (pc := 16) (r := 50) (As := [.int v1, .int v3]) (st := [.int v2]) Z (kX5_isBound Z.2.2.2.2.2.2.2.2.2.1 (E := E) hE1 h) gX5_bindsOf_X5_isBound rfl rfl rfl hdX5_isBound rfl rfl (by decide) (ew_oM hE1 _) rfl rfl rfl rfl dX5_bindsOf_16 (fun r2 u3 h => ?_)
    refine ez_if_eq (pc := 19) (tgt := 28) Z dX5_bindsOf_19 rfl (fun c4 => ?_) (fun c4 => ?_)
    · replace h := h.1 c4
      refine ez_iconst (pc := 28) Z dX5_bindsOf_28 ec_0 ?_
      refine ez_sub [(0, .ref (X.2.1 50)), (1, .int v1), (3, .int v3)] [0, 1, 3] rfl ?_
      exact tX5_bindsOf_29 hE1 Z hR hR4 h
    · replace h := h.2 c4
      refine ez_iconst (pc := 22) Z dX5_bindsOf_22 ec_1 ?_
      refine ez_iload_n (pc := 23) Z dX5_bindsOf_23 3 rfl rfl ?_
      refine ez_ishl (pc := 24) Z dX5_bindsOf_24 ?_
      refine ez_goto (pc := 25) (tgt := 29) Z dX5_bindsOf_25 rfl ?_
      refine ez_sub [(0, .ref (X.2.1 50)), (1, .int v1), (3, .int v3)] [0, 1, 3] rfl ?_
      exact tX5_bindsOf_29 hE1 Z hR hR4 h
set_option maxHeartbeats 4000000 in
set_option maxRecDepth 100000 in
theorem kX5_bindsOf {X : ew_X} {l : Launch} (hX : ew_Ap X) {E : ew_M → ew_S} (hE1 : ew_GE X 50 (ew_GM X.2.1) E) {Q : Int32 → Prop} {p1 : Int32} {s1 : ew_M} (h : wX5_bindsOf Q p1 s1) : Met l yX5_bindsOf wsX5_bindsOf ({ frames := 1, cells := 0, slots := 0, locals := 22 } : Room) (va_Pc [.ref (X.2.1 50), .int p1] (ew_wd X (E s1))) (va_Qi (fun (r : Int32) (_ : Unit) => Q r) (fun (u : Unit) => ew_wd X ((fun (_ : Unit) => E s1) u)) X.2.2.1) 0 0 X.2.2.1 := by
  refine ew_met (As := [.ref (X.2.1 50), .int p1]) (L0 := [(0, .ref (X.2.1 50)), (1, .int p1)]) X l hX (by decide) rfl rfl rfl rfl (fun C hl Z hR => ?_)
  subst hl
  refine ez_iconst (pc := 0) Z dX5_bindsOf_0 ec_0 ?_
  refine ez_istore_n (pc := 1) (L' := [(2, .int (0 : Int32)), (0, .ref (X.2.1 50)), (1, .int p1)]) Z dX5_bindsOf_1 rfl (by decide) rfl ?_
  refine ez_iconst (pc := 2) Z dX5_bindsOf_2 ec_0 ?_
  refine ez_istore_n (pc := 3) (L' := [(3, .int (0 : Int32)), (2, .int (0 : Int32)), (0, .ref (X.2.1 50)), (1, .int p1)]) Z dX5_bindsOf_3 rfl (by decide) rfl ?_
  refine ez_sub [(0, .ref (X.2.1 50)), (1, .int p1), (2, .int (0 : Int32)), (3, .int (0 : Int32))] [2, 3, 1, 0] rfl ?_
  exact ew_ind (P := fun (x : Int32 × Int32) => ew_W C X 4 (E s1) 4 [(0, .ref (X.2.1 50)), (1, .int p1), (2, .int x.1), (3, .int x.2)] []) (fun R hR9 x h => tX5_bindsOf_4 hE1 Z hR  hR9 h) h
theorem inX5_readBy : ∀ w ∈ wsX50, w ∈ wsX5_readBy := fun _ h => List.mem_cons_of_mem _ (List.mem_append_right _ (h))
theorem hdX5_readBy : yX5_readBy.cls = RX5 ∧ yX5_readBy.cls ≠ "java/lang/invoke/MethodHandle" ∧ yX5_readBy.cls ≠ "java/lang/invoke/VarHandle" ∧ (parseMethodDescriptor yX5_readBy.desc).map (fun d => d.parameters.length) = some 1 := by decide +kernel
def wX5_readBy_29 (R4 : Int32 × Int32 → Prop) (Q : Int32 → Prop) (v1 : Int32) (v3 : Int32) (t0 : Int32) (t1 : Int32) (s1 : ew_M) : Prop := R4 (t1 ||| t0, v3 + (1 : Int32))
def wX5_readBy_4 (R4 : Int32 × Int32 → Prop) (Q : Int32 → Prop) (v1 : Int32) (v2 : Int32) (v3 : Int32) (s1 : ew_M) : Prop := ((s1.1 5) ≤ v3 → Q v2 ) ∧ (¬ (s1.1 5) ≤ v3 → wX5_hasRead (fun (r2 : Int32) => (r2 = 0 → wX5_readBy_29 R4 Q v1 v3 (0 : Int32) v2 s1) ∧ (¬ r2 = 0 → wX5_readBy_29 R4 Q v1 v3 ((1 : Int32) <<< (v3 &&& 31)) v2 s1)) v1 v3 s1)
def wX5_readBy (Q : Int32 → Prop) (p1 : Int32) (s1 : ew_M) : Prop := ew_lp (fun (R : Int32 × Int32 → Prop) (x : Int32 × Int32) => wX5_readBy_4 R Q p1 x.1 x.2 s1) ((0 : Int32), (0 : Int32))
set_option maxHeartbeats 4000000 in
set_option maxRecDepth 100000 in
theorem tX5_readBy_29 {C : ew_C} {X : ew_X} {E : ew_M → ew_S} (hE1 : ew_GE X 50 (ew_GM X.2.1) E) (Z : ew_Z C X cX5_readBy 4 RX5 wsX5_readBy ({ frames := 1, cells := 0, slots := 0, locals := 22 } : Room) (some .int)) {Q : Int32 → Prop} {R4 : Int32 × Int32 → Prop} {v1 : Int32} {v3 : Int32} {t0 : Int32} {t1 : Int32} {s1 : ew_M} (hR : C.2.2.2.2.2.2.2.2.2.2 = MQ C.2.2.2.2.2.2.2.1 (va_Qi (fun (r : Int32) (_ : Unit) => Q r) (fun (u : Unit) => ew_wd X ((fun (_ : Unit) => E s1) u)) X.2.2.1) C.2.2.2.2.2.2.1 C.2.2.2.2.1 0 0 X.2.2.1) (hR4 : ∀ x : Int32 × Int32, R4 x → ew_W C X 4 (E s1) 4 [(0, .ref (X.2.1 50)), (1, .int v1), (2, .int x.1), (3, .int x.2)] []) (h : wX5_readBy_29 R4 Q v1 v3 t0 t1 s1) : ew_W C X 4 (E s1) 29 [(0, .ref (X.2.1 50)), (1, .int v1), (3, .int v3)] [.int t0, .int t1] := by
  refine ez_ior (pc := 29) Z dX5_readBy_29 ?_
  refine ez_istore_n (pc := 30) (L' := [(2, .int (t1 ||| t0)), (0, .ref (X.2.1 50)), (1, .int v1), (3, .int v3)]) Z dX5_readBy_30 rfl (by decide) rfl ?_
  refine ez_iinc (pc := 31) (L' := [(3, .int (v3 + (1 : Int32))), (2, .int (t1 ||| t0)), (0, .ref (X.2.1 50)), (1, .int v1)]) Z dX5_readBy_31 3 rfl (ei_1 _) (by decide) rfl ?_
  refine ez_goto (pc := 34) (tgt := 4) Z dX5_readBy_34 rfl ?_
  refine ez_sub [(0, .ref (X.2.1 50)), (1, .int v1), (2, .int (t1 ||| t0)), (3, .int (v3 + (1 : Int32)))] [2, 3, 1, 0] rfl ?_
  exact hR4 _ h
set_option maxHeartbeats 4000000 in
set_option maxRecDepth 100000 in
theorem tX5_readBy_4 {C : ew_C} {X : ew_X} {E : ew_M → ew_S} (hE1 : ew_GE X 50 (ew_GM X.2.1) E) (Z : ew_Z C X cX5_readBy 4 RX5 wsX5_readBy ({ frames := 1, cells := 0, slots := 0, locals := 22 } : Room) (some .int)) {Q : Int32 → Prop} {R4 : Int32 × Int32 → Prop} {v1 : Int32} {v2 : Int32} {v3 : Int32} {s1 : ew_M} (hR : C.2.2.2.2.2.2.2.2.2.2 = MQ C.2.2.2.2.2.2.2.1 (va_Qi (fun (r : Int32) (_ : Unit) => Q r) (fun (u : Unit) => ew_wd X ((fun (_ : Unit) => E s1) u)) X.2.2.1) C.2.2.2.2.2.2.1 C.2.2.2.2.1 0 0 X.2.2.1) (hR4 : ∀ x : Int32 × Int32, R4 x → ew_W C X 4 (E s1) 4 [(0, .ref (X.2.1 50)), (1, .int v1), (2, .int x.1), (3, .int x.2)] []) (h : wX5_readBy_4 R4 Q v1 v2 v3 s1) : ew_W C X 4 (E s1) 4 [(0, .ref (X.2.1 50)), (1, .int v1), (2, .int v2), (3, .int v3)] [] := by
  refine ez_iload_n (pc := 4) Z dX5_readBy_4 3 rfl rfl ?_
  refine ez_aload_n (pc := 5) Z dX5_readBy_5 0 rfl rfl ?_
  refine fX5_papers (pc := 6) (v := s1.1 5) Z hE1 rfl inX5_readBy (List.mem_of_getElem? (i := 1) rfl) dX5_readBy_6 ?_
  refine ez_icmp_ge (pc := 9) (tgt := 37) Z dX5_readBy_9 rfl (fun c1 => ?_) (fun c1 => ?_)
  · replace h := h.1 c1
    refine ez_iload_n (pc := 37) Z dX5_readBy_37 2 rfl rfl ?_
    exact ez_iret (pc := 38) Z hR () h rfl dX5_readBy_38
  · replace h := h.2 c1
    refine ez_iload_n (pc := 12) Z dX5_readBy_12 2 rfl rfl ?_
    refine ez_aload_n (pc := 13) Z dX5_readBy_13 0 rfl rfl ?_
    refine ez_iload_n (pc := 14) Z dX5_readBy_14 1 rfl rfl ?_
    refine ez_iload_n (pc := 15) Z dX5_readBy_15 3 rfl rfl ?_
    refine ez_callVi (pc := 16) (r := 50) (As := [.int v1, .int v3]) (st := [.int v2]) Z (kX5_hasRead Z.2.2.2.2.2.2.2.2.2.1 (E := E) hE1 h) gX5_readBy_X5_hasRead rfl rfl rfl hdX5_hasRead rfl rfl (by decide) (ew_oM hE1 _) rfl rfl rfl rfl dX5_readBy_16 (fun r2 u3 h => ?_)
    refine ez_if_eq (pc := 19) (tgt := 28) Z dX5_readBy_19 rfl (fun c4 => ?_) (fun c4 => ?_)
    · replace h := h.1 c4
      refine ez_iconst (pc := 28) Z dX5_readBy_28 ec_0 ?_
      refine ez_sub [(0, .ref (X.2.1 50)), (1, .int v1), (3, .int v3)] [0, 1, 3] rfl ?_
      exact tX5_readBy_29 hE1 Z hR hR4 h
    · replace h := h.2 c4
      refine ez_iconst (pc := 22) Z dX5_readBy_22 ec_1 ?_
      refine ez_iload_n (pc := 23) Z dX5_readBy_23 3 rfl rfl ?_
      refine ez_ishl (pc := 24) Z dX5_readBy_24 ?_
      refine ez_goto (pc := 25) (tgt := 29) Z dX5_readBy_25 rfl ?_
      refine ez_sub [(0, .ref (X.2.1 50)), (1, .int v1), (3, .int v3)] [0, 1, 3] rfl ?_
      exact tX5_readBy_29 hE1 Z hR hR4 h
set_option maxHeartbeats 4000000 in
set_option maxRecDepth 100000 in
theorem kX5_readBy {X : ew_X} {l : Launch} (hX : ew_Ap X) {E : ew_M → ew_S} (hE1 : ew_GE X 50 (ew_GM X.2.1) E) {Q : Int32 → Prop} {p1 : Int32} {s1 : ew_M} (h : wX5_readBy Q p1 s1) : Met l yX5_readBy wsX5_readBy ({ frames := 1, cells := 0, slots := 0, locals := 22 } : Room) (va_Pc [.ref (X.2.1 50), .int p1] (ew_wd X (E s1))) (va_Qi (fun (r : Int32) (_ : Unit) => Q r) (fun (u : Unit) => ew_wd X ((fun (_ : Unit) => E s1) u)) X.2.2.1) 0 0 X.2.2.1 := by
  refine ew_met (As := [.ref (X.2.1 50), .int p1]) (L0 := [(0, .ref (X.2.1 50)), (1, .int p1)]) X l hX (by decide) rfl rfl rfl rfl (fun C hl Z hR => ?_)
  subst hl
  refine ez_iconst (pc := 0) Z dX5_readBy_0 ec_0 ?_
  refine ez_istore_n (pc := 1) (L' := [(2, .int (0 : Int32)), (0, .ref (X.2.1 50)), (1, .int p1)]) Z dX5_readBy_1 rfl (by decide) rfl ?_
  refine ez_iconst (pc := 2) Z dX5_readBy_2 ec_0 ?_
  refine ez_istore_n (pc := 3) (L' := [(3, .int (0 : Int32)), (2, .int (0 : Int32)), (0, .ref (X.2.1 50)), (1, .int p1)]) Z dX5_readBy_3 rfl (by decide) rfl ?_
  refine ez_sub [(0, .ref (X.2.1 50)), (1, .int p1), (2, .int (0 : Int32)), (3, .int (0 : Int32))] [2, 3, 1, 0] rfl ?_
  exact ew_ind (P := fun (x : Int32 × Int32) => ew_W C X 4 (E s1) 4 [(0, .ref (X.2.1 50)), (1, .int p1), (2, .int x.1), (3, .int x.2)] []) (fun R hR9 x h => tX5_readBy_4 hE1 Z hR  hR9 h) h
theorem inX5_person : ∀ w ∈ wsX50, w ∈ wsX5_person := fun _ h => List.mem_cons_of_mem _ (List.mem_append_right _ (h))
theorem hdX5_person : yX5_person.cls = RX5 ∧ yX5_person.cls ≠ "java/lang/invoke/MethodHandle" ∧ yX5_person.cls ≠ "java/lang/invoke/VarHandle" ∧ (parseMethodDescriptor yX5_person.desc).map (fun d => d.parameters.length) = some 2 := by decide +kernel
def wX5_person (Q : Int32 → ew_M → Prop) (p1 : Int32) (p2 : Int32) (s1 : ew_M) : Prop := wX5_isPerson (fun (r1 : Int32) => (¬ r1 = 0 → (p2 = (0 : Int32) → vp_in p1 6 ∧ (Q (s1.2.1 0 p1.toNatClampNeg) s1)) ∧ (¬ p2 = (0 : Int32) → (p2 = (1 : Int32) → vp_in p1 6 ∧ (Q (s1.2.1 1 p1.toNatClampNeg) s1)) ∧ (¬ p2 = (1 : Int32) → (p2 = (2 : Int32) → vp_in p1 6 ∧ (Q (s1.2.1 2 p1.toNatClampNeg) s1)) ∧ (¬ p2 = (2 : Int32) → (p2 = (3 : Int32) → wX5_bindsOf (fun (r8 : Int32) => Q r8 s1) p1 s1) ∧ (¬ p2 = (3 : Int32) → (p2 = (4 : Int32) → wX5_readBy (fun (r11 : Int32) => Q r11 s1) p1 s1) ∧ (¬ p2 = (4 : Int32) → wX5_refuse (fun (r13 : Int32) (m14 : ew_M) => Q r13 m14) (-2 : Int32) s1)))))) ∧ (r1 = 0 → wX5_refuse (fun (r15 : Int32) (m16 : ew_M) => Q r15 m16) (-1 : Int32) s1)) p1 s1
set_option maxHeartbeats 4000000 in
set_option maxRecDepth 100000 in
theorem kX5_person {X : ew_X} {l : Launch} (hX : ew_Ap X) {E : ew_M → ew_S} (hE1 : ew_GE X 50 (ew_GM X.2.1) E) {Q : Int32 → ew_M → Prop} {p1 : Int32} {p2 : Int32} {s1 : ew_M} (h : wX5_person Q p1 p2 s1) : Met l yX5_person wsX5_person ({ frames := 2, cells := 0, slots := 0, locals := 45 } : Room) (va_Pc [.ref (X.2.1 50), .int p1, .int p2] (ew_wd X (E s1))) (va_Qi (fun (r : Int32) (u : ew_M) => Q r u) (fun (u : ew_M) => ew_wd X ((fun (u : ew_M) => E u) u)) X.2.2.1) 0 0 X.2.2.1 := by
  refine ew_met (As := [.ref (X.2.1 50), .int p1, .int p2]) (L0 := [(0, .ref (X.2.1 50)), (1, .int p1), (2, .int p2)]) X l hX (by decide) rfl rfl rfl rfl (fun C hl Z hR => ?_)
  subst hl
  refine ez_aload_n (pc := 0) Z dX5_person_0 0 rfl rfl ?_
  refine ez_iload_n (pc := 1) Z dX5_person_1 1 rfl rfl ?_
  refine ez_callVi (pc := 2) (r := 50) (As := [.int p1]) (st := []) Z (kX5_isPerson Z.2.2.2.2.2.2.2.2.2.1 (E := E) hE1 h) gX5_person_X5_isPerson rfl rfl rfl hdX5_isPerson rfl rfl (by decide) (ew_oM hE1 _) rfl rfl rfl rfl dX5_person_2 (fun r1 u2 h => ?_)
  refine ez_if_ne (pc := 5) (tgt := 14) Z dX5_person_5 rfl (fun c3 => ?_) (fun c3 => ?_)
  · replace h := h.1 c3
    refine ez_iload_n (pc := 14) Z dX5_person_14 2 rfl rfl ?_
    by_cases c4 : p2 = (0 : Int32)
    · replace h := h.1 c4
      refine ez_tabI (pc := 15) (off := 33) (tgt := 48) Z dX5_person_15 (0 : Int32) c4 (by decide) (by decide) (by decide) rfl ?_
      refine ez_aload_n (pc := 48) Z dX5_person_48 0 rfl rfl ?_
      refine fX5_kind (pc := 49) (M := s1) Z hE1 inX5_person (List.mem_of_getElem? (i := 1) rfl) dX5_person_49 ?_
      refine ez_iload_n (pc := 52) Z dX5_person_52 1 rfl rfl ?_
      refine ez_iald (pc := 53) (n := 6) (a := 0) (v := s1.2.1 0 p1.toNatClampNeg) (M := s1) Z hE1 1 rfl (by decide : 0 < 36) rfl rfl h.1 dX5_person_53 ?_
      replace h := h.2
      exact ez_iret (pc := 54) Z hR s1 h rfl dX5_person_54
    · replace h := h.2 c4
      by_cases c5 : p2 = (1 : Int32)
      · replace h := h.1 c5
        refine ez_tabI (pc := 15) (off := 40) (tgt := 55) Z dX5_person_15 (1 : Int32) c5 (by decide) (by decide) (by decide) rfl ?_
        refine ez_aload_n (pc := 55) Z dX5_person_55 0 rfl rfl ?_
        refine fX5_bar (pc := 56) (M := s1) Z hE1 inX5_person (List.mem_of_getElem? (i := 2) rfl) dX5_person_56 ?_
        refine ez_iload_n (pc := 59) Z dX5_person_59 1 rfl rfl ?_
        refine ez_iald (pc := 60) (n := 6) (a := 1) (v := s1.2.1 1 p1.toNatClampNeg) (M := s1) Z hE1 2 rfl (by decide : 1 < 36) rfl rfl h.1 dX5_person_60 ?_
        replace h := h.2
        exact ez_iret (pc := 61) Z hR s1 h rfl dX5_person_61
      · replace h := h.2 c5
        by_cases c6 : p2 = (2 : Int32)
        · replace h := h.1 c6
          refine ez_tabI (pc := 15) (off := 47) (tgt := 62) Z dX5_person_15 (2 : Int32) c6 (by decide) (by decide) (by decide) rfl ?_
          refine ez_aload_n (pc := 62) Z dX5_person_62 0 rfl rfl ?_
          refine fX5_patience (pc := 63) (M := s1) Z hE1 inX5_person (List.mem_of_getElem? (i := 3) rfl) dX5_person_63 ?_
          refine ez_iload_n (pc := 66) Z dX5_person_66 1 rfl rfl ?_
          refine ez_iald (pc := 67) (n := 6) (a := 2) (v := s1.2.1 2 p1.toNatClampNeg) (M := s1) Z hE1 3 rfl (by decide : 2 < 36) rfl rfl h.1 dX5_person_67 ?_
          replace h := h.2
          exact ez_iret (pc := 68) Z hR s1 h rfl dX5_person_68
        · replace h := h.2 c6
          by_cases c7 : p2 = (3 : Int32)
          · replace h := h.1 c7
            refine ez_tabI (pc := 15) (off := 54) (tgt := 69) Z dX5_person_15 (3 : Int32) c7 (by decide) (by decide) (by decide) rfl ?_
            refine ez_aload_n (pc := 69) Z dX5_person_69 0 rfl rfl ?_
            refine ez_iload_n (pc := 70) Z dX5_person_70 1 rfl rfl ?_
            refine ez_callVi (pc := 71) (r := 50) (As := [.int p1]) (st := []) Z (kX5_bindsOf Z.2.2.2.2.2.2.2.2.2.1 (E := E) hE1 h) gX5_person_X5_bindsOf rfl rfl rfl hdX5_bindsOf rfl rfl (by decide) (ew_oM hE1 _) rfl rfl rfl rfl dX5_person_71 (fun r8 u9 h => ?_)
            exact ez_iret (pc := 74) Z hR s1 h rfl dX5_person_74
          · replace h := h.2 c7
            by_cases c10 : p2 = (4 : Int32)
            · replace h := h.1 c10
              refine ez_tabI (pc := 15) (off := 60) (tgt := 75) Z dX5_person_15 (4 : Int32) c10 (by decide) (by decide) (by decide) rfl ?_
              refine ez_aload_n (pc := 75) Z dX5_person_75 0 rfl rfl ?_
              refine ez_iload_n (pc := 76) Z dX5_person_76 1 rfl rfl ?_
              refine ez_callVi (pc := 77) (r := 50) (As := [.int p1]) (st := []) Z (kX5_readBy Z.2.2.2.2.2.2.2.2.2.1 (E := E) hE1 h) gX5_person_X5_readBy rfl rfl rfl hdX5_readBy rfl rfl (by decide) (ew_oM hE1 _) rfl rfl rfl rfl dX5_person_77 (fun r11 u12 h => ?_)
              exact ez_iret (pc := 80) Z hR s1 h rfl dX5_person_80
            · replace h := h.2 c10
              have gc4 := ez_nt c4
              have gc5 := ez_nt c5
              have gc6 := ez_nt c6
              have gc7 := ez_nt c7
              have gc10 := ez_nt c10
              refine ez_tabO (pc := 15) (tgt := 81) Z dX5_person_15 (by simp only [ez_t0, ez_t1, ez_t2, ez_t3, ez_t4] at gc4 gc5 gc6 gc7 gc10; omega) rfl ?_
              refine ez_aload_n (pc := 81) Z dX5_person_81 0 rfl rfl ?_
              refine ez_bipush (pc := 82) Z dX5_person_82 eb_m2 ?_
              refine ez_callVi (pc := 84) (r := 50) (As := [.int (-2 : Int32)]) (st := []) Z (kX5_refuse Z.2.2.2.2.2.2.2.2.2.1 (E := E) hE1 h) gX5_person_X5_refuse rfl rfl rfl hdX5_refuse rfl rfl (by decide) (ew_oM hE1 _) rfl rfl rfl rfl dX5_person_84 (fun r13 m14 h => ?_)
              exact ez_iret (pc := 87) Z hR m14 h rfl dX5_person_87
  · replace h := h.2 c3
    refine ez_aload_n (pc := 8) Z dX5_person_8 0 rfl rfl ?_
    refine ez_iconst (pc := 9) Z dX5_person_9 ec_m1 ?_
    refine ez_callVi (pc := 10) (r := 50) (As := [.int (-1 : Int32)]) (st := []) Z (kX5_refuse Z.2.2.2.2.2.2.2.2.2.1 (E := E) hE1 h) gX5_person_X5_refuse rfl rfl rfl hdX5_refuse rfl rfl (by decide) (ew_oM hE1 _) rfl rfl rfl rfl dX5_person_10 (fun r15 m16 h => ?_)
    exact ez_iret (pc := 13) Z hR m16 h rfl dX5_person_13
theorem hdX5_ones : yX5_ones.cls ≠ "java/lang/invoke/MethodHandle" ∧ yX5_ones.cls ≠ "java/lang/invoke/VarHandle" ∧ (parseMethodDescriptor yX5_ones.desc).map (fun d => d.parameters.length) = some 1 := by decide +kernel
def wX5_ones_4 (R4 : Int32 × Int32 → Prop) (Q : Int32 → Prop) (v0 : Int32) (v1 : Int32) (v2 : Int32) : Prop := ((6 : Int32) ≤ v2 → Q v1 ) ∧ (¬ (6 : Int32) ≤ v2 → R4 (v1 + ((v0 >>> (v2 &&& 31)) &&& (1 : Int32)), v2 + (1 : Int32)))
def wX5_ones (Q : Int32 → Prop) (p1 : Int32) : Prop := ew_lp (fun (R : Int32 × Int32 → Prop) (x : Int32 × Int32) => wX5_ones_4 R Q p1 x.1 x.2) ((0 : Int32), (0 : Int32))
set_option maxHeartbeats 4000000 in
set_option maxRecDepth 100000 in
theorem tX5_ones_4 {C : ew_C} {X : ew_X} {S : ew_S} (Z : ew_Z C X cX5_ones 3 RX5 wsX5_ones ({ frames := 0, cells := 0, slots := 0, locals := 0 } : Room) (some .int)) {Q : Int32 → Prop} {R4 : Int32 × Int32 → Prop} {v0 : Int32} {v1 : Int32} {v2 : Int32} (hR : C.2.2.2.2.2.2.2.2.2.2 = MQ C.2.2.2.2.2.2.2.1 (va_Qi (fun (r : Int32) (_ : Unit) => Q r) (fun (u : Unit) => ew_wd X ((fun (_ : Unit) => S) u)) X.2.2.1) C.2.2.2.2.2.2.1 C.2.2.2.2.1 0 0 X.2.2.1) (hR4 : ∀ x : Int32 × Int32, R4 x → ew_W C X 3 (S) 4 [(0, .int v0), (1, .int x.1), (2, .int x.2)] []) (h : wX5_ones_4 R4 Q v0 v1 v2) : ew_W C X 3 (S) 4 [(0, .int v0), (1, .int v1), (2, .int v2)] [] := by
  refine ez_iload_n (pc := 4) Z dX5_ones_4 2 rfl rfl ?_
  refine ez_bipush (pc := 5) Z dX5_ones_5 eb_6 ?_
  refine ez_icmp_ge (pc := 7) (tgt := 24) Z dX5_ones_7 rfl (fun c1 => ?_) (fun c1 => ?_)
  · replace h := h.1 c1
    refine ez_iload_n (pc := 24) Z dX5_ones_24 1 rfl rfl ?_
    exact ez_iret (pc := 25) Z hR () h rfl dX5_ones_25
  · replace h := h.2 c1
    refine ez_iload_n (pc := 10) Z dX5_ones_10 1 rfl rfl ?_
    refine ez_iload_n (pc := 11) Z dX5_ones_11 0 rfl rfl ?_
    refine ez_iload_n (pc := 12) Z dX5_ones_12 2 rfl rfl ?_
    refine ez_ishr (pc := 13) Z dX5_ones_13 ?_
    refine ez_iconst (pc := 14) Z dX5_ones_14 ec_1 ?_
    refine ez_iand (pc := 15) Z dX5_ones_15 ?_
    refine ez_iadd (pc := 16) Z dX5_ones_16 ?_
    refine ez_istore_n (pc := 17) (L' := [(1, .int (v1 + ((v0 >>> (v2 &&& 31)) &&& (1 : Int32)))), (0, .int v0), (2, .int v2)]) Z dX5_ones_17 rfl (by decide) rfl ?_
    refine ez_iinc (pc := 18) (L' := [(2, .int (v2 + (1 : Int32))), (1, .int (v1 + ((v0 >>> (v2 &&& 31)) &&& (1 : Int32)))), (0, .int v0)]) Z dX5_ones_18 2 rfl (ei_1 _) (by decide) rfl ?_
    refine ez_goto (pc := 21) (tgt := 4) Z dX5_ones_21 rfl ?_
    refine ez_sub [(0, .int v0), (1, .int (v1 + ((v0 >>> (v2 &&& 31)) &&& (1 : Int32)))), (2, .int (v2 + (1 : Int32)))] [2, 1, 0] rfl ?_
    exact hR4 _ h
set_option maxHeartbeats 4000000 in
set_option maxRecDepth 100000 in
theorem kX5_ones {X : ew_X} {l : Launch} (hX : ew_Ap X) {S : ew_S} {Q : Int32 → Prop} {p1 : Int32} (h : wX5_ones Q p1) : Met l yX5_ones wsX5_ones ({ frames := 0, cells := 0, slots := 0, locals := 0 } : Room) (va_Pc [.int p1] (ew_wd X (S))) (va_Qi (fun (r : Int32) (_ : Unit) => Q r) (fun (u : Unit) => ew_wd X ((fun (_ : Unit) => S) u)) X.2.2.1) 0 0 X.2.2.1 := by
  refine ew_met (As := [.int p1]) (L0 := [(0, .int p1)]) X l hX (by decide) rfl rfl rfl rfl (fun C hl Z hR => ?_)
  subst hl
  refine ez_iconst (pc := 0) Z dX5_ones_0 ec_0 ?_
  refine ez_istore_n (pc := 1) (L' := [(1, .int (0 : Int32)), (0, .int p1)]) Z dX5_ones_1 rfl (by decide) rfl ?_
  refine ez_iconst (pc := 2) Z dX5_ones_2 ec_0 ?_
  refine ez_istore_n (pc := 3) (L' := [(2, .int (0 : Int32)), (1, .int (0 : Int32)), (0, .int p1)]) Z dX5_ones_3 rfl (by decide) rfl ?_
  refine ez_sub [(0, .int p1), (1, .int (0 : Int32)), (2, .int (0 : Int32))] [2, 1, 0] rfl ?_
  exact ew_ind (P := fun (x : Int32 × Int32) => ew_W C X 3 (S) 4 [(0, .int p1), (1, .int x.1), (2, .int x.2)] []) (fun R hR9 x h => tX5_ones_4  Z hR  hR9 h) h
theorem inX5_forceBy : ∀ w ∈ wsX50, w ∈ wsX5_forceBy := fun _ h => List.mem_cons_of_mem _ (List.mem_append_right _ (h))
theorem hdX5_forceBy : yX5_forceBy.cls = RX5 ∧ yX5_forceBy.cls ≠ "java/lang/invoke/MethodHandle" ∧ yX5_forceBy.cls ≠ "java/lang/invoke/VarHandle" ∧ (parseMethodDescriptor yX5_forceBy.desc).map (fun d => d.parameters.length) = some 3 := by decide +kernel
def wX5_forceBy_94  (Q : Int32 → Prop) (t0 : Int32) (t1 : Int32) (s1 : ew_M) : Prop := (t0 ≤ t1 → Q (0 : Int32) ) ∧ (¬ t0 ≤ t1 → Q (1 : Int32) )
def wX5_forceBy (Q : Int32 → Prop) (p1 : Int32) (p2 : Int32) (p3 : Int32) (s1 : ew_M) : Prop := vp_in p1 5 ∧ (wX5_ones (fun (r1 : Int32) => (p2 = (0 : Int32) → (r1 ≤ p3 → Q (0 : Int32) ) ∧ (¬ r1 ≤ p3 → Q (1 : Int32) )) ∧ (¬ p2 = (0 : Int32) → (p2 = (1 : Int32) → ((1 : Int32) ≤ p3 → Q (0 : Int32) ) ∧ (¬ (1 : Int32) ≤ p3 → Q (1 : Int32) )) ∧ (¬ p2 = (1 : Int32) → (p2 = (2 : Int32) → (r1 < ((2 : Int32) * p3) → Q (0 : Int32) ) ∧ (¬ r1 < ((2 : Int32) * p3) → Q (1 : Int32) )) ∧ (¬ p2 = (2 : Int32) → (p2 = (3 : Int32) → ((2 : Int32) ≤ r1 → wX5_forceBy_94 Q (2 : Int32) p3 s1) ∧ (¬ (2 : Int32) ≤ r1 → wX5_forceBy_94 Q r1 p3 s1)) ∧ (¬ p2 = (3 : Int32) → Q (1 : Int32) ))))) (s1.2.1 4 p1.toNatClampNeg))
set_option maxHeartbeats 4000000 in
set_option maxRecDepth 100000 in
theorem tX5_forceBy_94 {C : ew_C} {X : ew_X} {E : ew_M → ew_S} (hE1 : ew_GE X 50 (ew_GM X.2.1) E) (Z : ew_Z C X cX5_forceBy 5 RX5 wsX5_forceBy ({ frames := 1, cells := 0, slots := 0, locals := 22 } : Room) (some .boolean)) {Q : Int32 → Prop}  {t0 : Int32} {t1 : Int32} {s1 : ew_M} (hR : C.2.2.2.2.2.2.2.2.2.2 = MQ C.2.2.2.2.2.2.2.1 (va_Qi (fun (r : Int32) (_ : Unit) => Q r) (fun (u : Unit) => ew_wd X ((fun (_ : Unit) => E s1) u)) X.2.2.1) C.2.2.2.2.2.2.1 C.2.2.2.2.1 0 0 X.2.2.1) (h : wX5_forceBy_94 Q t0 t1 s1) : ew_W C X 5 (E s1) 94 [] [.int t0, .int t1] := by
  refine ez_icmp_ge (pc := 94) (tgt := 101) Z dX5_forceBy_94 rfl (fun c1 => ?_) (fun c1 => ?_)
  · replace h := h.1 c1
    refine ez_iconst (pc := 101) Z dX5_forceBy_101 ec_0 ?_
    exact ez_zret (pc := 102) Z hR () rfl h rfl dX5_forceBy_102
  · replace h := h.2 c1
    refine ez_iconst (pc := 97) Z dX5_forceBy_97 ec_1 ?_
    refine ez_goto (pc := 98) (tgt := 102) Z dX5_forceBy_98 rfl ?_
    exact ez_zret (pc := 102) Z hR () rfl h rfl dX5_forceBy_102
set_option maxHeartbeats 4000000 in
set_option maxRecDepth 100000 in
theorem kX5_forceBy {X : ew_X} {l : Launch} (hX : ew_Ap X) {E : ew_M → ew_S} (hE1 : ew_GE X 50 (ew_GM X.2.1) E) {Q : Int32 → Prop} {p1 : Int32} {p2 : Int32} {p3 : Int32} {s1 : ew_M} (h : wX5_forceBy Q p1 p2 p3 s1) : Met l yX5_forceBy wsX5_forceBy ({ frames := 1, cells := 0, slots := 0, locals := 22 } : Room) (va_Pc [.ref (X.2.1 50), .int p1, .int p2, .int p3] (ew_wd X (E s1))) (va_Qi (fun (r : Int32) (_ : Unit) => Q r) (fun (u : Unit) => ew_wd X ((fun (_ : Unit) => E s1) u)) X.2.2.1) 0 0 X.2.2.1 := by
  refine ew_met (As := [.ref (X.2.1 50), .int p1, .int p2, .int p3]) (L0 := [(0, .ref (X.2.1 50)), (1, .int p1), (2, .int p2), (3, .int p3)]) X l hX (by decide) rfl rfl rfl rfl (fun C hl Z hR => ?_)
  subst hl
  refine ez_aload_n (pc := 0) Z dX5_forceBy_0 0 rfl rfl ?_
  refine fX5_bound (pc := 1) (M := s1) Z hE1 inX5_forceBy (List.mem_of_getElem? (i := 1) rfl) dX5_forceBy_1 ?_
  refine ez_iload_n (pc := 4) Z dX5_forceBy_4 1 rfl rfl ?_
  refine ez_iald (pc := 5) (n := 5) (a := 4) (v := s1.2.1 4 p1.toNatClampNeg) (M := s1) Z hE1 5 rfl (by decide : 4 < 36) rfl rfl h.1 dX5_forceBy_5 ?_
  replace h := h.2
  refine ez_callSi (pc := 6) (As := [.int (s1.2.1 4 p1.toNatClampNeg)]) (st := []) Z (kX5_ones Z.2.2.2.2.2.2.2.2.2.1 (S := E s1) h) gX5_forceBy_X5_ones rfl rfl rfl hdX5_ones rfl rfl rfl rfl rfl dX5_forceBy_6 (fun r1 u2 h => ?_)
  refine ez_istore (pc := 9) (L' := [(4, .int r1), (0, .ref (X.2.1 50)), (1, .int p1), (2, .int p2), (3, .int p3)]) Z dX5_forceBy_9 (by decide) rfl ?_
  refine ez_iload_n (pc := 11) Z dX5_forceBy_11 3 rfl rfl ?_
  by_cases c3 : p2 = (0 : Int32)
  · replace h := h.1 c3
    refine ez_tabI (pc := 12) (off := 32) (tgt := 44) Z dX5_forceBy_12 (0 : Int32) c3 (by decide) (by decide) (by decide) rfl ?_
    refine ez_iload_n (pc := 44) Z dX5_forceBy_44 4 rfl rfl ?_
    refine ez_iload (pc := 45) Z dX5_forceBy_45 0 rfl ?_
    refine ez_icmp_ge (pc := 47) (tgt := 54) Z dX5_forceBy_47 rfl (fun c4 => ?_) (fun c4 => ?_)
    · replace h := h.1 c4
      refine ez_iconst (pc := 54) Z dX5_forceBy_54 ec_0 ?_
      exact ez_zret (pc := 55) Z hR () rfl h rfl dX5_forceBy_55
    · replace h := h.2 c4
      refine ez_iconst (pc := 50) Z dX5_forceBy_50 ec_1 ?_
      refine ez_goto (pc := 51) (tgt := 55) Z dX5_forceBy_51 rfl ?_
      exact ez_zret (pc := 55) Z hR () rfl h rfl dX5_forceBy_55
  · replace h := h.2 c3
    by_cases c5 : p2 = (1 : Int32)
    · replace h := h.1 c5
      refine ez_tabI (pc := 12) (off := 44) (tgt := 56) Z dX5_forceBy_12 (1 : Int32) c5 (by decide) (by decide) (by decide) rfl ?_
      refine ez_iload_n (pc := 56) Z dX5_forceBy_56 4 rfl rfl ?_
      refine ez_iconst (pc := 57) Z dX5_forceBy_57 ec_1 ?_
      refine ez_icmp_ge (pc := 58) (tgt := 65) Z dX5_forceBy_58 rfl (fun c6 => ?_) (fun c6 => ?_)
      · replace h := h.1 c6
        refine ez_iconst (pc := 65) Z dX5_forceBy_65 ec_0 ?_
        exact ez_zret (pc := 66) Z hR () rfl h rfl dX5_forceBy_66
      · replace h := h.2 c6
        refine ez_iconst (pc := 61) Z dX5_forceBy_61 ec_1 ?_
        refine ez_goto (pc := 62) (tgt := 66) Z dX5_forceBy_62 rfl ?_
        exact ez_zret (pc := 66) Z hR () rfl h rfl dX5_forceBy_66
    · replace h := h.2 c5
      by_cases c7 : p2 = (2 : Int32)
      · replace h := h.1 c7
        refine ez_tabI (pc := 12) (off := 55) (tgt := 67) Z dX5_forceBy_12 (2 : Int32) c7 (by decide) (by decide) (by decide) rfl ?_
        refine ez_iconst (pc := 67) Z dX5_forceBy_67 ec_2 ?_
        refine ez_iload_n (pc := 68) Z dX5_forceBy_68 4 rfl rfl ?_
        refine ez_imul (pc := 69) Z dX5_forceBy_69 ?_
        refine ez_iload (pc := 70) Z dX5_forceBy_70 0 rfl ?_
        refine ez_icmp_gt (pc := 72) (tgt := 79) Z dX5_forceBy_72 rfl (fun c8 => ?_) (fun c8 => ?_)
        · replace h := h.1 c8
          refine ez_iconst (pc := 79) Z dX5_forceBy_79 ec_0 ?_
          exact ez_zret (pc := 80) Z hR () rfl h rfl dX5_forceBy_80
        · replace h := h.2 c8
          refine ez_iconst (pc := 75) Z dX5_forceBy_75 ec_1 ?_
          refine ez_goto (pc := 76) (tgt := 80) Z dX5_forceBy_76 rfl ?_
          exact ez_zret (pc := 80) Z hR () rfl h rfl dX5_forceBy_80
      · replace h := h.2 c7
        by_cases c9 : p2 = (3 : Int32)
        · replace h := h.1 c9
          refine ez_tabI (pc := 12) (off := 69) (tgt := 81) Z dX5_forceBy_12 (3 : Int32) c9 (by decide) (by decide) (by decide) rfl ?_
          refine ez_iload_n (pc := 81) Z dX5_forceBy_81 4 rfl rfl ?_
          refine ez_iload (pc := 82) Z dX5_forceBy_82 0 rfl ?_
          refine ez_iconst (pc := 84) Z dX5_forceBy_84 ec_2 ?_
          refine ez_icmp_ge (pc := 85) (tgt := 93) Z dX5_forceBy_85 rfl (fun c10 => ?_) (fun c10 => ?_)
          · replace h := h.1 c10
            refine ez_iconst (pc := 93) Z dX5_forceBy_93 ec_2 ?_
            refine ez_sub [] [] rfl ?_
            exact tX5_forceBy_94 hE1 Z hR  h
          · replace h := h.2 c10
            refine ez_iload (pc := 88) Z dX5_forceBy_88 0 rfl ?_
            refine ez_goto (pc := 90) (tgt := 94) Z dX5_forceBy_90 rfl ?_
            refine ez_sub [] [] rfl ?_
            exact tX5_forceBy_94 hE1 Z hR  h
        · replace h := h.2 c9
          have gc3 := ez_nt c3
          have gc5 := ez_nt c5
          have gc7 := ez_nt c7
          have gc9 := ez_nt c9
          refine ez_tabO (pc := 12) (tgt := 103) Z dX5_forceBy_12 (by simp only [ez_t0, ez_t1, ez_t2, ez_t3] at gc3 gc5 gc7 gc9; omega) rfl ?_
          refine ez_iconst (pc := 103) Z dX5_forceBy_103 ec_1 ?_
          exact ez_zret (pc := 104) Z hR () rfl h rfl dX5_forceBy_104
theorem inX5_isForce : ∀ w ∈ wsX50, w ∈ wsX5_isForce := fun _ h => List.mem_cons_of_mem _ (List.mem_append_right _ (h))
theorem hdX5_isForce : yX5_isForce.cls = RX5 ∧ yX5_isForce.cls ≠ "java/lang/invoke/MethodHandle" ∧ yX5_isForce.cls ≠ "java/lang/invoke/VarHandle" ∧ (parseMethodDescriptor yX5_isForce.desc).map (fun d => d.parameters.length) = some 1 := by decide +kernel
def wX5_isForce (Q : Int32 → Prop) (p1 : Int32) (s1 : ew_M) : Prop := vp_in p1 5 ∧ (wX5_ones (fun (r1 : Int32) => wX5_forceBy (fun (r3 : Int32) => narrow .boolean (.int r3) = .int r3 ∧ Q r3 ) p1 (s1.1 15) r1 s1) (s1.2.1 8 p1.toNatClampNeg))
set_option maxHeartbeats 4000000 in
set_option maxRecDepth 100000 in
theorem kX5_isForce {X : ew_X} {l : Launch} (hX : ew_Ap X) {E : ew_M → ew_S} (hE1 : ew_GE X 50 (ew_GM X.2.1) E) {Q : Int32 → Prop} {p1 : Int32} {s1 : ew_M} (h : wX5_isForce Q p1 s1) : Met l yX5_isForce wsX5_isForce ({ frames := 2, cells := 0, slots := 0, locals := 46 } : Room) (va_Pc [.ref (X.2.1 50), .int p1] (ew_wd X (E s1))) (va_Qi (fun (r : Int32) (_ : Unit) => Q r) (fun (u : Unit) => ew_wd X ((fun (_ : Unit) => E s1) u)) X.2.2.1) 0 0 X.2.2.1 := by
  refine ew_met (As := [.ref (X.2.1 50), .int p1]) (L0 := [(0, .ref (X.2.1 50)), (1, .int p1)]) X l hX (by decide) rfl rfl rfl rfl (fun C hl Z hR => ?_)
  subst hl
  refine ez_aload_n (pc := 0) Z dX5_isForce_0 0 rfl rfl ?_
  refine ez_iload_n (pc := 1) Z dX5_isForce_1 1 rfl rfl ?_
  refine ez_aload_n (pc := 2) Z dX5_isForce_2 0 rfl rfl ?_
  refine fX5_law (pc := 3) (v := s1.1 15) Z hE1 rfl inX5_isForce (List.mem_of_getElem? (i := 1) rfl) dX5_isForce_3 ?_
  refine ez_aload_n (pc := 6) Z dX5_isForce_6 0 rfl rfl ?_
  refine fX5_read (pc := 7) (M := s1) Z hE1 inX5_isForce (List.mem_of_getElem? (i := 2) rfl) dX5_isForce_7 ?_
  refine ez_iload_n (pc := 10) Z dX5_isForce_10 1 rfl rfl ?_
  refine ez_iald (pc := 11) (n := 5) (a := 8) (v := s1.2.1 8 p1.toNatClampNeg) (M := s1) Z hE1 9 rfl (by decide : 8 < 36) rfl rfl h.1 dX5_isForce_11 ?_
  replace h := h.2
  refine ez_callSi (pc := 12) (As := [.int (s1.2.1 8 p1.toNatClampNeg)]) (st := [.int (s1.1 15), .int p1, .ref (X.2.1 50)]) Z (kX5_ones Z.2.2.2.2.2.2.2.2.2.1 (S := E s1) h) gX5_isForce_X5_ones rfl rfl rfl hdX5_ones rfl rfl rfl rfl rfl dX5_isForce_12 (fun r1 u2 h => ?_)
  refine ez_callVi (pc := 15) (r := 50) (As := [.int p1, .int (s1.1 15), .int r1]) (st := []) Z (kX5_forceBy Z.2.2.2.2.2.2.2.2.2.1 (E := E) hE1 h) gX5_isForce_X5_forceBy rfl rfl rfl hdX5_forceBy rfl rfl (by decide) (ew_oM hE1 _) rfl rfl rfl rfl dX5_isForce_15 (fun r3 u4 h => ?_)
  exact ez_zret (pc := 18) Z hR () h.1 h.2 rfl dX5_isForce_18
theorem inX5_paper : ∀ w ∈ wsX50, w ∈ wsX5_paper := fun _ h => List.mem_cons_of_mem _ (List.mem_append_right _ (h))
theorem hdX5_paper : yX5_paper.cls = RX5 ∧ yX5_paper.cls ≠ "java/lang/invoke/MethodHandle" ∧ yX5_paper.cls ≠ "java/lang/invoke/VarHandle" ∧ (parseMethodDescriptor yX5_paper.desc).map (fun d => d.parameters.length) = some 2 := by decide +kernel
def wX5_paper_67  (Q : Int32 → ew_M → Prop) (v1 : Int32) (v2 : Int32) (s1 : ew_M) : Prop := vp_in ((((3 : Int32) * v1) + v2) - (1 : Int32)) 15 ∧ (Q (s1.2.1 5 ((((3 : Int32) * v1) + v2) - (1 : Int32)).toNatClampNeg) s1)
def wX5_paper (Q : Int32 → ew_M → Prop) (p1 : Int32) (p2 : Int32) (s1 : ew_M) : Prop := wX5_isPaper (fun (r1 : Int32) => (¬ r1 = 0 → (p2 = (0 : Int32) → vp_in p1 5 ∧ (Q (s1.2.1 4 p1.toNatClampNeg) s1)) ∧ (¬ p2 = (0 : Int32) → (p2 = (1 : Int32) → wX5_paper_67 Q p1 p2 s1) ∧ (¬ p2 = (1 : Int32) → (p2 = (2 : Int32) → wX5_paper_67 Q p1 p2 s1) ∧ (¬ p2 = (2 : Int32) → (p2 = (3 : Int32) → wX5_paper_67 Q p1 p2 s1) ∧ (¬ p2 = (3 : Int32) → (p2 = (4 : Int32) → vp_in p1 5 ∧ (Q (s1.2.1 7 p1.toNatClampNeg) s1)) ∧ (¬ p2 = (4 : Int32) → (p2 = (5 : Int32) → vp_in p1 5 ∧ (Q (s1.2.1 8 p1.toNatClampNeg) s1)) ∧ (¬ p2 = (5 : Int32) → (p2 = (6 : Int32) → wX5_isForce (fun (r11 : Int32) => (r11 = 0 → Q (0 : Int32) s1) ∧ (¬ r11 = 0 → Q (1 : Int32) s1)) p1 s1) ∧ (¬ p2 = (6 : Int32) → (p2 = (7 : Int32) → vp_in p1 5 ∧ (Q (s1.2.1 10 p1.toNatClampNeg) s1)) ∧ (¬ p2 = (7 : Int32) → wX5_refuse (fun (r15 : Int32) (m16 : ew_M) => Q r15 m16) (-2 : Int32) s1))))))))) ∧ (r1 = 0 → wX5_refuse (fun (r17 : Int32) (m18 : ew_M) => Q r17 m18) (-1 : Int32) s1)) p1 s1
set_option maxHeartbeats 4000000 in
set_option maxRecDepth 100000 in
theorem tX5_paper_67 {C : ew_C} {X : ew_X} {E : ew_M → ew_S} (hE1 : ew_GE X 50 (ew_GM X.2.1) E) (Z : ew_Z C X cX5_paper 3 RX5 wsX5_paper ({ frames := 3, cells := 0, slots := 0, locals := 67 } : Room) (some .int)) {Q : Int32 → ew_M → Prop}  {v1 : Int32} {v2 : Int32} {s1 : ew_M} (hR : C.2.2.2.2.2.2.2.2.2.2 = MQ C.2.2.2.2.2.2.2.1 (va_Qi (fun (r : Int32) (u : ew_M) => Q r u) (fun (u : ew_M) => ew_wd X ((fun (u : ew_M) => E u) u)) X.2.2.1) C.2.2.2.2.2.2.1 C.2.2.2.2.1 0 0 X.2.2.1) (h : wX5_paper_67 Q v1 v2 s1) : ew_W C X 3 (E s1) 67 [(0, .ref (X.2.1 50)), (1, .int v1), (2, .int v2)] [] := by
  refine ez_aload_n (pc := 67) Z dX5_paper_67 0 rfl rfl ?_
  refine fX5_share (pc := 68) (M := s1) Z hE1 inX5_paper (List.mem_of_getElem? (i := 2) rfl) dX5_paper_68 ?_
  refine ez_iconst (pc := 71) Z dX5_paper_71 ec_3 ?_
  refine ez_iload_n (pc := 72) Z dX5_paper_72 1 rfl rfl ?_
  refine ez_imul (pc := 73) Z dX5_paper_73 ?_
  refine ez_iload_n (pc := 74) Z dX5_paper_74 2 rfl rfl ?_
  refine ez_iadd (pc := 75) Z dX5_paper_75 ?_
  refine ez_iconst (pc := 76) Z dX5_paper_76 ec_1 ?_
  refine ez_isub (pc := 77) Z dX5_paper_77 ?_
  refine ez_iald (pc := 78) (n := 15) (a := 5) (v := s1.2.1 5 ((((3 : Int32) * v1) + v2) - (1 : Int32)).toNatClampNeg) (M := s1) Z hE1 6 rfl (by decide : 5 < 36) rfl rfl h.1 dX5_paper_78 ?_
  replace h := h.2
  exact ez_iret (pc := 79) Z hR s1 h rfl dX5_paper_79
set_option maxHeartbeats 4000000 in
set_option maxRecDepth 100000 in
theorem kX5_paper {X : ew_X} {l : Launch} (hX : ew_Ap X) {E : ew_M → ew_S} (hE1 : ew_GE X 50 (ew_GM X.2.1) E) {Q : Int32 → ew_M → Prop} {p1 : Int32} {p2 : Int32} {s1 : ew_M} (h : wX5_paper Q p1 p2 s1) : Met l yX5_paper wsX5_paper ({ frames := 3, cells := 0, slots := 0, locals := 67 } : Room) (va_Pc [.ref (X.2.1 50), .int p1, .int p2] (ew_wd X (E s1))) (va_Qi (fun (r : Int32) (u : ew_M) => Q r u) (fun (u : ew_M) => ew_wd X ((fun (u : ew_M) => E u) u)) X.2.2.1) 0 0 X.2.2.1 := by
  refine ew_met (As := [.ref (X.2.1 50), .int p1, .int p2]) (L0 := [(0, .ref (X.2.1 50)), (1, .int p1), (2, .int p2)]) X l hX (by decide) rfl rfl rfl rfl (fun C hl Z hR => ?_)
  subst hl
  refine ez_aload_n (pc := 0) Z dX5_paper_0 0 rfl rfl ?_
  refine ez_iload_n (pc := 1) Z dX5_paper_1 1 rfl rfl ?_
  refine ez_callVi (pc := 2) (r := 50) (As := [.int p1]) (st := []) Z (kX5_isPaper Z.2.2.2.2.2.2.2.2.2.1 (E := E) hE1 h) gX5_paper_X5_isPaper rfl rfl rfl hdX5_isPaper rfl rfl (by decide) (ew_oM hE1 _) rfl rfl rfl rfl dX5_paper_2 (fun r1 u2 h => ?_)
  refine ez_if_ne (pc := 5) (tgt := 14) Z dX5_paper_5 rfl (fun c3 => ?_) (fun c3 => ?_)
  · replace h := h.1 c3
    refine ez_iload_n (pc := 14) Z dX5_paper_14 2 rfl rfl ?_
    by_cases c4 : p2 = (0 : Int32)
    · replace h := h.1 c4
      refine ez_tabI (pc := 15) (off := 45) (tgt := 60) Z dX5_paper_15 (0 : Int32) c4 (by decide) (by decide) (by decide) rfl ?_
      refine ez_aload_n (pc := 60) Z dX5_paper_60 0 rfl rfl ?_
      refine fX5_bound (pc := 61) (M := s1) Z hE1 inX5_paper (List.mem_of_getElem? (i := 1) rfl) dX5_paper_61 ?_
      refine ez_iload_n (pc := 64) Z dX5_paper_64 1 rfl rfl ?_
      refine ez_iald (pc := 65) (n := 5) (a := 4) (v := s1.2.1 4 p1.toNatClampNeg) (M := s1) Z hE1 5 rfl (by decide : 4 < 36) rfl rfl h.1 dX5_paper_65 ?_
      replace h := h.2
      exact ez_iret (pc := 66) Z hR s1 h rfl dX5_paper_66
    · replace h := h.2 c4
      by_cases c5 : p2 = (1 : Int32)
      · replace h := h.1 c5
        refine ez_tabI (pc := 15) (off := 52) (tgt := 67) Z dX5_paper_15 (1 : Int32) c5 (by decide) (by decide) (by decide) rfl ?_
        exact tX5_paper_67 hE1 Z hR  h
      · replace h := h.2 c5
        by_cases c6 : p2 = (2 : Int32)
        · replace h := h.1 c6
          refine ez_tabI (pc := 15) (off := 52) (tgt := 67) Z dX5_paper_15 (2 : Int32) c6 (by decide) (by decide) (by decide) rfl ?_
          exact tX5_paper_67 hE1 Z hR  h
        · replace h := h.2 c6
          by_cases c7 : p2 = (3 : Int32)
          · replace h := h.1 c7
            refine ez_tabI (pc := 15) (off := 52) (tgt := 67) Z dX5_paper_15 (3 : Int32) c7 (by decide) (by decide) (by decide) rfl ?_
            exact tX5_paper_67 hE1 Z hR  h
          · replace h := h.2 c7
            by_cases c8 : p2 = (4 : Int32)
            · replace h := h.1 c8
              refine ez_tabI (pc := 15) (off := 65) (tgt := 80) Z dX5_paper_15 (4 : Int32) c8 (by decide) (by decide) (by decide) rfl ?_
              refine ez_aload_n (pc := 80) Z dX5_paper_80 0 rfl rfl ?_
              refine fX5_trueOne (pc := 81) (M := s1) Z hE1 inX5_paper (List.mem_of_getElem? (i := 3) rfl) dX5_paper_81 ?_
              refine ez_iload_n (pc := 84) Z dX5_paper_84 1 rfl rfl ?_
              refine ez_iald (pc := 85) (n := 5) (a := 7) (v := s1.2.1 7 p1.toNatClampNeg) (M := s1) Z hE1 8 rfl (by decide : 7 < 36) rfl rfl h.1 dX5_paper_85 ?_
              replace h := h.2
              exact ez_iret (pc := 86) Z hR s1 h rfl dX5_paper_86
            · replace h := h.2 c8
              by_cases c9 : p2 = (5 : Int32)
              · replace h := h.1 c9
                refine ez_tabI (pc := 15) (off := 72) (tgt := 87) Z dX5_paper_15 (5 : Int32) c9 (by decide) (by decide) (by decide) rfl ?_
                refine ez_aload_n (pc := 87) Z dX5_paper_87 0 rfl rfl ?_
                refine fX5_read (pc := 88) (M := s1) Z hE1 inX5_paper (List.mem_of_getElem? (i := 4) rfl) dX5_paper_88 ?_
                refine ez_iload_n (pc := 91) Z dX5_paper_91 1 rfl rfl ?_
                refine ez_iald (pc := 92) (n := 5) (a := 8) (v := s1.2.1 8 p1.toNatClampNeg) (M := s1) Z hE1 9 rfl (by decide : 8 < 36) rfl rfl h.1 dX5_paper_92 ?_
                replace h := h.2
                exact ez_iret (pc := 93) Z hR s1 h rfl dX5_paper_93
              · replace h := h.2 c9
                by_cases c10 : p2 = (6 : Int32)
                · replace h := h.1 c10
                  refine ez_tabI (pc := 15) (off := 79) (tgt := 94) Z dX5_paper_15 (6 : Int32) c10 (by decide) (by decide) (by decide) rfl ?_
                  refine ez_aload_n (pc := 94) Z dX5_paper_94 0 rfl rfl ?_
                  refine ez_iload_n (pc := 95) Z dX5_paper_95 1 rfl rfl ?_
                  refine ez_callVi (pc := 96) (r := 50) (As := [.int p1]) (st := []) Z (kX5_isForce Z.2.2.2.2.2.2.2.2.2.1 (E := E) hE1 h) gX5_paper_X5_isForce rfl rfl rfl hdX5_isForce rfl rfl (by decide) (ew_oM hE1 _) rfl rfl rfl rfl dX5_paper_96 (fun r11 u12 h => ?_)
                  refine ez_if_eq (pc := 99) (tgt := 106) Z dX5_paper_99 rfl (fun c13 => ?_) (fun c13 => ?_)
                  · replace h := h.1 c13
                    refine ez_iconst (pc := 106) Z dX5_paper_106 ec_0 ?_
                    exact ez_iret (pc := 107) Z hR s1 h rfl dX5_paper_107
                  · replace h := h.2 c13
                    refine ez_iconst (pc := 102) Z dX5_paper_102 ec_1 ?_
                    refine ez_goto (pc := 103) (tgt := 107) Z dX5_paper_103 rfl ?_
                    exact ez_iret (pc := 107) Z hR s1 h rfl dX5_paper_107
                · replace h := h.2 c10
                  by_cases c14 : p2 = (7 : Int32)
                  · replace h := h.1 c14
                    refine ez_tabI (pc := 15) (off := 93) (tgt := 108) Z dX5_paper_15 (7 : Int32) c14 (by decide) (by decide) (by decide) rfl ?_
                    refine ez_aload_n (pc := 108) Z dX5_paper_108 0 rfl rfl ?_
                    refine fX5_lasted (pc := 109) (M := s1) Z hE1 inX5_paper (List.mem_of_getElem? (i := 5) rfl) dX5_paper_109 ?_
                    refine ez_iload_n (pc := 112) Z dX5_paper_112 1 rfl rfl ?_
                    refine ez_iald (pc := 113) (n := 5) (a := 10) (v := s1.2.1 10 p1.toNatClampNeg) (M := s1) Z hE1 11 rfl (by decide : 10 < 36) rfl rfl h.1 dX5_paper_113 ?_
                    replace h := h.2
                    exact ez_iret (pc := 114) Z hR s1 h rfl dX5_paper_114
                  · replace h := h.2 c14
                    have gc4 := ez_nt c4
                    have gc5 := ez_nt c5
                    have gc6 := ez_nt c6
                    have gc7 := ez_nt c7
                    have gc8 := ez_nt c8
                    have gc9 := ez_nt c9
                    have gc10 := ez_nt c10
                    have gc14 := ez_nt c14
                    refine ez_tabO (pc := 15) (tgt := 115) Z dX5_paper_15 (by simp only [ez_t0, ez_t1, ez_t2, ez_t3, ez_t4, ez_t5, ez_t6, ez_t7] at gc4 gc5 gc6 gc7 gc8 gc9 gc10 gc14; omega) rfl ?_
                    refine ez_aload_n (pc := 115) Z dX5_paper_115 0 rfl rfl ?_
                    refine ez_bipush (pc := 116) Z dX5_paper_116 eb_m2 ?_
                    refine ez_callVi (pc := 118) (r := 50) (As := [.int (-2 : Int32)]) (st := []) Z (kX5_refuse Z.2.2.2.2.2.2.2.2.2.1 (E := E) hE1 h) gX5_paper_X5_refuse rfl rfl rfl hdX5_refuse rfl rfl (by decide) (ew_oM hE1 _) rfl rfl rfl rfl dX5_paper_118 (fun r15 m16 h => ?_)
                    exact ez_iret (pc := 121) Z hR m16 h rfl dX5_paper_121
  · replace h := h.2 c3
    refine ez_aload_n (pc := 8) Z dX5_paper_8 0 rfl rfl ?_
    refine ez_iconst (pc := 9) Z dX5_paper_9 ec_m1 ?_
    refine ez_callVi (pc := 10) (r := 50) (As := [.int (-1 : Int32)]) (st := []) Z (kX5_refuse Z.2.2.2.2.2.2.2.2.2.1 (E := E) hE1 h) gX5_paper_X5_refuse rfl rfl rfl hdX5_refuse rfl rfl (by decide) (ew_oM hE1 _) rfl rfl rfl rfl dX5_paper_10 (fun r17 m18 h => ?_)
    exact ez_iret (pc := 13) Z hR m18 h rfl dX5_paper_13
theorem inX5_brings : ∀ w ∈ wsX50, w ∈ wsX5_brings := fun _ h => List.mem_cons_of_mem _ (List.mem_append_right _ (h))
theorem hdX5_brings : yX5_brings.cls = RX5 ∧ yX5_brings.cls ≠ "java/lang/invoke/MethodHandle" ∧ yX5_brings.cls ≠ "java/lang/invoke/VarHandle" ∧ (parseMethodDescriptor yX5_brings.desc).map (fun d => d.parameters.length) = some 2 := by decide +kernel
def wX5_brings_30  (Q : Int32 → ew_M → Prop) (s1 : ew_M) : Prop := wX5_refuseFar (fun (r1 : Int32) (m2 : ew_M) => Q r1 m2) (-1 : Int32) s1
def wX5_brings (Q : Int32 → ew_M → Prop) (p1 : Int32) (p2 : Int32) (s1 : ew_M) : Prop := wX5_isPaper (fun (r1 : Int32) => (r1 = 0 → wX5_brings_30 Q s1) ∧ (¬ r1 = 0 → wX5_in (fun (r4 : Int32) => (r4 = 0 → wX5_brings_30 Q s1) ∧ (¬ r4 = 0 → vp_in (((3 : Int32) * p1) + p2) 15 ∧ (Q (s1.2.1 6 (((3 : Int32) * p1) + p2).toNatClampNeg) s1))) p2 (0 : Int32) (2 : Int32))) p1 s1
set_option maxHeartbeats 4000000 in
set_option maxRecDepth 100000 in
theorem tX5_brings_30 {C : ew_C} {X : ew_X} {E : ew_M → ew_S} (hE1 : ew_GE X 50 (ew_GM X.2.1) E) (Z : ew_Z C X cX5_brings 3 RX5 wsX5_brings ({ frames := 2, cells := 0, slots := 0, locals := 43 } : Room) (some .int)) {Q : Int32 → ew_M → Prop}  {s1 : ew_M} (hR : C.2.2.2.2.2.2.2.2.2.2 = MQ C.2.2.2.2.2.2.2.1 (va_Qi (fun (r : Int32) (u : ew_M) => Q r u) (fun (u : ew_M) => ew_wd X ((fun (u : ew_M) => E u) u)) X.2.2.1) C.2.2.2.2.2.2.1 C.2.2.2.2.1 0 0 X.2.2.1) (h : wX5_brings_30 Q s1) : ew_W C X 3 (E s1) 30 [(0, .ref (X.2.1 50))] [] := by
  refine ez_aload_n (pc := 30) Z dX5_brings_30 0 rfl rfl ?_
  refine ez_iconst (pc := 31) Z dX5_brings_31 ec_m1 ?_
  refine ez_callVi (pc := 32) (r := 50) (As := [.int (-1 : Int32)]) (st := []) Z (kX5_refuseFar Z.2.2.2.2.2.2.2.2.2.1 (E := E) hE1 h) gX5_brings_X5_refuseFar rfl rfl rfl hdX5_refuseFar rfl rfl (by decide) (ew_oM hE1 _) rfl rfl rfl rfl dX5_brings_32 (fun r1 m2 h => ?_)
  exact ez_iret (pc := 35) Z hR m2 h rfl dX5_brings_35
set_option maxHeartbeats 4000000 in
set_option maxRecDepth 100000 in
theorem kX5_brings {X : ew_X} {l : Launch} (hX : ew_Ap X) {E : ew_M → ew_S} (hE1 : ew_GE X 50 (ew_GM X.2.1) E) {Q : Int32 → ew_M → Prop} {p1 : Int32} {p2 : Int32} {s1 : ew_M} (h : wX5_brings Q p1 p2 s1) : Met l yX5_brings wsX5_brings ({ frames := 2, cells := 0, slots := 0, locals := 43 } : Room) (va_Pc [.ref (X.2.1 50), .int p1, .int p2] (ew_wd X (E s1))) (va_Qi (fun (r : Int32) (u : ew_M) => Q r u) (fun (u : ew_M) => ew_wd X ((fun (u : ew_M) => E u) u)) X.2.2.1) 0 0 X.2.2.1 := by
  refine ew_met (As := [.ref (X.2.1 50), .int p1, .int p2]) (L0 := [(0, .ref (X.2.1 50)), (1, .int p1), (2, .int p2)]) X l hX (by decide) rfl rfl rfl rfl (fun C hl Z hR => ?_)
  subst hl
  refine ez_aload_n (pc := 0) Z dX5_brings_0 0 rfl rfl ?_
  refine ez_iload_n (pc := 1) Z dX5_brings_1 1 rfl rfl ?_
  refine ez_callVi (pc := 2) (r := 50) (As := [.int p1]) (st := []) Z (kX5_isPaper Z.2.2.2.2.2.2.2.2.2.1 (E := E) hE1 h) gX5_brings_X5_isPaper rfl rfl rfl hdX5_isPaper rfl rfl (by decide) (ew_oM hE1 _) rfl rfl rfl rfl dX5_brings_2 (fun r1 u2 h => ?_)
  refine ez_if_eq (pc := 5) (tgt := 30) Z dX5_brings_5 rfl (fun c3 => ?_) (fun c3 => ?_)
  · replace h := h.1 c3
    refine ez_sub [(0, .ref (X.2.1 50))] [0] rfl ?_
    exact tX5_brings_30 hE1 Z hR  h
  · replace h := h.2 c3
    refine ez_iload_n (pc := 8) Z dX5_brings_8 2 rfl rfl ?_
    refine ez_iconst (pc := 9) Z dX5_brings_9 ec_0 ?_
    refine ez_iconst (pc := 10) Z dX5_brings_10 ec_2 ?_
    refine ez_callSi (pc := 11) (As := [.int p2, .int (0 : Int32), .int (2 : Int32)]) (st := []) Z (kX5_in Z.2.2.2.2.2.2.2.2.2.1 (S := E s1) h) gX5_brings_X5_in rfl rfl rfl hdX5_in rfl rfl rfl rfl rfl dX5_brings_11 (fun r4 u5 h => ?_)
    refine ez_if_eq (pc := 14) (tgt := 30) Z dX5_brings_14 rfl (fun c6 => ?_) (fun c6 => ?_)
    · replace h := h.1 c6
      refine ez_sub [(0, .ref (X.2.1 50))] [0] rfl ?_
      exact tX5_brings_30 hE1 Z hR  h
    · replace h := h.2 c6
      refine ez_aload_n (pc := 17) Z dX5_brings_17 0 rfl rfl ?_
      refine fX5_brings (pc := 18) (M := s1) Z hE1 inX5_brings (List.mem_of_getElem? (i := 1) rfl) dX5_brings_18 ?_
      refine ez_iconst (pc := 21) Z dX5_brings_21 ec_3 ?_
      refine ez_iload_n (pc := 22) Z dX5_brings_22 1 rfl rfl ?_
      refine ez_imul (pc := 23) Z dX5_brings_23 ?_
      refine ez_iload_n (pc := 24) Z dX5_brings_24 2 rfl rfl ?_
      refine ez_iadd (pc := 25) Z dX5_brings_25 ?_
      refine ez_iald (pc := 26) (n := 15) (a := 6) (v := s1.2.1 6 (((3 : Int32) * p1) + p2).toNatClampNeg) (M := s1) Z hE1 7 rfl (by decide : 6 < 36) rfl rfl h.1 dX5_brings_26 ?_
      replace h := h.2
      refine ez_goto (pc := 27) (tgt := 35) Z dX5_brings_27 rfl ?_
      exact ez_iret (pc := 35) Z hR s1 h rfl dX5_brings_35
theorem inX5_truth : ∀ w ∈ wsX50, w ∈ wsX5_truth := fun _ h => List.mem_cons_of_mem _ (List.mem_append_right _ (h))
theorem hdX5_truth : yX5_truth.cls = RX5 ∧ yX5_truth.cls ≠ "java/lang/invoke/MethodHandle" ∧ yX5_truth.cls ≠ "java/lang/invoke/VarHandle" ∧ (parseMethodDescriptor yX5_truth.desc).map (fun d => d.parameters.length) = some 2 := by decide +kernel
def wX5_truth_17  (Q : Int32 → ew_M → Prop) (s1 : ew_M) : Prop := wX5_refuse (fun (r1 : Int32) (m2 : ew_M) => Q r1 m2) (-1 : Int32) s1
def wX5_truth (Q : Int32 → ew_M → Prop) (p1 : Int32) (p2 : Int32) (s1 : ew_M) : Prop := wX5_isPaper (fun (r1 : Int32) => (r1 = 0 → wX5_truth_17 Q s1) ∧ (¬ r1 = 0 → wX5_in (fun (r4 : Int32) => (¬ r4 = 0 → vp_in p1 5 ∧ (((s1.2.1 8 p1.toNatClampNeg) = 0 → vp_in p1 5 ∧ (vp_in p1 5 ∧ (Q (s1.2.1 7 p1.toNatClampNeg) (ew_sA s1 7 p1.toNatClampNeg p2)))) ∧ (¬ (s1.2.1 8 p1.toNatClampNeg) = 0 → wX5_refuse (fun (r8 : Int32) (m9 : ew_M) => Q r8 m9) (-3 : Int32) s1))) ∧ (r4 = 0 → wX5_truth_17 Q s1)) p2 (0 : Int32) (2 : Int32))) p1 s1
set_option maxHeartbeats 4000000 in
set_option maxRecDepth 100000 in
theorem tX5_truth_17 {C : ew_C} {X : ew_X} {E : ew_M → ew_S} (hE1 : ew_GE X 50 (ew_GM X.2.1) E) (Z : ew_Z C X cX5_truth 4 RX5 wsX5_truth ({ frames := 2, cells := 0, slots := 0, locals := 43 } : Room) (some .int)) {Q : Int32 → ew_M → Prop}  {s1 : ew_M} (hR : C.2.2.2.2.2.2.2.2.2.2 = MQ C.2.2.2.2.2.2.2.1 (va_Qi (fun (r : Int32) (u : ew_M) => Q r u) (fun (u : ew_M) => ew_wd X ((fun (u : ew_M) => E u) u)) X.2.2.1) C.2.2.2.2.2.2.1 C.2.2.2.2.1 0 0 X.2.2.1) (h : wX5_truth_17 Q s1) : ew_W C X 4 (E s1) 17 [(0, .ref (X.2.1 50))] [] := by
  refine ez_aload_n (pc := 17) Z dX5_truth_17 0 rfl rfl ?_
  refine ez_iconst (pc := 18) Z dX5_truth_18 ec_m1 ?_
  refine ez_callVi (pc := 19) (r := 50) (As := [.int (-1 : Int32)]) (st := []) Z (kX5_refuse Z.2.2.2.2.2.2.2.2.2.1 (E := E) hE1 h) gX5_truth_X5_refuse rfl rfl rfl hdX5_refuse rfl rfl (by decide) (ew_oM hE1 _) rfl rfl rfl rfl dX5_truth_19 (fun r1 m2 h => ?_)
  exact ez_iret (pc := 22) Z hR m2 h rfl dX5_truth_22
set_option maxHeartbeats 4000000 in
set_option maxRecDepth 100000 in
theorem kX5_truth {X : ew_X} {l : Launch} (hX : ew_Ap X) {E : ew_M → ew_S} (hE1 : ew_GE X 50 (ew_GM X.2.1) E) {Q : Int32 → ew_M → Prop} {p1 : Int32} {p2 : Int32} {s1 : ew_M} (h : wX5_truth Q p1 p2 s1) : Met l yX5_truth wsX5_truth ({ frames := 2, cells := 0, slots := 0, locals := 43 } : Room) (va_Pc [.ref (X.2.1 50), .int p1, .int p2] (ew_wd X (E s1))) (va_Qi (fun (r : Int32) (u : ew_M) => Q r u) (fun (u : ew_M) => ew_wd X ((fun (u : ew_M) => E u) u)) X.2.2.1) 0 0 X.2.2.1 := by
  refine ew_met (As := [.ref (X.2.1 50), .int p1, .int p2]) (L0 := [(0, .ref (X.2.1 50)), (1, .int p1), (2, .int p2)]) X l hX (by decide) rfl rfl rfl rfl (fun C hl Z hR => ?_)
  subst hl
  refine ez_aload_n (pc := 0) Z dX5_truth_0 0 rfl rfl ?_
  refine ez_iload_n (pc := 1) Z dX5_truth_1 1 rfl rfl ?_
  refine ez_callVi (pc := 2) (r := 50) (As := [.int p1]) (st := []) Z (kX5_isPaper Z.2.2.2.2.2.2.2.2.2.1 (E := E) hE1 h) gX5_truth_X5_isPaper rfl rfl rfl hdX5_isPaper rfl rfl (by decide) (ew_oM hE1 _) rfl rfl rfl rfl dX5_truth_2 (fun r1 u2 h => ?_)
  refine ez_if_eq (pc := 5) (tgt := 17) Z dX5_truth_5 rfl (fun c3 => ?_) (fun c3 => ?_)
  · replace h := h.1 c3
    refine ez_sub [(0, .ref (X.2.1 50))] [0] rfl ?_
    exact tX5_truth_17 hE1 Z hR  h
  · replace h := h.2 c3
    refine ez_iload_n (pc := 8) Z dX5_truth_8 2 rfl rfl ?_
    refine ez_iconst (pc := 9) Z dX5_truth_9 ec_0 ?_
    refine ez_iconst (pc := 10) Z dX5_truth_10 ec_2 ?_
    refine ez_callSi (pc := 11) (As := [.int p2, .int (0 : Int32), .int (2 : Int32)]) (st := []) Z (kX5_in Z.2.2.2.2.2.2.2.2.2.1 (S := E s1) h) gX5_truth_X5_in rfl rfl rfl hdX5_in rfl rfl rfl rfl rfl dX5_truth_11 (fun r4 u5 h => ?_)
    refine ez_if_ne (pc := 14) (tgt := 23) Z dX5_truth_14 rfl (fun c6 => ?_) (fun c6 => ?_)
    · replace h := h.1 c6
      refine ez_aload_n (pc := 23) Z dX5_truth_23 0 rfl rfl ?_
      refine fX5_read (pc := 24) (M := s1) Z hE1 inX5_truth (List.mem_of_getElem? (i := 1) rfl) dX5_truth_24 ?_
      refine ez_iload_n (pc := 27) Z dX5_truth_27 1 rfl rfl ?_
      refine ez_iald (pc := 28) (n := 5) (a := 8) (v := s1.2.1 8 p1.toNatClampNeg) (M := s1) Z hE1 9 rfl (by decide : 8 < 36) rfl rfl h.1 dX5_truth_28 ?_
      replace h := h.2
      refine ez_if_eq (pc := 29) (tgt := 39) Z dX5_truth_29 rfl (fun c7 => ?_) (fun c7 => ?_)
      · replace h := h.1 c7
        refine ez_aload_n (pc := 39) Z dX5_truth_39 0 rfl rfl ?_
        refine fX5_trueOne (pc := 40) (M := s1) Z hE1 inX5_truth (List.mem_of_getElem? (i := 2) rfl) dX5_truth_40 ?_
        refine ez_iload_n (pc := 43) Z dX5_truth_43 1 rfl rfl ?_
        refine ez_iald (pc := 44) (n := 5) (a := 7) (v := s1.2.1 7 p1.toNatClampNeg) (M := s1) Z hE1 8 rfl (by decide : 7 < 36) rfl rfl h.1 dX5_truth_44 ?_
        replace h := h.2
        refine ez_istore_n (pc := 45) (L' := [(3, .int (s1.2.1 7 p1.toNatClampNeg)), (0, .ref (X.2.1 50)), (1, .int p1), (2, .int p2)]) Z dX5_truth_45 rfl (by decide) rfl ?_
        refine ez_aload_n (pc := 46) Z dX5_truth_46 1 rfl rfl ?_
        refine fX5_trueOne (pc := 47) (M := s1) Z hE1 inX5_truth (List.mem_of_getElem? (i := 2) rfl) dX5_truth_47 ?_
        refine ez_iload_n (pc := 50) Z dX5_truth_50 2 rfl rfl ?_
        refine ez_iload_n (pc := 51) Z dX5_truth_51 3 rfl rfl ?_
        refine ez_iast (pc := 52) (n := 5) (a := 7) (M := s1) (M' := ew_sA s1 7 p1.toNatClampNeg p2) Z hE1 8 rfl (by decide : 7 < 36) rfl rfl h.1 dX5_truth_52 ?_
        replace h := h.2
        refine ez_iload_n (pc := 53) Z dX5_truth_53 0 rfl rfl ?_
        exact ez_iret (pc := 54) Z hR (ew_sA s1 7 p1.toNatClampNeg p2) h rfl dX5_truth_54
      · replace h := h.2 c7
        refine ez_aload_n (pc := 32) Z dX5_truth_32 0 rfl rfl ?_
        refine ez_bipush (pc := 33) Z dX5_truth_33 eb_m3 ?_
        refine ez_callVi (pc := 35) (r := 50) (As := [.int (-3 : Int32)]) (st := []) Z (kX5_refuse Z.2.2.2.2.2.2.2.2.2.1 (E := E) hE1 h) gX5_truth_X5_refuse rfl rfl rfl hdX5_refuse rfl rfl (by decide) (ew_oM hE1 _) rfl rfl rfl rfl dX5_truth_35 (fun r8 m9 h => ?_)
        exact ez_iret (pc := 38) Z hR m9 h rfl dX5_truth_38
    · replace h := h.2 c6
      refine ez_sub [(0, .ref (X.2.1 50))] [0] rfl ?_
      exact tX5_truth_17 hE1 Z hR  h
theorem inX5_law : ∀ w ∈ wsX50, w ∈ wsX5_law := fun _ h => List.mem_cons_of_mem _ (List.mem_append_right _ (h))
theorem hdX5_law : yX5_law.cls = RX5 ∧ yX5_law.cls ≠ "java/lang/invoke/MethodHandle" ∧ yX5_law.cls ≠ "java/lang/invoke/VarHandle" ∧ (parseMethodDescriptor yX5_law.desc).map (fun d => d.parameters.length) = some 1 := by decide +kernel
def wX5_law (Q : Int32 → ew_M → Prop) (p1 : Int32) (s1 : ew_M) : Prop := wX5_in (fun (r1 : Int32) => (¬ r1 = 0 → Q (s1.1 15) (ew_sI s1 15 p1)) ∧ (r1 = 0 → wX5_refuse (fun (r4 : Int32) (m5 : ew_M) => Q r4 m5) (-2 : Int32) s1)) p1 (0 : Int32) (4 : Int32)
set_option maxHeartbeats 4000000 in
set_option maxRecDepth 100000 in
theorem kX5_law {X : ew_X} {l : Launch} (hX : ew_Ap X) {E : ew_M → ew_S} (hE1 : ew_GE X 50 (ew_GM X.2.1) E) {Q : Int32 → ew_M → Prop} {p1 : Int32} {s1 : ew_M} (h : wX5_law Q p1 s1) : Met l yX5_law wsX5_law ({ frames := 1, cells := 0, slots := 0, locals := 22 } : Room) (va_Pc [.ref (X.2.1 50), .int p1] (ew_wd X (E s1))) (va_Qi (fun (r : Int32) (u : ew_M) => Q r u) (fun (u : ew_M) => ew_wd X ((fun (u : ew_M) => E u) u)) X.2.2.1) 0 0 X.2.2.1 := by
  refine ew_met (As := [.ref (X.2.1 50), .int p1]) (L0 := [(0, .ref (X.2.1 50)), (1, .int p1)]) X l hX (by decide) rfl rfl rfl rfl (fun C hl Z hR => ?_)
  subst hl
  refine ez_iload_n (pc := 0) Z dX5_law_0 1 rfl rfl ?_
  refine ez_iconst (pc := 1) Z dX5_law_1 ec_0 ?_
  refine ez_iconst (pc := 2) Z dX5_law_2 ec_4 ?_
  refine ez_callSi (pc := 3) (As := [.int p1, .int (0 : Int32), .int (4 : Int32)]) (st := []) Z (kX5_in Z.2.2.2.2.2.2.2.2.2.1 (S := E s1) h) gX5_law_X5_in rfl rfl rfl hdX5_in rfl rfl rfl rfl rfl dX5_law_3 (fun r1 u2 h => ?_)
  refine ez_if_ne (pc := 6) (tgt := 16) Z dX5_law_6 rfl (fun c3 => ?_) (fun c3 => ?_)
  · replace h := h.1 c3
    refine ez_aload_n (pc := 16) Z dX5_law_16 0 rfl rfl ?_
    refine fX5_law (pc := 17) (v := s1.1 15) Z hE1 rfl inX5_law (List.mem_of_getElem? (i := 1) rfl) dX5_law_17 ?_
    refine ez_istore_n (pc := 20) (L' := [(2, .int (s1.1 15)), (0, .ref (X.2.1 50)), (1, .int p1)]) Z dX5_law_20 rfl (by decide) rfl ?_
    refine ez_aload_n (pc := 21) Z dX5_law_21 1 rfl rfl ?_
    refine ez_iload_n (pc := 22) Z dX5_law_22 2 rfl rfl ?_
    refine pX5_law (pc := 23) (M := s1) (M' := ew_sI s1 15 p1) Z hE1 rfl inX5_law (List.mem_of_getElem? (i := 1) rfl) dX5_law_23 ?_
    refine ez_iload_n (pc := 26) Z dX5_law_26 0 rfl rfl ?_
    exact ez_iret (pc := 27) Z hR (ew_sI s1 15 p1) h rfl dX5_law_27
  · replace h := h.2 c3
    refine ez_aload_n (pc := 9) Z dX5_law_9 0 rfl rfl ?_
    refine ez_bipush (pc := 10) Z dX5_law_10 eb_m2 ?_
    refine ez_callVi (pc := 12) (r := 50) (As := [.int (-2 : Int32)]) (st := []) Z (kX5_refuse Z.2.2.2.2.2.2.2.2.2.1 (E := E) hE1 h) gX5_law_X5_refuse rfl rfl rfl hdX5_refuse rfl rfl (by decide) (ew_oM hE1 _) rfl rfl rfl rfl dX5_law_12 (fun r4 m5 h => ?_)
    exact ez_iret (pc := 15) Z hR m5 h rfl dX5_law_15
theorem inX5_mayRead : ∀ w ∈ wsX50, w ∈ wsX5_mayRead := fun _ h => List.mem_cons_of_mem _ (List.mem_append_right _ (h))
theorem hdX5_mayRead : yX5_mayRead.cls = RX5 ∧ yX5_mayRead.cls ≠ "java/lang/invoke/MethodHandle" ∧ yX5_mayRead.cls ≠ "java/lang/invoke/VarHandle" ∧ (parseMethodDescriptor yX5_mayRead.desc).map (fun d => d.parameters.length) = some 2 := by decide +kernel
def wX5_mayRead (Q : Int32 → Prop) (p1 : Int32) (p2 : Int32) (s1 : ew_M) : Prop := wX5_isPerson (fun (r1 : Int32) => (r1 = 0 → Q (0 : Int32) ) ∧ (¬ r1 = 0 → wX5_isBound (fun (r4 : Int32) => (r4 = 0 → Q (0 : Int32) ) ∧ (¬ r4 = 0 → wX5_hasRead (fun (r7 : Int32) => (¬ r7 = 0 → Q (0 : Int32) ) ∧ (r7 = 0 → wX5_isForce (fun (r10 : Int32) => (r10 = 0 → Q (0 : Int32) ) ∧ (¬ r10 = 0 → Q (1 : Int32) )) p2 s1)) p1 p2 s1)) p1 p2 s1)) p1 s1
set_option maxHeartbeats 4000000 in
set_option maxRecDepth 100000 in
theorem kX5_mayRead {X : ew_X} {l : Launch} (hX : ew_Ap X) {E : ew_M → ew_S} (hE1 : ew_GE X 50 (ew_GM X.2.1) E) {Q : Int32 → Prop} {p1 : Int32} {p2 : Int32} {s1 : ew_M} (h : wX5_mayRead Q p1 p2 s1) : Met l yX5_mayRead wsX5_mayRead ({ frames := 3, cells := 0, slots := 0, locals := 67 } : Room) (va_Pc [.ref (X.2.1 50), .int p1, .int p2] (ew_wd X (E s1))) (va_Qi (fun (r : Int32) (_ : Unit) => Q r) (fun (u : Unit) => ew_wd X ((fun (_ : Unit) => E s1) u)) X.2.2.1) 0 0 X.2.2.1 := by
  refine ew_met (As := [.ref (X.2.1 50), .int p1, .int p2]) (L0 := [(0, .ref (X.2.1 50)), (1, .int p1), (2, .int p2)]) X l hX (by decide) rfl rfl rfl rfl (fun C hl Z hR => ?_)
  subst hl
  refine ez_aload_n (pc := 0) Z dX5_mayRead_0 0 rfl rfl ?_
  refine ez_iload_n (pc := 1) Z dX5_mayRead_1 1 rfl rfl ?_
  refine ez_callVi (pc := 2) (r := 50) (As := [.int p1]) (st := []) Z (kX5_isPerson Z.2.2.2.2.2.2.2.2.2.1 (E := E) hE1 h) gX5_mayRead_X5_isPerson rfl rfl rfl hdX5_isPerson rfl rfl (by decide) (ew_oM hE1 _) rfl rfl rfl rfl dX5_mayRead_2 (fun r1 u2 h => ?_)
  refine ez_if_eq (pc := 5) (tgt := 38) Z dX5_mayRead_5 rfl (fun c3 => ?_) (fun c3 => ?_)
  · replace h := h.1 c3
    refine ez_iconst (pc := 38) Z dX5_mayRead_38 ec_0 ?_
    exact ez_zret (pc := 39) Z hR () rfl h rfl dX5_mayRead_39
  · replace h := h.2 c3
    refine ez_aload_n (pc := 8) Z dX5_mayRead_8 0 rfl rfl ?_
    refine ez_iload_n (pc := 9) Z dX5_mayRead_9 1 rfl rfl ?_
    refine ez_iload_n (pc := 10) Z dX5_mayRead_10 2 rfl rfl ?_
    refine ez_callVi (pc := 11) (r := 50) (As := [.int p1, .int p2]) (st := []) Z (kX5_isBound Z.2.2.2.2.2.2.2.2.2.1 (E := E) hE1 h) gX5_mayRead_X5_isBound rfl rfl rfl hdX5_isBound rfl rfl (by decide) (ew_oM hE1 _) rfl rfl rfl rfl dX5_mayRead_11 (fun r4 u5 h => ?_)
    refine ez_if_eq (pc := 14) (tgt := 38) Z dX5_mayRead_14 rfl (fun c6 => ?_) (fun c6 => ?_)
    · replace h := h.1 c6
      refine ez_iconst (pc := 38) Z dX5_mayRead_38 ec_0 ?_
      exact ez_zret (pc := 39) Z hR () rfl h rfl dX5_mayRead_39
    · replace h := h.2 c6
      refine ez_aload_n (pc := 17) Z dX5_mayRead_17 0 rfl rfl ?_
      refine ez_iload_n (pc := 18) Z dX5_mayRead_18 1 rfl rfl ?_
      refine ez_iload_n (pc := 19) Z dX5_mayRead_19 2 rfl rfl ?_
      refine ez_callVi (pc := 20) (r := 50) (As := [.int p1, .int p2]) (st := []) Z (kX5_hasRead Z.2.2.2.2.2.2.2.2.2.1 (E := E) hE1 h) gX5_mayRead_X5_hasRead rfl rfl rfl hdX5_hasRead rfl rfl (by decide) (ew_oM hE1 _) rfl rfl rfl rfl dX5_mayRead_20 (fun r7 u8 h => ?_)
      refine ez_if_ne (pc := 23) (tgt := 38) Z dX5_mayRead_23 rfl (fun c9 => ?_) (fun c9 => ?_)
      · replace h := h.1 c9
        refine ez_iconst (pc := 38) Z dX5_mayRead_38 ec_0 ?_
        exact ez_zret (pc := 39) Z hR () rfl h rfl dX5_mayRead_39
      · replace h := h.2 c9
        refine ez_aload_n (pc := 26) Z dX5_mayRead_26 0 rfl rfl ?_
        refine ez_iload_n (pc := 27) Z dX5_mayRead_27 2 rfl rfl ?_
        refine ez_callVi (pc := 28) (r := 50) (As := [.int p2]) (st := []) Z (kX5_isForce Z.2.2.2.2.2.2.2.2.2.1 (E := E) hE1 h) gX5_mayRead_X5_isForce rfl rfl rfl hdX5_isForce rfl rfl (by decide) (ew_oM hE1 _) rfl rfl rfl rfl dX5_mayRead_28 (fun r10 u11 h => ?_)
        refine ez_if_eq (pc := 31) (tgt := 38) Z dX5_mayRead_31 rfl (fun c12 => ?_) (fun c12 => ?_)
        · replace h := h.1 c12
          refine ez_iconst (pc := 38) Z dX5_mayRead_38 ec_0 ?_
          exact ez_zret (pc := 39) Z hR () rfl h rfl dX5_mayRead_39
        · replace h := h.2 c12
          refine ez_iconst (pc := 34) Z dX5_mayRead_34 ec_1 ?_
          refine ez_goto (pc := 35) (tgt := 39) Z dX5_mayRead_35 rfl ?_
          exact ez_zret (pc := 39) Z hR () rfl h rfl dX5_mayRead_39
theorem inX5_hasNowRead : ∀ w ∈ wsX50, w ∈ wsX5_hasNowRead := fun _ h => List.mem_cons_of_mem _ (List.mem_append_right _ (h))
theorem hdX5_hasNowRead : yX5_hasNowRead.cls = RX5 ∧ yX5_hasNowRead.cls ≠ "java/lang/invoke/MethodHandle" ∧ yX5_hasNowRead.cls ≠ "java/lang/invoke/VarHandle" ∧ (parseMethodDescriptor yX5_hasNowRead.desc).map (fun d => d.parameters.length) = some 2 := by decide +kernel
def wX5_hasNowRead_45 (R14 : Int32 × ew_M → Prop) (Q : ew_M → Prop) (v1 : Int32) (v2 : Int32) (v3 : Int32) (t0 : Int64) (t1 : Int32) (s1 : ew_M) : Prop := vp_in t1 90 ∧ (R14 (v3 + (1 : Int32), ew_sW s1 0 t1.toNatClampNeg t0))
def wX5_hasNowRead_14 (R14 : Int32 × ew_M → Prop) (Q : ew_M → Prop) (v1 : Int32) (v2 : Int32) (v3 : Int32) (s1 : ew_M) : Prop := ((3 : Int32) ≤ v3 → Q s1) ∧ (¬ (3 : Int32) ≤ v3 → wX5_fromOf (fun (r2 : Int32) => vp_in v2 5 ∧ ((¬ v3 = (s1.2.1 7 v2.toNatClampNeg) → wX5_hasNowRead_45 R14 Q v1 v2 v3 (0 : Int64) (r2 + v3) s1) ∧ (v3 = (s1.2.1 7 v2.toNatClampNeg) → wX5_hasNowRead_45 R14 Q v1 v2 v3 (1 : Int64) (r2 + v3) s1))) v1 v2)
def wX5_hasNowRead (Q : ew_M → Prop) (p1 : Int32) (p2 : Int32) (s1 : ew_M) : Prop := vp_in p2 5 ∧ (vp_in p2 5 ∧ (ew_lp (fun (R : Int32 × ew_M → Prop) (x : Int32 × ew_M) => wX5_hasNowRead_14 R Q p1 p2 x.1 x.2) ((0 : Int32), (ew_sA s1 8 p2.toNatClampNeg ((s1.2.1 8 p2.toNatClampNeg) ||| ((1 : Int32) <<< (p1 &&& 31)))))))
set_option maxHeartbeats 4000000 in
set_option maxRecDepth 100000 in
theorem tX5_hasNowRead_45 {C : ew_C} {X : ew_X} {E : ew_M → ew_S} (hE1 : ew_GE X 50 (ew_GM X.2.1) E) (Z : ew_Z C X cX5_hasNowRead 4 RX5 wsX5_hasNowRead ({ frames := 1, cells := 0, slots := 0, locals := 21 } : Room) none) {Q : ew_M → Prop} {R14 : Int32 × ew_M → Prop} {v1 : Int32} {v2 : Int32} {v3 : Int32} {t0 : Int64} {t1 : Int32} {s1 : ew_M} (hR : C.2.2.2.2.2.2.2.2.2.2 = MQ C.2.2.2.2.2.2.2.1 (va_Qv (fun (u : ew_M) => Q u) (fun (u : ew_M) => ew_wd X ((fun (u : ew_M) => E u) u)) X.2.2.1) C.2.2.2.2.2.2.1 C.2.2.2.2.1 0 0 X.2.2.1) (hR14 : ∀ x : Int32 × ew_M, R14 x → ew_W C X 4 (E x.2) 14 [(0, .ref (X.2.1 50)), (1, .int v1), (2, .int v2), (3, .int x.1)] []) (h : wX5_hasNowRead_45 R14 Q v1 v2 v3 t0 t1 s1) : ew_W C X 4 (E s1) 45 [(0, .ref (X.2.1 50)), (1, .int v1), (2, .int v2), (3, .int v3)] [.long t0, .int t1, .ref (X.2.1 87)] := by
  refine ez_last (pc := 45) (n := 90) (a := 0) (M := s1) (M' := ew_sW s1 0 t1.toNatClampNeg t0) Z hE1 37 rfl (by decide : 0 < 3) rfl (fun _ _ _ => rfl) rfl h.1 dX5_hasNowRead_45 ?_
  replace h := h.2
  refine ez_iinc (pc := 46) (L' := [(3, .int (v3 + (1 : Int32))), (0, .ref (X.2.1 50)), (1, .int v1), (2, .int v2)]) Z dX5_hasNowRead_46 3 rfl (ei_1 _) (by decide) rfl ?_
  refine ez_goto (pc := 49) (tgt := 14) Z dX5_hasNowRead_49 rfl ?_
  refine ez_sub [(0, .ref (X.2.1 50)), (1, .int v1), (2, .int v2), (3, .int (v3 + (1 : Int32)))] [1, 2, 3, 0] rfl ?_
  exact hR14 _ h
set_option maxHeartbeats 4000000 in
set_option maxRecDepth 100000 in
theorem tX5_hasNowRead_14 {C : ew_C} {X : ew_X} {E : ew_M → ew_S} (hE1 : ew_GE X 50 (ew_GM X.2.1) E) (Z : ew_Z C X cX5_hasNowRead 4 RX5 wsX5_hasNowRead ({ frames := 1, cells := 0, slots := 0, locals := 21 } : Room) none) {Q : ew_M → Prop} {R14 : Int32 × ew_M → Prop} {v1 : Int32} {v2 : Int32} {v3 : Int32} {s1 : ew_M} (hR : C.2.2.2.2.2.2.2.2.2.2 = MQ C.2.2.2.2.2.2.2.1 (va_Qv (fun (u : ew_M) => Q u) (fun (u : ew_M) => ew_wd X ((fun (u : ew_M) => E u) u)) X.2.2.1) C.2.2.2.2.2.2.1 C.2.2.2.2.1 0 0 X.2.2.1) (hR14 : ∀ x : Int32 × ew_M, R14 x → ew_W C X 4 (E x.2) 14 [(0, .ref (X.2.1 50)), (1, .int v1), (2, .int v2), (3, .int x.1)] []) (h : wX5_hasNowRead_14 R14 Q v1 v2 v3 s1) : ew_W C X 4 (E s1) 14 [(0, .ref (X.2.1 50)), (1, .int v1), (2, .int v2), (3, .int v3)] [] := by
  refine ez_iload_n (pc := 14) Z dX5_hasNowRead_14 3 rfl rfl ?_
  refine ez_iconst (pc := 15) Z dX5_hasNowRead_15 ec_3 ?_
  refine ez_icmp_ge (pc := 16) (tgt := 52) Z dX5_hasNowRead_16 rfl (fun c1 => ?_) (fun c1 => ?_)
  · replace h := h.1 c1
    exact ez_vret (pc := 52) Z hR s1 h rfl dX5_hasNowRead_52
  · replace h := h.2 c1
    refine ez_aload_n (pc := 19) Z dX5_hasNowRead_19 0 rfl rfl ?_
    refine fX5_weights (pc := 20) (M := s1) Z hE1 inX5_hasNowRead (List.mem_of_getElem? (i := 2) rfl) dX5_hasNowRead_20 ?_
    refine ez_iload_n (pc := 23) Z dX5_hasNowRead_23 1 rfl rfl ?_
    refine ez_iload_n (pc := 24) Z dX5_hasNowRead_24 2 rfl rfl ?_
    refine ez_callSi (pc := 25) (As := [.int v1, .int v2]) (st := [.ref (X.2.1 87)]) Z (kX5_fromOf Z.2.2.2.2.2.2.2.2.2.1 (S := E s1) h) gX5_hasNowRead_X5_fromOf rfl rfl rfl hdX5_fromOf rfl rfl rfl rfl rfl dX5_hasNowRead_25 (fun r2 u3 h => ?_)
    refine ez_iload_n (pc := 28) Z dX5_hasNowRead_28 3 rfl rfl ?_
    refine ez_iadd (pc := 29) Z dX5_hasNowRead_29 ?_
    refine ez_iload_n (pc := 30) Z dX5_hasNowRead_30 3 rfl rfl ?_
    refine ez_aload_n (pc := 31) Z dX5_hasNowRead_31 0 rfl rfl ?_
    refine fX5_trueOne (pc := 32) (M := s1) Z hE1 inX5_hasNowRead (List.mem_of_getElem? (i := 3) rfl) dX5_hasNowRead_32 ?_
    refine ez_iload_n (pc := 35) Z dX5_hasNowRead_35 2 rfl rfl ?_
    refine ez_iald (pc := 36) (n := 5) (a := 7) (v := s1.2.1 7 v2.toNatClampNeg) (M := s1) Z hE1 8 rfl (by decide : 7 < 36) rfl rfl h.1 dX5_hasNowRead_36 ?_
    replace h := h.2
    refine ez_icmp_ne (pc := 37) (tgt := 44) Z dX5_hasNowRead_37 rfl (fun c4 => ?_) (fun c4 => ?_)
    · replace h := h.1 c4
      refine ez_lconst (pc := 44) Z dX5_hasNowRead_44 el_0 ?_
      exact tX5_hasNowRead_45 hE1 Z hR hR14 h
    · replace h := h.2 c4
      refine ez_lconst (pc := 40) Z dX5_hasNowRead_40 el_1 ?_
      refine ez_goto (pc := 41) (tgt := 45) Z dX5_hasNowRead_41 rfl ?_
      exact tX5_hasNowRead_45 hE1 Z hR hR14 h
set_option maxHeartbeats 4000000 in
set_option maxRecDepth 100000 in
theorem kX5_hasNowRead {X : ew_X} {l : Launch} (hX : ew_Ap X) {E : ew_M → ew_S} (hE1 : ew_GE X 50 (ew_GM X.2.1) E) {Q : ew_M → Prop} {p1 : Int32} {p2 : Int32} {s1 : ew_M} (h : wX5_hasNowRead Q p1 p2 s1) : Met l yX5_hasNowRead wsX5_hasNowRead ({ frames := 1, cells := 0, slots := 0, locals := 21 } : Room) (va_Pc [.ref (X.2.1 50), .int p1, .int p2] (ew_wd X (E s1))) (va_Qv (fun (u : ew_M) => Q u) (fun (u : ew_M) => ew_wd X ((fun (u : ew_M) => E u) u)) X.2.2.1) 0 0 X.2.2.1 := by
  refine ew_met (As := [.ref (X.2.1 50), .int p1, .int p2]) (L0 := [(0, .ref (X.2.1 50)), (1, .int p1), (2, .int p2)]) X l hX (by decide) rfl rfl rfl rfl (fun C hl Z hR => ?_)
  subst hl
  refine ez_aload_n (pc := 0) Z dX5_hasNowRead_0 0 rfl rfl ?_
  refine fX5_read (pc := 1) (M := s1) Z hE1 inX5_hasNowRead (List.mem_of_getElem? (i := 1) rfl) dX5_hasNowRead_1 ?_
  refine ez_iload_n (pc := 4) Z dX5_hasNowRead_4 2 rfl rfl ?_
  refine ez_dup2_11 (pc := 5) Z dX5_hasNowRead_5 rfl rfl ?_
  refine ez_iald (pc := 6) (n := 5) (a := 8) (v := s1.2.1 8 p2.toNatClampNeg) (M := s1) Z hE1 9 rfl (by decide : 8 < 36) rfl rfl h.1 dX5_hasNowRead_6 ?_
  replace h := h.2
  refine ez_iconst (pc := 7) Z dX5_hasNowRead_7 ec_1 ?_
  refine ez_iload_n (pc := 8) Z dX5_hasNowRead_8 1 rfl rfl ?_
  refine ez_ishl (pc := 9) Z dX5_hasNowRead_9 ?_
  refine ez_ior (pc := 10) Z dX5_hasNowRead_10 ?_
  refine ez_iast (pc := 11) (n := 5) (a := 8) (M := s1) (M' := ew_sA s1 8 p2.toNatClampNeg ((s1.2.1 8 p2.toNatClampNeg) ||| ((1 : Int32) <<< (p1 &&& 31)))) Z hE1 9 rfl (by decide : 8 < 36) rfl rfl h.1 dX5_hasNowRead_11 ?_
  replace h := h.2
  refine ez_iconst (pc := 12) Z dX5_hasNowRead_12 ec_0 ?_
  refine ez_istore_n (pc := 13) (L' := [(3, .int (0 : Int32)), (0, .ref (X.2.1 50)), (1, .int p1), (2, .int p2)]) Z dX5_hasNowRead_13 rfl (by decide) rfl ?_
  refine ez_sub [(0, .ref (X.2.1 50)), (1, .int p1), (2, .int p2), (3, .int (0 : Int32))] [1, 2, 3, 0] rfl ?_
  exact ew_ind (P := fun (x : Int32 × ew_M) => ew_W C X 4 (E x.2) 14 [(0, .ref (X.2.1 50)), (1, .int p1), (2, .int p2), (3, .int x.1)] []) (fun R hR9 x h => tX5_hasNowRead_14 hE1 Z hR  hR9 h) h
theorem inX5_reads : ∀ w ∈ wsX50, w ∈ wsX5_reads := fun _ h => List.mem_cons_of_mem _ (List.mem_append_right _ (h))
theorem hdX5_reads : yX5_reads.cls = RX5 ∧ yX5_reads.cls ≠ "java/lang/invoke/MethodHandle" ∧ yX5_reads.cls ≠ "java/lang/invoke/VarHandle" ∧ (parseMethodDescriptor yX5_reads.desc).map (fun d => d.parameters.length) = some 2 := by decide +kernel
def wX5_reads_16  (Q : Int32 → ew_M → Prop) (s1 : ew_M) : Prop := wX5_refuse (fun (r1 : Int32) (m2 : ew_M) => Q r1 m2) (-1 : Int32) s1
def wX5_reads (Q : Int32 → ew_M → Prop) (p1 : Int32) (p2 : Int32) (s1 : ew_M) : Prop := wX5_isPerson (fun (r1 : Int32) => (r1 = 0 → wX5_reads_16 Q s1) ∧ (¬ r1 = 0 → wX5_isPaper (fun (r4 : Int32) => (¬ r4 = 0 → wX5_mayRead (fun (r7 : Int32) => (¬ r7 = 0 → wX5_hasNowRead (fun (m11 : ew_M) => vp_in p2 5 ∧ (wX5_ones (fun (r12 : Int32) => Q r12 m11) (m11.2.1 8 p2.toNatClampNeg))) p1 p2 s1) ∧ (r7 = 0 → wX5_refuse (fun (r14 : Int32) (m15 : ew_M) => Q r14 m15) (-3 : Int32) s1)) p1 p2 s1) ∧ (r4 = 0 → wX5_reads_16 Q s1)) p2 s1)) p1 s1
set_option maxHeartbeats 4000000 in
set_option maxRecDepth 100000 in
theorem tX5_reads_16 {C : ew_C} {X : ew_X} {E : ew_M → ew_S} (hE1 : ew_GE X 50 (ew_GM X.2.1) E) (Z : ew_Z C X cX5_reads 3 RX5 wsX5_reads ({ frames := 4, cells := 0, slots := 0, locals := 89 } : Room) (some .int)) {Q : Int32 → ew_M → Prop}  {s1 : ew_M} (hR : C.2.2.2.2.2.2.2.2.2.2 = MQ C.2.2.2.2.2.2.2.1 (va_Qi (fun (r : Int32) (u : ew_M) => Q r u) (fun (u : ew_M) => ew_wd X ((fun (u : ew_M) => E u) u)) X.2.2.1) C.2.2.2.2.2.2.1 C.2.2.2.2.1 0 0 X.2.2.1) (h : wX5_reads_16 Q s1) : ew_W C X 3 (E s1) 16 [(0, .ref (X.2.1 50))] [] := by
  refine ez_aload_n (pc := 16) Z dX5_reads_16 0 rfl rfl ?_
  refine ez_iconst (pc := 17) Z dX5_reads_17 ec_m1 ?_
  refine ez_callVi (pc := 18) (r := 50) (As := [.int (-1 : Int32)]) (st := []) Z (kX5_refuse Z.2.2.2.2.2.2.2.2.2.1 (E := E) hE1 h) gX5_reads_X5_refuse rfl rfl rfl hdX5_refuse rfl rfl (by decide) (ew_oM hE1 _) rfl rfl rfl rfl dX5_reads_18 (fun r1 m2 h => ?_)
  exact ez_iret (pc := 21) Z hR m2 h rfl dX5_reads_21
set_option maxHeartbeats 4000000 in
set_option maxRecDepth 100000 in
theorem kX5_reads {X : ew_X} {l : Launch} (hX : ew_Ap X) {E : ew_M → ew_S} (hE1 : ew_GE X 50 (ew_GM X.2.1) E) {Q : Int32 → ew_M → Prop} {p1 : Int32} {p2 : Int32} {s1 : ew_M} (h : wX5_reads Q p1 p2 s1) : Met l yX5_reads wsX5_reads ({ frames := 4, cells := 0, slots := 0, locals := 89 } : Room) (va_Pc [.ref (X.2.1 50), .int p1, .int p2] (ew_wd X (E s1))) (va_Qi (fun (r : Int32) (u : ew_M) => Q r u) (fun (u : ew_M) => ew_wd X ((fun (u : ew_M) => E u) u)) X.2.2.1) 0 0 X.2.2.1 := by
  refine ew_met (As := [.ref (X.2.1 50), .int p1, .int p2]) (L0 := [(0, .ref (X.2.1 50)), (1, .int p1), (2, .int p2)]) X l hX (by decide) rfl rfl rfl rfl (fun C hl Z hR => ?_)
  subst hl
  refine ez_aload_n (pc := 0) Z dX5_reads_0 0 rfl rfl ?_
  refine ez_iload_n (pc := 1) Z dX5_reads_1 1 rfl rfl ?_
  refine ez_callVi (pc := 2) (r := 50) (As := [.int p1]) (st := []) Z (kX5_isPerson Z.2.2.2.2.2.2.2.2.2.1 (E := E) hE1 h) gX5_reads_X5_isPerson rfl rfl rfl hdX5_isPerson rfl rfl (by decide) (ew_oM hE1 _) rfl rfl rfl rfl dX5_reads_2 (fun r1 u2 h => ?_)
  refine ez_if_eq (pc := 5) (tgt := 16) Z dX5_reads_5 rfl (fun c3 => ?_) (fun c3 => ?_)
  · replace h := h.1 c3
    refine ez_sub [(0, .ref (X.2.1 50))] [0] rfl ?_
    exact tX5_reads_16 hE1 Z hR  h
  · replace h := h.2 c3
    refine ez_aload_n (pc := 8) Z dX5_reads_8 0 rfl rfl ?_
    refine ez_iload_n (pc := 9) Z dX5_reads_9 2 rfl rfl ?_
    refine ez_callVi (pc := 10) (r := 50) (As := [.int p2]) (st := []) Z (kX5_isPaper Z.2.2.2.2.2.2.2.2.2.1 (E := E) hE1 h) gX5_reads_X5_isPaper rfl rfl rfl hdX5_isPaper rfl rfl (by decide) (ew_oM hE1 _) rfl rfl rfl rfl dX5_reads_10 (fun r4 u5 h => ?_)
    refine ez_if_ne (pc := 13) (tgt := 22) Z dX5_reads_13 rfl (fun c6 => ?_) (fun c6 => ?_)
    · replace h := h.1 c6
      refine ez_aload_n (pc := 22) Z dX5_reads_22 0 rfl rfl ?_
      refine ez_iload_n (pc := 23) Z dX5_reads_23 1 rfl rfl ?_
      refine ez_iload_n (pc := 24) Z dX5_reads_24 2 rfl rfl ?_
      refine ez_callVi (pc := 25) (r := 50) (As := [.int p1, .int p2]) (st := []) Z (kX5_mayRead Z.2.2.2.2.2.2.2.2.2.1 (E := E) hE1 h) gX5_reads_X5_mayRead rfl rfl rfl hdX5_mayRead rfl rfl (by decide) (ew_oM hE1 _) rfl rfl rfl rfl dX5_reads_25 (fun r7 u8 h => ?_)
      refine ez_if_ne (pc := 28) (tgt := 38) Z dX5_reads_28 rfl (fun c9 => ?_) (fun c9 => ?_)
      · replace h := h.1 c9
        refine ez_aload_n (pc := 38) Z dX5_reads_38 0 rfl rfl ?_
        refine ez_iload_n (pc := 39) Z dX5_reads_39 1 rfl rfl ?_
        refine ez_iload_n (pc := 40) Z dX5_reads_40 2 rfl rfl ?_
        refine ez_callVv (pc := 41) (r := 50) (As := [.int p1, .int p2]) (st := []) Z (kX5_hasNowRead Z.2.2.2.2.2.2.2.2.2.1 (E := E) hE1 h) gX5_reads_X5_hasNowRead rfl rfl rfl hdX5_hasNowRead rfl rfl (by decide) (ew_oM hE1 _) rfl rfl rfl rfl dX5_reads_41 (fun m11 h => ?_)
        refine ez_aload_n (pc := 44) Z dX5_reads_44 0 rfl rfl ?_
        refine fX5_read (pc := 45) (M := m11) Z hE1 inX5_reads (List.mem_of_getElem? (i := 1) rfl) dX5_reads_45 ?_
        refine ez_iload_n (pc := 48) Z dX5_reads_48 2 rfl rfl ?_
        refine ez_iald (pc := 49) (n := 5) (a := 8) (v := m11.2.1 8 p2.toNatClampNeg) (M := m11) Z hE1 9 rfl (by decide : 8 < 36) rfl rfl h.1 dX5_reads_49 ?_
        replace h := h.2
        refine ez_callSi (pc := 50) (As := [.int (m11.2.1 8 p2.toNatClampNeg)]) (st := []) Z (kX5_ones Z.2.2.2.2.2.2.2.2.2.1 (S := E m11) h) gX5_reads_X5_ones rfl rfl rfl hdX5_ones rfl rfl rfl rfl rfl dX5_reads_50 (fun r12 u13 h => ?_)
        exact ez_iret (pc := 53) Z hR m11 h rfl dX5_reads_53
      · replace h := h.2 c9
        refine ez_aload_n (pc := 31) Z dX5_reads_31 0 rfl rfl ?_
        refine ez_bipush (pc := 32) Z dX5_reads_32 eb_m3 ?_
        refine ez_callVi (pc := 34) (r := 50) (As := [.int (-3 : Int32)]) (st := []) Z (kX5_refuse Z.2.2.2.2.2.2.2.2.2.1 (E := E) hE1 h) gX5_reads_X5_refuse rfl rfl rfl hdX5_refuse rfl rfl (by decide) (ew_oM hE1 _) rfl rfl rfl rfl dX5_reads_34 (fun r14 m15 h => ?_)
        exact ez_iret (pc := 37) Z hR m15 h rfl dX5_reads_37
    · replace h := h.2 c6
      refine ez_sub [(0, .ref (X.2.1 50))] [0] rfl ?_
      exact tX5_reads_16 hE1 Z hR  h
theorem inX5_hear : ∀ w ∈ wsX50, w ∈ wsX5_hear := fun _ h => List.mem_cons_of_mem _ (List.mem_append_right _ (h))
theorem hdX5_hear : yX5_hear.cls = RX5 ∧ yX5_hear.cls ≠ "java/lang/invoke/MethodHandle" ∧ yX5_hear.cls ≠ "java/lang/invoke/VarHandle" ∧ (parseMethodDescriptor yX5_hear.desc).map (fun d => d.parameters.length) = some 3 := by decide +kernel
def wX5_hear_25  (Q : Int32 → ew_M → Prop) (s1 : ew_M) : Prop := wX5_refuse (fun (r1 : Int32) (m2 : ew_M) => Q r1 m2) (-1 : Int32) s1
def wX5_hear_49  (Q : Int32 → ew_M → Prop) (s1 : ew_M) : Prop := wX5_refuse (fun (r1 : Int32) (m2 : ew_M) => Q r1 m2) (-3 : Int32) s1
def wX5_hear_131 (R91 : Int64 × Int32 → Prop) (Q : Int32 → ew_M → Prop) (v1 : Int32) (v2 : Int32) (v3 : Int32) (v4 : Int32) (v7 : Int32) (t0 : Int32) (t1 : Int64) (t2 : Int64) (s1 : ew_M) : Prop := R91 (t2 + (t1 * t0.toInt64), v7 + (1 : Int32))
def wX5_hear_193 (R145 : Int32 × ew_M → Prop) (Q : Int32 → ew_M → Prop) (v1 : Int32) (v2 : Int32) (v3 : Int32) (v4 : Int32) (v5 : Int64) (v7 : Int32) (t0 : Int64) (t1 : Int64) (t2 : Int32) (s1 : ew_M) : Prop := vp_in t2 90 ∧ (R145 (v7 + (1 : Int32), ew_sW s1 0 t2.toNatClampNeg (t1 * t0)))
def wX5_hear_201  (Q : Int32 → ew_M → Prop) (v1 : Int32) (v2 : Int32) (v4 : Int32) (s1 : ew_M) : Prop := wX5_least (fun (m2 : ew_M) => vp_in (((6 : Int32) * v2) + v1) 30 ∧ (vp_in (((6 : Int32) * v2) + v1) 30 ∧ (vp_in (((6 : Int32) * v2) + v1) 30 ∧ (∀ (y3 : Int32), y3 = (ew_sA m2 11 (((6 : Int32) * v2) + v1).toNatClampNeg ((m2.2.1 11 (((6 : Int32) * v2) + v1).toNatClampNeg) + (1 : Int32))).2.1 11 (((6 : Int32) * v2) + v1).toNatClampNeg → Q y3 (ew_sA m2 11 (((6 : Int32) * v2) + v1).toNatClampNeg ((m2.2.1 11 (((6 : Int32) * v2) + v1).toNatClampNeg) + (1 : Int32))))))) v4 s1
def wX5_hear_145 (R145 : Int32 × ew_M → Prop) (Q : Int32 → ew_M → Prop) (v1 : Int32) (v2 : Int32) (v3 : Int32) (v4 : Int32) (v5 : Int64) (v7 : Int32) (s1 : ew_M) : Prop := ((3 : Int32) ≤ v7 → wX5_hear_201 Q v1 v2 v4 s1) ∧ (¬ (3 : Int32) ≤ v7 → ((lg_cmp v5 (0 : Int64)) ≤ 0 → wX5_hear_201 Q v1 v2 v4 s1) ∧ (¬ (lg_cmp v5 (0 : Int64)) ≤ 0 → vp_in (v4 + v7) 90 ∧ ((¬ v7 = v3 → wX5_hear_193 R145 Q v1 v2 v3 v4 v5 v7 (((100 : Int32) - (s1.1 16)).toInt64) (s1.2.2 0 (v4 + v7).toNatClampNeg) (v4 + v7) s1) ∧ (v7 = v3 → wX5_hear_193 R145 Q v1 v2 v3 v4 v5 v7 (((2 : Int32) * (s1.1 16)).toInt64) (s1.2.2 0 (v4 + v7).toNatClampNeg) (v4 + v7) s1))))
def wX5_hear_91 (R91 : Int64 × Int32 → Prop) (Q : Int32 → ew_M → Prop) (v1 : Int32) (v2 : Int32) (v3 : Int32) (v4 : Int32) (v5 : Int64) (v7 : Int32) (s1 : ew_M) : Prop := ((3 : Int32) ≤ v7 → ew_lp (fun (R : Int32 × ew_M → Prop) (x : Int32 × ew_M) => wX5_hear_145 R Q v1 v2 v3 v4 v5 x.1 x.2) ((0 : Int32), s1)) ∧ (¬ (3 : Int32) ≤ v7 → vp_in (v4 + v7) 90 ∧ ((¬ v7 = v3 → wX5_hear_131 R91 Q v1 v2 v3 v4 v7 ((100 : Int32) - (s1.1 16)) (s1.2.2 0 (v4 + v7).toNatClampNeg) v5 s1) ∧ (v7 = v3 → wX5_hear_131 R91 Q v1 v2 v3 v4 v7 ((2 : Int32) * (s1.1 16)) (s1.2.2 0 (v4 + v7).toNatClampNeg) v5 s1)))
def wX5_hear (Q : Int32 → ew_M → Prop) (p1 : Int32) (p2 : Int32) (p3 : Int32) (s1 : ew_M) : Prop := wX5_isPerson (fun (r1 : Int32) => (r1 = 0 → wX5_hear_25 Q s1) ∧ (¬ r1 = 0 → wX5_isPaper (fun (r4 : Int32) => (r4 = 0 → wX5_hear_25 Q s1) ∧ (¬ r4 = 0 → wX5_in (fun (r7 : Int32) => (¬ r7 = 0 → wX5_isBound (fun (r10 : Int32) => (r10 = 0 → wX5_hear_49 Q s1) ∧ (¬ r10 = 0 → wX5_hasRead (fun (r13 : Int32) => (r13 = 0 → vp_in (((6 : Int32) * p2) + p1) 30 ∧ ((¬ (s1.2.1 11 (((6 : Int32) * p2) + p1).toNatClampNeg) = (3 : Int32) → wX5_fromOf (fun (r17 : Int32) => ew_lp (fun (R : Int64 × Int32 → Prop) (x : Int64 × Int32) => wX5_hear_91 R Q p1 p2 p3 r17 x.1 x.2 s1) ((0 : Int64), (0 : Int32))) p1 p2) ∧ ((s1.2.1 11 (((6 : Int32) * p2) + p1).toNatClampNeg) = (3 : Int32) → wX5_refuse (fun (r19 : Int32) (m20 : ew_M) => Q r19 m20) (-6 : Int32) s1))) ∧ (¬ r13 = 0 → wX5_hear_49 Q s1)) p1 p2 s1)) p1 p2 s1) ∧ (r7 = 0 → wX5_hear_25 Q s1)) p3 (0 : Int32) (2 : Int32))) p2 s1)) p1 s1
set_option maxHeartbeats 4000000 in
set_option maxRecDepth 100000 in
theorem tX5_hear_25 {C : ew_C} {X : ew_X} {E : ew_M → ew_S} (hE1 : ew_GE X 50 (ew_GM X.2.1) E) (Z : ew_Z C X cX5_hear 8 RX5 wsX5_hear ({ frames := 2, cells := 0, slots := 0, locals := 53 } : Room) (some .int)) {Q : Int32 → ew_M → Prop}  {s1 : ew_M} (hR : C.2.2.2.2.2.2.2.2.2.2 = MQ C.2.2.2.2.2.2.2.1 (va_Qi (fun (r : Int32) (u : ew_M) => Q r u) (fun (u : ew_M) => ew_wd X ((fun (u : ew_M) => E u) u)) X.2.2.1) C.2.2.2.2.2.2.1 C.2.2.2.2.1 0 0 X.2.2.1) (h : wX5_hear_25 Q s1) : ew_W C X 8 (E s1) 25 [(0, .ref (X.2.1 50))] [] := by
  refine ez_aload_n (pc := 25) Z dX5_hear_25 0 rfl rfl ?_
  refine ez_iconst (pc := 26) Z dX5_hear_26 ec_m1 ?_
  refine ez_callVi (pc := 27) (r := 50) (As := [.int (-1 : Int32)]) (st := []) Z (kX5_refuse Z.2.2.2.2.2.2.2.2.2.1 (E := E) hE1 h) gX5_hear_X5_refuse rfl rfl rfl hdX5_refuse rfl rfl (by decide) (ew_oM hE1 _) rfl rfl rfl rfl dX5_hear_27 (fun r1 m2 h => ?_)
  exact ez_iret (pc := 30) Z hR m2 h rfl dX5_hear_30
set_option maxHeartbeats 4000000 in
set_option maxRecDepth 100000 in
theorem tX5_hear_49 {C : ew_C} {X : ew_X} {E : ew_M → ew_S} (hE1 : ew_GE X 50 (ew_GM X.2.1) E) (Z : ew_Z C X cX5_hear 8 RX5 wsX5_hear ({ frames := 2, cells := 0, slots := 0, locals := 53 } : Room) (some .int)) {Q : Int32 → ew_M → Prop}  {s1 : ew_M} (hR : C.2.2.2.2.2.2.2.2.2.2 = MQ C.2.2.2.2.2.2.2.1 (va_Qi (fun (r : Int32) (u : ew_M) => Q r u) (fun (u : ew_M) => ew_wd X ((fun (u : ew_M) => E u) u)) X.2.2.1) C.2.2.2.2.2.2.1 C.2.2.2.2.1 0 0 X.2.2.1) (h : wX5_hear_49 Q s1) : ew_W C X 8 (E s1) 49 [(0, .ref (X.2.1 50))] [] := by
  refine ez_aload_n (pc := 49) Z dX5_hear_49 0 rfl rfl ?_
  refine ez_bipush (pc := 50) Z dX5_hear_50 eb_m3 ?_
  refine ez_callVi (pc := 52) (r := 50) (As := [.int (-3 : Int32)]) (st := []) Z (kX5_refuse Z.2.2.2.2.2.2.2.2.2.1 (E := E) hE1 h) gX5_hear_X5_refuse rfl rfl rfl hdX5_refuse rfl rfl (by decide) (ew_oM hE1 _) rfl rfl rfl rfl dX5_hear_52 (fun r1 m2 h => ?_)
  exact ez_iret (pc := 55) Z hR m2 h rfl dX5_hear_55
set_option maxHeartbeats 4000000 in
set_option maxRecDepth 100000 in
theorem tX5_hear_131 {C : ew_C} {X : ew_X} {E : ew_M → ew_S} (hE1 : ew_GE X 50 (ew_GM X.2.1) E) (Z : ew_Z C X cX5_hear 8 RX5 wsX5_hear ({ frames := 2, cells := 0, slots := 0, locals := 53 } : Room) (some .int)) {Q : Int32 → ew_M → Prop} {R91 : Int64 × Int32 → Prop} {v1 : Int32} {v2 : Int32} {v3 : Int32} {v4 : Int32} {v7 : Int32} {t0 : Int32} {t1 : Int64} {t2 : Int64} {s1 : ew_M} (hR : C.2.2.2.2.2.2.2.2.2.2 = MQ C.2.2.2.2.2.2.2.1 (va_Qi (fun (r : Int32) (u : ew_M) => Q r u) (fun (u : ew_M) => ew_wd X ((fun (u : ew_M) => E u) u)) X.2.2.1) C.2.2.2.2.2.2.1 C.2.2.2.2.1 0 0 X.2.2.1) (hR91 : ∀ x : Int64 × Int32, R91 x → ew_W C X 8 (E s1) 91 [(0, .ref (X.2.1 50)), (1, .int v1), (2, .int v2), (3, .int v3), (4, .int v4), (5, .long x.1), (7, .int x.2)] []) (h : wX5_hear_131 R91 Q v1 v2 v3 v4 v7 t0 t1 t2 s1) : ew_W C X 8 (E s1) 131 [(0, .ref (X.2.1 50)), (1, .int v1), (2, .int v2), (3, .int v3), (4, .int v4), (7, .int v7)] [.int t0, .long t1, .long t2] := by
  refine ez_i2l (pc := 131) Z dX5_hear_131 ?_
  refine ez_lmul (pc := 132) Z dX5_hear_132 ?_
  refine ez_ladd (pc := 133) Z dX5_hear_133 ?_
  refine ez_lstore (pc := 134) (L' := [(5, .long (t2 + (t1 * t0.toInt64))), (0, .ref (X.2.1 50)), (1, .int v1), (2, .int v2), (3, .int v3), (4, .int v4), (7, .int v7)]) Z dX5_hear_134 (by decide) rfl ?_
  refine ez_iinc (pc := 136) (L' := [(7, .int (v7 + (1 : Int32))), (5, .long (t2 + (t1 * t0.toInt64))), (0, .ref (X.2.1 50)), (1, .int v1), (2, .int v2), (3, .int v3), (4, .int v4)]) Z dX5_hear_136 6 rfl (ei_1 _) (by decide) rfl ?_
  refine ez_goto (pc := 139) (tgt := 91) Z dX5_hear_139 rfl ?_
  refine ez_sub [(0, .ref (X.2.1 50)), (1, .int v1), (2, .int v2), (3, .int v3), (4, .int v4), (5, .long (t2 + (t1 * t0.toInt64))), (7, .int (v7 + (1 : Int32)))] [2, 3, 4, 5, 6, 1, 0] rfl ?_
  exact hR91 _ h
set_option maxHeartbeats 4000000 in
set_option maxRecDepth 100000 in
theorem tX5_hear_193 {C : ew_C} {X : ew_X} {E : ew_M → ew_S} (hE1 : ew_GE X 50 (ew_GM X.2.1) E) (Z : ew_Z C X cX5_hear 8 RX5 wsX5_hear ({ frames := 2, cells := 0, slots := 0, locals := 53 } : Room) (some .int)) {Q : Int32 → ew_M → Prop} {R145 : Int32 × ew_M → Prop} {v1 : Int32} {v2 : Int32} {v3 : Int32} {v4 : Int32} {v5 : Int64} {v7 : Int32} {t0 : Int64} {t1 : Int64} {t2 : Int32} {s1 : ew_M} (hR : C.2.2.2.2.2.2.2.2.2.2 = MQ C.2.2.2.2.2.2.2.1 (va_Qi (fun (r : Int32) (u : ew_M) => Q r u) (fun (u : ew_M) => ew_wd X ((fun (u : ew_M) => E u) u)) X.2.2.1) C.2.2.2.2.2.2.1 C.2.2.2.2.1 0 0 X.2.2.1) (hR145 : ∀ x : Int32 × ew_M, R145 x → ew_W C X 8 (E x.2) 145 [(0, .ref (X.2.1 50)), (1, .int v1), (2, .int v2), (3, .int v3), (4, .int v4), (5, .long v5), (7, .int x.1)] []) (h : wX5_hear_193 R145 Q v1 v2 v3 v4 v5 v7 t0 t1 t2 s1) : ew_W C X 8 (E s1) 193 [(0, .ref (X.2.1 50)), (1, .int v1), (2, .int v2), (3, .int v3), (4, .int v4), (5, .long v5), (7, .int v7)] [.long t0, .long t1, .int t2, .ref (X.2.1 87)] := by
  refine ez_lmul (pc := 193) Z dX5_hear_193 ?_
  refine ez_last (pc := 194) (n := 90) (a := 0) (M := s1) (M' := ew_sW s1 0 t2.toNatClampNeg (t1 * t0)) Z hE1 37 rfl (by decide : 0 < 3) rfl (fun _ _ _ => rfl) rfl h.1 dX5_hear_194 ?_
  replace h := h.2
  refine ez_iinc (pc := 195) (L' := [(7, .int (v7 + (1 : Int32))), (0, .ref (X.2.1 50)), (1, .int v1), (2, .int v2), (3, .int v3), (4, .int v4), (5, .long v5)]) Z dX5_hear_195 6 rfl (ei_1 _) (by decide) rfl ?_
  refine ez_goto (pc := 198) (tgt := 145) Z dX5_hear_198 rfl ?_
  refine ez_sub [(0, .ref (X.2.1 50)), (1, .int v1), (2, .int v2), (3, .int v3), (4, .int v4), (5, .long v5), (7, .int (v7 + (1 : Int32)))] [1, 2, 3, 4, 5, 6, 0] rfl ?_
  exact hR145 _ h
set_option maxHeartbeats 4000000 in
set_option maxRecDepth 100000 in
theorem tX5_hear_201 {C : ew_C} {X : ew_X} {E : ew_M → ew_S} (hE1 : ew_GE X 50 (ew_GM X.2.1) E) (Z : ew_Z C X cX5_hear 8 RX5 wsX5_hear ({ frames := 2, cells := 0, slots := 0, locals := 53 } : Room) (some .int)) {Q : Int32 → ew_M → Prop}  {v1 : Int32} {v2 : Int32} {v4 : Int32} {s1 : ew_M} (hR : C.2.2.2.2.2.2.2.2.2.2 = MQ C.2.2.2.2.2.2.2.1 (va_Qi (fun (r : Int32) (u : ew_M) => Q r u) (fun (u : ew_M) => ew_wd X ((fun (u : ew_M) => E u) u)) X.2.2.1) C.2.2.2.2.2.2.1 C.2.2.2.2.1 0 0 X.2.2.1) (h : wX5_hear_201 Q v1 v2 v4 s1) : ew_W C X 8 (E s1) 201 [(0, .ref (X.2.1 50)), (1, .int v1), (2, .int v2), (4, .int v4)] [] := by
  refine ez_aload_n (pc := 201) Z dX5_hear_201 0 rfl rfl ?_
  refine ez_iload (pc := 202) Z dX5_hear_202 3 rfl ?_
  refine ez_callVv (pc := 204) (r := 50) (As := [.int v4]) (st := []) Z (kX5_least Z.2.2.2.2.2.2.2.2.2.1 (E := E) hE1 h) gX5_hear_X5_least rfl rfl rfl hdX5_least rfl rfl (by decide) (ew_oM hE1 _) rfl rfl rfl rfl dX5_hear_204 (fun m2 h => ?_)
  refine ez_aload_n (pc := 207) Z dX5_hear_207 0 rfl rfl ?_
  refine fX5_heard (pc := 208) (M := m2) Z hE1 inX5_hear (List.mem_of_getElem? (i := 1) rfl) dX5_hear_208 ?_
  refine ez_bipush (pc := 211) Z dX5_hear_211 eb_6 ?_
  refine ez_iload_n (pc := 213) Z dX5_hear_213 2 rfl rfl ?_
  refine ez_imul (pc := 214) Z dX5_hear_214 ?_
  refine ez_iload_n (pc := 215) Z dX5_hear_215 1 rfl rfl ?_
  refine ez_iadd (pc := 216) Z dX5_hear_216 ?_
  refine ez_dup2_11 (pc := 217) Z dX5_hear_217 rfl rfl ?_
  refine ez_iald (pc := 218) (n := 30) (a := 11) (v := m2.2.1 11 (((6 : Int32) * v2) + v1).toNatClampNeg) (M := m2) Z hE1 12 rfl (by decide : 11 < 36) rfl rfl h.1 dX5_hear_218 ?_
  replace h := h.2
  refine ez_iconst (pc := 219) Z dX5_hear_219 ec_1 ?_
  refine ez_iadd (pc := 220) Z dX5_hear_220 ?_
  refine ez_iast (pc := 221) (n := 30) (a := 11) (M := m2) (M' := ew_sA m2 11 (((6 : Int32) * v2) + v1).toNatClampNeg ((m2.2.1 11 (((6 : Int32) * v2) + v1).toNatClampNeg) + (1 : Int32))) Z hE1 12 rfl (by decide : 11 < 36) rfl rfl h.1 dX5_hear_221 ?_
  replace h := h.2
  refine ez_aload_n (pc := 222) Z dX5_hear_222 0 rfl rfl ?_
  refine fX5_heard (pc := 223) (M := ew_sA m2 11 (((6 : Int32) * v2) + v1).toNatClampNeg ((m2.2.1 11 (((6 : Int32) * v2) + v1).toNatClampNeg) + (1 : Int32))) Z hE1 inX5_hear (List.mem_of_getElem? (i := 1) rfl) dX5_hear_223 ?_
  refine ez_bipush (pc := 226) Z dX5_hear_226 eb_6 ?_
  refine ez_iload_n (pc := 228) Z dX5_hear_228 2 rfl rfl ?_
  refine ez_imul (pc := 229) Z dX5_hear_229 ?_
  refine ez_iload_n (pc := 230) Z dX5_hear_230 1 rfl rfl ?_
  refine ez_iadd (pc := 231) Z dX5_hear_231 ?_
  refine ez_iald (pc := 232) (n := 30) (a := 11) (v := (ew_sA m2 11 (((6 : Int32) * v2) + v1).toNatClampNeg ((m2.2.1 11 (((6 : Int32) * v2) + v1).toNatClampNeg) + (1 : Int32))).2.1 11 (((6 : Int32) * v2) + v1).toNatClampNeg) (M := ew_sA m2 11 (((6 : Int32) * v2) + v1).toNatClampNeg ((m2.2.1 11 (((6 : Int32) * v2) + v1).toNatClampNeg) + (1 : Int32))) Z hE1 12 rfl (by decide : 11 < 36) rfl rfl h.1 dX5_hear_232 ?_
  replace h := h.2
  refine ez_topi (fun y3 ey3 => ?_)
  replace h := h y3 ey3
  exact ez_iret (pc := 233) Z hR (ew_sA m2 11 (((6 : Int32) * v2) + v1).toNatClampNeg ((m2.2.1 11 (((6 : Int32) * v2) + v1).toNatClampNeg) + (1 : Int32))) h rfl dX5_hear_233
set_option maxHeartbeats 4000000 in
set_option maxRecDepth 100000 in
theorem tX5_hear_145 {C : ew_C} {X : ew_X} {E : ew_M → ew_S} (hE1 : ew_GE X 50 (ew_GM X.2.1) E) (Z : ew_Z C X cX5_hear 8 RX5 wsX5_hear ({ frames := 2, cells := 0, slots := 0, locals := 53 } : Room) (some .int)) {Q : Int32 → ew_M → Prop} {R145 : Int32 × ew_M → Prop} {v1 : Int32} {v2 : Int32} {v3 : Int32} {v4 : Int32} {v5 : Int64} {v7 : Int32} {s1 : ew_M} (hR : C.2.2.2.2.2.2.2.2.2.2 = MQ C.2.2.2.2.2.2.2.1 (va_Qi (fun (r : Int32) (u : ew_M) => Q r u) (fun (u : ew_M) => ew_wd X ((fun (u : ew_M) => E u) u)) X.2.2.1) C.2.2.2.2.2.2.1 C.2.2.2.2.1 0 0 X.2.2.1) (hR145 : ∀ x : Int32 × ew_M, R145 x → ew_W C X 8 (E x.2) 145 [(0, .ref (X.2.1 50)), (1, .int v1), (2, .int v2), (3, .int v3), (4, .int v4), (5, .long v5), (7, .int x.1)] []) (h : wX5_hear_145 R145 Q v1 v2 v3 v4 v5 v7 s1) : ew_W C X 8 (E s1) 145 [(0, .ref (X.2.1 50)), (1, .int v1), (2, .int v2), (3, .int v3), (4, .int v4), (5, .long v5), (7, .int v7)] [] := by
  refine ez_iload (pc := 145) Z dX5_hear_145 6 rfl ?_
  refine ez_iconst (pc := 147) Z dX5_hear_147 ec_3 ?_
  refine ez_icmp_ge (pc := 148) (tgt := 201) Z dX5_hear_148 rfl (fun c1 => ?_) (fun c1 => ?_)
  · replace h := h.1 c1
    refine ez_sub [(0, .ref (X.2.1 50)), (1, .int v1), (2, .int v2), (4, .int v4)] [0, 1, 2, 4] rfl ?_
    exact tX5_hear_201 hE1 Z hR  h
  · replace h := h.2 c1
    refine ez_lload (pc := 151) Z dX5_hear_151 5 rfl ?_
    refine ez_lconst (pc := 153) Z dX5_hear_153 el_0 ?_
    refine ez_lcmp (pc := 154) Z dX5_hear_154 ?_
    refine ez_if_le (pc := 155) (tgt := 201) Z dX5_hear_155 rfl (fun c2 => ?_) (fun c2 => ?_)
    · replace h := h.1 c2
      refine ez_sub [(0, .ref (X.2.1 50)), (1, .int v1), (2, .int v2), (4, .int v4)] [0, 1, 2, 4] rfl ?_
      exact tX5_hear_201 hE1 Z hR  h
    · replace h := h.2 c2
      refine ez_aload_n (pc := 158) Z dX5_hear_158 0 rfl rfl ?_
      refine fX5_weights (pc := 159) (M := s1) Z hE1 inX5_hear (List.mem_of_getElem? (i := 2) rfl) dX5_hear_159 ?_
      refine ez_iload (pc := 162) Z dX5_hear_162 4 rfl ?_
      refine ez_iload (pc := 164) Z dX5_hear_164 6 rfl ?_
      refine ez_iadd (pc := 166) Z dX5_hear_166 ?_
      refine ez_dup2_11 (pc := 167) Z dX5_hear_167 rfl rfl ?_
      refine ez_lald (pc := 168) (n := 90) (a := 0) (v := s1.2.2 0 (v4 + v7).toNatClampNeg) (M := s1) Z hE1 37 rfl (by decide : 0 < 3) rfl rfl h.1 dX5_hear_168 ?_
      replace h := h.2
      refine ez_iload (pc := 169) Z dX5_hear_169 6 rfl ?_
      refine ez_iload_n (pc := 171) Z dX5_hear_171 3 rfl rfl ?_
      refine ez_icmp_ne (pc := 172) (tgt := 185) Z dX5_hear_172 rfl (fun c3 => ?_) (fun c3 => ?_)
      · replace h := h.1 c3
        refine ez_bipush (pc := 185) Z dX5_hear_185 eb_100 ?_
        refine ez_aload_n (pc := 187) Z dX5_hear_187 0 rfl rfl ?_
        refine fX5_truthful (pc := 188) (v := s1.1 16) Z hE1 rfl inX5_hear (List.mem_of_getElem? (i := 3) rfl) dX5_hear_188 ?_
        refine ez_isub (pc := 191) Z dX5_hear_191 ?_
        refine ez_i2l (pc := 192) Z dX5_hear_192 ?_
        exact tX5_hear_193 hE1 Z hR hR145 h
      · replace h := h.2 c3
        refine ez_iconst (pc := 175) Z dX5_hear_175 ec_2 ?_
        refine ez_aload_n (pc := 176) Z dX5_hear_176 0 rfl rfl ?_
        refine fX5_truthful (pc := 177) (v := s1.1 16) Z hE1 rfl inX5_hear (List.mem_of_getElem? (i := 3) rfl) dX5_hear_177 ?_
        refine ez_imul (pc := 180) Z dX5_hear_180 ?_
        refine ez_i2l (pc := 181) Z dX5_hear_181 ?_
        refine ez_goto (pc := 182) (tgt := 193) Z dX5_hear_182 rfl ?_
        exact tX5_hear_193 hE1 Z hR hR145 h
set_option maxHeartbeats 4000000 in
set_option maxRecDepth 100000 in
theorem tX5_hear_91 {C : ew_C} {X : ew_X} {E : ew_M → ew_S} (hE1 : ew_GE X 50 (ew_GM X.2.1) E) (Z : ew_Z C X cX5_hear 8 RX5 wsX5_hear ({ frames := 2, cells := 0, slots := 0, locals := 53 } : Room) (some .int)) {Q : Int32 → ew_M → Prop} {R91 : Int64 × Int32 → Prop} {v1 : Int32} {v2 : Int32} {v3 : Int32} {v4 : Int32} {v5 : Int64} {v7 : Int32} {s1 : ew_M} (hR : C.2.2.2.2.2.2.2.2.2.2 = MQ C.2.2.2.2.2.2.2.1 (va_Qi (fun (r : Int32) (u : ew_M) => Q r u) (fun (u : ew_M) => ew_wd X ((fun (u : ew_M) => E u) u)) X.2.2.1) C.2.2.2.2.2.2.1 C.2.2.2.2.1 0 0 X.2.2.1) (hR91 : ∀ x : Int64 × Int32, R91 x → ew_W C X 8 (E s1) 91 [(0, .ref (X.2.1 50)), (1, .int v1), (2, .int v2), (3, .int v3), (4, .int v4), (5, .long x.1), (7, .int x.2)] []) (h : wX5_hear_91 R91 Q v1 v2 v3 v4 v5 v7 s1) : ew_W C X 8 (E s1) 91 [(0, .ref (X.2.1 50)), (1, .int v1), (2, .int v2), (3, .int v3), (4, .int v4), (5, .long v5), (7, .int v7)] [] := by
  refine ez_iload (pc := 91) Z dX5_hear_91 6 rfl ?_
  refine ez_iconst (pc := 93) Z dX5_hear_93 ec_3 ?_
  refine ez_icmp_ge (pc := 94) (tgt := 142) Z dX5_hear_94 rfl (fun c1 => ?_) (fun c1 => ?_)
  · replace h := h.1 c1
    refine ez_iconst (pc := 142) Z dX5_hear_142 ec_0 ?_
    refine ez_istore (pc := 143) (L' := [(7, .int (0 : Int32)), (0, .ref (X.2.1 50)), (1, .int v1), (2, .int v2), (3, .int v3), (4, .int v4), (5, .long v5)]) Z dX5_hear_143 (by decide) rfl ?_
    refine ez_sub [(0, .ref (X.2.1 50)), (1, .int v1), (2, .int v2), (3, .int v3), (4, .int v4), (5, .long v5), (7, .int (0 : Int32))] [1, 2, 3, 4, 5, 6, 0] rfl ?_
    exact ew_ind (P := fun (x : Int32 × ew_M) => ew_W C X 8 (E x.2) 145 [(0, .ref (X.2.1 50)), (1, .int v1), (2, .int v2), (3, .int v3), (4, .int v4), (5, .long v5), (7, .int x.1)] []) (fun R hR9 x h => tX5_hear_145 hE1 Z hR  hR9 h) h
  · replace h := h.2 c1
    refine ez_lload (pc := 97) Z dX5_hear_97 5 rfl ?_
    refine ez_aload_n (pc := 99) Z dX5_hear_99 0 rfl rfl ?_
    refine fX5_weights (pc := 100) (M := s1) Z hE1 inX5_hear (List.mem_of_getElem? (i := 2) rfl) dX5_hear_100 ?_
    refine ez_iload (pc := 103) Z dX5_hear_103 4 rfl ?_
    refine ez_iload (pc := 105) Z dX5_hear_105 6 rfl ?_
    refine ez_iadd (pc := 107) Z dX5_hear_107 ?_
    refine ez_lald (pc := 108) (n := 90) (a := 0) (v := s1.2.2 0 (v4 + v7).toNatClampNeg) (M := s1) Z hE1 37 rfl (by decide : 0 < 3) rfl rfl h.1 dX5_hear_108 ?_
    replace h := h.2
    refine ez_iload (pc := 109) Z dX5_hear_109 6 rfl ?_
    refine ez_iload_n (pc := 111) Z dX5_hear_111 3 rfl rfl ?_
    refine ez_icmp_ne (pc := 112) (tgt := 124) Z dX5_hear_112 rfl (fun c2 => ?_) (fun c2 => ?_)
    · replace h := h.1 c2
      refine ez_bipush (pc := 124) Z dX5_hear_124 eb_100 ?_
      refine ez_aload_n (pc := 126) Z dX5_hear_126 0 rfl rfl ?_
      refine fX5_truthful (pc := 127) (v := s1.1 16) Z hE1 rfl inX5_hear (List.mem_of_getElem? (i := 3) rfl) dX5_hear_127 ?_
      refine ez_isub (pc := 130) Z dX5_hear_130 ?_
      refine ez_sub [(0, .ref (X.2.1 50)), (1, .int v1), (2, .int v2), (3, .int v3), (4, .int v4), (7, .int v7)] [0, 1, 2, 3, 4, 6] rfl ?_
      exact tX5_hear_131 hE1 Z hR hR91 h
    · replace h := h.2 c2
      refine ez_iconst (pc := 115) Z dX5_hear_115 ec_2 ?_
      refine ez_aload_n (pc := 116) Z dX5_hear_116 0 rfl rfl ?_
      refine fX5_truthful (pc := 117) (v := s1.1 16) Z hE1 rfl inX5_hear (List.mem_of_getElem? (i := 3) rfl) dX5_hear_117 ?_
      refine ez_imul (pc := 120) Z dX5_hear_120 ?_
      refine ez_goto (pc := 121) (tgt := 131) Z dX5_hear_121 rfl ?_
      refine ez_sub [(0, .ref (X.2.1 50)), (1, .int v1), (2, .int v2), (3, .int v3), (4, .int v4), (7, .int v7)] [0, 1, 2, 3, 4, 6] rfl ?_
      exact tX5_hear_131 hE1 Z hR hR91 h
set_option maxHeartbeats 4000000 in
set_option maxRecDepth 100000 in
theorem kX5_hear {X : ew_X} {l : Launch} (hX : ew_Ap X) {E : ew_M → ew_S} (hE1 : ew_GE X 50 (ew_GM X.2.1) E) {Q : Int32 → ew_M → Prop} {p1 : Int32} {p2 : Int32} {p3 : Int32} {s1 : ew_M} (h : wX5_hear Q p1 p2 p3 s1) : Met l yX5_hear wsX5_hear ({ frames := 2, cells := 0, slots := 0, locals := 53 } : Room) (va_Pc [.ref (X.2.1 50), .int p1, .int p2, .int p3] (ew_wd X (E s1))) (va_Qi (fun (r : Int32) (u : ew_M) => Q r u) (fun (u : ew_M) => ew_wd X ((fun (u : ew_M) => E u) u)) X.2.2.1) 0 0 X.2.2.1 := by
  refine ew_met (As := [.ref (X.2.1 50), .int p1, .int p2, .int p3]) (L0 := [(0, .ref (X.2.1 50)), (1, .int p1), (2, .int p2), (3, .int p3)]) X l hX (by decide) rfl rfl rfl rfl (fun C hl Z hR => ?_)
  subst hl
  refine ez_aload_n (pc := 0) Z dX5_hear_0 0 rfl rfl ?_
  refine ez_iload_n (pc := 1) Z dX5_hear_1 1 rfl rfl ?_
  refine ez_callVi (pc := 2) (r := 50) (As := [.int p1]) (st := []) Z (kX5_isPerson Z.2.2.2.2.2.2.2.2.2.1 (E := E) hE1 h) gX5_hear_X5_isPerson rfl rfl rfl hdX5_isPerson rfl rfl (by decide) (ew_oM hE1 _) rfl rfl rfl rfl dX5_hear_2 (fun r1 u2 h => ?_)
  refine ez_if_eq (pc := 5) (tgt := 25) Z dX5_hear_5 rfl (fun c3 => ?_) (fun c3 => ?_)
  · replace h := h.1 c3
    refine ez_sub [(0, .ref (X.2.1 50))] [0] rfl ?_
    exact tX5_hear_25 hE1 Z hR  h
  · replace h := h.2 c3
    refine ez_aload_n (pc := 8) Z dX5_hear_8 0 rfl rfl ?_
    refine ez_iload_n (pc := 9) Z dX5_hear_9 2 rfl rfl ?_
    refine ez_callVi (pc := 10) (r := 50) (As := [.int p2]) (st := []) Z (kX5_isPaper Z.2.2.2.2.2.2.2.2.2.1 (E := E) hE1 h) gX5_hear_X5_isPaper rfl rfl rfl hdX5_isPaper rfl rfl (by decide) (ew_oM hE1 _) rfl rfl rfl rfl dX5_hear_10 (fun r4 u5 h => ?_)
    refine ez_if_eq (pc := 13) (tgt := 25) Z dX5_hear_13 rfl (fun c6 => ?_) (fun c6 => ?_)
    · replace h := h.1 c6
      refine ez_sub [(0, .ref (X.2.1 50))] [0] rfl ?_
      exact tX5_hear_25 hE1 Z hR  h
    · replace h := h.2 c6
      refine ez_iload_n (pc := 16) Z dX5_hear_16 3 rfl rfl ?_
      refine ez_iconst (pc := 17) Z dX5_hear_17 ec_0 ?_
      refine ez_iconst (pc := 18) Z dX5_hear_18 ec_2 ?_
      refine ez_callSi (pc := 19) (As := [.int p3, .int (0 : Int32), .int (2 : Int32)]) (st := []) Z (kX5_in Z.2.2.2.2.2.2.2.2.2.1 (S := E s1) h) gX5_hear_X5_in rfl rfl rfl hdX5_in rfl rfl rfl rfl rfl dX5_hear_19 (fun r7 u8 h => ?_)
      refine ez_if_ne (pc := 22) (tgt := 31) Z dX5_hear_22 rfl (fun c9 => ?_) (fun c9 => ?_)
      · replace h := h.1 c9
        refine ez_aload_n (pc := 31) Z dX5_hear_31 0 rfl rfl ?_
        refine ez_iload_n (pc := 32) Z dX5_hear_32 1 rfl rfl ?_
        refine ez_iload_n (pc := 33) Z dX5_hear_33 2 rfl rfl ?_
        refine ez_callVi (pc := 34) (r := 50) (As := [.int p1, .int p2]) (st := []) Z (kX5_isBound Z.2.2.2.2.2.2.2.2.2.1 (E := E) hE1 h) gX5_hear_X5_isBound rfl rfl rfl hdX5_isBound rfl rfl (by decide) (ew_oM hE1 _) rfl rfl rfl rfl dX5_hear_34 (fun r10 u11 h => ?_)
        refine ez_if_eq (pc := 37) (tgt := 49) Z dX5_hear_37 rfl (fun c12 => ?_) (fun c12 => ?_)
        · replace h := h.1 c12
          refine ez_sub [(0, .ref (X.2.1 50))] [0] rfl ?_
          exact tX5_hear_49 hE1 Z hR  h
        · replace h := h.2 c12
          refine ez_aload_n (pc := 40) Z dX5_hear_40 0 rfl rfl ?_
          refine ez_iload_n (pc := 41) Z dX5_hear_41 1 rfl rfl ?_
          refine ez_iload_n (pc := 42) Z dX5_hear_42 2 rfl rfl ?_
          refine ez_callVi (pc := 43) (r := 50) (As := [.int p1, .int p2]) (st := []) Z (kX5_hasRead Z.2.2.2.2.2.2.2.2.2.1 (E := E) hE1 h) gX5_hear_X5_hasRead rfl rfl rfl hdX5_hasRead rfl rfl (by decide) (ew_oM hE1 _) rfl rfl rfl rfl dX5_hear_43 (fun r13 u14 h => ?_)
          refine ez_if_eq (pc := 46) (tgt := 56) Z dX5_hear_46 rfl (fun c15 => ?_) (fun c15 => ?_)
          · replace h := h.1 c15
            refine ez_aload_n (pc := 56) Z dX5_hear_56 0 rfl rfl ?_
            refine fX5_heard (pc := 57) (M := s1) Z hE1 inX5_hear (List.mem_of_getElem? (i := 1) rfl) dX5_hear_57 ?_
            refine ez_bipush (pc := 60) Z dX5_hear_60 eb_6 ?_
            refine ez_iload_n (pc := 62) Z dX5_hear_62 2 rfl rfl ?_
            refine ez_imul (pc := 63) Z dX5_hear_63 ?_
            refine ez_iload_n (pc := 64) Z dX5_hear_64 1 rfl rfl ?_
            refine ez_iadd (pc := 65) Z dX5_hear_65 ?_
            refine ez_iald (pc := 66) (n := 30) (a := 11) (v := s1.2.1 11 (((6 : Int32) * p2) + p1).toNatClampNeg) (M := s1) Z hE1 12 rfl (by decide : 11 < 36) rfl rfl h.1 dX5_hear_66 ?_
            replace h := h.2
            refine ez_iconst (pc := 67) Z dX5_hear_67 ec_3 ?_
            refine ez_icmp_ne (pc := 68) (tgt := 78) Z dX5_hear_68 rfl (fun c16 => ?_) (fun c16 => ?_)
            · replace h := h.1 c16
              refine ez_iload_n (pc := 78) Z dX5_hear_78 1 rfl rfl ?_
              refine ez_iload_n (pc := 79) Z dX5_hear_79 2 rfl rfl ?_
              refine ez_callSi (pc := 80) (As := [.int p1, .int p2]) (st := []) Z (kX5_fromOf Z.2.2.2.2.2.2.2.2.2.1 (S := E s1) h) gX5_hear_X5_fromOf rfl rfl rfl hdX5_fromOf rfl rfl rfl rfl rfl dX5_hear_80 (fun r17 u18 h => ?_)
              refine ez_istore (pc := 83) (L' := [(4, .int r17), (0, .ref (X.2.1 50)), (1, .int p1), (2, .int p2), (3, .int p3)]) Z dX5_hear_83 (by decide) rfl ?_
              refine ez_lconst (pc := 85) Z dX5_hear_85 el_0 ?_
              refine ez_lstore (pc := 86) (L' := [(5, .long (0 : Int64)), (4, .int r17), (0, .ref (X.2.1 50)), (1, .int p1), (2, .int p2), (3, .int p3)]) Z dX5_hear_86 (by decide) rfl ?_
              refine ez_iconst (pc := 88) Z dX5_hear_88 ec_0 ?_
              refine ez_istore (pc := 89) (L' := [(7, .int (0 : Int32)), (5, .long (0 : Int64)), (4, .int r17), (0, .ref (X.2.1 50)), (1, .int p1), (2, .int p2), (3, .int p3)]) Z dX5_hear_89 (by decide) rfl ?_
              refine ez_sub [(0, .ref (X.2.1 50)), (1, .int p1), (2, .int p2), (3, .int p3), (4, .int r17), (5, .long (0 : Int64)), (7, .int (0 : Int32))] [3, 4, 5, 6, 2, 1, 0] rfl ?_
              exact ew_ind (P := fun (x : Int64 × Int32) => ew_W C X 8 (E s1) 91 [(0, .ref (X.2.1 50)), (1, .int p1), (2, .int p2), (3, .int p3), (4, .int r17), (5, .long x.1), (7, .int x.2)] []) (fun R hR9 x h => tX5_hear_91 hE1 Z hR  hR9 h) h
            · replace h := h.2 c16
              refine ez_aload_n (pc := 71) Z dX5_hear_71 0 rfl rfl ?_
              refine ez_bipush (pc := 72) Z dX5_hear_72 eb_m6 ?_
              refine ez_callVi (pc := 74) (r := 50) (As := [.int (-6 : Int32)]) (st := []) Z (kX5_refuse Z.2.2.2.2.2.2.2.2.2.1 (E := E) hE1 h) gX5_hear_X5_refuse rfl rfl rfl hdX5_refuse rfl rfl (by decide) (ew_oM hE1 _) rfl rfl rfl rfl dX5_hear_74 (fun r19 m20 h => ?_)
              exact ez_iret (pc := 77) Z hR m20 h rfl dX5_hear_77
          · replace h := h.2 c15
            refine ez_sub [(0, .ref (X.2.1 50))] [0] rfl ?_
            exact tX5_hear_49 hE1 Z hR  h
      · replace h := h.2 c9
        refine ez_sub [(0, .ref (X.2.1 50))] [0] rfl ?_
        exact tX5_hear_25 hE1 Z hR  h
theorem inX5_weight : ∀ w ∈ wsX50, w ∈ wsX5_weight := fun _ h => List.mem_cons_of_mem _ (List.mem_append_right _ (h))
theorem hdX5_weight : yX5_weight.cls = RX5 ∧ yX5_weight.cls ≠ "java/lang/invoke/MethodHandle" ∧ yX5_weight.cls ≠ "java/lang/invoke/VarHandle" ∧ (parseMethodDescriptor yX5_weight.desc).map (fun d => d.parameters.length) = some 3 := by decide +kernel
def wX5_weight_25  (Q : Int64 → ew_M → Prop) (s1 : ew_M) : Prop := wX5_refuseLong (fun (r1 : Int64) (m2 : ew_M) => Q r1 m2) (-1 : Int32) s1
def wX5_weight (Q : Int64 → ew_M → Prop) (p1 : Int32) (p2 : Int32) (p3 : Int32) (s1 : ew_M) : Prop := wX5_isPerson (fun (r1 : Int32) => (r1 = 0 → wX5_weight_25 Q s1) ∧ (¬ r1 = 0 → wX5_isPaper (fun (r4 : Int32) => (r4 = 0 → wX5_weight_25 Q s1) ∧ (¬ r4 = 0 → wX5_in (fun (r7 : Int32) => (¬ r7 = 0 → wX5_isBound (fun (r10 : Int32) => (r10 = 0 → wX5_refuseLong (fun (r13 : Int64) (m14 : ew_M) => Q r13 m14) (-3 : Int32) s1) ∧ (¬ r10 = 0 → wX5_fromOf (fun (r15 : Int32) => vp_in (r15 + p3) 90 ∧ (Q (s1.2.2 0 (r15 + p3).toNatClampNeg) s1)) p1 p2)) p1 p2 s1) ∧ (r7 = 0 → wX5_weight_25 Q s1)) p3 (0 : Int32) (2 : Int32))) p2 s1)) p1 s1
set_option maxHeartbeats 4000000 in
set_option maxRecDepth 100000 in
theorem tX5_weight_25 {C : ew_C} {X : ew_X} {E : ew_M → ew_S} (hE1 : ew_GE X 50 (ew_GM X.2.1) E) (Z : ew_Z C X cX5_weight 4 RX5 wsX5_weight ({ frames := 2, cells := 0, slots := 0, locals := 43 } : Room) (some .long)) {Q : Int64 → ew_M → Prop}  {s1 : ew_M} (hR : C.2.2.2.2.2.2.2.2.2.2 = MQ C.2.2.2.2.2.2.2.1 (va_Ql (fun (r : Int64) (u : ew_M) => Q r u) (fun (u : ew_M) => ew_wd X ((fun (u : ew_M) => E u) u)) X.2.2.1) C.2.2.2.2.2.2.1 C.2.2.2.2.1 0 0 X.2.2.1) (h : wX5_weight_25 Q s1) : ew_W C X 4 (E s1) 25 [(0, .ref (X.2.1 50))] [] := by
  refine ez_aload_n (pc := 25) Z dX5_weight_25 0 rfl rfl ?_
  refine ez_iconst (pc := 26) Z dX5_weight_26 ec_m1 ?_
  refine ez_callVl (pc := 27) (r := 50) (As := [.int (-1 : Int32)]) (st := []) Z (kX5_refuseLong Z.2.2.2.2.2.2.2.2.2.1 (E := E) hE1 h) gX5_weight_X5_refuseLong rfl rfl rfl hdX5_refuseLong rfl rfl (by decide) (ew_oM hE1 _) rfl rfl rfl rfl dX5_weight_27 (fun r1 m2 h => ?_)
  exact ez_lret (pc := 30) Z hR m2 h rfl dX5_weight_30
set_option maxHeartbeats 4000000 in
set_option maxRecDepth 100000 in
theorem kX5_weight {X : ew_X} {l : Launch} (hX : ew_Ap X) {E : ew_M → ew_S} (hE1 : ew_GE X 50 (ew_GM X.2.1) E) {Q : Int64 → ew_M → Prop} {p1 : Int32} {p2 : Int32} {p3 : Int32} {s1 : ew_M} (h : wX5_weight Q p1 p2 p3 s1) : Met l yX5_weight wsX5_weight ({ frames := 2, cells := 0, slots := 0, locals := 43 } : Room) (va_Pc [.ref (X.2.1 50), .int p1, .int p2, .int p3] (ew_wd X (E s1))) (va_Ql (fun (r : Int64) (u : ew_M) => Q r u) (fun (u : ew_M) => ew_wd X ((fun (u : ew_M) => E u) u)) X.2.2.1) 0 0 X.2.2.1 := by
  refine ew_met (As := [.ref (X.2.1 50), .int p1, .int p2, .int p3]) (L0 := [(0, .ref (X.2.1 50)), (1, .int p1), (2, .int p2), (3, .int p3)]) X l hX (by decide) rfl rfl rfl rfl (fun C hl Z hR => ?_)
  subst hl
  refine ez_aload_n (pc := 0) Z dX5_weight_0 0 rfl rfl ?_
  refine ez_iload_n (pc := 1) Z dX5_weight_1 1 rfl rfl ?_
  refine ez_callVi (pc := 2) (r := 50) (As := [.int p1]) (st := []) Z (kX5_isPerson Z.2.2.2.2.2.2.2.2.2.1 (E := E) hE1 h) gX5_weight_X5_isPerson rfl rfl rfl hdX5_isPerson rfl rfl (by decide) (ew_oM hE1 _) rfl rfl rfl rfl dX5_weight_2 (fun r1 u2 h => ?_)
  refine ez_if_eq (pc := 5) (tgt := 25) Z dX5_weight_5 rfl (fun c3 => ?_) (fun c3 => ?_)
  · replace h := h.1 c3
    refine ez_sub [(0, .ref (X.2.1 50))] [0] rfl ?_
    exact tX5_weight_25 hE1 Z hR  h
  · replace h := h.2 c3
    refine ez_aload_n (pc := 8) Z dX5_weight_8 0 rfl rfl ?_
    refine ez_iload_n (pc := 9) Z dX5_weight_9 2 rfl rfl ?_
    refine ez_callVi (pc := 10) (r := 50) (As := [.int p2]) (st := []) Z (kX5_isPaper Z.2.2.2.2.2.2.2.2.2.1 (E := E) hE1 h) gX5_weight_X5_isPaper rfl rfl rfl hdX5_isPaper rfl rfl (by decide) (ew_oM hE1 _) rfl rfl rfl rfl dX5_weight_10 (fun r4 u5 h => ?_)
    refine ez_if_eq (pc := 13) (tgt := 25) Z dX5_weight_13 rfl (fun c6 => ?_) (fun c6 => ?_)
    · replace h := h.1 c6
      refine ez_sub [(0, .ref (X.2.1 50))] [0] rfl ?_
      exact tX5_weight_25 hE1 Z hR  h
    · replace h := h.2 c6
      refine ez_iload_n (pc := 16) Z dX5_weight_16 3 rfl rfl ?_
      refine ez_iconst (pc := 17) Z dX5_weight_17 ec_0 ?_
      refine ez_iconst (pc := 18) Z dX5_weight_18 ec_2 ?_
      refine ez_callSi (pc := 19) (As := [.int p3, .int (0 : Int32), .int (2 : Int32)]) (st := []) Z (kX5_in Z.2.2.2.2.2.2.2.2.2.1 (S := E s1) h) gX5_weight_X5_in rfl rfl rfl hdX5_in rfl rfl rfl rfl rfl dX5_weight_19 (fun r7 u8 h => ?_)
      refine ez_if_ne (pc := 22) (tgt := 31) Z dX5_weight_22 rfl (fun c9 => ?_) (fun c9 => ?_)
      · replace h := h.1 c9
        refine ez_aload_n (pc := 31) Z dX5_weight_31 0 rfl rfl ?_
        refine ez_iload_n (pc := 32) Z dX5_weight_32 1 rfl rfl ?_
        refine ez_iload_n (pc := 33) Z dX5_weight_33 2 rfl rfl ?_
        refine ez_callVi (pc := 34) (r := 50) (As := [.int p1, .int p2]) (st := []) Z (kX5_isBound Z.2.2.2.2.2.2.2.2.2.1 (E := E) hE1 h) gX5_weight_X5_isBound rfl rfl rfl hdX5_isBound rfl rfl (by decide) (ew_oM hE1 _) rfl rfl rfl rfl dX5_weight_34 (fun r10 u11 h => ?_)
        refine ez_if_eq (pc := 37) (tgt := 55) Z dX5_weight_37 rfl (fun c12 => ?_) (fun c12 => ?_)
        · replace h := h.1 c12
          refine ez_aload_n (pc := 55) Z dX5_weight_55 0 rfl rfl ?_
          refine ez_bipush (pc := 56) Z dX5_weight_56 eb_m3 ?_
          refine ez_callVl (pc := 58) (r := 50) (As := [.int (-3 : Int32)]) (st := []) Z (kX5_refuseLong Z.2.2.2.2.2.2.2.2.2.1 (E := E) hE1 h) gX5_weight_X5_refuseLong rfl rfl rfl hdX5_refuseLong rfl rfl (by decide) (ew_oM hE1 _) rfl rfl rfl rfl dX5_weight_58 (fun r13 m14 h => ?_)
          exact ez_lret (pc := 61) Z hR m14 h rfl dX5_weight_61
        · replace h := h.2 c12
          refine ez_aload_n (pc := 40) Z dX5_weight_40 0 rfl rfl ?_
          refine fX5_weights (pc := 41) (M := s1) Z hE1 inX5_weight (List.mem_of_getElem? (i := 1) rfl) dX5_weight_41 ?_
          refine ez_iload_n (pc := 44) Z dX5_weight_44 1 rfl rfl ?_
          refine ez_iload_n (pc := 45) Z dX5_weight_45 2 rfl rfl ?_
          refine ez_callSi (pc := 46) (As := [.int p1, .int p2]) (st := [.ref (X.2.1 87)]) Z (kX5_fromOf Z.2.2.2.2.2.2.2.2.2.1 (S := E s1) h) gX5_weight_X5_fromOf rfl rfl rfl hdX5_fromOf rfl rfl rfl rfl rfl dX5_weight_46 (fun r15 u16 h => ?_)
          refine ez_iload_n (pc := 49) Z dX5_weight_49 3 rfl rfl ?_
          refine ez_iadd (pc := 50) Z dX5_weight_50 ?_
          refine ez_lald (pc := 51) (n := 90) (a := 0) (v := s1.2.2 0 (r15 + p3).toNatClampNeg) (M := s1) Z hE1 37 rfl (by decide : 0 < 3) rfl rfl h.1 dX5_weight_51 ?_
          replace h := h.2
          refine ez_goto (pc := 52) (tgt := 61) Z dX5_weight_52 rfl ?_
          exact ez_lret (pc := 61) Z hR s1 h rfl dX5_weight_61
      · replace h := h.2 c9
        refine ez_sub [(0, .ref (X.2.1 50))] [0] rfl ?_
        exact tX5_weight_25 hE1 Z hR  h
theorem inX5_thinkAbove : ∀ w ∈ wsX50, w ∈ wsX5_thinkAbove := fun _ h => List.mem_cons_of_mem _ (List.mem_append_right _ (h))
theorem hdX5_thinkAbove : yX5_thinkAbove.cls = RX5 ∧ yX5_thinkAbove.cls ≠ "java/lang/invoke/MethodHandle" ∧ yX5_thinkAbove.cls ≠ "java/lang/invoke/VarHandle" ∧ (parseMethodDescriptor yX5_thinkAbove.desc).map (fun d => d.parameters.length) = some 2 := by decide +kernel
def wX5_thinkAbove_5 (R5 : Int64 × Int32 → Prop) (Q : Int64 → Prop) (v1 : Int32) (v2 : Int32) (v3 : Int64) (v5 : Int32) (s1 : ew_M) : Prop := ((3 : Int32) ≤ v5 → Q v3 ) ∧ (¬ (3 : Int32) ≤ v5 → wX5_fromOf (fun (r2 : Int32) => vp_in (r2 + v5) 90 ∧ (vp_in (((3 : Int32) * v2) + v5) 15 ∧ (R5 (v3 + ((s1.2.2 0 (r2 + v5).toNatClampNeg) * ((s1.2.1 6 (((3 : Int32) * v2) + v5).toNatClampNeg).toInt64)), v5 + (1 : Int32))))) v1 v2)
def wX5_thinkAbove (Q : Int64 → Prop) (p1 : Int32) (p2 : Int32) (s1 : ew_M) : Prop := ew_lp (fun (R : Int64 × Int32 → Prop) (x : Int64 × Int32) => wX5_thinkAbove_5 R Q p1 p2 x.1 x.2 s1) ((0 : Int64), (0 : Int32))
set_option maxHeartbeats 4000000 in
set_option maxRecDepth 100000 in
theorem tX5_thinkAbove_5 {C : ew_C} {X : ew_X} {E : ew_M → ew_S} (hE1 : ew_GE X 50 (ew_GM X.2.1) E) (Z : ew_Z C X cX5_thinkAbove 6 RX5 wsX5_thinkAbove ({ frames := 1, cells := 0, slots := 0, locals := 21 } : Room) (some .long)) {Q : Int64 → Prop} {R5 : Int64 × Int32 → Prop} {v1 : Int32} {v2 : Int32} {v3 : Int64} {v5 : Int32} {s1 : ew_M} (hR : C.2.2.2.2.2.2.2.2.2.2 = MQ C.2.2.2.2.2.2.2.1 (va_Ql (fun (r : Int64) (_ : Unit) => Q r) (fun (u : Unit) => ew_wd X ((fun (_ : Unit) => E s1) u)) X.2.2.1) C.2.2.2.2.2.2.1 C.2.2.2.2.1 0 0 X.2.2.1) (hR5 : ∀ x : Int64 × Int32, R5 x → ew_W C X 6 (E s1) 5 [(0, .ref (X.2.1 50)), (1, .int v1), (2, .int v2), (3, .long x.1), (5, .int x.2)] []) (h : wX5_thinkAbove_5 R5 Q v1 v2 v3 v5 s1) : ew_W C X 6 (E s1) 5 [(0, .ref (X.2.1 50)), (1, .int v1), (2, .int v2), (3, .long v3), (5, .int v5)] [] := by
  refine ez_iload (pc := 5) Z dX5_thinkAbove_5 4 rfl ?_
  refine ez_iconst (pc := 7) Z dX5_thinkAbove_7 ec_3 ?_
  refine ez_icmp_ge (pc := 8) (tgt := 46) Z dX5_thinkAbove_8 rfl (fun c1 => ?_) (fun c1 => ?_)
  · replace h := h.1 c1
    refine ez_lload_n (pc := 46) Z dX5_thinkAbove_46 3 rfl rfl ?_
    exact ez_lret (pc := 47) Z hR () h rfl dX5_thinkAbove_47
  · replace h := h.2 c1
    refine ez_lload_n (pc := 11) Z dX5_thinkAbove_11 3 rfl rfl ?_
    refine ez_aload_n (pc := 12) Z dX5_thinkAbove_12 0 rfl rfl ?_
    refine fX5_weights (pc := 13) (M := s1) Z hE1 inX5_thinkAbove (List.mem_of_getElem? (i := 1) rfl) dX5_thinkAbove_13 ?_
    refine ez_iload_n (pc := 16) Z dX5_thinkAbove_16 1 rfl rfl ?_
    refine ez_iload_n (pc := 17) Z dX5_thinkAbove_17 2 rfl rfl ?_
    refine ez_callSi (pc := 18) (As := [.int v1, .int v2]) (st := [.ref (X.2.1 87), .long v3]) Z (kX5_fromOf Z.2.2.2.2.2.2.2.2.2.1 (S := E s1) h) gX5_thinkAbove_X5_fromOf rfl rfl rfl hdX5_fromOf rfl rfl rfl rfl rfl dX5_thinkAbove_18 (fun r2 u3 h => ?_)
    refine ez_iload (pc := 21) Z dX5_thinkAbove_21 4 rfl ?_
    refine ez_iadd (pc := 23) Z dX5_thinkAbove_23 ?_
    refine ez_lald (pc := 24) (n := 90) (a := 0) (v := s1.2.2 0 (r2 + v5).toNatClampNeg) (M := s1) Z hE1 37 rfl (by decide : 0 < 3) rfl rfl h.1 dX5_thinkAbove_24 ?_
    replace h := h.2
    refine ez_aload_n (pc := 25) Z dX5_thinkAbove_25 0 rfl rfl ?_
    refine fX5_brings (pc := 26) (M := s1) Z hE1 inX5_thinkAbove (List.mem_of_getElem? (i := 2) rfl) dX5_thinkAbove_26 ?_
    refine ez_iconst (pc := 29) Z dX5_thinkAbove_29 ec_3 ?_
    refine ez_iload_n (pc := 30) Z dX5_thinkAbove_30 2 rfl rfl ?_
    refine ez_imul (pc := 31) Z dX5_thinkAbove_31 ?_
    refine ez_iload (pc := 32) Z dX5_thinkAbove_32 4 rfl ?_
    refine ez_iadd (pc := 34) Z dX5_thinkAbove_34 ?_
    refine ez_iald (pc := 35) (n := 15) (a := 6) (v := s1.2.1 6 (((3 : Int32) * v2) + v5).toNatClampNeg) (M := s1) Z hE1 7 rfl (by decide : 6 < 36) rfl rfl h.1 dX5_thinkAbove_35 ?_
    replace h := h.2
    refine ez_i2l (pc := 36) Z dX5_thinkAbove_36 ?_
    refine ez_lmul (pc := 37) Z dX5_thinkAbove_37 ?_
    refine ez_ladd (pc := 38) Z dX5_thinkAbove_38 ?_
    refine ez_lstore_n (pc := 39) (L' := [(3, .long (v3 + ((s1.2.2 0 (r2 + v5).toNatClampNeg) * ((s1.2.1 6 (((3 : Int32) * v2) + v5).toNatClampNeg).toInt64)))), (0, .ref (X.2.1 50)), (1, .int v1), (2, .int v2), (5, .int v5)]) Z dX5_thinkAbove_39 rfl (by decide) rfl ?_
    refine ez_iinc (pc := 40) (L' := [(5, .int (v5 + (1 : Int32))), (3, .long (v3 + ((s1.2.2 0 (r2 + v5).toNatClampNeg) * ((s1.2.1 6 (((3 : Int32) * v2) + v5).toNatClampNeg).toInt64)))), (0, .ref (X.2.1 50)), (1, .int v1), (2, .int v2)]) Z dX5_thinkAbove_40 4 rfl (ei_1 _) (by decide) rfl ?_
    refine ez_goto (pc := 43) (tgt := 5) Z dX5_thinkAbove_43 rfl ?_
    refine ez_sub [(0, .ref (X.2.1 50)), (1, .int v1), (2, .int v2), (3, .long (v3 + ((s1.2.2 0 (r2 + v5).toNatClampNeg) * ((s1.2.1 6 (((3 : Int32) * v2) + v5).toNatClampNeg).toInt64)))), (5, .int (v5 + (1 : Int32)))] [2, 3, 4, 1, 0] rfl ?_
    exact hR5 _ h
set_option maxHeartbeats 4000000 in
set_option maxRecDepth 100000 in
theorem kX5_thinkAbove {X : ew_X} {l : Launch} (hX : ew_Ap X) {E : ew_M → ew_S} (hE1 : ew_GE X 50 (ew_GM X.2.1) E) {Q : Int64 → Prop} {p1 : Int32} {p2 : Int32} {s1 : ew_M} (h : wX5_thinkAbove Q p1 p2 s1) : Met l yX5_thinkAbove wsX5_thinkAbove ({ frames := 1, cells := 0, slots := 0, locals := 21 } : Room) (va_Pc [.ref (X.2.1 50), .int p1, .int p2] (ew_wd X (E s1))) (va_Ql (fun (r : Int64) (_ : Unit) => Q r) (fun (u : Unit) => ew_wd X ((fun (_ : Unit) => E s1) u)) X.2.2.1) 0 0 X.2.2.1 := by
  refine ew_met (As := [.ref (X.2.1 50), .int p1, .int p2]) (L0 := [(0, .ref (X.2.1 50)), (1, .int p1), (2, .int p2)]) X l hX (by decide) rfl rfl rfl rfl (fun C hl Z hR => ?_)
  subst hl
  refine ez_lconst (pc := 0) Z dX5_thinkAbove_0 el_0 ?_
  refine ez_lstore_n (pc := 1) (L' := [(3, .long (0 : Int64)), (0, .ref (X.2.1 50)), (1, .int p1), (2, .int p2)]) Z dX5_thinkAbove_1 rfl (by decide) rfl ?_
  refine ez_iconst (pc := 2) Z dX5_thinkAbove_2 ec_0 ?_
  refine ez_istore (pc := 3) (L' := [(5, .int (0 : Int32)), (3, .long (0 : Int64)), (0, .ref (X.2.1 50)), (1, .int p1), (2, .int p2)]) Z dX5_thinkAbove_3 (by decide) rfl ?_
  refine ez_sub [(0, .ref (X.2.1 50)), (1, .int p1), (2, .int p2), (3, .long (0 : Int64)), (5, .int (0 : Int32))] [2, 3, 4, 1, 0] rfl ?_
  exact ew_ind (P := fun (x : Int64 × Int32) => ew_W C X 6 (E s1) 5 [(0, .ref (X.2.1 50)), (1, .int p1), (2, .int p2), (3, .long x.1), (5, .int x.2)] []) (fun R hR9 x h => tX5_thinkAbove_5 hE1 Z hR  hR9 h) h
theorem inX5_thinkBelow : ∀ w ∈ wsX50, w ∈ wsX5_thinkBelow := fun _ h => List.mem_cons_of_mem _ (List.mem_append_right _ (h))
theorem hdX5_thinkBelow : yX5_thinkBelow.cls = RX5 ∧ yX5_thinkBelow.cls ≠ "java/lang/invoke/MethodHandle" ∧ yX5_thinkBelow.cls ≠ "java/lang/invoke/VarHandle" ∧ (parseMethodDescriptor yX5_thinkBelow.desc).map (fun d => d.parameters.length) = some 2 := by decide +kernel
def wX5_thinkBelow (Q : Int64 → Prop) (p1 : Int32) (p2 : Int32) (s1 : ew_M) : Prop := wX5_fromOf (fun (r1 : Int32) => vp_in r1 90 ∧ (vp_in (r1 + (1 : Int32)) 90 ∧ (vp_in (r1 + (2 : Int32)) 90 ∧ (Q (((s1.2.2 0 r1.toNatClampNeg) + (s1.2.2 0 (r1 + (1 : Int32)).toNatClampNeg)) + (s1.2.2 0 (r1 + (2 : Int32)).toNatClampNeg)) )))) p1 p2
set_option maxHeartbeats 4000000 in
set_option maxRecDepth 100000 in
theorem kX5_thinkBelow {X : ew_X} {l : Launch} (hX : ew_Ap X) {E : ew_M → ew_S} (hE1 : ew_GE X 50 (ew_GM X.2.1) E) {Q : Int64 → Prop} {p1 : Int32} {p2 : Int32} {s1 : ew_M} (h : wX5_thinkBelow Q p1 p2 s1) : Met l yX5_thinkBelow wsX5_thinkBelow ({ frames := 1, cells := 0, slots := 0, locals := 21 } : Room) (va_Pc [.ref (X.2.1 50), .int p1, .int p2] (ew_wd X (E s1))) (va_Ql (fun (r : Int64) (_ : Unit) => Q r) (fun (u : Unit) => ew_wd X ((fun (_ : Unit) => E s1) u)) X.2.2.1) 0 0 X.2.2.1 := by
  refine ew_met (As := [.ref (X.2.1 50), .int p1, .int p2]) (L0 := [(0, .ref (X.2.1 50)), (1, .int p1), (2, .int p2)]) X l hX (by decide) rfl rfl rfl rfl (fun C hl Z hR => ?_)
  subst hl
  refine ez_iload_n (pc := 0) Z dX5_thinkBelow_0 1 rfl rfl ?_
  refine ez_iload_n (pc := 1) Z dX5_thinkBelow_1 2 rfl rfl ?_
  refine ez_callSi (pc := 2) (As := [.int p1, .int p2]) (st := []) Z (kX5_fromOf Z.2.2.2.2.2.2.2.2.2.1 (S := E s1) h) gX5_thinkBelow_X5_fromOf rfl rfl rfl hdX5_fromOf rfl rfl rfl rfl rfl dX5_thinkBelow_2 (fun r1 u2 h => ?_)
  refine ez_istore_n (pc := 5) (L' := [(3, .int r1), (0, .ref (X.2.1 50)), (1, .int p1), (2, .int p2)]) Z dX5_thinkBelow_5 rfl (by decide) rfl ?_
  refine ez_aload_n (pc := 6) Z dX5_thinkBelow_6 1 rfl rfl ?_
  refine fX5_weights (pc := 7) (M := s1) Z hE1 inX5_thinkBelow (List.mem_of_getElem? (i := 1) rfl) dX5_thinkBelow_7 ?_
  refine ez_iload_n (pc := 10) Z dX5_thinkBelow_10 0 rfl rfl ?_
  refine ez_lald (pc := 11) (n := 90) (a := 0) (v := s1.2.2 0 r1.toNatClampNeg) (M := s1) Z hE1 37 rfl (by decide : 0 < 3) rfl rfl h.1 dX5_thinkBelow_11 ?_
  replace h := h.2
  refine ez_aload_n (pc := 12) Z dX5_thinkBelow_12 1 rfl rfl ?_
  refine fX5_weights (pc := 13) (M := s1) Z hE1 inX5_thinkBelow (List.mem_of_getElem? (i := 1) rfl) dX5_thinkBelow_13 ?_
  refine ez_iload_n (pc := 16) Z dX5_thinkBelow_16 0 rfl rfl ?_
  refine ez_iconst (pc := 17) Z dX5_thinkBelow_17 ec_1 ?_
  refine ez_iadd (pc := 18) Z dX5_thinkBelow_18 ?_
  refine ez_lald (pc := 19) (n := 90) (a := 0) (v := s1.2.2 0 (r1 + (1 : Int32)).toNatClampNeg) (M := s1) Z hE1 37 rfl (by decide : 0 < 3) rfl rfl h.1 dX5_thinkBelow_19 ?_
  replace h := h.2
  refine ez_ladd (pc := 20) Z dX5_thinkBelow_20 ?_
  refine ez_aload_n (pc := 21) Z dX5_thinkBelow_21 1 rfl rfl ?_
  refine fX5_weights (pc := 22) (M := s1) Z hE1 inX5_thinkBelow (List.mem_of_getElem? (i := 1) rfl) dX5_thinkBelow_22 ?_
  refine ez_iload_n (pc := 25) Z dX5_thinkBelow_25 0 rfl rfl ?_
  refine ez_iconst (pc := 26) Z dX5_thinkBelow_26 ec_2 ?_
  refine ez_iadd (pc := 27) Z dX5_thinkBelow_27 ?_
  refine ez_lald (pc := 28) (n := 90) (a := 0) (v := s1.2.2 0 (r1 + (2 : Int32)).toNatClampNeg) (M := s1) Z hE1 37 rfl (by decide : 0 < 3) rfl rfl h.1 dX5_thinkBelow_28 ?_
  replace h := h.2
  refine ez_ladd (pc := 29) Z dX5_thinkBelow_29 ?_
  exact ez_lret (pc := 30) Z hR () h rfl dX5_thinkBelow_30
theorem hdX5_lowest : yX5_lowest.cls ≠ "java/lang/invoke/MethodHandle" ∧ yX5_lowest.cls ≠ "java/lang/invoke/VarHandle" ∧ (parseMethodDescriptor yX5_lowest.desc).map (fun d => d.parameters.length) = some 3 := by decide +kernel
def wX5_lowest_20  (Q : Int64 → Prop) (v0 : Int64) (v2 : Int64) (t0 : Int64) : Prop := wX5_common (fun (r1 : Int64) => (¬ r1 = 0) ∧ (Q (t0 / r1) )) v0 v2
def wX5_lowest (Q : Int64 → Prop) (p1 : Int64) (p2 : Int64) (p3 : Int32) : Prop := (¬ (lg_cmp p1 (0 : Int64)) = 0 → (¬ p3 = 0 → wX5_lowest_20 Q p1 p2 p2) ∧ (p3 = 0 → wX5_lowest_20 Q p1 p2 p1)) ∧ ((lg_cmp p1 (0 : Int64)) = 0 → Q p3.toInt64 )
set_option maxHeartbeats 4000000 in
set_option maxRecDepth 100000 in
theorem tX5_lowest_20 {C : ew_C} {X : ew_X} {S : ew_S} (Z : ew_Z C X cX5_lowest 5 RX5 wsX5_lowest ({ frames := 1, cells := 0, slots := 0, locals := 29 } : Room) (some .long)) {Q : Int64 → Prop}  {v0 : Int64} {v2 : Int64} {t0 : Int64} (hR : C.2.2.2.2.2.2.2.2.2.2 = MQ C.2.2.2.2.2.2.2.1 (va_Ql (fun (r : Int64) (_ : Unit) => Q r) (fun (u : Unit) => ew_wd X ((fun (_ : Unit) => S) u)) X.2.2.1) C.2.2.2.2.2.2.1 C.2.2.2.2.1 0 0 X.2.2.1) (h : wX5_lowest_20 Q v0 v2 t0) : ew_W C X 5 (S) 20 [(0, .long v0), (2, .long v2)] [.long t0] := by
  refine ez_lload_n (pc := 20) Z dX5_lowest_20 0 rfl rfl ?_
  refine ez_lload_n (pc := 21) Z dX5_lowest_21 1 rfl rfl ?_
  refine ez_callSl (pc := 22) (As := [.long v0, .long v2]) (st := [.long t0]) Z (kX5_common Z.2.2.2.2.2.2.2.2.2.1 (S := S) h) gX5_lowest_X5_common rfl rfl rfl hdX5_common rfl rfl rfl rfl rfl dX5_lowest_22 (fun r1 u2 h => ?_)
  refine ez_ldiv (pc := 25) Z dX5_lowest_25 h.1 ?_
  replace h := h.2
  exact ez_lret (pc := 26) Z hR () h rfl dX5_lowest_26
set_option maxHeartbeats 4000000 in
set_option maxRecDepth 100000 in
theorem kX5_lowest {X : ew_X} {l : Launch} (hX : ew_Ap X) {S : ew_S} {Q : Int64 → Prop} {p1 : Int64} {p2 : Int64} {p3 : Int32} (h : wX5_lowest Q p1 p2 p3) : Met l yX5_lowest wsX5_lowest ({ frames := 1, cells := 0, slots := 0, locals := 29 } : Room) (va_Pc [.long p1, .long p2, .int p3] (ew_wd X (S))) (va_Ql (fun (r : Int64) (_ : Unit) => Q r) (fun (u : Unit) => ew_wd X ((fun (_ : Unit) => S) u)) X.2.2.1) 0 0 X.2.2.1 := by
  refine ew_met (As := [.long p1, .long p2, .int p3]) (L0 := [(0, .long p1), (2, .long p2), (4, .int p3)]) X l hX (by decide) rfl rfl rfl rfl (fun C hl Z hR => ?_)
  subst hl
  refine ez_lload_n (pc := 0) Z dX5_lowest_0 0 rfl rfl ?_
  refine ez_lconst (pc := 1) Z dX5_lowest_1 el_0 ?_
  refine ez_lcmp (pc := 2) Z dX5_lowest_2 ?_
  refine ez_if_ne (pc := 3) (tgt := 10) Z dX5_lowest_3 rfl (fun c1 => ?_) (fun c1 => ?_)
  · replace h := h.1 c1
    refine ez_iload (pc := 10) Z dX5_lowest_10 2 rfl ?_
    refine ez_if_ne (pc := 12) (tgt := 19) Z dX5_lowest_12 rfl (fun c2 => ?_) (fun c2 => ?_)
    · replace h := h.1 c2
      refine ez_lload_n (pc := 19) Z dX5_lowest_19 1 rfl rfl ?_
      refine ez_sub [(0, .long p1), (2, .long p2)] [0, 1] rfl ?_
      exact tX5_lowest_20  Z hR  h
    · replace h := h.2 c2
      refine ez_lload_n (pc := 15) Z dX5_lowest_15 0 rfl rfl ?_
      refine ez_goto (pc := 16) (tgt := 20) Z dX5_lowest_16 rfl ?_
      refine ez_sub [(0, .long p1), (2, .long p2)] [0, 1] rfl ?_
      exact tX5_lowest_20  Z hR  h
  · replace h := h.2 c1
    refine ez_iload (pc := 6) Z dX5_lowest_6 2 rfl ?_
    refine ez_i2l (pc := 8) Z dX5_lowest_8 ?_
    exact ez_lret (pc := 9) Z hR () h rfl dX5_lowest_9
theorem inX5_think : ∀ w ∈ wsX50, w ∈ wsX5_think := fun _ h => List.mem_cons_of_mem _ (List.mem_append_right _ (h))
theorem hdX5_think : yX5_think.cls = RX5 ∧ yX5_think.cls ≠ "java/lang/invoke/MethodHandle" ∧ yX5_think.cls ≠ "java/lang/invoke/VarHandle" ∧ (parseMethodDescriptor yX5_think.desc).map (fun d => d.parameters.length) = some 3 := by decide +kernel
def wX5_think_16  (Q : Int64 → ew_M → Prop) (s1 : ew_M) : Prop := wX5_refuseLong (fun (r1 : Int64) (m2 : ew_M) => Q r1 m2) (-1 : Int32) s1
def wX5_think (Q : Int64 → ew_M → Prop) (p1 : Int32) (p2 : Int32) (p3 : Int32) (s1 : ew_M) : Prop := wX5_isPerson (fun (r1 : Int32) => (r1 = 0 → wX5_think_16 Q s1) ∧ (¬ r1 = 0 → wX5_isPaper (fun (r4 : Int32) => (¬ r4 = 0 → wX5_in (fun (r7 : Int32) => (¬ r7 = 0 → wX5_isBound (fun (r10 : Int32) => (r10 = 0 → wX5_refuseLong (fun (r13 : Int64) (m14 : ew_M) => Q r13 m14) (-3 : Int32) s1) ∧ (¬ r10 = 0 → wX5_thinkAbove (fun (r15 : Int64) => wX5_thinkBelow (fun (r17 : Int64) => wX5_lowest (fun (r19 : Int64) => Q r19 s1) r15 r17 p3) p1 p2 s1) p1 p2 s1)) p1 p2 s1) ∧ (r7 = 0 → wX5_refuseLong (fun (r21 : Int64) (m22 : ew_M) => Q r21 m22) (-2 : Int32) s1)) p3 (0 : Int32) (1 : Int32)) ∧ (r4 = 0 → wX5_think_16 Q s1)) p2 s1)) p1 s1
set_option maxHeartbeats 4000000 in
set_option maxRecDepth 100000 in
theorem tX5_think_16 {C : ew_C} {X : ew_X} {E : ew_M → ew_S} (hE1 : ew_GE X 50 (ew_GM X.2.1) E) (Z : ew_Z C X cX5_think 4 RX5 wsX5_think ({ frames := 2, cells := 0, slots := 0, locals := 53 } : Room) (some .long)) {Q : Int64 → ew_M → Prop}  {s1 : ew_M} (hR : C.2.2.2.2.2.2.2.2.2.2 = MQ C.2.2.2.2.2.2.2.1 (va_Ql (fun (r : Int64) (u : ew_M) => Q r u) (fun (u : ew_M) => ew_wd X ((fun (u : ew_M) => E u) u)) X.2.2.1) C.2.2.2.2.2.2.1 C.2.2.2.2.1 0 0 X.2.2.1) (h : wX5_think_16 Q s1) : ew_W C X 4 (E s1) 16 [(0, .ref (X.2.1 50))] [] := by
  refine ez_aload_n (pc := 16) Z dX5_think_16 0 rfl rfl ?_
  refine ez_iconst (pc := 17) Z dX5_think_17 ec_m1 ?_
  refine ez_callVl (pc := 18) (r := 50) (As := [.int (-1 : Int32)]) (st := []) Z (kX5_refuseLong Z.2.2.2.2.2.2.2.2.2.1 (E := E) hE1 h) gX5_think_X5_refuseLong rfl rfl rfl hdX5_refuseLong rfl rfl (by decide) (ew_oM hE1 _) rfl rfl rfl rfl dX5_think_18 (fun r1 m2 h => ?_)
  exact ez_lret (pc := 21) Z hR m2 h rfl dX5_think_21
set_option maxHeartbeats 4000000 in
set_option maxRecDepth 100000 in
theorem kX5_think {X : ew_X} {l : Launch} (hX : ew_Ap X) {E : ew_M → ew_S} (hE1 : ew_GE X 50 (ew_GM X.2.1) E) {Q : Int64 → ew_M → Prop} {p1 : Int32} {p2 : Int32} {p3 : Int32} {s1 : ew_M} (h : wX5_think Q p1 p2 p3 s1) : Met l yX5_think wsX5_think ({ frames := 2, cells := 0, slots := 0, locals := 53 } : Room) (va_Pc [.ref (X.2.1 50), .int p1, .int p2, .int p3] (ew_wd X (E s1))) (va_Ql (fun (r : Int64) (u : ew_M) => Q r u) (fun (u : ew_M) => ew_wd X ((fun (u : ew_M) => E u) u)) X.2.2.1) 0 0 X.2.2.1 := by
  refine ew_met (As := [.ref (X.2.1 50), .int p1, .int p2, .int p3]) (L0 := [(0, .ref (X.2.1 50)), (1, .int p1), (2, .int p2), (3, .int p3)]) X l hX (by decide) rfl rfl rfl rfl (fun C hl Z hR => ?_)
  subst hl
  refine ez_aload_n (pc := 0) Z dX5_think_0 0 rfl rfl ?_
  refine ez_iload_n (pc := 1) Z dX5_think_1 1 rfl rfl ?_
  refine ez_callVi (pc := 2) (r := 50) (As := [.int p1]) (st := []) Z (kX5_isPerson Z.2.2.2.2.2.2.2.2.2.1 (E := E) hE1 h) gX5_think_X5_isPerson rfl rfl rfl hdX5_isPerson rfl rfl (by decide) (ew_oM hE1 _) rfl rfl rfl rfl dX5_think_2 (fun r1 u2 h => ?_)
  refine ez_if_eq (pc := 5) (tgt := 16) Z dX5_think_5 rfl (fun c3 => ?_) (fun c3 => ?_)
  · replace h := h.1 c3
    refine ez_sub [(0, .ref (X.2.1 50))] [0] rfl ?_
    exact tX5_think_16 hE1 Z hR  h
  · replace h := h.2 c3
    refine ez_aload_n (pc := 8) Z dX5_think_8 0 rfl rfl ?_
    refine ez_iload_n (pc := 9) Z dX5_think_9 2 rfl rfl ?_
    refine ez_callVi (pc := 10) (r := 50) (As := [.int p2]) (st := []) Z (kX5_isPaper Z.2.2.2.2.2.2.2.2.2.1 (E := E) hE1 h) gX5_think_X5_isPaper rfl rfl rfl hdX5_isPaper rfl rfl (by decide) (ew_oM hE1 _) rfl rfl rfl rfl dX5_think_10 (fun r4 u5 h => ?_)
    refine ez_if_ne (pc := 13) (tgt := 22) Z dX5_think_13 rfl (fun c6 => ?_) (fun c6 => ?_)
    · replace h := h.1 c6
      refine ez_iload_n (pc := 22) Z dX5_think_22 3 rfl rfl ?_
      refine ez_iconst (pc := 23) Z dX5_think_23 ec_0 ?_
      refine ez_iconst (pc := 24) Z dX5_think_24 ec_1 ?_
      refine ez_callSi (pc := 25) (As := [.int p3, .int (0 : Int32), .int (1 : Int32)]) (st := []) Z (kX5_in Z.2.2.2.2.2.2.2.2.2.1 (S := E s1) h) gX5_think_X5_in rfl rfl rfl hdX5_in rfl rfl rfl rfl rfl dX5_think_25 (fun r7 u8 h => ?_)
      refine ez_if_ne (pc := 28) (tgt := 38) Z dX5_think_28 rfl (fun c9 => ?_) (fun c9 => ?_)
      · replace h := h.1 c9
        refine ez_aload_n (pc := 38) Z dX5_think_38 0 rfl rfl ?_
        refine ez_iload_n (pc := 39) Z dX5_think_39 1 rfl rfl ?_
        refine ez_iload_n (pc := 40) Z dX5_think_40 2 rfl rfl ?_
        refine ez_callVi (pc := 41) (r := 50) (As := [.int p1, .int p2]) (st := []) Z (kX5_isBound Z.2.2.2.2.2.2.2.2.2.1 (E := E) hE1 h) gX5_think_X5_isBound rfl rfl rfl hdX5_isBound rfl rfl (by decide) (ew_oM hE1 _) rfl rfl rfl rfl dX5_think_41 (fun r10 u11 h => ?_)
        refine ez_if_eq (pc := 44) (tgt := 66) Z dX5_think_44 rfl (fun c12 => ?_) (fun c12 => ?_)
        · replace h := h.1 c12
          refine ez_aload_n (pc := 66) Z dX5_think_66 0 rfl rfl ?_
          refine ez_bipush (pc := 67) Z dX5_think_67 eb_m3 ?_
          refine ez_callVl (pc := 69) (r := 50) (As := [.int (-3 : Int32)]) (st := []) Z (kX5_refuseLong Z.2.2.2.2.2.2.2.2.2.1 (E := E) hE1 h) gX5_think_X5_refuseLong rfl rfl rfl hdX5_refuseLong rfl rfl (by decide) (ew_oM hE1 _) rfl rfl rfl rfl dX5_think_69 (fun r13 m14 h => ?_)
          exact ez_lret (pc := 72) Z hR m14 h rfl dX5_think_72
        · replace h := h.2 c12
          refine ez_aload_n (pc := 47) Z dX5_think_47 0 rfl rfl ?_
          refine ez_iload_n (pc := 48) Z dX5_think_48 1 rfl rfl ?_
          refine ez_iload_n (pc := 49) Z dX5_think_49 2 rfl rfl ?_
          refine ez_callVl (pc := 50) (r := 50) (As := [.int p1, .int p2]) (st := []) Z (kX5_thinkAbove Z.2.2.2.2.2.2.2.2.2.1 (E := E) hE1 h) gX5_think_X5_thinkAbove rfl rfl rfl hdX5_thinkAbove rfl rfl (by decide) (ew_oM hE1 _) rfl rfl rfl rfl dX5_think_50 (fun r15 u16 h => ?_)
          refine ez_aload_n (pc := 53) Z dX5_think_53 0 rfl rfl ?_
          refine ez_iload_n (pc := 54) Z dX5_think_54 1 rfl rfl ?_
          refine ez_iload_n (pc := 55) Z dX5_think_55 2 rfl rfl ?_
          refine ez_callVl (pc := 56) (r := 50) (As := [.int p1, .int p2]) (st := [.long r15]) Z (kX5_thinkBelow Z.2.2.2.2.2.2.2.2.2.1 (E := E) hE1 h) gX5_think_X5_thinkBelow rfl rfl rfl hdX5_thinkBelow rfl rfl (by decide) (ew_oM hE1 _) rfl rfl rfl rfl dX5_think_56 (fun r17 u18 h => ?_)
          refine ez_iload_n (pc := 59) Z dX5_think_59 3 rfl rfl ?_
          refine ez_callSl (pc := 60) (As := [.long r15, .long r17, .int p3]) (st := []) Z (kX5_lowest Z.2.2.2.2.2.2.2.2.2.1 (S := E s1) h) gX5_think_X5_lowest rfl rfl rfl hdX5_lowest rfl rfl rfl rfl rfl dX5_think_60 (fun r19 u20 h => ?_)
          refine ez_goto (pc := 63) (tgt := 72) Z dX5_think_63 rfl ?_
          exact ez_lret (pc := 72) Z hR s1 h rfl dX5_think_72
      · replace h := h.2 c9
        refine ez_aload_n (pc := 31) Z dX5_think_31 0 rfl rfl ?_
        refine ez_bipush (pc := 32) Z dX5_think_32 eb_m2 ?_
        refine ez_callVl (pc := 34) (r := 50) (As := [.int (-2 : Int32)]) (st := []) Z (kX5_refuseLong Z.2.2.2.2.2.2.2.2.2.1 (E := E) hE1 h) gX5_think_X5_refuseLong rfl rfl rfl hdX5_refuseLong rfl rfl (by decide) (ew_oM hE1 _) rfl rfl rfl rfl dX5_think_34 (fun r21 m22 h => ?_)
        exact ez_lret (pc := 37) Z hR m22 h rfl dX5_think_37
    · replace h := h.2 c6
      refine ez_sub [(0, .ref (X.2.1 50))] [0] rfl ?_
      exact tX5_think_16 hE1 Z hR  h
theorem inX5_gives : ∀ w ∈ wsX50, w ∈ wsX5_gives := fun _ h => List.mem_cons_of_mem _ (List.mem_append_right _ (h))
theorem hdX5_gives : yX5_gives.cls = RX5 ∧ yX5_gives.cls ≠ "java/lang/invoke/MethodHandle" ∧ yX5_gives.cls ≠ "java/lang/invoke/VarHandle" ∧ (parseMethodDescriptor yX5_gives.desc).map (fun d => d.parameters.length) = some 2 := by decide +kernel
def wX5_gives_48 (R2 : Int32 → Prop) (Q : ew_M → Prop) (v1 : Int32) (v2 : Int32) (v3 : Int32) (s1 : ew_M) : Prop := R2 (v3 + (1 : Int32))
def wX5_gives_2 (R2 : Int32 → Prop) (Q : ew_M → Prop) (v1 : Int32) (v2 : Int32) (v3 : Int32) (s1 : ew_M) : Prop := ((s1.1 0) ≤ v3 → Q s1) ∧ (¬ (s1.1 0) ≤ v3 → (¬ (s1.1 0) = 0) ∧ (wX5_isBound (fun (r2 : Int32) => (r2 = 0 → wX5_gives_48 R2 Q v1 v2 v3 s1) ∧ (¬ r2 = 0 → wX5_hasRead (fun (r5 : Int32) => (¬ r5 = 0 → wX5_gives_48 R2 Q v1 v2 v3 s1) ∧ (r5 = 0 → wX5_hasNowRead (fun (m9 : ew_M) => Q m9) ((v1 + v3) - (v1 + v3) / (s1.1 0) * (s1.1 0)) v2 s1)) ((v1 + v3) - (v1 + v3) / (s1.1 0) * (s1.1 0)) v2 s1)) ((v1 + v3) - (v1 + v3) / (s1.1 0) * (s1.1 0)) v2 s1))
def wX5_gives (Q : ew_M → Prop) (p1 : Int32) (p2 : Int32) (s1 : ew_M) : Prop := ew_lp (fun (R : Int32 → Prop) (x : Int32) => wX5_gives_2 R Q p1 p2 x s1) (1 : Int32)
set_option maxHeartbeats 4000000 in
set_option maxRecDepth 100000 in
theorem tX5_gives_48 {C : ew_C} {X : ew_X} {E : ew_M → ew_S} (hE1 : ew_GE X 50 (ew_GM X.2.1) E) (Z : ew_Z C X cX5_gives 5 RX5 wsX5_gives ({ frames := 2, cells := 0, slots := 0, locals := 44 } : Room) none) {Q : ew_M → Prop} {R2 : Int32 → Prop} {v1 : Int32} {v2 : Int32} {v3 : Int32} {s1 : ew_M} (hR : C.2.2.2.2.2.2.2.2.2.2 = MQ C.2.2.2.2.2.2.2.1 (va_Qv (fun (u : ew_M) => Q u) (fun (u : ew_M) => ew_wd X ((fun (u : ew_M) => E u) u)) X.2.2.1) C.2.2.2.2.2.2.1 C.2.2.2.2.1 0 0 X.2.2.1) (hR2 : ∀ x : Int32, R2 x → ew_W C X 5 (E s1) 2 [(0, .ref (X.2.1 50)), (1, .int v1), (2, .int v2), (3, .int x)] []) (h : wX5_gives_48 R2 Q v1 v2 v3 s1) : ew_W C X 5 (E s1) 48 [(0, .ref (X.2.1 50)), (1, .int v1), (2, .int v2), (3, .int v3)] [] := by
  refine ez_iinc (pc := 48) (L' := [(3, .int (v3 + (1 : Int32))), (0, .ref (X.2.1 50)), (1, .int v1), (2, .int v2)]) Z dX5_gives_48 3 rfl (ei_1 _) (by decide) rfl ?_
  refine ez_goto (pc := 51) (tgt := 2) Z dX5_gives_51 rfl ?_
  refine ez_sub [(0, .ref (X.2.1 50)), (1, .int v1), (2, .int v2), (3, .int (v3 + (1 : Int32)))] [1, 2, 3, 0] rfl ?_
  exact hR2 _ h
set_option maxHeartbeats 4000000 in
set_option maxRecDepth 100000 in
theorem tX5_gives_2 {C : ew_C} {X : ew_X} {E : ew_M → ew_S} (hE1 : ew_GE X 50 (ew_GM X.2.1) E) (Z : ew_Z C X cX5_gives 5 RX5 wsX5_gives ({ frames := 2, cells := 0, slots := 0, locals := 44 } : Room) none) {Q : ew_M → Prop} {R2 : Int32 → Prop} {v1 : Int32} {v2 : Int32} {v3 : Int32} {s1 : ew_M} (hR : C.2.2.2.2.2.2.2.2.2.2 = MQ C.2.2.2.2.2.2.2.1 (va_Qv (fun (u : ew_M) => Q u) (fun (u : ew_M) => ew_wd X ((fun (u : ew_M) => E u) u)) X.2.2.1) C.2.2.2.2.2.2.1 C.2.2.2.2.1 0 0 X.2.2.1) (hR2 : ∀ x : Int32, R2 x → ew_W C X 5 (E s1) 2 [(0, .ref (X.2.1 50)), (1, .int v1), (2, .int v2), (3, .int x)] []) (h : wX5_gives_2 R2 Q v1 v2 v3 s1) : ew_W C X 5 (E s1) 2 [(0, .ref (X.2.1 50)), (1, .int v1), (2, .int v2), (3, .int v3)] [] := by
  refine ez_iload_n (pc := 2) Z dX5_gives_2 3 rfl rfl ?_
  refine ez_aload_n (pc := 3) Z dX5_gives_3 0 rfl rfl ?_
  refine fX5_persons (pc := 4) (v := s1.1 0) Z hE1 rfl inX5_gives (List.mem_of_getElem? (i := 1) rfl) dX5_gives_4 ?_
  refine ez_icmp_ge (pc := 7) (tgt := 54) Z dX5_gives_7 rfl (fun c1 => ?_) (fun c1 => ?_)
  · replace h := h.1 c1
    exact ez_vret (pc := 54) Z hR s1 h rfl dX5_gives_54
  · replace h := h.2 c1
    refine ez_iload_n (pc := 10) Z dX5_gives_10 1 rfl rfl ?_
    refine ez_iload_n (pc := 11) Z dX5_gives_11 3 rfl rfl ?_
    refine ez_iadd (pc := 12) Z dX5_gives_12 ?_
    refine ez_aload_n (pc := 13) Z dX5_gives_13 0 rfl rfl ?_
    refine fX5_persons (pc := 14) (v := s1.1 0) Z hE1 rfl inX5_gives (List.mem_of_getElem? (i := 1) rfl) dX5_gives_14 ?_
    refine ez_irem (pc := 17) Z dX5_gives_17 h.1 ?_
    replace h := h.2
    refine ez_istore (pc := 18) (L' := [(4, .int ((v1 + v3) - (v1 + v3) / (s1.1 0) * (s1.1 0))), (0, .ref (X.2.1 50)), (1, .int v1), (2, .int v2), (3, .int v3)]) Z dX5_gives_18 (by decide) rfl ?_
    refine ez_aload_n (pc := 20) Z dX5_gives_20 1 rfl rfl ?_
    refine ez_iload (pc := 21) Z dX5_gives_21 0 rfl ?_
    refine ez_iload_n (pc := 23) Z dX5_gives_23 3 rfl rfl ?_
    refine ez_callVi (pc := 24) (r := 50) (As := [.int ((v1 + v3) - (v1 + v3) / (s1.1 0) * (s1.1 0)), .int v2]) (st := []) Z (kX5_isBound Z.2.2.2.2.2.2.2.2.2.1 (E := E) hE1 h) gX5_gives_X5_isBound rfl rfl rfl hdX5_isBound rfl rfl (by decide) (ew_oM hE1 _) rfl rfl rfl rfl dX5_gives_24 (fun r2 u3 h => ?_)
    refine ez_if_eq (pc := 27) (tgt := 48) Z dX5_gives_27 rfl (fun c4 => ?_) (fun c4 => ?_)
    · replace h := h.1 c4
      refine ez_sub [(0, .ref (X.2.1 50)), (1, .int v1), (2, .int v2), (3, .int v3)] [1, 2, 3, 4] rfl ?_
      exact tX5_gives_48 hE1 Z hR hR2 h
    · replace h := h.2 c4
      refine ez_aload_n (pc := 30) Z dX5_gives_30 1 rfl rfl ?_
      refine ez_iload (pc := 31) Z dX5_gives_31 0 rfl ?_
      refine ez_iload_n (pc := 33) Z dX5_gives_33 3 rfl rfl ?_
      refine ez_callVi (pc := 34) (r := 50) (As := [.int ((v1 + v3) - (v1 + v3) / (s1.1 0) * (s1.1 0)), .int v2]) (st := []) Z (kX5_hasRead Z.2.2.2.2.2.2.2.2.2.1 (E := E) hE1 h) gX5_gives_X5_hasRead rfl rfl rfl hdX5_hasRead rfl rfl (by decide) (ew_oM hE1 _) rfl rfl rfl rfl dX5_gives_34 (fun r5 u6 h => ?_)
      refine ez_if_ne (pc := 37) (tgt := 48) Z dX5_gives_37 rfl (fun c7 => ?_) (fun c7 => ?_)
      · replace h := h.1 c7
        refine ez_sub [(0, .ref (X.2.1 50)), (1, .int v1), (2, .int v2), (3, .int v3)] [1, 2, 3, 4] rfl ?_
        exact tX5_gives_48 hE1 Z hR hR2 h
      · replace h := h.2 c7
        refine ez_aload_n (pc := 40) Z dX5_gives_40 1 rfl rfl ?_
        refine ez_iload (pc := 41) Z dX5_gives_41 0 rfl ?_
        refine ez_iload_n (pc := 43) Z dX5_gives_43 3 rfl rfl ?_
        refine ez_callVv (pc := 44) (r := 50) (As := [.int ((v1 + v3) - (v1 + v3) / (s1.1 0) * (s1.1 0)), .int v2]) (st := []) Z (kX5_hasNowRead Z.2.2.2.2.2.2.2.2.2.1 (E := E) hE1 h) gX5_gives_X5_hasNowRead rfl rfl rfl hdX5_hasNowRead rfl rfl (by decide) (ew_oM hE1 _) rfl rfl rfl rfl dX5_gives_44 (fun m9 h => ?_)
        exact ez_vret (pc := 47) Z hR m9 h rfl dX5_gives_47
set_option maxHeartbeats 4000000 in
set_option maxRecDepth 100000 in
theorem kX5_gives {X : ew_X} {l : Launch} (hX : ew_Ap X) {E : ew_M → ew_S} (hE1 : ew_GE X 50 (ew_GM X.2.1) E) {Q : ew_M → Prop} {p1 : Int32} {p2 : Int32} {s1 : ew_M} (h : wX5_gives Q p1 p2 s1) : Met l yX5_gives wsX5_gives ({ frames := 2, cells := 0, slots := 0, locals := 44 } : Room) (va_Pc [.ref (X.2.1 50), .int p1, .int p2] (ew_wd X (E s1))) (va_Qv (fun (u : ew_M) => Q u) (fun (u : ew_M) => ew_wd X ((fun (u : ew_M) => E u) u)) X.2.2.1) 0 0 X.2.2.1 := by
  refine ew_met (As := [.ref (X.2.1 50), .int p1, .int p2]) (L0 := [(0, .ref (X.2.1 50)), (1, .int p1), (2, .int p2)]) X l hX (by decide) rfl rfl rfl rfl (fun C hl Z hR => ?_)
  subst hl
  refine ez_iconst (pc := 0) Z dX5_gives_0 ec_1 ?_
  refine ez_istore_n (pc := 1) (L' := [(3, .int (1 : Int32)), (0, .ref (X.2.1 50)), (1, .int p1), (2, .int p2)]) Z dX5_gives_1 rfl (by decide) rfl ?_
  refine ez_sub [(0, .ref (X.2.1 50)), (1, .int p1), (2, .int p2), (3, .int (1 : Int32))] [1, 2, 3, 0] rfl ?_
  exact ew_ind (P := fun (x : Int32) => ew_W C X 5 (E s1) 2 [(0, .ref (X.2.1 50)), (1, .int p1), (2, .int p2), (3, .int x)] []) (fun R hR9 x h => tX5_gives_2 hE1 Z hR  hR9 h) h
theorem inX5_dares : ∀ w ∈ wsX50, w ∈ wsX5_dares := fun _ h => List.mem_cons_of_mem _ (List.mem_append_right _ (h))
theorem hdX5_dares : yX5_dares.cls = RX5 ∧ yX5_dares.cls ≠ "java/lang/invoke/MethodHandle" ∧ yX5_dares.cls ≠ "java/lang/invoke/VarHandle" ∧ (parseMethodDescriptor yX5_dares.desc).map (fun d => d.parameters.length) = some 2 := by decide +kernel
def wX5_dares (Q : Int32 → Prop) (p1 : Int32) (p2 : Int32) (s1 : ew_M) : Prop := wX5_thinkAbove (fun (r1 : Int64) => vp_in p1 6 ∧ (wX5_thinkBelow (fun (r3 : Int64) => (0 ≤ (lg_cmp r1 ((((s1.2.1 1 p1.toNatClampNeg).toInt64) - (4 : Int64)) * r3)) → Q (0 : Int32) ) ∧ (¬ 0 ≤ (lg_cmp r1 ((((s1.2.1 1 p1.toNatClampNeg).toInt64) - (4 : Int64)) * r3)) → Q (1 : Int32) )) p1 p2 s1)) p1 p2 s1
set_option maxHeartbeats 4000000 in
set_option maxRecDepth 100000 in
theorem kX5_dares {X : ew_X} {l : Launch} (hX : ew_Ap X) {E : ew_M → ew_S} (hE1 : ew_GE X 50 (ew_GM X.2.1) E) {Q : Int32 → Prop} {p1 : Int32} {p2 : Int32} {s1 : ew_M} (h : wX5_dares Q p1 p2 s1) : Met l yX5_dares wsX5_dares ({ frames := 2, cells := 0, slots := 0, locals := 46 } : Room) (va_Pc [.ref (X.2.1 50), .int p1, .int p2] (ew_wd X (E s1))) (va_Qi (fun (r : Int32) (_ : Unit) => Q r) (fun (u : Unit) => ew_wd X ((fun (_ : Unit) => E s1) u)) X.2.2.1) 0 0 X.2.2.1 := by
  refine ew_met (As := [.ref (X.2.1 50), .int p1, .int p2]) (L0 := [(0, .ref (X.2.1 50)), (1, .int p1), (2, .int p2)]) X l hX (by decide) rfl rfl rfl rfl (fun C hl Z hR => ?_)
  subst hl
  refine ez_aload_n (pc := 0) Z dX5_dares_0 0 rfl rfl ?_
  refine ez_iload_n (pc := 1) Z dX5_dares_1 1 rfl rfl ?_
  refine ez_iload_n (pc := 2) Z dX5_dares_2 2 rfl rfl ?_
  refine ez_callVl (pc := 3) (r := 50) (As := [.int p1, .int p2]) (st := []) Z (kX5_thinkAbove Z.2.2.2.2.2.2.2.2.2.1 (E := E) hE1 h) gX5_dares_X5_thinkAbove rfl rfl rfl hdX5_thinkAbove rfl rfl (by decide) (ew_oM hE1 _) rfl rfl rfl rfl dX5_dares_3 (fun r1 u2 h => ?_)
  refine ez_aload_n (pc := 6) Z dX5_dares_6 0 rfl rfl ?_
  refine fX5_bar (pc := 7) (M := s1) Z hE1 inX5_dares (List.mem_of_getElem? (i := 1) rfl) dX5_dares_7 ?_
  refine ez_iload_n (pc := 10) Z dX5_dares_10 1 rfl rfl ?_
  refine ez_iald (pc := 11) (n := 6) (a := 1) (v := s1.2.1 1 p1.toNatClampNeg) (M := s1) Z hE1 2 rfl (by decide : 1 < 36) rfl rfl h.1 dX5_dares_11 ?_
  replace h := h.2
  refine ez_i2l (pc := 12) Z dX5_dares_12 ?_
  refine ez_ldc2 (pc := 13) Z (List.mem_of_getElem? (i := 2) rfl) dX5_dares_13 ?_
  refine ez_lsub (pc := 16) Z dX5_dares_16 ?_
  refine ez_aload_n (pc := 17) Z dX5_dares_17 0 rfl rfl ?_
  refine ez_iload_n (pc := 18) Z dX5_dares_18 1 rfl rfl ?_
  refine ez_iload_n (pc := 19) Z dX5_dares_19 2 rfl rfl ?_
  refine ez_callVl (pc := 20) (r := 50) (As := [.int p1, .int p2]) (st := [.long (((s1.2.1 1 p1.toNatClampNeg).toInt64) - (4 : Int64)), .long r1]) Z (kX5_thinkBelow Z.2.2.2.2.2.2.2.2.2.1 (E := E) hE1 h) gX5_dares_X5_thinkBelow rfl rfl rfl hdX5_thinkBelow rfl rfl (by decide) (ew_oM hE1 _) rfl rfl rfl rfl dX5_dares_20 (fun r3 u4 h => ?_)
  refine ez_lmul (pc := 23) Z dX5_dares_23 ?_
  refine ez_lcmp (pc := 24) Z dX5_dares_24 ?_
  refine ez_if_ge (pc := 25) (tgt := 32) Z dX5_dares_25 rfl (fun c5 => ?_) (fun c5 => ?_)
  · replace h := h.1 c5
    refine ez_iconst (pc := 32) Z dX5_dares_32 ec_0 ?_
    exact ez_zret (pc := 33) Z hR () rfl h rfl dX5_dares_33
  · replace h := h.2 c5
    refine ez_iconst (pc := 28) Z dX5_dares_28 ec_1 ?_
    refine ez_goto (pc := 29) (tgt := 33) Z dX5_dares_29 rfl ?_
    exact ez_zret (pc := 33) Z hR () rfl h rfl dX5_dares_33
theorem inX5_wouldRead : ∀ w ∈ wsX50, w ∈ wsX5_wouldRead := fun _ h => List.mem_cons_of_mem _ (List.mem_append_right _ (h))
theorem hdX5_wouldRead : yX5_wouldRead.cls = RX5 ∧ yX5_wouldRead.cls ≠ "java/lang/invoke/MethodHandle" ∧ yX5_wouldRead.cls ≠ "java/lang/invoke/VarHandle" ∧ (parseMethodDescriptor yX5_wouldRead.desc).map (fun d => d.parameters.length) = some 2 := by decide +kernel
def wX5_wouldRead (Q : Int32 → Prop) (p1 : Int32) (p2 : Int32) (s1 : ew_M) : Prop := vp_in p1 6 ∧ (((s1.2.1 0 p1.toNatClampNeg) = (1 : Int32) → Q (1 : Int32) ) ∧ (¬ (s1.2.1 0 p1.toNatClampNeg) = (1 : Int32) → ((s1.2.1 0 p1.toNatClampNeg) = (2 : Int32) → wX5_dares (fun (r3 : Int32) => narrow .boolean (.int r3) = .int r3 ∧ Q r3 ) p1 p2 s1) ∧ (¬ (s1.2.1 0 p1.toNatClampNeg) = (2 : Int32) → ((s1.2.1 0 p1.toNatClampNeg) = (3 : Int32) → vp_in p1 6 ∧ (((s1.1 17) < (s1.2.1 2 p1.toNatClampNeg) → Q (0 : Int32) ) ∧ (¬ (s1.1 17) < (s1.2.1 2 p1.toNatClampNeg) → Q (1 : Int32) ))) ∧ (¬ (s1.2.1 0 p1.toNatClampNeg) = (3 : Int32) → ((s1.2.1 0 p1.toNatClampNeg) = (4 : Int32) → wX5_dares (fun (r8 : Int32) => (r8 = 0 → Q (0 : Int32) ) ∧ (¬ r8 = 0 → vp_in p2 5 ∧ (((s1.2.1 8 p2.toNatClampNeg) = 0 → Q (0 : Int32) ) ∧ (¬ (s1.2.1 8 p2.toNatClampNeg) = 0 → Q (1 : Int32) )))) p1 p2 s1) ∧ (¬ (s1.2.1 0 p1.toNatClampNeg) = (4 : Int32) → Q (0 : Int32) )))))
set_option maxHeartbeats 4000000 in
set_option maxRecDepth 100000 in
theorem kX5_wouldRead {X : ew_X} {l : Launch} (hX : ew_Ap X) {E : ew_M → ew_S} (hE1 : ew_GE X 50 (ew_GM X.2.1) E) {Q : Int32 → Prop} {p1 : Int32} {p2 : Int32} {s1 : ew_M} (h : wX5_wouldRead Q p1 p2 s1) : Met l yX5_wouldRead wsX5_wouldRead ({ frames := 3, cells := 0, slots := 0, locals := 68 } : Room) (va_Pc [.ref (X.2.1 50), .int p1, .int p2] (ew_wd X (E s1))) (va_Qi (fun (r : Int32) (_ : Unit) => Q r) (fun (u : Unit) => ew_wd X ((fun (_ : Unit) => E s1) u)) X.2.2.1) 0 0 X.2.2.1 := by
  refine ew_met (As := [.ref (X.2.1 50), .int p1, .int p2]) (L0 := [(0, .ref (X.2.1 50)), (1, .int p1), (2, .int p2)]) X l hX (by decide) rfl rfl rfl rfl (fun C hl Z hR => ?_)
  subst hl
  refine ez_aload_n (pc := 0) Z dX5_wouldRead_0 0 rfl rfl ?_
  refine fX5_kind (pc := 1) (M := s1) Z hE1 inX5_wouldRead (List.mem_of_getElem? (i := 1) rfl) dX5_wouldRead_1 ?_
  refine ez_iload_n (pc := 4) Z dX5_wouldRead_4 1 rfl rfl ?_
  refine ez_iald (pc := 5) (n := 6) (a := 0) (v := s1.2.1 0 p1.toNatClampNeg) (M := s1) Z hE1 1 rfl (by decide : 0 < 36) rfl rfl h.1 dX5_wouldRead_5 ?_
  replace h := h.2
  by_cases c1 : (s1.2.1 0 p1.toNatClampNeg) = (1 : Int32)
  · replace h := h.1 c1
    refine ez_tabI (pc := 6) (off := 30) (tgt := 36) Z dX5_wouldRead_6 (1 : Int32) c1 (by decide) (by decide) (by decide) rfl ?_
    refine ez_iconst (pc := 36) Z dX5_wouldRead_36 ec_1 ?_
    exact ez_zret (pc := 37) Z hR () rfl h rfl dX5_wouldRead_37
  · replace h := h.2 c1
    by_cases c2 : (s1.2.1 0 p1.toNatClampNeg) = (2 : Int32)
    · replace h := h.1 c2
      refine ez_tabI (pc := 6) (off := 32) (tgt := 38) Z dX5_wouldRead_6 (2 : Int32) c2 (by decide) (by decide) (by decide) rfl ?_
      refine ez_aload_n (pc := 38) Z dX5_wouldRead_38 0 rfl rfl ?_
      refine ez_iload_n (pc := 39) Z dX5_wouldRead_39 1 rfl rfl ?_
      refine ez_iload_n (pc := 40) Z dX5_wouldRead_40 2 rfl rfl ?_
      refine ez_callVi (pc := 41) (r := 50) (As := [.int p1, .int p2]) (st := []) Z (kX5_dares Z.2.2.2.2.2.2.2.2.2.1 (E := E) hE1 h) gX5_wouldRead_X5_dares rfl rfl rfl hdX5_dares rfl rfl (by decide) (ew_oM hE1 _) rfl rfl rfl rfl dX5_wouldRead_41 (fun r3 u4 h => ?_)
      exact ez_zret (pc := 44) Z hR () h.1 h.2 rfl dX5_wouldRead_44
    · replace h := h.2 c2
      by_cases c5 : (s1.2.1 0 p1.toNatClampNeg) = (3 : Int32)
      · replace h := h.1 c5
        refine ez_tabI (pc := 6) (off := 39) (tgt := 45) Z dX5_wouldRead_6 (3 : Int32) c5 (by decide) (by decide) (by decide) rfl ?_
        refine ez_aload_n (pc := 45) Z dX5_wouldRead_45 0 rfl rfl ?_
        refine fX5_week (pc := 46) (v := s1.1 17) Z hE1 rfl inX5_wouldRead (List.mem_of_getElem? (i := 2) rfl) dX5_wouldRead_46 ?_
        refine ez_aload_n (pc := 49) Z dX5_wouldRead_49 0 rfl rfl ?_
        refine fX5_patience (pc := 50) (M := s1) Z hE1 inX5_wouldRead (List.mem_of_getElem? (i := 3) rfl) dX5_wouldRead_50 ?_
        refine ez_iload_n (pc := 53) Z dX5_wouldRead_53 1 rfl rfl ?_
        refine ez_iald (pc := 54) (n := 6) (a := 2) (v := s1.2.1 2 p1.toNatClampNeg) (M := s1) Z hE1 3 rfl (by decide : 2 < 36) rfl rfl h.1 dX5_wouldRead_54 ?_
        replace h := h.2
        refine ez_icmp_lt (pc := 55) (tgt := 62) Z dX5_wouldRead_55 rfl (fun c6 => ?_) (fun c6 => ?_)
        · replace h := h.1 c6
          refine ez_iconst (pc := 62) Z dX5_wouldRead_62 ec_0 ?_
          exact ez_zret (pc := 63) Z hR () rfl h rfl dX5_wouldRead_63
        · replace h := h.2 c6
          refine ez_iconst (pc := 58) Z dX5_wouldRead_58 ec_1 ?_
          refine ez_goto (pc := 59) (tgt := 63) Z dX5_wouldRead_59 rfl ?_
          exact ez_zret (pc := 63) Z hR () rfl h rfl dX5_wouldRead_63
      · replace h := h.2 c5
        by_cases c7 : (s1.2.1 0 p1.toNatClampNeg) = (4 : Int32)
        · replace h := h.1 c7
          refine ez_tabI (pc := 6) (off := 58) (tgt := 64) Z dX5_wouldRead_6 (4 : Int32) c7 (by decide) (by decide) (by decide) rfl ?_
          refine ez_aload_n (pc := 64) Z dX5_wouldRead_64 0 rfl rfl ?_
          refine ez_iload_n (pc := 65) Z dX5_wouldRead_65 1 rfl rfl ?_
          refine ez_iload_n (pc := 66) Z dX5_wouldRead_66 2 rfl rfl ?_
          refine ez_callVi (pc := 67) (r := 50) (As := [.int p1, .int p2]) (st := []) Z (kX5_dares Z.2.2.2.2.2.2.2.2.2.1 (E := E) hE1 h) gX5_wouldRead_X5_dares rfl rfl rfl hdX5_dares rfl rfl (by decide) (ew_oM hE1 _) rfl rfl rfl rfl dX5_wouldRead_67 (fun r8 u9 h => ?_)
          refine ez_if_eq (pc := 70) (tgt := 86) Z dX5_wouldRead_70 rfl (fun c10 => ?_) (fun c10 => ?_)
          · replace h := h.1 c10
            refine ez_iconst (pc := 86) Z dX5_wouldRead_86 ec_0 ?_
            exact ez_zret (pc := 87) Z hR () rfl h rfl dX5_wouldRead_87
          · replace h := h.2 c10
            refine ez_aload_n (pc := 73) Z dX5_wouldRead_73 0 rfl rfl ?_
            refine fX5_read (pc := 74) (M := s1) Z hE1 inX5_wouldRead (List.mem_of_getElem? (i := 4) rfl) dX5_wouldRead_74 ?_
            refine ez_iload_n (pc := 77) Z dX5_wouldRead_77 2 rfl rfl ?_
            refine ez_iald (pc := 78) (n := 5) (a := 8) (v := s1.2.1 8 p2.toNatClampNeg) (M := s1) Z hE1 9 rfl (by decide : 8 < 36) rfl rfl h.1 dX5_wouldRead_78 ?_
            replace h := h.2
            refine ez_if_eq (pc := 79) (tgt := 86) Z dX5_wouldRead_79 rfl (fun c11 => ?_) (fun c11 => ?_)
            · replace h := h.1 c11
              refine ez_iconst (pc := 86) Z dX5_wouldRead_86 ec_0 ?_
              exact ez_zret (pc := 87) Z hR () rfl h rfl dX5_wouldRead_87
            · replace h := h.2 c11
              refine ez_iconst (pc := 82) Z dX5_wouldRead_82 ec_1 ?_
              refine ez_goto (pc := 83) (tgt := 87) Z dX5_wouldRead_83 rfl ?_
              exact ez_zret (pc := 87) Z hR () rfl h rfl dX5_wouldRead_87
        · replace h := h.2 c7
          have gc1 := ez_nt c1
          have gc2 := ez_nt c2
          have gc5 := ez_nt c5
          have gc7 := ez_nt c7
          refine ez_tabO (pc := 6) (tgt := 88) Z dX5_wouldRead_6 (by simp only [ez_t1, ez_t2, ez_t3, ez_t4] at gc1 gc2 gc5 gc7; omega) rfl ?_
          refine ez_iconst (pc := 88) Z dX5_wouldRead_88 ec_0 ?_
          exact ez_zret (pc := 89) Z hR () rfl h rfl dX5_wouldRead_89
theorem inX5_does : ∀ w ∈ wsX50, w ∈ wsX5_does := fun _ h => List.mem_cons_of_mem _ (List.mem_append_right _ (h))
theorem hdX5_does : yX5_does.cls = RX5 ∧ yX5_does.cls ≠ "java/lang/invoke/MethodHandle" ∧ yX5_does.cls ≠ "java/lang/invoke/VarHandle" ∧ (parseMethodDescriptor yX5_does.desc).map (fun d => d.parameters.length) = some 2 := by decide +kernel
def wX5_does (Q : ew_M → Prop) (p1 : Int32) (p2 : Int32) (s1 : ew_M) : Prop := wX5_wouldRead (fun (r1 : Int32) => (r1 = 0 → vp_in p1 6 ∧ ((¬ (s1.2.1 0 p1.toNatClampNeg) = (5 : Int32) → vp_in p1 6 ∧ ((¬ (s1.2.1 0 p1.toNatClampNeg) = (6 : Int32) → Q s1) ∧ ((s1.2.1 0 p1.toNatClampNeg) = (6 : Int32) → vp_in p2 5 ∧ (vp_in p2 5 ∧ (Q (ew_sA s1 9 p2.toNatClampNeg ((s1.2.1 9 p2.toNatClampNeg) ||| ((1 : Int32) <<< (p1 &&& 31))))))))) ∧ ((s1.2.1 0 p1.toNatClampNeg) = (5 : Int32) → wX5_gives (fun (m7 : ew_M) => Q m7) p1 p2 s1))) ∧ (¬ r1 = 0 → wX5_hasNowRead (fun (m9 : ew_M) => Q m9) p1 p2 s1)) p1 p2 s1
set_option maxHeartbeats 4000000 in
set_option maxRecDepth 100000 in
theorem kX5_does {X : ew_X} {l : Launch} (hX : ew_Ap X) {E : ew_M → ew_S} (hE1 : ew_GE X 50 (ew_GM X.2.1) E) {Q : ew_M → Prop} {p1 : Int32} {p2 : Int32} {s1 : ew_M} (h : wX5_does Q p1 p2 s1) : Met l yX5_does wsX5_does ({ frames := 4, cells := 0, slots := 0, locals := 90 } : Room) (va_Pc [.ref (X.2.1 50), .int p1, .int p2] (ew_wd X (E s1))) (va_Qv (fun (u : ew_M) => Q u) (fun (u : ew_M) => ew_wd X ((fun (u : ew_M) => E u) u)) X.2.2.1) 0 0 X.2.2.1 := by
  refine ew_met (As := [.ref (X.2.1 50), .int p1, .int p2]) (L0 := [(0, .ref (X.2.1 50)), (1, .int p1), (2, .int p2)]) X l hX (by decide) rfl rfl rfl rfl (fun C hl Z hR => ?_)
  subst hl
  refine ez_aload_n (pc := 0) Z dX5_does_0 0 rfl rfl ?_
  refine ez_iload_n (pc := 1) Z dX5_does_1 1 rfl rfl ?_
  refine ez_iload_n (pc := 2) Z dX5_does_2 2 rfl rfl ?_
  refine ez_callVi (pc := 3) (r := 50) (As := [.int p1, .int p2]) (st := []) Z (kX5_wouldRead Z.2.2.2.2.2.2.2.2.2.1 (E := E) hE1 h) gX5_does_X5_wouldRead rfl rfl rfl hdX5_wouldRead rfl rfl (by decide) (ew_oM hE1 _) rfl rfl rfl rfl dX5_does_3 (fun r1 u2 h => ?_)
  refine ez_if_eq (pc := 6) (tgt := 18) Z dX5_does_6 rfl (fun c3 => ?_) (fun c3 => ?_)
  · replace h := h.1 c3
    refine ez_aload_n (pc := 18) Z dX5_does_18 0 rfl rfl ?_
    refine fX5_kind (pc := 19) (M := s1) Z hE1 inX5_does (List.mem_of_getElem? (i := 1) rfl) dX5_does_19 ?_
    refine ez_iload_n (pc := 22) Z dX5_does_22 1 rfl rfl ?_
    refine ez_iald (pc := 23) (n := 6) (a := 0) (v := s1.2.1 0 p1.toNatClampNeg) (M := s1) Z hE1 1 rfl (by decide : 0 < 36) rfl rfl h.1 dX5_does_23 ?_
    replace h := h.2
    refine ez_iconst (pc := 24) Z dX5_does_24 ec_5 ?_
    refine ez_icmp_ne (pc := 25) (tgt := 37) Z dX5_does_25 rfl (fun c4 => ?_) (fun c4 => ?_)
    · replace h := h.1 c4
      refine ez_aload_n (pc := 37) Z dX5_does_37 0 rfl rfl ?_
      refine fX5_kind (pc := 38) (M := s1) Z hE1 inX5_does (List.mem_of_getElem? (i := 1) rfl) dX5_does_38 ?_
      refine ez_iload_n (pc := 41) Z dX5_does_41 1 rfl rfl ?_
      refine ez_iald (pc := 42) (n := 6) (a := 0) (v := s1.2.1 0 p1.toNatClampNeg) (M := s1) Z hE1 1 rfl (by decide : 0 < 36) rfl rfl h.1 dX5_does_42 ?_
      replace h := h.2
      refine ez_bipush (pc := 43) Z dX5_does_43 eb_6 ?_
      refine ez_icmp_ne (pc := 45) (tgt := 60) Z dX5_does_45 rfl (fun c5 => ?_) (fun c5 => ?_)
      · replace h := h.1 c5
        exact ez_vret (pc := 60) Z hR s1 h rfl dX5_does_60
      · replace h := h.2 c5
        refine ez_aload_n (pc := 48) Z dX5_does_48 0 rfl rfl ?_
        refine fX5_said (pc := 49) (M := s1) Z hE1 inX5_does (List.mem_of_getElem? (i := 2) rfl) dX5_does_49 ?_
        refine ez_iload_n (pc := 52) Z dX5_does_52 2 rfl rfl ?_
        refine ez_dup2_11 (pc := 53) Z dX5_does_53 rfl rfl ?_
        refine ez_iald (pc := 54) (n := 5) (a := 9) (v := s1.2.1 9 p2.toNatClampNeg) (M := s1) Z hE1 10 rfl (by decide : 9 < 36) rfl rfl h.1 dX5_does_54 ?_
        replace h := h.2
        refine ez_iconst (pc := 55) Z dX5_does_55 ec_1 ?_
        refine ez_iload_n (pc := 56) Z dX5_does_56 1 rfl rfl ?_
        refine ez_ishl (pc := 57) Z dX5_does_57 ?_
        refine ez_ior (pc := 58) Z dX5_does_58 ?_
        refine ez_iast (pc := 59) (n := 5) (a := 9) (M := s1) (M' := ew_sA s1 9 p2.toNatClampNeg ((s1.2.1 9 p2.toNatClampNeg) ||| ((1 : Int32) <<< (p1 &&& 31)))) Z hE1 10 rfl (by decide : 9 < 36) rfl rfl h.1 dX5_does_59 ?_
        replace h := h.2
        exact ez_vret (pc := 60) Z hR (ew_sA s1 9 p2.toNatClampNeg ((s1.2.1 9 p2.toNatClampNeg) ||| ((1 : Int32) <<< (p1 &&& 31)))) h rfl dX5_does_60
    · replace h := h.2 c4
      refine ez_aload_n (pc := 28) Z dX5_does_28 0 rfl rfl ?_
      refine ez_iload_n (pc := 29) Z dX5_does_29 1 rfl rfl ?_
      refine ez_iload_n (pc := 30) Z dX5_does_30 2 rfl rfl ?_
      refine ez_callVv (pc := 31) (r := 50) (As := [.int p1, .int p2]) (st := []) Z (kX5_gives Z.2.2.2.2.2.2.2.2.2.1 (E := E) hE1 h) gX5_does_X5_gives rfl rfl rfl hdX5_gives rfl rfl (by decide) (ew_oM hE1 _) rfl rfl rfl rfl dX5_does_31 (fun m7 h => ?_)
      refine ez_goto (pc := 34) (tgt := 60) Z dX5_does_34 rfl ?_
      exact ez_vret (pc := 60) Z hR m7 h rfl dX5_does_60
  · replace h := h.2 c3
    refine ez_aload_n (pc := 9) Z dX5_does_9 0 rfl rfl ?_
    refine ez_iload_n (pc := 10) Z dX5_does_10 1 rfl rfl ?_
    refine ez_iload_n (pc := 11) Z dX5_does_11 2 rfl rfl ?_
    refine ez_callVv (pc := 12) (r := 50) (As := [.int p1, .int p2]) (st := []) Z (kX5_hasNowRead Z.2.2.2.2.2.2.2.2.2.1 (E := E) hE1 h) gX5_does_X5_hasNowRead rfl rfl rfl hdX5_hasNowRead rfl rfl (by decide) (ew_oM hE1 _) rfl rfl rfl rfl dX5_does_12 (fun m9 h => ?_)
    refine ez_goto (pc := 15) (tgt := 60) Z dX5_does_15 rfl ?_
    exact ez_vret (pc := 60) Z hR m9 h rfl dX5_does_60
theorem inX5_passes : ∀ w ∈ wsX50, w ∈ wsX5_passes := fun _ h => List.mem_cons_of_mem _ (List.mem_append_right _ (h))
theorem hdX5_passes : yX5_passes.cls = RX5 ∧ yX5_passes.cls ≠ "java/lang/invoke/MethodHandle" ∧ yX5_passes.cls ≠ "java/lang/invoke/VarHandle" ∧ (parseMethodDescriptor yX5_passes.desc).map (fun d => d.parameters.length) = some 0 := by decide +kernel
def wX5_passes_51 (R2 : Int32 × ew_M → Prop) (R12 : Int32 × ew_M → Prop) (Q : ew_M → Prop) (v1 : Int32) (v2 : Int32) (s1 : ew_M) : Prop := R12 (v2 + (1 : Int32), s1)
def wX5_passes_45 (R2 : Int32 × ew_M → Prop) (R12 : Int32 × ew_M → Prop) (Q : ew_M → Prop) (v1 : Int32) (v2 : Int32) (s1 : ew_M) : Prop := wX5_does (fun (m2 : ew_M) => wX5_passes_51 R2 R12 Q v1 v2 m2) v1 v2 s1
def wX5_passes_12 (R2 : Int32 × ew_M → Prop) (R12 : Int32 × ew_M → Prop) (Q : ew_M → Prop) (v1 : Int32) (v2 : Int32) (s1 : ew_M) : Prop := ((s1.1 5) ≤ v2 → R2 (v1 + (1 : Int32), s1)) ∧ (¬ (s1.1 5) ≤ v2 → wX5_mayRead (fun (r2 : Int32) => (r2 = 0 → wX5_passes_51 R2 R12 Q v1 v2 s1) ∧ (¬ r2 = 0 → (¬ v1 = (s1.1 29) → wX5_passes_45 R2 R12 Q v1 v2 s1) ∧ (v1 = (s1.1 29) → (v2 = (s1.1 30) → wX5_passes_51 R2 R12 Q v1 v2 s1) ∧ (¬ v2 = (s1.1 30) → wX5_passes_45 R2 R12 Q v1 v2 s1)))) v1 v2 s1)
def wX5_passes_136 (R65 : Int32 × ew_M → Prop) (R93 : Int32 × ew_M → Prop) (Q : ew_M → Prop) (v1 : Int32) (v2 : Int32) (t0 : Int32) (t1 : Int32) (t2 : Int32) (s1 : ew_M) : Prop := vp_in t2 6 ∧ (R93 (v2 + (1 : Int32), ew_sA s1 3 t2.toNatClampNeg (t1 + t0)))
def wX5_passes_144 (R65 : Int32 × ew_M → Prop) (Q : ew_M → Prop) (v1 : Int32) (s1 : ew_M) : Prop := R65 (v1 + (1 : Int32), s1)
def wX5_passes_93 (R65 : Int32 × ew_M → Prop) (R93 : Int32 × ew_M → Prop) (Q : ew_M → Prop) (v1 : Int32) (v2 : Int32) (s1 : ew_M) : Prop := ((s1.1 0) ≤ v2 → wX5_passes_144 R65 Q v1 s1) ∧ (¬ (s1.1 0) ≤ v2 → vp_in v2 6 ∧ (wX5_isBound (fun (r2 : Int32) => (r2 = 0 → wX5_passes_136 R65 R93 Q v1 v2 (0 : Int32) (s1.2.1 3 v2.toNatClampNeg) v2 s1) ∧ (¬ r2 = 0 → vp_in v1 5 ∧ (vp_in (((3 : Int32) * v1) + (s1.2.1 7 v1.toNatClampNeg)) 15 ∧ (wX5_passes_136 R65 R93 Q v1 v2 (s1.2.1 6 (((3 : Int32) * v1) + (s1.2.1 7 v1.toNatClampNeg)).toNatClampNeg) (s1.2.1 3 v2.toNatClampNeg) v2 s1)))) v2 v1 s1))
def wX5_passes_65 (R65 : Int32 × ew_M → Prop) (Q : ew_M → Prop) (v1 : Int32) (s1 : ew_M) : Prop := ((s1.1 5) ≤ v1 → Q (ew_sI s1 17 ((s1.1 17) + (1 : Int32)))) ∧ (¬ (s1.1 5) ≤ v1 → wX5_isForce (fun (r2 : Int32) => (r2 = 0 → wX5_passes_144 R65 Q v1 s1) ∧ (¬ r2 = 0 → vp_in v1 5 ∧ (vp_in v1 5 ∧ (ew_lp (fun (R : Int32 × ew_M → Prop) (x : Int32 × ew_M) => wX5_passes_93 R65 R Q v1 x.1 x.2) ((0 : Int32), (ew_sA s1 10 v1.toNatClampNeg ((s1.2.1 10 v1.toNatClampNeg) + (1 : Int32)))))))) v1 s1)
def wX5_passes_2 (R2 : Int32 × ew_M → Prop) (Q : ew_M → Prop) (v1 : Int32) (s1 : ew_M) : Prop := ((s1.1 0) ≤ v1 → ew_lp (fun (R : Int32 × ew_M → Prop) (x : Int32 × ew_M) => wX5_passes_65 R Q x.1 x.2) ((0 : Int32), s1)) ∧ (¬ (s1.1 0) ≤ v1 → ew_lp (fun (R : Int32 × ew_M → Prop) (x : Int32 × ew_M) => wX5_passes_12 R2 R Q v1 x.1 x.2) ((0 : Int32), s1))
def wX5_passes (Q : ew_M → Prop) (s1 : ew_M) : Prop := ew_lp (fun (R : Int32 × ew_M → Prop) (x : Int32 × ew_M) => wX5_passes_2 R Q x.1 x.2) ((0 : Int32), s1)
set_option maxHeartbeats 4000000 in
set_option maxRecDepth 100000 in
theorem tX5_passes_51 {C : ew_C} {X : ew_X} {E : ew_M → ew_S} (hE1 : ew_GE X 50 (ew_GM X.2.1) E) (Z : ew_Z C X cX5_passes 3 RX5 wsX5_passes ({ frames := 5, cells := 0, slots := 0, locals := 112 } : Room) none) {Q : ew_M → Prop} {R2 : Int32 × ew_M → Prop} {R12 : Int32 × ew_M → Prop} {v1 : Int32} {v2 : Int32} {s1 : ew_M} (hR : C.2.2.2.2.2.2.2.2.2.2 = MQ C.2.2.2.2.2.2.2.1 (va_Qv (fun (u : ew_M) => Q u) (fun (u : ew_M) => ew_wd X ((fun (u : ew_M) => E u) u)) X.2.2.1) C.2.2.2.2.2.2.1 C.2.2.2.2.1 0 0 X.2.2.1) (hR2 : ∀ x : Int32 × ew_M, R2 x → ew_W C X 3 (E x.2) 2 [(0, .ref (X.2.1 50)), (1, .int x.1)] []) (hR12 : ∀ x : Int32 × ew_M, R12 x → ew_W C X 3 (E x.2) 12 [(0, .ref (X.2.1 50)), (1, .int v1), (2, .int x.1)] []) (h : wX5_passes_51 R2 R12 Q v1 v2 s1) : ew_W C X 3 (E s1) 51 [(0, .ref (X.2.1 50)), (1, .int v1), (2, .int v2)] [] := by
  refine ez_iinc (pc := 51) (L' := [(2, .int (v2 + (1 : Int32))), (0, .ref (X.2.1 50)), (1, .int v1)]) Z dX5_passes_51 2 rfl (ei_1 _) (by decide) rfl ?_
  refine ez_goto (pc := 54) (tgt := 12) Z dX5_passes_54 rfl ?_
  refine ez_sub [(0, .ref (X.2.1 50)), (1, .int v1), (2, .int (v2 + (1 : Int32)))] [1, 2, 0] rfl ?_
  exact hR12 _ h
set_option maxHeartbeats 4000000 in
set_option maxRecDepth 100000 in
theorem tX5_passes_45 {C : ew_C} {X : ew_X} {E : ew_M → ew_S} (hE1 : ew_GE X 50 (ew_GM X.2.1) E) (Z : ew_Z C X cX5_passes 3 RX5 wsX5_passes ({ frames := 5, cells := 0, slots := 0, locals := 112 } : Room) none) {Q : ew_M → Prop} {R2 : Int32 × ew_M → Prop} {R12 : Int32 × ew_M → Prop} {v1 : Int32} {v2 : Int32} {s1 : ew_M} (hR : C.2.2.2.2.2.2.2.2.2.2 = MQ C.2.2.2.2.2.2.2.1 (va_Qv (fun (u : ew_M) => Q u) (fun (u : ew_M) => ew_wd X ((fun (u : ew_M) => E u) u)) X.2.2.1) C.2.2.2.2.2.2.1 C.2.2.2.2.1 0 0 X.2.2.1) (hR2 : ∀ x : Int32 × ew_M, R2 x → ew_W C X 3 (E x.2) 2 [(0, .ref (X.2.1 50)), (1, .int x.1)] []) (hR12 : ∀ x : Int32 × ew_M, R12 x → ew_W C X 3 (E x.2) 12 [(0, .ref (X.2.1 50)), (1, .int v1), (2, .int x.1)] []) (h : wX5_passes_45 R2 R12 Q v1 v2 s1) : ew_W C X 3 (E s1) 45 [(0, .ref (X.2.1 50)), (1, .int v1), (2, .int v2)] [] := by
  refine ez_aload_n (pc := 45) Z dX5_passes_45 0 rfl rfl ?_
  refine ez_iload_n (pc := 46) Z dX5_passes_46 1 rfl rfl ?_
  refine ez_iload_n (pc := 47) Z dX5_passes_47 2 rfl rfl ?_
  refine ez_callVv (pc := 48) (r := 50) (As := [.int v1, .int v2]) (st := []) Z (kX5_does Z.2.2.2.2.2.2.2.2.2.1 (E := E) hE1 h) gX5_passes_X5_does rfl rfl rfl hdX5_does rfl rfl (by decide) (ew_oM hE1 _) rfl rfl rfl rfl dX5_passes_48 (fun m2 h => ?_)
  exact tX5_passes_51 hE1 Z hR hR2 hR12 h
set_option maxHeartbeats 4000000 in
set_option maxRecDepth 100000 in
theorem tX5_passes_12 {C : ew_C} {X : ew_X} {E : ew_M → ew_S} (hE1 : ew_GE X 50 (ew_GM X.2.1) E) (Z : ew_Z C X cX5_passes 3 RX5 wsX5_passes ({ frames := 5, cells := 0, slots := 0, locals := 112 } : Room) none) {Q : ew_M → Prop} {R2 : Int32 × ew_M → Prop} {R12 : Int32 × ew_M → Prop} {v1 : Int32} {v2 : Int32} {s1 : ew_M} (hR : C.2.2.2.2.2.2.2.2.2.2 = MQ C.2.2.2.2.2.2.2.1 (va_Qv (fun (u : ew_M) => Q u) (fun (u : ew_M) => ew_wd X ((fun (u : ew_M) => E u) u)) X.2.2.1) C.2.2.2.2.2.2.1 C.2.2.2.2.1 0 0 X.2.2.1) (hR2 : ∀ x : Int32 × ew_M, R2 x → ew_W C X 3 (E x.2) 2 [(0, .ref (X.2.1 50)), (1, .int x.1)] []) (hR12 : ∀ x : Int32 × ew_M, R12 x → ew_W C X 3 (E x.2) 12 [(0, .ref (X.2.1 50)), (1, .int v1), (2, .int x.1)] []) (h : wX5_passes_12 R2 R12 Q v1 v2 s1) : ew_W C X 3 (E s1) 12 [(0, .ref (X.2.1 50)), (1, .int v1), (2, .int v2)] [] := by
  refine ez_iload_n (pc := 12) Z dX5_passes_12 2 rfl rfl ?_
  refine ez_aload_n (pc := 13) Z dX5_passes_13 0 rfl rfl ?_
  refine fX5_papers (pc := 14) (v := s1.1 5) Z hE1 rfl inX5_passes (List.mem_of_getElem? (i := 2) rfl) dX5_passes_14 ?_
  refine ez_icmp_ge (pc := 17) (tgt := 57) Z dX5_passes_17 rfl (fun c1 => ?_) (fun c1 => ?_)
  · replace h := h.1 c1
    refine ez_iinc (pc := 57) (L' := [(1, .int (v1 + (1 : Int32))), (0, .ref (X.2.1 50)), (2, .int v2)]) Z dX5_passes_57 1 rfl (ei_1 _) (by decide) rfl ?_
    refine ez_goto (pc := 60) (tgt := 2) Z dX5_passes_60 rfl ?_
    refine ez_sub [(0, .ref (X.2.1 50)), (1, .int (v1 + (1 : Int32)))] [1, 0] rfl ?_
    exact hR2 _ h
  · replace h := h.2 c1
    refine ez_aload_n (pc := 20) Z dX5_passes_20 0 rfl rfl ?_
    refine ez_iload_n (pc := 21) Z dX5_passes_21 1 rfl rfl ?_
    refine ez_iload_n (pc := 22) Z dX5_passes_22 2 rfl rfl ?_
    refine ez_callVi (pc := 23) (r := 50) (As := [.int v1, .int v2]) (st := []) Z (kX5_mayRead Z.2.2.2.2.2.2.2.2.2.1 (E := E) hE1 h) gX5_passes_X5_mayRead rfl rfl rfl hdX5_mayRead rfl rfl (by decide) (ew_oM hE1 _) rfl rfl rfl rfl dX5_passes_23 (fun r2 u3 h => ?_)
    refine ez_if_eq (pc := 26) (tgt := 51) Z dX5_passes_26 rfl (fun c4 => ?_) (fun c4 => ?_)
    · replace h := h.1 c4
      exact tX5_passes_51 hE1 Z hR hR2 hR12 h
    · replace h := h.2 c4
      refine ez_iload_n (pc := 29) Z dX5_passes_29 1 rfl rfl ?_
      refine ez_aload_n (pc := 30) Z dX5_passes_30 0 rfl rfl ?_
      refine fX5_still (pc := 31) (v := s1.1 29) Z hE1 rfl inX5_passes (List.mem_of_getElem? (i := 3) rfl) dX5_passes_31 ?_
      refine ez_icmp_ne (pc := 34) (tgt := 45) Z dX5_passes_34 rfl (fun c5 => ?_) (fun c5 => ?_)
      · replace h := h.1 c5
        exact tX5_passes_45 hE1 Z hR hR2 hR12 h
      · replace h := h.2 c5
        refine ez_iload_n (pc := 37) Z dX5_passes_37 2 rfl rfl ?_
        refine ez_aload_n (pc := 38) Z dX5_passes_38 0 rfl rfl ?_
        refine fX5_stillPaper (pc := 39) (v := s1.1 30) Z hE1 rfl inX5_passes (List.mem_of_getElem? (i := 4) rfl) dX5_passes_39 ?_
        refine ez_icmp_eq (pc := 42) (tgt := 51) Z dX5_passes_42 rfl (fun c6 => ?_) (fun c6 => ?_)
        · replace h := h.1 c6
          exact tX5_passes_51 hE1 Z hR hR2 hR12 h
        · replace h := h.2 c6
          exact tX5_passes_45 hE1 Z hR hR2 hR12 h
set_option maxHeartbeats 4000000 in
set_option maxRecDepth 100000 in
theorem tX5_passes_136 {C : ew_C} {X : ew_X} {E : ew_M → ew_S} (hE1 : ew_GE X 50 (ew_GM X.2.1) E) (Z : ew_Z C X cX5_passes 3 RX5 wsX5_passes ({ frames := 5, cells := 0, slots := 0, locals := 112 } : Room) none) {Q : ew_M → Prop} {R65 : Int32 × ew_M → Prop} {R93 : Int32 × ew_M → Prop} {v1 : Int32} {v2 : Int32} {t0 : Int32} {t1 : Int32} {t2 : Int32} {s1 : ew_M} (hR : C.2.2.2.2.2.2.2.2.2.2 = MQ C.2.2.2.2.2.2.2.1 (va_Qv (fun (u : ew_M) => Q u) (fun (u : ew_M) => ew_wd X ((fun (u : ew_M) => E u) u)) X.2.2.1) C.2.2.2.2.2.2.1 C.2.2.2.2.1 0 0 X.2.2.1) (hR65 : ∀ x : Int32 × ew_M, R65 x → ew_W C X 3 (E x.2) 65 [(0, .ref (X.2.1 50)), (1, .int x.1)] []) (hR93 : ∀ x : Int32 × ew_M, R93 x → ew_W C X 3 (E x.2) 93 [(0, .ref (X.2.1 50)), (1, .int v1), (2, .int x.1)] []) (h : wX5_passes_136 R65 R93 Q v1 v2 t0 t1 t2 s1) : ew_W C X 3 (E s1) 136 [(0, .ref (X.2.1 50)), (1, .int v1), (2, .int v2)] [.int t0, .int t1, .int t2, .ref (X.2.1 54)] := by
  refine ez_iadd (pc := 136) Z dX5_passes_136 ?_
  refine ez_iast (pc := 137) (n := 6) (a := 3) (M := s1) (M' := ew_sA s1 3 t2.toNatClampNeg (t1 + t0)) Z hE1 4 rfl (by decide : 3 < 36) rfl rfl h.1 dX5_passes_137 ?_
  replace h := h.2
  refine ez_iinc (pc := 138) (L' := [(2, .int (v2 + (1 : Int32))), (0, .ref (X.2.1 50)), (1, .int v1)]) Z dX5_passes_138 2 rfl (ei_1 _) (by decide) rfl ?_
  refine ez_goto (pc := 141) (tgt := 93) Z dX5_passes_141 rfl ?_
  refine ez_sub [(0, .ref (X.2.1 50)), (1, .int v1), (2, .int (v2 + (1 : Int32)))] [1, 2, 0] rfl ?_
  exact hR93 _ h
set_option maxHeartbeats 4000000 in
set_option maxRecDepth 100000 in
theorem tX5_passes_144 {C : ew_C} {X : ew_X} {E : ew_M → ew_S} (hE1 : ew_GE X 50 (ew_GM X.2.1) E) (Z : ew_Z C X cX5_passes 3 RX5 wsX5_passes ({ frames := 5, cells := 0, slots := 0, locals := 112 } : Room) none) {Q : ew_M → Prop} {R65 : Int32 × ew_M → Prop} {v1 : Int32} {s1 : ew_M} (hR : C.2.2.2.2.2.2.2.2.2.2 = MQ C.2.2.2.2.2.2.2.1 (va_Qv (fun (u : ew_M) => Q u) (fun (u : ew_M) => ew_wd X ((fun (u : ew_M) => E u) u)) X.2.2.1) C.2.2.2.2.2.2.1 C.2.2.2.2.1 0 0 X.2.2.1) (hR65 : ∀ x : Int32 × ew_M, R65 x → ew_W C X 3 (E x.2) 65 [(0, .ref (X.2.1 50)), (1, .int x.1)] []) (h : wX5_passes_144 R65 Q v1 s1) : ew_W C X 3 (E s1) 144 [(0, .ref (X.2.1 50)), (1, .int v1)] [] := by
  refine ez_iinc (pc := 144) (L' := [(1, .int (v1 + (1 : Int32))), (0, .ref (X.2.1 50))]) Z dX5_passes_144 1 rfl (ei_1 _) (by decide) rfl ?_
  refine ez_goto (pc := 147) (tgt := 65) Z dX5_passes_147 rfl ?_
  refine ez_sub [(0, .ref (X.2.1 50)), (1, .int (v1 + (1 : Int32)))] [1, 0] rfl ?_
  exact hR65 _ h
set_option maxHeartbeats 4000000 in
set_option maxRecDepth 100000 in
theorem tX5_passes_93 {C : ew_C} {X : ew_X} {E : ew_M → ew_S} (hE1 : ew_GE X 50 (ew_GM X.2.1) E) (Z : ew_Z C X cX5_passes 3 RX5 wsX5_passes ({ frames := 5, cells := 0, slots := 0, locals := 112 } : Room) none) {Q : ew_M → Prop} {R65 : Int32 × ew_M → Prop} {R93 : Int32 × ew_M → Prop} {v1 : Int32} {v2 : Int32} {s1 : ew_M} (hR : C.2.2.2.2.2.2.2.2.2.2 = MQ C.2.2.2.2.2.2.2.1 (va_Qv (fun (u : ew_M) => Q u) (fun (u : ew_M) => ew_wd X ((fun (u : ew_M) => E u) u)) X.2.2.1) C.2.2.2.2.2.2.1 C.2.2.2.2.1 0 0 X.2.2.1) (hR65 : ∀ x : Int32 × ew_M, R65 x → ew_W C X 3 (E x.2) 65 [(0, .ref (X.2.1 50)), (1, .int x.1)] []) (hR93 : ∀ x : Int32 × ew_M, R93 x → ew_W C X 3 (E x.2) 93 [(0, .ref (X.2.1 50)), (1, .int v1), (2, .int x.1)] []) (h : wX5_passes_93 R65 R93 Q v1 v2 s1) : ew_W C X 3 (E s1) 93 [(0, .ref (X.2.1 50)), (1, .int v1), (2, .int v2)] [] := by
  refine ez_iload_n (pc := 93) Z dX5_passes_93 2 rfl rfl ?_
  refine ez_aload_n (pc := 94) Z dX5_passes_94 0 rfl rfl ?_
  refine fX5_persons (pc := 95) (v := s1.1 0) Z hE1 rfl inX5_passes (List.mem_of_getElem? (i := 1) rfl) dX5_passes_95 ?_
  refine ez_icmp_ge (pc := 98) (tgt := 144) Z dX5_passes_98 rfl (fun c1 => ?_) (fun c1 => ?_)
  · replace h := h.1 c1
    refine ez_sub [(0, .ref (X.2.1 50)), (1, .int v1)] [0, 1] rfl ?_
    exact tX5_passes_144 hE1 Z hR hR65 h
  · replace h := h.2 c1
    refine ez_aload_n (pc := 101) Z dX5_passes_101 0 rfl rfl ?_
    refine fX5_had (pc := 102) (M := s1) Z hE1 inX5_passes (List.mem_of_getElem? (i := 6) rfl) dX5_passes_102 ?_
    refine ez_iload_n (pc := 105) Z dX5_passes_105 2 rfl rfl ?_
    refine ez_dup2_11 (pc := 106) Z dX5_passes_106 rfl rfl ?_
    refine ez_iald (pc := 107) (n := 6) (a := 3) (v := s1.2.1 3 v2.toNatClampNeg) (M := s1) Z hE1 4 rfl (by decide : 3 < 36) rfl rfl h.1 dX5_passes_107 ?_
    replace h := h.2
    refine ez_aload_n (pc := 108) Z dX5_passes_108 0 rfl rfl ?_
    refine ez_iload_n (pc := 109) Z dX5_passes_109 2 rfl rfl ?_
    refine ez_iload_n (pc := 110) Z dX5_passes_110 1 rfl rfl ?_
    refine ez_callVi (pc := 111) (r := 50) (As := [.int v2, .int v1]) (st := [.int (s1.2.1 3 v2.toNatClampNeg), .int v2, .ref (X.2.1 54)]) Z (kX5_isBound Z.2.2.2.2.2.2.2.2.2.1 (E := E) hE1 h) gX5_passes_X5_isBound rfl rfl rfl hdX5_isBound rfl rfl (by decide) (ew_oM hE1 _) rfl rfl rfl rfl dX5_passes_111 (fun r2 u3 h => ?_)
    refine ez_if_eq (pc := 114) (tgt := 135) Z dX5_passes_114 rfl (fun c4 => ?_) (fun c4 => ?_)
    · replace h := h.1 c4
      refine ez_iconst (pc := 135) Z dX5_passes_135 ec_0 ?_
      exact tX5_passes_136 hE1 Z hR hR65 hR93 h
    · replace h := h.2 c4
      refine ez_aload_n (pc := 117) Z dX5_passes_117 0 rfl rfl ?_
      refine fX5_brings (pc := 118) (M := s1) Z hE1 inX5_passes (List.mem_of_getElem? (i := 7) rfl) dX5_passes_118 ?_
      refine ez_iconst (pc := 121) Z dX5_passes_121 ec_3 ?_
      refine ez_iload_n (pc := 122) Z dX5_passes_122 1 rfl rfl ?_
      refine ez_imul (pc := 123) Z dX5_passes_123 ?_
      refine ez_aload_n (pc := 124) Z dX5_passes_124 0 rfl rfl ?_
      refine fX5_trueOne (pc := 125) (M := s1) Z hE1 inX5_passes (List.mem_of_getElem? (i := 8) rfl) dX5_passes_125 ?_
      refine ez_iload_n (pc := 128) Z dX5_passes_128 1 rfl rfl ?_
      refine ez_iald (pc := 129) (n := 5) (a := 7) (v := s1.2.1 7 v1.toNatClampNeg) (M := s1) Z hE1 8 rfl (by decide : 7 < 36) rfl rfl h.1 dX5_passes_129 ?_
      replace h := h.2
      refine ez_iadd (pc := 130) Z dX5_passes_130 ?_
      refine ez_iald (pc := 131) (n := 15) (a := 6) (v := s1.2.1 6 (((3 : Int32) * v1) + (s1.2.1 7 v1.toNatClampNeg)).toNatClampNeg) (M := s1) Z hE1 7 rfl (by decide : 6 < 36) rfl rfl h.1 dX5_passes_131 ?_
      replace h := h.2
      refine ez_goto (pc := 132) (tgt := 136) Z dX5_passes_132 rfl ?_
      exact tX5_passes_136 hE1 Z hR hR65 hR93 h
set_option maxHeartbeats 4000000 in
set_option maxRecDepth 100000 in
theorem tX5_passes_65 {C : ew_C} {X : ew_X} {E : ew_M → ew_S} (hE1 : ew_GE X 50 (ew_GM X.2.1) E) (Z : ew_Z C X cX5_passes 3 RX5 wsX5_passes ({ frames := 5, cells := 0, slots := 0, locals := 112 } : Room) none) {Q : ew_M → Prop} {R65 : Int32 × ew_M → Prop} {v1 : Int32} {s1 : ew_M} (hR : C.2.2.2.2.2.2.2.2.2.2 = MQ C.2.2.2.2.2.2.2.1 (va_Qv (fun (u : ew_M) => Q u) (fun (u : ew_M) => ew_wd X ((fun (u : ew_M) => E u) u)) X.2.2.1) C.2.2.2.2.2.2.1 C.2.2.2.2.1 0 0 X.2.2.1) (hR65 : ∀ x : Int32 × ew_M, R65 x → ew_W C X 3 (E x.2) 65 [(0, .ref (X.2.1 50)), (1, .int x.1)] []) (h : wX5_passes_65 R65 Q v1 s1) : ew_W C X 3 (E s1) 65 [(0, .ref (X.2.1 50)), (1, .int v1)] [] := by
  refine ez_iload_n (pc := 65) Z dX5_passes_65 1 rfl rfl ?_
  refine ez_aload_n (pc := 66) Z dX5_passes_66 0 rfl rfl ?_
  refine fX5_papers (pc := 67) (v := s1.1 5) Z hE1 rfl inX5_passes (List.mem_of_getElem? (i := 2) rfl) dX5_passes_67 ?_
  refine ez_icmp_ge (pc := 70) (tgt := 150) Z dX5_passes_70 rfl (fun c1 => ?_) (fun c1 => ?_)
  · replace h := h.1 c1
    refine ez_aload_n (pc := 150) Z dX5_passes_150 0 rfl rfl ?_
    refine ez_dup (pc := 151) Z dX5_passes_151 rfl ?_
    refine fX5_week (pc := 152) (v := s1.1 17) Z hE1 rfl inX5_passes (List.mem_of_getElem? (i := 9) rfl) dX5_passes_152 ?_
    refine ez_iconst (pc := 155) Z dX5_passes_155 ec_1 ?_
    refine ez_iadd (pc := 156) Z dX5_passes_156 ?_
    refine pX5_week (pc := 157) (M := s1) (M' := ew_sI s1 17 ((s1.1 17) + (1 : Int32))) Z hE1 rfl inX5_passes (List.mem_of_getElem? (i := 9) rfl) dX5_passes_157 ?_
    exact ez_vret (pc := 160) Z hR (ew_sI s1 17 ((s1.1 17) + (1 : Int32))) h rfl dX5_passes_160
  · replace h := h.2 c1
    refine ez_aload_n (pc := 73) Z dX5_passes_73 0 rfl rfl ?_
    refine ez_iload_n (pc := 74) Z dX5_passes_74 1 rfl rfl ?_
    refine ez_callVi (pc := 75) (r := 50) (As := [.int v1]) (st := []) Z (kX5_isForce Z.2.2.2.2.2.2.2.2.2.1 (E := E) hE1 h) gX5_passes_X5_isForce rfl rfl rfl hdX5_isForce rfl rfl (by decide) (ew_oM hE1 _) rfl rfl rfl rfl dX5_passes_75 (fun r2 u3 h => ?_)
    refine ez_if_eq (pc := 78) (tgt := 144) Z dX5_passes_78 rfl (fun c4 => ?_) (fun c4 => ?_)
    · replace h := h.1 c4
      exact tX5_passes_144 hE1 Z hR hR65 h
    · replace h := h.2 c4
      refine ez_aload_n (pc := 81) Z dX5_passes_81 0 rfl rfl ?_
      refine fX5_lasted (pc := 82) (M := s1) Z hE1 inX5_passes (List.mem_of_getElem? (i := 5) rfl) dX5_passes_82 ?_
      refine ez_iload_n (pc := 85) Z dX5_passes_85 1 rfl rfl ?_
      refine ez_dup2_11 (pc := 86) Z dX5_passes_86 rfl rfl ?_
      refine ez_iald (pc := 87) (n := 5) (a := 10) (v := s1.2.1 10 v1.toNatClampNeg) (M := s1) Z hE1 11 rfl (by decide : 10 < 36) rfl rfl h.1 dX5_passes_87 ?_
      replace h := h.2
      refine ez_iconst (pc := 88) Z dX5_passes_88 ec_1 ?_
      refine ez_iadd (pc := 89) Z dX5_passes_89 ?_
      refine ez_iast (pc := 90) (n := 5) (a := 10) (M := s1) (M' := ew_sA s1 10 v1.toNatClampNeg ((s1.2.1 10 v1.toNatClampNeg) + (1 : Int32))) Z hE1 11 rfl (by decide : 10 < 36) rfl rfl h.1 dX5_passes_90 ?_
      replace h := h.2
      refine ez_iconst (pc := 91) Z dX5_passes_91 ec_0 ?_
      refine ez_istore_n (pc := 92) (L' := [(2, .int (0 : Int32)), (0, .ref (X.2.1 50)), (1, .int v1)]) Z dX5_passes_92 rfl (by decide) rfl ?_
      refine ez_sub [(0, .ref (X.2.1 50)), (1, .int v1), (2, .int (0 : Int32))] [1, 2, 0] rfl ?_
      exact ew_ind (P := fun (x : Int32 × ew_M) => ew_W C X 3 (E x.2) 93 [(0, .ref (X.2.1 50)), (1, .int v1), (2, .int x.1)] []) (fun R hR9 x h => tX5_passes_93 hE1 Z hR hR65 hR9 h) h
set_option maxHeartbeats 4000000 in
set_option maxRecDepth 100000 in
theorem tX5_passes_2 {C : ew_C} {X : ew_X} {E : ew_M → ew_S} (hE1 : ew_GE X 50 (ew_GM X.2.1) E) (Z : ew_Z C X cX5_passes 3 RX5 wsX5_passes ({ frames := 5, cells := 0, slots := 0, locals := 112 } : Room) none) {Q : ew_M → Prop} {R2 : Int32 × ew_M → Prop} {v1 : Int32} {s1 : ew_M} (hR : C.2.2.2.2.2.2.2.2.2.2 = MQ C.2.2.2.2.2.2.2.1 (va_Qv (fun (u : ew_M) => Q u) (fun (u : ew_M) => ew_wd X ((fun (u : ew_M) => E u) u)) X.2.2.1) C.2.2.2.2.2.2.1 C.2.2.2.2.1 0 0 X.2.2.1) (hR2 : ∀ x : Int32 × ew_M, R2 x → ew_W C X 3 (E x.2) 2 [(0, .ref (X.2.1 50)), (1, .int x.1)] []) (h : wX5_passes_2 R2 Q v1 s1) : ew_W C X 3 (E s1) 2 [(0, .ref (X.2.1 50)), (1, .int v1)] [] := by
  refine ez_iload_n (pc := 2) Z dX5_passes_2 1 rfl rfl ?_
  refine ez_aload_n (pc := 3) Z dX5_passes_3 0 rfl rfl ?_
  refine fX5_persons (pc := 4) (v := s1.1 0) Z hE1 rfl inX5_passes (List.mem_of_getElem? (i := 1) rfl) dX5_passes_4 ?_
  refine ez_icmp_ge (pc := 7) (tgt := 63) Z dX5_passes_7 rfl (fun c1 => ?_) (fun c1 => ?_)
  · replace h := h.1 c1
    refine ez_iconst (pc := 63) Z dX5_passes_63 ec_0 ?_
    refine ez_istore_n (pc := 64) (L' := [(1, .int (0 : Int32)), (0, .ref (X.2.1 50))]) Z dX5_passes_64 rfl (by decide) rfl ?_
    refine ez_sub [(0, .ref (X.2.1 50)), (1, .int (0 : Int32))] [1, 0] rfl ?_
    exact ew_ind (P := fun (x : Int32 × ew_M) => ew_W C X 3 (E x.2) 65 [(0, .ref (X.2.1 50)), (1, .int x.1)] []) (fun R hR9 x h => tX5_passes_65 hE1 Z hR  hR9 h) h
  · replace h := h.2 c1
    refine ez_iconst (pc := 10) Z dX5_passes_10 ec_0 ?_
    refine ez_istore_n (pc := 11) (L' := [(2, .int (0 : Int32)), (0, .ref (X.2.1 50)), (1, .int v1)]) Z dX5_passes_11 rfl (by decide) rfl ?_
    refine ez_sub [(0, .ref (X.2.1 50)), (1, .int v1), (2, .int (0 : Int32))] [1, 2, 0] rfl ?_
    exact ew_ind (P := fun (x : Int32 × ew_M) => ew_W C X 3 (E x.2) 12 [(0, .ref (X.2.1 50)), (1, .int v1), (2, .int x.1)] []) (fun R hR9 x h => tX5_passes_12 hE1 Z hR hR2 hR9 h) h
set_option maxHeartbeats 4000000 in
set_option maxRecDepth 100000 in
theorem kX5_passes {X : ew_X} {l : Launch} (hX : ew_Ap X) {E : ew_M → ew_S} (hE1 : ew_GE X 50 (ew_GM X.2.1) E) {Q : ew_M → Prop} {s1 : ew_M} (h : wX5_passes Q s1) : Met l yX5_passes wsX5_passes ({ frames := 5, cells := 0, slots := 0, locals := 112 } : Room) (va_Pc [.ref (X.2.1 50)] (ew_wd X (E s1))) (va_Qv (fun (u : ew_M) => Q u) (fun (u : ew_M) => ew_wd X ((fun (u : ew_M) => E u) u)) X.2.2.1) 0 0 X.2.2.1 := by
  refine ew_met (As := [.ref (X.2.1 50)]) (L0 := [(0, .ref (X.2.1 50))]) X l hX (by decide) rfl rfl rfl rfl (fun C hl Z hR => ?_)
  subst hl
  refine ez_iconst (pc := 0) Z dX5_passes_0 ec_0 ?_
  refine ez_istore_n (pc := 1) (L' := [(1, .int (0 : Int32)), (0, .ref (X.2.1 50))]) Z dX5_passes_1 rfl (by decide) rfl ?_
  refine ez_sub [(0, .ref (X.2.1 50)), (1, .int (0 : Int32))] [1, 0] rfl ?_
  exact ew_ind (P := fun (x : Int32 × ew_M) => ew_W C X 3 (E x.2) 2 [(0, .ref (X.2.1 50)), (1, .int x.1)] []) (fun R hR9 x h => tX5_passes_2 hE1 Z hR  hR9 h) h
theorem inX5_weeks : ∀ w ∈ wsX50, w ∈ wsX5_weeks := fun _ h => List.mem_cons_of_mem _ (List.mem_append_right _ (h))
theorem hdX5_weeks : yX5_weeks.cls = RX5 ∧ yX5_weeks.cls ≠ "java/lang/invoke/MethodHandle" ∧ yX5_weeks.cls ≠ "java/lang/invoke/VarHandle" ∧ (parseMethodDescriptor yX5_weeks.desc).map (fun d => d.parameters.length) = some 1 := by decide +kernel
def wX5_weeks_27 (R27 : Int32 × ew_M → Prop) (Q : Int32 → ew_M → Prop) (v1 : Int32) (v2 : Int32) (s1 : ew_M) : Prop := (v1 ≤ v2 → Q (s1.1 17) s1) ∧ (¬ v1 ≤ v2 → wX5_passes (fun (m3 : ew_M) => R27 (v2 + (1 : Int32), m3)) s1)
def wX5_weeks (Q : Int32 → ew_M → Prop) (p1 : Int32) (s1 : ew_M) : Prop := ((1 : Int32) ≤ p1 → (p1 ≤ (99 : Int32) → ew_lp (fun (R : Int32 × ew_M → Prop) (x : Int32 × ew_M) => wX5_weeks_27 R Q p1 x.1 x.2) ((0 : Int32), s1)) ∧ (¬ p1 ≤ (99 : Int32) → wX5_refuse (fun (r3 : Int32) (m4 : ew_M) => Q r3 m4) (-6 : Int32) s1)) ∧ (¬ (1 : Int32) ≤ p1 → wX5_refuse (fun (r5 : Int32) (m6 : ew_M) => Q r5 m6) (-4 : Int32) s1)
set_option maxHeartbeats 4000000 in
set_option maxRecDepth 100000 in
theorem tX5_weeks_27 {C : ew_C} {X : ew_X} {E : ew_M → ew_S} (hE1 : ew_GE X 50 (ew_GM X.2.1) E) (Z : ew_Z C X cX5_weeks 3 RX5 wsX5_weeks ({ frames := 6, cells := 0, slots := 0, locals := 134 } : Room) (some .int)) {Q : Int32 → ew_M → Prop} {R27 : Int32 × ew_M → Prop} {v1 : Int32} {v2 : Int32} {s1 : ew_M} (hR : C.2.2.2.2.2.2.2.2.2.2 = MQ C.2.2.2.2.2.2.2.1 (va_Qi (fun (r : Int32) (u : ew_M) => Q r u) (fun (u : ew_M) => ew_wd X ((fun (u : ew_M) => E u) u)) X.2.2.1) C.2.2.2.2.2.2.1 C.2.2.2.2.1 0 0 X.2.2.1) (hR27 : ∀ x : Int32 × ew_M, R27 x → ew_W C X 3 (E x.2) 27 [(0, .ref (X.2.1 50)), (1, .int v1), (2, .int x.1)] []) (h : wX5_weeks_27 R27 Q v1 v2 s1) : ew_W C X 3 (E s1) 27 [(0, .ref (X.2.1 50)), (1, .int v1), (2, .int v2)] [] := by
  refine ez_iload_n (pc := 27) Z dX5_weeks_27 2 rfl rfl ?_
  refine ez_iload_n (pc := 28) Z dX5_weeks_28 1 rfl rfl ?_
  refine ez_icmp_ge (pc := 29) (tgt := 42) Z dX5_weeks_29 rfl (fun c1 => ?_) (fun c1 => ?_)
  · replace h := h.1 c1
    refine ez_aload_n (pc := 42) Z dX5_weeks_42 0 rfl rfl ?_
    refine fX5_week (pc := 43) (v := s1.1 17) Z hE1 rfl inX5_weeks (List.mem_of_getElem? (i := 1) rfl) dX5_weeks_43 ?_
    exact ez_iret (pc := 46) Z hR s1 h rfl dX5_weeks_46
  · replace h := h.2 c1
    refine ez_aload_n (pc := 32) Z dX5_weeks_32 0 rfl rfl ?_
    refine ez_callVv (pc := 33) (r := 50) (As := []) (st := []) Z (kX5_passes Z.2.2.2.2.2.2.2.2.2.1 (E := E) hE1 h) gX5_weeks_X5_passes rfl rfl rfl hdX5_passes rfl rfl (by decide) (ew_oM hE1 _) rfl rfl rfl rfl dX5_weeks_33 (fun m3 h => ?_)
    refine ez_iinc (pc := 36) (L' := [(2, .int (v2 + (1 : Int32))), (0, .ref (X.2.1 50)), (1, .int v1)]) Z dX5_weeks_36 2 rfl (ei_1 _) (by decide) rfl ?_
    refine ez_goto (pc := 39) (tgt := 27) Z dX5_weeks_39 rfl ?_
    refine ez_sub [(0, .ref (X.2.1 50)), (1, .int v1), (2, .int (v2 + (1 : Int32)))] [1, 2, 0] rfl ?_
    exact hR27 _ h
set_option maxHeartbeats 4000000 in
set_option maxRecDepth 100000 in
theorem kX5_weeks {X : ew_X} {l : Launch} (hX : ew_Ap X) {E : ew_M → ew_S} (hE1 : ew_GE X 50 (ew_GM X.2.1) E) {Q : Int32 → ew_M → Prop} {p1 : Int32} {s1 : ew_M} (h : wX5_weeks Q p1 s1) : Met l yX5_weeks wsX5_weeks ({ frames := 6, cells := 0, slots := 0, locals := 134 } : Room) (va_Pc [.ref (X.2.1 50), .int p1] (ew_wd X (E s1))) (va_Qi (fun (r : Int32) (u : ew_M) => Q r u) (fun (u : ew_M) => ew_wd X ((fun (u : ew_M) => E u) u)) X.2.2.1) 0 0 X.2.2.1 := by
  refine ew_met (As := [.ref (X.2.1 50), .int p1]) (L0 := [(0, .ref (X.2.1 50)), (1, .int p1)]) X l hX (by decide) rfl rfl rfl rfl (fun C hl Z hR => ?_)
  subst hl
  refine ez_iload_n (pc := 0) Z dX5_weeks_0 1 rfl rfl ?_
  refine ez_iconst (pc := 1) Z dX5_weeks_1 ec_1 ?_
  refine ez_icmp_ge (pc := 2) (tgt := 12) Z dX5_weeks_2 rfl (fun c1 => ?_) (fun c1 => ?_)
  · replace h := h.1 c1
    refine ez_iload_n (pc := 12) Z dX5_weeks_12 1 rfl rfl ?_
    refine ez_bipush (pc := 13) Z dX5_weeks_13 eb_99 ?_
    refine ez_icmp_le (pc := 15) (tgt := 25) Z dX5_weeks_15 rfl (fun c2 => ?_) (fun c2 => ?_)
    · replace h := h.1 c2
      refine ez_iconst (pc := 25) Z dX5_weeks_25 ec_0 ?_
      refine ez_istore_n (pc := 26) (L' := [(2, .int (0 : Int32)), (0, .ref (X.2.1 50)), (1, .int p1)]) Z dX5_weeks_26 rfl (by decide) rfl ?_
      refine ez_sub [(0, .ref (X.2.1 50)), (1, .int p1), (2, .int (0 : Int32))] [1, 2, 0] rfl ?_
      exact ew_ind (P := fun (x : Int32 × ew_M) => ew_W C X 3 (E x.2) 27 [(0, .ref (X.2.1 50)), (1, .int p1), (2, .int x.1)] []) (fun R hR9 x h => tX5_weeks_27 hE1 Z hR  hR9 h) h
    · replace h := h.2 c2
      refine ez_aload_n (pc := 18) Z dX5_weeks_18 0 rfl rfl ?_
      refine ez_bipush (pc := 19) Z dX5_weeks_19 eb_m6 ?_
      refine ez_callVi (pc := 21) (r := 50) (As := [.int (-6 : Int32)]) (st := []) Z (kX5_refuse Z.2.2.2.2.2.2.2.2.2.1 (E := E) hE1 h) gX5_weeks_X5_refuse rfl rfl rfl hdX5_refuse rfl rfl (by decide) (ew_oM hE1 _) rfl rfl rfl rfl dX5_weeks_21 (fun r3 m4 h => ?_)
      exact ez_iret (pc := 24) Z hR m4 h rfl dX5_weeks_24
  · replace h := h.2 c1
    refine ez_aload_n (pc := 5) Z dX5_weeks_5 0 rfl rfl ?_
    refine ez_bipush (pc := 6) Z dX5_weeks_6 eb_m4 ?_
    refine ez_callVi (pc := 8) (r := 50) (As := [.int (-4 : Int32)]) (st := []) Z (kX5_refuse Z.2.2.2.2.2.2.2.2.2.1 (E := E) hE1 h) gX5_weeks_X5_refuse rfl rfl rfl hdX5_refuse rfl rfl (by decide) (ew_oM hE1 _) rfl rfl rfl rfl dX5_weeks_8 (fun r5 m6 h => ?_)
    exact ez_iret (pc := 11) Z hR m6 h rfl dX5_weeks_11
theorem inX5_had : ∀ w ∈ wsX50, w ∈ wsX5_had := fun _ h => List.mem_cons_of_mem _ (List.mem_append_right _ (h))
theorem hdX5_had : yX5_had.cls = RX5 ∧ yX5_had.cls ≠ "java/lang/invoke/MethodHandle" ∧ yX5_had.cls ≠ "java/lang/invoke/VarHandle" ∧ (parseMethodDescriptor yX5_had.desc).map (fun d => d.parameters.length) = some 1 := by decide +kernel
def wX5_had (Q : Int32 → ew_M → Prop) (p1 : Int32) (s1 : ew_M) : Prop := wX5_isPerson (fun (r1 : Int32) => (r1 = 0 → wX5_refuseFar (fun (r4 : Int32) (m5 : ew_M) => Q r4 m5) (-1 : Int32) s1) ∧ (¬ r1 = 0 → vp_in p1 6 ∧ (Q (s1.2.1 3 p1.toNatClampNeg) s1))) p1 s1
set_option maxHeartbeats 4000000 in
set_option maxRecDepth 100000 in
theorem kX5_had {X : ew_X} {l : Launch} (hX : ew_Ap X) {E : ew_M → ew_S} (hE1 : ew_GE X 50 (ew_GM X.2.1) E) {Q : Int32 → ew_M → Prop} {p1 : Int32} {s1 : ew_M} (h : wX5_had Q p1 s1) : Met l yX5_had wsX5_had ({ frames := 2, cells := 0, slots := 0, locals := 43 } : Room) (va_Pc [.ref (X.2.1 50), .int p1] (ew_wd X (E s1))) (va_Qi (fun (r : Int32) (u : ew_M) => Q r u) (fun (u : ew_M) => ew_wd X ((fun (u : ew_M) => E u) u)) X.2.2.1) 0 0 X.2.2.1 := by
  refine ew_met (As := [.ref (X.2.1 50), .int p1]) (L0 := [(0, .ref (X.2.1 50)), (1, .int p1)]) X l hX (by decide) rfl rfl rfl rfl (fun C hl Z hR => ?_)
  subst hl
  refine ez_aload_n (pc := 0) Z dX5_had_0 0 rfl rfl ?_
  refine ez_iload_n (pc := 1) Z dX5_had_1 1 rfl rfl ?_
  refine ez_callVi (pc := 2) (r := 50) (As := [.int p1]) (st := []) Z (kX5_isPerson Z.2.2.2.2.2.2.2.2.2.1 (E := E) hE1 h) gX5_had_X5_isPerson rfl rfl rfl hdX5_isPerson rfl rfl (by decide) (ew_oM hE1 _) rfl rfl rfl rfl dX5_had_2 (fun r1 u2 h => ?_)
  refine ez_if_eq (pc := 5) (tgt := 17) Z dX5_had_5 rfl (fun c3 => ?_) (fun c3 => ?_)
  · replace h := h.1 c3
    refine ez_aload_n (pc := 17) Z dX5_had_17 0 rfl rfl ?_
    refine ez_iconst (pc := 18) Z dX5_had_18 ec_m1 ?_
    refine ez_callVi (pc := 19) (r := 50) (As := [.int (-1 : Int32)]) (st := []) Z (kX5_refuseFar Z.2.2.2.2.2.2.2.2.2.1 (E := E) hE1 h) gX5_had_X5_refuseFar rfl rfl rfl hdX5_refuseFar rfl rfl (by decide) (ew_oM hE1 _) rfl rfl rfl rfl dX5_had_19 (fun r4 m5 h => ?_)
    exact ez_iret (pc := 22) Z hR m5 h rfl dX5_had_22
  · replace h := h.2 c3
    refine ez_aload_n (pc := 8) Z dX5_had_8 0 rfl rfl ?_
    refine fX5_had (pc := 9) (M := s1) Z hE1 inX5_had (List.mem_of_getElem? (i := 1) rfl) dX5_had_9 ?_
    refine ez_iload_n (pc := 12) Z dX5_had_12 1 rfl rfl ?_
    refine ez_iald (pc := 13) (n := 6) (a := 3) (v := s1.2.1 3 p1.toNatClampNeg) (M := s1) Z hE1 4 rfl (by decide : 3 < 36) rfl rfl h.1 dX5_had_13 ?_
    replace h := h.2
    refine ez_goto (pc := 14) (tgt := 22) Z dX5_had_14 rfl ?_
    exact ez_iret (pc := 22) Z hR s1 h rfl dX5_had_22
theorem inX5_liarsOf : ∀ w ∈ wsX50, w ∈ wsX5_liarsOf := fun _ h => List.mem_cons_of_mem _ (List.mem_append_right _ (h))
theorem hdX5_liarsOf : yX5_liarsOf.cls = RX5 ∧ yX5_liarsOf.cls ≠ "java/lang/invoke/MethodHandle" ∧ yX5_liarsOf.cls ≠ "java/lang/invoke/VarHandle" ∧ (parseMethodDescriptor yX5_liarsOf.desc).map (fun d => d.parameters.length) = some 1 := by decide +kernel
def wX5_liarsOf (Q : Int32 → Prop) (p1 : Int32) (s1 : ew_M) : Prop := vp_in p1 5 ∧ (vp_in p1 5 ∧ (Q ((s1.2.1 9 p1.toNatClampNeg) &&& ((s1.2.1 8 p1.toNatClampNeg) ^^^ (-1 : Int32))) ))
set_option maxHeartbeats 4000000 in
set_option maxRecDepth 100000 in
theorem kX5_liarsOf {X : ew_X} {l : Launch} (hX : ew_Ap X) {E : ew_M → ew_S} (hE1 : ew_GE X 50 (ew_GM X.2.1) E) {Q : Int32 → Prop} {p1 : Int32} {s1 : ew_M} (h : wX5_liarsOf Q p1 s1) : Met l yX5_liarsOf wsX5_liarsOf ({ frames := 0, cells := 0, slots := 0, locals := 0 } : Room) (va_Pc [.ref (X.2.1 50), .int p1] (ew_wd X (E s1))) (va_Qi (fun (r : Int32) (_ : Unit) => Q r) (fun (u : Unit) => ew_wd X ((fun (_ : Unit) => E s1) u)) X.2.2.1) 0 0 X.2.2.1 := by
  refine ew_met (As := [.ref (X.2.1 50), .int p1]) (L0 := [(0, .ref (X.2.1 50)), (1, .int p1)]) X l hX (by decide) rfl rfl rfl rfl (fun C hl Z hR => ?_)
  subst hl
  refine ez_aload_n (pc := 0) Z dX5_liarsOf_0 0 rfl rfl ?_
  refine fX5_said (pc := 1) (M := s1) Z hE1 inX5_liarsOf (List.mem_of_getElem? (i := 1) rfl) dX5_liarsOf_1 ?_
  refine ez_iload_n (pc := 4) Z dX5_liarsOf_4 1 rfl rfl ?_
  refine ez_iald (pc := 5) (n := 5) (a := 9) (v := s1.2.1 9 p1.toNatClampNeg) (M := s1) Z hE1 10 rfl (by decide : 9 < 36) rfl rfl h.1 dX5_liarsOf_5 ?_
  replace h := h.2
  refine ez_aload_n (pc := 6) Z dX5_liarsOf_6 0 rfl rfl ?_
  refine fX5_read (pc := 7) (M := s1) Z hE1 inX5_liarsOf (List.mem_of_getElem? (i := 2) rfl) dX5_liarsOf_7 ?_
  refine ez_iload_n (pc := 10) Z dX5_liarsOf_10 1 rfl rfl ?_
  refine ez_iald (pc := 11) (n := 5) (a := 8) (v := s1.2.1 8 p1.toNatClampNeg) (M := s1) Z hE1 9 rfl (by decide : 8 < 36) rfl rfl h.1 dX5_liarsOf_11 ?_
  replace h := h.2
  refine ez_iconst (pc := 12) Z dX5_liarsOf_12 ec_m1 ?_
  refine ez_ixor (pc := 13) Z dX5_liarsOf_13 ?_
  refine ez_iand (pc := 14) Z dX5_liarsOf_14 ?_
  exact ez_iret (pc := 15) Z hR () h rfl dX5_liarsOf_15
theorem inX5_liars : ∀ w ∈ wsX50, w ∈ wsX5_liars := fun _ h => List.mem_cons_of_mem _ (List.mem_append_right _ (h))
theorem hdX5_liars : yX5_liars.cls = RX5 ∧ yX5_liars.cls ≠ "java/lang/invoke/MethodHandle" ∧ yX5_liars.cls ≠ "java/lang/invoke/VarHandle" ∧ (parseMethodDescriptor yX5_liars.desc).map (fun d => d.parameters.length) = some 1 := by decide +kernel
def wX5_liars (Q : Int32 → ew_M → Prop) (p1 : Int32) (s1 : ew_M) : Prop := wX5_isPaper (fun (r1 : Int32) => (r1 = 0 → wX5_refuse (fun (r4 : Int32) (m5 : ew_M) => Q r4 m5) (-1 : Int32) s1) ∧ (¬ r1 = 0 → wX5_liarsOf (fun (r6 : Int32) => Q r6 s1) p1 s1)) p1 s1
set_option maxHeartbeats 4000000 in
set_option maxRecDepth 100000 in
theorem kX5_liars {X : ew_X} {l : Launch} (hX : ew_Ap X) {E : ew_M → ew_S} (hE1 : ew_GE X 50 (ew_GM X.2.1) E) {Q : Int32 → ew_M → Prop} {p1 : Int32} {s1 : ew_M} (h : wX5_liars Q p1 s1) : Met l yX5_liars wsX5_liars ({ frames := 2, cells := 0, slots := 0, locals := 43 } : Room) (va_Pc [.ref (X.2.1 50), .int p1] (ew_wd X (E s1))) (va_Qi (fun (r : Int32) (u : ew_M) => Q r u) (fun (u : ew_M) => ew_wd X ((fun (u : ew_M) => E u) u)) X.2.2.1) 0 0 X.2.2.1 := by
  refine ew_met (As := [.ref (X.2.1 50), .int p1]) (L0 := [(0, .ref (X.2.1 50)), (1, .int p1)]) X l hX (by decide) rfl rfl rfl rfl (fun C hl Z hR => ?_)
  subst hl
  refine ez_aload_n (pc := 0) Z dX5_liars_0 0 rfl rfl ?_
  refine ez_iload_n (pc := 1) Z dX5_liars_1 1 rfl rfl ?_
  refine ez_callVi (pc := 2) (r := 50) (As := [.int p1]) (st := []) Z (kX5_isPaper Z.2.2.2.2.2.2.2.2.2.1 (E := E) hE1 h) gX5_liars_X5_isPaper rfl rfl rfl hdX5_isPaper rfl rfl (by decide) (ew_oM hE1 _) rfl rfl rfl rfl dX5_liars_2 (fun r1 u2 h => ?_)
  refine ez_if_eq (pc := 5) (tgt := 16) Z dX5_liars_5 rfl (fun c3 => ?_) (fun c3 => ?_)
  · replace h := h.1 c3
    refine ez_aload_n (pc := 16) Z dX5_liars_16 0 rfl rfl ?_
    refine ez_iconst (pc := 17) Z dX5_liars_17 ec_m1 ?_
    refine ez_callVi (pc := 18) (r := 50) (As := [.int (-1 : Int32)]) (st := []) Z (kX5_refuse Z.2.2.2.2.2.2.2.2.2.1 (E := E) hE1 h) gX5_liars_X5_refuse rfl rfl rfl hdX5_refuse rfl rfl (by decide) (ew_oM hE1 _) rfl rfl rfl rfl dX5_liars_18 (fun r4 m5 h => ?_)
    exact ez_iret (pc := 21) Z hR m5 h rfl dX5_liars_21
  · replace h := h.2 c3
    refine ez_aload_n (pc := 8) Z dX5_liars_8 0 rfl rfl ?_
    refine ez_iload_n (pc := 9) Z dX5_liars_9 1 rfl rfl ?_
    refine ez_callVi (pc := 10) (r := 50) (As := [.int p1]) (st := []) Z (kX5_liarsOf Z.2.2.2.2.2.2.2.2.2.1 (E := E) hE1 h) gX5_liars_X5_liarsOf rfl rfl rfl hdX5_liarsOf rfl rfl (by decide) (ew_oM hE1 _) rfl rfl rfl rfl dX5_liars_10 (fun r6 u7 h => ?_)
    refine ez_goto (pc := 13) (tgt := 21) Z dX5_liars_13 rfl ?_
    exact ez_iret (pc := 21) Z hR s1 h rfl dX5_liars_21
