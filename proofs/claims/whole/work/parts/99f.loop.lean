/-! the start: nobody, no papers -/
theorem eb_31 : (Int8.ofInt 31).toInt32 = (31 : Int32) := by decide
def t0M : ew_M := (fun i => if i = 3 then 50 else 0, fun _ _ => 0, fun _ _ => 0)
def z0M : ew_M := (fun _ => 0, fun _ _ => 0, fun _ _ => 0)
def ra0M : ew_M := (fun _ => 0, fun _ _ => 0, fun _ j => if j = 1 then 1 else 0)
def m0M : ew_M := (fun i => if i = 16 then 50 else if i = 29 then -1 else 0, fun _ _ => 0, fun _ _ => 0)
def S0 : ew_S := ((t0M, t0M, t0M, z0M, ra0M, z0M), m0M)
theorem wf0 : wf t0M := by
  have z : ∀ n, 0 < n → n ≤ 2 ^ 31 → isN (0 : Int32) n := fun n h1 h2 => isN0 h1 h2
  have eA : An t0M = 0 := cl0
  refine ⟨⟨z 7 (by decide) (by decide), z 6 (by decide) (by decide), z 5 (by decide) (by decide), isN_of (n := 50) (m := 101) (by decide) (by decide)⟩, fun p _ => ⟨z 7 (by decide) (by decide), z 10 (by decide) (by decide), z 100 (by decide) (by decide)⟩, fun a _ => ⟨z 64 (by decide) (by decide), z 64 (by decide) (by decide), z 64 (by decide) (by decide), z 3 (by decide) (by decide)⟩, fun a ha => absurd ha (by rw [eA]; omega), fun k _ => ⟨z 101 (by decide) (by decide), by show -4 ≤ (0 : Int32).toInt; decide, by show (0 : Int32).toInt ≤ 5; decide⟩, fun k _ => z 4 (by decide) (by decide), fun k _ => ⟨by show 0 ≤ (0 : Int64).toInt; decide, ?_⟩, fun k hk => absurd hk (by rw [eA]; omega)⟩
  show (0 : Int64).toInt ≤ 100 * 200 ^ cl 0
  rw [cl0]
  decide
theorem Rel0 : Rel t0M t0M z0M z0M m0M := by
  have eA : An t0M = 0 := cl0
  refine ⟨⟨wf0, ⟨⟨rfl, rfl, rfl, rfl, rfl⟩, fun _ _ => ⟨rfl, rfl, rfl, rfl⟩, fun _ _ => ⟨rfl, rfl, rfl, rfl, rfl⟩, fun _ _ => ⟨rfl, rfl⟩, fun _ _ => rfl, fun a p k ha _ _ => absurd ha (by rw [eA]; omega)⟩, rfl⟩, fun _ _ => rfl, ⟨rfl, isN0 (by decide) (by decide), fun _ _ => ⟨rfl, isN0 (by decide) (by decide)⟩⟩, ⟨rfl, isN0 (by decide) (by decide), fun _ _ => ⟨rfl, isN0 (by decide) (by decide)⟩⟩, Or.inl ⟨rfl, rfl⟩⟩
set_option maxHeartbeats 4000000 in
set_option maxRecDepth 100000 in
theorem lw_cs0 (D : va_G) (ad : Nat → Nat) (A : Nat → Prop) (cI cJ tx by0 : Nat) : ew_cs (D, ad, A, cI, cJ, tx, by0) S0 = [(ad 0, .inr (3, [.int 0, .int 0, .int 0, .int 50, .int 0, .ref (ad 1), .ref (ad 2), .ref (ad 3), .ref (ad 4), .ref (ad 5), .ref (ad 6), .ref (ad 7), .ref (ad 8), .ref (ad 9), .ref (ad 10), .ref (ad 11), .ref (ad 12), .ref (ad 13)])),
  (ad 1, .inl (cI, 6, .inl (fun _ => 0))),
  (ad 2, .inl (cI, 6, .inl (fun _ => 0))),
  (ad 3, .inl (cI, 6, .inl (fun _ => 0))),
  (ad 4, .inl (cI, 6, .inl (fun _ => 0))),
  (ad 5, .inl (cI, 5, .inl (fun _ => 0))),
  (ad 6, .inl (cI, 5, .inl (fun _ => 0))),
  (ad 7, .inl (cI, 5, .inl (fun _ => 0))),
  (ad 8, .inl (cI, 5, .inl (fun _ => 0))),
  (ad 9, .inl (cI, 5, .inl (fun _ => 0))),
  (ad 10, .inl (cI, 15, .inl (fun _ => 0))),
  (ad 11, .inl (cI, 15, .inl (fun _ => 0))),
  (ad 12, .inl (cI, 30, .inl (fun _ => 0))),
  (ad 13, .inl (cJ, 90, .inr (.inl (fun _ => 0)))),
  (ad 14, .inr (3, [.int 0, .int 0, .int 0, .int 50, .int 0, .ref (ad 15), .ref (ad 16), .ref (ad 17), .ref (ad 18), .ref (ad 19), .ref (ad 20), .ref (ad 21), .ref (ad 22), .ref (ad 23), .ref (ad 24), .ref (ad 25), .ref (ad 26), .ref (ad 27)])),
  (ad 15, .inl (cI, 6, .inl (fun _ => 0))),
  (ad 16, .inl (cI, 6, .inl (fun _ => 0))),
  (ad 17, .inl (cI, 6, .inl (fun _ => 0))),
  (ad 18, .inl (cI, 6, .inl (fun _ => 0))),
  (ad 19, .inl (cI, 5, .inl (fun _ => 0))),
  (ad 20, .inl (cI, 5, .inl (fun _ => 0))),
  (ad 21, .inl (cI, 5, .inl (fun _ => 0))),
  (ad 22, .inl (cI, 5, .inl (fun _ => 0))),
  (ad 23, .inl (cI, 5, .inl (fun _ => 0))),
  (ad 24, .inl (cI, 15, .inl (fun _ => 0))),
  (ad 25, .inl (cI, 15, .inl (fun _ => 0))),
  (ad 26, .inl (cI, 30, .inl (fun _ => 0))),
  (ad 27, .inl (cJ, 90, .inr (.inl (fun _ => 0)))),
  (ad 28, .inr (3, [.int 0, .int 0, .int 0, .int 50, .int 0, .ref (ad 29), .ref (ad 30), .ref (ad 31), .ref (ad 32), .ref (ad 33), .ref (ad 34), .ref (ad 35), .ref (ad 36), .ref (ad 37), .ref (ad 38), .ref (ad 39), .ref (ad 40), .ref (ad 41)])),
  (ad 29, .inl (cI, 6, .inl (fun _ => 0))),
  (ad 30, .inl (cI, 6, .inl (fun _ => 0))),
  (ad 31, .inl (cI, 6, .inl (fun _ => 0))),
  (ad 32, .inl (cI, 6, .inl (fun _ => 0))),
  (ad 33, .inl (cI, 5, .inl (fun _ => 0))),
  (ad 34, .inl (cI, 5, .inl (fun _ => 0))),
  (ad 35, .inl (cI, 5, .inl (fun _ => 0))),
  (ad 36, .inl (cI, 5, .inl (fun _ => 0))),
  (ad 37, .inl (cI, 5, .inl (fun _ => 0))),
  (ad 38, .inl (cI, 15, .inl (fun _ => 0))),
  (ad 39, .inl (cI, 15, .inl (fun _ => 0))),
  (ad 40, .inl (cI, 30, .inl (fun _ => 0))),
  (ad 41, .inl (cJ, 90, .inr (.inl (fun _ => 0)))),
  (ad 42, .inr (0, [.ref (ad 43), .int 0, .int 0, .int 0, .ref (ad 44)])),
  (ad 43, .inl (cI, 64, .inl (fun _ => 0))),
  (ad 44, .inl (cI, 6, .inl (fun _ => 0))),
  (ad 45, .inr (2, [.long 0, .long 1])),
  (ad 46, .inr (4, [.ref (ad 0), .ref (ad 14), .ref (ad 28), .int 0, .ref (ad 42), .ref (ad 47), .ref (ad 45), .ref (ad 48), .int 0, .ref (ad 49)])),
  (ad 47, .inr (1, [.ref (ad 0), .ref (ad 14), .int 0])),
  (ad 48, .inl (cI, 12, .inl (fun _ => 0))),
  (ad 49, .inl (cI, 7, .inl (fun _ => 0))),
  (ad 50, .inr (5, [.int 0, .ref (ad 51), .ref (ad 52), .ref (ad 53), .ref (ad 54), .int 0, .ref (ad 55), .ref (ad 56), .ref (ad 57), .ref (ad 58), .ref (ad 59), .ref (ad 60), .ref (ad 61), .ref (ad 87), .ref (ad 62), .int 0, .int 50, .int 0, .int 0, .ref (ad 63), .int 0, .ref (ad 64), .ref (ad 65), .int 0, .ref (ad 66), .ref (ad 67), .ref (ad 68), .ref (ad 69), .int 0, .int (-1), .int 0, .ref (ad 70), .ref (ad 71), .ref (ad 72), .ref (ad 73), .ref (ad 88), .int 0, .int 0, .int 0, .ref (ad 74), .int 0, .int 0, .int 0, .int 0, .int 0, .int 0, .int 0, .ref (ad 75), .ref (ad 76), .ref (ad 77), .ref (ad 78), .ref (ad 79), .ref (ad 80), .ref (ad 81), .ref (ad 82), .ref (ad 83), .ref (ad 84), .ref (ad 85), .ref (ad 86), .ref (ad 89)])),
  (ad 51, .inl (cI, 6, .inl (fun _ => 0))),
  (ad 52, .inl (cI, 6, .inl (fun _ => 0))),
  (ad 53, .inl (cI, 6, .inl (fun _ => 0))),
  (ad 54, .inl (cI, 6, .inl (fun _ => 0))),
  (ad 55, .inl (cI, 5, .inl (fun _ => 0))),
  (ad 56, .inl (cI, 15, .inl (fun _ => 0))),
  (ad 57, .inl (cI, 15, .inl (fun _ => 0))),
  (ad 58, .inl (cI, 5, .inl (fun _ => 0))),
  (ad 59, .inl (cI, 5, .inl (fun _ => 0))),
  (ad 60, .inl (cI, 5, .inl (fun _ => 0))),
  (ad 61, .inl (cI, 5, .inl (fun _ => 0))),
  (ad 62, .inl (cI, 30, .inl (fun _ => 0))),
  (ad 63, .inl (cI, 64, .inl (fun _ => 0))),
  (ad 64, .inl (cI, 12, .inl (fun _ => 0))),
  (ad 65, .inl (cI, 7, .inl (fun _ => 0))),
  (ad 66, .inl (cI, 32, .inl (fun _ => 0))),
  (ad 67, .inl (cI, 32, .inl (fun _ => 0))),
  (ad 68, .inl (cI, 288, .inl (fun _ => 0))),
  (ad 69, .inl (cI, 32, .inl (fun _ => 0))),
  (ad 70, .inl (cI, 5, .inl (fun _ => 0))),
  (ad 71, .inl (cI, 5, .inl (fun _ => 0))),
  (ad 72, .inl (cI, 5, .inl (fun _ => 0))),
  (ad 73, .inl (cI, 6, .inl (fun _ => 0))),
  (ad 74, .inl (cI, 5, .inl (fun _ => 0))),
  (ad 75, .inl (cI, 6, .inl (fun _ => 0))),
  (ad 76, .inl (cI, 6, .inl (fun _ => 0))),
  (ad 77, .inl (cI, 6, .inl (fun _ => 0))),
  (ad 78, .inl (cI, 6, .inl (fun _ => 0))),
  (ad 79, .inl (cI, 5, .inl (fun _ => 0))),
  (ad 80, .inl (cI, 15, .inl (fun _ => 0))),
  (ad 81, .inl (cI, 15, .inl (fun _ => 0))),
  (ad 82, .inl (cI, 5, .inl (fun _ => 0))),
  (ad 83, .inl (cI, 5, .inl (fun _ => 0))),
  (ad 84, .inl (cI, 5, .inl (fun _ => 0))),
  (ad 85, .inl (cI, 5, .inl (fun _ => 0))),
  (ad 86, .inl (cI, 30, .inl (fun _ => 0))),
  (ad 87, .inl (cJ, 90, .inr (.inl (fun _ => 0)))),
  (ad 88, .inl (cJ, 90, .inr (.inl (fun _ => 0)))),
  (ad 89, .inl (cJ, 90, .inr (.inl (fun _ => 0))))] := rfl
/-- what the tables say of arrays -/
theorem ar_known {args : Array Value} {s : State} (ty : FieldType) (hty : ∀ C, ty ≠ .object C) (h : (Cond.arrayClass ty).before args s = true) : ∃ cA : Nat, ArrOfT s cA ty ∧ va_RA s cA ty := by
  obtain ⟨cA, kA, comp, h1, h2, h3⟩ := Cond.arrayClass_spec h
  refine ⟨cA, fun n z => ⟨fun k h => (by cases h), kA, h2, comp, h3⟩, ?_⟩
  cases ty with
  | object C => exact absurd rfl (hty C)
  | _ => exact h1
section LWL
variable {C : ew_C} {X : ew_X} {b N : Nat} {scr : Nat → Int32}
theorem inc5 (i : Nat) : nI i + Int32.ofInt 5 = nI (i + 5) := by rw [show Int32.ofInt 5 = nI 5 by decide, nI_add]
set_option maxHeartbeats 4000000 in
set_option maxRecDepth 100000 in
theorem law_loop (hZ : lw_Zs C X b N scr) (he : ∀ (S : ew_S) (i : Nat), ew_Wl C X 4 S 1098 [(0, .ref b), (1, .ref (X.2.1 46)), (2, .ref (X.2.1 50)), (3, .int (nI (i)))] []) : ∀ (n i : Nat), i ≤ N + 4 → N + 5 ≤ i + n → ∀ (a b' c lt ra xs m : ew_M), Rel a c lt xs m → ew_Wl C X 4 ((a, b', c, lt, ra, xs), m) 18 [(0, .ref b), (1, .ref (X.2.1 46)), (2, .ref (X.2.1 50)), (3, .int (nI (i)))] []
  | 0, i, h1, h2 => absurd h2 (by omega)
  | n + 1, i, h1, h2 => by
    intro a b' c lt ra xs m hR
    obtain ⟨Z, hX, hbl, hbA, hN⟩ := id hZ
    refine ey_iload_n (pc := 18) Z dL_law_18 3 rfl rfl ?_
    refine ey_aload_n (pc := 19) Z dL_law_19 0 rfl rfl ?_
    refine ey_alen (pc := 20) Z hX hbl hbA dL_law_20 ?_
    refine ey_iconst (pc := 21) Z dL_law_21 ec_5 ?_
    refine ey_isub (pc := 22) Z dL_law_22 ?_
    refine ey_icmp_gt (pc := 23) (tgt := 1098) Z dL_law_23 (by decide) (fun _ => he _ i) (fun q => ?_)
    have hi : i + 5 ≤ N := by
      rw [Int32.lt_iff_toInt_lt, show (5 : Int32) = nI 5 from rfl, pk_sub_toInt (by omega) (by omega), nI_toInt (by omega)] at q
      omega
    refine ey_aload_n (pc := 26) Z dL_law_26 0 rfl rfl ?_
    refine ey_iload_n (pc := 27) Z dL_law_27 3 rfl rfl ?_
    refine ey_iald (pc := 28) (i := i) Z hX hbl hbA (by omega) (by omega) dL_law_28 ?_
    refine ey_bipush (pc := 29) Z dL_law_29 eb_31 ?_
    refine ey_iand (pc := 31) Z dL_law_31 ?_
    have K : lw_K C X b i := fun a b' c lt ra xs m h => by
      refine ey_iinc (pc := 1092) (v := nI (i + 5)) (L' := [(3, .int (nI (i + 5))), (0, .ref b), (1, .ref (X.2.1 46)), (2, .ref (X.2.1 50))]) Z dL_law_1092 3 rfl (inc5 i) (by decide) rfl ?_
      refine ey_goto (pc := 1095) (tgt := 18) Z dL_law_1095 (by decide) ?_
      refine ey_sub [(0, .ref b), (1, .ref (X.2.1 46)), (2, .ref (X.2.1 50)), (3, .int (nI (i + 5)))] [1, 2, 3, 0] rfl ?_
      exact law_loop hZ he n (i + 5) (by omega) (by omega) a b' c lt ra xs m h
    rcases few (n := 29) (by decide) (scr i &&& 31) with ⟨k, hk, e⟩ | h
    · rcases (show k = 0 ∨ k = 1 ∨ k = 2 ∨ k = 3 ∨ k = 4 ∨ k = 5 ∨ k = 6 ∨ k = 7 ∨ k = 8 ∨ k = 9 ∨ k = 10 ∨ k = 11 ∨ k = 12 ∨ k = 13 ∨ k = 14 ∨ k = 15 ∨ k = 16 ∨ k = 17 ∨ k = 18 ∨ k = 19 ∨ k = 20 ∨ k = 21 ∨ k = 22 ∨ k = 23 ∨ k = 24 ∨ k = 25 ∨ k = 26 ∨ k = 27 ∨ k = 28 ∨ k = 29 by omega) with rfl | rfl | rfl | rfl | rfl | rfl | rfl | rfl | rfl | rfl | rfl | rfl | rfl | rfl | rfl | rfl | rfl | rfl | rfl | rfl | rfl | rfl | rfl | rfl | rfl | rfl | rfl | rfl | rfl | rfl
      · exact ey_tabI (pc := 32) (off := 136) (tgt := 168) Z dL_law_32 (nI 0) e (by decide) (by decide) (by decide) (by decide) (lc_0 hZ hi K hR)
      · exact ey_tabI (pc := 32) (off := 159) (tgt := 191) Z dL_law_32 (nI 1) e (by decide) (by decide) (by decide) (by decide) (lc_1 hZ hi K hR)
      · exact ey_tabI (pc := 32) (off := 172) (tgt := 204) Z dL_law_32 (nI 2) e (by decide) (by decide) (by decide) (by decide) (lc_2 hZ hi K hR)
      · exact ey_tabI (pc := 32) (off := 205) (tgt := 237) Z dL_law_32 (nI 3) e (by decide) (by decide) (by decide) (by decide) (lc_3 hZ hi K hR)
      · exact ey_tabI (pc := 32) (off := 238) (tgt := 270) Z dL_law_32 (nI 4) e (by decide) (by decide) (by decide) (by decide) (lc_4 hZ hi K hR)
      · exact ey_tabI (pc := 32) (off := 271) (tgt := 303) Z dL_law_32 (nI 5) e (by decide) (by decide) (by decide) (by decide) (lc_5 hZ hi K hR)
      · exact ey_tabI (pc := 32) (off := 304) (tgt := 336) Z dL_law_32 (nI 6) e (by decide) (by decide) (by decide) (by decide) (lc_6 hZ hi K hR)
      · exact ey_tabI (pc := 32) (off := 327) (tgt := 359) Z dL_law_32 (nI 7) e (by decide) (by decide) (by decide) (by decide) (lc_7 hZ hi K hR)
      · exact ey_tabI (pc := 32) (off := 360) (tgt := 392) Z dL_law_32 (nI 8) e (by decide) (by decide) (by decide) (by decide) (lc_8 hZ hi K hR)
      · exact ey_tabI (pc := 32) (off := 403) (tgt := 435) Z dL_law_32 (nI 9) e (by decide) (by decide) (by decide) (by decide) (lc_9 hZ hi K hR)
      · exact ey_tabI (pc := 32) (off := 447) (tgt := 479) Z dL_law_32 (nI 10) e (by decide) (by decide) (by decide) (by decide) (lc_10 hZ hi K hR)
      · exact ey_tabI (pc := 32) (off := 491) (tgt := 523) Z dL_law_32 (nI 11) e (by decide) (by decide) (by decide) (by decide) (lc_11 hZ hi K hR)
      · exact ey_tabI (pc := 32) (off := 514) (tgt := 546) Z dL_law_32 (nI 12) e (by decide) (by decide) (by decide) (by decide) (lc_12 hZ hi K hR)
      · exact ey_tabI (pc := 32) (off := 537) (tgt := 569) Z dL_law_32 (nI 13) e (by decide) (by decide) (by decide) (by decide) (lc_13 hZ hi K hR)
      · exact ey_tabI (pc := 32) (off := 560) (tgt := 592) Z dL_law_32 (nI 14) e (by decide) (by decide) (by decide) (by decide) (lc_14 hZ hi K hR)
      · exact ey_tabI (pc := 32) (off := 603) (tgt := 635) Z dL_law_32 (nI 15) e (by decide) (by decide) (by decide) (by decide) (lc_15 hZ hi K hR)
      · exact ey_tabI (pc := 32) (off := 657) (tgt := 689) Z dL_law_32 (nI 16) e (by decide) (by decide) (by decide) (by decide) (lc_16 hZ hi K hR)
      · exact ey_tabI (pc := 32) (off := 680) (tgt := 712) Z dL_law_32 (nI 17) e (by decide) (by decide) (by decide) (by decide) (lc_17 hZ hi K hR)
      · exact ey_tabI (pc := 32) (off := 703) (tgt := 735) Z dL_law_32 (nI 18) e (by decide) (by decide) (by decide) (by decide) (lc_18 hZ hi K hR)
      · exact ey_tabI (pc := 32) (off := 726) (tgt := 758) Z dL_law_32 (nI 19) e (by decide) (by decide) (by decide) (by decide) (lc_19 hZ hi K hR)
      · exact ey_tabI (pc := 32) (off := 769) (tgt := 801) Z dL_law_32 (nI 20) e (by decide) (by decide) (by decide) (by decide) (lc_20 hZ hi K hR)
      · exact ey_tabI (pc := 32) (off := 812) (tgt := 844) Z dL_law_32 (nI 21) e (by decide) (by decide) (by decide) (by decide) (lc_21 hZ hi K hR)
      · exact ey_tabI (pc := 32) (off := 866) (tgt := 898) Z dL_law_32 (nI 22) e (by decide) (by decide) (by decide) (by decide) (lc_22 hZ hi K hR)
      · exact ey_tabI (pc := 32) (off := 909) (tgt := 941) Z dL_law_32 (nI 23) e (by decide) (by decide) (by decide) (by decide) (lc_23 hZ hi K hR)
      · exact ey_tabI (pc := 32) (off := 932) (tgt := 964) Z dL_law_32 (nI 24) e (by decide) (by decide) (by decide) (by decide) (lc_24 hZ hi K hR)
      · exact ey_tabI (pc := 32) (off := 965) (tgt := 997) Z dL_law_32 (nI 25) e (by decide) (by decide) (by decide) (by decide) (lc_25 hZ hi K hR)
      · exact ey_tabI (pc := 32) (off := 988) (tgt := 1020) Z dL_law_32 (nI 26) e (by decide) (by decide) (by decide) (by decide) (lc_26 hZ hi K hR)
      · exact ey_tabI (pc := 32) (off := 1011) (tgt := 1043) Z dL_law_32 (nI 27) e (by decide) (by decide) (by decide) (by decide) (lc_27 hZ hi K hR)
      · exact ey_tabI (pc := 32) (off := 1024) (tgt := 1056) Z dL_law_32 (nI 28) e (by decide) (by decide) (by decide) (by decide) (lc_28 hZ hi K hR)
      · exact ey_tabI (pc := 32) (off := 1037) (tgt := 1069) Z dL_law_32 (nI 29) e (by decide) (by decide) (by decide) (by decide) (lc_29 hZ hi K hR)
    · refine ey_tabO (pc := 32) (tgt := 1092) Z dL_law_32 ?_ (by decide) (K _ _ _ _ _ _ _ hR)
      rcases h with h | h
      · exact Or.inl (Int32.lt_iff_toInt_lt.mp h)
      · exact Or.inr (Int32.lt_iff_toInt_lt.mp (Int32.not_le.mp h))
end LWL
