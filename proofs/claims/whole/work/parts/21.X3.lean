theorem inX3_become : ∀ w ∈ wsX30, w ∈ wsX3_become := fun _ h => List.mem_cons_of_mem _ (List.mem_append_right _ (h))
theorem hdX3_become : yX3_become.cls = RX3 ∧ yX3_become.cls ≠ "java/lang/invoke/MethodHandle" ∧ yX3_become.cls ≠ "java/lang/invoke/VarHandle" ∧ (parseMethodDescriptor yX3_become.desc).map (fun d => d.parameters.length) = some 1 := by decide +kernel
def wX3_become (Q : ew_M → Prop) (s1 : ew_M) (s2 : ew_M) : Prop := Q s2
set_option maxHeartbeats 4000000 in
set_option maxRecDepth 100000 in
theorem kX3_become {X : ew_X} {l : Launch} (hX : ew_Ap X) {b1 b2 : Nat} {E : ew_M → ew_M → ew_S} (hE1 : ∀ (x2 : ew_M), ew_GE X b1 (ew_GT X.2.1 b1) (fun M => E M x2)) (hE2 : ∀ (x1 : ew_M), ew_GE X b2 (ew_GT X.2.1 b2) (fun M => E x1 M)) {Q : ew_M → Prop} {s1 : ew_M} {s2 : ew_M} (h : wX3_become Q s1 s2) : Met l yX3_become wsX3_become ({ frames := 1, cells := 0, slots := 0, locals := 18 } : Room) (va_Pc [.ref (X.2.1 b1), .ref (X.2.1 b2)] (ew_wd X (E s1 s2))) (va_Qv (fun (u : ew_M) => Q u) (fun (u : ew_M) => ew_wd X ((fun (u : ew_M) => E u s2) u)) X.2.2.1) 0 0 X.2.2.1 := by
  refine ew_met (As := [.ref (X.2.1 b1), .ref (X.2.1 b2)]) (L0 := [(0, .ref (X.2.1 b1)), (1, .ref (X.2.1 b2))]) X l hX (by decide) rfl rfl rfl rfl (fun C hl Z hR => ?_)
  subst hl
  refine ez_aload_n (pc := 0) Z dX3_become_0 0 rfl rfl ?_
  refine ez_aload_n (pc := 1) Z dX3_become_1 1 rfl rfl ?_
  refine fX3_persons (pc := 2) (v := s2.1 0) Z (hE2 s1) rfl inX3_become (List.mem_of_getElem? (i := 1) rfl) dX3_become_2 ?_
  refine pX3_persons (pc := 5) (M := s1) (M' := ew_sI s1 0 (s2.1 0)) Z (hE1 s2) rfl inX3_become (List.mem_of_getElem? (i := 1) rfl) dX3_become_5 ?_
  refine ez_aload_n (pc := 8) Z dX3_become_8 0 rfl rfl ?_
  refine ez_aload_n (pc := 9) Z dX3_become_9 1 rfl rfl ?_
  refine fX3_papers (pc := 10) (v := s2.1 1) Z (hE2 (ew_sI s1 0 (s2.1 0))) rfl inX3_become (List.mem_of_getElem? (i := 2) rfl) dX3_become_10 ?_
  refine pX3_papers (pc := 13) (M := ew_sI s1 0 (s2.1 0)) (M' := ew_sI (ew_sI s1 0 (s2.1 0)) 1 (s2.1 1)) Z (hE1 s2) rfl inX3_become (List.mem_of_getElem? (i := 2) rfl) dX3_become_13 ?_
  refine ez_aload_n (pc := 16) Z dX3_become_16 0 rfl rfl ?_
  refine ez_aload_n (pc := 17) Z dX3_become_17 1 rfl rfl ?_
  refine fX3_ruling (pc := 18) (v := s2.1 2) Z (hE2 (ew_sI (ew_sI s1 0 (s2.1 0)) 1 (s2.1 1))) rfl inX3_become (List.mem_of_getElem? (i := 3) rfl) dX3_become_18 ?_
  refine pX3_ruling (pc := 21) (M := ew_sI (ew_sI s1 0 (s2.1 0)) 1 (s2.1 1)) (M' := ew_sI (ew_sI (ew_sI s1 0 (s2.1 0)) 1 (s2.1 1)) 2 (s2.1 2)) Z (hE1 s2) rfl inX3_become (List.mem_of_getElem? (i := 3) rfl) dX3_become_21 ?_
  refine ez_aload_n (pc := 24) Z dX3_become_24 0 rfl rfl ?_
  refine ez_aload_n (pc := 25) Z dX3_become_25 1 rfl rfl ?_
  refine fX3_clerk (pc := 26) (v := s2.1 3) Z (hE2 (ew_sI (ew_sI (ew_sI s1 0 (s2.1 0)) 1 (s2.1 1)) 2 (s2.1 2))) rfl inX3_become (List.mem_of_getElem? (i := 4) rfl) dX3_become_26 ?_
  refine pX3_clerk (pc := 29) (M := ew_sI (ew_sI (ew_sI s1 0 (s2.1 0)) 1 (s2.1 1)) 2 (s2.1 2)) (M' := ew_sI (ew_sI (ew_sI (ew_sI s1 0 (s2.1 0)) 1 (s2.1 1)) 2 (s2.1 2)) 3 (s2.1 3)) Z (hE1 s2) rfl inX3_become (List.mem_of_getElem? (i := 4) rfl) dX3_become_29 ?_
  refine ez_aload_n (pc := 32) Z dX3_become_32 0 rfl rfl ?_
  refine ez_aload_n (pc := 33) Z dX3_become_33 1 rfl rfl ?_
  refine fX3_week (pc := 34) (v := s2.1 4) Z (hE2 (ew_sI (ew_sI (ew_sI (ew_sI s1 0 (s2.1 0)) 1 (s2.1 1)) 2 (s2.1 2)) 3 (s2.1 3))) rfl inX3_become (List.mem_of_getElem? (i := 5) rfl) dX3_become_34 ?_
  refine pX3_week (pc := 37) (M := ew_sI (ew_sI (ew_sI (ew_sI s1 0 (s2.1 0)) 1 (s2.1 1)) 2 (s2.1 2)) 3 (s2.1 3)) (M' := ew_sI (ew_sI (ew_sI (ew_sI (ew_sI s1 0 (s2.1 0)) 1 (s2.1 1)) 2 (s2.1 2)) 3 (s2.1 3)) 4 (s2.1 4)) Z (hE1 s2) rfl inX3_become (List.mem_of_getElem? (i := 5) rfl) dX3_become_37 ?_
  refine ez_aload_n (pc := 40) Z dX3_become_40 1 rfl rfl ?_
  refine fX3_kind (pc := 41) (M := s2) Z (hE2 (ew_sI (ew_sI (ew_sI (ew_sI (ew_sI s1 0 (s2.1 0)) 1 (s2.1 1)) 2 (s2.1 2)) 3 (s2.1 3)) 4 (s2.1 4))) inX3_become (List.mem_of_getElem? (i := 6) rfl) dX3_become_41 ?_
  refine ez_iconst (pc := 44) Z dX3_become_44 ec_0 ?_
  refine ez_aload_n (pc := 45) Z dX3_become_45 0 rfl rfl ?_
  refine fX3_kind (pc := 46) (M := ew_sI (ew_sI (ew_sI (ew_sI (ew_sI s1 0 (s2.1 0)) 1 (s2.1 1)) 2 (s2.1 2)) 3 (s2.1 3)) 4 (s2.1 4)) Z (hE1 s2) inX3_become (List.mem_of_getElem? (i := 6) rfl) dX3_become_46 ?_
  refine ez_iconst (pc := 49) Z dX3_become_49 ec_0 ?_
  refine ez_bipush (pc := 50) Z dX3_become_50 eb_6 ?_
  refine ez_copyi (pc := 52) (n := 6) (a := 0) (a2 := 0) (M := ew_sI (ew_sI (ew_sI (ew_sI (ew_sI s1 0 (s2.1 0)) 1 (s2.1 1)) 2 (s2.1 2)) 3 (s2.1 3)) 4 (s2.1 4)) (M2 := s2) (M' := ((ew_sI (ew_sI (ew_sI (ew_sI (ew_sI s1 0 (s2.1 0)) 1 (s2.1 1)) 2 (s2.1 2)) 3 (s2.1 3)) 4 (s2.1 4)).1, (fun k => if k = 0 then s2.2.1 0 else (ew_sI (ew_sI (ew_sI (ew_sI (ew_sI s1 0 (s2.1 0)) 1 (s2.1 1)) 2 (s2.1 2)) 3 (s2.1 3)) 4 (s2.1 4)).2.1 k), (ew_sI (ew_sI (ew_sI (ew_sI (ew_sI s1 0 (s2.1 0)) 1 (s2.1 1)) 2 (s2.1 2)) 3 (s2.1 3)) 4 (s2.1 4)).2.2)) Z (hE1 s2) (hE2 (ew_sI (ew_sI (ew_sI (ew_sI (ew_sI s1 0 (s2.1 0)) 1 (s2.1 1)) 2 (s2.1 2)) 3 (s2.1 3)) 4 (s2.1 4))) rfl 1 1 rfl (by decide : 0 < 12) rfl rfl (by decide : 0 < 12) rfl ek_6 (by decide) rfl (List.mem_of_getElem? (i := 7) rfl) (List.mem_of_getElem? (i := 8) rfl) (List.mem_of_getElem? (i := 9) rfl) (List.mem_of_getElem? (i := 10) rfl) (by decide) (by decide) dX3_become_52 ?_
  refine ez_nm (E := (fun M => E M s2)) (fun z1 ez1 => ?_)
  refine ez_aload_n (pc := 55) Z dX3_become_55 1 rfl rfl ?_
  refine fX3_bar (pc := 56) (M := s2) Z (hE2 z1) inX3_become (List.mem_of_getElem? (i := 11) rfl) dX3_become_56 ?_
  refine ez_iconst (pc := 59) Z dX3_become_59 ec_0 ?_
  refine ez_aload_n (pc := 60) Z dX3_become_60 0 rfl rfl ?_
  refine fX3_bar (pc := 61) (M := z1) Z (hE1 s2) inX3_become (List.mem_of_getElem? (i := 11) rfl) dX3_become_61 ?_
  refine ez_iconst (pc := 64) Z dX3_become_64 ec_0 ?_
  refine ez_bipush (pc := 65) Z dX3_become_65 eb_6 ?_
  refine ez_copyi (pc := 67) (n := 6) (a := 1) (a2 := 1) (M := z1) (M2 := s2) (M' := (z1.1, (fun k => if k = 1 then s2.2.1 1 else z1.2.1 k), z1.2.2)) Z (hE1 s2) (hE2 z1) rfl 2 2 rfl (by decide : 1 < 12) rfl rfl (by decide : 1 < 12) rfl ek_6 (by decide) rfl (List.mem_of_getElem? (i := 7) rfl) (List.mem_of_getElem? (i := 8) rfl) (List.mem_of_getElem? (i := 9) rfl) (List.mem_of_getElem? (i := 10) rfl) (by decide) (by decide) dX3_become_67 ?_
  refine ez_nm (E := (fun M => E M s2)) (fun z2 ez2 => ?_)
  refine ez_aload_n (pc := 70) Z dX3_become_70 1 rfl rfl ?_
  refine fX3_patience (pc := 71) (M := s2) Z (hE2 z2) inX3_become (List.mem_of_getElem? (i := 12) rfl) dX3_become_71 ?_
  refine ez_iconst (pc := 74) Z dX3_become_74 ec_0 ?_
  refine ez_aload_n (pc := 75) Z dX3_become_75 0 rfl rfl ?_
  refine fX3_patience (pc := 76) (M := z2) Z (hE1 s2) inX3_become (List.mem_of_getElem? (i := 12) rfl) dX3_become_76 ?_
  refine ez_iconst (pc := 79) Z dX3_become_79 ec_0 ?_
  refine ez_bipush (pc := 80) Z dX3_become_80 eb_6 ?_
  refine ez_copyi (pc := 82) (n := 6) (a := 2) (a2 := 2) (M := z2) (M2 := s2) (M' := (z2.1, (fun k => if k = 2 then s2.2.1 2 else z2.2.1 k), z2.2.2)) Z (hE1 s2) (hE2 z2) rfl 3 3 rfl (by decide : 2 < 12) rfl rfl (by decide : 2 < 12) rfl ek_6 (by decide) rfl (List.mem_of_getElem? (i := 7) rfl) (List.mem_of_getElem? (i := 8) rfl) (List.mem_of_getElem? (i := 9) rfl) (List.mem_of_getElem? (i := 10) rfl) (by decide) (by decide) dX3_become_82 ?_
  refine ez_nm (E := (fun M => E M s2)) (fun z3 ez3 => ?_)
  refine ez_aload_n (pc := 85) Z dX3_become_85 1 rfl rfl ?_
  refine fX3_gained (pc := 86) (M := s2) Z (hE2 z3) inX3_become (List.mem_of_getElem? (i := 13) rfl) dX3_become_86 ?_
  refine ez_iconst (pc := 89) Z dX3_become_89 ec_0 ?_
  refine ez_aload_n (pc := 90) Z dX3_become_90 0 rfl rfl ?_
  refine fX3_gained (pc := 91) (M := z3) Z (hE1 s2) inX3_become (List.mem_of_getElem? (i := 13) rfl) dX3_become_91 ?_
  refine ez_iconst (pc := 94) Z dX3_become_94 ec_0 ?_
  refine ez_bipush (pc := 95) Z dX3_become_95 eb_6 ?_
  refine ez_copyi (pc := 97) (n := 6) (a := 3) (a2 := 3) (M := z3) (M2 := s2) (M' := (z3.1, (fun k => if k = 3 then s2.2.1 3 else z3.2.1 k), z3.2.2)) Z (hE1 s2) (hE2 z3) rfl 4 4 rfl (by decide : 3 < 12) rfl rfl (by decide : 3 < 12) rfl ek_6 (by decide) rfl (List.mem_of_getElem? (i := 7) rfl) (List.mem_of_getElem? (i := 8) rfl) (List.mem_of_getElem? (i := 9) rfl) (List.mem_of_getElem? (i := 10) rfl) (by decide) (by decide) dX3_become_97 ?_
  refine ez_nm (E := (fun M => E M s2)) (fun z4 ez4 => ?_)
  refine ez_aload_n (pc := 100) Z dX3_become_100 1 rfl rfl ?_
  refine fX3_bound (pc := 101) (M := s2) Z (hE2 z4) inX3_become (List.mem_of_getElem? (i := 14) rfl) dX3_become_101 ?_
  refine ez_iconst (pc := 104) Z dX3_become_104 ec_0 ?_
  refine ez_aload_n (pc := 105) Z dX3_become_105 0 rfl rfl ?_
  refine fX3_bound (pc := 106) (M := z4) Z (hE1 s2) inX3_become (List.mem_of_getElem? (i := 14) rfl) dX3_become_106 ?_
  refine ez_iconst (pc := 109) Z dX3_become_109 ec_0 ?_
  refine ez_iconst (pc := 110) Z dX3_become_110 ec_5 ?_
  refine ez_copyi (pc := 111) (n := 5) (a := 4) (a2 := 4) (M := z4) (M2 := s2) (M' := (z4.1, (fun k => if k = 4 then s2.2.1 4 else z4.2.1 k), z4.2.2)) Z (hE1 s2) (hE2 z4) rfl 5 5 rfl (by decide : 4 < 12) rfl rfl (by decide : 4 < 12) rfl ek_5 (by decide) rfl (List.mem_of_getElem? (i := 7) rfl) (List.mem_of_getElem? (i := 8) rfl) (List.mem_of_getElem? (i := 9) rfl) (List.mem_of_getElem? (i := 10) rfl) (by decide) (by decide) dX3_become_111 ?_
  refine ez_nm (E := (fun M => E M s2)) (fun z5 ez5 => ?_)
  refine ez_aload_n (pc := 114) Z dX3_become_114 1 rfl rfl ?_
  refine fX3_readers (pc := 115) (M := s2) Z (hE2 z5) inX3_become (List.mem_of_getElem? (i := 15) rfl) dX3_become_115 ?_
  refine ez_iconst (pc := 118) Z dX3_become_118 ec_0 ?_
  refine ez_aload_n (pc := 119) Z dX3_become_119 0 rfl rfl ?_
  refine fX3_readers (pc := 120) (M := z5) Z (hE1 s2) inX3_become (List.mem_of_getElem? (i := 15) rfl) dX3_become_120 ?_
  refine ez_iconst (pc := 123) Z dX3_become_123 ec_0 ?_
  refine ez_iconst (pc := 124) Z dX3_become_124 ec_5 ?_
  refine ez_copyi (pc := 125) (n := 5) (a := 5) (a2 := 5) (M := z5) (M2 := s2) (M' := (z5.1, (fun k => if k = 5 then s2.2.1 5 else z5.2.1 k), z5.2.2)) Z (hE1 s2) (hE2 z5) rfl 6 6 rfl (by decide : 5 < 12) rfl rfl (by decide : 5 < 12) rfl ek_5 (by decide) rfl (List.mem_of_getElem? (i := 7) rfl) (List.mem_of_getElem? (i := 8) rfl) (List.mem_of_getElem? (i := 9) rfl) (List.mem_of_getElem? (i := 10) rfl) (by decide) (by decide) dX3_become_125 ?_
  refine ez_nm (E := (fun M => E M s2)) (fun z6 ez6 => ?_)
  refine ez_aload_n (pc := 128) Z dX3_become_128 1 rfl rfl ?_
  refine fX3_sayers (pc := 129) (M := s2) Z (hE2 z6) inX3_become (List.mem_of_getElem? (i := 16) rfl) dX3_become_129 ?_
  refine ez_iconst (pc := 132) Z dX3_become_132 ec_0 ?_
  refine ez_aload_n (pc := 133) Z dX3_become_133 0 rfl rfl ?_
  refine fX3_sayers (pc := 134) (M := z6) Z (hE1 s2) inX3_become (List.mem_of_getElem? (i := 16) rfl) dX3_become_134 ?_
  refine ez_iconst (pc := 137) Z dX3_become_137 ec_0 ?_
  refine ez_iconst (pc := 138) Z dX3_become_138 ec_5 ?_
  refine ez_copyi (pc := 139) (n := 5) (a := 6) (a2 := 6) (M := z6) (M2 := s2) (M' := (z6.1, (fun k => if k = 6 then s2.2.1 6 else z6.2.1 k), z6.2.2)) Z (hE1 s2) (hE2 z6) rfl 7 7 rfl (by decide : 6 < 12) rfl rfl (by decide : 6 < 12) rfl ek_5 (by decide) rfl (List.mem_of_getElem? (i := 7) rfl) (List.mem_of_getElem? (i := 8) rfl) (List.mem_of_getElem? (i := 9) rfl) (List.mem_of_getElem? (i := 10) rfl) (by decide) (by decide) dX3_become_139 ?_
  refine ez_nm (E := (fun M => E M s2)) (fun z7 ez7 => ?_)
  refine ez_aload_n (pc := 142) Z dX3_become_142 1 rfl rfl ?_
  refine fX3_trueThing (pc := 143) (M := s2) Z (hE2 z7) inX3_become (List.mem_of_getElem? (i := 17) rfl) dX3_become_143 ?_
  refine ez_iconst (pc := 146) Z dX3_become_146 ec_0 ?_
  refine ez_aload_n (pc := 147) Z dX3_become_147 0 rfl rfl ?_
  refine fX3_trueThing (pc := 148) (M := z7) Z (hE1 s2) inX3_become (List.mem_of_getElem? (i := 17) rfl) dX3_become_148 ?_
  refine ez_iconst (pc := 151) Z dX3_become_151 ec_0 ?_
  refine ez_iconst (pc := 152) Z dX3_become_152 ec_5 ?_
  refine ez_copyi (pc := 153) (n := 5) (a := 7) (a2 := 7) (M := z7) (M2 := s2) (M' := (z7.1, (fun k => if k = 7 then s2.2.1 7 else z7.2.1 k), z7.2.2)) Z (hE1 s2) (hE2 z7) rfl 8 8 rfl (by decide : 7 < 12) rfl rfl (by decide : 7 < 12) rfl ek_5 (by decide) rfl (List.mem_of_getElem? (i := 7) rfl) (List.mem_of_getElem? (i := 8) rfl) (List.mem_of_getElem? (i := 9) rfl) (List.mem_of_getElem? (i := 10) rfl) (by decide) (by decide) dX3_become_153 ?_
  refine ez_nm (E := (fun M => E M s2)) (fun z8 ez8 => ?_)
  refine ez_aload_n (pc := 156) Z dX3_become_156 1 rfl rfl ?_
  refine fX3_lasted (pc := 157) (M := s2) Z (hE2 z8) inX3_become (List.mem_of_getElem? (i := 18) rfl) dX3_become_157 ?_
  refine ez_iconst (pc := 160) Z dX3_become_160 ec_0 ?_
  refine ez_aload_n (pc := 161) Z dX3_become_161 0 rfl rfl ?_
  refine fX3_lasted (pc := 162) (M := z8) Z (hE1 s2) inX3_become (List.mem_of_getElem? (i := 18) rfl) dX3_become_162 ?_
  refine ez_iconst (pc := 165) Z dX3_become_165 ec_0 ?_
  refine ez_iconst (pc := 166) Z dX3_become_166 ec_5 ?_
  refine ez_copyi (pc := 167) (n := 5) (a := 8) (a2 := 8) (M := z8) (M2 := s2) (M' := (z8.1, (fun k => if k = 8 then s2.2.1 8 else z8.2.1 k), z8.2.2)) Z (hE1 s2) (hE2 z8) rfl 9 9 rfl (by decide : 8 < 12) rfl rfl (by decide : 8 < 12) rfl ek_5 (by decide) rfl (List.mem_of_getElem? (i := 7) rfl) (List.mem_of_getElem? (i := 8) rfl) (List.mem_of_getElem? (i := 9) rfl) (List.mem_of_getElem? (i := 10) rfl) (by decide) (by decide) dX3_become_167 ?_
  refine ez_nm (E := (fun M => E M s2)) (fun z9 ez9 => ?_)
  refine ez_aload_n (pc := 170) Z dX3_become_170 1 rfl rfl ?_
  refine fX3_hundredths (pc := 171) (M := s2) Z (hE2 z9) inX3_become (List.mem_of_getElem? (i := 19) rfl) dX3_become_171 ?_
  refine ez_iconst (pc := 174) Z dX3_become_174 ec_0 ?_
  refine ez_aload_n (pc := 175) Z dX3_become_175 0 rfl rfl ?_
  refine fX3_hundredths (pc := 176) (M := z9) Z (hE1 s2) inX3_become (List.mem_of_getElem? (i := 19) rfl) dX3_become_176 ?_
  refine ez_iconst (pc := 179) Z dX3_become_179 ec_0 ?_
  refine ez_bipush (pc := 180) Z dX3_become_180 eb_15 ?_
  refine ez_copyi (pc := 182) (n := 15) (a := 9) (a2 := 9) (M := z9) (M2 := s2) (M' := (z9.1, (fun k => if k = 9 then s2.2.1 9 else z9.2.1 k), z9.2.2)) Z (hE1 s2) (hE2 z9) rfl 10 10 rfl (by decide : 9 < 12) rfl rfl (by decide : 9 < 12) rfl ek_15 (by decide) rfl (List.mem_of_getElem? (i := 7) rfl) (List.mem_of_getElem? (i := 8) rfl) (List.mem_of_getElem? (i := 9) rfl) (List.mem_of_getElem? (i := 10) rfl) (by decide) (by decide) dX3_become_182 ?_
  refine ez_nm (E := (fun M => E M s2)) (fun z10 ez10 => ?_)
  refine ez_aload_n (pc := 185) Z dX3_become_185 1 rfl rfl ?_
  refine fX3_gains (pc := 186) (M := s2) Z (hE2 z10) inX3_become (List.mem_of_getElem? (i := 20) rfl) dX3_become_186 ?_
  refine ez_iconst (pc := 189) Z dX3_become_189 ec_0 ?_
  refine ez_aload_n (pc := 190) Z dX3_become_190 0 rfl rfl ?_
  refine fX3_gains (pc := 191) (M := z10) Z (hE1 s2) inX3_become (List.mem_of_getElem? (i := 20) rfl) dX3_become_191 ?_
  refine ez_iconst (pc := 194) Z dX3_become_194 ec_0 ?_
  refine ez_bipush (pc := 195) Z dX3_become_195 eb_15 ?_
  refine ez_copyi (pc := 197) (n := 15) (a := 10) (a2 := 10) (M := z10) (M2 := s2) (M' := (z10.1, (fun k => if k = 10 then s2.2.1 10 else z10.2.1 k), z10.2.2)) Z (hE1 s2) (hE2 z10) rfl 11 11 rfl (by decide : 10 < 12) rfl rfl (by decide : 10 < 12) rfl ek_15 (by decide) rfl (List.mem_of_getElem? (i := 7) rfl) (List.mem_of_getElem? (i := 8) rfl) (List.mem_of_getElem? (i := 9) rfl) (List.mem_of_getElem? (i := 10) rfl) (by decide) (by decide) dX3_become_197 ?_
  refine ez_nm (E := (fun M => E M s2)) (fun z11 ez11 => ?_)
  refine ez_aload_n (pc := 200) Z dX3_become_200 1 rfl rfl ?_
  refine fX3_heard (pc := 201) (M := s2) Z (hE2 z11) inX3_become (List.mem_of_getElem? (i := 21) rfl) dX3_become_201 ?_
  refine ez_iconst (pc := 204) Z dX3_become_204 ec_0 ?_
  refine ez_aload_n (pc := 205) Z dX3_become_205 0 rfl rfl ?_
  refine fX3_heard (pc := 206) (M := z11) Z (hE1 s2) inX3_become (List.mem_of_getElem? (i := 21) rfl) dX3_become_206 ?_
  refine ez_iconst (pc := 209) Z dX3_become_209 ec_0 ?_
  refine ez_bipush (pc := 210) Z dX3_become_210 eb_30 ?_
  refine ez_copyi (pc := 212) (n := 30) (a := 11) (a2 := 11) (M := z11) (M2 := s2) (M' := (z11.1, (fun k => if k = 11 then s2.2.1 11 else z11.2.1 k), z11.2.2)) Z (hE1 s2) (hE2 z11) rfl 12 12 rfl (by decide : 11 < 12) rfl rfl (by decide : 11 < 12) rfl ek_30 (by decide) rfl (List.mem_of_getElem? (i := 7) rfl) (List.mem_of_getElem? (i := 8) rfl) (List.mem_of_getElem? (i := 9) rfl) (List.mem_of_getElem? (i := 10) rfl) (by decide) (by decide) dX3_become_212 ?_
  refine ez_nm (E := (fun M => E M s2)) (fun z12 ez12 => ?_)
  refine ez_aload_n (pc := 215) Z dX3_become_215 1 rfl rfl ?_
  refine fX3_weights (pc := 216) (M := s2) Z (hE2 z12) inX3_become (List.mem_of_getElem? (i := 22) rfl) dX3_become_216 ?_
  refine ez_iconst (pc := 219) Z dX3_become_219 ec_0 ?_
  refine ez_aload_n (pc := 220) Z dX3_become_220 0 rfl rfl ?_
  refine fX3_weights (pc := 221) (M := z12) Z (hE1 s2) inX3_become (List.mem_of_getElem? (i := 22) rfl) dX3_become_221 ?_
  refine ez_iconst (pc := 224) Z dX3_become_224 ec_0 ?_
  refine ez_bipush (pc := 225) Z dX3_become_225 eb_90 ?_
  refine ez_copyl (pc := 227) (n := 90) (a := 0) (a2 := 0) (M := z12) (M2 := s2) (M' := (z12.1, z12.2.1, (fun k => if k = 0 then s2.2.2 0 else z12.2.2 k))) Z (hE1 s2) (hE2 z12) rfl 13 13 rfl (by decide : 0 < 1) rfl rfl (by decide : 0 < 1) rfl (fun _ _ _ => rfl) ek_90 (by decide) rfl (List.mem_of_getElem? (i := 7) rfl) (List.mem_of_getElem? (i := 8) rfl) (List.mem_of_getElem? (i := 9) rfl) (List.mem_of_getElem? (i := 10) rfl) (by decide) (by decide) dX3_become_227 ?_
  refine ez_nm (E := (fun M => E M s2)) (fun z13 ez13 => ?_)
  subst ez1 ez2 ez3 ez4 ez5 ez6 ez7 ez8 ez9 ez10 ez11 ez12 ez13
  refine ez_cs (ew_csT (M' := s2) (hE1 s2) (fun i hi => ?_) (fun i hi => ?_) rfl) ?_
  · rcases (show i = 0 ∨ i = 1 ∨ i = 2 ∨ i = 3 ∨ i = 4 by omega) with rfl | rfl | rfl | rfl | rfl <;> rfl
  · rcases (show i = 0 ∨ i = 1 ∨ i = 2 ∨ i = 3 ∨ i = 4 ∨ i = 5 ∨ i = 6 ∨ i = 7 ∨ i = 8 ∨ i = 9 ∨ i = 10 ∨ i = 11 by omega) with rfl | rfl | rfl | rfl | rfl | rfl | rfl | rfl | rfl | rfl | rfl | rfl <;> rfl
  exact ez_vret (pc := 230) Z hR s2 h rfl dX3_become_230
theorem inX3_takesPerson : ∀ w ∈ wsX30, w ∈ wsX3_takesPerson := fun _ h => List.mem_cons_of_mem _ (List.mem_append_right _ (h))
theorem hdX3_takesPerson : yX3_takesPerson.cls = RX3 ∧ yX3_takesPerson.cls ≠ "java/lang/invoke/MethodHandle" ∧ yX3_takesPerson.cls ≠ "java/lang/invoke/VarHandle" ∧ (parseMethodDescriptor yX3_takesPerson.desc).map (fun d => d.parameters.length) = some 3 := by decide +kernel
def wX3_takesPerson (Q : Int32 → ew_M → Prop) (p1 : Int32) (p2 : Int32) (p3 : Int32) (s1 : ew_M) : Prop := ((s1.1 0) < (6 : Int32) → vp_in (s1.1 0) 6 ∧ (vp_in (s1.1 0) 6 ∧ (vp_in (s1.1 0) 6 ∧ (vp_in (s1.1 0) 6 ∧ (∀ (z2 : ew_M), z2 = ew_sA (ew_sA (ew_sA (ew_sA s1 0 (s1.1 0).toNatClampNeg p1) 1 (s1.1 0).toNatClampNeg p2) 2 (s1.1 0).toNatClampNeg p3) 3 (s1.1 0).toNatClampNeg (0 : Int32) → Q (1 : Int32) (ew_sI z2 0 ((z2.1 0) + (1 : Int32)))))))) ∧ (¬ (s1.1 0) < (6 : Int32) → Q (0 : Int32) s1)
set_option maxHeartbeats 4000000 in
set_option maxRecDepth 100000 in
theorem kX3_takesPerson {X : ew_X} {l : Launch} (hX : ew_Ap X) {b1 : Nat} {E : ew_M → ew_S} (hE1 : ew_GE X b1 (ew_GT X.2.1 b1) E) {Q : Int32 → ew_M → Prop} {p1 : Int32} {p2 : Int32} {p3 : Int32} {s1 : ew_M} (h : wX3_takesPerson Q p1 p2 p3 s1) : Met l yX3_takesPerson wsX3_takesPerson ({ frames := 0, cells := 0, slots := 0, locals := 0 } : Room) (va_Pc [.ref (X.2.1 b1), .int p1, .int p2, .int p3] (ew_wd X (E s1))) (va_Qi (fun (r : Int32) (u : ew_M) => Q r u) (fun (u : ew_M) => ew_wd X ((fun (u : ew_M) => E u) u)) X.2.2.1) 0 0 X.2.2.1 := by
  refine ew_met (As := [.ref (X.2.1 b1), .int p1, .int p2, .int p3]) (L0 := [(0, .ref (X.2.1 b1)), (1, .int p1), (2, .int p2), (3, .int p3)]) X l hX (by decide) rfl rfl rfl rfl (fun C hl Z hR => ?_)
  subst hl
  refine ez_aload_n (pc := 0) Z dX3_takesPerson_0 0 rfl rfl ?_
  refine fX3_persons (pc := 1) (v := s1.1 0) Z hE1 rfl inX3_takesPerson (List.mem_of_getElem? (i := 1) rfl) dX3_takesPerson_1 ?_
  refine ez_bipush (pc := 4) Z dX3_takesPerson_4 eb_6 ?_
  refine ez_icmp_lt (pc := 6) (tgt := 11) Z dX3_takesPerson_6 rfl (fun c1 => ?_) (fun c1 => ?_)
  · replace h := h.1 c1
    refine ez_aload_n (pc := 11) Z dX3_takesPerson_11 0 rfl rfl ?_
    refine fX3_kind (pc := 12) (M := s1) Z hE1 inX3_takesPerson (List.mem_of_getElem? (i := 2) rfl) dX3_takesPerson_12 ?_
    refine ez_aload_n (pc := 15) Z dX3_takesPerson_15 0 rfl rfl ?_
    refine fX3_persons (pc := 16) (v := s1.1 0) Z hE1 rfl inX3_takesPerson (List.mem_of_getElem? (i := 1) rfl) dX3_takesPerson_16 ?_
    refine ez_iload_n (pc := 19) Z dX3_takesPerson_19 1 rfl rfl ?_
    refine ez_iast (pc := 20) (n := 6) (a := 0) (M := s1) (M' := ew_sA s1 0 (s1.1 0).toNatClampNeg p1) Z hE1 1 rfl (by decide : 0 < 12) rfl rfl h.1 dX3_takesPerson_20 ?_
    replace h := h.2
    refine ez_aload_n (pc := 21) Z dX3_takesPerson_21 0 rfl rfl ?_
    refine fX3_bar (pc := 22) (M := ew_sA s1 0 (s1.1 0).toNatClampNeg p1) Z hE1 inX3_takesPerson (List.mem_of_getElem? (i := 3) rfl) dX3_takesPerson_22 ?_
    refine ez_aload_n (pc := 25) Z dX3_takesPerson_25 0 rfl rfl ?_
    refine fX3_persons (pc := 26) (v := s1.1 0) Z hE1 rfl inX3_takesPerson (List.mem_of_getElem? (i := 1) rfl) dX3_takesPerson_26 ?_
    refine ez_iload_n (pc := 29) Z dX3_takesPerson_29 2 rfl rfl ?_
    refine ez_iast (pc := 30) (n := 6) (a := 1) (M := ew_sA s1 0 (s1.1 0).toNatClampNeg p1) (M' := ew_sA (ew_sA s1 0 (s1.1 0).toNatClampNeg p1) 1 (s1.1 0).toNatClampNeg p2) Z hE1 2 rfl (by decide : 1 < 12) rfl rfl h.1 dX3_takesPerson_30 ?_
    replace h := h.2
    refine ez_aload_n (pc := 31) Z dX3_takesPerson_31 0 rfl rfl ?_
    refine fX3_patience (pc := 32) (M := ew_sA (ew_sA s1 0 (s1.1 0).toNatClampNeg p1) 1 (s1.1 0).toNatClampNeg p2) Z hE1 inX3_takesPerson (List.mem_of_getElem? (i := 4) rfl) dX3_takesPerson_32 ?_
    refine ez_aload_n (pc := 35) Z dX3_takesPerson_35 0 rfl rfl ?_
    refine fX3_persons (pc := 36) (v := s1.1 0) Z hE1 rfl inX3_takesPerson (List.mem_of_getElem? (i := 1) rfl) dX3_takesPerson_36 ?_
    refine ez_iload_n (pc := 39) Z dX3_takesPerson_39 3 rfl rfl ?_
    refine ez_iast (pc := 40) (n := 6) (a := 2) (M := ew_sA (ew_sA s1 0 (s1.1 0).toNatClampNeg p1) 1 (s1.1 0).toNatClampNeg p2) (M' := ew_sA (ew_sA (ew_sA s1 0 (s1.1 0).toNatClampNeg p1) 1 (s1.1 0).toNatClampNeg p2) 2 (s1.1 0).toNatClampNeg p3) Z hE1 3 rfl (by decide : 2 < 12) rfl rfl h.1 dX3_takesPerson_40 ?_
    replace h := h.2
    refine ez_aload_n (pc := 41) Z dX3_takesPerson_41 0 rfl rfl ?_
    refine fX3_gained (pc := 42) (M := ew_sA (ew_sA (ew_sA s1 0 (s1.1 0).toNatClampNeg p1) 1 (s1.1 0).toNatClampNeg p2) 2 (s1.1 0).toNatClampNeg p3) Z hE1 inX3_takesPerson (List.mem_of_getElem? (i := 5) rfl) dX3_takesPerson_42 ?_
    refine ez_aload_n (pc := 45) Z dX3_takesPerson_45 0 rfl rfl ?_
    refine fX3_persons (pc := 46) (v := s1.1 0) Z hE1 rfl inX3_takesPerson (List.mem_of_getElem? (i := 1) rfl) dX3_takesPerson_46 ?_
    refine ez_iconst (pc := 49) Z dX3_takesPerson_49 ec_0 ?_
    refine ez_iast (pc := 50) (n := 6) (a := 3) (M := ew_sA (ew_sA (ew_sA s1 0 (s1.1 0).toNatClampNeg p1) 1 (s1.1 0).toNatClampNeg p2) 2 (s1.1 0).toNatClampNeg p3) (M' := ew_sA (ew_sA (ew_sA (ew_sA s1 0 (s1.1 0).toNatClampNeg p1) 1 (s1.1 0).toNatClampNeg p2) 2 (s1.1 0).toNatClampNeg p3) 3 (s1.1 0).toNatClampNeg (0 : Int32)) Z hE1 4 rfl (by decide : 3 < 12) rfl rfl h.1 dX3_takesPerson_50 ?_
    replace h := h.2
    refine ez_nm (E := E) (fun z2 ez2 => ?_)
    replace h := h z2 ez2
    refine ez_aload_n (pc := 51) Z dX3_takesPerson_51 0 rfl rfl ?_
    refine ez_dup (pc := 52) Z dX3_takesPerson_52 rfl ?_
    refine fX3_persons (pc := 53) (v := z2.1 0) Z hE1 rfl inX3_takesPerson (List.mem_of_getElem? (i := 1) rfl) dX3_takesPerson_53 ?_
    refine ez_iconst (pc := 56) Z dX3_takesPerson_56 ec_1 ?_
    refine ez_iadd (pc := 57) Z dX3_takesPerson_57 ?_
    refine pX3_persons (pc := 58) (M := z2) (M' := ew_sI z2 0 ((z2.1 0) + (1 : Int32))) Z hE1 rfl inX3_takesPerson (List.mem_of_getElem? (i := 1) rfl) dX3_takesPerson_58 ?_
    refine ez_iconst (pc := 61) Z dX3_takesPerson_61 ec_1 ?_
    exact ez_zret (pc := 62) Z hR (ew_sI z2 0 ((z2.1 0) + (1 : Int32))) rfl h rfl dX3_takesPerson_62
  · replace h := h.2 c1
    refine ez_iconst (pc := 9) Z dX3_takesPerson_9 ec_0 ?_
    exact ez_zret (pc := 10) Z hR s1 rfl h rfl dX3_takesPerson_10
theorem inX3_lessenWeights : ∀ w ∈ wsX30, w ∈ wsX3_lessenWeights := fun _ h => List.mem_cons_of_mem _ (List.mem_append_right _ (h))
theorem hdX3_lessenWeights : yX3_lessenWeights.cls = RX3 ∧ yX3_lessenWeights.cls ≠ "java/lang/invoke/MethodHandle" ∧ yX3_lessenWeights.cls ≠ "java/lang/invoke/VarHandle" ∧ (parseMethodDescriptor yX3_lessenWeights.desc).map (fun d => d.parameters.length) = some 1 := by decide +kernel
def wX3_lessenWeights_40 (R40 : Int32 × ew_M → Prop) (Q : ew_M → Prop) (v1 : Int32) (v2 : Int64) (v4 : Int32) (s1 : ew_M) : Prop := ((3 : Int32) ≤ v4 → Q s1) ∧ (¬ (3 : Int32) ≤ v4 → vp_in (v1 + v4) 90 ∧ ((¬ v2 = 0) ∧ (vp_in (v1 + v4) 90 ∧ (R40 (v4 + (1 : Int32), ew_sW s1 0 (v1 + v4).toNatClampNeg ((s1.2.2 0 (v1 + v4).toNatClampNeg) / v2))))))
def wX3_lessenWeights_5 (R5 : Int64 × Int32 → Prop) (Q : ew_M → Prop) (v1 : Int32) (v2 : Int64) (v4 : Int32) (s1 : ew_M) : Prop := ((3 : Int32) ≤ v4 → ((lg_cmp v2 (1 : Int64)) ≤ 0 → Q s1) ∧ (¬ (lg_cmp v2 (1 : Int64)) ≤ 0 → ew_lp (fun (R : Int32 × ew_M → Prop) (x : Int32 × ew_M) => wX3_lessenWeights_40 R Q v1 v2 x.1 x.2) ((0 : Int32), s1))) ∧ (¬ (3 : Int32) ≤ v4 → vp_in (v1 + v4) 90 ∧ (wX2_commonOf (fun (r3 : Int64) => R5 (r3, v4 + (1 : Int32))) v2 (s1.2.2 0 (v1 + v4).toNatClampNeg)))
def wX3_lessenWeights (Q : ew_M → Prop) (p1 : Int32) (s1 : ew_M) : Prop := ew_lp (fun (R : Int64 × Int32 → Prop) (x : Int64 × Int32) => wX3_lessenWeights_5 R Q p1 x.1 x.2 s1) ((0 : Int64), (0 : Int32))
set_option maxHeartbeats 4000000 in
set_option maxRecDepth 100000 in
theorem tX3_lessenWeights_40 {C : ew_C} {X : ew_X} {b1 : Nat} {E : ew_M → ew_S} (hE1 : ew_GE X b1 (ew_GT X.2.1 b1) E) (Z : ew_Z C X cX3_lessenWeights 5 RX3 wsX3_lessenWeights ({ frames := 1, cells := 0, slots := 0, locals := 30 } : Room) none) {Q : ew_M → Prop} {R40 : Int32 × ew_M → Prop} {v1 : Int32} {v2 : Int64} {v4 : Int32} {s1 : ew_M} (hR : C.2.2.2.2.2.2.2.2.2.2 = MQ C.2.2.2.2.2.2.2.1 (va_Qv (fun (u : ew_M) => Q u) (fun (u : ew_M) => ew_wd X ((fun (u : ew_M) => E u) u)) X.2.2.1) C.2.2.2.2.2.2.1 C.2.2.2.2.1 0 0 X.2.2.1) (hR40 : ∀ x : Int32 × ew_M, R40 x → ew_W C X 5 (E x.2) 40 [(0, .ref (X.2.1 b1)), (1, .int v1), (2, .long v2), (4, .int x.1)] []) (h : wX3_lessenWeights_40 R40 Q v1 v2 v4 s1) : ew_W C X 5 (E s1) 40 [(0, .ref (X.2.1 b1)), (1, .int v1), (2, .long v2), (4, .int v4)] [] := by
  refine ez_iload (pc := 40) Z dX3_lessenWeights_40 3 rfl ?_
  refine ez_iconst (pc := 42) Z dX3_lessenWeights_42 ec_3 ?_
  refine ez_icmp_ge (pc := 43) (tgt := 65) Z dX3_lessenWeights_43 rfl (fun c1 => ?_) (fun c1 => ?_)
  · replace h := h.1 c1
    exact ez_vret (pc := 65) Z hR s1 h rfl dX3_lessenWeights_65
  · replace h := h.2 c1
    refine ez_aload_n (pc := 46) Z dX3_lessenWeights_46 0 rfl rfl ?_
    refine fX3_weights (pc := 47) (M := s1) Z hE1 inX3_lessenWeights (List.mem_of_getElem? (i := 1) rfl) dX3_lessenWeights_47 ?_
    refine ez_iload_n (pc := 50) Z dX3_lessenWeights_50 1 rfl rfl ?_
    refine ez_iload (pc := 51) Z dX3_lessenWeights_51 3 rfl ?_
    refine ez_iadd (pc := 53) Z dX3_lessenWeights_53 ?_
    refine ez_dup2_11 (pc := 54) Z dX3_lessenWeights_54 rfl rfl ?_
    refine ez_lald (pc := 55) (n := 90) (a := 0) (v := s1.2.2 0 (v1 + v4).toNatClampNeg) (M := s1) Z hE1 13 rfl (by decide : 0 < 1) rfl rfl h.1 dX3_lessenWeights_55 ?_
    replace h := h.2
    refine ez_lload_n (pc := 56) Z dX3_lessenWeights_56 2 rfl rfl ?_
    refine ez_ldiv (pc := 57) Z dX3_lessenWeights_57 h.1 ?_
    replace h := h.2
    refine ez_last (pc := 58) (n := 90) (a := 0) (M := s1) (M' := ew_sW s1 0 (v1 + v4).toNatClampNeg ((s1.2.2 0 (v1 + v4).toNatClampNeg) / v2)) Z hE1 13 rfl (by decide : 0 < 1) rfl (fun _ _ _ => rfl) rfl h.1 dX3_lessenWeights_58 ?_
    replace h := h.2
    refine ez_iinc (pc := 59) (L' := [(4, .int (v4 + (1 : Int32))), (0, .ref (X.2.1 b1)), (1, .int v1), (2, .long v2)]) Z dX3_lessenWeights_59 3 rfl (ei_1 _) (by decide) rfl ?_
    refine ez_goto (pc := 62) (tgt := 40) Z dX3_lessenWeights_62 rfl ?_
    refine ez_sub [(0, .ref (X.2.1 b1)), (1, .int v1), (2, .long v2), (4, .int (v4 + (1 : Int32)))] [1, 2, 3, 0] rfl ?_
    exact hR40 _ h
set_option maxHeartbeats 4000000 in
set_option maxRecDepth 100000 in
theorem tX3_lessenWeights_5 {C : ew_C} {X : ew_X} {b1 : Nat} {E : ew_M → ew_S} (hE1 : ew_GE X b1 (ew_GT X.2.1 b1) E) (Z : ew_Z C X cX3_lessenWeights 5 RX3 wsX3_lessenWeights ({ frames := 1, cells := 0, slots := 0, locals := 30 } : Room) none) {Q : ew_M → Prop} {R5 : Int64 × Int32 → Prop} {v1 : Int32} {v2 : Int64} {v4 : Int32} {s1 : ew_M} (hR : C.2.2.2.2.2.2.2.2.2.2 = MQ C.2.2.2.2.2.2.2.1 (va_Qv (fun (u : ew_M) => Q u) (fun (u : ew_M) => ew_wd X ((fun (u : ew_M) => E u) u)) X.2.2.1) C.2.2.2.2.2.2.1 C.2.2.2.2.1 0 0 X.2.2.1) (hR5 : ∀ x : Int64 × Int32, R5 x → ew_W C X 5 (E s1) 5 [(0, .ref (X.2.1 b1)), (1, .int v1), (2, .long x.1), (4, .int x.2)] []) (h : wX3_lessenWeights_5 R5 Q v1 v2 v4 s1) : ew_W C X 5 (E s1) 5 [(0, .ref (X.2.1 b1)), (1, .int v1), (2, .long v2), (4, .int v4)] [] := by
  refine ez_iload (pc := 5) Z dX3_lessenWeights_5 3 rfl ?_
  refine ez_iconst (pc := 7) Z dX3_lessenWeights_7 ec_3 ?_
  refine ez_icmp_ge (pc := 8) (tgt := 31) Z dX3_lessenWeights_8 rfl (fun c1 => ?_) (fun c1 => ?_)
  · replace h := h.1 c1
    refine ez_lload_n (pc := 31) Z dX3_lessenWeights_31 2 rfl rfl ?_
    refine ez_lconst (pc := 32) Z dX3_lessenWeights_32 el_1 ?_
    refine ez_lcmp (pc := 33) Z dX3_lessenWeights_33 ?_
    refine ez_if_le (pc := 34) (tgt := 65) Z dX3_lessenWeights_34 rfl (fun c2 => ?_) (fun c2 => ?_)
    · replace h := h.1 c2
      exact ez_vret (pc := 65) Z hR s1 h rfl dX3_lessenWeights_65
    · replace h := h.2 c2
      refine ez_iconst (pc := 37) Z dX3_lessenWeights_37 ec_0 ?_
      refine ez_istore (pc := 38) (L' := [(4, .int (0 : Int32)), (0, .ref (X.2.1 b1)), (1, .int v1), (2, .long v2)]) Z dX3_lessenWeights_38 (by decide) rfl ?_
      refine ez_sub [(0, .ref (X.2.1 b1)), (1, .int v1), (2, .long v2), (4, .int (0 : Int32))] [1, 2, 3, 0] rfl ?_
      exact ew_ind (P := fun (x : Int32 × ew_M) => ew_W C X 5 (E x.2) 40 [(0, .ref (X.2.1 b1)), (1, .int v1), (2, .long v2), (4, .int x.1)] []) (fun R hR9 x h => tX3_lessenWeights_40 hE1 Z hR  hR9 h) h
  · replace h := h.2 c1
    refine ez_lload_n (pc := 11) Z dX3_lessenWeights_11 2 rfl rfl ?_
    refine ez_aload_n (pc := 12) Z dX3_lessenWeights_12 0 rfl rfl ?_
    refine fX3_weights (pc := 13) (M := s1) Z hE1 inX3_lessenWeights (List.mem_of_getElem? (i := 1) rfl) dX3_lessenWeights_13 ?_
    refine ez_iload_n (pc := 16) Z dX3_lessenWeights_16 1 rfl rfl ?_
    refine ez_iload (pc := 17) Z dX3_lessenWeights_17 3 rfl ?_
    refine ez_iadd (pc := 19) Z dX3_lessenWeights_19 ?_
    refine ez_lald (pc := 20) (n := 90) (a := 0) (v := s1.2.2 0 (v1 + v4).toNatClampNeg) (M := s1) Z hE1 13 rfl (by decide : 0 < 1) rfl rfl h.1 dX3_lessenWeights_20 ?_
    replace h := h.2
    refine ez_callSl (pc := 21) (As := [.long v2, .long (s1.2.2 0 (v1 + v4).toNatClampNeg)]) (st := []) Z (kX2_commonOf Z.2.2.2.2.2.2.2.2.2.1 (S := E s1) h) gX3_lessenWeights_X2_commonOf rfl rfl rfl hdX2_commonOf rfl rfl rfl rfl rfl dX3_lessenWeights_21 (fun r3 u4 h => ?_)
    refine ez_lstore_n (pc := 24) (L' := [(2, .long r3), (0, .ref (X.2.1 b1)), (1, .int v1), (4, .int v4)]) Z dX3_lessenWeights_24 rfl (by decide) rfl ?_
    refine ez_iinc (pc := 25) (L' := [(4, .int (v4 + (1 : Int32))), (2, .long r3), (0, .ref (X.2.1 b1)), (1, .int v1)]) Z dX3_lessenWeights_25 3 rfl (ei_1 _) (by decide) rfl ?_
    refine ez_goto (pc := 28) (tgt := 5) Z dX3_lessenWeights_28 rfl ?_
    refine ez_sub [(0, .ref (X.2.1 b1)), (1, .int v1), (2, .long r3), (4, .int (v4 + (1 : Int32)))] [2, 3, 1, 0] rfl ?_
    exact hR5 _ h
set_option maxHeartbeats 4000000 in
set_option maxRecDepth 100000 in
theorem kX3_lessenWeights {X : ew_X} {l : Launch} (hX : ew_Ap X) {b1 : Nat} {E : ew_M → ew_S} (hE1 : ew_GE X b1 (ew_GT X.2.1 b1) E) {Q : ew_M → Prop} {p1 : Int32} {s1 : ew_M} (h : wX3_lessenWeights Q p1 s1) : Met l yX3_lessenWeights wsX3_lessenWeights ({ frames := 1, cells := 0, slots := 0, locals := 30 } : Room) (va_Pc [.ref (X.2.1 b1), .int p1] (ew_wd X (E s1))) (va_Qv (fun (u : ew_M) => Q u) (fun (u : ew_M) => ew_wd X ((fun (u : ew_M) => E u) u)) X.2.2.1) 0 0 X.2.2.1 := by
  refine ew_met (As := [.ref (X.2.1 b1), .int p1]) (L0 := [(0, .ref (X.2.1 b1)), (1, .int p1)]) X l hX (by decide) rfl rfl rfl rfl (fun C hl Z hR => ?_)
  subst hl
  refine ez_lconst (pc := 0) Z dX3_lessenWeights_0 el_0 ?_
  refine ez_lstore_n (pc := 1) (L' := [(2, .long (0 : Int64)), (0, .ref (X.2.1 b1)), (1, .int p1)]) Z dX3_lessenWeights_1 rfl (by decide) rfl ?_
  refine ez_iconst (pc := 2) Z dX3_lessenWeights_2 ec_0 ?_
  refine ez_istore (pc := 3) (L' := [(4, .int (0 : Int32)), (2, .long (0 : Int64)), (0, .ref (X.2.1 b1)), (1, .int p1)]) Z dX3_lessenWeights_3 (by decide) rfl ?_
  refine ez_sub [(0, .ref (X.2.1 b1)), (1, .int p1), (2, .long (0 : Int64)), (4, .int (0 : Int32))] [2, 3, 1, 0] rfl ?_
  exact ew_ind (P := fun (x : Int64 × Int32) => ew_W C X 5 (E s1) 5 [(0, .ref (X.2.1 b1)), (1, .int p1), (2, .long x.1), (4, .int x.2)] []) (fun R hR9 x h => tX3_lessenWeights_5 hE1 Z hR  hR9 h) h
theorem inX3_weighFirst : ∀ w ∈ wsX30, w ∈ wsX3_weighFirst := fun _ h => List.mem_cons_of_mem _ (List.mem_append_right _ (h))
theorem hdX3_weighFirst : yX3_weighFirst.cls = RX3 ∧ yX3_weighFirst.cls ≠ "java/lang/invoke/MethodHandle" ∧ yX3_weighFirst.cls ≠ "java/lang/invoke/VarHandle" ∧ (parseMethodDescriptor yX3_weighFirst.desc).map (fun d => d.parameters.length) = some 2 := by decide +kernel
def wX3_weighFirst_24 (R24 : Int32 × ew_M → Prop) (Q : ew_M → Prop) (v2 : Int32) (v3 : Int32) (v4 : Int32) (s1 : ew_M) : Prop := ((3 : Int32) ≤ v4 → wX3_lessenWeights (fun (m3 : ew_M) => Q m3) v3 s1) ∧ (¬ (3 : Int32) ≤ v4 → vp_in ((v2 * (3 : Int32)) + v4) 15 ∧ (vp_in (v3 + v4) 90 ∧ (R24 (v4 + (1 : Int32), ew_sW s1 0 (v3 + v4).toNatClampNeg ((s1.2.1 9 ((v2 * (3 : Int32)) + v4).toNatClampNeg).toInt64)))))
def wX3_weighFirst (Q : ew_M → Prop) (p1 : Int32) (p2 : Int32) (s1 : ew_M) : Prop := vp_in ((p2 * (6 : Int32)) + p1) 30 ∧ (ew_lp (fun (R : Int32 × ew_M → Prop) (x : Int32 × ew_M) => wX3_weighFirst_24 R Q p2 (((p2 * (6 : Int32)) + p1) * (3 : Int32)) x.1 x.2) ((0 : Int32), (ew_sA s1 11 ((p2 * (6 : Int32)) + p1).toNatClampNeg (0 : Int32))))
set_option maxHeartbeats 4000000 in
set_option maxRecDepth 100000 in
theorem tX3_weighFirst_24 {C : ew_C} {X : ew_X} {b1 : Nat} {E : ew_M → ew_S} (hE1 : ew_GE X b1 (ew_GT X.2.1 b1) E) (Z : ew_Z C X cX3_weighFirst 5 RX3 wsX3_weighFirst ({ frames := 2, cells := 0, slots := 0, locals := 54 } : Room) none) {Q : ew_M → Prop} {R24 : Int32 × ew_M → Prop} {v2 : Int32} {v3 : Int32} {v4 : Int32} {s1 : ew_M} (hR : C.2.2.2.2.2.2.2.2.2.2 = MQ C.2.2.2.2.2.2.2.1 (va_Qv (fun (u : ew_M) => Q u) (fun (u : ew_M) => ew_wd X ((fun (u : ew_M) => E u) u)) X.2.2.1) C.2.2.2.2.2.2.1 C.2.2.2.2.1 0 0 X.2.2.1) (hR24 : ∀ x : Int32 × ew_M, R24 x → ew_W C X 5 (E x.2) 24 [(0, .ref (X.2.1 b1)), (2, .int v2), (3, .int v3), (4, .int x.1)] []) (h : wX3_weighFirst_24 R24 Q v2 v3 v4 s1) : ew_W C X 5 (E s1) 24 [(0, .ref (X.2.1 b1)), (2, .int v2), (3, .int v3), (4, .int v4)] [] := by
  refine ez_iload (pc := 24) Z dX3_weighFirst_24 3 rfl ?_
  refine ez_iconst (pc := 26) Z dX3_weighFirst_26 ec_3 ?_
  refine ez_icmp_ge (pc := 27) (tgt := 57) Z dX3_weighFirst_27 rfl (fun c1 => ?_) (fun c1 => ?_)
  · replace h := h.1 c1
    refine ez_aload_n (pc := 57) Z dX3_weighFirst_57 0 rfl rfl ?_
    refine ez_iload_n (pc := 58) Z dX3_weighFirst_58 2 rfl rfl ?_
    refine ez_callVv (pc := 59) (r := b1) (As := [.int v3]) (st := []) Z (kX3_lessenWeights Z.2.2.2.2.2.2.2.2.2.1 (E := E) hE1 h) gX3_weighFirst_X3_lessenWeights rfl rfl rfl hdX3_lessenWeights rfl rfl (ew_rT hE1) (ew_oT hE1 _) rfl rfl rfl rfl dX3_weighFirst_59 (fun m3 h => ?_)
    exact ez_vret (pc := 62) Z hR m3 h rfl dX3_weighFirst_62
  · replace h := h.2 c1
    refine ez_aload_n (pc := 30) Z dX3_weighFirst_30 0 rfl rfl ?_
    refine fX3_weights (pc := 31) (M := s1) Z hE1 inX3_weighFirst (List.mem_of_getElem? (i := 2) rfl) dX3_weighFirst_31 ?_
    refine ez_iload_n (pc := 34) Z dX3_weighFirst_34 2 rfl rfl ?_
    refine ez_iload (pc := 35) Z dX3_weighFirst_35 3 rfl ?_
    refine ez_iadd (pc := 37) Z dX3_weighFirst_37 ?_
    refine ez_aload_n (pc := 38) Z dX3_weighFirst_38 0 rfl rfl ?_
    refine fX3_hundredths (pc := 39) (M := s1) Z hE1 inX3_weighFirst (List.mem_of_getElem? (i := 3) rfl) dX3_weighFirst_39 ?_
    refine ez_iload_n (pc := 42) Z dX3_weighFirst_42 1 rfl rfl ?_
    refine ez_iconst (pc := 43) Z dX3_weighFirst_43 ec_3 ?_
    refine ez_imul (pc := 44) Z dX3_weighFirst_44 ?_
    refine ez_iload (pc := 45) Z dX3_weighFirst_45 3 rfl ?_
    refine ez_iadd (pc := 47) Z dX3_weighFirst_47 ?_
    refine ez_iald (pc := 48) (n := 15) (a := 9) (v := s1.2.1 9 ((v2 * (3 : Int32)) + v4).toNatClampNeg) (M := s1) Z hE1 10 rfl (by decide : 9 < 12) rfl rfl h.1 dX3_weighFirst_48 ?_
    replace h := h.2
    refine ez_i2l (pc := 49) Z dX3_weighFirst_49 ?_
    refine ez_last (pc := 50) (n := 90) (a := 0) (M := s1) (M' := ew_sW s1 0 (v3 + v4).toNatClampNeg ((s1.2.1 9 ((v2 * (3 : Int32)) + v4).toNatClampNeg).toInt64)) Z hE1 13 rfl (by decide : 0 < 1) rfl (fun _ _ _ => rfl) rfl h.1 dX3_weighFirst_50 ?_
    replace h := h.2
    refine ez_iinc (pc := 51) (L' := [(4, .int (v4 + (1 : Int32))), (0, .ref (X.2.1 b1)), (2, .int v2), (3, .int v3)]) Z dX3_weighFirst_51 3 rfl (ei_1 _) (by decide) rfl ?_
    refine ez_goto (pc := 54) (tgt := 24) Z dX3_weighFirst_54 rfl ?_
    refine ez_sub [(0, .ref (X.2.1 b1)), (2, .int v2), (3, .int v3), (4, .int (v4 + (1 : Int32)))] [1, 2, 3, 0] rfl ?_
    exact hR24 _ h
set_option maxHeartbeats 4000000 in
set_option maxRecDepth 100000 in
theorem kX3_weighFirst {X : ew_X} {l : Launch} (hX : ew_Ap X) {b1 : Nat} {E : ew_M → ew_S} (hE1 : ew_GE X b1 (ew_GT X.2.1 b1) E) {Q : ew_M → Prop} {p1 : Int32} {p2 : Int32} {s1 : ew_M} (h : wX3_weighFirst Q p1 p2 s1) : Met l yX3_weighFirst wsX3_weighFirst ({ frames := 2, cells := 0, slots := 0, locals := 54 } : Room) (va_Pc [.ref (X.2.1 b1), .int p1, .int p2] (ew_wd X (E s1))) (va_Qv (fun (u : ew_M) => Q u) (fun (u : ew_M) => ew_wd X ((fun (u : ew_M) => E u) u)) X.2.2.1) 0 0 X.2.2.1 := by
  refine ew_met (As := [.ref (X.2.1 b1), .int p1, .int p2]) (L0 := [(0, .ref (X.2.1 b1)), (1, .int p1), (2, .int p2)]) X l hX (by decide) rfl rfl rfl rfl (fun C hl Z hR => ?_)
  subst hl
  refine ez_aload_n (pc := 0) Z dX3_weighFirst_0 0 rfl rfl ?_
  refine fX3_heard (pc := 1) (M := s1) Z hE1 inX3_weighFirst (List.mem_of_getElem? (i := 1) rfl) dX3_weighFirst_1 ?_
  refine ez_iload_n (pc := 4) Z dX3_weighFirst_4 2 rfl rfl ?_
  refine ez_bipush (pc := 5) Z dX3_weighFirst_5 eb_6 ?_
  refine ez_imul (pc := 7) Z dX3_weighFirst_7 ?_
  refine ez_iload_n (pc := 8) Z dX3_weighFirst_8 1 rfl rfl ?_
  refine ez_iadd (pc := 9) Z dX3_weighFirst_9 ?_
  refine ez_iconst (pc := 10) Z dX3_weighFirst_10 ec_0 ?_
  refine ez_iast (pc := 11) (n := 30) (a := 11) (M := s1) (M' := ew_sA s1 11 ((p2 * (6 : Int32)) + p1).toNatClampNeg (0 : Int32)) Z hE1 12 rfl (by decide : 11 < 12) rfl rfl h.1 dX3_weighFirst_11 ?_
  replace h := h.2
  refine ez_iload_n (pc := 12) Z dX3_weighFirst_12 2 rfl rfl ?_
  refine ez_bipush (pc := 13) Z dX3_weighFirst_13 eb_6 ?_
  refine ez_imul (pc := 15) Z dX3_weighFirst_15 ?_
  refine ez_iload_n (pc := 16) Z dX3_weighFirst_16 1 rfl rfl ?_
  refine ez_iadd (pc := 17) Z dX3_weighFirst_17 ?_
  refine ez_iconst (pc := 18) Z dX3_weighFirst_18 ec_3 ?_
  refine ez_imul (pc := 19) Z dX3_weighFirst_19 ?_
  refine ez_istore_n (pc := 20) (L' := [(3, .int (((p2 * (6 : Int32)) + p1) * (3 : Int32))), (0, .ref (X.2.1 b1)), (1, .int p1), (2, .int p2)]) Z dX3_weighFirst_20 rfl (by decide) rfl ?_
  refine ez_iconst (pc := 21) Z dX3_weighFirst_21 ec_0 ?_
  refine ez_istore (pc := 22) (L' := [(4, .int (0 : Int32)), (3, .int (((p2 * (6 : Int32)) + p1) * (3 : Int32))), (0, .ref (X.2.1 b1)), (1, .int p1), (2, .int p2)]) Z dX3_weighFirst_22 (by decide) rfl ?_
  refine ez_sub [(0, .ref (X.2.1 b1)), (2, .int p2), (3, .int (((p2 * (6 : Int32)) + p1) * (3 : Int32))), (4, .int (0 : Int32))] [2, 4, 1, 0] rfl ?_
  exact ew_ind (P := fun (x : Int32 × ew_M) => ew_W C X 5 (E x.2) 24 [(0, .ref (X.2.1 b1)), (2, .int p2), (3, .int (((p2 * (6 : Int32)) + p1) * (3 : Int32))), (4, .int x.1)] []) (fun R hR9 x h => tX3_weighFirst_24 hE1 Z hR  hR9 h) h
theorem inX3_takesPaper : ∀ w ∈ wsX30, w ∈ wsX3_takesPaper := fun _ h => List.mem_cons_of_mem _ (List.mem_append_left _ (List.mem_append_right _ (h)))
theorem hdX3_takesPaper : yX3_takesPaper.cls = RX3 ∧ yX3_takesPaper.cls ≠ "java/lang/invoke/MethodHandle" ∧ yX3_takesPaper.cls ≠ "java/lang/invoke/VarHandle" ∧ (parseMethodDescriptor yX3_takesPaper.desc).map (fun d => d.parameters.length) = some 1 := by decide +kernel
def wX3_takesPaper_181 (R181 : Int32 × ew_M → Prop) (Q : Int32 → ew_M → Prop) (v5 : Int32) (s1 : ew_M) (s2 : ew_M) : Prop := ((6 : Int32) ≤ v5 → Q (1 : Int32) (ew_sI s1 1 ((s1.1 1) + (1 : Int32)))) ∧ (¬ (6 : Int32) ≤ v5 → wX3_weighFirst (fun (m3 : ew_M) => R181 (v5 + (1 : Int32), m3)) v5 (s1.1 1) s1)
def wX3_takesPaper_146 (R146 : Int32 × ew_M → Prop) (Q : Int32 → ew_M → Prop) (v4 : Int32) (v5 : Int32) (s1 : ew_M) (s2 : ew_M) : Prop := ((3 : Int32) ≤ v5 → ew_lp (fun (R : Int32 × ew_M → Prop) (x : Int32 × ew_M) => wX3_takesPaper_181 R Q x.1 x.2 s2) ((0 : Int32), s1)) ∧ (¬ (3 : Int32) ≤ v5 → wX0_number (fun (r2 : Int32) => vp_in (v4 + v5) 15 ∧ (R146 (v5 + (1 : Int32), ew_sA s1 10 (v4 + v5).toNatClampNeg (r2 - (4 : Int32))))) ((3 : Int32) + v5) s2)
def wX3_takesPaper (Q : Int32 → ew_M → Prop) (s1 : ew_M) (s2 : ew_M) : Prop := wX0_number (fun (r1 : Int32) => wX0_number (fun (r3 : Int32) => wX0_number (fun (r5 : Int32) => ((5 : Int32) ≤ (s1.1 1) → Q (0 : Int32) s1) ∧ (¬ (5 : Int32) ≤ (s1.1 1) → (r1 = 0 → Q (0 : Int32) s1) ∧ (¬ r1 = 0 → (((1 : Int32) <<< ((s1.1 0) &&& 31)) ≤ r1 → Q (0 : Int32) s1) ∧ (¬ ((1 : Int32) <<< ((s1.1 0) &&& 31)) ≤ r1 → (0 ≤ (((100 : Int32) - r3) - r5) → vp_in (s1.1 1) 5 ∧ (vp_in (s1.1 1) 5 ∧ (vp_in (s1.1 1) 5 ∧ (vp_in (s1.1 1) 5 ∧ (∀ (z11 : ew_M), z11 = ew_sA (ew_sA (ew_sA (ew_sA s1 4 (s1.1 1).toNatClampNeg r1) 5 (s1.1 1).toNatClampNeg (0 : Int32)) 6 (s1.1 1).toNatClampNeg (0 : Int32)) 7 (s1.1 1).toNatClampNeg (0 : Int32) → vp_in (z11.1 1) 5 ∧ (wX0_number (fun (r12 : Int32) => vp_in ((z11.1 1) * (3 : Int32)) 15 ∧ (wX0_number (fun (r14 : Int32) => vp_in (((z11.1 1) * (3 : Int32)) + (1 : Int32)) 15 ∧ (∀ (z16 : ew_M), z16 = ew_sA (ew_sA (ew_sA z11 8 (z11.1 1).toNatClampNeg (0 : Int32)) 9 ((z11.1 1) * (3 : Int32)).toNatClampNeg r12) 9 (((z11.1 1) * (3 : Int32)) + (1 : Int32)).toNatClampNeg r14 → vp_in (((z11.1 1) * (3 : Int32)) + (2 : Int32)) 15 ∧ (ew_lp (fun (R : Int32 × ew_M → Prop) (x : Int32 × ew_M) => wX3_takesPaper_146 R Q ((z11.1 1) * (3 : Int32)) x.1 x.2 s2) ((0 : Int32), (ew_sA z16 9 (((z11.1 1) * (3 : Int32)) + (2 : Int32)).toNatClampNeg (((100 : Int32) - r3) - r5)))))) (2 : Int32) s2)) (1 : Int32) s2)))))) ∧ (¬ 0 ≤ (((100 : Int32) - r3) - r5) → Q (0 : Int32) s1))))) (2 : Int32) s2) (1 : Int32) s2) (0 : Int32) s2
set_option maxHeartbeats 4000000 in
set_option maxRecDepth 100000 in
theorem tX3_takesPaper_181 {C : ew_C} {X : ew_X} {b1 : Nat} {E : ew_M → ew_M → ew_S} (hE1 : ∀ (x2 : ew_M), ew_GE X b1 (ew_GT X.2.1 b1) (fun M => E M x2)) (hE2 : ∀ (x1 : ew_M), ew_GE X 42 (ew_GL X.2.1) (fun M => E x1 M)) (Z : ew_Z C X cX3_takesPaper 6 RX3 wsX3_takesPaper ({ frames := 3, cells := 0, slots := 0, locals := 78 } : Room) (some .boolean)) {Q : Int32 → ew_M → Prop} {R181 : Int32 × ew_M → Prop} {v5 : Int32} {s1 : ew_M} {s2 : ew_M} (hR : C.2.2.2.2.2.2.2.2.2.2 = MQ C.2.2.2.2.2.2.2.1 (va_Qi (fun (r : Int32) (u : ew_M) => Q r u) (fun (u : ew_M) => ew_wd X ((fun (u : ew_M) => E u s2) u)) X.2.2.1) C.2.2.2.2.2.2.1 C.2.2.2.2.1 0 0 X.2.2.1) (hR181 : ∀ x : Int32 × ew_M, R181 x → ew_W C X 6 (E x.2 s2) 181 [(0, .ref (X.2.1 b1)), (5, .int x.1)] []) (h : wX3_takesPaper_181 R181 Q v5 s1 s2) : ew_W C X 6 (E s1 s2) 181 [(0, .ref (X.2.1 b1)), (5, .int v5)] [] := by
  refine ez_iload (pc := 181) Z dX3_takesPaper_181 1 rfl ?_
  refine ez_bipush (pc := 183) Z dX3_takesPaper_183 eb_6 ?_
  refine ez_icmp_ge (pc := 185) (tgt := 204) Z dX3_takesPaper_185 rfl (fun c1 => ?_) (fun c1 => ?_)
  · replace h := h.1 c1
    refine ez_aload_n (pc := 204) Z dX3_takesPaper_204 0 rfl rfl ?_
    refine ez_dup (pc := 205) Z dX3_takesPaper_205 rfl ?_
    refine fX3_papers (pc := 206) (v := s1.1 1) Z (hE1 s2) rfl inX3_takesPaper (List.mem_of_getElem? (i := 1) rfl) dX3_takesPaper_206 ?_
    refine ez_iconst (pc := 209) Z dX3_takesPaper_209 ec_1 ?_
    refine ez_iadd (pc := 210) Z dX3_takesPaper_210 ?_
    refine pX3_papers (pc := 211) (M := s1) (M' := ew_sI s1 1 ((s1.1 1) + (1 : Int32))) Z (hE1 s2) rfl inX3_takesPaper (List.mem_of_getElem? (i := 1) rfl) dX3_takesPaper_211 ?_
    refine ez_iconst (pc := 214) Z dX3_takesPaper_214 ec_1 ?_
    exact ez_zret (pc := 215) Z hR (ew_sI s1 1 ((s1.1 1) + (1 : Int32))) rfl h rfl dX3_takesPaper_215
  · replace h := h.2 c1
    refine ez_aload_n (pc := 188) Z dX3_takesPaper_188 0 rfl rfl ?_
    refine ez_iload (pc := 189) Z dX3_takesPaper_189 1 rfl ?_
    refine ez_aload_n (pc := 191) Z dX3_takesPaper_191 0 rfl rfl ?_
    refine fX3_papers (pc := 192) (v := s1.1 1) Z (hE1 s2) rfl inX3_takesPaper (List.mem_of_getElem? (i := 1) rfl) dX3_takesPaper_192 ?_
    refine ez_callVv (pc := 195) (r := b1) (As := [.int v5, .int (s1.1 1)]) (st := []) Z (kX3_weighFirst Z.2.2.2.2.2.2.2.2.2.1 (E := fun q1 => E q1 s2) (hE1 s2) h) gX3_takesPaper_X3_weighFirst rfl rfl rfl hdX3_weighFirst rfl rfl (ew_rT (hE1 s2)) (ew_oT (hE1 s2) _) rfl rfl rfl rfl dX3_takesPaper_195 (fun m3 h => ?_)
    refine ez_iinc (pc := 198) (L' := [(5, .int (v5 + (1 : Int32))), (0, .ref (X.2.1 b1))]) Z dX3_takesPaper_198 1 rfl (ei_1 _) (by decide) rfl ?_
    refine ez_goto (pc := 201) (tgt := 181) Z dX3_takesPaper_201 rfl ?_
    refine ez_sub [(0, .ref (X.2.1 b1)), (5, .int (v5 + (1 : Int32)))] [1, 0] rfl ?_
    exact hR181 _ h
set_option maxHeartbeats 4000000 in
set_option maxRecDepth 100000 in
theorem tX3_takesPaper_146 {C : ew_C} {X : ew_X} {b1 : Nat} {E : ew_M → ew_M → ew_S} (hE1 : ∀ (x2 : ew_M), ew_GE X b1 (ew_GT X.2.1 b1) (fun M => E M x2)) (hE2 : ∀ (x1 : ew_M), ew_GE X 42 (ew_GL X.2.1) (fun M => E x1 M)) (Z : ew_Z C X cX3_takesPaper 6 RX3 wsX3_takesPaper ({ frames := 3, cells := 0, slots := 0, locals := 78 } : Room) (some .boolean)) {Q : Int32 → ew_M → Prop} {R146 : Int32 × ew_M → Prop} {v4 : Int32} {v5 : Int32} {s1 : ew_M} {s2 : ew_M} (hR : C.2.2.2.2.2.2.2.2.2.2 = MQ C.2.2.2.2.2.2.2.1 (va_Qi (fun (r : Int32) (u : ew_M) => Q r u) (fun (u : ew_M) => ew_wd X ((fun (u : ew_M) => E u s2) u)) X.2.2.1) C.2.2.2.2.2.2.1 C.2.2.2.2.1 0 0 X.2.2.1) (hR146 : ∀ x : Int32 × ew_M, R146 x → ew_W C X 6 (E x.2 s2) 146 [(0, .ref (X.2.1 b1)), (1, .ref (X.2.1 42)), (4, .int v4), (5, .int x.1)] []) (h : wX3_takesPaper_146 R146 Q v4 v5 s1 s2) : ew_W C X 6 (E s1 s2) 146 [(0, .ref (X.2.1 b1)), (1, .ref (X.2.1 42)), (4, .int v4), (5, .int v5)] [] := by
  refine ez_iload (pc := 146) Z dX3_takesPaper_146 3 rfl ?_
  refine ez_iconst (pc := 148) Z dX3_takesPaper_148 ec_3 ?_
  refine ez_icmp_ge (pc := 149) (tgt := 178) Z dX3_takesPaper_149 rfl (fun c1 => ?_) (fun c1 => ?_)
  · replace h := h.1 c1
    refine ez_iconst (pc := 178) Z dX3_takesPaper_178 ec_0 ?_
    refine ez_istore (pc := 179) (L' := [(5, .int (0 : Int32)), (0, .ref (X.2.1 b1)), (1, .ref (X.2.1 42)), (4, .int v4)]) Z dX3_takesPaper_179 (by decide) rfl ?_
    refine ez_sub [(0, .ref (X.2.1 b1)), (5, .int (0 : Int32))] [1, 0] rfl ?_
    exact ew_ind (P := fun (x : Int32 × ew_M) => ew_W C X 6 (E x.2 s2) 181 [(0, .ref (X.2.1 b1)), (5, .int x.1)] []) (fun R hR9 x h => tX3_takesPaper_181 hE1 hE2 Z hR  hR9 h) h
  · replace h := h.2 c1
    refine ez_aload_n (pc := 152) Z dX3_takesPaper_152 0 rfl rfl ?_
    refine fX3_gains (pc := 153) (M := s1) Z (hE1 s2) inX3_takesPaper (List.mem_of_getElem? (i := 9) rfl) dX3_takesPaper_153 ?_
    refine ez_iload (pc := 156) Z dX3_takesPaper_156 2 rfl ?_
    refine ez_iload (pc := 158) Z dX3_takesPaper_158 3 rfl ?_
    refine ez_iadd (pc := 160) Z dX3_takesPaper_160 ?_
    refine ez_aload_n (pc := 161) Z dX3_takesPaper_161 1 rfl rfl ?_
    refine ez_iconst (pc := 162) Z dX3_takesPaper_162 ec_3 ?_
    refine ez_iload (pc := 163) Z dX3_takesPaper_163 3 rfl ?_
    refine ez_iadd (pc := 165) Z dX3_takesPaper_165 ?_
    refine ez_callVi (pc := 166) (r := 42) (As := [.int ((3 : Int32) + v5)]) (st := [.int (v4 + v5), .ref (X.2.1 (b1 + 11))]) Z (kX0_number Z.2.2.2.2.2.2.2.2.2.1 (E := fun q1 => E s1 q1) (hE2 s1) h) gX3_takesPaper_X0_number rfl rfl rfl hdX0_number rfl rfl (by decide) (ew_oL (hE2 s1) _) rfl rfl rfl rfl dX3_takesPaper_166 (fun r2 u3 h => ?_)
    refine ez_iconst (pc := 169) Z dX3_takesPaper_169 ec_4 ?_
    refine ez_isub (pc := 170) Z dX3_takesPaper_170 ?_
    refine ez_iast (pc := 171) (n := 15) (a := 10) (M := s1) (M' := ew_sA s1 10 (v4 + v5).toNatClampNeg (r2 - (4 : Int32))) Z (hE1 s2) 11 rfl (by decide : 10 < 12) rfl rfl h.1 dX3_takesPaper_171 ?_
    replace h := h.2
    refine ez_iinc (pc := 172) (L' := [(5, .int (v5 + (1 : Int32))), (0, .ref (X.2.1 b1)), (1, .ref (X.2.1 42)), (4, .int v4)]) Z dX3_takesPaper_172 3 rfl (ei_1 _) (by decide) rfl ?_
    refine ez_goto (pc := 175) (tgt := 146) Z dX3_takesPaper_175 rfl ?_
    refine ez_sub [(0, .ref (X.2.1 b1)), (1, .ref (X.2.1 42)), (4, .int v4), (5, .int (v5 + (1 : Int32)))] [1, 2, 3, 0] rfl ?_
    exact hR146 _ h
set_option maxHeartbeats 4000000 in
set_option maxRecDepth 100000 in
theorem kX3_takesPaper {X : ew_X} {l : Launch} (hX : ew_Ap X) {b1 : Nat} {E : ew_M → ew_M → ew_S} (hE1 : ∀ (x2 : ew_M), ew_GE X b1 (ew_GT X.2.1 b1) (fun M => E M x2)) (hE2 : ∀ (x1 : ew_M), ew_GE X 42 (ew_GL X.2.1) (fun M => E x1 M)) {Q : Int32 → ew_M → Prop} {s1 : ew_M} {s2 : ew_M} (h : wX3_takesPaper Q s1 s2) : Met l yX3_takesPaper wsX3_takesPaper ({ frames := 3, cells := 0, slots := 0, locals := 78 } : Room) (va_Pc [.ref (X.2.1 b1), .ref (X.2.1 42)] (ew_wd X (E s1 s2))) (va_Qi (fun (r : Int32) (u : ew_M) => Q r u) (fun (u : ew_M) => ew_wd X ((fun (u : ew_M) => E u s2) u)) X.2.2.1) 0 0 X.2.2.1 := by
  refine ew_met (As := [.ref (X.2.1 b1), .ref (X.2.1 42)]) (L0 := [(0, .ref (X.2.1 b1)), (1, .ref (X.2.1 42))]) X l hX (by decide) rfl rfl rfl rfl (fun C hl Z hR => ?_)
  subst hl
  refine ez_aload_n (pc := 0) Z dX3_takesPaper_0 1 rfl rfl ?_
  refine ez_iconst (pc := 1) Z dX3_takesPaper_1 ec_0 ?_
  refine ez_callVi (pc := 2) (r := 42) (As := [.int (0 : Int32)]) (st := []) Z (kX0_number Z.2.2.2.2.2.2.2.2.2.1 (E := fun q1 => E s1 q1) (hE2 s1) h) gX3_takesPaper_X0_number rfl rfl rfl hdX0_number rfl rfl (by decide) (ew_oL (hE2 s1) _) rfl rfl rfl rfl dX3_takesPaper_2 (fun r1 u2 h => ?_)
  refine ez_istore_n (pc := 5) (L' := [(2, .int r1), (0, .ref (X.2.1 b1)), (1, .ref (X.2.1 42))]) Z dX3_takesPaper_5 rfl (by decide) rfl ?_
  refine ez_bipush (pc := 6) Z dX3_takesPaper_6 eb_100 ?_
  refine ez_aload_n (pc := 8) Z dX3_takesPaper_8 2 rfl rfl ?_
  refine ez_iconst (pc := 9) Z dX3_takesPaper_9 ec_1 ?_
  refine ez_callVi (pc := 10) (r := 42) (As := [.int (1 : Int32)]) (st := [.int (100 : Int32)]) Z (kX0_number Z.2.2.2.2.2.2.2.2.2.1 (E := fun q1 => E s1 q1) (hE2 s1) h) gX3_takesPaper_X0_number rfl rfl rfl hdX0_number rfl rfl (by decide) (ew_oL (hE2 s1) _) rfl rfl rfl rfl dX3_takesPaper_10 (fun r3 u4 h => ?_)
  refine ez_isub (pc := 13) Z dX3_takesPaper_13 ?_
  refine ez_aload_n (pc := 14) Z dX3_takesPaper_14 2 rfl rfl ?_
  refine ez_iconst (pc := 15) Z dX3_takesPaper_15 ec_2 ?_
  refine ez_callVi (pc := 16) (r := 42) (As := [.int (2 : Int32)]) (st := [.int ((100 : Int32) - r3)]) Z (kX0_number Z.2.2.2.2.2.2.2.2.2.1 (E := fun q1 => E s1 q1) (hE2 s1) h) gX3_takesPaper_X0_number rfl rfl rfl hdX0_number rfl rfl (by decide) (ew_oL (hE2 s1) _) rfl rfl rfl rfl dX3_takesPaper_16 (fun r5 u6 h => ?_)
  refine ez_isub (pc := 19) Z dX3_takesPaper_19 ?_
  refine ez_istore_n (pc := 20) (L' := [(3, .int (((100 : Int32) - r3) - r5)), (2, .int r1), (0, .ref (X.2.1 b1)), (1, .ref (X.2.1 42))]) Z dX3_takesPaper_20 rfl (by decide) rfl ?_
  refine ez_aload_n (pc := 21) Z dX3_takesPaper_21 2 rfl rfl ?_
  refine fX3_papers (pc := 22) (v := s1.1 1) Z (hE1 s2) rfl inX3_takesPaper (List.mem_of_getElem? (i := 1) rfl) dX3_takesPaper_22 ?_
  refine ez_iconst (pc := 25) Z dX3_takesPaper_25 ec_5 ?_
  refine ez_icmp_ge (pc := 26) (tgt := 47) Z dX3_takesPaper_26 rfl (fun c7 => ?_) (fun c7 => ?_)
  · replace h := h.1 c7
    refine ez_iconst (pc := 47) Z dX3_takesPaper_47 ec_0 ?_
    exact ez_zret (pc := 48) Z hR s1 rfl h rfl dX3_takesPaper_48
  · replace h := h.2 c7
    refine ez_iload_n (pc := 29) Z dX3_takesPaper_29 1 rfl rfl ?_
    refine ez_if_eq (pc := 30) (tgt := 47) Z dX3_takesPaper_30 rfl (fun c8 => ?_) (fun c8 => ?_)
    · replace h := h.1 c8
      refine ez_iconst (pc := 47) Z dX3_takesPaper_47 ec_0 ?_
      exact ez_zret (pc := 48) Z hR s1 rfl h rfl dX3_takesPaper_48
    · replace h := h.2 c8
      refine ez_iload_n (pc := 33) Z dX3_takesPaper_33 1 rfl rfl ?_
      refine ez_iconst (pc := 34) Z dX3_takesPaper_34 ec_1 ?_
      refine ez_aload_n (pc := 35) Z dX3_takesPaper_35 2 rfl rfl ?_
      refine fX3_persons (pc := 36) (v := s1.1 0) Z (hE1 s2) rfl inX3_takesPaper (List.mem_of_getElem? (i := 2) rfl) dX3_takesPaper_36 ?_
      refine ez_ishl (pc := 39) Z dX3_takesPaper_39 ?_
      refine ez_icmp_ge (pc := 40) (tgt := 47) Z dX3_takesPaper_40 rfl (fun c9 => ?_) (fun c9 => ?_)
      · replace h := h.1 c9
        refine ez_iconst (pc := 47) Z dX3_takesPaper_47 ec_0 ?_
        exact ez_zret (pc := 48) Z hR s1 rfl h rfl dX3_takesPaper_48
      · replace h := h.2 c9
        refine ez_iload_n (pc := 43) Z dX3_takesPaper_43 0 rfl rfl ?_
        refine ez_if_ge (pc := 44) (tgt := 49) Z dX3_takesPaper_44 rfl (fun c10 => ?_) (fun c10 => ?_)
        · replace h := h.1 c10
          refine ez_aload_n (pc := 49) Z dX3_takesPaper_49 2 rfl rfl ?_
          refine fX3_bound (pc := 50) (M := s1) Z (hE1 s2) inX3_takesPaper (List.mem_of_getElem? (i := 3) rfl) dX3_takesPaper_50 ?_
          refine ez_aload_n (pc := 53) Z dX3_takesPaper_53 2 rfl rfl ?_
          refine fX3_papers (pc := 54) (v := s1.1 1) Z (hE1 s2) rfl inX3_takesPaper (List.mem_of_getElem? (i := 1) rfl) dX3_takesPaper_54 ?_
          refine ez_iload_n (pc := 57) Z dX3_takesPaper_57 1 rfl rfl ?_
          refine ez_iast (pc := 58) (n := 5) (a := 4) (M := s1) (M' := ew_sA s1 4 (s1.1 1).toNatClampNeg r1) Z (hE1 s2) 5 rfl (by decide : 4 < 12) rfl rfl h.1 dX3_takesPaper_58 ?_
          replace h := h.2
          refine ez_aload_n (pc := 59) Z dX3_takesPaper_59 2 rfl rfl ?_
          refine fX3_readers (pc := 60) (M := ew_sA s1 4 (s1.1 1).toNatClampNeg r1) Z (hE1 s2) inX3_takesPaper (List.mem_of_getElem? (i := 4) rfl) dX3_takesPaper_60 ?_
          refine ez_aload_n (pc := 63) Z dX3_takesPaper_63 2 rfl rfl ?_
          refine fX3_papers (pc := 64) (v := s1.1 1) Z (hE1 s2) rfl inX3_takesPaper (List.mem_of_getElem? (i := 1) rfl) dX3_takesPaper_64 ?_
          refine ez_iconst (pc := 67) Z dX3_takesPaper_67 ec_0 ?_
          refine ez_iast (pc := 68) (n := 5) (a := 5) (M := ew_sA s1 4 (s1.1 1).toNatClampNeg r1) (M' := ew_sA (ew_sA s1 4 (s1.1 1).toNatClampNeg r1) 5 (s1.1 1).toNatClampNeg (0 : Int32)) Z (hE1 s2) 6 rfl (by decide : 5 < 12) rfl rfl h.1 dX3_takesPaper_68 ?_
          replace h := h.2
          refine ez_aload_n (pc := 69) Z dX3_takesPaper_69 2 rfl rfl ?_
          refine fX3_sayers (pc := 70) (M := ew_sA (ew_sA s1 4 (s1.1 1).toNatClampNeg r1) 5 (s1.1 1).toNatClampNeg (0 : Int32)) Z (hE1 s2) inX3_takesPaper (List.mem_of_getElem? (i := 5) rfl) dX3_takesPaper_70 ?_
          refine ez_aload_n (pc := 73) Z dX3_takesPaper_73 2 rfl rfl ?_
          refine fX3_papers (pc := 74) (v := s1.1 1) Z (hE1 s2) rfl inX3_takesPaper (List.mem_of_getElem? (i := 1) rfl) dX3_takesPaper_74 ?_
          refine ez_iconst (pc := 77) Z dX3_takesPaper_77 ec_0 ?_
          refine ez_iast (pc := 78) (n := 5) (a := 6) (M := ew_sA (ew_sA s1 4 (s1.1 1).toNatClampNeg r1) 5 (s1.1 1).toNatClampNeg (0 : Int32)) (M' := ew_sA (ew_sA (ew_sA s1 4 (s1.1 1).toNatClampNeg r1) 5 (s1.1 1).toNatClampNeg (0 : Int32)) 6 (s1.1 1).toNatClampNeg (0 : Int32)) Z (hE1 s2) 7 rfl (by decide : 6 < 12) rfl rfl h.1 dX3_takesPaper_78 ?_
          replace h := h.2
          refine ez_aload_n (pc := 79) Z dX3_takesPaper_79 2 rfl rfl ?_
          refine fX3_trueThing (pc := 80) (M := ew_sA (ew_sA (ew_sA s1 4 (s1.1 1).toNatClampNeg r1) 5 (s1.1 1).toNatClampNeg (0 : Int32)) 6 (s1.1 1).toNatClampNeg (0 : Int32)) Z (hE1 s2) inX3_takesPaper (List.mem_of_getElem? (i := 6) rfl) dX3_takesPaper_80 ?_
          refine ez_aload_n (pc := 83) Z dX3_takesPaper_83 2 rfl rfl ?_
          refine fX3_papers (pc := 84) (v := s1.1 1) Z (hE1 s2) rfl inX3_takesPaper (List.mem_of_getElem? (i := 1) rfl) dX3_takesPaper_84 ?_
          refine ez_iconst (pc := 87) Z dX3_takesPaper_87 ec_0 ?_
          refine ez_iast (pc := 88) (n := 5) (a := 7) (M := ew_sA (ew_sA (ew_sA s1 4 (s1.1 1).toNatClampNeg r1) 5 (s1.1 1).toNatClampNeg (0 : Int32)) 6 (s1.1 1).toNatClampNeg (0 : Int32)) (M' := ew_sA (ew_sA (ew_sA (ew_sA s1 4 (s1.1 1).toNatClampNeg r1) 5 (s1.1 1).toNatClampNeg (0 : Int32)) 6 (s1.1 1).toNatClampNeg (0 : Int32)) 7 (s1.1 1).toNatClampNeg (0 : Int32)) Z (hE1 s2) 8 rfl (by decide : 7 < 12) rfl rfl h.1 dX3_takesPaper_88 ?_
          replace h := h.2
          refine ez_nm (E := (fun M => E M s2)) (fun z11 ez11 => ?_)
          replace h := h z11 ez11
          refine ez_aload_n (pc := 89) Z dX3_takesPaper_89 2 rfl rfl ?_
          refine fX3_lasted (pc := 90) (M := z11) Z (hE1 s2) inX3_takesPaper (List.mem_of_getElem? (i := 7) rfl) dX3_takesPaper_90 ?_
          refine ez_aload_n (pc := 93) Z dX3_takesPaper_93 2 rfl rfl ?_
          refine fX3_papers (pc := 94) (v := z11.1 1) Z (hE1 s2) rfl inX3_takesPaper (List.mem_of_getElem? (i := 1) rfl) dX3_takesPaper_94 ?_
          refine ez_iconst (pc := 97) Z dX3_takesPaper_97 ec_0 ?_
          refine ez_iast (pc := 98) (n := 5) (a := 8) (M := z11) (M' := ew_sA z11 8 (z11.1 1).toNatClampNeg (0 : Int32)) Z (hE1 s2) 9 rfl (by decide : 8 < 12) rfl rfl h.1 dX3_takesPaper_98 ?_
          replace h := h.2
          refine ez_aload_n (pc := 99) Z dX3_takesPaper_99 2 rfl rfl ?_
          refine fX3_papers (pc := 100) (v := z11.1 1) Z (hE1 s2) rfl inX3_takesPaper (List.mem_of_getElem? (i := 1) rfl) dX3_takesPaper_100 ?_
          refine ez_iconst (pc := 103) Z dX3_takesPaper_103 ec_3 ?_
          refine ez_imul (pc := 104) Z dX3_takesPaper_104 ?_
          refine ez_istore (pc := 105) (L' := [(4, .int ((z11.1 1) * (3 : Int32))), (3, .int (((100 : Int32) - r3) - r5)), (2, .int r1), (0, .ref (X.2.1 b1)), (1, .ref (X.2.1 42))]) Z dX3_takesPaper_105 (by decide) rfl ?_
          refine ez_aload_n (pc := 107) Z dX3_takesPaper_107 3 rfl rfl ?_
          refine fX3_hundredths (pc := 108) (M := ew_sA z11 8 (z11.1 1).toNatClampNeg (0 : Int32)) Z (hE1 s2) inX3_takesPaper (List.mem_of_getElem? (i := 8) rfl) dX3_takesPaper_108 ?_
          refine ez_iload (pc := 111) Z dX3_takesPaper_111 0 rfl ?_
          refine ez_aload_n (pc := 113) Z dX3_takesPaper_113 4 rfl rfl ?_
          refine ez_iconst (pc := 114) Z dX3_takesPaper_114 ec_1 ?_
          refine ez_callVi (pc := 115) (r := 42) (As := [.int (1 : Int32)]) (st := [.int ((z11.1 1) * (3 : Int32)), .ref (X.2.1 (b1 + 10))]) Z (kX0_number Z.2.2.2.2.2.2.2.2.2.1 (E := fun q1 => E (ew_sA z11 8 (z11.1 1).toNatClampNeg (0 : Int32)) q1) (hE2 (ew_sA z11 8 (z11.1 1).toNatClampNeg (0 : Int32))) h) gX3_takesPaper_X0_number rfl rfl rfl hdX0_number rfl rfl (by decide) (ew_oL (hE2 (ew_sA z11 8 (z11.1 1).toNatClampNeg (0 : Int32))) _) rfl rfl rfl rfl dX3_takesPaper_115 (fun r12 u13 h => ?_)
          refine ez_iast (pc := 118) (n := 15) (a := 9) (M := ew_sA z11 8 (z11.1 1).toNatClampNeg (0 : Int32)) (M' := ew_sA (ew_sA z11 8 (z11.1 1).toNatClampNeg (0 : Int32)) 9 ((z11.1 1) * (3 : Int32)).toNatClampNeg r12) Z (hE1 s2) 10 rfl (by decide : 9 < 12) rfl rfl h.1 dX3_takesPaper_118 ?_
          replace h := h.2
          refine ez_aload_n (pc := 119) Z dX3_takesPaper_119 3 rfl rfl ?_
          refine fX3_hundredths (pc := 120) (M := ew_sA (ew_sA z11 8 (z11.1 1).toNatClampNeg (0 : Int32)) 9 ((z11.1 1) * (3 : Int32)).toNatClampNeg r12) Z (hE1 s2) inX3_takesPaper (List.mem_of_getElem? (i := 8) rfl) dX3_takesPaper_120 ?_
          refine ez_iload (pc := 123) Z dX3_takesPaper_123 0 rfl ?_
          refine ez_iconst (pc := 125) Z dX3_takesPaper_125 ec_1 ?_
          refine ez_iadd (pc := 126) Z dX3_takesPaper_126 ?_
          refine ez_aload_n (pc := 127) Z dX3_takesPaper_127 4 rfl rfl ?_
          refine ez_iconst (pc := 128) Z dX3_takesPaper_128 ec_2 ?_
          refine ez_callVi (pc := 129) (r := 42) (As := [.int (2 : Int32)]) (st := [.int (((z11.1 1) * (3 : Int32)) + (1 : Int32)), .ref (X.2.1 (b1 + 10))]) Z (kX0_number Z.2.2.2.2.2.2.2.2.2.1 (E := fun q1 => E (ew_sA (ew_sA z11 8 (z11.1 1).toNatClampNeg (0 : Int32)) 9 ((z11.1 1) * (3 : Int32)).toNatClampNeg r12) q1) (hE2 (ew_sA (ew_sA z11 8 (z11.1 1).toNatClampNeg (0 : Int32)) 9 ((z11.1 1) * (3 : Int32)).toNatClampNeg r12)) h) gX3_takesPaper_X0_number rfl rfl rfl hdX0_number rfl rfl (by decide) (ew_oL (hE2 (ew_sA (ew_sA z11 8 (z11.1 1).toNatClampNeg (0 : Int32)) 9 ((z11.1 1) * (3 : Int32)).toNatClampNeg r12)) _) rfl rfl rfl rfl dX3_takesPaper_129 (fun r14 u15 h => ?_)
          refine ez_iast (pc := 132) (n := 15) (a := 9) (M := ew_sA (ew_sA z11 8 (z11.1 1).toNatClampNeg (0 : Int32)) 9 ((z11.1 1) * (3 : Int32)).toNatClampNeg r12) (M' := ew_sA (ew_sA (ew_sA z11 8 (z11.1 1).toNatClampNeg (0 : Int32)) 9 ((z11.1 1) * (3 : Int32)).toNatClampNeg r12) 9 (((z11.1 1) * (3 : Int32)) + (1 : Int32)).toNatClampNeg r14) Z (hE1 s2) 10 rfl (by decide : 9 < 12) rfl rfl h.1 dX3_takesPaper_132 ?_
          replace h := h.2
          refine ez_nm (E := (fun M => E M s2)) (fun z16 ez16 => ?_)
          replace h := h z16 ez16
          refine ez_aload_n (pc := 133) Z dX3_takesPaper_133 3 rfl rfl ?_
          refine fX3_hundredths (pc := 134) (M := z16) Z (hE1 s2) inX3_takesPaper (List.mem_of_getElem? (i := 8) rfl) dX3_takesPaper_134 ?_
          refine ez_iload (pc := 137) Z dX3_takesPaper_137 0 rfl ?_
          refine ez_iconst (pc := 139) Z dX3_takesPaper_139 ec_2 ?_
          refine ez_iadd (pc := 140) Z dX3_takesPaper_140 ?_
          refine ez_iload_n (pc := 141) Z dX3_takesPaper_141 1 rfl rfl ?_
          refine ez_iast (pc := 142) (n := 15) (a := 9) (M := z16) (M' := ew_sA z16 9 (((z11.1 1) * (3 : Int32)) + (2 : Int32)).toNatClampNeg (((100 : Int32) - r3) - r5)) Z (hE1 s2) 10 rfl (by decide : 9 < 12) rfl rfl h.1 dX3_takesPaper_142 ?_
          replace h := h.2
          refine ez_iconst (pc := 143) Z dX3_takesPaper_143 ec_0 ?_
          refine ez_istore (pc := 144) (L' := [(5, .int (0 : Int32)), (4, .int ((z11.1 1) * (3 : Int32))), (3, .int (((100 : Int32) - r3) - r5)), (2, .int r1), (0, .ref (X.2.1 b1)), (1, .ref (X.2.1 42))]) Z dX3_takesPaper_144 (by decide) rfl ?_
          refine ez_sub [(0, .ref (X.2.1 b1)), (1, .ref (X.2.1 42)), (4, .int ((z11.1 1) * (3 : Int32))), (5, .int (0 : Int32))] [4, 5, 1, 0] rfl ?_
          exact ew_ind (P := fun (x : Int32 × ew_M) => ew_W C X 6 (E x.2 s2) 146 [(0, .ref (X.2.1 b1)), (1, .ref (X.2.1 42)), (4, .int ((z11.1 1) * (3 : Int32))), (5, .int x.1)] []) (fun R hR9 x h => tX3_takesPaper_146 hE1 hE2 Z hR  hR9 h) h
        · replace h := h.2 c10
          refine ez_iconst (pc := 47) Z dX3_takesPaper_47 ec_0 ?_
          exact ez_zret (pc := 48) Z hR s1 rfl h rfl dX3_takesPaper_48
theorem inX3_takesLaw : ∀ w ∈ wsX30, w ∈ wsX3_takesLaw := fun _ h => List.mem_cons_of_mem _ (List.mem_append_right _ (h))
theorem hdX3_takesLaw : yX3_takesLaw.cls = RX3 ∧ yX3_takesLaw.cls ≠ "java/lang/invoke/MethodHandle" ∧ yX3_takesLaw.cls ≠ "java/lang/invoke/VarHandle" ∧ (parseMethodDescriptor yX3_takesLaw.desc).map (fun d => d.parameters.length) = some 1 := by decide +kernel
def wX3_takesLaw (Q : Int32 → ew_M → Prop) (p1 : Int32) (s1 : ew_M) : Prop := wX4_isNoLaw (fun (r1 : Int32) => (r1 = 0 → Q (1 : Int32) (ew_sI s1 2 p1)) ∧ (¬ r1 = 0 → Q (0 : Int32) s1)) p1
set_option maxHeartbeats 4000000 in
set_option maxRecDepth 100000 in
theorem kX3_takesLaw {X : ew_X} {l : Launch} (hX : ew_Ap X) {b1 : Nat} {E : ew_M → ew_S} (hE1 : ew_GE X b1 (ew_GT X.2.1 b1) E) {Q : Int32 → ew_M → Prop} {p1 : Int32} {s1 : ew_M} (h : wX3_takesLaw Q p1 s1) : Met l yX3_takesLaw wsX3_takesLaw ({ frames := 1, cells := 0, slots := 0, locals := 20 } : Room) (va_Pc [.ref (X.2.1 b1), .int p1] (ew_wd X (E s1))) (va_Qi (fun (r : Int32) (u : ew_M) => Q r u) (fun (u : ew_M) => ew_wd X ((fun (u : ew_M) => E u) u)) X.2.2.1) 0 0 X.2.2.1 := by
  refine ew_met (As := [.ref (X.2.1 b1), .int p1]) (L0 := [(0, .ref (X.2.1 b1)), (1, .int p1)]) X l hX (by decide) rfl rfl rfl rfl (fun C hl Z hR => ?_)
  subst hl
  refine ez_iload_n (pc := 0) Z dX3_takesLaw_0 1 rfl rfl ?_
  refine ez_callNi (pc := 1) (As := [.int p1]) (st := []) Z (kX4_isNoLaw Z.2.2.2.2.2.2.2.2.2.1 (S := E s1) h) gX3_takesLaw_X4_isNoLaw_n107 (List.mem_of_getElem? (i := 3) rfl) (List.mem_of_getElem? (i := 2) rfl) rfl rfl rfl hdX4_isNoLaw rfl rfl rfl rfl rfl dX3_takesLaw_1 (fun r1 u2 h => ?_)
  refine ez_if_eq (pc := 4) (tgt := 9) Z dX3_takesLaw_4 rfl (fun c3 => ?_) (fun c3 => ?_)
  · replace h := h.1 c3
    refine ez_aload_n (pc := 9) Z dX3_takesLaw_9 0 rfl rfl ?_
    refine ez_iload_n (pc := 10) Z dX3_takesLaw_10 1 rfl rfl ?_
    refine pX3_ruling (pc := 11) (M := s1) (M' := ew_sI s1 2 p1) Z hE1 rfl inX3_takesLaw (List.mem_of_getElem? (i := 1) rfl) dX3_takesLaw_11 ?_
    refine ez_iconst (pc := 14) Z dX3_takesLaw_14 ec_1 ?_
    exact ez_zret (pc := 15) Z hR (ew_sI s1 2 p1) rfl h rfl dX3_takesLaw_15
  · replace h := h.2 c3
    refine ez_iconst (pc := 7) Z dX3_takesLaw_7 ec_0 ?_
    exact ez_zret (pc := 8) Z hR s1 rfl h rfl dX3_takesLaw_8
theorem inX3_takesClerk : ∀ w ∈ wsX30, w ∈ wsX3_takesClerk := fun _ h => List.mem_cons_of_mem _ (List.mem_append_right _ (h))
theorem hdX3_takesClerk : yX3_takesClerk.cls = RX3 ∧ yX3_takesClerk.cls ≠ "java/lang/invoke/MethodHandle" ∧ yX3_takesClerk.cls ≠ "java/lang/invoke/VarHandle" ∧ (parseMethodDescriptor yX3_takesClerk.desc).map (fun d => d.parameters.length) = some 1 := by decide +kernel
def wX3_takesClerk (Q : Int32 → ew_M → Prop) (p1 : Int32) (s1 : ew_M) : Prop := (p1 ≤ (100 : Int32) → Q (1 : Int32) (ew_sI s1 3 p1)) ∧ (¬ p1 ≤ (100 : Int32) → Q (0 : Int32) s1)
set_option maxHeartbeats 4000000 in
set_option maxRecDepth 100000 in
theorem kX3_takesClerk {X : ew_X} {l : Launch} (hX : ew_Ap X) {b1 : Nat} {E : ew_M → ew_S} (hE1 : ew_GE X b1 (ew_GT X.2.1 b1) E) {Q : Int32 → ew_M → Prop} {p1 : Int32} {s1 : ew_M} (h : wX3_takesClerk Q p1 s1) : Met l yX3_takesClerk wsX3_takesClerk ({ frames := 0, cells := 0, slots := 0, locals := 0 } : Room) (va_Pc [.ref (X.2.1 b1), .int p1] (ew_wd X (E s1))) (va_Qi (fun (r : Int32) (u : ew_M) => Q r u) (fun (u : ew_M) => ew_wd X ((fun (u : ew_M) => E u) u)) X.2.2.1) 0 0 X.2.2.1 := by
  refine ew_met (As := [.ref (X.2.1 b1), .int p1]) (L0 := [(0, .ref (X.2.1 b1)), (1, .int p1)]) X l hX (by decide) rfl rfl rfl rfl (fun C hl Z hR => ?_)
  subst hl
  refine ez_iload_n (pc := 0) Z dX3_takesClerk_0 1 rfl rfl ?_
  refine ez_bipush (pc := 1) Z dX3_takesClerk_1 eb_100 ?_
  refine ez_icmp_le (pc := 3) (tgt := 8) Z dX3_takesClerk_3 rfl (fun c1 => ?_) (fun c1 => ?_)
  · replace h := h.1 c1
    refine ez_aload_n (pc := 8) Z dX3_takesClerk_8 0 rfl rfl ?_
    refine ez_iload_n (pc := 9) Z dX3_takesClerk_9 1 rfl rfl ?_
    refine pX3_clerk (pc := 10) (M := s1) (M' := ew_sI s1 3 p1) Z hE1 rfl inX3_takesClerk (List.mem_of_getElem? (i := 1) rfl) dX3_takesClerk_10 ?_
    refine ez_iconst (pc := 13) Z dX3_takesClerk_13 ec_1 ?_
    exact ez_zret (pc := 14) Z hR (ew_sI s1 3 p1) rfl h rfl dX3_takesClerk_14
  · replace h := h.2 c1
    refine ez_iconst (pc := 6) Z dX3_takesClerk_6 ec_0 ?_
    exact ez_zret (pc := 7) Z hR s1 rfl h rfl dX3_takesClerk_7
theorem inX3_takes : ∀ w ∈ wsX30, w ∈ wsX3_takes := fun _ h => List.mem_cons_of_mem _ (List.mem_append_right _ (h))
theorem hdX3_takes : yX3_takes.cls = RX3 ∧ yX3_takes.cls ≠ "java/lang/invoke/MethodHandle" ∧ yX3_takes.cls ≠ "java/lang/invoke/VarHandle" ∧ (parseMethodDescriptor yX3_takes.desc).map (fun d => d.parameters.length) = some 1 := by decide +kernel
def wX3_takes (Q : Int32 → ew_M → Prop) (s1 : ew_M) (s2 : ew_M) : Prop := wX0_sortOfStatement (fun (r1 : Int32) => (r1 = (97 : Int32) → wX3_takesPaper (fun (r4 : Int32) (m5 : ew_M) => narrow .boolean (.int r4) = .int r4 ∧ Q r4 m5) s1 s2) ∧ (¬ r1 = (97 : Int32) → (r1 = (108 : Int32) → wX0_number (fun (r7 : Int32) => wX3_takesLaw (fun (r9 : Int32) (m10 : ew_M) => narrow .boolean (.int r9) = .int r9 ∧ Q r9 m10) r7 s1) (0 : Int32) s2) ∧ (¬ r1 = (108 : Int32) → (r1 = (112 : Int32) → wX0_number (fun (r12 : Int32) => wX0_number (fun (r14 : Int32) => wX0_number (fun (r16 : Int32) => wX3_takesPerson (fun (r18 : Int32) (m19 : ew_M) => narrow .boolean (.int r18) = .int r18 ∧ Q r18 m19) r12 r14 r16 s1) (2 : Int32) s2) (1 : Int32) s2) (0 : Int32) s2) ∧ (¬ r1 = (112 : Int32) → wX0_number (fun (r20 : Int32) => wX3_takesClerk (fun (r22 : Int32) (m23 : ew_M) => narrow .boolean (.int r22) = .int r22 ∧ Q r22 m23) r20 s1) (0 : Int32) s2)))) s2
set_option maxHeartbeats 4000000 in
set_option maxRecDepth 100000 in
theorem kX3_takes {X : ew_X} {l : Launch} (hX : ew_Ap X) {b1 : Nat} {E : ew_M → ew_M → ew_S} (hE1 : ∀ (x2 : ew_M), ew_GE X b1 (ew_GT X.2.1 b1) (fun M => E M x2)) (hE2 : ∀ (x1 : ew_M), ew_GE X 42 (ew_GL X.2.1) (fun M => E x1 M)) {Q : Int32 → ew_M → Prop} {s1 : ew_M} {s2 : ew_M} (h : wX3_takes Q s1 s2) : Met l yX3_takes wsX3_takes ({ frames := 4, cells := 0, slots := 0, locals := 103 } : Room) (va_Pc [.ref (X.2.1 b1), .ref (X.2.1 42)] (ew_wd X (E s1 s2))) (va_Qi (fun (r : Int32) (u : ew_M) => Q r u) (fun (u : ew_M) => ew_wd X ((fun (u : ew_M) => E u s2) u)) X.2.2.1) 0 0 X.2.2.1 := by
  refine ew_met (As := [.ref (X.2.1 b1), .ref (X.2.1 42)]) (L0 := [(0, .ref (X.2.1 b1)), (1, .ref (X.2.1 42))]) X l hX (by decide) rfl rfl rfl rfl (fun C hl Z hR => ?_)
  subst hl
  refine ez_aload_n (pc := 0) Z dX3_takes_0 1 rfl rfl ?_
  refine ez_callVi (pc := 1) (r := 42) (As := []) (st := []) Z (kX0_sortOfStatement Z.2.2.2.2.2.2.2.2.2.1 (E := fun q1 => E s1 q1) (hE2 s1) h) gX3_takes_X0_sortOfStatement rfl rfl rfl hdX0_sortOfStatement rfl rfl (by decide) (ew_oL (hE2 s1) _) rfl rfl rfl rfl dX3_takes_1 (fun r1 u2 h => ?_)
  by_cases c3 : r1 = (97 : Int32)
  · replace h := h.1 c3
    refine ez_lkpI (pc := 4) (off := 56) (tgt := 60) Z dX3_takes_4 (97 : Int32) c3 (by decide) (by decide +kernel) rfl ?_
    refine ez_aload_n (pc := 60) Z dX3_takes_60 0 rfl rfl ?_
    refine ez_aload_n (pc := 61) Z dX3_takes_61 1 rfl rfl ?_
    refine ez_callVi (pc := 62) (r := b1) (As := [.ref (X.2.1 42)]) (st := []) Z (kX3_takesPaper Z.2.2.2.2.2.2.2.2.2.1 (E := E) hE1 hE2 h) gX3_takes_X3_takesPaper rfl rfl rfl hdX3_takesPaper rfl rfl (ew_rT (hE1 s2)) (ew_oT (hE1 s2) _) rfl rfl rfl rfl dX3_takes_62 (fun r4 m5 h => ?_)
    exact ez_zret (pc := 65) Z hR m5 h.1 h.2 rfl dX3_takes_65
  · replace h := h.2 c3
    by_cases c6 : r1 = (108 : Int32)
    · replace h := h.1 c6
      refine ez_lkpI (pc := 4) (off := 62) (tgt := 66) Z dX3_takes_4 (108 : Int32) c6 (by decide) (by decide +kernel) rfl ?_
      refine ez_aload_n (pc := 66) Z dX3_takes_66 0 rfl rfl ?_
      refine ez_aload_n (pc := 67) Z dX3_takes_67 1 rfl rfl ?_
      refine ez_iconst (pc := 68) Z dX3_takes_68 ec_0 ?_
      refine ez_callVi (pc := 69) (r := 42) (As := [.int (0 : Int32)]) (st := [.ref (X.2.1 b1)]) Z (kX0_number Z.2.2.2.2.2.2.2.2.2.1 (E := fun q1 => E s1 q1) (hE2 s1) h) gX3_takes_X0_number rfl rfl rfl hdX0_number rfl rfl (by decide) (ew_oL (hE2 s1) _) rfl rfl rfl rfl dX3_takes_69 (fun r7 u8 h => ?_)
      refine ez_callVi (pc := 72) (r := b1) (As := [.int r7]) (st := []) Z (kX3_takesLaw Z.2.2.2.2.2.2.2.2.2.1 (E := fun q1 => E q1 s2) (hE1 s2) h) gX3_takes_X3_takesLaw rfl rfl rfl hdX3_takesLaw rfl rfl (ew_rT (hE1 s2)) (ew_oT (hE1 s2) _) rfl rfl rfl rfl dX3_takes_72 (fun r9 m10 h => ?_)
      exact ez_zret (pc := 75) Z hR m10 h.1 h.2 rfl dX3_takes_75
    · replace h := h.2 c6
      by_cases c11 : r1 = (112 : Int32)
      · replace h := h.1 c11
        refine ez_lkpI (pc := 4) (off := 36) (tgt := 40) Z dX3_takes_4 (112 : Int32) c11 (by decide) (by decide +kernel) rfl ?_
        refine ez_aload_n (pc := 40) Z dX3_takes_40 0 rfl rfl ?_
        refine ez_aload_n (pc := 41) Z dX3_takes_41 1 rfl rfl ?_
        refine ez_iconst (pc := 42) Z dX3_takes_42 ec_0 ?_
        refine ez_callVi (pc := 43) (r := 42) (As := [.int (0 : Int32)]) (st := [.ref (X.2.1 b1)]) Z (kX0_number Z.2.2.2.2.2.2.2.2.2.1 (E := fun q1 => E s1 q1) (hE2 s1) h) gX3_takes_X0_number rfl rfl rfl hdX0_number rfl rfl (by decide) (ew_oL (hE2 s1) _) rfl rfl rfl rfl dX3_takes_43 (fun r12 u13 h => ?_)
        refine ez_aload_n (pc := 46) Z dX3_takes_46 1 rfl rfl ?_
        refine ez_iconst (pc := 47) Z dX3_takes_47 ec_1 ?_
        refine ez_callVi (pc := 48) (r := 42) (As := [.int (1 : Int32)]) (st := [.int r12, .ref (X.2.1 b1)]) Z (kX0_number Z.2.2.2.2.2.2.2.2.2.1 (E := fun q1 => E s1 q1) (hE2 s1) h) gX3_takes_X0_number rfl rfl rfl hdX0_number rfl rfl (by decide) (ew_oL (hE2 s1) _) rfl rfl rfl rfl dX3_takes_48 (fun r14 u15 h => ?_)
        refine ez_aload_n (pc := 51) Z dX3_takes_51 1 rfl rfl ?_
        refine ez_iconst (pc := 52) Z dX3_takes_52 ec_2 ?_
        refine ez_callVi (pc := 53) (r := 42) (As := [.int (2 : Int32)]) (st := [.int r14, .int r12, .ref (X.2.1 b1)]) Z (kX0_number Z.2.2.2.2.2.2.2.2.2.1 (E := fun q1 => E s1 q1) (hE2 s1) h) gX3_takes_X0_number rfl rfl rfl hdX0_number rfl rfl (by decide) (ew_oL (hE2 s1) _) rfl rfl rfl rfl dX3_takes_53 (fun r16 u17 h => ?_)
        refine ez_callVi (pc := 56) (r := b1) (As := [.int r12, .int r14, .int r16]) (st := []) Z (kX3_takesPerson Z.2.2.2.2.2.2.2.2.2.1 (E := fun q1 => E q1 s2) (hE1 s2) h) gX3_takes_X3_takesPerson rfl rfl rfl hdX3_takesPerson rfl rfl (ew_rT (hE1 s2)) (ew_oT (hE1 s2) _) rfl rfl rfl rfl dX3_takes_56 (fun r18 m19 h => ?_)
        exact ez_zret (pc := 59) Z hR m19 h.1 h.2 rfl dX3_takes_59
      · replace h := h.2 c11
        refine ez_lkpO (pc := 4) (tgt := 76) Z dX3_takes_4 (by decide) ((lv_osw c3 (by decide)).trans ((lv_osw c6 (by decide)).trans ((lv_osw c11 (by decide)).trans rfl))) rfl ?_
        refine ez_aload_n (pc := 76) Z dX3_takes_76 0 rfl rfl ?_
        refine ez_aload_n (pc := 77) Z dX3_takes_77 1 rfl rfl ?_
        refine ez_iconst (pc := 78) Z dX3_takes_78 ec_0 ?_
        refine ez_callVi (pc := 79) (r := 42) (As := [.int (0 : Int32)]) (st := [.ref (X.2.1 b1)]) Z (kX0_number Z.2.2.2.2.2.2.2.2.2.1 (E := fun q1 => E s1 q1) (hE2 s1) h) gX3_takes_X0_number rfl rfl rfl hdX0_number rfl rfl (by decide) (ew_oL (hE2 s1) _) rfl rfl rfl rfl dX3_takes_79 (fun r20 u21 h => ?_)
        refine ez_callVi (pc := 82) (r := b1) (As := [.int r20]) (st := []) Z (kX3_takesClerk Z.2.2.2.2.2.2.2.2.2.1 (E := fun q1 => E q1 s2) (hE1 s2) h) gX3_takes_X3_takesClerk rfl rfl rfl hdX3_takesClerk rfl rfl (ew_rT (hE1 s2)) (ew_oT (hE1 s2) _) rfl rfl rfl rfl dX3_takes_82 (fun r22 m23 h => ?_)
        exact ez_zret (pc := 85) Z hR m23 h.1 h.2 rfl dX3_takes_85
theorem inX3_hasPerson : ∀ w ∈ wsX30, w ∈ wsX3_hasPerson := fun _ h => List.mem_cons_of_mem _ (List.mem_append_right _ (h))
theorem hdX3_hasPerson : yX3_hasPerson.cls = RX3 ∧ yX3_hasPerson.cls ≠ "java/lang/invoke/MethodHandle" ∧ yX3_hasPerson.cls ≠ "java/lang/invoke/VarHandle" ∧ (parseMethodDescriptor yX3_hasPerson.desc).map (fun d => d.parameters.length) = some 1 := by decide +kernel
def wX3_hasPerson (Q : Int32 → Prop) (p1 : Int32) (s1 : ew_M) : Prop := (p1 < 0 → Q (0 : Int32) ) ∧ (¬ p1 < 0 → ((s1.1 0) ≤ p1 → Q (0 : Int32) ) ∧ (¬ (s1.1 0) ≤ p1 → Q (1 : Int32) ))
set_option maxHeartbeats 4000000 in
set_option maxRecDepth 100000 in
theorem kX3_hasPerson {X : ew_X} {l : Launch} (hX : ew_Ap X) {b1 : Nat} {E : ew_M → ew_S} (hE1 : ew_GE X b1 (ew_GT X.2.1 b1) E) {Q : Int32 → Prop} {p1 : Int32} {s1 : ew_M} (h : wX3_hasPerson Q p1 s1) : Met l yX3_hasPerson wsX3_hasPerson ({ frames := 0, cells := 0, slots := 0, locals := 0 } : Room) (va_Pc [.ref (X.2.1 b1), .int p1] (ew_wd X (E s1))) (va_Qi (fun (r : Int32) (_ : Unit) => Q r) (fun (u : Unit) => ew_wd X ((fun (_ : Unit) => E s1) u)) X.2.2.1) 0 0 X.2.2.1 := by
  refine ew_met (As := [.ref (X.2.1 b1), .int p1]) (L0 := [(0, .ref (X.2.1 b1)), (1, .int p1)]) X l hX (by decide) rfl rfl rfl rfl (fun C hl Z hR => ?_)
  subst hl
  refine ez_iload_n (pc := 0) Z dX3_hasPerson_0 1 rfl rfl ?_
  refine ez_if_lt (pc := 1) (tgt := 16) Z dX3_hasPerson_1 rfl (fun c1 => ?_) (fun c1 => ?_)
  · replace h := h.1 c1
    refine ez_iconst (pc := 16) Z dX3_hasPerson_16 ec_0 ?_
    exact ez_zret (pc := 17) Z hR () rfl h rfl dX3_hasPerson_17
  · replace h := h.2 c1
    refine ez_iload_n (pc := 4) Z dX3_hasPerson_4 1 rfl rfl ?_
    refine ez_aload_n (pc := 5) Z dX3_hasPerson_5 0 rfl rfl ?_
    refine fX3_persons (pc := 6) (v := s1.1 0) Z hE1 rfl inX3_hasPerson (List.mem_of_getElem? (i := 1) rfl) dX3_hasPerson_6 ?_
    refine ez_icmp_ge (pc := 9) (tgt := 16) Z dX3_hasPerson_9 rfl (fun c2 => ?_) (fun c2 => ?_)
    · replace h := h.1 c2
      refine ez_iconst (pc := 16) Z dX3_hasPerson_16 ec_0 ?_
      exact ez_zret (pc := 17) Z hR () rfl h rfl dX3_hasPerson_17
    · replace h := h.2 c2
      refine ez_iconst (pc := 12) Z dX3_hasPerson_12 ec_1 ?_
      refine ez_goto (pc := 13) (tgt := 17) Z dX3_hasPerson_13 rfl ?_
      exact ez_zret (pc := 17) Z hR () rfl h rfl dX3_hasPerson_17
theorem inX3_papersWith : ∀ w ∈ wsX30, w ∈ wsX3_papersWith := fun _ h => List.mem_cons_of_mem _ (List.mem_append_right _ (h))
theorem hdX3_papersWith : yX3_papersWith.cls = RX3 ∧ yX3_papersWith.cls ≠ "java/lang/invoke/MethodHandle" ∧ yX3_papersWith.cls ≠ "java/lang/invoke/VarHandle" ∧ (parseMethodDescriptor yX3_papersWith.desc).map (fun d => d.parameters.length) = some 2 := by decide +kernel
def wX3_papersWith_bd_5 (R5 : Int32 × Int32 → Prop) (Q : Int32 → Prop) (v2 : Int32) (v3 : Int32) (v4 : Int32) (s1 : ew_M) : Prop := ((s1.1 1) ≤ v4 → Q v3 ) ∧ (¬ (s1.1 1) ≤ v4 → vp_in v4 5 ∧ (R5 (v3 ||| ((((s1.2.1 4 v4.toNatClampNeg) >>> (v2 &&& 31)) &&& (1 : Int32)) <<< (v4 &&& 31)), v4 + (1 : Int32))))
def wX3_papersWith_bd (Q : Int32 → Prop) (p2 : Int32) (s1 : ew_M) : Prop := ew_lp (fun (R : Int32 × Int32 → Prop) (x : Int32 × Int32) => wX3_papersWith_bd_5 R Q p2 x.1 x.2 s1) ((0 : Int32), (0 : Int32))
set_option maxHeartbeats 4000000 in
set_option maxRecDepth 100000 in
theorem tX3_papersWith_bd_5 {C : ew_C} {X : ew_X} {b1 : Nat} {E : ew_M → ew_S} (hE1 : ew_GE X b1 (ew_GT X.2.1 b1) E) (Z : ew_Z C X cX3_papersWith 5 RX3 wsX3_papersWith ({ frames := 0, cells := 0, slots := 0, locals := 0 } : Room) (some .int)) {Q : Int32 → Prop} {R5 : Int32 × Int32 → Prop} {v2 : Int32} {v3 : Int32} {v4 : Int32} {s1 : ew_M} (hR : C.2.2.2.2.2.2.2.2.2.2 = MQ C.2.2.2.2.2.2.2.1 (va_Qi (fun (r : Int32) (_ : Unit) => Q r) (fun (u : Unit) => ew_wd X ((fun (_ : Unit) => E s1) u)) X.2.2.1) C.2.2.2.2.2.2.1 C.2.2.2.2.1 0 0 X.2.2.1) (hR5 : ∀ x : Int32 × Int32, R5 x → ew_W C X 5 (E s1) 5 [(0, .ref (X.2.1 b1)), (1, .ref (X.2.1 (b1 + 5))), (2, .int v2), (3, .int x.1), (4, .int x.2)] []) (h : wX3_papersWith_bd_5 R5 Q v2 v3 v4 s1) : ew_W C X 5 (E s1) 5 [(0, .ref (X.2.1 b1)), (1, .ref (X.2.1 (b1 + 5))), (2, .int v2), (3, .int v3), (4, .int v4)] [] := by
  refine ez_iload (pc := 5) Z dX3_papersWith_5 4 rfl ?_
  refine ez_aload_n (pc := 7) Z dX3_papersWith_7 0 rfl rfl ?_
  refine fX3_papers (pc := 8) (v := s1.1 1) Z hE1 rfl inX3_papersWith (List.mem_of_getElem? (i := 1) rfl) dX3_papersWith_8 ?_
  refine ez_icmp_ge (pc := 11) (tgt := 34) Z dX3_papersWith_11 rfl (fun c1 => ?_) (fun c1 => ?_)
  · replace h := h.1 c1
    refine ez_iload_n (pc := 34) Z dX3_papersWith_34 3 rfl rfl ?_
    exact ez_iret (pc := 35) Z hR () h rfl dX3_papersWith_35
  · replace h := h.2 c1
    refine ez_iload_n (pc := 14) Z dX3_papersWith_14 3 rfl rfl ?_
    refine ez_aload_n (pc := 15) Z dX3_papersWith_15 1 rfl rfl ?_
    refine ez_iload (pc := 16) Z dX3_papersWith_16 4 rfl ?_
    refine ez_iald (pc := 18) (n := 5) (a := 4) (v := s1.2.1 4 v4.toNatClampNeg) (M := s1) Z hE1 5 rfl (by decide : 4 < 12) rfl rfl h.1 dX3_papersWith_18 ?_
    replace h := h.2
    refine ez_iload_n (pc := 19) Z dX3_papersWith_19 2 rfl rfl ?_
    refine ez_ishr (pc := 20) Z dX3_papersWith_20 ?_
    refine ez_iconst (pc := 21) Z dX3_papersWith_21 ec_1 ?_
    refine ez_iand (pc := 22) Z dX3_papersWith_22 ?_
    refine ez_iload (pc := 23) Z dX3_papersWith_23 4 rfl ?_
    refine ez_ishl (pc := 25) Z dX3_papersWith_25 ?_
    refine ez_ior (pc := 26) Z dX3_papersWith_26 ?_
    refine ez_istore_n (pc := 27) (L' := [(3, .int (v3 ||| ((((s1.2.1 4 v4.toNatClampNeg) >>> (v2 &&& 31)) &&& (1 : Int32)) <<< (v4 &&& 31)))), (0, .ref (X.2.1 b1)), (1, .ref (X.2.1 (b1 + 5))), (2, .int v2), (4, .int v4)]) Z dX3_papersWith_27 rfl (by decide) rfl ?_
    refine ez_iinc (pc := 28) (L' := [(4, .int (v4 + (1 : Int32))), (3, .int (v3 ||| ((((s1.2.1 4 v4.toNatClampNeg) >>> (v2 &&& 31)) &&& (1 : Int32)) <<< (v4 &&& 31)))), (0, .ref (X.2.1 b1)), (1, .ref (X.2.1 (b1 + 5))), (2, .int v2)]) Z dX3_papersWith_28 4 rfl (ei_1 _) (by decide) rfl ?_
    refine ez_goto (pc := 31) (tgt := 5) Z dX3_papersWith_31 rfl ?_
    refine ez_sub [(0, .ref (X.2.1 b1)), (1, .ref (X.2.1 (b1 + 5))), (2, .int v2), (3, .int (v3 ||| ((((s1.2.1 4 v4.toNatClampNeg) >>> (v2 &&& 31)) &&& (1 : Int32)) <<< (v4 &&& 31)))), (4, .int (v4 + (1 : Int32)))] [2, 3, 4, 1, 0] rfl ?_
    exact hR5 _ h
set_option maxHeartbeats 4000000 in
set_option maxRecDepth 100000 in
theorem kX3_papersWith_bd {X : ew_X} {l : Launch} (hX : ew_Ap X) {b1 : Nat} {E : ew_M → ew_S} (hE1 : ew_GE X b1 (ew_GT X.2.1 b1) E) {Q : Int32 → Prop} {p2 : Int32} {s1 : ew_M} (h : wX3_papersWith_bd Q p2 s1) : Met l yX3_papersWith wsX3_papersWith ({ frames := 0, cells := 0, slots := 0, locals := 0 } : Room) (va_Pc [.ref (X.2.1 b1), .ref (X.2.1 (b1 + 5)), .int p2] (ew_wd X (E s1))) (va_Qi (fun (r : Int32) (_ : Unit) => Q r) (fun (u : Unit) => ew_wd X ((fun (_ : Unit) => E s1) u)) X.2.2.1) 0 0 X.2.2.1 := by
  refine ew_met (As := [.ref (X.2.1 b1), .ref (X.2.1 (b1 + 5)), .int p2]) (L0 := [(0, .ref (X.2.1 b1)), (1, .ref (X.2.1 (b1 + 5))), (2, .int p2)]) X l hX (by decide) rfl rfl rfl rfl (fun C hl Z hR => ?_)
  subst hl
  refine ez_iconst (pc := 0) Z dX3_papersWith_0 ec_0 ?_
  refine ez_istore_n (pc := 1) (L' := [(3, .int (0 : Int32)), (0, .ref (X.2.1 b1)), (1, .ref (X.2.1 (b1 + 5))), (2, .int p2)]) Z dX3_papersWith_1 rfl (by decide) rfl ?_
  refine ez_iconst (pc := 2) Z dX3_papersWith_2 ec_0 ?_
  refine ez_istore (pc := 3) (L' := [(4, .int (0 : Int32)), (3, .int (0 : Int32)), (0, .ref (X.2.1 b1)), (1, .ref (X.2.1 (b1 + 5))), (2, .int p2)]) Z dX3_papersWith_3 (by decide) rfl ?_
  refine ez_sub [(0, .ref (X.2.1 b1)), (1, .ref (X.2.1 (b1 + 5))), (2, .int p2), (3, .int (0 : Int32)), (4, .int (0 : Int32))] [2, 3, 4, 1, 0] rfl ?_
  exact ew_ind (P := fun (x : Int32 × Int32) => ew_W C X 5 (E s1) 5 [(0, .ref (X.2.1 b1)), (1, .ref (X.2.1 (b1 + 5))), (2, .int p2), (3, .int x.1), (4, .int x.2)] []) (fun R hR9 x h => tX3_papersWith_bd_5 hE1 Z hR  hR9 h) h
def wX3_papersWith_rd_5 (R5 : Int32 × Int32 → Prop) (Q : Int32 → Prop) (v2 : Int32) (v3 : Int32) (v4 : Int32) (s1 : ew_M) : Prop := ((s1.1 1) ≤ v4 → Q v3 ) ∧ (¬ (s1.1 1) ≤ v4 → vp_in v4 5 ∧ (R5 (v3 ||| ((((s1.2.1 5 v4.toNatClampNeg) >>> (v2 &&& 31)) &&& (1 : Int32)) <<< (v4 &&& 31)), v4 + (1 : Int32))))
def wX3_papersWith_rd (Q : Int32 → Prop) (p2 : Int32) (s1 : ew_M) : Prop := ew_lp (fun (R : Int32 × Int32 → Prop) (x : Int32 × Int32) => wX3_papersWith_rd_5 R Q p2 x.1 x.2 s1) ((0 : Int32), (0 : Int32))
set_option maxHeartbeats 4000000 in
set_option maxRecDepth 100000 in
theorem tX3_papersWith_rd_5 {C : ew_C} {X : ew_X} {b1 : Nat} {E : ew_M → ew_S} (hE1 : ew_GE X b1 (ew_GT X.2.1 b1) E) (Z : ew_Z C X cX3_papersWith 5 RX3 wsX3_papersWith ({ frames := 0, cells := 0, slots := 0, locals := 0 } : Room) (some .int)) {Q : Int32 → Prop} {R5 : Int32 × Int32 → Prop} {v2 : Int32} {v3 : Int32} {v4 : Int32} {s1 : ew_M} (hR : C.2.2.2.2.2.2.2.2.2.2 = MQ C.2.2.2.2.2.2.2.1 (va_Qi (fun (r : Int32) (_ : Unit) => Q r) (fun (u : Unit) => ew_wd X ((fun (_ : Unit) => E s1) u)) X.2.2.1) C.2.2.2.2.2.2.1 C.2.2.2.2.1 0 0 X.2.2.1) (hR5 : ∀ x : Int32 × Int32, R5 x → ew_W C X 5 (E s1) 5 [(0, .ref (X.2.1 b1)), (1, .ref (X.2.1 (b1 + 6))), (2, .int v2), (3, .int x.1), (4, .int x.2)] []) (h : wX3_papersWith_rd_5 R5 Q v2 v3 v4 s1) : ew_W C X 5 (E s1) 5 [(0, .ref (X.2.1 b1)), (1, .ref (X.2.1 (b1 + 6))), (2, .int v2), (3, .int v3), (4, .int v4)] [] := by
  refine ez_iload (pc := 5) Z dX3_papersWith_5 4 rfl ?_
  refine ez_aload_n (pc := 7) Z dX3_papersWith_7 0 rfl rfl ?_
  refine fX3_papers (pc := 8) (v := s1.1 1) Z hE1 rfl inX3_papersWith (List.mem_of_getElem? (i := 1) rfl) dX3_papersWith_8 ?_
  refine ez_icmp_ge (pc := 11) (tgt := 34) Z dX3_papersWith_11 rfl (fun c1 => ?_) (fun c1 => ?_)
  · replace h := h.1 c1
    refine ez_iload_n (pc := 34) Z dX3_papersWith_34 3 rfl rfl ?_
    exact ez_iret (pc := 35) Z hR () h rfl dX3_papersWith_35
  · replace h := h.2 c1
    refine ez_iload_n (pc := 14) Z dX3_papersWith_14 3 rfl rfl ?_
    refine ez_aload_n (pc := 15) Z dX3_papersWith_15 1 rfl rfl ?_
    refine ez_iload (pc := 16) Z dX3_papersWith_16 4 rfl ?_
    refine ez_iald (pc := 18) (n := 5) (a := 5) (v := s1.2.1 5 v4.toNatClampNeg) (M := s1) Z hE1 6 rfl (by decide : 5 < 12) rfl rfl h.1 dX3_papersWith_18 ?_
    replace h := h.2
    refine ez_iload_n (pc := 19) Z dX3_papersWith_19 2 rfl rfl ?_
    refine ez_ishr (pc := 20) Z dX3_papersWith_20 ?_
    refine ez_iconst (pc := 21) Z dX3_papersWith_21 ec_1 ?_
    refine ez_iand (pc := 22) Z dX3_papersWith_22 ?_
    refine ez_iload (pc := 23) Z dX3_papersWith_23 4 rfl ?_
    refine ez_ishl (pc := 25) Z dX3_papersWith_25 ?_
    refine ez_ior (pc := 26) Z dX3_papersWith_26 ?_
    refine ez_istore_n (pc := 27) (L' := [(3, .int (v3 ||| ((((s1.2.1 5 v4.toNatClampNeg) >>> (v2 &&& 31)) &&& (1 : Int32)) <<< (v4 &&& 31)))), (0, .ref (X.2.1 b1)), (1, .ref (X.2.1 (b1 + 6))), (2, .int v2), (4, .int v4)]) Z dX3_papersWith_27 rfl (by decide) rfl ?_
    refine ez_iinc (pc := 28) (L' := [(4, .int (v4 + (1 : Int32))), (3, .int (v3 ||| ((((s1.2.1 5 v4.toNatClampNeg) >>> (v2 &&& 31)) &&& (1 : Int32)) <<< (v4 &&& 31)))), (0, .ref (X.2.1 b1)), (1, .ref (X.2.1 (b1 + 6))), (2, .int v2)]) Z dX3_papersWith_28 4 rfl (ei_1 _) (by decide) rfl ?_
    refine ez_goto (pc := 31) (tgt := 5) Z dX3_papersWith_31 rfl ?_
    refine ez_sub [(0, .ref (X.2.1 b1)), (1, .ref (X.2.1 (b1 + 6))), (2, .int v2), (3, .int (v3 ||| ((((s1.2.1 5 v4.toNatClampNeg) >>> (v2 &&& 31)) &&& (1 : Int32)) <<< (v4 &&& 31)))), (4, .int (v4 + (1 : Int32)))] [2, 3, 4, 1, 0] rfl ?_
    exact hR5 _ h
set_option maxHeartbeats 4000000 in
set_option maxRecDepth 100000 in
theorem kX3_papersWith_rd {X : ew_X} {l : Launch} (hX : ew_Ap X) {b1 : Nat} {E : ew_M → ew_S} (hE1 : ew_GE X b1 (ew_GT X.2.1 b1) E) {Q : Int32 → Prop} {p2 : Int32} {s1 : ew_M} (h : wX3_papersWith_rd Q p2 s1) : Met l yX3_papersWith wsX3_papersWith ({ frames := 0, cells := 0, slots := 0, locals := 0 } : Room) (va_Pc [.ref (X.2.1 b1), .ref (X.2.1 (b1 + 6)), .int p2] (ew_wd X (E s1))) (va_Qi (fun (r : Int32) (_ : Unit) => Q r) (fun (u : Unit) => ew_wd X ((fun (_ : Unit) => E s1) u)) X.2.2.1) 0 0 X.2.2.1 := by
  refine ew_met (As := [.ref (X.2.1 b1), .ref (X.2.1 (b1 + 6)), .int p2]) (L0 := [(0, .ref (X.2.1 b1)), (1, .ref (X.2.1 (b1 + 6))), (2, .int p2)]) X l hX (by decide) rfl rfl rfl rfl (fun C hl Z hR => ?_)
  subst hl
  refine ez_iconst (pc := 0) Z dX3_papersWith_0 ec_0 ?_
  refine ez_istore_n (pc := 1) (L' := [(3, .int (0 : Int32)), (0, .ref (X.2.1 b1)), (1, .ref (X.2.1 (b1 + 6))), (2, .int p2)]) Z dX3_papersWith_1 rfl (by decide) rfl ?_
  refine ez_iconst (pc := 2) Z dX3_papersWith_2 ec_0 ?_
  refine ez_istore (pc := 3) (L' := [(4, .int (0 : Int32)), (3, .int (0 : Int32)), (0, .ref (X.2.1 b1)), (1, .ref (X.2.1 (b1 + 6))), (2, .int p2)]) Z dX3_papersWith_3 (by decide) rfl ?_
  refine ez_sub [(0, .ref (X.2.1 b1)), (1, .ref (X.2.1 (b1 + 6))), (2, .int p2), (3, .int (0 : Int32)), (4, .int (0 : Int32))] [2, 3, 4, 1, 0] rfl ?_
  exact ew_ind (P := fun (x : Int32 × Int32) => ew_W C X 5 (E s1) 5 [(0, .ref (X.2.1 b1)), (1, .ref (X.2.1 (b1 + 6))), (2, .int p2), (3, .int x.1), (4, .int x.2)] []) (fun R hR9 x h => tX3_papersWith_rd_5 hE1 Z hR  hR9 h) h
theorem inX3_personFact : ∀ w ∈ wsX30, w ∈ wsX3_personFact := fun _ h => List.mem_cons_of_mem _ (List.mem_append_right _ (h))
theorem hdX3_personFact : yX3_personFact.cls = RX3 ∧ yX3_personFact.cls ≠ "java/lang/invoke/MethodHandle" ∧ yX3_personFact.cls ≠ "java/lang/invoke/VarHandle" ∧ (parseMethodDescriptor yX3_personFact.desc).map (fun d => d.parameters.length) = some 2 := by decide +kernel
def wX3_personFact (Q : Int32 → Prop) (p1 : Int32) (p2 : Int32) (s1 : ew_M) : Prop := (p2 = (0 : Int32) → vp_in p1 6 ∧ (Q (s1.2.1 0 p1.toNatClampNeg) )) ∧ (¬ p2 = (0 : Int32) → (p2 = (1 : Int32) → vp_in p1 6 ∧ (Q (s1.2.1 1 p1.toNatClampNeg) )) ∧ (¬ p2 = (1 : Int32) → (p2 = (2 : Int32) → vp_in p1 6 ∧ (Q (s1.2.1 2 p1.toNatClampNeg) )) ∧ (¬ p2 = (2 : Int32) → (p2 = (3 : Int32) → wX3_papersWith_bd (fun (r5 : Int32) => Q r5 ) p1 s1) ∧ (¬ p2 = (3 : Int32) → wX3_papersWith_rd (fun (r7 : Int32) => Q r7 ) p1 s1))))
set_option maxHeartbeats 4000000 in
set_option maxRecDepth 100000 in
theorem kX3_personFact {X : ew_X} {l : Launch} (hX : ew_Ap X) {b1 : Nat} {E : ew_M → ew_S} (hE1 : ew_GE X b1 (ew_GT X.2.1 b1) E) {Q : Int32 → Prop} {p1 : Int32} {p2 : Int32} {s1 : ew_M} (h : wX3_personFact Q p1 p2 s1) : Met l yX3_personFact wsX3_personFact ({ frames := 1, cells := 0, slots := 0, locals := 24 } : Room) (va_Pc [.ref (X.2.1 b1), .int p1, .int p2] (ew_wd X (E s1))) (va_Qi (fun (r : Int32) (_ : Unit) => Q r) (fun (u : Unit) => ew_wd X ((fun (_ : Unit) => E s1) u)) X.2.2.1) 0 0 X.2.2.1 := by
  refine ew_met (As := [.ref (X.2.1 b1), .int p1, .int p2]) (L0 := [(0, .ref (X.2.1 b1)), (1, .int p1), (2, .int p2)]) X l hX (by decide) rfl rfl rfl rfl (fun C hl Z hR => ?_)
  subst hl
  refine ez_iload_n (pc := 0) Z dX3_personFact_0 2 rfl rfl ?_
  by_cases c1 : p2 = (0 : Int32)
  · replace h := h.1 c1
    refine ez_tabI (pc := 1) (off := 31) (tgt := 32) Z dX3_personFact_1 (0 : Int32) c1 (by decide) (by decide) (by decide) rfl ?_
    refine ez_aload_n (pc := 32) Z dX3_personFact_32 0 rfl rfl ?_
    refine fX3_kind (pc := 33) (M := s1) Z hE1 inX3_personFact (List.mem_of_getElem? (i := 1) rfl) dX3_personFact_33 ?_
    refine ez_iload_n (pc := 36) Z dX3_personFact_36 1 rfl rfl ?_
    refine ez_iald (pc := 37) (n := 6) (a := 0) (v := s1.2.1 0 p1.toNatClampNeg) (M := s1) Z hE1 1 rfl (by decide : 0 < 12) rfl rfl h.1 dX3_personFact_37 ?_
    replace h := h.2
    exact ez_iret (pc := 38) Z hR () h rfl dX3_personFact_38
  · replace h := h.2 c1
    by_cases c2 : p2 = (1 : Int32)
    · replace h := h.1 c2
      refine ez_tabI (pc := 1) (off := 38) (tgt := 39) Z dX3_personFact_1 (1 : Int32) c2 (by decide) (by decide) (by decide) rfl ?_
      refine ez_aload_n (pc := 39) Z dX3_personFact_39 0 rfl rfl ?_
      refine fX3_bar (pc := 40) (M := s1) Z hE1 inX3_personFact (List.mem_of_getElem? (i := 2) rfl) dX3_personFact_40 ?_
      refine ez_iload_n (pc := 43) Z dX3_personFact_43 1 rfl rfl ?_
      refine ez_iald (pc := 44) (n := 6) (a := 1) (v := s1.2.1 1 p1.toNatClampNeg) (M := s1) Z hE1 2 rfl (by decide : 1 < 12) rfl rfl h.1 dX3_personFact_44 ?_
      replace h := h.2
      exact ez_iret (pc := 45) Z hR () h rfl dX3_personFact_45
    · replace h := h.2 c2
      by_cases c3 : p2 = (2 : Int32)
      · replace h := h.1 c3
        refine ez_tabI (pc := 1) (off := 45) (tgt := 46) Z dX3_personFact_1 (2 : Int32) c3 (by decide) (by decide) (by decide) rfl ?_
        refine ez_aload_n (pc := 46) Z dX3_personFact_46 0 rfl rfl ?_
        refine fX3_patience (pc := 47) (M := s1) Z hE1 inX3_personFact (List.mem_of_getElem? (i := 3) rfl) dX3_personFact_47 ?_
        refine ez_iload_n (pc := 50) Z dX3_personFact_50 1 rfl rfl ?_
        refine ez_iald (pc := 51) (n := 6) (a := 2) (v := s1.2.1 2 p1.toNatClampNeg) (M := s1) Z hE1 3 rfl (by decide : 2 < 12) rfl rfl h.1 dX3_personFact_51 ?_
        replace h := h.2
        exact ez_iret (pc := 52) Z hR () h rfl dX3_personFact_52
      · replace h := h.2 c3
        by_cases c4 : p2 = (3 : Int32)
        · replace h := h.1 c4
          refine ez_tabI (pc := 1) (off := 52) (tgt := 53) Z dX3_personFact_1 (3 : Int32) c4 (by decide) (by decide) (by decide) rfl ?_
          refine ez_aload_n (pc := 53) Z dX3_personFact_53 0 rfl rfl ?_
          refine ez_aload_n (pc := 54) Z dX3_personFact_54 0 rfl rfl ?_
          refine fX3_bound (pc := 55) (M := s1) Z hE1 inX3_personFact (List.mem_of_getElem? (i := 4) rfl) dX3_personFact_55 ?_
          refine ez_iload_n (pc := 58) Z dX3_personFact_58 1 rfl rfl ?_
          refine ez_callVi (pc := 59) (r := b1) (As := [.ref (X.2.1 (b1 + 5)), .int p1]) (st := []) Z (kX3_papersWith_bd Z.2.2.2.2.2.2.2.2.2.1 (E := E) hE1 h) gX3_personFact_X3_papersWith rfl rfl rfl hdX3_papersWith rfl rfl (ew_rT hE1) (ew_oT hE1 _) rfl rfl rfl rfl dX3_personFact_59 (fun r5 u6 h => ?_)
          exact ez_iret (pc := 62) Z hR () h rfl dX3_personFact_62
        · replace h := h.2 c4
          have gc1 := ez_nt c1
          have gc2 := ez_nt c2
          have gc3 := ez_nt c3
          have gc4 := ez_nt c4
          refine ez_tabO (pc := 1) (tgt := 63) Z dX3_personFact_1 (by simp only [ez_t0, ez_t1, ez_t2, ez_t3] at gc1 gc2 gc3 gc4; omega) rfl ?_
          refine ez_aload_n (pc := 63) Z dX3_personFact_63 0 rfl rfl ?_
          refine ez_aload_n (pc := 64) Z dX3_personFact_64 0 rfl rfl ?_
          refine fX3_readers (pc := 65) (M := s1) Z hE1 inX3_personFact (List.mem_of_getElem? (i := 5) rfl) dX3_personFact_65 ?_
          refine ez_iload_n (pc := 68) Z dX3_personFact_68 1 rfl rfl ?_
          refine ez_callVi (pc := 69) (r := b1) (As := [.ref (X.2.1 (b1 + 6)), .int p1]) (st := []) Z (kX3_papersWith_rd Z.2.2.2.2.2.2.2.2.2.1 (E := E) hE1 h) gX3_personFact_X3_papersWith rfl rfl rfl hdX3_papersWith rfl rfl (ew_rT hE1) (ew_oT hE1 _) rfl rfl rfl rfl dX3_personFact_69 (fun r7 u8 h => ?_)
          exact ez_iret (pc := 72) Z hR () h rfl dX3_personFact_72
theorem inX3_hasPaper : ∀ w ∈ wsX30, w ∈ wsX3_hasPaper := fun _ h => List.mem_cons_of_mem _ (List.mem_append_right _ (h))
theorem hdX3_hasPaper : yX3_hasPaper.cls = RX3 ∧ yX3_hasPaper.cls ≠ "java/lang/invoke/MethodHandle" ∧ yX3_hasPaper.cls ≠ "java/lang/invoke/VarHandle" ∧ (parseMethodDescriptor yX3_hasPaper.desc).map (fun d => d.parameters.length) = some 1 := by decide +kernel
def wX3_hasPaper (Q : Int32 → Prop) (p1 : Int32) (s1 : ew_M) : Prop := (p1 < 0 → Q (0 : Int32) ) ∧ (¬ p1 < 0 → ((s1.1 1) ≤ p1 → Q (0 : Int32) ) ∧ (¬ (s1.1 1) ≤ p1 → Q (1 : Int32) ))
set_option maxHeartbeats 4000000 in
set_option maxRecDepth 100000 in
theorem kX3_hasPaper {X : ew_X} {l : Launch} (hX : ew_Ap X) {b1 : Nat} {E : ew_M → ew_S} (hE1 : ew_GE X b1 (ew_GT X.2.1 b1) E) {Q : Int32 → Prop} {p1 : Int32} {s1 : ew_M} (h : wX3_hasPaper Q p1 s1) : Met l yX3_hasPaper wsX3_hasPaper ({ frames := 0, cells := 0, slots := 0, locals := 0 } : Room) (va_Pc [.ref (X.2.1 b1), .int p1] (ew_wd X (E s1))) (va_Qi (fun (r : Int32) (_ : Unit) => Q r) (fun (u : Unit) => ew_wd X ((fun (_ : Unit) => E s1) u)) X.2.2.1) 0 0 X.2.2.1 := by
  refine ew_met (As := [.ref (X.2.1 b1), .int p1]) (L0 := [(0, .ref (X.2.1 b1)), (1, .int p1)]) X l hX (by decide) rfl rfl rfl rfl (fun C hl Z hR => ?_)
  subst hl
  refine ez_iload_n (pc := 0) Z dX3_hasPaper_0 1 rfl rfl ?_
  refine ez_if_lt (pc := 1) (tgt := 16) Z dX3_hasPaper_1 rfl (fun c1 => ?_) (fun c1 => ?_)
  · replace h := h.1 c1
    refine ez_iconst (pc := 16) Z dX3_hasPaper_16 ec_0 ?_
    exact ez_zret (pc := 17) Z hR () rfl h rfl dX3_hasPaper_17
  · replace h := h.2 c1
    refine ez_iload_n (pc := 4) Z dX3_hasPaper_4 1 rfl rfl ?_
    refine ez_aload_n (pc := 5) Z dX3_hasPaper_5 0 rfl rfl ?_
    refine fX3_papers (pc := 6) (v := s1.1 1) Z hE1 rfl inX3_hasPaper (List.mem_of_getElem? (i := 1) rfl) dX3_hasPaper_6 ?_
    refine ez_icmp_ge (pc := 9) (tgt := 16) Z dX3_hasPaper_9 rfl (fun c2 => ?_) (fun c2 => ?_)
    · replace h := h.1 c2
      refine ez_iconst (pc := 16) Z dX3_hasPaper_16 ec_0 ?_
      exact ez_zret (pc := 17) Z hR () rfl h rfl dX3_hasPaper_17
    · replace h := h.2 c2
      refine ez_iconst (pc := 12) Z dX3_hasPaper_12 ec_1 ?_
      refine ez_goto (pc := 13) (tgt := 17) Z dX3_hasPaper_13 rfl ?_
      exact ez_zret (pc := 17) Z hR () rfl h rfl dX3_hasPaper_17
theorem inX3_isInForceWith : ∀ w ∈ wsX30, w ∈ wsX3_isInForceWith := fun _ h => List.mem_cons_of_mem _ (List.mem_append_right _ (h))
theorem hdX3_isInForceWith : yX3_isInForceWith.cls = RX3 ∧ yX3_isInForceWith.cls ≠ "java/lang/invoke/MethodHandle" ∧ yX3_isInForceWith.cls ≠ "java/lang/invoke/VarHandle" ∧ (parseMethodDescriptor yX3_isInForceWith.desc).map (fun d => d.parameters.length) = some 2 := by decide +kernel
def wX3_isInForceWith (Q : Int32 → Prop) (p1 : Int32) (p2 : Int32) (s1 : ew_M) : Prop := vp_in p1 5 ∧ (wJ6_bitCount_0f7a4 (fun (r1 : Int32) => ((s1.1 2) = (0 : Int32) → (r1 ≤ p2 → Q (0 : Int32) ) ∧ (¬ r1 ≤ p2 → Q (1 : Int32) )) ∧ (¬ (s1.1 2) = (0 : Int32) → ((s1.1 2) = (1 : Int32) → ((1 : Int32) ≤ p2 → Q (0 : Int32) ) ∧ (¬ (1 : Int32) ≤ p2 → Q (1 : Int32) )) ∧ (¬ (s1.1 2) = (1 : Int32) → ((s1.1 2) = (2 : Int32) → (r1 < ((2 : Int32) * p2) → Q (0 : Int32) ) ∧ (¬ r1 < ((2 : Int32) * p2) → Q (1 : Int32) )) ∧ (¬ (s1.1 2) = (2 : Int32) → ((s1.1 2) = (3 : Int32) → ((if r1 < (2 : Int32) then r1 else (2 : Int32)) ≤ p2 → Q (0 : Int32) ) ∧ (¬ (if r1 < (2 : Int32) then r1 else (2 : Int32)) ≤ p2 → Q (1 : Int32) )) ∧ (¬ (s1.1 2) = (3 : Int32) → Q (1 : Int32) ))))) (s1.2.1 4 p1.toNatClampNeg))
set_option maxHeartbeats 4000000 in
set_option maxRecDepth 100000 in
theorem kX3_isInForceWith {X : ew_X} {l : Launch} (hX : ew_Ap X) {b1 : Nat} {E : ew_M → ew_S} (hE1 : ew_GE X b1 (ew_GT X.2.1 b1) E) {Q : Int32 → Prop} {p1 : Int32} {p2 : Int32} {s1 : ew_M} (h : wX3_isInForceWith Q p1 p2 s1) : Met l yX3_isInForceWith wsX3_isInForceWith ({ frames := 1, cells := 0, slots := 0, locals := 21 } : Room) (va_Pc [.ref (X.2.1 b1), .int p1, .int p2] (ew_wd X (E s1))) (va_Qi (fun (r : Int32) (_ : Unit) => Q r) (fun (u : Unit) => ew_wd X ((fun (_ : Unit) => E s1) u)) X.2.2.1) 0 0 X.2.2.1 := by
  refine ew_met (As := [.ref (X.2.1 b1), .int p1, .int p2]) (L0 := [(0, .ref (X.2.1 b1)), (1, .int p1), (2, .int p2)]) X l hX (by decide) rfl rfl rfl rfl (fun C hl Z hR => ?_)
  subst hl
  refine ez_aload_n (pc := 0) Z dX3_isInForceWith_0 0 rfl rfl ?_
  refine fX3_bound (pc := 1) (M := s1) Z hE1 inX3_isInForceWith (List.mem_of_getElem? (i := 1) rfl) dX3_isInForceWith_1 ?_
  refine ez_iload_n (pc := 4) Z dX3_isInForceWith_4 1 rfl rfl ?_
  refine ez_iald (pc := 5) (n := 5) (a := 4) (v := s1.2.1 4 p1.toNatClampNeg) (M := s1) Z hE1 5 rfl (by decide : 4 < 12) rfl rfl h.1 dX3_isInForceWith_5 ?_
  replace h := h.2
  refine ez_callSi (pc := 6) (As := [.int (s1.2.1 4 p1.toNatClampNeg)]) (st := []) Z (kJ6_bitCount_0f7a4 Z.2.2.2.2.2.2.2.2.2.1 (S := E s1) h) gX3_isInForceWith_J6_bitCount_0f7a4 rfl rfl rfl hdJ6_bitCount_0f7a4 rfl rfl rfl rfl rfl dX3_isInForceWith_6 (fun r1 u2 h => ?_)
  refine ez_istore_n (pc := 9) (L' := [(3, .int r1), (0, .ref (X.2.1 b1)), (1, .int p1), (2, .int p2)]) Z dX3_isInForceWith_9 rfl (by decide) rfl ?_
  refine ez_aload_n (pc := 10) Z dX3_isInForceWith_10 1 rfl rfl ?_
  refine fX3_ruling (pc := 11) (v := s1.1 2) Z hE1 rfl inX3_isInForceWith (List.mem_of_getElem? (i := 2) rfl) dX3_isInForceWith_11 ?_
  by_cases c3 : (s1.1 2) = (0 : Int32)
  · replace h := h.1 c3
    refine ez_tabI (pc := 14) (off := 30) (tgt := 44) Z dX3_isInForceWith_14 (0 : Int32) c3 (by decide) (by decide) (by decide) rfl ?_
    refine ez_iload_n (pc := 44) Z dX3_isInForceWith_44 3 rfl rfl ?_
    refine ez_iload_n (pc := 45) Z dX3_isInForceWith_45 0 rfl rfl ?_
    refine ez_icmp_ge (pc := 46) (tgt := 53) Z dX3_isInForceWith_46 rfl (fun c4 => ?_) (fun c4 => ?_)
    · replace h := h.1 c4
      refine ez_iconst (pc := 53) Z dX3_isInForceWith_53 ec_0 ?_
      exact ez_zret (pc := 54) Z hR () rfl h rfl dX3_isInForceWith_54
    · replace h := h.2 c4
      refine ez_iconst (pc := 49) Z dX3_isInForceWith_49 ec_1 ?_
      refine ez_goto (pc := 50) (tgt := 54) Z dX3_isInForceWith_50 rfl ?_
      exact ez_zret (pc := 54) Z hR () rfl h rfl dX3_isInForceWith_54
  · replace h := h.2 c3
    by_cases c5 : (s1.1 2) = (1 : Int32)
    · replace h := h.1 c5
      refine ez_tabI (pc := 14) (off := 41) (tgt := 55) Z dX3_isInForceWith_14 (1 : Int32) c5 (by decide) (by decide) (by decide) rfl ?_
      refine ez_iload_n (pc := 55) Z dX3_isInForceWith_55 3 rfl rfl ?_
      refine ez_iconst (pc := 56) Z dX3_isInForceWith_56 ec_1 ?_
      refine ez_icmp_ge (pc := 57) (tgt := 64) Z dX3_isInForceWith_57 rfl (fun c6 => ?_) (fun c6 => ?_)
      · replace h := h.1 c6
        refine ez_iconst (pc := 64) Z dX3_isInForceWith_64 ec_0 ?_
        exact ez_zret (pc := 65) Z hR () rfl h rfl dX3_isInForceWith_65
      · replace h := h.2 c6
        refine ez_iconst (pc := 60) Z dX3_isInForceWith_60 ec_1 ?_
        refine ez_goto (pc := 61) (tgt := 65) Z dX3_isInForceWith_61 rfl ?_
        exact ez_zret (pc := 65) Z hR () rfl h rfl dX3_isInForceWith_65
    · replace h := h.2 c5
      by_cases c7 : (s1.1 2) = (2 : Int32)
      · replace h := h.1 c7
        refine ez_tabI (pc := 14) (off := 52) (tgt := 66) Z dX3_isInForceWith_14 (2 : Int32) c7 (by decide) (by decide) (by decide) rfl ?_
        refine ez_iconst (pc := 66) Z dX3_isInForceWith_66 ec_2 ?_
        refine ez_iload_n (pc := 67) Z dX3_isInForceWith_67 3 rfl rfl ?_
        refine ez_imul (pc := 68) Z dX3_isInForceWith_68 ?_
        refine ez_iload_n (pc := 69) Z dX3_isInForceWith_69 0 rfl rfl ?_
        refine ez_icmp_gt (pc := 70) (tgt := 77) Z dX3_isInForceWith_70 rfl (fun c8 => ?_) (fun c8 => ?_)
        · replace h := h.1 c8
          refine ez_iconst (pc := 77) Z dX3_isInForceWith_77 ec_0 ?_
          exact ez_zret (pc := 78) Z hR () rfl h rfl dX3_isInForceWith_78
        · replace h := h.2 c8
          refine ez_iconst (pc := 73) Z dX3_isInForceWith_73 ec_1 ?_
          refine ez_goto (pc := 74) (tgt := 78) Z dX3_isInForceWith_74 rfl ?_
          exact ez_zret (pc := 78) Z hR () rfl h rfl dX3_isInForceWith_78
      · replace h := h.2 c7
        by_cases c9 : (s1.1 2) = (3 : Int32)
        · replace h := h.1 c9
          refine ez_tabI (pc := 14) (off := 65) (tgt := 79) Z dX3_isInForceWith_14 (3 : Int32) c9 (by decide) (by decide) (by decide) rfl ?_
          refine ez_iload_n (pc := 79) Z dX3_isInForceWith_79 3 rfl rfl ?_
          refine ez_iconst (pc := 80) Z dX3_isInForceWith_80 ec_2 ?_
          refine ez_iload_n (pc := 81) Z dX3_isInForceWith_81 0 rfl rfl ?_
          refine ez_min (pc := 82) Z (List.mem_of_getElem? (i := 3) rfl) (List.mem_of_getElem? (i := 4) rfl) (List.mem_of_getElem? (i := 5) rfl) (List.mem_of_getElem? (i := 6) rfl) rfl rfl dX3_isInForceWith_82 ?_
          refine ez_icmp_ge (pc := 85) (tgt := 92) Z dX3_isInForceWith_85 rfl (fun c10 => ?_) (fun c10 => ?_)
          · replace h := h.1 c10
            refine ez_iconst (pc := 92) Z dX3_isInForceWith_92 ec_0 ?_
            exact ez_zret (pc := 93) Z hR () rfl h rfl dX3_isInForceWith_93
          · replace h := h.2 c10
            refine ez_iconst (pc := 88) Z dX3_isInForceWith_88 ec_1 ?_
            refine ez_goto (pc := 89) (tgt := 93) Z dX3_isInForceWith_89 rfl ?_
            exact ez_zret (pc := 93) Z hR () rfl h rfl dX3_isInForceWith_93
        · replace h := h.2 c9
          have gc3 := ez_nt c3
          have gc5 := ez_nt c5
          have gc7 := ez_nt c7
          have gc9 := ez_nt c9
          refine ez_tabO (pc := 14) (tgt := 94) Z dX3_isInForceWith_14 (by simp only [ez_t0, ez_t1, ez_t2, ez_t3] at gc3 gc5 gc7 gc9; omega) rfl ?_
          refine ez_iconst (pc := 94) Z dX3_isInForceWith_94 ec_1 ?_
          exact ez_zret (pc := 95) Z hR () rfl h rfl dX3_isInForceWith_95
theorem inX3_isInForce : ∀ w ∈ wsX30, w ∈ wsX3_isInForce := fun _ h => List.mem_cons_of_mem _ (List.mem_append_right _ (h))
theorem hdX3_isInForce : yX3_isInForce.cls = RX3 ∧ yX3_isInForce.cls ≠ "java/lang/invoke/MethodHandle" ∧ yX3_isInForce.cls ≠ "java/lang/invoke/VarHandle" ∧ (parseMethodDescriptor yX3_isInForce.desc).map (fun d => d.parameters.length) = some 1 := by decide +kernel
def wX3_isInForce (Q : Int32 → Prop) (p1 : Int32) (s1 : ew_M) : Prop := vp_in p1 5 ∧ (wJ6_bitCount_0f7a4 (fun (r1 : Int32) => wX3_isInForceWith (fun (r3 : Int32) => narrow .boolean (.int r3) = .int r3 ∧ Q r3 ) p1 r1 s1) (s1.2.1 5 p1.toNatClampNeg))
set_option maxHeartbeats 4000000 in
set_option maxRecDepth 100000 in
theorem kX3_isInForce {X : ew_X} {l : Launch} (hX : ew_Ap X) {b1 : Nat} {E : ew_M → ew_S} (hE1 : ew_GE X b1 (ew_GT X.2.1 b1) E) {Q : Int32 → Prop} {p1 : Int32} {s1 : ew_M} (h : wX3_isInForce Q p1 s1) : Met l yX3_isInForce wsX3_isInForce ({ frames := 2, cells := 0, slots := 0, locals := 44 } : Room) (va_Pc [.ref (X.2.1 b1), .int p1] (ew_wd X (E s1))) (va_Qi (fun (r : Int32) (_ : Unit) => Q r) (fun (u : Unit) => ew_wd X ((fun (_ : Unit) => E s1) u)) X.2.2.1) 0 0 X.2.2.1 := by
  refine ew_met (As := [.ref (X.2.1 b1), .int p1]) (L0 := [(0, .ref (X.2.1 b1)), (1, .int p1)]) X l hX (by decide) rfl rfl rfl rfl (fun C hl Z hR => ?_)
  subst hl
  refine ez_aload_n (pc := 0) Z dX3_isInForce_0 0 rfl rfl ?_
  refine ez_iload_n (pc := 1) Z dX3_isInForce_1 1 rfl rfl ?_
  refine ez_aload_n (pc := 2) Z dX3_isInForce_2 0 rfl rfl ?_
  refine fX3_readers (pc := 3) (M := s1) Z hE1 inX3_isInForce (List.mem_of_getElem? (i := 1) rfl) dX3_isInForce_3 ?_
  refine ez_iload_n (pc := 6) Z dX3_isInForce_6 1 rfl rfl ?_
  refine ez_iald (pc := 7) (n := 5) (a := 5) (v := s1.2.1 5 p1.toNatClampNeg) (M := s1) Z hE1 6 rfl (by decide : 5 < 12) rfl rfl h.1 dX3_isInForce_7 ?_
  replace h := h.2
  refine ez_callSi (pc := 8) (As := [.int (s1.2.1 5 p1.toNatClampNeg)]) (st := [.int p1, .ref (X.2.1 b1)]) Z (kJ6_bitCount_0f7a4 Z.2.2.2.2.2.2.2.2.2.1 (S := E s1) h) gX3_isInForce_J6_bitCount_0f7a4 rfl rfl rfl hdJ6_bitCount_0f7a4 rfl rfl rfl rfl rfl dX3_isInForce_8 (fun r1 u2 h => ?_)
  refine ez_callVi (pc := 11) (r := b1) (As := [.int p1, .int r1]) (st := []) Z (kX3_isInForceWith Z.2.2.2.2.2.2.2.2.2.1 (E := E) hE1 h) gX3_isInForce_X3_isInForceWith rfl rfl rfl hdX3_isInForceWith rfl rfl (ew_rT hE1) (ew_oT hE1 _) rfl rfl rfl rfl dX3_isInForce_11 (fun r3 u4 h => ?_)
  exact ez_zret (pc := 14) Z hR () h.1 h.2 rfl dX3_isInForce_14
theorem inX3_paperFact : ∀ w ∈ wsX30, w ∈ wsX3_paperFact := fun _ h => List.mem_cons_of_mem _ (List.mem_append_right _ (h))
theorem hdX3_paperFact : yX3_paperFact.cls = RX3 ∧ yX3_paperFact.cls ≠ "java/lang/invoke/MethodHandle" ∧ yX3_paperFact.cls ≠ "java/lang/invoke/VarHandle" ∧ (parseMethodDescriptor yX3_paperFact.desc).map (fun d => d.parameters.length) = some 2 := by decide +kernel
def wX3_paperFact_90  (Q : Int32 → Prop) (v1 : Int32) (v2 : Int32) (s1 : ew_M) : Prop := (v2 < (1 : Int32) → Q (0 : Int32) ) ∧ (¬ v2 < (1 : Int32) → ((3 : Int32) < v2 → Q (0 : Int32) ) ∧ (¬ (3 : Int32) < v2 → vp_in (((v1 * (3 : Int32)) + v2) - (1 : Int32)) 15 ∧ (Q (s1.2.1 9 (((v1 * (3 : Int32)) + v2) - (1 : Int32)).toNatClampNeg) )))
def wX3_paperFact (Q : Int32 → Prop) (p1 : Int32) (p2 : Int32) (s1 : ew_M) : Prop := (p2 = (0 : Int32) → vp_in p1 5 ∧ (Q (s1.2.1 4 p1.toNatClampNeg) )) ∧ (¬ p2 = (0 : Int32) → (p2 = (1 : Int32) → wX3_paperFact_90 Q p1 p2 s1) ∧ (¬ p2 = (1 : Int32) → (p2 = (2 : Int32) → wX3_paperFact_90 Q p1 p2 s1) ∧ (¬ p2 = (2 : Int32) → (p2 = (3 : Int32) → wX3_paperFact_90 Q p1 p2 s1) ∧ (¬ p2 = (3 : Int32) → (p2 = (4 : Int32) → vp_in p1 5 ∧ (Q (s1.2.1 7 p1.toNatClampNeg) )) ∧ (¬ p2 = (4 : Int32) → (p2 = (5 : Int32) → vp_in p1 5 ∧ (Q (s1.2.1 5 p1.toNatClampNeg) )) ∧ (¬ p2 = (5 : Int32) → (p2 = (6 : Int32) → wX3_isInForce (fun (r8 : Int32) => (r8 = 0 → Q (0 : Int32) ) ∧ (¬ r8 = 0 → Q (1 : Int32) )) p1 s1) ∧ (¬ p2 = (6 : Int32) → (p2 = (7 : Int32) → vp_in p1 5 ∧ (Q (s1.2.1 8 p1.toNatClampNeg) )) ∧ (¬ p2 = (7 : Int32) → wX3_paperFact_90 Q p1 p2 s1))))))))
set_option maxHeartbeats 4000000 in
set_option maxRecDepth 100000 in
theorem tX3_paperFact_90 {C : ew_C} {X : ew_X} {b1 : Nat} {E : ew_M → ew_S} (hE1 : ew_GE X b1 (ew_GT X.2.1 b1) E) (Z : ew_Z C X cX3_paperFact 3 RX3 wsX3_paperFact ({ frames := 3, cells := 0, slots := 0, locals := 65 } : Room) (some .int)) {Q : Int32 → Prop}  {v1 : Int32} {v2 : Int32} {s1 : ew_M} (hR : C.2.2.2.2.2.2.2.2.2.2 = MQ C.2.2.2.2.2.2.2.1 (va_Qi (fun (r : Int32) (_ : Unit) => Q r) (fun (u : Unit) => ew_wd X ((fun (_ : Unit) => E s1) u)) X.2.2.1) C.2.2.2.2.2.2.1 C.2.2.2.2.1 0 0 X.2.2.1) (h : wX3_paperFact_90 Q v1 v2 s1) : ew_W C X 3 (E s1) 90 [(0, .ref (X.2.1 b1)), (1, .int v1), (2, .int v2)] [] := by
  refine ez_iload_n (pc := 90) Z dX3_paperFact_90 2 rfl rfl ?_
  refine ez_iconst (pc := 91) Z dX3_paperFact_91 ec_1 ?_
  refine ez_icmp_lt (pc := 92) (tgt := 115) Z dX3_paperFact_92 rfl (fun c1 => ?_) (fun c1 => ?_)
  · replace h := h.1 c1
    refine ez_iconst (pc := 115) Z dX3_paperFact_115 ec_0 ?_
    exact ez_iret (pc := 116) Z hR () h rfl dX3_paperFact_116
  · replace h := h.2 c1
    refine ez_iload_n (pc := 95) Z dX3_paperFact_95 2 rfl rfl ?_
    refine ez_iconst (pc := 96) Z dX3_paperFact_96 ec_3 ?_
    refine ez_icmp_gt (pc := 97) (tgt := 115) Z dX3_paperFact_97 rfl (fun c2 => ?_) (fun c2 => ?_)
    · replace h := h.1 c2
      refine ez_iconst (pc := 115) Z dX3_paperFact_115 ec_0 ?_
      exact ez_iret (pc := 116) Z hR () h rfl dX3_paperFact_116
    · replace h := h.2 c2
      refine ez_aload_n (pc := 100) Z dX3_paperFact_100 0 rfl rfl ?_
      refine fX3_hundredths (pc := 101) (M := s1) Z hE1 inX3_paperFact (List.mem_of_getElem? (i := 5) rfl) dX3_paperFact_101 ?_
      refine ez_iload_n (pc := 104) Z dX3_paperFact_104 1 rfl rfl ?_
      refine ez_iconst (pc := 105) Z dX3_paperFact_105 ec_3 ?_
      refine ez_imul (pc := 106) Z dX3_paperFact_106 ?_
      refine ez_iload_n (pc := 107) Z dX3_paperFact_107 2 rfl rfl ?_
      refine ez_iadd (pc := 108) Z dX3_paperFact_108 ?_
      refine ez_iconst (pc := 109) Z dX3_paperFact_109 ec_1 ?_
      refine ez_isub (pc := 110) Z dX3_paperFact_110 ?_
      refine ez_iald (pc := 111) (n := 15) (a := 9) (v := s1.2.1 9 (((v1 * (3 : Int32)) + v2) - (1 : Int32)).toNatClampNeg) (M := s1) Z hE1 10 rfl (by decide : 9 < 12) rfl rfl h.1 dX3_paperFact_111 ?_
      replace h := h.2
      refine ez_goto (pc := 112) (tgt := 116) Z dX3_paperFact_112 rfl ?_
      exact ez_iret (pc := 116) Z hR () h rfl dX3_paperFact_116
set_option maxHeartbeats 4000000 in
set_option maxRecDepth 100000 in
theorem kX3_paperFact {X : ew_X} {l : Launch} (hX : ew_Ap X) {b1 : Nat} {E : ew_M → ew_S} (hE1 : ew_GE X b1 (ew_GT X.2.1 b1) E) {Q : Int32 → Prop} {p1 : Int32} {p2 : Int32} {s1 : ew_M} (h : wX3_paperFact Q p1 p2 s1) : Met l yX3_paperFact wsX3_paperFact ({ frames := 3, cells := 0, slots := 0, locals := 65 } : Room) (va_Pc [.ref (X.2.1 b1), .int p1, .int p2] (ew_wd X (E s1))) (va_Qi (fun (r : Int32) (_ : Unit) => Q r) (fun (u : Unit) => ew_wd X ((fun (_ : Unit) => E s1) u)) X.2.2.1) 0 0 X.2.2.1 := by
  refine ew_met (As := [.ref (X.2.1 b1), .int p1, .int p2]) (L0 := [(0, .ref (X.2.1 b1)), (1, .int p1), (2, .int p2)]) X l hX (by decide) rfl rfl rfl rfl (fun C hl Z hR => ?_)
  subst hl
  refine ez_iload_n (pc := 0) Z dX3_paperFact_0 2 rfl rfl ?_
  by_cases c1 : p2 = (0 : Int32)
  · replace h := h.1 c1
    refine ez_tabI (pc := 1) (off := 47) (tgt := 48) Z dX3_paperFact_1 (0 : Int32) c1 (by decide) (by decide) (by decide) rfl ?_
    refine ez_aload_n (pc := 48) Z dX3_paperFact_48 0 rfl rfl ?_
    refine fX3_bound (pc := 49) (M := s1) Z hE1 inX3_paperFact (List.mem_of_getElem? (i := 1) rfl) dX3_paperFact_49 ?_
    refine ez_iload_n (pc := 52) Z dX3_paperFact_52 1 rfl rfl ?_
    refine ez_iald (pc := 53) (n := 5) (a := 4) (v := s1.2.1 4 p1.toNatClampNeg) (M := s1) Z hE1 5 rfl (by decide : 4 < 12) rfl rfl h.1 dX3_paperFact_53 ?_
    replace h := h.2
    exact ez_iret (pc := 54) Z hR () h rfl dX3_paperFact_54
  · replace h := h.2 c1
    by_cases c2 : p2 = (1 : Int32)
    · replace h := h.1 c2
      refine ez_tabI (pc := 1) (off := 89) (tgt := 90) Z dX3_paperFact_1 (1 : Int32) c2 (by decide) (by decide) (by decide) rfl ?_
      exact tX3_paperFact_90 hE1 Z hR  h
    · replace h := h.2 c2
      by_cases c3 : p2 = (2 : Int32)
      · replace h := h.1 c3
        refine ez_tabI (pc := 1) (off := 89) (tgt := 90) Z dX3_paperFact_1 (2 : Int32) c3 (by decide) (by decide) (by decide) rfl ?_
        exact tX3_paperFact_90 hE1 Z hR  h
      · replace h := h.2 c3
        by_cases c4 : p2 = (3 : Int32)
        · replace h := h.1 c4
          refine ez_tabI (pc := 1) (off := 89) (tgt := 90) Z dX3_paperFact_1 (3 : Int32) c4 (by decide) (by decide) (by decide) rfl ?_
          exact tX3_paperFact_90 hE1 Z hR  h
        · replace h := h.2 c4
          by_cases c5 : p2 = (4 : Int32)
          · replace h := h.1 c5
            refine ez_tabI (pc := 1) (off := 54) (tgt := 55) Z dX3_paperFact_1 (4 : Int32) c5 (by decide) (by decide) (by decide) rfl ?_
            refine ez_aload_n (pc := 55) Z dX3_paperFact_55 0 rfl rfl ?_
            refine fX3_trueThing (pc := 56) (M := s1) Z hE1 inX3_paperFact (List.mem_of_getElem? (i := 2) rfl) dX3_paperFact_56 ?_
            refine ez_iload_n (pc := 59) Z dX3_paperFact_59 1 rfl rfl ?_
            refine ez_iald (pc := 60) (n := 5) (a := 7) (v := s1.2.1 7 p1.toNatClampNeg) (M := s1) Z hE1 8 rfl (by decide : 7 < 12) rfl rfl h.1 dX3_paperFact_60 ?_
            replace h := h.2
            exact ez_iret (pc := 61) Z hR () h rfl dX3_paperFact_61
          · replace h := h.2 c5
            by_cases c6 : p2 = (5 : Int32)
            · replace h := h.1 c6
              refine ez_tabI (pc := 1) (off := 61) (tgt := 62) Z dX3_paperFact_1 (5 : Int32) c6 (by decide) (by decide) (by decide) rfl ?_
              refine ez_aload_n (pc := 62) Z dX3_paperFact_62 0 rfl rfl ?_
              refine fX3_readers (pc := 63) (M := s1) Z hE1 inX3_paperFact (List.mem_of_getElem? (i := 3) rfl) dX3_paperFact_63 ?_
              refine ez_iload_n (pc := 66) Z dX3_paperFact_66 1 rfl rfl ?_
              refine ez_iald (pc := 67) (n := 5) (a := 5) (v := s1.2.1 5 p1.toNatClampNeg) (M := s1) Z hE1 6 rfl (by decide : 5 < 12) rfl rfl h.1 dX3_paperFact_67 ?_
              replace h := h.2
              exact ez_iret (pc := 68) Z hR () h rfl dX3_paperFact_68
            · replace h := h.2 c6
              by_cases c7 : p2 = (6 : Int32)
              · replace h := h.1 c7
                refine ez_tabI (pc := 1) (off := 68) (tgt := 69) Z dX3_paperFact_1 (6 : Int32) c7 (by decide) (by decide) (by decide) rfl ?_
                refine ez_aload_n (pc := 69) Z dX3_paperFact_69 0 rfl rfl ?_
                refine ez_iload_n (pc := 70) Z dX3_paperFact_70 1 rfl rfl ?_
                refine ez_callVi (pc := 71) (r := b1) (As := [.int p1]) (st := []) Z (kX3_isInForce Z.2.2.2.2.2.2.2.2.2.1 (E := E) hE1 h) gX3_paperFact_X3_isInForce rfl rfl rfl hdX3_isInForce rfl rfl (ew_rT hE1) (ew_oT hE1 _) rfl rfl rfl rfl dX3_paperFact_71 (fun r8 u9 h => ?_)
                refine ez_if_eq (pc := 74) (tgt := 81) Z dX3_paperFact_74 rfl (fun c10 => ?_) (fun c10 => ?_)
                · replace h := h.1 c10
                  refine ez_iconst (pc := 81) Z dX3_paperFact_81 ec_0 ?_
                  exact ez_iret (pc := 82) Z hR () h rfl dX3_paperFact_82
                · replace h := h.2 c10
                  refine ez_iconst (pc := 77) Z dX3_paperFact_77 ec_1 ?_
                  refine ez_goto (pc := 78) (tgt := 82) Z dX3_paperFact_78 rfl ?_
                  exact ez_iret (pc := 82) Z hR () h rfl dX3_paperFact_82
              · replace h := h.2 c7
                by_cases c11 : p2 = (7 : Int32)
                · replace h := h.1 c11
                  refine ez_tabI (pc := 1) (off := 82) (tgt := 83) Z dX3_paperFact_1 (7 : Int32) c11 (by decide) (by decide) (by decide) rfl ?_
                  refine ez_aload_n (pc := 83) Z dX3_paperFact_83 0 rfl rfl ?_
                  refine fX3_lasted (pc := 84) (M := s1) Z hE1 inX3_paperFact (List.mem_of_getElem? (i := 4) rfl) dX3_paperFact_84 ?_
                  refine ez_iload_n (pc := 87) Z dX3_paperFact_87 1 rfl rfl ?_
                  refine ez_iald (pc := 88) (n := 5) (a := 8) (v := s1.2.1 8 p1.toNatClampNeg) (M := s1) Z hE1 9 rfl (by decide : 8 < 12) rfl rfl h.1 dX3_paperFact_88 ?_
                  replace h := h.2
                  exact ez_iret (pc := 89) Z hR () h rfl dX3_paperFact_89
                · replace h := h.2 c11
                  have gc1 := ez_nt c1
                  have gc2 := ez_nt c2
                  have gc3 := ez_nt c3
                  have gc4 := ez_nt c4
                  have gc5 := ez_nt c5
                  have gc6 := ez_nt c6
                  have gc7 := ez_nt c7
                  have gc11 := ez_nt c11
                  refine ez_tabO (pc := 1) (tgt := 90) Z dX3_paperFact_1 (by simp only [ez_t0, ez_t1, ez_t2, ez_t3, ez_t4, ez_t5, ez_t6, ez_t7] at gc1 gc2 gc3 gc4 gc5 gc6 gc7 gc11; omega) rfl ?_
                  exact tX3_paperFact_90 hE1 Z hR  h
theorem inX3_gainOf : ∀ w ∈ wsX30, w ∈ wsX3_gainOf := fun _ h => List.mem_cons_of_mem _ (List.mem_append_right _ (h))
theorem hdX3_gainOf : yX3_gainOf.cls = RX3 ∧ yX3_gainOf.cls ≠ "java/lang/invoke/MethodHandle" ∧ yX3_gainOf.cls ≠ "java/lang/invoke/VarHandle" ∧ (parseMethodDescriptor yX3_gainOf.desc).map (fun d => d.parameters.length) = some 2 := by decide +kernel
def wX3_gainOf (Q : Int32 → Prop) (p1 : Int32) (p2 : Int32) (s1 : ew_M) : Prop := vp_in ((p1 * (3 : Int32)) + p2) 15 ∧ (Q (s1.2.1 10 ((p1 * (3 : Int32)) + p2).toNatClampNeg) )
set_option maxHeartbeats 4000000 in
set_option maxRecDepth 100000 in
theorem kX3_gainOf {X : ew_X} {l : Launch} (hX : ew_Ap X) {b1 : Nat} {E : ew_M → ew_S} (hE1 : ew_GE X b1 (ew_GT X.2.1 b1) E) {Q : Int32 → Prop} {p1 : Int32} {p2 : Int32} {s1 : ew_M} (h : wX3_gainOf Q p1 p2 s1) : Met l yX3_gainOf wsX3_gainOf ({ frames := 0, cells := 0, slots := 0, locals := 0 } : Room) (va_Pc [.ref (X.2.1 b1), .int p1, .int p2] (ew_wd X (E s1))) (va_Qi (fun (r : Int32) (_ : Unit) => Q r) (fun (u : Unit) => ew_wd X ((fun (_ : Unit) => E s1) u)) X.2.2.1) 0 0 X.2.2.1 := by
  refine ew_met (As := [.ref (X.2.1 b1), .int p1, .int p2]) (L0 := [(0, .ref (X.2.1 b1)), (1, .int p1), (2, .int p2)]) X l hX (by decide) rfl rfl rfl rfl (fun C hl Z hR => ?_)
  subst hl
  refine ez_aload_n (pc := 0) Z dX3_gainOf_0 0 rfl rfl ?_
  refine fX3_gains (pc := 1) (M := s1) Z hE1 inX3_gainOf (List.mem_of_getElem? (i := 1) rfl) dX3_gainOf_1 ?_
  refine ez_iload_n (pc := 4) Z dX3_gainOf_4 1 rfl rfl ?_
  refine ez_iconst (pc := 5) Z dX3_gainOf_5 ec_3 ?_
  refine ez_imul (pc := 6) Z dX3_gainOf_6 ?_
  refine ez_iload_n (pc := 7) Z dX3_gainOf_7 2 rfl rfl ?_
  refine ez_iadd (pc := 8) Z dX3_gainOf_8 ?_
  refine ez_iald (pc := 9) (n := 15) (a := 10) (v := s1.2.1 10 ((p1 * (3 : Int32)) + p2).toNatClampNeg) (M := s1) Z hE1 11 rfl (by decide : 10 < 12) rfl rfl h.1 dX3_gainOf_9 ?_
  replace h := h.2
  exact ez_iret (pc := 10) Z hR () h rfl dX3_gainOf_10
theorem inX3_readersOf : ∀ w ∈ wsX30, w ∈ wsX3_readersOf := fun _ h => List.mem_cons_of_mem _ (List.mem_append_right _ (h))
theorem hdX3_readersOf : yX3_readersOf.cls = RX3 ∧ yX3_readersOf.cls ≠ "java/lang/invoke/MethodHandle" ∧ yX3_readersOf.cls ≠ "java/lang/invoke/VarHandle" ∧ (parseMethodDescriptor yX3_readersOf.desc).map (fun d => d.parameters.length) = some 1 := by decide +kernel
def wX3_readersOf (Q : Int32 → Prop) (p1 : Int32) (s1 : ew_M) : Prop := vp_in p1 5 ∧ (Q (s1.2.1 5 p1.toNatClampNeg) )
set_option maxHeartbeats 4000000 in
set_option maxRecDepth 100000 in
theorem kX3_readersOf {X : ew_X} {l : Launch} (hX : ew_Ap X) {b1 : Nat} {E : ew_M → ew_S} (hE1 : ew_GE X b1 (ew_GT X.2.1 b1) E) {Q : Int32 → Prop} {p1 : Int32} {s1 : ew_M} (h : wX3_readersOf Q p1 s1) : Met l yX3_readersOf wsX3_readersOf ({ frames := 0, cells := 0, slots := 0, locals := 0 } : Room) (va_Pc [.ref (X.2.1 b1), .int p1] (ew_wd X (E s1))) (va_Qi (fun (r : Int32) (_ : Unit) => Q r) (fun (u : Unit) => ew_wd X ((fun (_ : Unit) => E s1) u)) X.2.2.1) 0 0 X.2.2.1 := by
  refine ew_met (As := [.ref (X.2.1 b1), .int p1]) (L0 := [(0, .ref (X.2.1 b1)), (1, .int p1)]) X l hX (by decide) rfl rfl rfl rfl (fun C hl Z hR => ?_)
  subst hl
  refine ez_aload_n (pc := 0) Z dX3_readersOf_0 0 rfl rfl ?_
  refine fX3_readers (pc := 1) (M := s1) Z hE1 inX3_readersOf (List.mem_of_getElem? (i := 1) rfl) dX3_readersOf_1 ?_
  refine ez_iload_n (pc := 4) Z dX3_readersOf_4 1 rfl rfl ?_
  refine ez_iald (pc := 5) (n := 5) (a := 5) (v := s1.2.1 5 p1.toNatClampNeg) (M := s1) Z hE1 6 rfl (by decide : 5 < 12) rfl rfl h.1 dX3_readersOf_5 ?_
  replace h := h.2
  exact ez_iret (pc := 6) Z hR () h rfl dX3_readersOf_6
theorem inX3_changeTruth : ∀ w ∈ wsX30, w ∈ wsX3_changeTruth := fun _ h => List.mem_cons_of_mem _ (List.mem_append_right _ (h))
theorem hdX3_changeTruth : yX3_changeTruth.cls = RX3 ∧ yX3_changeTruth.cls ≠ "java/lang/invoke/MethodHandle" ∧ yX3_changeTruth.cls ≠ "java/lang/invoke/VarHandle" ∧ (parseMethodDescriptor yX3_changeTruth.desc).map (fun d => d.parameters.length) = some 2 := by decide +kernel
def wX3_changeTruth (Q : Int32 → ew_M → Prop) (p1 : Int32) (p2 : Int32) (s1 : ew_M) : Prop := vp_in p1 5 ∧ (vp_in p1 5 ∧ (Q (s1.2.1 7 p1.toNatClampNeg) (ew_sA s1 7 p1.toNatClampNeg p2)))
set_option maxHeartbeats 4000000 in
set_option maxRecDepth 100000 in
theorem kX3_changeTruth {X : ew_X} {l : Launch} (hX : ew_Ap X) {b1 : Nat} {E : ew_M → ew_S} (hE1 : ew_GE X b1 (ew_GT X.2.1 b1) E) {Q : Int32 → ew_M → Prop} {p1 : Int32} {p2 : Int32} {s1 : ew_M} (h : wX3_changeTruth Q p1 p2 s1) : Met l yX3_changeTruth wsX3_changeTruth ({ frames := 0, cells := 0, slots := 0, locals := 0 } : Room) (va_Pc [.ref (X.2.1 b1), .int p1, .int p2] (ew_wd X (E s1))) (va_Qi (fun (r : Int32) (u : ew_M) => Q r u) (fun (u : ew_M) => ew_wd X ((fun (u : ew_M) => E u) u)) X.2.2.1) 0 0 X.2.2.1 := by
  refine ew_met (As := [.ref (X.2.1 b1), .int p1, .int p2]) (L0 := [(0, .ref (X.2.1 b1)), (1, .int p1), (2, .int p2)]) X l hX (by decide) rfl rfl rfl rfl (fun C hl Z hR => ?_)
  subst hl
  refine ez_aload_n (pc := 0) Z dX3_changeTruth_0 0 rfl rfl ?_
  refine fX3_trueThing (pc := 1) (M := s1) Z hE1 inX3_changeTruth (List.mem_of_getElem? (i := 1) rfl) dX3_changeTruth_1 ?_
  refine ez_iload_n (pc := 4) Z dX3_changeTruth_4 1 rfl rfl ?_
  refine ez_iald (pc := 5) (n := 5) (a := 7) (v := s1.2.1 7 p1.toNatClampNeg) (M := s1) Z hE1 8 rfl (by decide : 7 < 12) rfl rfl h.1 dX3_changeTruth_5 ?_
  replace h := h.2
  refine ez_istore_n (pc := 6) (L' := [(3, .int (s1.2.1 7 p1.toNatClampNeg)), (0, .ref (X.2.1 b1)), (1, .int p1), (2, .int p2)]) Z dX3_changeTruth_6 rfl (by decide) rfl ?_
  refine ez_aload_n (pc := 7) Z dX3_changeTruth_7 1 rfl rfl ?_
  refine fX3_trueThing (pc := 8) (M := s1) Z hE1 inX3_changeTruth (List.mem_of_getElem? (i := 1) rfl) dX3_changeTruth_8 ?_
  refine ez_iload_n (pc := 11) Z dX3_changeTruth_11 2 rfl rfl ?_
  refine ez_iload_n (pc := 12) Z dX3_changeTruth_12 3 rfl rfl ?_
  refine ez_iast (pc := 13) (n := 5) (a := 7) (M := s1) (M' := ew_sA s1 7 p1.toNatClampNeg p2) Z hE1 8 rfl (by decide : 7 < 12) rfl rfl h.1 dX3_changeTruth_13 ?_
  replace h := h.2
  refine ez_iload_n (pc := 14) Z dX3_changeTruth_14 0 rfl rfl ?_
  exact ez_iret (pc := 15) Z hR (ew_sA s1 7 p1.toNatClampNeg p2) h rfl dX3_changeTruth_15
theorem inX3_changeLaw : ∀ w ∈ wsX30, w ∈ wsX3_changeLaw := fun _ h => List.mem_cons_of_mem _ (List.mem_append_right _ (h))
theorem hdX3_changeLaw : yX3_changeLaw.cls = RX3 ∧ yX3_changeLaw.cls ≠ "java/lang/invoke/MethodHandle" ∧ yX3_changeLaw.cls ≠ "java/lang/invoke/VarHandle" ∧ (parseMethodDescriptor yX3_changeLaw.desc).map (fun d => d.parameters.length) = some 1 := by decide +kernel
def wX3_changeLaw (Q : Int32 → ew_M → Prop) (p1 : Int32) (s1 : ew_M) : Prop := Q (s1.1 2) (ew_sI s1 2 p1)
set_option maxHeartbeats 4000000 in
set_option maxRecDepth 100000 in
theorem kX3_changeLaw {X : ew_X} {l : Launch} (hX : ew_Ap X) {b1 : Nat} {E : ew_M → ew_S} (hE1 : ew_GE X b1 (ew_GT X.2.1 b1) E) {Q : Int32 → ew_M → Prop} {p1 : Int32} {s1 : ew_M} (h : wX3_changeLaw Q p1 s1) : Met l yX3_changeLaw wsX3_changeLaw ({ frames := 0, cells := 0, slots := 0, locals := 0 } : Room) (va_Pc [.ref (X.2.1 b1), .int p1] (ew_wd X (E s1))) (va_Qi (fun (r : Int32) (u : ew_M) => Q r u) (fun (u : ew_M) => ew_wd X ((fun (u : ew_M) => E u) u)) X.2.2.1) 0 0 X.2.2.1 := by
  refine ew_met (As := [.ref (X.2.1 b1), .int p1]) (L0 := [(0, .ref (X.2.1 b1)), (1, .int p1)]) X l hX (by decide) rfl rfl rfl rfl (fun C hl Z hR => ?_)
  subst hl
  refine ez_aload_n (pc := 0) Z dX3_changeLaw_0 0 rfl rfl ?_
  refine fX3_ruling (pc := 1) (v := s1.1 2) Z hE1 rfl inX3_changeLaw (List.mem_of_getElem? (i := 1) rfl) dX3_changeLaw_1 ?_
  refine ez_istore_n (pc := 4) (L' := [(2, .int (s1.1 2)), (0, .ref (X.2.1 b1)), (1, .int p1)]) Z dX3_changeLaw_4 rfl (by decide) rfl ?_
  refine ez_aload_n (pc := 5) Z dX3_changeLaw_5 1 rfl rfl ?_
  refine ez_iload_n (pc := 6) Z dX3_changeLaw_6 2 rfl rfl ?_
  refine pX3_ruling (pc := 7) (M := s1) (M' := ew_sI s1 2 p1) Z hE1 rfl inX3_changeLaw (List.mem_of_getElem? (i := 1) rfl) dX3_changeLaw_7 ?_
  refine ez_iload_n (pc := 10) Z dX3_changeLaw_10 0 rfl rfl ?_
  exact ez_iret (pc := 11) Z hR (ew_sI s1 2 p1) h rfl dX3_changeLaw_11
theorem inX3_unreadOf : ∀ w ∈ wsX30, w ∈ wsX3_unreadOf := fun _ h => List.mem_cons_of_mem _ (List.mem_append_right _ (h))
theorem hdX3_unreadOf : yX3_unreadOf.cls = RX3 ∧ yX3_unreadOf.cls ≠ "java/lang/invoke/MethodHandle" ∧ yX3_unreadOf.cls ≠ "java/lang/invoke/VarHandle" ∧ (parseMethodDescriptor yX3_unreadOf.desc).map (fun d => d.parameters.length) = some 1 := by decide +kernel
def wX3_unreadOf (Q : Int32 → Prop) (p1 : Int32) (s1 : ew_M) : Prop := vp_in p1 5 ∧ (vp_in p1 5 ∧ (Q ((s1.2.1 4 p1.toNatClampNeg) &&& ((s1.2.1 5 p1.toNatClampNeg) ^^^ (-1 : Int32))) ))
set_option maxHeartbeats 4000000 in
set_option maxRecDepth 100000 in
theorem kX3_unreadOf {X : ew_X} {l : Launch} (hX : ew_Ap X) {b1 : Nat} {E : ew_M → ew_S} (hE1 : ew_GE X b1 (ew_GT X.2.1 b1) E) {Q : Int32 → Prop} {p1 : Int32} {s1 : ew_M} (h : wX3_unreadOf Q p1 s1) : Met l yX3_unreadOf wsX3_unreadOf ({ frames := 0, cells := 0, slots := 0, locals := 0 } : Room) (va_Pc [.ref (X.2.1 b1), .int p1] (ew_wd X (E s1))) (va_Qi (fun (r : Int32) (_ : Unit) => Q r) (fun (u : Unit) => ew_wd X ((fun (_ : Unit) => E s1) u)) X.2.2.1) 0 0 X.2.2.1 := by
  refine ew_met (As := [.ref (X.2.1 b1), .int p1]) (L0 := [(0, .ref (X.2.1 b1)), (1, .int p1)]) X l hX (by decide) rfl rfl rfl rfl (fun C hl Z hR => ?_)
  subst hl
  refine ez_aload_n (pc := 0) Z dX3_unreadOf_0 0 rfl rfl ?_
  refine fX3_bound (pc := 1) (M := s1) Z hE1 inX3_unreadOf (List.mem_of_getElem? (i := 1) rfl) dX3_unreadOf_1 ?_
  refine ez_iload_n (pc := 4) Z dX3_unreadOf_4 1 rfl rfl ?_
  refine ez_iald (pc := 5) (n := 5) (a := 4) (v := s1.2.1 4 p1.toNatClampNeg) (M := s1) Z hE1 5 rfl (by decide : 4 < 12) rfl rfl h.1 dX3_unreadOf_5 ?_
  replace h := h.2
  refine ez_aload_n (pc := 6) Z dX3_unreadOf_6 0 rfl rfl ?_
  refine fX3_readers (pc := 7) (M := s1) Z hE1 inX3_unreadOf (List.mem_of_getElem? (i := 2) rfl) dX3_unreadOf_7 ?_
  refine ez_iload_n (pc := 10) Z dX3_unreadOf_10 1 rfl rfl ?_
  refine ez_iald (pc := 11) (n := 5) (a := 5) (v := s1.2.1 5 p1.toNatClampNeg) (M := s1) Z hE1 6 rfl (by decide : 5 < 12) rfl rfl h.1 dX3_unreadOf_11 ?_
  replace h := h.2
  refine ez_iconst (pc := 12) Z dX3_unreadOf_12 ec_m1 ?_
  refine ez_ixor (pc := 13) Z dX3_unreadOf_13 ?_
  refine ez_iand (pc := 14) Z dX3_unreadOf_14 ?_
  exact ez_iret (pc := 15) Z hR () h rfl dX3_unreadOf_15
theorem inX3_isUnread : ∀ w ∈ wsX30, w ∈ wsX3_isUnread := fun _ h => List.mem_cons_of_mem _ (List.mem_append_right _ (h))
theorem hdX3_isUnread : yX3_isUnread.cls = RX3 ∧ yX3_isUnread.cls ≠ "java/lang/invoke/MethodHandle" ∧ yX3_isUnread.cls ≠ "java/lang/invoke/VarHandle" ∧ (parseMethodDescriptor yX3_isUnread.desc).map (fun d => d.parameters.length) = some 2 := by decide +kernel
def wX3_isUnread (Q : Int32 → Prop) (p1 : Int32) (p2 : Int32) (s1 : ew_M) : Prop := wX3_unreadOf (fun (r1 : Int32) => (((r1 >>> (p1 &&& 31)) &&& (1 : Int32)) = 0 → Q (0 : Int32) ) ∧ (¬ ((r1 >>> (p1 &&& 31)) &&& (1 : Int32)) = 0 → Q (1 : Int32) )) p2 s1
set_option maxHeartbeats 4000000 in
set_option maxRecDepth 100000 in
theorem kX3_isUnread {X : ew_X} {l : Launch} (hX : ew_Ap X) {b1 : Nat} {E : ew_M → ew_S} (hE1 : ew_GE X b1 (ew_GT X.2.1 b1) E) {Q : Int32 → Prop} {p1 : Int32} {p2 : Int32} {s1 : ew_M} (h : wX3_isUnread Q p1 p2 s1) : Met l yX3_isUnread wsX3_isUnread ({ frames := 1, cells := 0, slots := 0, locals := 21 } : Room) (va_Pc [.ref (X.2.1 b1), .int p1, .int p2] (ew_wd X (E s1))) (va_Qi (fun (r : Int32) (_ : Unit) => Q r) (fun (u : Unit) => ew_wd X ((fun (_ : Unit) => E s1) u)) X.2.2.1) 0 0 X.2.2.1 := by
  refine ew_met (As := [.ref (X.2.1 b1), .int p1, .int p2]) (L0 := [(0, .ref (X.2.1 b1)), (1, .int p1), (2, .int p2)]) X l hX (by decide) rfl rfl rfl rfl (fun C hl Z hR => ?_)
  subst hl
  refine ez_aload_n (pc := 0) Z dX3_isUnread_0 0 rfl rfl ?_
  refine ez_iload_n (pc := 1) Z dX3_isUnread_1 2 rfl rfl ?_
  refine ez_callVi (pc := 2) (r := b1) (As := [.int p2]) (st := []) Z (kX3_unreadOf Z.2.2.2.2.2.2.2.2.2.1 (E := E) hE1 h) gX3_isUnread_X3_unreadOf rfl rfl rfl hdX3_unreadOf rfl rfl (ew_rT hE1) (ew_oT hE1 _) rfl rfl rfl rfl dX3_isUnread_2 (fun r1 u2 h => ?_)
  refine ez_iload_n (pc := 5) Z dX3_isUnread_5 1 rfl rfl ?_
  refine ez_ishr (pc := 6) Z dX3_isUnread_6 ?_
  refine ez_iconst (pc := 7) Z dX3_isUnread_7 ec_1 ?_
  refine ez_iand (pc := 8) Z dX3_isUnread_8 ?_
  refine ez_if_eq (pc := 9) (tgt := 16) Z dX3_isUnread_9 rfl (fun c3 => ?_) (fun c3 => ?_)
  · replace h := h.1 c3
    refine ez_iconst (pc := 16) Z dX3_isUnread_16 ec_0 ?_
    exact ez_zret (pc := 17) Z hR () rfl h rfl dX3_isUnread_17
  · replace h := h.2 c3
    refine ez_iconst (pc := 12) Z dX3_isUnread_12 ec_1 ?_
    refine ez_goto (pc := 13) (tgt := 17) Z dX3_isUnread_13 rfl ?_
    exact ez_zret (pc := 17) Z hR () rfl h rfl dX3_isUnread_17
theorem inX3_canRead : ∀ w ∈ wsX30, w ∈ wsX3_canRead := fun _ h => List.mem_cons_of_mem _ (List.mem_append_right _ (h))
theorem hdX3_canRead : yX3_canRead.cls = RX3 ∧ yX3_canRead.cls ≠ "java/lang/invoke/MethodHandle" ∧ yX3_canRead.cls ≠ "java/lang/invoke/VarHandle" ∧ (parseMethodDescriptor yX3_canRead.desc).map (fun d => d.parameters.length) = some 2 := by decide +kernel
def wX3_canRead (Q : Int32 → Prop) (p1 : Int32) (p2 : Int32) (s1 : ew_M) : Prop := wX3_isUnread (fun (r1 : Int32) => (r1 = 0 → Q (0 : Int32) ) ∧ (¬ r1 = 0 → wX3_isInForce (fun (r4 : Int32) => (r4 = 0 → Q (0 : Int32) ) ∧ (¬ r4 = 0 → Q (1 : Int32) )) p2 s1)) p1 p2 s1
set_option maxHeartbeats 4000000 in
set_option maxRecDepth 100000 in
theorem kX3_canRead {X : ew_X} {l : Launch} (hX : ew_Ap X) {b1 : Nat} {E : ew_M → ew_S} (hE1 : ew_GE X b1 (ew_GT X.2.1 b1) E) {Q : Int32 → Prop} {p1 : Int32} {p2 : Int32} {s1 : ew_M} (h : wX3_canRead Q p1 p2 s1) : Met l yX3_canRead wsX3_canRead ({ frames := 3, cells := 0, slots := 0, locals := 65 } : Room) (va_Pc [.ref (X.2.1 b1), .int p1, .int p2] (ew_wd X (E s1))) (va_Qi (fun (r : Int32) (_ : Unit) => Q r) (fun (u : Unit) => ew_wd X ((fun (_ : Unit) => E s1) u)) X.2.2.1) 0 0 X.2.2.1 := by
  refine ew_met (As := [.ref (X.2.1 b1), .int p1, .int p2]) (L0 := [(0, .ref (X.2.1 b1)), (1, .int p1), (2, .int p2)]) X l hX (by decide) rfl rfl rfl rfl (fun C hl Z hR => ?_)
  subst hl
  refine ez_aload_n (pc := 0) Z dX3_canRead_0 0 rfl rfl ?_
  refine ez_iload_n (pc := 1) Z dX3_canRead_1 1 rfl rfl ?_
  refine ez_iload_n (pc := 2) Z dX3_canRead_2 2 rfl rfl ?_
  refine ez_callVi (pc := 3) (r := b1) (As := [.int p1, .int p2]) (st := []) Z (kX3_isUnread Z.2.2.2.2.2.2.2.2.2.1 (E := E) hE1 h) gX3_canRead_X3_isUnread rfl rfl rfl hdX3_isUnread rfl rfl (ew_rT hE1) (ew_oT hE1 _) rfl rfl rfl rfl dX3_canRead_3 (fun r1 u2 h => ?_)
  refine ez_if_eq (pc := 6) (tgt := 21) Z dX3_canRead_6 rfl (fun c3 => ?_) (fun c3 => ?_)
  · replace h := h.1 c3
    refine ez_iconst (pc := 21) Z dX3_canRead_21 ec_0 ?_
    exact ez_zret (pc := 22) Z hR () rfl h rfl dX3_canRead_22
  · replace h := h.2 c3
    refine ez_aload_n (pc := 9) Z dX3_canRead_9 0 rfl rfl ?_
    refine ez_iload_n (pc := 10) Z dX3_canRead_10 2 rfl rfl ?_
    refine ez_callVi (pc := 11) (r := b1) (As := [.int p2]) (st := []) Z (kX3_isInForce Z.2.2.2.2.2.2.2.2.2.1 (E := E) hE1 h) gX3_canRead_X3_isInForce rfl rfl rfl hdX3_isInForce rfl rfl (ew_rT hE1) (ew_oT hE1 _) rfl rfl rfl rfl dX3_canRead_11 (fun r4 u5 h => ?_)
    refine ez_if_eq (pc := 14) (tgt := 21) Z dX3_canRead_14 rfl (fun c6 => ?_) (fun c6 => ?_)
    · replace h := h.1 c6
      refine ez_iconst (pc := 21) Z dX3_canRead_21 ec_0 ?_
      exact ez_zret (pc := 22) Z hR () rfl h rfl dX3_canRead_22
    · replace h := h.2 c6
      refine ez_iconst (pc := 17) Z dX3_canRead_17 ec_1 ?_
      refine ez_goto (pc := 18) (tgt := 22) Z dX3_canRead_18 rfl ?_
      exact ez_zret (pc := 22) Z hR () rfl h rfl dX3_canRead_22
theorem inX3_markRead : ∀ w ∈ wsX30, w ∈ wsX3_markRead := fun _ h => List.mem_cons_of_mem _ (List.mem_append_right _ (h))
theorem hdX3_markRead : yX3_markRead.cls = RX3 ∧ yX3_markRead.cls ≠ "java/lang/invoke/MethodHandle" ∧ yX3_markRead.cls ≠ "java/lang/invoke/VarHandle" ∧ (parseMethodDescriptor yX3_markRead.desc).map (fun d => d.parameters.length) = some 2 := by decide +kernel
def wX3_markRead (Q : ew_M → Prop) (p1 : Int32) (p2 : Int32) (s1 : ew_M) : Prop := vp_in p2 5 ∧ (vp_in p2 5 ∧ (Q (ew_sA s1 5 p2.toNatClampNeg ((s1.2.1 5 p2.toNatClampNeg) ||| ((1 : Int32) <<< (p1 &&& 31))))))
set_option maxHeartbeats 4000000 in
set_option maxRecDepth 100000 in
theorem kX3_markRead {X : ew_X} {l : Launch} (hX : ew_Ap X) {b1 : Nat} {E : ew_M → ew_S} (hE1 : ew_GE X b1 (ew_GT X.2.1 b1) E) {Q : ew_M → Prop} {p1 : Int32} {p2 : Int32} {s1 : ew_M} (h : wX3_markRead Q p1 p2 s1) : Met l yX3_markRead wsX3_markRead ({ frames := 0, cells := 0, slots := 0, locals := 0 } : Room) (va_Pc [.ref (X.2.1 b1), .int p1, .int p2] (ew_wd X (E s1))) (va_Qv (fun (u : ew_M) => Q u) (fun (u : ew_M) => ew_wd X ((fun (u : ew_M) => E u) u)) X.2.2.1) 0 0 X.2.2.1 := by
  refine ew_met (As := [.ref (X.2.1 b1), .int p1, .int p2]) (L0 := [(0, .ref (X.2.1 b1)), (1, .int p1), (2, .int p2)]) X l hX (by decide) rfl rfl rfl rfl (fun C hl Z hR => ?_)
  subst hl
  refine ez_aload_n (pc := 0) Z dX3_markRead_0 0 rfl rfl ?_
  refine fX3_readers (pc := 1) (M := s1) Z hE1 inX3_markRead (List.mem_of_getElem? (i := 1) rfl) dX3_markRead_1 ?_
  refine ez_iload_n (pc := 4) Z dX3_markRead_4 2 rfl rfl ?_
  refine ez_dup2_11 (pc := 5) Z dX3_markRead_5 rfl rfl ?_
  refine ez_iald (pc := 6) (n := 5) (a := 5) (v := s1.2.1 5 p2.toNatClampNeg) (M := s1) Z hE1 6 rfl (by decide : 5 < 12) rfl rfl h.1 dX3_markRead_6 ?_
  replace h := h.2
  refine ez_iconst (pc := 7) Z dX3_markRead_7 ec_1 ?_
  refine ez_iload_n (pc := 8) Z dX3_markRead_8 1 rfl rfl ?_
  refine ez_ishl (pc := 9) Z dX3_markRead_9 ?_
  refine ez_ior (pc := 10) Z dX3_markRead_10 ?_
  refine ez_iast (pc := 11) (n := 5) (a := 5) (M := s1) (M' := ew_sA s1 5 p2.toNatClampNeg ((s1.2.1 5 p2.toNatClampNeg) ||| ((1 : Int32) <<< (p1 &&& 31)))) Z hE1 6 rfl (by decide : 5 < 12) rfl rfl h.1 dX3_markRead_11 ?_
  replace h := h.2
  exact ez_vret (pc := 12) Z hR (ew_sA s1 5 p2.toNatClampNeg ((s1.2.1 5 p2.toNatClampNeg) ||| ((1 : Int32) <<< (p1 &&& 31)))) h rfl dX3_markRead_12
theorem inX3_heardBy : ∀ w ∈ wsX30, w ∈ wsX3_heardBy := fun _ h => List.mem_cons_of_mem _ (List.mem_append_right _ (h))
theorem hdX3_heardBy : yX3_heardBy.cls = RX3 ∧ yX3_heardBy.cls ≠ "java/lang/invoke/MethodHandle" ∧ yX3_heardBy.cls ≠ "java/lang/invoke/VarHandle" ∧ (parseMethodDescriptor yX3_heardBy.desc).map (fun d => d.parameters.length) = some 2 := by decide +kernel
def wX3_heardBy (Q : Int32 → Prop) (p1 : Int32) (p2 : Int32) (s1 : ew_M) : Prop := vp_in ((p2 * (6 : Int32)) + p1) 30 ∧ (Q (s1.2.1 11 ((p2 * (6 : Int32)) + p1).toNatClampNeg) )
set_option maxHeartbeats 4000000 in
set_option maxRecDepth 100000 in
theorem kX3_heardBy {X : ew_X} {l : Launch} (hX : ew_Ap X) {b1 : Nat} {E : ew_M → ew_S} (hE1 : ew_GE X b1 (ew_GT X.2.1 b1) E) {Q : Int32 → Prop} {p1 : Int32} {p2 : Int32} {s1 : ew_M} (h : wX3_heardBy Q p1 p2 s1) : Met l yX3_heardBy wsX3_heardBy ({ frames := 0, cells := 0, slots := 0, locals := 0 } : Room) (va_Pc [.ref (X.2.1 b1), .int p1, .int p2] (ew_wd X (E s1))) (va_Qi (fun (r : Int32) (_ : Unit) => Q r) (fun (u : Unit) => ew_wd X ((fun (_ : Unit) => E s1) u)) X.2.2.1) 0 0 X.2.2.1 := by
  refine ew_met (As := [.ref (X.2.1 b1), .int p1, .int p2]) (L0 := [(0, .ref (X.2.1 b1)), (1, .int p1), (2, .int p2)]) X l hX (by decide) rfl rfl rfl rfl (fun C hl Z hR => ?_)
  subst hl
  refine ez_aload_n (pc := 0) Z dX3_heardBy_0 0 rfl rfl ?_
  refine fX3_heard (pc := 1) (M := s1) Z hE1 inX3_heardBy (List.mem_of_getElem? (i := 1) rfl) dX3_heardBy_1 ?_
  refine ez_iload_n (pc := 4) Z dX3_heardBy_4 2 rfl rfl ?_
  refine ez_bipush (pc := 5) Z dX3_heardBy_5 eb_6 ?_
  refine ez_imul (pc := 7) Z dX3_heardBy_7 ?_
  refine ez_iload_n (pc := 8) Z dX3_heardBy_8 1 rfl rfl ?_
  refine ez_iadd (pc := 9) Z dX3_heardBy_9 ?_
  refine ez_iald (pc := 10) (n := 30) (a := 11) (v := s1.2.1 11 ((p2 * (6 : Int32)) + p1).toNatClampNeg) (M := s1) Z hE1 12 rfl (by decide : 11 < 12) rfl rfl h.1 dX3_heardBy_10 ?_
  replace h := h.2
  exact ez_iret (pc := 11) Z hR () h rfl dX3_heardBy_11
theorem inX3_trustIn : ∀ w ∈ wsX30, w ∈ wsX3_trustIn := fun _ h => List.mem_cons_of_mem _ (List.mem_append_right _ (h))
theorem hdX3_trustIn : yX3_trustIn.cls = RX3 ∧ yX3_trustIn.cls ≠ "java/lang/invoke/MethodHandle" ∧ yX3_trustIn.cls ≠ "java/lang/invoke/VarHandle" ∧ (parseMethodDescriptor yX3_trustIn.desc).map (fun d => d.parameters.length) = some 2 := by decide +kernel
def wX3_trustIn (Q : Int64 → Prop) (p1 : Int32) (p2 : Int32) (s1 : ew_M) : Prop := (¬ p1 = p2 → Q (((100 : Int32) - (s1.1 3)).toInt64) ) ∧ (p1 = p2 → Q (((2 : Int32) * (s1.1 3)).toInt64) )
set_option maxHeartbeats 4000000 in
set_option maxRecDepth 100000 in
theorem kX3_trustIn {X : ew_X} {l : Launch} (hX : ew_Ap X) {b1 : Nat} {E : ew_M → ew_S} (hE1 : ew_GE X b1 (ew_GT X.2.1 b1) E) {Q : Int64 → Prop} {p1 : Int32} {p2 : Int32} {s1 : ew_M} (h : wX3_trustIn Q p1 p2 s1) : Met l yX3_trustIn wsX3_trustIn ({ frames := 0, cells := 0, slots := 0, locals := 0 } : Room) (va_Pc [.ref (X.2.1 b1), .int p1, .int p2] (ew_wd X (E s1))) (va_Ql (fun (r : Int64) (_ : Unit) => Q r) (fun (u : Unit) => ew_wd X ((fun (_ : Unit) => E s1) u)) X.2.2.1) 0 0 X.2.2.1 := by
  refine ew_met (As := [.ref (X.2.1 b1), .int p1, .int p2]) (L0 := [(0, .ref (X.2.1 b1)), (1, .int p1), (2, .int p2)]) X l hX (by decide) rfl rfl rfl rfl (fun C hl Z hR => ?_)
  subst hl
  refine ez_iload_n (pc := 0) Z dX3_trustIn_0 1 rfl rfl ?_
  refine ez_iload_n (pc := 1) Z dX3_trustIn_1 2 rfl rfl ?_
  refine ez_icmp_ne (pc := 2) (tgt := 15) Z dX3_trustIn_2 rfl (fun c1 => ?_) (fun c1 => ?_)
  · replace h := h.1 c1
    refine ez_bipush (pc := 15) Z dX3_trustIn_15 eb_100 ?_
    refine ez_aload_n (pc := 17) Z dX3_trustIn_17 0 rfl rfl ?_
    refine fX3_clerk (pc := 18) (v := s1.1 3) Z hE1 rfl inX3_trustIn (List.mem_of_getElem? (i := 1) rfl) dX3_trustIn_18 ?_
    refine ez_isub (pc := 21) Z dX3_trustIn_21 ?_
    refine ez_i2l (pc := 22) Z dX3_trustIn_22 ?_
    exact ez_lret (pc := 23) Z hR () h rfl dX3_trustIn_23
  · replace h := h.2 c1
    refine ez_iconst (pc := 5) Z dX3_trustIn_5 ec_2 ?_
    refine ez_aload_n (pc := 6) Z dX3_trustIn_6 0 rfl rfl ?_
    refine fX3_clerk (pc := 7) (v := s1.1 3) Z hE1 rfl inX3_trustIn (List.mem_of_getElem? (i := 1) rfl) dX3_trustIn_7 ?_
    refine ez_imul (pc := 10) Z dX3_trustIn_10 ?_
    refine ez_i2l (pc := 11) Z dX3_trustIn_11 ?_
    refine ez_goto (pc := 12) (tgt := 23) Z dX3_trustIn_12 rfl ?_
    exact ez_lret (pc := 23) Z hR () h rfl dX3_trustIn_23
theorem inX3_clerkSays : ∀ w ∈ wsX30, w ∈ wsX3_clerkSays := fun _ h => List.mem_cons_of_mem _ (List.mem_append_right _ (h))
theorem hdX3_clerkSays : yX3_clerkSays.cls = RX3 ∧ yX3_clerkSays.cls ≠ "java/lang/invoke/MethodHandle" ∧ yX3_clerkSays.cls ≠ "java/lang/invoke/VarHandle" ∧ (parseMethodDescriptor yX3_clerkSays.desc).map (fun d => d.parameters.length) = some 3 := by decide +kernel
def wX3_clerkSays_55 (R16 : Int32 × Int32 → Prop) (Q : Int32 → ew_M → Prop) (v1 : Int32) (v2 : Int32) (v3 : Int32) (v4 : Int32) (v6 : Int32) (t0 : Int32) (s1 : ew_M) : Prop := R16 (t0, v6 + (1 : Int32))
def wX3_clerkSays_54 (R16 : Int32 × Int32 → Prop) (Q : Int32 → ew_M → Prop) (v1 : Int32) (v2 : Int32) (v3 : Int32) (v4 : Int32) (v6 : Int32) (s1 : ew_M) : Prop := wX3_clerkSays_55 R16 Q v1 v2 v3 v4 v6 (0 : Int32) s1
def wX3_clerkSays_109  (Q : Int32 → ew_M → Prop) (v1 : Int32) (v2 : Int32) (s1 : ew_M) : Prop := vp_in ((v2 * (6 : Int32)) + v1) 30 ∧ (vp_in ((v2 * (6 : Int32)) + v1) 30 ∧ (vp_in ((v2 * (6 : Int32)) + v1) 30 ∧ (∀ (y1 : Int32), y1 = (ew_sA s1 11 ((v2 * (6 : Int32)) + v1).toNatClampNeg ((s1.2.1 11 ((v2 * (6 : Int32)) + v1).toNatClampNeg) + (1 : Int32))).2.1 11 ((v2 * (6 : Int32)) + v1).toNatClampNeg → Q y1 (ew_sA s1 11 ((v2 * (6 : Int32)) + v1).toNatClampNeg ((s1.2.1 11 ((v2 * (6 : Int32)) + v1).toNatClampNeg) + (1 : Int32))))))
def wX3_clerkSays_71 (R71 : Int32 × ew_M → Prop) (Q : Int32 → ew_M → Prop) (v1 : Int32) (v2 : Int32) (v3 : Int32) (v4 : Int32) (v6 : Int32) (s1 : ew_M) : Prop := ((3 : Int32) ≤ v6 → wX3_lessenWeights (fun (m3 : ew_M) => wX3_clerkSays_109 Q v1 v2 m3) v4 s1) ∧ (¬ (3 : Int32) ≤ v6 → vp_in (v4 + v6) 90 ∧ (wX3_trustIn (fun (r4 : Int64) => vp_in (v4 + v6) 90 ∧ (R71 (v6 + (1 : Int32), ew_sW s1 0 (v4 + v6).toNatClampNeg ((s1.2.2 0 (v4 + v6).toNatClampNeg) * r4)))) v6 v3 s1))
def wX3_clerkSays_16 (R16 : Int32 × Int32 → Prop) (Q : Int32 → ew_M → Prop) (v1 : Int32) (v2 : Int32) (v3 : Int32) (v4 : Int32) (v5 : Int32) (v6 : Int32) (s1 : ew_M) : Prop := ((3 : Int32) ≤ v6 → (¬ v5 = 0 → wX3_clerkSays_109 Q v1 v2 s1) ∧ (v5 = 0 → ew_lp (fun (R : Int32 × ew_M → Prop) (x : Int32 × ew_M) => wX3_clerkSays_71 R Q v1 v2 v3 v4 x.1 x.2) ((0 : Int32), s1))) ∧ (¬ (3 : Int32) ≤ v6 → (v5 = 0 → wX3_clerkSays_54 R16 Q v1 v2 v3 v4 v6 s1) ∧ (¬ v5 = 0 → vp_in (v4 + v6) 90 ∧ (wX3_trustIn (fun (r4 : Int64) => (¬ (lg_cmp ((s1.2.2 0 (v4 + v6).toNatClampNeg) * r4) (0 : Int64)) = 0 → wX3_clerkSays_54 R16 Q v1 v2 v3 v4 v6 s1) ∧ ((lg_cmp ((s1.2.2 0 (v4 + v6).toNatClampNeg) * r4) (0 : Int64)) = 0 → wX3_clerkSays_55 R16 Q v1 v2 v3 v4 v6 (1 : Int32) s1)) v6 v3 s1)))
def wX3_clerkSays (Q : Int32 → ew_M → Prop) (p1 : Int32) (p2 : Int32) (p3 : Int32) (s1 : ew_M) : Prop := ew_lp (fun (R : Int32 × Int32 → Prop) (x : Int32 × Int32) => wX3_clerkSays_16 R Q p1 p2 p3 (((p2 * (6 : Int32)) + p1) * (3 : Int32)) x.1 x.2 s1) ((1 : Int32), (0 : Int32))
set_option maxHeartbeats 4000000 in
set_option maxRecDepth 100000 in
theorem tX3_clerkSays_55 {C : ew_C} {X : ew_X} {b1 : Nat} {E : ew_M → ew_S} (hE1 : ew_GE X b1 (ew_GT X.2.1 b1) E) (Z : ew_Z C X cX3_clerkSays 7 RX3 wsX3_clerkSays ({ frames := 2, cells := 0, slots := 0, locals := 54 } : Room) (some .int)) {Q : Int32 → ew_M → Prop} {R16 : Int32 × Int32 → Prop} {v1 : Int32} {v2 : Int32} {v3 : Int32} {v4 : Int32} {v6 : Int32} {t0 : Int32} {s1 : ew_M} (hR : C.2.2.2.2.2.2.2.2.2.2 = MQ C.2.2.2.2.2.2.2.1 (va_Qi (fun (r : Int32) (u : ew_M) => Q r u) (fun (u : ew_M) => ew_wd X ((fun (u : ew_M) => E u) u)) X.2.2.1) C.2.2.2.2.2.2.1 C.2.2.2.2.1 0 0 X.2.2.1) (hR16 : ∀ x : Int32 × Int32, R16 x → ew_W C X 7 (E s1) 16 [(0, .ref (X.2.1 b1)), (1, .int v1), (2, .int v2), (3, .int v3), (4, .int v4), (5, .int x.1), (6, .int x.2)] []) (h : wX3_clerkSays_55 R16 Q v1 v2 v3 v4 v6 t0 s1) : ew_W C X 7 (E s1) 55 [(0, .ref (X.2.1 b1)), (1, .int v1), (2, .int v2), (3, .int v3), (4, .int v4), (6, .int v6)] [.int t0] := by
  refine ez_istore (pc := 55) (L' := [(5, .int t0), (0, .ref (X.2.1 b1)), (1, .int v1), (2, .int v2), (3, .int v3), (4, .int v4), (6, .int v6)]) Z dX3_clerkSays_55 (by decide) rfl ?_
  refine ez_iinc (pc := 57) (L' := [(6, .int (v6 + (1 : Int32))), (5, .int t0), (0, .ref (X.2.1 b1)), (1, .int v1), (2, .int v2), (3, .int v3), (4, .int v4)]) Z dX3_clerkSays_57 6 rfl (ei_1 _) (by decide) rfl ?_
  refine ez_goto (pc := 60) (tgt := 16) Z dX3_clerkSays_60 rfl ?_
  refine ez_sub [(0, .ref (X.2.1 b1)), (1, .int v1), (2, .int v2), (3, .int v3), (4, .int v4), (5, .int t0), (6, .int (v6 + (1 : Int32)))] [2, 3, 4, 5, 6, 1, 0] rfl ?_
  exact hR16 _ h
set_option maxHeartbeats 4000000 in
set_option maxRecDepth 100000 in
theorem tX3_clerkSays_54 {C : ew_C} {X : ew_X} {b1 : Nat} {E : ew_M → ew_S} (hE1 : ew_GE X b1 (ew_GT X.2.1 b1) E) (Z : ew_Z C X cX3_clerkSays 7 RX3 wsX3_clerkSays ({ frames := 2, cells := 0, slots := 0, locals := 54 } : Room) (some .int)) {Q : Int32 → ew_M → Prop} {R16 : Int32 × Int32 → Prop} {v1 : Int32} {v2 : Int32} {v3 : Int32} {v4 : Int32} {v6 : Int32} {s1 : ew_M} (hR : C.2.2.2.2.2.2.2.2.2.2 = MQ C.2.2.2.2.2.2.2.1 (va_Qi (fun (r : Int32) (u : ew_M) => Q r u) (fun (u : ew_M) => ew_wd X ((fun (u : ew_M) => E u) u)) X.2.2.1) C.2.2.2.2.2.2.1 C.2.2.2.2.1 0 0 X.2.2.1) (hR16 : ∀ x : Int32 × Int32, R16 x → ew_W C X 7 (E s1) 16 [(0, .ref (X.2.1 b1)), (1, .int v1), (2, .int v2), (3, .int v3), (4, .int v4), (5, .int x.1), (6, .int x.2)] []) (h : wX3_clerkSays_54 R16 Q v1 v2 v3 v4 v6 s1) : ew_W C X 7 (E s1) 54 [(0, .ref (X.2.1 b1)), (1, .int v1), (2, .int v2), (3, .int v3), (4, .int v4), (6, .int v6)] [] := by
  refine ez_iconst (pc := 54) Z dX3_clerkSays_54 ec_0 ?_
  exact tX3_clerkSays_55 hE1 Z hR hR16 h
set_option maxHeartbeats 4000000 in
set_option maxRecDepth 100000 in
theorem tX3_clerkSays_109 {C : ew_C} {X : ew_X} {b1 : Nat} {E : ew_M → ew_S} (hE1 : ew_GE X b1 (ew_GT X.2.1 b1) E) (Z : ew_Z C X cX3_clerkSays 7 RX3 wsX3_clerkSays ({ frames := 2, cells := 0, slots := 0, locals := 54 } : Room) (some .int)) {Q : Int32 → ew_M → Prop}  {v1 : Int32} {v2 : Int32} {s1 : ew_M} (hR : C.2.2.2.2.2.2.2.2.2.2 = MQ C.2.2.2.2.2.2.2.1 (va_Qi (fun (r : Int32) (u : ew_M) => Q r u) (fun (u : ew_M) => ew_wd X ((fun (u : ew_M) => E u) u)) X.2.2.1) C.2.2.2.2.2.2.1 C.2.2.2.2.1 0 0 X.2.2.1) (h : wX3_clerkSays_109 Q v1 v2 s1) : ew_W C X 7 (E s1) 109 [(0, .ref (X.2.1 b1)), (1, .int v1), (2, .int v2)] [] := by
  refine ez_aload_n (pc := 109) Z dX3_clerkSays_109 0 rfl rfl ?_
  refine fX3_heard (pc := 110) (M := s1) Z hE1 inX3_clerkSays (List.mem_of_getElem? (i := 2) rfl) dX3_clerkSays_110 ?_
  refine ez_iload_n (pc := 113) Z dX3_clerkSays_113 2 rfl rfl ?_
  refine ez_bipush (pc := 114) Z dX3_clerkSays_114 eb_6 ?_
  refine ez_imul (pc := 116) Z dX3_clerkSays_116 ?_
  refine ez_iload_n (pc := 117) Z dX3_clerkSays_117 1 rfl rfl ?_
  refine ez_iadd (pc := 118) Z dX3_clerkSays_118 ?_
  refine ez_dup2_11 (pc := 119) Z dX3_clerkSays_119 rfl rfl ?_
  refine ez_iald (pc := 120) (n := 30) (a := 11) (v := s1.2.1 11 ((v2 * (6 : Int32)) + v1).toNatClampNeg) (M := s1) Z hE1 12 rfl (by decide : 11 < 12) rfl rfl h.1 dX3_clerkSays_120 ?_
  replace h := h.2
  refine ez_iconst (pc := 121) Z dX3_clerkSays_121 ec_1 ?_
  refine ez_iadd (pc := 122) Z dX3_clerkSays_122 ?_
  refine ez_iast (pc := 123) (n := 30) (a := 11) (M := s1) (M' := ew_sA s1 11 ((v2 * (6 : Int32)) + v1).toNatClampNeg ((s1.2.1 11 ((v2 * (6 : Int32)) + v1).toNatClampNeg) + (1 : Int32))) Z hE1 12 rfl (by decide : 11 < 12) rfl rfl h.1 dX3_clerkSays_123 ?_
  replace h := h.2
  refine ez_aload_n (pc := 124) Z dX3_clerkSays_124 0 rfl rfl ?_
  refine fX3_heard (pc := 125) (M := ew_sA s1 11 ((v2 * (6 : Int32)) + v1).toNatClampNeg ((s1.2.1 11 ((v2 * (6 : Int32)) + v1).toNatClampNeg) + (1 : Int32))) Z hE1 inX3_clerkSays (List.mem_of_getElem? (i := 2) rfl) dX3_clerkSays_125 ?_
  refine ez_iload_n (pc := 128) Z dX3_clerkSays_128 2 rfl rfl ?_
  refine ez_bipush (pc := 129) Z dX3_clerkSays_129 eb_6 ?_
  refine ez_imul (pc := 131) Z dX3_clerkSays_131 ?_
  refine ez_iload_n (pc := 132) Z dX3_clerkSays_132 1 rfl rfl ?_
  refine ez_iadd (pc := 133) Z dX3_clerkSays_133 ?_
  refine ez_iald (pc := 134) (n := 30) (a := 11) (v := (ew_sA s1 11 ((v2 * (6 : Int32)) + v1).toNatClampNeg ((s1.2.1 11 ((v2 * (6 : Int32)) + v1).toNatClampNeg) + (1 : Int32))).2.1 11 ((v2 * (6 : Int32)) + v1).toNatClampNeg) (M := ew_sA s1 11 ((v2 * (6 : Int32)) + v1).toNatClampNeg ((s1.2.1 11 ((v2 * (6 : Int32)) + v1).toNatClampNeg) + (1 : Int32))) Z hE1 12 rfl (by decide : 11 < 12) rfl rfl h.1 dX3_clerkSays_134 ?_
  replace h := h.2
  refine ez_topi (fun y1 ey1 => ?_)
  replace h := h y1 ey1
  exact ez_iret (pc := 135) Z hR (ew_sA s1 11 ((v2 * (6 : Int32)) + v1).toNatClampNeg ((s1.2.1 11 ((v2 * (6 : Int32)) + v1).toNatClampNeg) + (1 : Int32))) h rfl dX3_clerkSays_135
set_option maxHeartbeats 4000000 in
set_option maxRecDepth 100000 in
theorem tX3_clerkSays_71 {C : ew_C} {X : ew_X} {b1 : Nat} {E : ew_M → ew_S} (hE1 : ew_GE X b1 (ew_GT X.2.1 b1) E) (Z : ew_Z C X cX3_clerkSays 7 RX3 wsX3_clerkSays ({ frames := 2, cells := 0, slots := 0, locals := 54 } : Room) (some .int)) {Q : Int32 → ew_M → Prop} {R71 : Int32 × ew_M → Prop} {v1 : Int32} {v2 : Int32} {v3 : Int32} {v4 : Int32} {v6 : Int32} {s1 : ew_M} (hR : C.2.2.2.2.2.2.2.2.2.2 = MQ C.2.2.2.2.2.2.2.1 (va_Qi (fun (r : Int32) (u : ew_M) => Q r u) (fun (u : ew_M) => ew_wd X ((fun (u : ew_M) => E u) u)) X.2.2.1) C.2.2.2.2.2.2.1 C.2.2.2.2.1 0 0 X.2.2.1) (hR71 : ∀ x : Int32 × ew_M, R71 x → ew_W C X 7 (E x.2) 71 [(0, .ref (X.2.1 b1)), (1, .int v1), (2, .int v2), (3, .int v3), (4, .int v4), (6, .int x.1)] []) (h : wX3_clerkSays_71 R71 Q v1 v2 v3 v4 v6 s1) : ew_W C X 7 (E s1) 71 [(0, .ref (X.2.1 b1)), (1, .int v1), (2, .int v2), (3, .int v3), (4, .int v4), (6, .int v6)] [] := by
  refine ez_iload (pc := 71) Z dX3_clerkSays_71 5 rfl ?_
  refine ez_iconst (pc := 73) Z dX3_clerkSays_73 ec_3 ?_
  refine ez_icmp_ge (pc := 74) (tgt := 103) Z dX3_clerkSays_74 rfl (fun c1 => ?_) (fun c1 => ?_)
  · replace h := h.1 c1
    refine ez_aload_n (pc := 103) Z dX3_clerkSays_103 0 rfl rfl ?_
    refine ez_iload (pc := 104) Z dX3_clerkSays_104 4 rfl ?_
    refine ez_callVv (pc := 106) (r := b1) (As := [.int v4]) (st := []) Z (kX3_lessenWeights Z.2.2.2.2.2.2.2.2.2.1 (E := E) hE1 h) gX3_clerkSays_X3_lessenWeights rfl rfl rfl hdX3_lessenWeights rfl rfl (ew_rT hE1) (ew_oT hE1 _) rfl rfl rfl rfl dX3_clerkSays_106 (fun m3 h => ?_)
    refine ez_sub [(0, .ref (X.2.1 b1)), (1, .int v1), (2, .int v2)] [0, 1, 2] rfl ?_
    exact tX3_clerkSays_109 hE1 Z hR  h
  · replace h := h.2 c1
    refine ez_aload_n (pc := 77) Z dX3_clerkSays_77 0 rfl rfl ?_
    refine fX3_weights (pc := 78) (M := s1) Z hE1 inX3_clerkSays (List.mem_of_getElem? (i := 1) rfl) dX3_clerkSays_78 ?_
    refine ez_iload (pc := 81) Z dX3_clerkSays_81 4 rfl ?_
    refine ez_iload (pc := 83) Z dX3_clerkSays_83 5 rfl ?_
    refine ez_iadd (pc := 85) Z dX3_clerkSays_85 ?_
    refine ez_dup2_11 (pc := 86) Z dX3_clerkSays_86 rfl rfl ?_
    refine ez_lald (pc := 87) (n := 90) (a := 0) (v := s1.2.2 0 (v4 + v6).toNatClampNeg) (M := s1) Z hE1 13 rfl (by decide : 0 < 1) rfl rfl h.1 dX3_clerkSays_87 ?_
    replace h := h.2
    refine ez_aload_n (pc := 88) Z dX3_clerkSays_88 0 rfl rfl ?_
    refine ez_iload (pc := 89) Z dX3_clerkSays_89 5 rfl ?_
    refine ez_iload_n (pc := 91) Z dX3_clerkSays_91 3 rfl rfl ?_
    refine ez_callVl (pc := 92) (r := b1) (As := [.int v6, .int v3]) (st := [.long (s1.2.2 0 (v4 + v6).toNatClampNeg), .int (v4 + v6), .ref (X.2.1 (b1 + 13))]) Z (kX3_trustIn Z.2.2.2.2.2.2.2.2.2.1 (E := E) hE1 h) gX3_clerkSays_X3_trustIn rfl rfl rfl hdX3_trustIn rfl rfl (ew_rT hE1) (ew_oT hE1 _) rfl rfl rfl rfl dX3_clerkSays_92 (fun r4 u5 h => ?_)
    refine ez_lmul (pc := 95) Z dX3_clerkSays_95 ?_
    refine ez_last (pc := 96) (n := 90) (a := 0) (M := s1) (M' := ew_sW s1 0 (v4 + v6).toNatClampNeg ((s1.2.2 0 (v4 + v6).toNatClampNeg) * r4)) Z hE1 13 rfl (by decide : 0 < 1) rfl (fun _ _ _ => rfl) rfl h.1 dX3_clerkSays_96 ?_
    replace h := h.2
    refine ez_iinc (pc := 97) (L' := [(6, .int (v6 + (1 : Int32))), (0, .ref (X.2.1 b1)), (1, .int v1), (2, .int v2), (3, .int v3), (4, .int v4)]) Z dX3_clerkSays_97 5 rfl (ei_1 _) (by decide) rfl ?_
    refine ez_goto (pc := 100) (tgt := 71) Z dX3_clerkSays_100 rfl ?_
    refine ez_sub [(0, .ref (X.2.1 b1)), (1, .int v1), (2, .int v2), (3, .int v3), (4, .int v4), (6, .int (v6 + (1 : Int32)))] [1, 2, 3, 4, 5, 0] rfl ?_
    exact hR71 _ h
set_option maxHeartbeats 4000000 in
set_option maxRecDepth 100000 in
theorem tX3_clerkSays_16 {C : ew_C} {X : ew_X} {b1 : Nat} {E : ew_M → ew_S} (hE1 : ew_GE X b1 (ew_GT X.2.1 b1) E) (Z : ew_Z C X cX3_clerkSays 7 RX3 wsX3_clerkSays ({ frames := 2, cells := 0, slots := 0, locals := 54 } : Room) (some .int)) {Q : Int32 → ew_M → Prop} {R16 : Int32 × Int32 → Prop} {v1 : Int32} {v2 : Int32} {v3 : Int32} {v4 : Int32} {v5 : Int32} {v6 : Int32} {s1 : ew_M} (hR : C.2.2.2.2.2.2.2.2.2.2 = MQ C.2.2.2.2.2.2.2.1 (va_Qi (fun (r : Int32) (u : ew_M) => Q r u) (fun (u : ew_M) => ew_wd X ((fun (u : ew_M) => E u) u)) X.2.2.1) C.2.2.2.2.2.2.1 C.2.2.2.2.1 0 0 X.2.2.1) (hR16 : ∀ x : Int32 × Int32, R16 x → ew_W C X 7 (E s1) 16 [(0, .ref (X.2.1 b1)), (1, .int v1), (2, .int v2), (3, .int v3), (4, .int v4), (5, .int x.1), (6, .int x.2)] []) (h : wX3_clerkSays_16 R16 Q v1 v2 v3 v4 v5 v6 s1) : ew_W C X 7 (E s1) 16 [(0, .ref (X.2.1 b1)), (1, .int v1), (2, .int v2), (3, .int v3), (4, .int v4), (5, .int v5), (6, .int v6)] [] := by
  refine ez_iload (pc := 16) Z dX3_clerkSays_16 6 rfl ?_
  refine ez_iconst (pc := 18) Z dX3_clerkSays_18 ec_3 ?_
  refine ez_icmp_ge (pc := 19) (tgt := 63) Z dX3_clerkSays_19 rfl (fun c1 => ?_) (fun c1 => ?_)
  · replace h := h.1 c1
    refine ez_iload (pc := 63) Z dX3_clerkSays_63 5 rfl ?_
    refine ez_if_ne (pc := 65) (tgt := 109) Z dX3_clerkSays_65 rfl (fun c2 => ?_) (fun c2 => ?_)
    · replace h := h.1 c2
      refine ez_sub [(0, .ref (X.2.1 b1)), (1, .int v1), (2, .int v2)] [0, 1, 2] rfl ?_
      exact tX3_clerkSays_109 hE1 Z hR  h
    · replace h := h.2 c2
      refine ez_iconst (pc := 68) Z dX3_clerkSays_68 ec_0 ?_
      refine ez_istore (pc := 69) (L' := [(6, .int (0 : Int32)), (0, .ref (X.2.1 b1)), (1, .int v1), (2, .int v2), (3, .int v3), (4, .int v4), (5, .int v5)]) Z dX3_clerkSays_69 (by decide) rfl ?_
      refine ez_sub [(0, .ref (X.2.1 b1)), (1, .int v1), (2, .int v2), (3, .int v3), (4, .int v4), (6, .int (0 : Int32))] [1, 2, 3, 4, 5, 0] rfl ?_
      exact ew_ind (P := fun (x : Int32 × ew_M) => ew_W C X 7 (E x.2) 71 [(0, .ref (X.2.1 b1)), (1, .int v1), (2, .int v2), (3, .int v3), (4, .int v4), (6, .int x.1)] []) (fun R hR9 x h => tX3_clerkSays_71 hE1 Z hR  hR9 h) h
  · replace h := h.2 c1
    refine ez_iload (pc := 22) Z dX3_clerkSays_22 5 rfl ?_
    refine ez_if_eq (pc := 24) (tgt := 54) Z dX3_clerkSays_24 rfl (fun c3 => ?_) (fun c3 => ?_)
    · replace h := h.1 c3
      refine ez_sub [(0, .ref (X.2.1 b1)), (1, .int v1), (2, .int v2), (3, .int v3), (4, .int v4), (6, .int v6)] [0, 1, 2, 3, 4, 6] rfl ?_
      exact tX3_clerkSays_54 hE1 Z hR hR16 h
    · replace h := h.2 c3
      refine ez_aload_n (pc := 27) Z dX3_clerkSays_27 0 rfl rfl ?_
      refine fX3_weights (pc := 28) (M := s1) Z hE1 inX3_clerkSays (List.mem_of_getElem? (i := 1) rfl) dX3_clerkSays_28 ?_
      refine ez_iload (pc := 31) Z dX3_clerkSays_31 4 rfl ?_
      refine ez_iload (pc := 33) Z dX3_clerkSays_33 6 rfl ?_
      refine ez_iadd (pc := 35) Z dX3_clerkSays_35 ?_
      refine ez_lald (pc := 36) (n := 90) (a := 0) (v := s1.2.2 0 (v4 + v6).toNatClampNeg) (M := s1) Z hE1 13 rfl (by decide : 0 < 1) rfl rfl h.1 dX3_clerkSays_36 ?_
      replace h := h.2
      refine ez_aload_n (pc := 37) Z dX3_clerkSays_37 0 rfl rfl ?_
      refine ez_iload (pc := 38) Z dX3_clerkSays_38 6 rfl ?_
      refine ez_iload_n (pc := 40) Z dX3_clerkSays_40 3 rfl rfl ?_
      refine ez_callVl (pc := 41) (r := b1) (As := [.int v6, .int v3]) (st := [.long (s1.2.2 0 (v4 + v6).toNatClampNeg)]) Z (kX3_trustIn Z.2.2.2.2.2.2.2.2.2.1 (E := E) hE1 h) gX3_clerkSays_X3_trustIn rfl rfl rfl hdX3_trustIn rfl rfl (ew_rT hE1) (ew_oT hE1 _) rfl rfl rfl rfl dX3_clerkSays_41 (fun r4 u5 h => ?_)
      refine ez_lmul (pc := 44) Z dX3_clerkSays_44 ?_
      refine ez_lconst (pc := 45) Z dX3_clerkSays_45 el_0 ?_
      refine ez_lcmp (pc := 46) Z dX3_clerkSays_46 ?_
      refine ez_if_ne (pc := 47) (tgt := 54) Z dX3_clerkSays_47 rfl (fun c6 => ?_) (fun c6 => ?_)
      · replace h := h.1 c6
        refine ez_sub [(0, .ref (X.2.1 b1)), (1, .int v1), (2, .int v2), (3, .int v3), (4, .int v4), (6, .int v6)] [0, 1, 2, 3, 4, 6] rfl ?_
        exact tX3_clerkSays_54 hE1 Z hR hR16 h
      · replace h := h.2 c6
        refine ez_iconst (pc := 50) Z dX3_clerkSays_50 ec_1 ?_
        refine ez_goto (pc := 51) (tgt := 55) Z dX3_clerkSays_51 rfl ?_
        refine ez_sub [(0, .ref (X.2.1 b1)), (1, .int v1), (2, .int v2), (3, .int v3), (4, .int v4), (6, .int v6)] [0, 1, 2, 3, 4, 6] rfl ?_
        exact tX3_clerkSays_55 hE1 Z hR hR16 h
set_option maxHeartbeats 4000000 in
set_option maxRecDepth 100000 in
theorem kX3_clerkSays {X : ew_X} {l : Launch} (hX : ew_Ap X) {b1 : Nat} {E : ew_M → ew_S} (hE1 : ew_GE X b1 (ew_GT X.2.1 b1) E) {Q : Int32 → ew_M → Prop} {p1 : Int32} {p2 : Int32} {p3 : Int32} {s1 : ew_M} (h : wX3_clerkSays Q p1 p2 p3 s1) : Met l yX3_clerkSays wsX3_clerkSays ({ frames := 2, cells := 0, slots := 0, locals := 54 } : Room) (va_Pc [.ref (X.2.1 b1), .int p1, .int p2, .int p3] (ew_wd X (E s1))) (va_Qi (fun (r : Int32) (u : ew_M) => Q r u) (fun (u : ew_M) => ew_wd X ((fun (u : ew_M) => E u) u)) X.2.2.1) 0 0 X.2.2.1 := by
  refine ew_met (As := [.ref (X.2.1 b1), .int p1, .int p2, .int p3]) (L0 := [(0, .ref (X.2.1 b1)), (1, .int p1), (2, .int p2), (3, .int p3)]) X l hX (by decide) rfl rfl rfl rfl (fun C hl Z hR => ?_)
  subst hl
  refine ez_iload_n (pc := 0) Z dX3_clerkSays_0 2 rfl rfl ?_
  refine ez_bipush (pc := 1) Z dX3_clerkSays_1 eb_6 ?_
  refine ez_imul (pc := 3) Z dX3_clerkSays_3 ?_
  refine ez_iload_n (pc := 4) Z dX3_clerkSays_4 1 rfl rfl ?_
  refine ez_iadd (pc := 5) Z dX3_clerkSays_5 ?_
  refine ez_iconst (pc := 6) Z dX3_clerkSays_6 ec_3 ?_
  refine ez_imul (pc := 7) Z dX3_clerkSays_7 ?_
  refine ez_istore (pc := 8) (L' := [(4, .int (((p2 * (6 : Int32)) + p1) * (3 : Int32))), (0, .ref (X.2.1 b1)), (1, .int p1), (2, .int p2), (3, .int p3)]) Z dX3_clerkSays_8 (by decide) rfl ?_
  refine ez_iconst (pc := 10) Z dX3_clerkSays_10 ec_1 ?_
  refine ez_istore (pc := 11) (L' := [(5, .int (1 : Int32)), (4, .int (((p2 * (6 : Int32)) + p1) * (3 : Int32))), (0, .ref (X.2.1 b1)), (1, .int p1), (2, .int p2), (3, .int p3)]) Z dX3_clerkSays_11 (by decide) rfl ?_
  refine ez_iconst (pc := 13) Z dX3_clerkSays_13 ec_0 ?_
  refine ez_istore (pc := 14) (L' := [(6, .int (0 : Int32)), (5, .int (1 : Int32)), (4, .int (((p2 * (6 : Int32)) + p1) * (3 : Int32))), (0, .ref (X.2.1 b1)), (1, .int p1), (2, .int p2), (3, .int p3)]) Z dX3_clerkSays_14 (by decide) rfl ?_
  refine ez_sub [(0, .ref (X.2.1 b1)), (1, .int p1), (2, .int p2), (3, .int p3), (4, .int (((p2 * (6 : Int32)) + p1) * (3 : Int32))), (5, .int (1 : Int32)), (6, .int (0 : Int32))] [3, 4, 5, 6, 2, 1, 0] rfl ?_
  exact ew_ind (P := fun (x : Int32 × Int32) => ew_W C X 7 (E s1) 16 [(0, .ref (X.2.1 b1)), (1, .int p1), (2, .int p2), (3, .int p3), (4, .int (((p2 * (6 : Int32)) + p1) * (3 : Int32))), (5, .int x.1), (6, .int x.2)] []) (fun R hR9 x h => tX3_clerkSays_16 hE1 Z hR  hR9 h) h
theorem inX3_isBound : ∀ w ∈ wsX30, w ∈ wsX3_isBound := fun _ h => List.mem_cons_of_mem _ (List.mem_append_right _ (h))
theorem hdX3_isBound : yX3_isBound.cls = RX3 ∧ yX3_isBound.cls ≠ "java/lang/invoke/MethodHandle" ∧ yX3_isBound.cls ≠ "java/lang/invoke/VarHandle" ∧ (parseMethodDescriptor yX3_isBound.desc).map (fun d => d.parameters.length) = some 2 := by decide +kernel
def wX3_isBound (Q : Int32 → Prop) (p1 : Int32) (p2 : Int32) (s1 : ew_M) : Prop := vp_in p2 5 ∧ (((((s1.2.1 4 p2.toNatClampNeg) >>> (p1 &&& 31)) &&& (1 : Int32)) = 0 → Q (0 : Int32) ) ∧ (¬ (((s1.2.1 4 p2.toNatClampNeg) >>> (p1 &&& 31)) &&& (1 : Int32)) = 0 → Q (1 : Int32) ))
set_option maxHeartbeats 4000000 in
set_option maxRecDepth 100000 in
theorem kX3_isBound {X : ew_X} {l : Launch} (hX : ew_Ap X) {b1 : Nat} {E : ew_M → ew_S} (hE1 : ew_GE X b1 (ew_GT X.2.1 b1) E) {Q : Int32 → Prop} {p1 : Int32} {p2 : Int32} {s1 : ew_M} (h : wX3_isBound Q p1 p2 s1) : Met l yX3_isBound wsX3_isBound ({ frames := 0, cells := 0, slots := 0, locals := 0 } : Room) (va_Pc [.ref (X.2.1 b1), .int p1, .int p2] (ew_wd X (E s1))) (va_Qi (fun (r : Int32) (_ : Unit) => Q r) (fun (u : Unit) => ew_wd X ((fun (_ : Unit) => E s1) u)) X.2.2.1) 0 0 X.2.2.1 := by
  refine ew_met (As := [.ref (X.2.1 b1), .int p1, .int p2]) (L0 := [(0, .ref (X.2.1 b1)), (1, .int p1), (2, .int p2)]) X l hX (by decide) rfl rfl rfl rfl (fun C hl Z hR => ?_)
  subst hl
  refine ez_aload_n (pc := 0) Z dX3_isBound_0 0 rfl rfl ?_
  refine fX3_bound (pc := 1) (M := s1) Z hE1 inX3_isBound (List.mem_of_getElem? (i := 1) rfl) dX3_isBound_1 ?_
  refine ez_iload_n (pc := 4) Z dX3_isBound_4 2 rfl rfl ?_
  refine ez_iald (pc := 5) (n := 5) (a := 4) (v := s1.2.1 4 p2.toNatClampNeg) (M := s1) Z hE1 5 rfl (by decide : 4 < 12) rfl rfl h.1 dX3_isBound_5 ?_
  replace h := h.2
  refine ez_iload_n (pc := 6) Z dX3_isBound_6 1 rfl rfl ?_
  refine ez_ishr (pc := 7) Z dX3_isBound_7 ?_
  refine ez_iconst (pc := 8) Z dX3_isBound_8 ec_1 ?_
  refine ez_iand (pc := 9) Z dX3_isBound_9 ?_
  refine ez_if_eq (pc := 10) (tgt := 17) Z dX3_isBound_10 rfl (fun c1 => ?_) (fun c1 => ?_)
  · replace h := h.1 c1
    refine ez_iconst (pc := 17) Z dX3_isBound_17 ec_0 ?_
    exact ez_zret (pc := 18) Z hR () rfl h rfl dX3_isBound_18
  · replace h := h.2 c1
    refine ez_iconst (pc := 13) Z dX3_isBound_13 ec_1 ?_
    refine ez_goto (pc := 14) (tgt := 18) Z dX3_isBound_14 rfl ?_
    exact ez_zret (pc := 18) Z hR () rfl h rfl dX3_isBound_18
theorem inX3_weightOf : ∀ w ∈ wsX30, w ∈ wsX3_weightOf := fun _ h => List.mem_cons_of_mem _ (List.mem_append_right _ (h))
theorem hdX3_weightOf : yX3_weightOf.cls = RX3 ∧ yX3_weightOf.cls ≠ "java/lang/invoke/MethodHandle" ∧ yX3_weightOf.cls ≠ "java/lang/invoke/VarHandle" ∧ (parseMethodDescriptor yX3_weightOf.desc).map (fun d => d.parameters.length) = some 3 := by decide +kernel
def wX3_weightOf (Q : Int64 → Prop) (p1 : Int32) (p2 : Int32) (p3 : Int32) (s1 : ew_M) : Prop := vp_in p2 5 ∧ (((((s1.2.1 5 p2.toNatClampNeg) >>> (p1 &&& 31)) &&& (1 : Int32)) = 0 → vp_in ((((p2 * (6 : Int32)) + p1) * (3 : Int32)) + p3) 90 ∧ (Q (s1.2.2 0 ((((p2 * (6 : Int32)) + p1) * (3 : Int32)) + p3).toNatClampNeg) )) ∧ (¬ (((s1.2.1 5 p2.toNatClampNeg) >>> (p1 &&& 31)) &&& (1 : Int32)) = 0 → vp_in p2 5 ∧ ((¬ p3 = (s1.2.1 7 p2.toNatClampNeg) → Q (0 : Int64) ) ∧ (p3 = (s1.2.1 7 p2.toNatClampNeg) → Q (1 : Int64) ))))
set_option maxHeartbeats 4000000 in
set_option maxRecDepth 100000 in
theorem kX3_weightOf {X : ew_X} {l : Launch} (hX : ew_Ap X) {b1 : Nat} {E : ew_M → ew_S} (hE1 : ew_GE X b1 (ew_GT X.2.1 b1) E) {Q : Int64 → Prop} {p1 : Int32} {p2 : Int32} {p3 : Int32} {s1 : ew_M} (h : wX3_weightOf Q p1 p2 p3 s1) : Met l yX3_weightOf wsX3_weightOf ({ frames := 0, cells := 0, slots := 0, locals := 0 } : Room) (va_Pc [.ref (X.2.1 b1), .int p1, .int p2, .int p3] (ew_wd X (E s1))) (va_Ql (fun (r : Int64) (_ : Unit) => Q r) (fun (u : Unit) => ew_wd X ((fun (_ : Unit) => E s1) u)) X.2.2.1) 0 0 X.2.2.1 := by
  refine ew_met (As := [.ref (X.2.1 b1), .int p1, .int p2, .int p3]) (L0 := [(0, .ref (X.2.1 b1)), (1, .int p1), (2, .int p2), (3, .int p3)]) X l hX (by decide) rfl rfl rfl rfl (fun C hl Z hR => ?_)
  subst hl
  refine ez_aload_n (pc := 0) Z dX3_weightOf_0 0 rfl rfl ?_
  refine fX3_readers (pc := 1) (M := s1) Z hE1 inX3_weightOf (List.mem_of_getElem? (i := 1) rfl) dX3_weightOf_1 ?_
  refine ez_iload_n (pc := 4) Z dX3_weightOf_4 2 rfl rfl ?_
  refine ez_iald (pc := 5) (n := 5) (a := 5) (v := s1.2.1 5 p2.toNatClampNeg) (M := s1) Z hE1 6 rfl (by decide : 5 < 12) rfl rfl h.1 dX3_weightOf_5 ?_
  replace h := h.2
  refine ez_iload_n (pc := 6) Z dX3_weightOf_6 1 rfl rfl ?_
  refine ez_ishr (pc := 7) Z dX3_weightOf_7 ?_
  refine ez_iconst (pc := 8) Z dX3_weightOf_8 ec_1 ?_
  refine ez_iand (pc := 9) Z dX3_weightOf_9 ?_
  refine ez_if_eq (pc := 10) (tgt := 29) Z dX3_weightOf_10 rfl (fun c1 => ?_) (fun c1 => ?_)
  · replace h := h.1 c1
    refine ez_aload_n (pc := 29) Z dX3_weightOf_29 0 rfl rfl ?_
    refine fX3_weights (pc := 30) (M := s1) Z hE1 inX3_weightOf (List.mem_of_getElem? (i := 3) rfl) dX3_weightOf_30 ?_
    refine ez_iload_n (pc := 33) Z dX3_weightOf_33 2 rfl rfl ?_
    refine ez_bipush (pc := 34) Z dX3_weightOf_34 eb_6 ?_
    refine ez_imul (pc := 36) Z dX3_weightOf_36 ?_
    refine ez_iload_n (pc := 37) Z dX3_weightOf_37 1 rfl rfl ?_
    refine ez_iadd (pc := 38) Z dX3_weightOf_38 ?_
    refine ez_iconst (pc := 39) Z dX3_weightOf_39 ec_3 ?_
    refine ez_imul (pc := 40) Z dX3_weightOf_40 ?_
    refine ez_iload_n (pc := 41) Z dX3_weightOf_41 3 rfl rfl ?_
    refine ez_iadd (pc := 42) Z dX3_weightOf_42 ?_
    refine ez_lald (pc := 43) (n := 90) (a := 0) (v := s1.2.2 0 ((((p2 * (6 : Int32)) + p1) * (3 : Int32)) + p3).toNatClampNeg) (M := s1) Z hE1 13 rfl (by decide : 0 < 1) rfl rfl h.1 dX3_weightOf_43 ?_
    replace h := h.2
    exact ez_lret (pc := 44) Z hR () h rfl dX3_weightOf_44
  · replace h := h.2 c1
    refine ez_iload_n (pc := 13) Z dX3_weightOf_13 3 rfl rfl ?_
    refine ez_aload_n (pc := 14) Z dX3_weightOf_14 0 rfl rfl ?_
    refine fX3_trueThing (pc := 15) (M := s1) Z hE1 inX3_weightOf (List.mem_of_getElem? (i := 2) rfl) dX3_weightOf_15 ?_
    refine ez_iload_n (pc := 18) Z dX3_weightOf_18 2 rfl rfl ?_
    refine ez_iald (pc := 19) (n := 5) (a := 7) (v := s1.2.1 7 p2.toNatClampNeg) (M := s1) Z hE1 8 rfl (by decide : 7 < 12) rfl rfl h.1 dX3_weightOf_19 ?_
    replace h := h.2
    refine ez_icmp_ne (pc := 20) (tgt := 27) Z dX3_weightOf_20 rfl (fun c2 => ?_) (fun c2 => ?_)
    · replace h := h.1 c2
      refine ez_lconst (pc := 27) Z dX3_weightOf_27 el_0 ?_
      exact ez_lret (pc := 28) Z hR () h rfl dX3_weightOf_28
    · replace h := h.2 c2
      refine ez_lconst (pc := 23) Z dX3_weightOf_23 el_1 ?_
      refine ez_goto (pc := 24) (tgt := 28) Z dX3_weightOf_24 rfl ?_
      exact ez_lret (pc := 28) Z hR () h rfl dX3_weightOf_28
theorem inX3_thinkAbove : ∀ w ∈ wsX30, w ∈ wsX3_thinkAbove := fun _ h => List.mem_cons_of_mem _ (List.mem_append_right _ (h))
theorem hdX3_thinkAbove : yX3_thinkAbove.cls = RX3 ∧ yX3_thinkAbove.cls ≠ "java/lang/invoke/MethodHandle" ∧ yX3_thinkAbove.cls ≠ "java/lang/invoke/VarHandle" ∧ (parseMethodDescriptor yX3_thinkAbove.desc).map (fun d => d.parameters.length) = some 2 := by decide +kernel
def wX3_thinkAbove_5 (R5 : Int64 × Int32 → Prop) (Q : Int64 → Prop) (v1 : Int32) (v2 : Int32) (v3 : Int64) (v5 : Int32) (s1 : ew_M) : Prop := ((3 : Int32) ≤ v5 → Q v3 ) ∧ (¬ (3 : Int32) ≤ v5 → wX3_weightOf (fun (r2 : Int64) => vp_in ((v2 * (3 : Int32)) + v5) 15 ∧ (R5 (v3 + (r2 * ((s1.2.1 10 ((v2 * (3 : Int32)) + v5).toNatClampNeg).toInt64)), v5 + (1 : Int32)))) v1 v2 v5 s1)
def wX3_thinkAbove (Q : Int64 → Prop) (p1 : Int32) (p2 : Int32) (s1 : ew_M) : Prop := ew_lp (fun (R : Int64 × Int32 → Prop) (x : Int64 × Int32) => wX3_thinkAbove_5 R Q p1 p2 x.1 x.2 s1) ((0 : Int64), (0 : Int32))
set_option maxHeartbeats 4000000 in
set_option maxRecDepth 100000 in
theorem tX3_thinkAbove_5 {C : ew_C} {X : ew_X} {b1 : Nat} {E : ew_M → ew_S} (hE1 : ew_GE X b1 (ew_GT X.2.1 b1) E) (Z : ew_Z C X cX3_thinkAbove 6 RX3 wsX3_thinkAbove ({ frames := 1, cells := 0, slots := 0, locals := 23 } : Room) (some .long)) {Q : Int64 → Prop} {R5 : Int64 × Int32 → Prop} {v1 : Int32} {v2 : Int32} {v3 : Int64} {v5 : Int32} {s1 : ew_M} (hR : C.2.2.2.2.2.2.2.2.2.2 = MQ C.2.2.2.2.2.2.2.1 (va_Ql (fun (r : Int64) (_ : Unit) => Q r) (fun (u : Unit) => ew_wd X ((fun (_ : Unit) => E s1) u)) X.2.2.1) C.2.2.2.2.2.2.1 C.2.2.2.2.1 0 0 X.2.2.1) (hR5 : ∀ x : Int64 × Int32, R5 x → ew_W C X 6 (E s1) 5 [(0, .ref (X.2.1 b1)), (1, .int v1), (2, .int v2), (3, .long x.1), (5, .int x.2)] []) (h : wX3_thinkAbove_5 R5 Q v1 v2 v3 v5 s1) : ew_W C X 6 (E s1) 5 [(0, .ref (X.2.1 b1)), (1, .int v1), (2, .int v2), (3, .long v3), (5, .int v5)] [] := by
  refine ez_iload (pc := 5) Z dX3_thinkAbove_5 4 rfl ?_
  refine ez_iconst (pc := 7) Z dX3_thinkAbove_7 ec_3 ?_
  refine ez_icmp_ge (pc := 8) (tgt := 41) Z dX3_thinkAbove_8 rfl (fun c1 => ?_) (fun c1 => ?_)
  · replace h := h.1 c1
    refine ez_lload_n (pc := 41) Z dX3_thinkAbove_41 3 rfl rfl ?_
    exact ez_lret (pc := 42) Z hR () h rfl dX3_thinkAbove_42
  · replace h := h.2 c1
    refine ez_lload_n (pc := 11) Z dX3_thinkAbove_11 3 rfl rfl ?_
    refine ez_aload_n (pc := 12) Z dX3_thinkAbove_12 0 rfl rfl ?_
    refine ez_iload_n (pc := 13) Z dX3_thinkAbove_13 1 rfl rfl ?_
    refine ez_iload_n (pc := 14) Z dX3_thinkAbove_14 2 rfl rfl ?_
    refine ez_iload (pc := 15) Z dX3_thinkAbove_15 4 rfl ?_
    refine ez_callVl (pc := 17) (r := b1) (As := [.int v1, .int v2, .int v5]) (st := [.long v3]) Z (kX3_weightOf Z.2.2.2.2.2.2.2.2.2.1 (E := E) hE1 h) gX3_thinkAbove_X3_weightOf rfl rfl rfl hdX3_weightOf rfl rfl (ew_rT hE1) (ew_oT hE1 _) rfl rfl rfl rfl dX3_thinkAbove_17 (fun r2 u3 h => ?_)
    refine ez_aload_n (pc := 20) Z dX3_thinkAbove_20 0 rfl rfl ?_
    refine fX3_gains (pc := 21) (M := s1) Z hE1 inX3_thinkAbove (List.mem_of_getElem? (i := 1) rfl) dX3_thinkAbove_21 ?_
    refine ez_iload_n (pc := 24) Z dX3_thinkAbove_24 2 rfl rfl ?_
    refine ez_iconst (pc := 25) Z dX3_thinkAbove_25 ec_3 ?_
    refine ez_imul (pc := 26) Z dX3_thinkAbove_26 ?_
    refine ez_iload (pc := 27) Z dX3_thinkAbove_27 4 rfl ?_
    refine ez_iadd (pc := 29) Z dX3_thinkAbove_29 ?_
    refine ez_iald (pc := 30) (n := 15) (a := 10) (v := s1.2.1 10 ((v2 * (3 : Int32)) + v5).toNatClampNeg) (M := s1) Z hE1 11 rfl (by decide : 10 < 12) rfl rfl h.1 dX3_thinkAbove_30 ?_
    replace h := h.2
    refine ez_i2l (pc := 31) Z dX3_thinkAbove_31 ?_
    refine ez_lmul (pc := 32) Z dX3_thinkAbove_32 ?_
    refine ez_ladd (pc := 33) Z dX3_thinkAbove_33 ?_
    refine ez_lstore_n (pc := 34) (L' := [(3, .long (v3 + (r2 * ((s1.2.1 10 ((v2 * (3 : Int32)) + v5).toNatClampNeg).toInt64)))), (0, .ref (X.2.1 b1)), (1, .int v1), (2, .int v2), (5, .int v5)]) Z dX3_thinkAbove_34 rfl (by decide) rfl ?_
    refine ez_iinc (pc := 35) (L' := [(5, .int (v5 + (1 : Int32))), (3, .long (v3 + (r2 * ((s1.2.1 10 ((v2 * (3 : Int32)) + v5).toNatClampNeg).toInt64)))), (0, .ref (X.2.1 b1)), (1, .int v1), (2, .int v2)]) Z dX3_thinkAbove_35 4 rfl (ei_1 _) (by decide) rfl ?_
    refine ez_goto (pc := 38) (tgt := 5) Z dX3_thinkAbove_38 rfl ?_
    refine ez_sub [(0, .ref (X.2.1 b1)), (1, .int v1), (2, .int v2), (3, .long (v3 + (r2 * ((s1.2.1 10 ((v2 * (3 : Int32)) + v5).toNatClampNeg).toInt64)))), (5, .int (v5 + (1 : Int32)))] [2, 3, 4, 1, 0] rfl ?_
    exact hR5 _ h
set_option maxHeartbeats 4000000 in
set_option maxRecDepth 100000 in
theorem kX3_thinkAbove {X : ew_X} {l : Launch} (hX : ew_Ap X) {b1 : Nat} {E : ew_M → ew_S} (hE1 : ew_GE X b1 (ew_GT X.2.1 b1) E) {Q : Int64 → Prop} {p1 : Int32} {p2 : Int32} {s1 : ew_M} (h : wX3_thinkAbove Q p1 p2 s1) : Met l yX3_thinkAbove wsX3_thinkAbove ({ frames := 1, cells := 0, slots := 0, locals := 23 } : Room) (va_Pc [.ref (X.2.1 b1), .int p1, .int p2] (ew_wd X (E s1))) (va_Ql (fun (r : Int64) (_ : Unit) => Q r) (fun (u : Unit) => ew_wd X ((fun (_ : Unit) => E s1) u)) X.2.2.1) 0 0 X.2.2.1 := by
  refine ew_met (As := [.ref (X.2.1 b1), .int p1, .int p2]) (L0 := [(0, .ref (X.2.1 b1)), (1, .int p1), (2, .int p2)]) X l hX (by decide) rfl rfl rfl rfl (fun C hl Z hR => ?_)
  subst hl
  refine ez_lconst (pc := 0) Z dX3_thinkAbove_0 el_0 ?_
  refine ez_lstore_n (pc := 1) (L' := [(3, .long (0 : Int64)), (0, .ref (X.2.1 b1)), (1, .int p1), (2, .int p2)]) Z dX3_thinkAbove_1 rfl (by decide) rfl ?_
  refine ez_iconst (pc := 2) Z dX3_thinkAbove_2 ec_0 ?_
  refine ez_istore (pc := 3) (L' := [(5, .int (0 : Int32)), (3, .long (0 : Int64)), (0, .ref (X.2.1 b1)), (1, .int p1), (2, .int p2)]) Z dX3_thinkAbove_3 (by decide) rfl ?_
  refine ez_sub [(0, .ref (X.2.1 b1)), (1, .int p1), (2, .int p2), (3, .long (0 : Int64)), (5, .int (0 : Int32))] [2, 3, 4, 1, 0] rfl ?_
  exact ew_ind (P := fun (x : Int64 × Int32) => ew_W C X 6 (E s1) 5 [(0, .ref (X.2.1 b1)), (1, .int p1), (2, .int p2), (3, .long x.1), (5, .int x.2)] []) (fun R hR9 x h => tX3_thinkAbove_5 hE1 Z hR  hR9 h) h
theorem inX3_thinkBelow : ∀ w ∈ wsX30, w ∈ wsX3_thinkBelow := fun _ h => List.mem_cons_of_mem _ (List.mem_append_right _ (h))
theorem hdX3_thinkBelow : yX3_thinkBelow.cls = RX3 ∧ yX3_thinkBelow.cls ≠ "java/lang/invoke/MethodHandle" ∧ yX3_thinkBelow.cls ≠ "java/lang/invoke/VarHandle" ∧ (parseMethodDescriptor yX3_thinkBelow.desc).map (fun d => d.parameters.length) = some 2 := by decide +kernel
def wX3_thinkBelow_5 (R5 : Int64 × Int32 → Prop) (Q : Int64 → Prop) (v1 : Int32) (v2 : Int32) (v3 : Int64) (v5 : Int32) (s1 : ew_M) : Prop := ((3 : Int32) ≤ v5 → Q v3 ) ∧ (¬ (3 : Int32) ≤ v5 → wX3_weightOf (fun (r2 : Int64) => R5 (v3 + r2, v5 + (1 : Int32))) v1 v2 v5 s1)
def wX3_thinkBelow (Q : Int64 → Prop) (p1 : Int32) (p2 : Int32) (s1 : ew_M) : Prop := ew_lp (fun (R : Int64 × Int32 → Prop) (x : Int64 × Int32) => wX3_thinkBelow_5 R Q p1 p2 x.1 x.2 s1) ((0 : Int64), (0 : Int32))
set_option maxHeartbeats 4000000 in
set_option maxRecDepth 100000 in
theorem tX3_thinkBelow_5 {C : ew_C} {X : ew_X} {b1 : Nat} {E : ew_M → ew_S} (hE1 : ew_GE X b1 (ew_GT X.2.1 b1) E) (Z : ew_Z C X cX3_thinkBelow 6 RX3 wsX3_thinkBelow ({ frames := 1, cells := 0, slots := 0, locals := 23 } : Room) (some .long)) {Q : Int64 → Prop} {R5 : Int64 × Int32 → Prop} {v1 : Int32} {v2 : Int32} {v3 : Int64} {v5 : Int32} {s1 : ew_M} (hR : C.2.2.2.2.2.2.2.2.2.2 = MQ C.2.2.2.2.2.2.2.1 (va_Ql (fun (r : Int64) (_ : Unit) => Q r) (fun (u : Unit) => ew_wd X ((fun (_ : Unit) => E s1) u)) X.2.2.1) C.2.2.2.2.2.2.1 C.2.2.2.2.1 0 0 X.2.2.1) (hR5 : ∀ x : Int64 × Int32, R5 x → ew_W C X 6 (E s1) 5 [(0, .ref (X.2.1 b1)), (1, .int v1), (2, .int v2), (3, .long x.1), (5, .int x.2)] []) (h : wX3_thinkBelow_5 R5 Q v1 v2 v3 v5 s1) : ew_W C X 6 (E s1) 5 [(0, .ref (X.2.1 b1)), (1, .int v1), (2, .int v2), (3, .long v3), (5, .int v5)] [] := by
  refine ez_iload (pc := 5) Z dX3_thinkBelow_5 4 rfl ?_
  refine ez_iconst (pc := 7) Z dX3_thinkBelow_7 ec_3 ?_
  refine ez_icmp_ge (pc := 8) (tgt := 28) Z dX3_thinkBelow_8 rfl (fun c1 => ?_) (fun c1 => ?_)
  · replace h := h.1 c1
    refine ez_lload_n (pc := 28) Z dX3_thinkBelow_28 3 rfl rfl ?_
    exact ez_lret (pc := 29) Z hR () h rfl dX3_thinkBelow_29
  · replace h := h.2 c1
    refine ez_lload_n (pc := 11) Z dX3_thinkBelow_11 3 rfl rfl ?_
    refine ez_aload_n (pc := 12) Z dX3_thinkBelow_12 0 rfl rfl ?_
    refine ez_iload_n (pc := 13) Z dX3_thinkBelow_13 1 rfl rfl ?_
    refine ez_iload_n (pc := 14) Z dX3_thinkBelow_14 2 rfl rfl ?_
    refine ez_iload (pc := 15) Z dX3_thinkBelow_15 4 rfl ?_
    refine ez_callVl (pc := 17) (r := b1) (As := [.int v1, .int v2, .int v5]) (st := [.long v3]) Z (kX3_weightOf Z.2.2.2.2.2.2.2.2.2.1 (E := E) hE1 h) gX3_thinkBelow_X3_weightOf rfl rfl rfl hdX3_weightOf rfl rfl (ew_rT hE1) (ew_oT hE1 _) rfl rfl rfl rfl dX3_thinkBelow_17 (fun r2 u3 h => ?_)
    refine ez_ladd (pc := 20) Z dX3_thinkBelow_20 ?_
    refine ez_lstore_n (pc := 21) (L' := [(3, .long (v3 + r2)), (0, .ref (X.2.1 b1)), (1, .int v1), (2, .int v2), (5, .int v5)]) Z dX3_thinkBelow_21 rfl (by decide) rfl ?_
    refine ez_iinc (pc := 22) (L' := [(5, .int (v5 + (1 : Int32))), (3, .long (v3 + r2)), (0, .ref (X.2.1 b1)), (1, .int v1), (2, .int v2)]) Z dX3_thinkBelow_22 4 rfl (ei_1 _) (by decide) rfl ?_
    refine ez_goto (pc := 25) (tgt := 5) Z dX3_thinkBelow_25 rfl ?_
    refine ez_sub [(0, .ref (X.2.1 b1)), (1, .int v1), (2, .int v2), (3, .long (v3 + r2)), (5, .int (v5 + (1 : Int32)))] [2, 3, 4, 1, 0] rfl ?_
    exact hR5 _ h
set_option maxHeartbeats 4000000 in
set_option maxRecDepth 100000 in
theorem kX3_thinkBelow {X : ew_X} {l : Launch} (hX : ew_Ap X) {b1 : Nat} {E : ew_M → ew_S} (hE1 : ew_GE X b1 (ew_GT X.2.1 b1) E) {Q : Int64 → Prop} {p1 : Int32} {p2 : Int32} {s1 : ew_M} (h : wX3_thinkBelow Q p1 p2 s1) : Met l yX3_thinkBelow wsX3_thinkBelow ({ frames := 1, cells := 0, slots := 0, locals := 23 } : Room) (va_Pc [.ref (X.2.1 b1), .int p1, .int p2] (ew_wd X (E s1))) (va_Ql (fun (r : Int64) (_ : Unit) => Q r) (fun (u : Unit) => ew_wd X ((fun (_ : Unit) => E s1) u)) X.2.2.1) 0 0 X.2.2.1 := by
  refine ew_met (As := [.ref (X.2.1 b1), .int p1, .int p2]) (L0 := [(0, .ref (X.2.1 b1)), (1, .int p1), (2, .int p2)]) X l hX (by decide) rfl rfl rfl rfl (fun C hl Z hR => ?_)
  subst hl
  refine ez_lconst (pc := 0) Z dX3_thinkBelow_0 el_0 ?_
  refine ez_lstore_n (pc := 1) (L' := [(3, .long (0 : Int64)), (0, .ref (X.2.1 b1)), (1, .int p1), (2, .int p2)]) Z dX3_thinkBelow_1 rfl (by decide) rfl ?_
  refine ez_iconst (pc := 2) Z dX3_thinkBelow_2 ec_0 ?_
  refine ez_istore (pc := 3) (L' := [(5, .int (0 : Int32)), (3, .long (0 : Int64)), (0, .ref (X.2.1 b1)), (1, .int p1), (2, .int p2)]) Z dX3_thinkBelow_3 (by decide) rfl ?_
  refine ez_sub [(0, .ref (X.2.1 b1)), (1, .int p1), (2, .int p2), (3, .long (0 : Int64)), (5, .int (0 : Int32))] [2, 3, 4, 1, 0] rfl ?_
  exact ew_ind (P := fun (x : Int64 × Int32) => ew_W C X 6 (E s1) 5 [(0, .ref (X.2.1 b1)), (1, .int p1), (2, .int p2), (3, .long x.1), (5, .int x.2)] []) (fun R hR9 x h => tX3_thinkBelow_5 hE1 Z hR  hR9 h) h
theorem inX3_thinksLess : ∀ w ∈ wsX30, w ∈ wsX3_thinksLess := fun _ h => List.mem_cons_of_mem _ (List.mem_append_right _ (h))
theorem hdX3_thinksLess : yX3_thinksLess.cls = RX3 ∧ yX3_thinksLess.cls ≠ "java/lang/invoke/MethodHandle" ∧ yX3_thinksLess.cls ≠ "java/lang/invoke/VarHandle" ∧ (parseMethodDescriptor yX3_thinksLess.desc).map (fun d => d.parameters.length) = some 2 := by decide +kernel
def wX3_thinksLess (Q : Int32 → Prop) (p1 : Int32) (p2 : Int32) (s1 : ew_M) : Prop := wX3_thinkAbove (fun (r1 : Int64) => vp_in p1 6 ∧ (wX3_thinkBelow (fun (r3 : Int64) => (0 ≤ (lg_cmp r1 ((((s1.2.1 1 p1.toNatClampNeg) - (4 : Int32)).toInt64) * r3)) → Q (0 : Int32) ) ∧ (¬ 0 ≤ (lg_cmp r1 ((((s1.2.1 1 p1.toNatClampNeg) - (4 : Int32)).toInt64) * r3)) → Q (1 : Int32) )) p1 p2 s1)) p1 p2 s1
set_option maxHeartbeats 4000000 in
set_option maxRecDepth 100000 in
theorem kX3_thinksLess {X : ew_X} {l : Launch} (hX : ew_Ap X) {b1 : Nat} {E : ew_M → ew_S} (hE1 : ew_GE X b1 (ew_GT X.2.1 b1) E) {Q : Int32 → Prop} {p1 : Int32} {p2 : Int32} {s1 : ew_M} (h : wX3_thinksLess Q p1 p2 s1) : Met l yX3_thinksLess wsX3_thinksLess ({ frames := 2, cells := 0, slots := 0, locals := 48 } : Room) (va_Pc [.ref (X.2.1 b1), .int p1, .int p2] (ew_wd X (E s1))) (va_Qi (fun (r : Int32) (_ : Unit) => Q r) (fun (u : Unit) => ew_wd X ((fun (_ : Unit) => E s1) u)) X.2.2.1) 0 0 X.2.2.1 := by
  refine ew_met (As := [.ref (X.2.1 b1), .int p1, .int p2]) (L0 := [(0, .ref (X.2.1 b1)), (1, .int p1), (2, .int p2)]) X l hX (by decide) rfl rfl rfl rfl (fun C hl Z hR => ?_)
  subst hl
  refine ez_aload_n (pc := 0) Z dX3_thinksLess_0 0 rfl rfl ?_
  refine ez_iload_n (pc := 1) Z dX3_thinksLess_1 1 rfl rfl ?_
  refine ez_iload_n (pc := 2) Z dX3_thinksLess_2 2 rfl rfl ?_
  refine ez_callVl (pc := 3) (r := b1) (As := [.int p1, .int p2]) (st := []) Z (kX3_thinkAbove Z.2.2.2.2.2.2.2.2.2.1 (E := E) hE1 h) gX3_thinksLess_X3_thinkAbove rfl rfl rfl hdX3_thinkAbove rfl rfl (ew_rT hE1) (ew_oT hE1 _) rfl rfl rfl rfl dX3_thinksLess_3 (fun r1 u2 h => ?_)
  refine ez_aload_n (pc := 6) Z dX3_thinksLess_6 0 rfl rfl ?_
  refine fX3_bar (pc := 7) (M := s1) Z hE1 inX3_thinksLess (List.mem_of_getElem? (i := 1) rfl) dX3_thinksLess_7 ?_
  refine ez_iload_n (pc := 10) Z dX3_thinksLess_10 1 rfl rfl ?_
  refine ez_iald (pc := 11) (n := 6) (a := 1) (v := s1.2.1 1 p1.toNatClampNeg) (M := s1) Z hE1 2 rfl (by decide : 1 < 12) rfl rfl h.1 dX3_thinksLess_11 ?_
  replace h := h.2
  refine ez_iconst (pc := 12) Z dX3_thinksLess_12 ec_4 ?_
  refine ez_isub (pc := 13) Z dX3_thinksLess_13 ?_
  refine ez_i2l (pc := 14) Z dX3_thinksLess_14 ?_
  refine ez_aload_n (pc := 15) Z dX3_thinksLess_15 0 rfl rfl ?_
  refine ez_iload_n (pc := 16) Z dX3_thinksLess_16 1 rfl rfl ?_
  refine ez_iload_n (pc := 17) Z dX3_thinksLess_17 2 rfl rfl ?_
  refine ez_callVl (pc := 18) (r := b1) (As := [.int p1, .int p2]) (st := [.long (((s1.2.1 1 p1.toNatClampNeg) - (4 : Int32)).toInt64), .long r1]) Z (kX3_thinkBelow Z.2.2.2.2.2.2.2.2.2.1 (E := E) hE1 h) gX3_thinksLess_X3_thinkBelow rfl rfl rfl hdX3_thinkBelow rfl rfl (ew_rT hE1) (ew_oT hE1 _) rfl rfl rfl rfl dX3_thinksLess_18 (fun r3 u4 h => ?_)
  refine ez_lmul (pc := 21) Z dX3_thinksLess_21 ?_
  refine ez_lcmp (pc := 22) Z dX3_thinksLess_22 ?_
  refine ez_if_ge (pc := 23) (tgt := 30) Z dX3_thinksLess_23 rfl (fun c5 => ?_) (fun c5 => ?_)
  · replace h := h.1 c5
    refine ez_iconst (pc := 30) Z dX3_thinksLess_30 ec_0 ?_
    exact ez_zret (pc := 31) Z hR () rfl h rfl dX3_thinksLess_31
  · replace h := h.2 c5
    refine ez_iconst (pc := 26) Z dX3_thinksLess_26 ec_1 ?_
    refine ez_goto (pc := 27) (tgt := 31) Z dX3_thinksLess_27 rfl ?_
    exact ez_zret (pc := 31) Z hR () rfl h rfl dX3_thinksLess_31
theorem inX3_give : ∀ w ∈ wsX30, w ∈ wsX3_give := fun _ h => List.mem_cons_of_mem _ (List.mem_append_right _ (h))
theorem hdX3_give : yX3_give.cls = RX3 ∧ yX3_give.cls ≠ "java/lang/invoke/MethodHandle" ∧ yX3_give.cls ≠ "java/lang/invoke/VarHandle" ∧ (parseMethodDescriptor yX3_give.desc).map (fun d => d.parameters.length) = some 2 := by decide +kernel
def wX3_give_34 (R2 : Int32 → Prop) (Q : ew_M → Prop) (v1 : Int32) (v2 : Int32) (v3 : Int32) (t0 : Int32) (s1 : ew_M) : Prop := wX3_isUnread (fun (r1 : Int32) => (r1 = 0 → R2 (v3 + (1 : Int32))) ∧ (¬ r1 = 0 → wX3_markRead (fun (m5 : ew_M) => Q m5) t0 v2 s1)) t0 v2 s1
def wX3_give_2 (R2 : Int32 → Prop) (Q : ew_M → Prop) (v1 : Int32) (v2 : Int32) (v3 : Int32) (s1 : ew_M) : Prop := ((s1.1 0) ≤ v3 → Q s1) ∧ (¬ (s1.1 0) ≤ v3 → ((s1.1 0) ≤ (v1 + v3) → wX3_give_34 R2 Q v1 v2 v3 ((v1 + v3) - (s1.1 0)) s1) ∧ (¬ (s1.1 0) ≤ (v1 + v3) → wX3_give_34 R2 Q v1 v2 v3 (v1 + v3) s1))
def wX3_give (Q : ew_M → Prop) (p1 : Int32) (p2 : Int32) (s1 : ew_M) : Prop := ew_lp (fun (R : Int32 → Prop) (x : Int32) => wX3_give_2 R Q p1 p2 x s1) (1 : Int32)
set_option maxHeartbeats 4000000 in
set_option maxRecDepth 100000 in
theorem tX3_give_34 {C : ew_C} {X : ew_X} {b1 : Nat} {E : ew_M → ew_S} (hE1 : ew_GE X b1 (ew_GT X.2.1 b1) E) (Z : ew_Z C X cX3_give 5 RX3 wsX3_give ({ frames := 2, cells := 0, slots := 0, locals := 43 } : Room) none) {Q : ew_M → Prop} {R2 : Int32 → Prop} {v1 : Int32} {v2 : Int32} {v3 : Int32} {t0 : Int32} {s1 : ew_M} (hR : C.2.2.2.2.2.2.2.2.2.2 = MQ C.2.2.2.2.2.2.2.1 (va_Qv (fun (u : ew_M) => Q u) (fun (u : ew_M) => ew_wd X ((fun (u : ew_M) => E u) u)) X.2.2.1) C.2.2.2.2.2.2.1 C.2.2.2.2.1 0 0 X.2.2.1) (hR2 : ∀ x : Int32, R2 x → ew_W C X 5 (E s1) 2 [(0, .ref (X.2.1 b1)), (1, .int v1), (2, .int v2), (3, .int x)] []) (h : wX3_give_34 R2 Q v1 v2 v3 t0 s1) : ew_W C X 5 (E s1) 34 [(0, .ref (X.2.1 b1)), (1, .int v1), (2, .int v2), (3, .int v3)] [.int t0] := by
  refine ez_istore (pc := 34) (L' := [(4, .int t0), (0, .ref (X.2.1 b1)), (1, .int v1), (2, .int v2), (3, .int v3)]) Z dX3_give_34 (by decide) rfl ?_
  refine ez_aload_n (pc := 36) Z dX3_give_36 1 rfl rfl ?_
  refine ez_iload (pc := 37) Z dX3_give_37 0 rfl ?_
  refine ez_iload_n (pc := 39) Z dX3_give_39 3 rfl rfl ?_
  refine ez_callVi (pc := 40) (r := b1) (As := [.int t0, .int v2]) (st := []) Z (kX3_isUnread Z.2.2.2.2.2.2.2.2.2.1 (E := E) hE1 h) gX3_give_X3_isUnread rfl rfl rfl hdX3_isUnread rfl rfl (ew_rT hE1) (ew_oT hE1 _) rfl rfl rfl rfl dX3_give_40 (fun r1 u2 h => ?_)
  refine ez_if_eq (pc := 43) (tgt := 54) Z dX3_give_43 rfl (fun c3 => ?_) (fun c3 => ?_)
  · replace h := h.1 c3
    refine ez_iinc (pc := 54) (L' := [(3, .int (v3 + (1 : Int32))), (4, .int t0), (0, .ref (X.2.1 b1)), (1, .int v1), (2, .int v2)]) Z dX3_give_54 4 rfl (ei_1 _) (by decide) rfl ?_
    refine ez_goto (pc := 57) (tgt := 2) Z dX3_give_57 rfl ?_
    refine ez_sub [(0, .ref (X.2.1 b1)), (1, .int v1), (2, .int v2), (3, .int (v3 + (1 : Int32)))] [2, 3, 4, 0] rfl ?_
    exact hR2 _ h
  · replace h := h.2 c3
    refine ez_aload_n (pc := 46) Z dX3_give_46 1 rfl rfl ?_
    refine ez_iload (pc := 47) Z dX3_give_47 0 rfl ?_
    refine ez_iload_n (pc := 49) Z dX3_give_49 3 rfl rfl ?_
    refine ez_callVv (pc := 50) (r := b1) (As := [.int t0, .int v2]) (st := []) Z (kX3_markRead Z.2.2.2.2.2.2.2.2.2.1 (E := E) hE1 h) gX3_give_X3_markRead rfl rfl rfl hdX3_markRead rfl rfl (ew_rT hE1) (ew_oT hE1 _) rfl rfl rfl rfl dX3_give_50 (fun m5 h => ?_)
    exact ez_vret (pc := 53) Z hR m5 h rfl dX3_give_53
set_option maxHeartbeats 4000000 in
set_option maxRecDepth 100000 in
theorem tX3_give_2 {C : ew_C} {X : ew_X} {b1 : Nat} {E : ew_M → ew_S} (hE1 : ew_GE X b1 (ew_GT X.2.1 b1) E) (Z : ew_Z C X cX3_give 5 RX3 wsX3_give ({ frames := 2, cells := 0, slots := 0, locals := 43 } : Room) none) {Q : ew_M → Prop} {R2 : Int32 → Prop} {v1 : Int32} {v2 : Int32} {v3 : Int32} {s1 : ew_M} (hR : C.2.2.2.2.2.2.2.2.2.2 = MQ C.2.2.2.2.2.2.2.1 (va_Qv (fun (u : ew_M) => Q u) (fun (u : ew_M) => ew_wd X ((fun (u : ew_M) => E u) u)) X.2.2.1) C.2.2.2.2.2.2.1 C.2.2.2.2.1 0 0 X.2.2.1) (hR2 : ∀ x : Int32, R2 x → ew_W C X 5 (E s1) 2 [(0, .ref (X.2.1 b1)), (1, .int v1), (2, .int v2), (3, .int x)] []) (h : wX3_give_2 R2 Q v1 v2 v3 s1) : ew_W C X 5 (E s1) 2 [(0, .ref (X.2.1 b1)), (1, .int v1), (2, .int v2), (3, .int v3)] [] := by
  refine ez_iload_n (pc := 2) Z dX3_give_2 3 rfl rfl ?_
  refine ez_aload_n (pc := 3) Z dX3_give_3 0 rfl rfl ?_
  refine fX3_persons (pc := 4) (v := s1.1 0) Z hE1 rfl inX3_give (List.mem_of_getElem? (i := 1) rfl) dX3_give_4 ?_
  refine ez_icmp_ge (pc := 7) (tgt := 60) Z dX3_give_7 rfl (fun c1 => ?_) (fun c1 => ?_)
  · replace h := h.1 c1
    exact ez_vret (pc := 60) Z hR s1 h rfl dX3_give_60
  · replace h := h.2 c1
    refine ez_iload_n (pc := 10) Z dX3_give_10 1 rfl rfl ?_
    refine ez_iload_n (pc := 11) Z dX3_give_11 3 rfl rfl ?_
    refine ez_iadd (pc := 12) Z dX3_give_12 ?_
    refine ez_aload_n (pc := 13) Z dX3_give_13 0 rfl rfl ?_
    refine fX3_persons (pc := 14) (v := s1.1 0) Z hE1 rfl inX3_give (List.mem_of_getElem? (i := 1) rfl) dX3_give_14 ?_
    refine ez_icmp_ge (pc := 17) (tgt := 26) Z dX3_give_17 rfl (fun c2 => ?_) (fun c2 => ?_)
    · replace h := h.1 c2
      refine ez_iload_n (pc := 26) Z dX3_give_26 1 rfl rfl ?_
      refine ez_iload_n (pc := 27) Z dX3_give_27 3 rfl rfl ?_
      refine ez_iadd (pc := 28) Z dX3_give_28 ?_
      refine ez_aload_n (pc := 29) Z dX3_give_29 0 rfl rfl ?_
      refine fX3_persons (pc := 30) (v := s1.1 0) Z hE1 rfl inX3_give (List.mem_of_getElem? (i := 1) rfl) dX3_give_30 ?_
      refine ez_isub (pc := 33) Z dX3_give_33 ?_
      exact tX3_give_34 hE1 Z hR hR2 h
    · replace h := h.2 c2
      refine ez_iload_n (pc := 20) Z dX3_give_20 1 rfl rfl ?_
      refine ez_iload_n (pc := 21) Z dX3_give_21 3 rfl rfl ?_
      refine ez_iadd (pc := 22) Z dX3_give_22 ?_
      refine ez_goto (pc := 23) (tgt := 34) Z dX3_give_23 rfl ?_
      exact tX3_give_34 hE1 Z hR hR2 h
set_option maxHeartbeats 4000000 in
set_option maxRecDepth 100000 in
theorem kX3_give {X : ew_X} {l : Launch} (hX : ew_Ap X) {b1 : Nat} {E : ew_M → ew_S} (hE1 : ew_GE X b1 (ew_GT X.2.1 b1) E) {Q : ew_M → Prop} {p1 : Int32} {p2 : Int32} {s1 : ew_M} (h : wX3_give Q p1 p2 s1) : Met l yX3_give wsX3_give ({ frames := 2, cells := 0, slots := 0, locals := 43 } : Room) (va_Pc [.ref (X.2.1 b1), .int p1, .int p2] (ew_wd X (E s1))) (va_Qv (fun (u : ew_M) => Q u) (fun (u : ew_M) => ew_wd X ((fun (u : ew_M) => E u) u)) X.2.2.1) 0 0 X.2.2.1 := by
  refine ew_met (As := [.ref (X.2.1 b1), .int p1, .int p2]) (L0 := [(0, .ref (X.2.1 b1)), (1, .int p1), (2, .int p2)]) X l hX (by decide) rfl rfl rfl rfl (fun C hl Z hR => ?_)
  subst hl
  refine ez_iconst (pc := 0) Z dX3_give_0 ec_1 ?_
  refine ez_istore_n (pc := 1) (L' := [(3, .int (1 : Int32)), (0, .ref (X.2.1 b1)), (1, .int p1), (2, .int p2)]) Z dX3_give_1 rfl (by decide) rfl ?_
  refine ez_sub [(0, .ref (X.2.1 b1)), (1, .int p1), (2, .int p2), (3, .int (1 : Int32))] [1, 2, 3, 0] rfl ?_
  exact ew_ind (P := fun (x : Int32) => ew_W C X 5 (E s1) 2 [(0, .ref (X.2.1 b1)), (1, .int p1), (2, .int p2), (3, .int x)] []) (fun R hR9 x h => tX3_give_2 hE1 Z hR  hR9 h) h
theorem inX3_takeTurn : ∀ w ∈ wsX30, w ∈ wsX3_takeTurn := fun _ h => List.mem_cons_of_mem _ (List.mem_append_right _ (h))
theorem hdX3_takeTurn : yX3_takeTurn.cls = RX3 ∧ yX3_takeTurn.cls ≠ "java/lang/invoke/MethodHandle" ∧ yX3_takeTurn.cls ≠ "java/lang/invoke/VarHandle" ∧ (parseMethodDescriptor yX3_takeTurn.desc).map (fun d => d.parameters.length) = some 2 := by decide +kernel
def wX3_takeTurn_136  (Q : ew_M → Prop) (v1 : Int32) (v2 : Int32) (v3 : Int32) (s1 : ew_M) : Prop := (v3 = 0 → Q s1) ∧ (¬ v3 = 0 → wX3_markRead (fun (m3 : ew_M) => Q m3) v1 v2 s1)
def wX3_takeTurn_81  (Q : ew_M → Prop) (v1 : Int32) (v2 : Int32) (t0 : Int32) (s1 : ew_M) : Prop := wX3_takeTurn_136 Q v1 v2 t0 s1
def wX3_takeTurn_108  (Q : ew_M → Prop) (v1 : Int32) (v2 : Int32) (t0 : Int32) (s1 : ew_M) : Prop := wX3_takeTurn_136 Q v1 v2 t0 s1
def wX3_takeTurn_107  (Q : ew_M → Prop) (v1 : Int32) (v2 : Int32) (s1 : ew_M) : Prop := wX3_takeTurn_108 Q v1 v2 (0 : Int32) s1
def wX3_takeTurn (Q : ew_M → Prop) (p1 : Int32) (p2 : Int32) (s1 : ew_M) : Prop := vp_in p1 6 ∧ (((s1.2.1 0 p1.toNatClampNeg) = (1 : Int32) → wX3_takeTurn_136 Q p1 p2 (1 : Int32) s1) ∧ (¬ (s1.2.1 0 p1.toNatClampNeg) = (1 : Int32) → ((s1.2.1 0 p1.toNatClampNeg) = (2 : Int32) → wX3_thinksLess (fun (r3 : Int32) => wX3_takeTurn_136 Q p1 p2 r3 s1) p1 p2 s1) ∧ (¬ (s1.2.1 0 p1.toNatClampNeg) = (2 : Int32) → ((s1.2.1 0 p1.toNatClampNeg) = (3 : Int32) → vp_in p1 6 ∧ (((s1.1 4) < (s1.2.1 2 p1.toNatClampNeg) → wX3_takeTurn_81 Q p1 p2 (0 : Int32) s1) ∧ (¬ (s1.1 4) < (s1.2.1 2 p1.toNatClampNeg) → wX3_takeTurn_81 Q p1 p2 (1 : Int32) s1))) ∧ (¬ (s1.2.1 0 p1.toNatClampNeg) = (3 : Int32) → ((s1.2.1 0 p1.toNatClampNeg) = (4 : Int32) → vp_in p2 5 ∧ (((s1.2.1 5 p2.toNatClampNeg) = 0 → wX3_takeTurn_107 Q p1 p2 s1) ∧ (¬ (s1.2.1 5 p2.toNatClampNeg) = 0 → wX3_thinksLess (fun (r9 : Int32) => (r9 = 0 → wX3_takeTurn_107 Q p1 p2 s1) ∧ (¬ r9 = 0 → wX3_takeTurn_108 Q p1 p2 (1 : Int32) s1)) p1 p2 s1))) ∧ (¬ (s1.2.1 0 p1.toNatClampNeg) = (4 : Int32) → ((s1.2.1 0 p1.toNatClampNeg) = (5 : Int32) → wX3_give (fun (m14 : ew_M) => wX3_takeTurn_136 Q p1 p2 (0 : Int32) m14) p1 p2 s1) ∧ (¬ (s1.2.1 0 p1.toNatClampNeg) = (5 : Int32) → ((s1.2.1 0 p1.toNatClampNeg) = (6 : Int32) → vp_in p2 5 ∧ (vp_in p2 5 ∧ (wX3_takeTurn_136 Q p1 p2 (0 : Int32) (ew_sA s1 6 p2.toNatClampNeg ((s1.2.1 6 p2.toNatClampNeg) ||| ((1 : Int32) <<< (p1 &&& 31))))))) ∧ (¬ (s1.2.1 0 p1.toNatClampNeg) = (6 : Int32) → wX3_takeTurn_136 Q p1 p2 (0 : Int32) s1)))))))
set_option maxHeartbeats 4000000 in
set_option maxRecDepth 100000 in
theorem tX3_takeTurn_136 {C : ew_C} {X : ew_X} {b1 : Nat} {E : ew_M → ew_S} (hE1 : ew_GE X b1 (ew_GT X.2.1 b1) E) (Z : ew_Z C X cX3_takeTurn 4 RX3 wsX3_takeTurn ({ frames := 3, cells := 0, slots := 0, locals := 70 } : Room) none) {Q : ew_M → Prop}  {v1 : Int32} {v2 : Int32} {v3 : Int32} {s1 : ew_M} (hR : C.2.2.2.2.2.2.2.2.2.2 = MQ C.2.2.2.2.2.2.2.1 (va_Qv (fun (u : ew_M) => Q u) (fun (u : ew_M) => ew_wd X ((fun (u : ew_M) => E u) u)) X.2.2.1) C.2.2.2.2.2.2.1 C.2.2.2.2.1 0 0 X.2.2.1) (h : wX3_takeTurn_136 Q v1 v2 v3 s1) : ew_W C X 4 (E s1) 136 [(0, .ref (X.2.1 b1)), (1, .int v1), (2, .int v2), (3, .int v3)] [] := by
  refine ez_iload_n (pc := 136) Z dX3_takeTurn_136 3 rfl rfl ?_
  refine ez_if_eq (pc := 137) (tgt := 146) Z dX3_takeTurn_137 rfl (fun c1 => ?_) (fun c1 => ?_)
  · replace h := h.1 c1
    exact ez_vret (pc := 146) Z hR s1 h rfl dX3_takeTurn_146
  · replace h := h.2 c1
    refine ez_aload_n (pc := 140) Z dX3_takeTurn_140 0 rfl rfl ?_
    refine ez_iload_n (pc := 141) Z dX3_takeTurn_141 1 rfl rfl ?_
    refine ez_iload_n (pc := 142) Z dX3_takeTurn_142 2 rfl rfl ?_
    refine ez_callVv (pc := 143) (r := b1) (As := [.int v1, .int v2]) (st := []) Z (kX3_markRead Z.2.2.2.2.2.2.2.2.2.1 (E := E) hE1 h) gX3_takeTurn_X3_markRead rfl rfl rfl hdX3_markRead rfl rfl (ew_rT hE1) (ew_oT hE1 _) rfl rfl rfl rfl dX3_takeTurn_143 (fun m3 h => ?_)
    exact ez_vret (pc := 146) Z hR m3 h rfl dX3_takeTurn_146
set_option maxHeartbeats 4000000 in
set_option maxRecDepth 100000 in
theorem tX3_takeTurn_81 {C : ew_C} {X : ew_X} {b1 : Nat} {E : ew_M → ew_S} (hE1 : ew_GE X b1 (ew_GT X.2.1 b1) E) (Z : ew_Z C X cX3_takeTurn 4 RX3 wsX3_takeTurn ({ frames := 3, cells := 0, slots := 0, locals := 70 } : Room) none) {Q : ew_M → Prop}  {v1 : Int32} {v2 : Int32} {t0 : Int32} {s1 : ew_M} (hR : C.2.2.2.2.2.2.2.2.2.2 = MQ C.2.2.2.2.2.2.2.1 (va_Qv (fun (u : ew_M) => Q u) (fun (u : ew_M) => ew_wd X ((fun (u : ew_M) => E u) u)) X.2.2.1) C.2.2.2.2.2.2.1 C.2.2.2.2.1 0 0 X.2.2.1) (h : wX3_takeTurn_81 Q v1 v2 t0 s1) : ew_W C X 4 (E s1) 81 [(0, .ref (X.2.1 b1)), (1, .int v1), (2, .int v2)] [.int t0] := by
  refine ez_istore_n (pc := 81) (L' := [(3, .int t0), (0, .ref (X.2.1 b1)), (1, .int v1), (2, .int v2)]) Z dX3_takeTurn_81 rfl (by decide) rfl ?_
  refine ez_goto (pc := 82) (tgt := 136) Z dX3_takeTurn_82 rfl ?_
  refine ez_sub [(0, .ref (X.2.1 b1)), (1, .int v1), (2, .int v2), (3, .int t0)] [1, 2, 3, 0] rfl ?_
  exact tX3_takeTurn_136 hE1 Z hR  h
set_option maxHeartbeats 4000000 in
set_option maxRecDepth 100000 in
theorem tX3_takeTurn_108 {C : ew_C} {X : ew_X} {b1 : Nat} {E : ew_M → ew_S} (hE1 : ew_GE X b1 (ew_GT X.2.1 b1) E) (Z : ew_Z C X cX3_takeTurn 4 RX3 wsX3_takeTurn ({ frames := 3, cells := 0, slots := 0, locals := 70 } : Room) none) {Q : ew_M → Prop}  {v1 : Int32} {v2 : Int32} {t0 : Int32} {s1 : ew_M} (hR : C.2.2.2.2.2.2.2.2.2.2 = MQ C.2.2.2.2.2.2.2.1 (va_Qv (fun (u : ew_M) => Q u) (fun (u : ew_M) => ew_wd X ((fun (u : ew_M) => E u) u)) X.2.2.1) C.2.2.2.2.2.2.1 C.2.2.2.2.1 0 0 X.2.2.1) (h : wX3_takeTurn_108 Q v1 v2 t0 s1) : ew_W C X 4 (E s1) 108 [(0, .ref (X.2.1 b1)), (1, .int v1), (2, .int v2)] [.int t0] := by
  refine ez_istore_n (pc := 108) (L' := [(3, .int t0), (0, .ref (X.2.1 b1)), (1, .int v1), (2, .int v2)]) Z dX3_takeTurn_108 rfl (by decide) rfl ?_
  refine ez_goto (pc := 109) (tgt := 136) Z dX3_takeTurn_109 rfl ?_
  refine ez_sub [(0, .ref (X.2.1 b1)), (1, .int v1), (2, .int v2), (3, .int t0)] [1, 2, 3, 0] rfl ?_
  exact tX3_takeTurn_136 hE1 Z hR  h
set_option maxHeartbeats 4000000 in
set_option maxRecDepth 100000 in
theorem tX3_takeTurn_107 {C : ew_C} {X : ew_X} {b1 : Nat} {E : ew_M → ew_S} (hE1 : ew_GE X b1 (ew_GT X.2.1 b1) E) (Z : ew_Z C X cX3_takeTurn 4 RX3 wsX3_takeTurn ({ frames := 3, cells := 0, slots := 0, locals := 70 } : Room) none) {Q : ew_M → Prop}  {v1 : Int32} {v2 : Int32} {s1 : ew_M} (hR : C.2.2.2.2.2.2.2.2.2.2 = MQ C.2.2.2.2.2.2.2.1 (va_Qv (fun (u : ew_M) => Q u) (fun (u : ew_M) => ew_wd X ((fun (u : ew_M) => E u) u)) X.2.2.1) C.2.2.2.2.2.2.1 C.2.2.2.2.1 0 0 X.2.2.1) (h : wX3_takeTurn_107 Q v1 v2 s1) : ew_W C X 4 (E s1) 107 [(0, .ref (X.2.1 b1)), (1, .int v1), (2, .int v2)] [] := by
  refine ez_iconst (pc := 107) Z dX3_takeTurn_107 ec_0 ?_
  exact tX3_takeTurn_108 hE1 Z hR  h
set_option maxHeartbeats 4000000 in
set_option maxRecDepth 100000 in
theorem kX3_takeTurn {X : ew_X} {l : Launch} (hX : ew_Ap X) {b1 : Nat} {E : ew_M → ew_S} (hE1 : ew_GE X b1 (ew_GT X.2.1 b1) E) {Q : ew_M → Prop} {p1 : Int32} {p2 : Int32} {s1 : ew_M} (h : wX3_takeTurn Q p1 p2 s1) : Met l yX3_takeTurn wsX3_takeTurn ({ frames := 3, cells := 0, slots := 0, locals := 70 } : Room) (va_Pc [.ref (X.2.1 b1), .int p1, .int p2] (ew_wd X (E s1))) (va_Qv (fun (u : ew_M) => Q u) (fun (u : ew_M) => ew_wd X ((fun (u : ew_M) => E u) u)) X.2.2.1) 0 0 X.2.2.1 := by
  refine ew_met (As := [.ref (X.2.1 b1), .int p1, .int p2]) (L0 := [(0, .ref (X.2.1 b1)), (1, .int p1), (2, .int p2)]) X l hX (by decide) rfl rfl rfl rfl (fun C hl Z hR => ?_)
  subst hl
  refine ez_iconst (pc := 0) Z dX3_takeTurn_0 ec_0 ?_
  refine ez_istore_n (pc := 1) (L' := [(3, .int (0 : Int32)), (0, .ref (X.2.1 b1)), (1, .int p1), (2, .int p2)]) Z dX3_takeTurn_1 rfl (by decide) rfl ?_
  refine ez_aload_n (pc := 2) Z dX3_takeTurn_2 1 rfl rfl ?_
  refine fX3_kind (pc := 3) (M := s1) Z hE1 inX3_takeTurn (List.mem_of_getElem? (i := 1) rfl) dX3_takeTurn_3 ?_
  refine ez_iload_n (pc := 6) Z dX3_takeTurn_6 2 rfl rfl ?_
  refine ez_iald (pc := 7) (n := 6) (a := 0) (v := s1.2.1 0 p1.toNatClampNeg) (M := s1) Z hE1 1 rfl (by decide : 0 < 12) rfl rfl h.1 dX3_takeTurn_7 ?_
  replace h := h.2
  by_cases c1 : (s1.2.1 0 p1.toNatClampNeg) = (1 : Int32)
  · replace h := h.1 c1
    refine ez_tabI (pc := 8) (off := 40) (tgt := 48) Z dX3_takeTurn_8 (1 : Int32) c1 (by decide) (by decide) (by decide) rfl ?_
    refine ez_iconst (pc := 48) Z dX3_takeTurn_48 ec_1 ?_
    refine ez_istore_n (pc := 49) (L' := [(3, .int (1 : Int32)), (0, .ref (X.2.1 b1)), (1, .int p1), (2, .int p2)]) Z dX3_takeTurn_49 rfl (by decide) rfl ?_
    refine ez_goto (pc := 50) (tgt := 136) Z dX3_takeTurn_50 rfl ?_
    refine ez_sub [(0, .ref (X.2.1 b1)), (1, .int p1), (2, .int p2), (3, .int (1 : Int32))] [1, 2, 3, 0] rfl ?_
    exact tX3_takeTurn_136 hE1 Z hR  h
  · replace h := h.2 c1
    by_cases c2 : (s1.2.1 0 p1.toNatClampNeg) = (2 : Int32)
    · replace h := h.1 c2
      refine ez_tabI (pc := 8) (off := 45) (tgt := 53) Z dX3_takeTurn_8 (2 : Int32) c2 (by decide) (by decide) (by decide) rfl ?_
      refine ez_aload_n (pc := 53) Z dX3_takeTurn_53 1 rfl rfl ?_
      refine ez_iload_n (pc := 54) Z dX3_takeTurn_54 2 rfl rfl ?_
      refine ez_iload_n (pc := 55) Z dX3_takeTurn_55 3 rfl rfl ?_
      refine ez_callVi (pc := 56) (r := b1) (As := [.int p1, .int p2]) (st := []) Z (kX3_thinksLess Z.2.2.2.2.2.2.2.2.2.1 (E := E) hE1 h) gX3_takeTurn_X3_thinksLess rfl rfl rfl hdX3_thinksLess rfl rfl (ew_rT hE1) (ew_oT hE1 _) rfl rfl rfl rfl dX3_takeTurn_56 (fun r3 u4 h => ?_)
      refine ez_istore_n (pc := 59) (L' := [(3, .int r3), (0, .ref (X.2.1 b1)), (1, .int p1), (2, .int p2)]) Z dX3_takeTurn_59 rfl (by decide) rfl ?_
      refine ez_goto (pc := 60) (tgt := 136) Z dX3_takeTurn_60 rfl ?_
      refine ez_sub [(0, .ref (X.2.1 b1)), (1, .int p1), (2, .int p2), (3, .int r3)] [1, 2, 3, 0] rfl ?_
      exact tX3_takeTurn_136 hE1 Z hR  h
    · replace h := h.2 c2
      by_cases c5 : (s1.2.1 0 p1.toNatClampNeg) = (3 : Int32)
      · replace h := h.1 c5
        refine ez_tabI (pc := 8) (off := 55) (tgt := 63) Z dX3_takeTurn_8 (3 : Int32) c5 (by decide) (by decide) (by decide) rfl ?_
        refine ez_aload_n (pc := 63) Z dX3_takeTurn_63 1 rfl rfl ?_
        refine fX3_week (pc := 64) (v := s1.1 4) Z hE1 rfl inX3_takeTurn (List.mem_of_getElem? (i := 2) rfl) dX3_takeTurn_64 ?_
        refine ez_aload_n (pc := 67) Z dX3_takeTurn_67 1 rfl rfl ?_
        refine fX3_patience (pc := 68) (M := s1) Z hE1 inX3_takeTurn (List.mem_of_getElem? (i := 3) rfl) dX3_takeTurn_68 ?_
        refine ez_iload_n (pc := 71) Z dX3_takeTurn_71 2 rfl rfl ?_
        refine ez_iald (pc := 72) (n := 6) (a := 2) (v := s1.2.1 2 p1.toNatClampNeg) (M := s1) Z hE1 3 rfl (by decide : 2 < 12) rfl rfl h.1 dX3_takeTurn_72 ?_
        replace h := h.2
        refine ez_icmp_lt (pc := 73) (tgt := 80) Z dX3_takeTurn_73 rfl (fun c6 => ?_) (fun c6 => ?_)
        · replace h := h.1 c6
          refine ez_iconst (pc := 80) Z dX3_takeTurn_80 ec_0 ?_
          refine ez_sub [(0, .ref (X.2.1 b1)), (1, .int p1), (2, .int p2)] [1, 2, 3] rfl ?_
          exact tX3_takeTurn_81 hE1 Z hR  h
        · replace h := h.2 c6
          refine ez_iconst (pc := 76) Z dX3_takeTurn_76 ec_1 ?_
          refine ez_goto (pc := 77) (tgt := 81) Z dX3_takeTurn_77 rfl ?_
          refine ez_sub [(0, .ref (X.2.1 b1)), (1, .int p1), (2, .int p2)] [1, 2, 3] rfl ?_
          exact tX3_takeTurn_81 hE1 Z hR  h
      · replace h := h.2 c5
        by_cases c7 : (s1.2.1 0 p1.toNatClampNeg) = (4 : Int32)
        · replace h := h.1 c7
          refine ez_tabI (pc := 8) (off := 77) (tgt := 85) Z dX3_takeTurn_8 (4 : Int32) c7 (by decide) (by decide) (by decide) rfl ?_
          refine ez_aload_n (pc := 85) Z dX3_takeTurn_85 1 rfl rfl ?_
          refine fX3_readers (pc := 86) (M := s1) Z hE1 inX3_takeTurn (List.mem_of_getElem? (i := 4) rfl) dX3_takeTurn_86 ?_
          refine ez_iload_n (pc := 89) Z dX3_takeTurn_89 3 rfl rfl ?_
          refine ez_iald (pc := 90) (n := 5) (a := 5) (v := s1.2.1 5 p2.toNatClampNeg) (M := s1) Z hE1 6 rfl (by decide : 5 < 12) rfl rfl h.1 dX3_takeTurn_90 ?_
          replace h := h.2
          refine ez_if_eq (pc := 91) (tgt := 107) Z dX3_takeTurn_91 rfl (fun c8 => ?_) (fun c8 => ?_)
          · replace h := h.1 c8
            refine ez_sub [(0, .ref (X.2.1 b1)), (1, .int p1), (2, .int p2)] [1, 2, 3] rfl ?_
            exact tX3_takeTurn_107 hE1 Z hR  h
          · replace h := h.2 c8
            refine ez_aload_n (pc := 94) Z dX3_takeTurn_94 1 rfl rfl ?_
            refine ez_iload_n (pc := 95) Z dX3_takeTurn_95 2 rfl rfl ?_
            refine ez_iload_n (pc := 96) Z dX3_takeTurn_96 3 rfl rfl ?_
            refine ez_callVi (pc := 97) (r := b1) (As := [.int p1, .int p2]) (st := []) Z (kX3_thinksLess Z.2.2.2.2.2.2.2.2.2.1 (E := E) hE1 h) gX3_takeTurn_X3_thinksLess rfl rfl rfl hdX3_thinksLess rfl rfl (ew_rT hE1) (ew_oT hE1 _) rfl rfl rfl rfl dX3_takeTurn_97 (fun r9 u10 h => ?_)
            refine ez_if_eq (pc := 100) (tgt := 107) Z dX3_takeTurn_100 rfl (fun c11 => ?_) (fun c11 => ?_)
            · replace h := h.1 c11
              refine ez_sub [(0, .ref (X.2.1 b1)), (1, .int p1), (2, .int p2)] [1, 2, 3] rfl ?_
              exact tX3_takeTurn_107 hE1 Z hR  h
            · replace h := h.2 c11
              refine ez_iconst (pc := 103) Z dX3_takeTurn_103 ec_1 ?_
              refine ez_goto (pc := 104) (tgt := 108) Z dX3_takeTurn_104 rfl ?_
              refine ez_sub [(0, .ref (X.2.1 b1)), (1, .int p1), (2, .int p2)] [1, 2, 3] rfl ?_
              exact tX3_takeTurn_108 hE1 Z hR  h
        · replace h := h.2 c7
          by_cases c12 : (s1.2.1 0 p1.toNatClampNeg) = (5 : Int32)
          · replace h := h.1 c12
            refine ez_tabI (pc := 8) (off := 104) (tgt := 112) Z dX3_takeTurn_8 (5 : Int32) c12 (by decide) (by decide) (by decide) rfl ?_
            refine ez_aload_n (pc := 112) Z dX3_takeTurn_112 1 rfl rfl ?_
            refine ez_iload_n (pc := 113) Z dX3_takeTurn_113 2 rfl rfl ?_
            refine ez_iload_n (pc := 114) Z dX3_takeTurn_114 3 rfl rfl ?_
            refine ez_callVv (pc := 115) (r := b1) (As := [.int p1, .int p2]) (st := []) Z (kX3_give Z.2.2.2.2.2.2.2.2.2.1 (E := E) hE1 h) gX3_takeTurn_X3_give rfl rfl rfl hdX3_give rfl rfl (ew_rT hE1) (ew_oT hE1 _) rfl rfl rfl rfl dX3_takeTurn_115 (fun m14 h => ?_)
            refine ez_goto (pc := 118) (tgt := 136) Z dX3_takeTurn_118 rfl ?_
            refine ez_sub [(0, .ref (X.2.1 b1)), (1, .int p1), (2, .int p2), (3, .int (0 : Int32))] [1, 2, 3, 0] rfl ?_
            exact tX3_takeTurn_136 hE1 Z hR  h
          · replace h := h.2 c12
            by_cases c15 : (s1.2.1 0 p1.toNatClampNeg) = (6 : Int32)
            · replace h := h.1 c15
              refine ez_tabI (pc := 8) (off := 113) (tgt := 121) Z dX3_takeTurn_8 (6 : Int32) c15 (by decide) (by decide) (by decide) rfl ?_
              refine ez_aload_n (pc := 121) Z dX3_takeTurn_121 1 rfl rfl ?_
              refine fX3_sayers (pc := 122) (M := s1) Z hE1 inX3_takeTurn (List.mem_of_getElem? (i := 5) rfl) dX3_takeTurn_122 ?_
              refine ez_iload_n (pc := 125) Z dX3_takeTurn_125 3 rfl rfl ?_
              refine ez_dup2_11 (pc := 126) Z dX3_takeTurn_126 rfl rfl ?_
              refine ez_iald (pc := 127) (n := 5) (a := 6) (v := s1.2.1 6 p2.toNatClampNeg) (M := s1) Z hE1 7 rfl (by decide : 6 < 12) rfl rfl h.1 dX3_takeTurn_127 ?_
              replace h := h.2
              refine ez_iconst (pc := 128) Z dX3_takeTurn_128 ec_1 ?_
              refine ez_iload_n (pc := 129) Z dX3_takeTurn_129 2 rfl rfl ?_
              refine ez_ishl (pc := 130) Z dX3_takeTurn_130 ?_
              refine ez_ior (pc := 131) Z dX3_takeTurn_131 ?_
              refine ez_iast (pc := 132) (n := 5) (a := 6) (M := s1) (M' := ew_sA s1 6 p2.toNatClampNeg ((s1.2.1 6 p2.toNatClampNeg) ||| ((1 : Int32) <<< (p1 &&& 31)))) Z hE1 7 rfl (by decide : 6 < 12) rfl rfl h.1 dX3_takeTurn_132 ?_
              replace h := h.2
              refine ez_goto (pc := 133) (tgt := 136) Z dX3_takeTurn_133 rfl ?_
              refine ez_sub [(0, .ref (X.2.1 b1)), (1, .int p1), (2, .int p2), (3, .int (0 : Int32))] [1, 2, 3, 0] rfl ?_
              exact tX3_takeTurn_136 hE1 Z hR  h
            · replace h := h.2 c15
              have gc1 := ez_nt c1
              have gc2 := ez_nt c2
              have gc5 := ez_nt c5
              have gc7 := ez_nt c7
              have gc12 := ez_nt c12
              have gc15 := ez_nt c15
              refine ez_tabO (pc := 8) (tgt := 136) Z dX3_takeTurn_8 (by simp only [ez_t1, ez_t2, ez_t3, ez_t4, ez_t5, ez_t6] at gc1 gc2 gc5 gc7 gc12 gc15; omega) rfl ?_
              refine ez_sub [(0, .ref (X.2.1 b1)), (1, .int p1), (2, .int p2), (3, .int (0 : Int32))] [1, 2, 3, 0] rfl ?_
              exact tX3_takeTurn_136 hE1 Z hR  h
theorem inX3_passPaper : ∀ w ∈ wsX30, w ∈ wsX3_passPaper := fun _ h => List.mem_cons_of_mem _ (List.mem_append_right _ (h))
theorem hdX3_passPaper : yX3_passPaper.cls = RX3 ∧ yX3_passPaper.cls ≠ "java/lang/invoke/MethodHandle" ∧ yX3_passPaper.cls ≠ "java/lang/invoke/VarHandle" ∧ (parseMethodDescriptor yX3_passPaper.desc).map (fun d => d.parameters.length) = some 2 := by decide +kernel
def wX3_passPaper_30 (R2 : Int32 × ew_M → Prop) (Q : Int32 → ew_M → Prop) (v1 : Int32) (v2 : Int32) (v3 : Int32) (s1 : ew_M) : Prop := R2 (v3 + (1 : Int32), s1)
def wX3_passPaper_89 (R48 : Int32 × ew_M → Prop) (Q : Int32 → ew_M → Prop) (v1 : Int32) (v3 : Int32) (s1 : ew_M) : Prop := R48 (v3 + (1 : Int32), s1)
def wX3_passPaper_48 (R48 : Int32 × ew_M → Prop) (Q : Int32 → ew_M → Prop) (v1 : Int32) (v3 : Int32) (s1 : ew_M) : Prop := ((s1.1 0) ≤ v3 → vp_in v1 5 ∧ (vp_in v1 5 ∧ (Q (1 : Int32) (ew_sA s1 8 v1.toNatClampNeg ((s1.2.1 8 v1.toNatClampNeg) + (1 : Int32)))))) ∧ (¬ (s1.1 0) ≤ v3 → wX3_isBound (fun (r2 : Int32) => (r2 = 0 → wX3_passPaper_89 R48 Q v1 v3 s1) ∧ (¬ r2 = 0 → vp_in v3 6 ∧ (vp_in v1 5 ∧ (vp_in ((v1 * (3 : Int32)) + (s1.2.1 7 v1.toNatClampNeg)) 15 ∧ (vp_in v3 6 ∧ (wX3_passPaper_89 R48 Q v1 v3 (ew_sA s1 3 v3.toNatClampNeg ((s1.2.1 3 v3.toNatClampNeg) + (s1.2.1 10 ((v1 * (3 : Int32)) + (s1.2.1 7 v1.toNatClampNeg)).toNatClampNeg))))))))) v3 v1 s1)
def wX3_passPaper_2 (R2 : Int32 × ew_M → Prop) (Q : Int32 → ew_M → Prop) (v1 : Int32) (v2 : Int32) (v3 : Int32) (s1 : ew_M) : Prop := ((s1.1 0) ≤ v3 → wX3_isInForce (fun (r2 : Int32) => (¬ r2 = 0 → ew_lp (fun (R : Int32 × ew_M → Prop) (x : Int32 × ew_M) => wX3_passPaper_48 R Q v1 x.1 x.2) ((0 : Int32), s1)) ∧ (r2 = 0 → Q (0 : Int32) s1)) v1 s1) ∧ (¬ (s1.1 0) ≤ v3 → (v3 = v2 → wX3_passPaper_30 R2 Q v1 v2 v3 s1) ∧ (¬ v3 = v2 → wX3_canRead (fun (r6 : Int32) => (r6 = 0 → wX3_passPaper_30 R2 Q v1 v2 v3 s1) ∧ (¬ r6 = 0 → wX3_takeTurn (fun (m10 : ew_M) => wX3_passPaper_30 R2 Q v1 v2 v3 m10) v3 v1 s1)) v3 v1 s1))
def wX3_passPaper (Q : Int32 → ew_M → Prop) (p1 : Int32) (p2 : Int32) (s1 : ew_M) : Prop := ew_lp (fun (R : Int32 × ew_M → Prop) (x : Int32 × ew_M) => wX3_passPaper_2 R Q p1 p2 x.1 x.2) ((0 : Int32), s1)
set_option maxHeartbeats 4000000 in
set_option maxRecDepth 100000 in
theorem tX3_passPaper_30 {C : ew_C} {X : ew_X} {b1 : Nat} {E : ew_M → ew_S} (hE1 : ew_GE X b1 (ew_GT X.2.1 b1) E) (Z : ew_Z C X cX3_passPaper 4 RX3 wsX3_passPaper ({ frames := 4, cells := 0, slots := 0, locals := 93 } : Room) (some .int)) {Q : Int32 → ew_M → Prop} {R2 : Int32 × ew_M → Prop} {v1 : Int32} {v2 : Int32} {v3 : Int32} {s1 : ew_M} (hR : C.2.2.2.2.2.2.2.2.2.2 = MQ C.2.2.2.2.2.2.2.1 (va_Qi (fun (r : Int32) (u : ew_M) => Q r u) (fun (u : ew_M) => ew_wd X ((fun (u : ew_M) => E u) u)) X.2.2.1) C.2.2.2.2.2.2.1 C.2.2.2.2.1 0 0 X.2.2.1) (hR2 : ∀ x : Int32 × ew_M, R2 x → ew_W C X 4 (E x.2) 2 [(0, .ref (X.2.1 b1)), (1, .int v1), (2, .int v2), (3, .int x.1)] []) (h : wX3_passPaper_30 R2 Q v1 v2 v3 s1) : ew_W C X 4 (E s1) 30 [(0, .ref (X.2.1 b1)), (1, .int v1), (2, .int v2), (3, .int v3)] [] := by
  refine ez_iinc (pc := 30) (L' := [(3, .int (v3 + (1 : Int32))), (0, .ref (X.2.1 b1)), (1, .int v1), (2, .int v2)]) Z dX3_passPaper_30 3 rfl (ei_1 _) (by decide) rfl ?_
  refine ez_goto (pc := 33) (tgt := 2) Z dX3_passPaper_33 rfl ?_
  refine ez_sub [(0, .ref (X.2.1 b1)), (1, .int v1), (2, .int v2), (3, .int (v3 + (1 : Int32)))] [1, 2, 3, 0] rfl ?_
  exact hR2 _ h
set_option maxHeartbeats 4000000 in
set_option maxRecDepth 100000 in
theorem tX3_passPaper_89 {C : ew_C} {X : ew_X} {b1 : Nat} {E : ew_M → ew_S} (hE1 : ew_GE X b1 (ew_GT X.2.1 b1) E) (Z : ew_Z C X cX3_passPaper 4 RX3 wsX3_passPaper ({ frames := 4, cells := 0, slots := 0, locals := 93 } : Room) (some .int)) {Q : Int32 → ew_M → Prop} {R48 : Int32 × ew_M → Prop} {v1 : Int32} {v3 : Int32} {s1 : ew_M} (hR : C.2.2.2.2.2.2.2.2.2.2 = MQ C.2.2.2.2.2.2.2.1 (va_Qi (fun (r : Int32) (u : ew_M) => Q r u) (fun (u : ew_M) => ew_wd X ((fun (u : ew_M) => E u) u)) X.2.2.1) C.2.2.2.2.2.2.1 C.2.2.2.2.1 0 0 X.2.2.1) (hR48 : ∀ x : Int32 × ew_M, R48 x → ew_W C X 4 (E x.2) 48 [(0, .ref (X.2.1 b1)), (1, .int v1), (3, .int x.1)] []) (h : wX3_passPaper_89 R48 Q v1 v3 s1) : ew_W C X 4 (E s1) 89 [(0, .ref (X.2.1 b1)), (1, .int v1), (3, .int v3)] [] := by
  refine ez_iinc (pc := 89) (L' := [(3, .int (v3 + (1 : Int32))), (0, .ref (X.2.1 b1)), (1, .int v1)]) Z dX3_passPaper_89 2 rfl (ei_1 _) (by decide) rfl ?_
  refine ez_goto (pc := 92) (tgt := 48) Z dX3_passPaper_92 rfl ?_
  refine ez_sub [(0, .ref (X.2.1 b1)), (1, .int v1), (3, .int (v3 + (1 : Int32)))] [1, 2, 0] rfl ?_
  exact hR48 _ h
set_option maxHeartbeats 4000000 in
set_option maxRecDepth 100000 in
theorem tX3_passPaper_48 {C : ew_C} {X : ew_X} {b1 : Nat} {E : ew_M → ew_S} (hE1 : ew_GE X b1 (ew_GT X.2.1 b1) E) (Z : ew_Z C X cX3_passPaper 4 RX3 wsX3_passPaper ({ frames := 4, cells := 0, slots := 0, locals := 93 } : Room) (some .int)) {Q : Int32 → ew_M → Prop} {R48 : Int32 × ew_M → Prop} {v1 : Int32} {v3 : Int32} {s1 : ew_M} (hR : C.2.2.2.2.2.2.2.2.2.2 = MQ C.2.2.2.2.2.2.2.1 (va_Qi (fun (r : Int32) (u : ew_M) => Q r u) (fun (u : ew_M) => ew_wd X ((fun (u : ew_M) => E u) u)) X.2.2.1) C.2.2.2.2.2.2.1 C.2.2.2.2.1 0 0 X.2.2.1) (hR48 : ∀ x : Int32 × ew_M, R48 x → ew_W C X 4 (E x.2) 48 [(0, .ref (X.2.1 b1)), (1, .int v1), (3, .int x.1)] []) (h : wX3_passPaper_48 R48 Q v1 v3 s1) : ew_W C X 4 (E s1) 48 [(0, .ref (X.2.1 b1)), (1, .int v1), (3, .int v3)] [] := by
  refine ez_iload_n (pc := 48) Z dX3_passPaper_48 2 rfl rfl ?_
  refine ez_aload_n (pc := 49) Z dX3_passPaper_49 0 rfl rfl ?_
  refine fX3_persons (pc := 50) (v := s1.1 0) Z hE1 rfl inX3_passPaper (List.mem_of_getElem? (i := 1) rfl) dX3_passPaper_50 ?_
  refine ez_icmp_ge (pc := 53) (tgt := 95) Z dX3_passPaper_53 rfl (fun c1 => ?_) (fun c1 => ?_)
  · replace h := h.1 c1
    refine ez_aload_n (pc := 95) Z dX3_passPaper_95 0 rfl rfl ?_
    refine fX3_lasted (pc := 96) (M := s1) Z hE1 inX3_passPaper (List.mem_of_getElem? (i := 5) rfl) dX3_passPaper_96 ?_
    refine ez_iload_n (pc := 99) Z dX3_passPaper_99 1 rfl rfl ?_
    refine ez_dup2_11 (pc := 100) Z dX3_passPaper_100 rfl rfl ?_
    refine ez_iald (pc := 101) (n := 5) (a := 8) (v := s1.2.1 8 v1.toNatClampNeg) (M := s1) Z hE1 9 rfl (by decide : 8 < 12) rfl rfl h.1 dX3_passPaper_101 ?_
    replace h := h.2
    refine ez_iconst (pc := 102) Z dX3_passPaper_102 ec_1 ?_
    refine ez_iadd (pc := 103) Z dX3_passPaper_103 ?_
    refine ez_iast (pc := 104) (n := 5) (a := 8) (M := s1) (M' := ew_sA s1 8 v1.toNatClampNeg ((s1.2.1 8 v1.toNatClampNeg) + (1 : Int32))) Z hE1 9 rfl (by decide : 8 < 12) rfl rfl h.1 dX3_passPaper_104 ?_
    replace h := h.2
    refine ez_iconst (pc := 105) Z dX3_passPaper_105 ec_1 ?_
    exact ez_iret (pc := 106) Z hR (ew_sA s1 8 v1.toNatClampNeg ((s1.2.1 8 v1.toNatClampNeg) + (1 : Int32))) h rfl dX3_passPaper_106
  · replace h := h.2 c1
    refine ez_aload_n (pc := 56) Z dX3_passPaper_56 0 rfl rfl ?_
    refine ez_iload_n (pc := 57) Z dX3_passPaper_57 2 rfl rfl ?_
    refine ez_iload_n (pc := 58) Z dX3_passPaper_58 1 rfl rfl ?_
    refine ez_callVi (pc := 59) (r := b1) (As := [.int v3, .int v1]) (st := []) Z (kX3_isBound Z.2.2.2.2.2.2.2.2.2.1 (E := E) hE1 h) gX3_passPaper_X3_isBound rfl rfl rfl hdX3_isBound rfl rfl (ew_rT hE1) (ew_oT hE1 _) rfl rfl rfl rfl dX3_passPaper_59 (fun r2 u3 h => ?_)
    refine ez_if_eq (pc := 62) (tgt := 89) Z dX3_passPaper_62 rfl (fun c4 => ?_) (fun c4 => ?_)
    · replace h := h.1 c4
      exact tX3_passPaper_89 hE1 Z hR hR48 h
    · replace h := h.2 c4
      refine ez_aload_n (pc := 65) Z dX3_passPaper_65 0 rfl rfl ?_
      refine fX3_gained (pc := 66) (M := s1) Z hE1 inX3_passPaper (List.mem_of_getElem? (i := 2) rfl) dX3_passPaper_66 ?_
      refine ez_iload_n (pc := 69) Z dX3_passPaper_69 2 rfl rfl ?_
      refine ez_dup2_11 (pc := 70) Z dX3_passPaper_70 rfl rfl ?_
      refine ez_iald (pc := 71) (n := 6) (a := 3) (v := s1.2.1 3 v3.toNatClampNeg) (M := s1) Z hE1 4 rfl (by decide : 3 < 12) rfl rfl h.1 dX3_passPaper_71 ?_
      replace h := h.2
      refine ez_aload_n (pc := 72) Z dX3_passPaper_72 0 rfl rfl ?_
      refine fX3_gains (pc := 73) (M := s1) Z hE1 inX3_passPaper (List.mem_of_getElem? (i := 3) rfl) dX3_passPaper_73 ?_
      refine ez_iload_n (pc := 76) Z dX3_passPaper_76 1 rfl rfl ?_
      refine ez_iconst (pc := 77) Z dX3_passPaper_77 ec_3 ?_
      refine ez_imul (pc := 78) Z dX3_passPaper_78 ?_
      refine ez_aload_n (pc := 79) Z dX3_passPaper_79 0 rfl rfl ?_
      refine fX3_trueThing (pc := 80) (M := s1) Z hE1 inX3_passPaper (List.mem_of_getElem? (i := 4) rfl) dX3_passPaper_80 ?_
      refine ez_iload_n (pc := 83) Z dX3_passPaper_83 1 rfl rfl ?_
      refine ez_iald (pc := 84) (n := 5) (a := 7) (v := s1.2.1 7 v1.toNatClampNeg) (M := s1) Z hE1 8 rfl (by decide : 7 < 12) rfl rfl h.1 dX3_passPaper_84 ?_
      replace h := h.2
      refine ez_iadd (pc := 85) Z dX3_passPaper_85 ?_
      refine ez_iald (pc := 86) (n := 15) (a := 10) (v := s1.2.1 10 ((v1 * (3 : Int32)) + (s1.2.1 7 v1.toNatClampNeg)).toNatClampNeg) (M := s1) Z hE1 11 rfl (by decide : 10 < 12) rfl rfl h.1 dX3_passPaper_86 ?_
      replace h := h.2
      refine ez_iadd (pc := 87) Z dX3_passPaper_87 ?_
      refine ez_iast (pc := 88) (n := 6) (a := 3) (M := s1) (M' := ew_sA s1 3 v3.toNatClampNeg ((s1.2.1 3 v3.toNatClampNeg) + (s1.2.1 10 ((v1 * (3 : Int32)) + (s1.2.1 7 v1.toNatClampNeg)).toNatClampNeg))) Z hE1 4 rfl (by decide : 3 < 12) rfl rfl h.1 dX3_passPaper_88 ?_
      replace h := h.2
      exact tX3_passPaper_89 hE1 Z hR hR48 h
set_option maxHeartbeats 4000000 in
set_option maxRecDepth 100000 in
theorem tX3_passPaper_2 {C : ew_C} {X : ew_X} {b1 : Nat} {E : ew_M → ew_S} (hE1 : ew_GE X b1 (ew_GT X.2.1 b1) E) (Z : ew_Z C X cX3_passPaper 4 RX3 wsX3_passPaper ({ frames := 4, cells := 0, slots := 0, locals := 93 } : Room) (some .int)) {Q : Int32 → ew_M → Prop} {R2 : Int32 × ew_M → Prop} {v1 : Int32} {v2 : Int32} {v3 : Int32} {s1 : ew_M} (hR : C.2.2.2.2.2.2.2.2.2.2 = MQ C.2.2.2.2.2.2.2.1 (va_Qi (fun (r : Int32) (u : ew_M) => Q r u) (fun (u : ew_M) => ew_wd X ((fun (u : ew_M) => E u) u)) X.2.2.1) C.2.2.2.2.2.2.1 C.2.2.2.2.1 0 0 X.2.2.1) (hR2 : ∀ x : Int32 × ew_M, R2 x → ew_W C X 4 (E x.2) 2 [(0, .ref (X.2.1 b1)), (1, .int v1), (2, .int v2), (3, .int x.1)] []) (h : wX3_passPaper_2 R2 Q v1 v2 v3 s1) : ew_W C X 4 (E s1) 2 [(0, .ref (X.2.1 b1)), (1, .int v1), (2, .int v2), (3, .int v3)] [] := by
  refine ez_iload_n (pc := 2) Z dX3_passPaper_2 3 rfl rfl ?_
  refine ez_aload_n (pc := 3) Z dX3_passPaper_3 0 rfl rfl ?_
  refine fX3_persons (pc := 4) (v := s1.1 0) Z hE1 rfl inX3_passPaper (List.mem_of_getElem? (i := 1) rfl) dX3_passPaper_4 ?_
  refine ez_icmp_ge (pc := 7) (tgt := 36) Z dX3_passPaper_7 rfl (fun c1 => ?_) (fun c1 => ?_)
  · replace h := h.1 c1
    refine ez_aload_n (pc := 36) Z dX3_passPaper_36 0 rfl rfl ?_
    refine ez_iload_n (pc := 37) Z dX3_passPaper_37 1 rfl rfl ?_
    refine ez_callVi (pc := 38) (r := b1) (As := [.int v1]) (st := []) Z (kX3_isInForce Z.2.2.2.2.2.2.2.2.2.1 (E := E) hE1 h) gX3_passPaper_X3_isInForce rfl rfl rfl hdX3_isInForce rfl rfl (ew_rT hE1) (ew_oT hE1 _) rfl rfl rfl rfl dX3_passPaper_38 (fun r2 u3 h => ?_)
    refine ez_if_ne (pc := 41) (tgt := 46) Z dX3_passPaper_41 rfl (fun c4 => ?_) (fun c4 => ?_)
    · replace h := h.1 c4
      refine ez_iconst (pc := 46) Z dX3_passPaper_46 ec_0 ?_
      refine ez_istore_n (pc := 47) (L' := [(3, .int (0 : Int32)), (0, .ref (X.2.1 b1)), (1, .int v1), (2, .int v2)]) Z dX3_passPaper_47 rfl (by decide) rfl ?_
      refine ez_sub [(0, .ref (X.2.1 b1)), (1, .int v1), (3, .int (0 : Int32))] [1, 2, 0] rfl ?_
      exact ew_ind (P := fun (x : Int32 × ew_M) => ew_W C X 4 (E x.2) 48 [(0, .ref (X.2.1 b1)), (1, .int v1), (3, .int x.1)] []) (fun R hR9 x h => tX3_passPaper_48 hE1 Z hR  hR9 h) h
    · replace h := h.2 c4
      refine ez_iconst (pc := 44) Z dX3_passPaper_44 ec_0 ?_
      exact ez_iret (pc := 45) Z hR s1 h rfl dX3_passPaper_45
  · replace h := h.2 c1
    refine ez_iload_n (pc := 10) Z dX3_passPaper_10 3 rfl rfl ?_
    refine ez_iload_n (pc := 11) Z dX3_passPaper_11 2 rfl rfl ?_
    refine ez_icmp_eq (pc := 12) (tgt := 30) Z dX3_passPaper_12 rfl (fun c5 => ?_) (fun c5 => ?_)
    · replace h := h.1 c5
      exact tX3_passPaper_30 hE1 Z hR hR2 h
    · replace h := h.2 c5
      refine ez_aload_n (pc := 15) Z dX3_passPaper_15 0 rfl rfl ?_
      refine ez_iload_n (pc := 16) Z dX3_passPaper_16 3 rfl rfl ?_
      refine ez_iload_n (pc := 17) Z dX3_passPaper_17 1 rfl rfl ?_
      refine ez_callVi (pc := 18) (r := b1) (As := [.int v3, .int v1]) (st := []) Z (kX3_canRead Z.2.2.2.2.2.2.2.2.2.1 (E := E) hE1 h) gX3_passPaper_X3_canRead rfl rfl rfl hdX3_canRead rfl rfl (ew_rT hE1) (ew_oT hE1 _) rfl rfl rfl rfl dX3_passPaper_18 (fun r6 u7 h => ?_)
      refine ez_if_eq (pc := 21) (tgt := 30) Z dX3_passPaper_21 rfl (fun c8 => ?_) (fun c8 => ?_)
      · replace h := h.1 c8
        exact tX3_passPaper_30 hE1 Z hR hR2 h
      · replace h := h.2 c8
        refine ez_aload_n (pc := 24) Z dX3_passPaper_24 0 rfl rfl ?_
        refine ez_iload_n (pc := 25) Z dX3_passPaper_25 3 rfl rfl ?_
        refine ez_iload_n (pc := 26) Z dX3_passPaper_26 1 rfl rfl ?_
        refine ez_callVv (pc := 27) (r := b1) (As := [.int v3, .int v1]) (st := []) Z (kX3_takeTurn Z.2.2.2.2.2.2.2.2.2.1 (E := E) hE1 h) gX3_passPaper_X3_takeTurn rfl rfl rfl hdX3_takeTurn rfl rfl (ew_rT hE1) (ew_oT hE1 _) rfl rfl rfl rfl dX3_passPaper_27 (fun m10 h => ?_)
        exact tX3_passPaper_30 hE1 Z hR hR2 h
set_option maxHeartbeats 4000000 in
set_option maxRecDepth 100000 in
theorem kX3_passPaper {X : ew_X} {l : Launch} (hX : ew_Ap X) {b1 : Nat} {E : ew_M → ew_S} (hE1 : ew_GE X b1 (ew_GT X.2.1 b1) E) {Q : Int32 → ew_M → Prop} {p1 : Int32} {p2 : Int32} {s1 : ew_M} (h : wX3_passPaper Q p1 p2 s1) : Met l yX3_passPaper wsX3_passPaper ({ frames := 4, cells := 0, slots := 0, locals := 93 } : Room) (va_Pc [.ref (X.2.1 b1), .int p1, .int p2] (ew_wd X (E s1))) (va_Qi (fun (r : Int32) (u : ew_M) => Q r u) (fun (u : ew_M) => ew_wd X ((fun (u : ew_M) => E u) u)) X.2.2.1) 0 0 X.2.2.1 := by
  refine ew_met (As := [.ref (X.2.1 b1), .int p1, .int p2]) (L0 := [(0, .ref (X.2.1 b1)), (1, .int p1), (2, .int p2)]) X l hX (by decide) rfl rfl rfl rfl (fun C hl Z hR => ?_)
  subst hl
  refine ez_iconst (pc := 0) Z dX3_passPaper_0 ec_0 ?_
  refine ez_istore_n (pc := 1) (L' := [(3, .int (0 : Int32)), (0, .ref (X.2.1 b1)), (1, .int p1), (2, .int p2)]) Z dX3_passPaper_1 rfl (by decide) rfl ?_
  refine ez_sub [(0, .ref (X.2.1 b1)), (1, .int p1), (2, .int p2), (3, .int (0 : Int32))] [1, 2, 3, 0] rfl ?_
  exact ew_ind (P := fun (x : Int32 × ew_M) => ew_W C X 4 (E x.2) 2 [(0, .ref (X.2.1 b1)), (1, .int p1), (2, .int p2), (3, .int x.1)] []) (fun R hR9 x h => tX3_passPaper_2 hE1 Z hR  hR9 h) h
theorem inX3_endWeek : ∀ w ∈ wsX30, w ∈ wsX3_endWeek := fun _ h => List.mem_cons_of_mem _ (List.mem_append_right _ (h))
theorem hdX3_endWeek : yX3_endWeek.cls = RX3 ∧ yX3_endWeek.cls ≠ "java/lang/invoke/MethodHandle" ∧ yX3_endWeek.cls ≠ "java/lang/invoke/VarHandle" ∧ (parseMethodDescriptor yX3_endWeek.desc).map (fun d => d.parameters.length) = some 0 := by decide +kernel
def wX3_endWeek (Q : ew_M → Prop) (s1 : ew_M) : Prop := Q (ew_sI s1 4 ((s1.1 4) + (1 : Int32)))
set_option maxHeartbeats 4000000 in
set_option maxRecDepth 100000 in
theorem kX3_endWeek {X : ew_X} {l : Launch} (hX : ew_Ap X) {b1 : Nat} {E : ew_M → ew_S} (hE1 : ew_GE X b1 (ew_GT X.2.1 b1) E) {Q : ew_M → Prop} {s1 : ew_M} (h : wX3_endWeek Q s1) : Met l yX3_endWeek wsX3_endWeek ({ frames := 0, cells := 0, slots := 0, locals := 0 } : Room) (va_Pc [.ref (X.2.1 b1)] (ew_wd X (E s1))) (va_Qv (fun (u : ew_M) => Q u) (fun (u : ew_M) => ew_wd X ((fun (u : ew_M) => E u) u)) X.2.2.1) 0 0 X.2.2.1 := by
  refine ew_met (As := [.ref (X.2.1 b1)]) (L0 := [(0, .ref (X.2.1 b1))]) X l hX (by decide) rfl rfl rfl rfl (fun C hl Z hR => ?_)
  subst hl
  refine ez_aload_n (pc := 0) Z dX3_endWeek_0 0 rfl rfl ?_
  refine ez_dup (pc := 1) Z dX3_endWeek_1 rfl ?_
  refine fX3_week (pc := 2) (v := s1.1 4) Z hE1 rfl inX3_endWeek (List.mem_of_getElem? (i := 1) rfl) dX3_endWeek_2 ?_
  refine ez_iconst (pc := 5) Z dX3_endWeek_5 ec_1 ?_
  refine ez_iadd (pc := 6) Z dX3_endWeek_6 ?_
  refine pX3_week (pc := 7) (M := s1) (M' := ew_sI s1 4 ((s1.1 4) + (1 : Int32))) Z hE1 rfl inX3_endWeek (List.mem_of_getElem? (i := 1) rfl) dX3_endWeek_7 ?_
  exact ez_vret (pc := 10) Z hR (ew_sI s1 4 ((s1.1 4) + (1 : Int32))) h rfl dX3_endWeek_10
theorem inX3_passWeek : ∀ w ∈ wsX30, w ∈ wsX3_passWeek := fun _ h => List.mem_cons_of_mem _ (List.mem_append_right _ (h))
theorem hdX3_passWeek : yX3_passWeek.cls = RX3 ∧ yX3_passWeek.cls ≠ "java/lang/invoke/MethodHandle" ∧ yX3_passWeek.cls ≠ "java/lang/invoke/VarHandle" ∧ (parseMethodDescriptor yX3_passWeek.desc).map (fun d => d.parameters.length) = some 0 := by decide +kernel
def wX3_passWeek_2 (R2 : Int32 × ew_M → Prop) (Q : ew_M → Prop) (v1 : Int32) (s1 : ew_M) : Prop := ((s1.1 1) ≤ v1 → wX3_endWeek (fun (m3 : ew_M) => Q m3) s1) ∧ (¬ (s1.1 1) ≤ v1 → wX3_passPaper (fun (r4 : Int32) (m5 : ew_M) => R2 (v1 + (1 : Int32), m5)) v1 (-1 : Int32) s1)
def wX3_passWeek (Q : ew_M → Prop) (s1 : ew_M) : Prop := ew_lp (fun (R : Int32 × ew_M → Prop) (x : Int32 × ew_M) => wX3_passWeek_2 R Q x.1 x.2) ((0 : Int32), s1)
set_option maxHeartbeats 4000000 in
set_option maxRecDepth 100000 in
theorem tX3_passWeek_2 {C : ew_C} {X : ew_X} {b1 : Nat} {E : ew_M → ew_S} (hE1 : ew_GE X b1 (ew_GT X.2.1 b1) E) (Z : ew_Z C X cX3_passWeek 2 RX3 wsX3_passWeek ({ frames := 5, cells := 0, slots := 0, locals := 116 } : Room) none) {Q : ew_M → Prop} {R2 : Int32 × ew_M → Prop} {v1 : Int32} {s1 : ew_M} (hR : C.2.2.2.2.2.2.2.2.2.2 = MQ C.2.2.2.2.2.2.2.1 (va_Qv (fun (u : ew_M) => Q u) (fun (u : ew_M) => ew_wd X ((fun (u : ew_M) => E u) u)) X.2.2.1) C.2.2.2.2.2.2.1 C.2.2.2.2.1 0 0 X.2.2.1) (hR2 : ∀ x : Int32 × ew_M, R2 x → ew_W C X 2 (E x.2) 2 [(0, .ref (X.2.1 b1)), (1, .int x.1)] []) (h : wX3_passWeek_2 R2 Q v1 s1) : ew_W C X 2 (E s1) 2 [(0, .ref (X.2.1 b1)), (1, .int v1)] [] := by
  refine ez_iload_n (pc := 2) Z dX3_passWeek_2 1 rfl rfl ?_
  refine ez_aload_n (pc := 3) Z dX3_passWeek_3 0 rfl rfl ?_
  refine fX3_papers (pc := 4) (v := s1.1 1) Z hE1 rfl inX3_passWeek (List.mem_of_getElem? (i := 1) rfl) dX3_passWeek_4 ?_
  refine ez_icmp_ge (pc := 7) (tgt := 23) Z dX3_passWeek_7 rfl (fun c1 => ?_) (fun c1 => ?_)
  · replace h := h.1 c1
    refine ez_aload_n (pc := 23) Z dX3_passWeek_23 0 rfl rfl ?_
    refine ez_callVv (pc := 24) (r := b1) (As := []) (st := []) Z (kX3_endWeek Z.2.2.2.2.2.2.2.2.2.1 (E := E) hE1 h) gX3_passWeek_X3_endWeek rfl rfl rfl hdX3_endWeek rfl rfl (ew_rT hE1) (ew_oT hE1 _) rfl rfl rfl rfl dX3_passWeek_24 (fun m3 h => ?_)
    exact ez_vret (pc := 27) Z hR m3 h rfl dX3_passWeek_27
  · replace h := h.2 c1
    refine ez_aload_n (pc := 10) Z dX3_passWeek_10 0 rfl rfl ?_
    refine ez_iload_n (pc := 11) Z dX3_passWeek_11 1 rfl rfl ?_
    refine ez_iconst (pc := 12) Z dX3_passWeek_12 ec_m1 ?_
    refine ez_callVi (pc := 13) (r := b1) (As := [.int v1, .int (-1 : Int32)]) (st := []) Z (kX3_passPaper Z.2.2.2.2.2.2.2.2.2.1 (E := E) hE1 h) gX3_passWeek_X3_passPaper rfl rfl rfl hdX3_passPaper rfl rfl (ew_rT hE1) (ew_oT hE1 _) rfl rfl rfl rfl dX3_passWeek_13 (fun r4 m5 h => ?_)
    refine ez_pop (pc := 16) Z dX3_passWeek_16 rfl ?_
    refine ez_iinc (pc := 17) (L' := [(1, .int (v1 + (1 : Int32))), (0, .ref (X.2.1 b1))]) Z dX3_passWeek_17 1 rfl (ei_1 _) (by decide) rfl ?_
    refine ez_goto (pc := 20) (tgt := 2) Z dX3_passWeek_20 rfl ?_
    refine ez_sub [(0, .ref (X.2.1 b1)), (1, .int (v1 + (1 : Int32)))] [1, 0] rfl ?_
    exact hR2 _ h
set_option maxHeartbeats 4000000 in
set_option maxRecDepth 100000 in
theorem kX3_passWeek {X : ew_X} {l : Launch} (hX : ew_Ap X) {b1 : Nat} {E : ew_M → ew_S} (hE1 : ew_GE X b1 (ew_GT X.2.1 b1) E) {Q : ew_M → Prop} {s1 : ew_M} (h : wX3_passWeek Q s1) : Met l yX3_passWeek wsX3_passWeek ({ frames := 5, cells := 0, slots := 0, locals := 116 } : Room) (va_Pc [.ref (X.2.1 b1)] (ew_wd X (E s1))) (va_Qv (fun (u : ew_M) => Q u) (fun (u : ew_M) => ew_wd X ((fun (u : ew_M) => E u) u)) X.2.2.1) 0 0 X.2.2.1 := by
  refine ew_met (As := [.ref (X.2.1 b1)]) (L0 := [(0, .ref (X.2.1 b1))]) X l hX (by decide) rfl rfl rfl rfl (fun C hl Z hR => ?_)
  subst hl
  refine ez_iconst (pc := 0) Z dX3_passWeek_0 ec_0 ?_
  refine ez_istore_n (pc := 1) (L' := [(1, .int (0 : Int32)), (0, .ref (X.2.1 b1))]) Z dX3_passWeek_1 rfl (by decide) rfl ?_
  refine ez_sub [(0, .ref (X.2.1 b1)), (1, .int (0 : Int32))] [1, 0] rfl ?_
  exact ew_ind (P := fun (x : Int32 × ew_M) => ew_W C X 2 (E x.2) 2 [(0, .ref (X.2.1 b1)), (1, .int x.1)] []) (fun R hR9 x h => tX3_passWeek_2 hE1 Z hR  hR9 h) h
theorem inX3_weekNow : ∀ w ∈ wsX30, w ∈ wsX3_weekNow := fun _ h => List.mem_cons_of_mem _ (List.mem_append_right _ (h))
theorem hdX3_weekNow : yX3_weekNow.cls = RX3 ∧ yX3_weekNow.cls ≠ "java/lang/invoke/MethodHandle" ∧ yX3_weekNow.cls ≠ "java/lang/invoke/VarHandle" ∧ (parseMethodDescriptor yX3_weekNow.desc).map (fun d => d.parameters.length) = some 0 := by decide +kernel
def wX3_weekNow (Q : Int32 → Prop) (s1 : ew_M) : Prop := Q (s1.1 4) 
set_option maxHeartbeats 4000000 in
set_option maxRecDepth 100000 in
theorem kX3_weekNow {X : ew_X} {l : Launch} (hX : ew_Ap X) {b1 : Nat} {E : ew_M → ew_S} (hE1 : ew_GE X b1 (ew_GT X.2.1 b1) E) {Q : Int32 → Prop} {s1 : ew_M} (h : wX3_weekNow Q s1) : Met l yX3_weekNow wsX3_weekNow ({ frames := 0, cells := 0, slots := 0, locals := 0 } : Room) (va_Pc [.ref (X.2.1 b1)] (ew_wd X (E s1))) (va_Qi (fun (r : Int32) (_ : Unit) => Q r) (fun (u : Unit) => ew_wd X ((fun (_ : Unit) => E s1) u)) X.2.2.1) 0 0 X.2.2.1 := by
  refine ew_met (As := [.ref (X.2.1 b1)]) (L0 := [(0, .ref (X.2.1 b1))]) X l hX (by decide) rfl rfl rfl rfl (fun C hl Z hR => ?_)
  subst hl
  refine ez_aload_n (pc := 0) Z dX3_weekNow_0 0 rfl rfl ?_
  refine fX3_week (pc := 1) (v := s1.1 4) Z hE1 rfl inX3_weekNow (List.mem_of_getElem? (i := 1) rfl) dX3_weekNow_1 ?_
  exact ez_iret (pc := 4) Z hR () h rfl dX3_weekNow_4
theorem inX3_hadBy : ∀ w ∈ wsX30, w ∈ wsX3_hadBy := fun _ h => List.mem_cons_of_mem _ (List.mem_append_right _ (h))
theorem hdX3_hadBy : yX3_hadBy.cls = RX3 ∧ yX3_hadBy.cls ≠ "java/lang/invoke/MethodHandle" ∧ yX3_hadBy.cls ≠ "java/lang/invoke/VarHandle" ∧ (parseMethodDescriptor yX3_hadBy.desc).map (fun d => d.parameters.length) = some 1 := by decide +kernel
def wX3_hadBy (Q : Int32 → Prop) (p1 : Int32) (s1 : ew_M) : Prop := vp_in p1 6 ∧ (Q (s1.2.1 3 p1.toNatClampNeg) )
set_option maxHeartbeats 4000000 in
set_option maxRecDepth 100000 in
theorem kX3_hadBy {X : ew_X} {l : Launch} (hX : ew_Ap X) {b1 : Nat} {E : ew_M → ew_S} (hE1 : ew_GE X b1 (ew_GT X.2.1 b1) E) {Q : Int32 → Prop} {p1 : Int32} {s1 : ew_M} (h : wX3_hadBy Q p1 s1) : Met l yX3_hadBy wsX3_hadBy ({ frames := 0, cells := 0, slots := 0, locals := 0 } : Room) (va_Pc [.ref (X.2.1 b1), .int p1] (ew_wd X (E s1))) (va_Qi (fun (r : Int32) (_ : Unit) => Q r) (fun (u : Unit) => ew_wd X ((fun (_ : Unit) => E s1) u)) X.2.2.1) 0 0 X.2.2.1 := by
  refine ew_met (As := [.ref (X.2.1 b1), .int p1]) (L0 := [(0, .ref (X.2.1 b1)), (1, .int p1)]) X l hX (by decide) rfl rfl rfl rfl (fun C hl Z hR => ?_)
  subst hl
  refine ez_aload_n (pc := 0) Z dX3_hadBy_0 0 rfl rfl ?_
  refine fX3_gained (pc := 1) (M := s1) Z hE1 inX3_hadBy (List.mem_of_getElem? (i := 1) rfl) dX3_hadBy_1 ?_
  refine ez_iload_n (pc := 4) Z dX3_hadBy_4 1 rfl rfl ?_
  refine ez_iald (pc := 5) (n := 6) (a := 3) (v := s1.2.1 3 p1.toNatClampNeg) (M := s1) Z hE1 4 rfl (by decide : 3 < 12) rfl rfl h.1 dX3_hadBy_5 ?_
  replace h := h.2
  exact ez_iret (pc := 6) Z hR () h rfl dX3_hadBy_6
theorem inX3_liarsOf : ∀ w ∈ wsX30, w ∈ wsX3_liarsOf := fun _ h => List.mem_cons_of_mem _ (List.mem_append_right _ (h))
theorem hdX3_liarsOf : yX3_liarsOf.cls = RX3 ∧ yX3_liarsOf.cls ≠ "java/lang/invoke/MethodHandle" ∧ yX3_liarsOf.cls ≠ "java/lang/invoke/VarHandle" ∧ (parseMethodDescriptor yX3_liarsOf.desc).map (fun d => d.parameters.length) = some 1 := by decide +kernel
def wX3_liarsOf (Q : Int32 → Prop) (p1 : Int32) (s1 : ew_M) : Prop := vp_in p1 5 ∧ (vp_in p1 5 ∧ (Q ((s1.2.1 6 p1.toNatClampNeg) &&& ((s1.2.1 5 p1.toNatClampNeg) ^^^ (-1 : Int32))) ))
set_option maxHeartbeats 4000000 in
set_option maxRecDepth 100000 in
theorem kX3_liarsOf {X : ew_X} {l : Launch} (hX : ew_Ap X) {b1 : Nat} {E : ew_M → ew_S} (hE1 : ew_GE X b1 (ew_GT X.2.1 b1) E) {Q : Int32 → Prop} {p1 : Int32} {s1 : ew_M} (h : wX3_liarsOf Q p1 s1) : Met l yX3_liarsOf wsX3_liarsOf ({ frames := 0, cells := 0, slots := 0, locals := 0 } : Room) (va_Pc [.ref (X.2.1 b1), .int p1] (ew_wd X (E s1))) (va_Qi (fun (r : Int32) (_ : Unit) => Q r) (fun (u : Unit) => ew_wd X ((fun (_ : Unit) => E s1) u)) X.2.2.1) 0 0 X.2.2.1 := by
  refine ew_met (As := [.ref (X.2.1 b1), .int p1]) (L0 := [(0, .ref (X.2.1 b1)), (1, .int p1)]) X l hX (by decide) rfl rfl rfl rfl (fun C hl Z hR => ?_)
  subst hl
  refine ez_aload_n (pc := 0) Z dX3_liarsOf_0 0 rfl rfl ?_
  refine fX3_sayers (pc := 1) (M := s1) Z hE1 inX3_liarsOf (List.mem_of_getElem? (i := 1) rfl) dX3_liarsOf_1 ?_
  refine ez_iload_n (pc := 4) Z dX3_liarsOf_4 1 rfl rfl ?_
  refine ez_iald (pc := 5) (n := 5) (a := 6) (v := s1.2.1 6 p1.toNatClampNeg) (M := s1) Z hE1 7 rfl (by decide : 6 < 12) rfl rfl h.1 dX3_liarsOf_5 ?_
  replace h := h.2
  refine ez_aload_n (pc := 6) Z dX3_liarsOf_6 0 rfl rfl ?_
  refine fX3_readers (pc := 7) (M := s1) Z hE1 inX3_liarsOf (List.mem_of_getElem? (i := 2) rfl) dX3_liarsOf_7 ?_
  refine ez_iload_n (pc := 10) Z dX3_liarsOf_10 1 rfl rfl ?_
  refine ez_iald (pc := 11) (n := 5) (a := 5) (v := s1.2.1 5 p1.toNatClampNeg) (M := s1) Z hE1 6 rfl (by decide : 5 < 12) rfl rfl h.1 dX3_liarsOf_11 ?_
  replace h := h.2
  refine ez_iconst (pc := 12) Z dX3_liarsOf_12 ec_m1 ?_
  refine ez_ixor (pc := 13) Z dX3_liarsOf_13 ?_
  refine ez_iand (pc := 14) Z dX3_liarsOf_14 ?_
  exact ez_iret (pc := 15) Z hR () h rfl dX3_liarsOf_15
theorem inX3_personCount : ∀ w ∈ wsX30, w ∈ wsX3_personCount := fun _ h => List.mem_cons_of_mem _ (List.mem_append_right _ (h))
theorem hdX3_personCount : yX3_personCount.cls = RX3 ∧ yX3_personCount.cls ≠ "java/lang/invoke/MethodHandle" ∧ yX3_personCount.cls ≠ "java/lang/invoke/VarHandle" ∧ (parseMethodDescriptor yX3_personCount.desc).map (fun d => d.parameters.length) = some 0 := by decide +kernel
def wX3_personCount (Q : Int32 → Prop) (s1 : ew_M) : Prop := Q (s1.1 0) 
set_option maxHeartbeats 4000000 in
set_option maxRecDepth 100000 in
theorem kX3_personCount {X : ew_X} {l : Launch} (hX : ew_Ap X) {b1 : Nat} {E : ew_M → ew_S} (hE1 : ew_GE X b1 (ew_GT X.2.1 b1) E) {Q : Int32 → Prop} {s1 : ew_M} (h : wX3_personCount Q s1) : Met l yX3_personCount wsX3_personCount ({ frames := 0, cells := 0, slots := 0, locals := 0 } : Room) (va_Pc [.ref (X.2.1 b1)] (ew_wd X (E s1))) (va_Qi (fun (r : Int32) (_ : Unit) => Q r) (fun (u : Unit) => ew_wd X ((fun (_ : Unit) => E s1) u)) X.2.2.1) 0 0 X.2.2.1 := by
  refine ew_met (As := [.ref (X.2.1 b1)]) (L0 := [(0, .ref (X.2.1 b1))]) X l hX (by decide) rfl rfl rfl rfl (fun C hl Z hR => ?_)
  subst hl
  refine ez_aload_n (pc := 0) Z dX3_personCount_0 0 rfl rfl ?_
  refine fX3_persons (pc := 1) (v := s1.1 0) Z hE1 rfl inX3_personCount (List.mem_of_getElem? (i := 1) rfl) dX3_personCount_1 ?_
  exact ez_iret (pc := 4) Z hR () h rfl dX3_personCount_4
theorem inX3_boundBy : ∀ w ∈ wsX30, w ∈ wsX3_boundBy := fun _ h => List.mem_cons_of_mem _ (List.mem_append_right _ (h))
theorem hdX3_boundBy : yX3_boundBy.cls = RX3 ∧ yX3_boundBy.cls ≠ "java/lang/invoke/MethodHandle" ∧ yX3_boundBy.cls ≠ "java/lang/invoke/VarHandle" ∧ (parseMethodDescriptor yX3_boundBy.desc).map (fun d => d.parameters.length) = some 1 := by decide +kernel
def wX3_boundBy (Q : Int32 → Prop) (p1 : Int32) (s1 : ew_M) : Prop := vp_in p1 5 ∧ (Q (s1.2.1 4 p1.toNatClampNeg) )
set_option maxHeartbeats 4000000 in
set_option maxRecDepth 100000 in
theorem kX3_boundBy {X : ew_X} {l : Launch} (hX : ew_Ap X) {b1 : Nat} {E : ew_M → ew_S} (hE1 : ew_GE X b1 (ew_GT X.2.1 b1) E) {Q : Int32 → Prop} {p1 : Int32} {s1 : ew_M} (h : wX3_boundBy Q p1 s1) : Met l yX3_boundBy wsX3_boundBy ({ frames := 0, cells := 0, slots := 0, locals := 0 } : Room) (va_Pc [.ref (X.2.1 b1), .int p1] (ew_wd X (E s1))) (va_Qi (fun (r : Int32) (_ : Unit) => Q r) (fun (u : Unit) => ew_wd X ((fun (_ : Unit) => E s1) u)) X.2.2.1) 0 0 X.2.2.1 := by
  refine ew_met (As := [.ref (X.2.1 b1), .int p1]) (L0 := [(0, .ref (X.2.1 b1)), (1, .int p1)]) X l hX (by decide) rfl rfl rfl rfl (fun C hl Z hR => ?_)
  subst hl
  refine ez_aload_n (pc := 0) Z dX3_boundBy_0 0 rfl rfl ?_
  refine fX3_bound (pc := 1) (M := s1) Z hE1 inX3_boundBy (List.mem_of_getElem? (i := 1) rfl) dX3_boundBy_1 ?_
  refine ez_iload_n (pc := 4) Z dX3_boundBy_4 1 rfl rfl ?_
  refine ez_iald (pc := 5) (n := 5) (a := 4) (v := s1.2.1 4 p1.toNatClampNeg) (M := s1) Z hE1 5 rfl (by decide : 4 < 12) rfl rfl h.1 dX3_boundBy_5 ?_
  replace h := h.2
  exact ez_iret (pc := 6) Z hR () h rfl dX3_boundBy_6
theorem inX3_paperCount : ∀ w ∈ wsX30, w ∈ wsX3_paperCount := fun _ h => List.mem_cons_of_mem _ (List.mem_append_right _ (h))
theorem hdX3_paperCount : yX3_paperCount.cls = RX3 ∧ yX3_paperCount.cls ≠ "java/lang/invoke/MethodHandle" ∧ yX3_paperCount.cls ≠ "java/lang/invoke/VarHandle" ∧ (parseMethodDescriptor yX3_paperCount.desc).map (fun d => d.parameters.length) = some 0 := by decide +kernel
def wX3_paperCount (Q : Int32 → Prop) (s1 : ew_M) : Prop := Q (s1.1 1) 
set_option maxHeartbeats 4000000 in
set_option maxRecDepth 100000 in
theorem kX3_paperCount {X : ew_X} {l : Launch} (hX : ew_Ap X) {b1 : Nat} {E : ew_M → ew_S} (hE1 : ew_GE X b1 (ew_GT X.2.1 b1) E) {Q : Int32 → Prop} {s1 : ew_M} (h : wX3_paperCount Q s1) : Met l yX3_paperCount wsX3_paperCount ({ frames := 0, cells := 0, slots := 0, locals := 0 } : Room) (va_Pc [.ref (X.2.1 b1)] (ew_wd X (E s1))) (va_Qi (fun (r : Int32) (_ : Unit) => Q r) (fun (u : Unit) => ew_wd X ((fun (_ : Unit) => E s1) u)) X.2.2.1) 0 0 X.2.2.1 := by
  refine ew_met (As := [.ref (X.2.1 b1)]) (L0 := [(0, .ref (X.2.1 b1))]) X l hX (by decide) rfl rfl rfl rfl (fun C hl Z hR => ?_)
  subst hl
  refine ez_aload_n (pc := 0) Z dX3_paperCount_0 0 rfl rfl ?_
  refine fX3_papers (pc := 1) (v := s1.1 1) Z hE1 rfl inX3_paperCount (List.mem_of_getElem? (i := 1) rfl) dX3_paperCount_1 ?_
  exact ez_iret (pc := 4) Z hR () h rfl dX3_paperCount_4
theorem inX3_lawNow : ∀ w ∈ wsX30, w ∈ wsX3_lawNow := fun _ h => List.mem_cons_of_mem _ (List.mem_append_right _ (h))
theorem hdX3_lawNow : yX3_lawNow.cls = RX3 ∧ yX3_lawNow.cls ≠ "java/lang/invoke/MethodHandle" ∧ yX3_lawNow.cls ≠ "java/lang/invoke/VarHandle" ∧ (parseMethodDescriptor yX3_lawNow.desc).map (fun d => d.parameters.length) = some 0 := by decide +kernel
def wX3_lawNow (Q : Int32 → Prop) (s1 : ew_M) : Prop := Q (s1.1 2) 
set_option maxHeartbeats 4000000 in
set_option maxRecDepth 100000 in
theorem kX3_lawNow {X : ew_X} {l : Launch} (hX : ew_Ap X) {b1 : Nat} {E : ew_M → ew_S} (hE1 : ew_GE X b1 (ew_GT X.2.1 b1) E) {Q : Int32 → Prop} {s1 : ew_M} (h : wX3_lawNow Q s1) : Met l yX3_lawNow wsX3_lawNow ({ frames := 0, cells := 0, slots := 0, locals := 0 } : Room) (va_Pc [.ref (X.2.1 b1)] (ew_wd X (E s1))) (va_Qi (fun (r : Int32) (_ : Unit) => Q r) (fun (u : Unit) => ew_wd X ((fun (_ : Unit) => E s1) u)) X.2.2.1) 0 0 X.2.2.1 := by
  refine ew_met (As := [.ref (X.2.1 b1)]) (L0 := [(0, .ref (X.2.1 b1))]) X l hX (by decide) rfl rfl rfl rfl (fun C hl Z hR => ?_)
  subst hl
  refine ez_aload_n (pc := 0) Z dX3_lawNow_0 0 rfl rfl ?_
  refine fX3_ruling (pc := 1) (v := s1.1 2) Z hE1 rfl inX3_lawNow (List.mem_of_getElem? (i := 1) rfl) dX3_lawNow_1 ?_
  exact ez_iret (pc := 4) Z hR () h rfl dX3_lawNow_4
theorem inX3_hadByAll : ∀ w ∈ wsX30, w ∈ wsX3_hadByAll := fun _ h => List.mem_cons_of_mem _ (List.mem_append_right _ (h))
theorem hdX3_hadByAll : yX3_hadByAll.cls = RX3 ∧ yX3_hadByAll.cls ≠ "java/lang/invoke/MethodHandle" ∧ yX3_hadByAll.cls ≠ "java/lang/invoke/VarHandle" ∧ (parseMethodDescriptor yX3_hadByAll.desc).map (fun d => d.parameters.length) = some 0 := by decide +kernel
def wX3_hadByAll_4 (R4 : Int32 × Int32 → Prop) (Q : Int32 → Prop) (v1 : Int32) (v2 : Int32) (s1 : ew_M) : Prop := ((s1.1 0) ≤ v2 → Q v1 ) ∧ (¬ (s1.1 0) ≤ v2 → vp_in v2 6 ∧ (R4 (v1 + (s1.2.1 3 v2.toNatClampNeg), v2 + (1 : Int32))))
def wX3_hadByAll (Q : Int32 → Prop) (s1 : ew_M) : Prop := ew_lp (fun (R : Int32 × Int32 → Prop) (x : Int32 × Int32) => wX3_hadByAll_4 R Q x.1 x.2 s1) ((0 : Int32), (0 : Int32))
set_option maxHeartbeats 4000000 in
set_option maxRecDepth 100000 in
theorem tX3_hadByAll_4 {C : ew_C} {X : ew_X} {b1 : Nat} {E : ew_M → ew_S} (hE1 : ew_GE X b1 (ew_GT X.2.1 b1) E) (Z : ew_Z C X cX3_hadByAll 3 RX3 wsX3_hadByAll ({ frames := 0, cells := 0, slots := 0, locals := 0 } : Room) (some .int)) {Q : Int32 → Prop} {R4 : Int32 × Int32 → Prop} {v1 : Int32} {v2 : Int32} {s1 : ew_M} (hR : C.2.2.2.2.2.2.2.2.2.2 = MQ C.2.2.2.2.2.2.2.1 (va_Qi (fun (r : Int32) (_ : Unit) => Q r) (fun (u : Unit) => ew_wd X ((fun (_ : Unit) => E s1) u)) X.2.2.1) C.2.2.2.2.2.2.1 C.2.2.2.2.1 0 0 X.2.2.1) (hR4 : ∀ x : Int32 × Int32, R4 x → ew_W C X 3 (E s1) 4 [(0, .ref (X.2.1 b1)), (1, .int x.1), (2, .int x.2)] []) (h : wX3_hadByAll_4 R4 Q v1 v2 s1) : ew_W C X 3 (E s1) 4 [(0, .ref (X.2.1 b1)), (1, .int v1), (2, .int v2)] [] := by
  refine ez_iload_n (pc := 4) Z dX3_hadByAll_4 2 rfl rfl ?_
  refine ez_aload_n (pc := 5) Z dX3_hadByAll_5 0 rfl rfl ?_
  refine fX3_persons (pc := 6) (v := s1.1 0) Z hE1 rfl inX3_hadByAll (List.mem_of_getElem? (i := 1) rfl) dX3_hadByAll_6 ?_
  refine ez_icmp_ge (pc := 9) (tgt := 27) Z dX3_hadByAll_9 rfl (fun c1 => ?_) (fun c1 => ?_)
  · replace h := h.1 c1
    refine ez_iload_n (pc := 27) Z dX3_hadByAll_27 1 rfl rfl ?_
    exact ez_iret (pc := 28) Z hR () h rfl dX3_hadByAll_28
  · replace h := h.2 c1
    refine ez_iload_n (pc := 12) Z dX3_hadByAll_12 1 rfl rfl ?_
    refine ez_aload_n (pc := 13) Z dX3_hadByAll_13 0 rfl rfl ?_
    refine fX3_gained (pc := 14) (M := s1) Z hE1 inX3_hadByAll (List.mem_of_getElem? (i := 2) rfl) dX3_hadByAll_14 ?_
    refine ez_iload_n (pc := 17) Z dX3_hadByAll_17 2 rfl rfl ?_
    refine ez_iald (pc := 18) (n := 6) (a := 3) (v := s1.2.1 3 v2.toNatClampNeg) (M := s1) Z hE1 4 rfl (by decide : 3 < 12) rfl rfl h.1 dX3_hadByAll_18 ?_
    replace h := h.2
    refine ez_iadd (pc := 19) Z dX3_hadByAll_19 ?_
    refine ez_istore_n (pc := 20) (L' := [(1, .int (v1 + (s1.2.1 3 v2.toNatClampNeg))), (0, .ref (X.2.1 b1)), (2, .int v2)]) Z dX3_hadByAll_20 rfl (by decide) rfl ?_
    refine ez_iinc (pc := 21) (L' := [(2, .int (v2 + (1 : Int32))), (1, .int (v1 + (s1.2.1 3 v2.toNatClampNeg))), (0, .ref (X.2.1 b1))]) Z dX3_hadByAll_21 2 rfl (ei_1 _) (by decide) rfl ?_
    refine ez_goto (pc := 24) (tgt := 4) Z dX3_hadByAll_24 rfl ?_
    refine ez_sub [(0, .ref (X.2.1 b1)), (1, .int (v1 + (s1.2.1 3 v2.toNatClampNeg))), (2, .int (v2 + (1 : Int32)))] [2, 1, 0] rfl ?_
    exact hR4 _ h
set_option maxHeartbeats 4000000 in
set_option maxRecDepth 100000 in
theorem kX3_hadByAll {X : ew_X} {l : Launch} (hX : ew_Ap X) {b1 : Nat} {E : ew_M → ew_S} (hE1 : ew_GE X b1 (ew_GT X.2.1 b1) E) {Q : Int32 → Prop} {s1 : ew_M} (h : wX3_hadByAll Q s1) : Met l yX3_hadByAll wsX3_hadByAll ({ frames := 0, cells := 0, slots := 0, locals := 0 } : Room) (va_Pc [.ref (X.2.1 b1)] (ew_wd X (E s1))) (va_Qi (fun (r : Int32) (_ : Unit) => Q r) (fun (u : Unit) => ew_wd X ((fun (_ : Unit) => E s1) u)) X.2.2.1) 0 0 X.2.2.1 := by
  refine ew_met (As := [.ref (X.2.1 b1)]) (L0 := [(0, .ref (X.2.1 b1))]) X l hX (by decide) rfl rfl rfl rfl (fun C hl Z hR => ?_)
  subst hl
  refine ez_iconst (pc := 0) Z dX3_hadByAll_0 ec_0 ?_
  refine ez_istore_n (pc := 1) (L' := [(1, .int (0 : Int32)), (0, .ref (X.2.1 b1))]) Z dX3_hadByAll_1 rfl (by decide) rfl ?_
  refine ez_iconst (pc := 2) Z dX3_hadByAll_2 ec_0 ?_
  refine ez_istore_n (pc := 3) (L' := [(2, .int (0 : Int32)), (1, .int (0 : Int32)), (0, .ref (X.2.1 b1))]) Z dX3_hadByAll_3 rfl (by decide) rfl ?_
  refine ez_sub [(0, .ref (X.2.1 b1)), (1, .int (0 : Int32)), (2, .int (0 : Int32))] [2, 1, 0] rfl ?_
  exact ew_ind (P := fun (x : Int32 × Int32) => ew_W C X 3 (E s1) 4 [(0, .ref (X.2.1 b1)), (1, .int x.1), (2, .int x.2)] []) (fun R hR9 x h => tX3_hadByAll_4 hE1 Z hR  hR9 h) h
theorem inX3_papersInForce : ∀ w ∈ wsX30, w ∈ wsX3_papersInForce := fun _ h => List.mem_cons_of_mem _ (List.mem_append_right _ (h))
theorem hdX3_papersInForce : yX3_papersInForce.cls = RX3 ∧ yX3_papersInForce.cls ≠ "java/lang/invoke/MethodHandle" ∧ yX3_papersInForce.cls ≠ "java/lang/invoke/VarHandle" ∧ (parseMethodDescriptor yX3_papersInForce.desc).map (fun d => d.parameters.length) = some 0 := by decide +kernel
def wX3_papersInForce_26 (R4 : Int32 × Int32 → Prop) (Q : Int32 → Prop) (v2 : Int32) (t0 : Int32) (t1 : Int32) (s1 : ew_M) : Prop := R4 (t1 + t0, v2 + (1 : Int32))
def wX3_papersInForce_4 (R4 : Int32 × Int32 → Prop) (Q : Int32 → Prop) (v1 : Int32) (v2 : Int32) (s1 : ew_M) : Prop := ((s1.1 1) ≤ v2 → Q v1 ) ∧ (¬ (s1.1 1) ≤ v2 → wX3_isInForce (fun (r2 : Int32) => (r2 = 0 → wX3_papersInForce_26 R4 Q v2 (0 : Int32) v1 s1) ∧ (¬ r2 = 0 → wX3_papersInForce_26 R4 Q v2 (1 : Int32) v1 s1)) v2 s1)
def wX3_papersInForce (Q : Int32 → Prop) (s1 : ew_M) : Prop := ew_lp (fun (R : Int32 × Int32 → Prop) (x : Int32 × Int32) => wX3_papersInForce_4 R Q x.1 x.2 s1) ((0 : Int32), (0 : Int32))
set_option maxHeartbeats 4000000 in
set_option maxRecDepth 100000 in
theorem tX3_papersInForce_26 {C : ew_C} {X : ew_X} {b1 : Nat} {E : ew_M → ew_S} (hE1 : ew_GE X b1 (ew_GT X.2.1 b1) E) (Z : ew_Z C X cX3_papersInForce 3 RX3 wsX3_papersInForce ({ frames := 3, cells := 0, slots := 0, locals := 65 } : Room) (some .int)) {Q : Int32 → Prop} {R4 : Int32 × Int32 → Prop} {v2 : Int32} {t0 : Int32} {t1 : Int32} {s1 : ew_M} (hR : C.2.2.2.2.2.2.2.2.2.2 = MQ C.2.2.2.2.2.2.2.1 (va_Qi (fun (r : Int32) (_ : Unit) => Q r) (fun (u : Unit) => ew_wd X ((fun (_ : Unit) => E s1) u)) X.2.2.1) C.2.2.2.2.2.2.1 C.2.2.2.2.1 0 0 X.2.2.1) (hR4 : ∀ x : Int32 × Int32, R4 x → ew_W C X 3 (E s1) 4 [(0, .ref (X.2.1 b1)), (1, .int x.1), (2, .int x.2)] []) (h : wX3_papersInForce_26 R4 Q v2 t0 t1 s1) : ew_W C X 3 (E s1) 26 [(0, .ref (X.2.1 b1)), (2, .int v2)] [.int t0, .int t1] := by
  refine ez_iadd (pc := 26) Z dX3_papersInForce_26 ?_
  refine ez_istore_n (pc := 27) (L' := [(1, .int (t1 + t0)), (0, .ref (X.2.1 b1)), (2, .int v2)]) Z dX3_papersInForce_27 rfl (by decide) rfl ?_
  refine ez_iinc (pc := 28) (L' := [(2, .int (v2 + (1 : Int32))), (1, .int (t1 + t0)), (0, .ref (X.2.1 b1))]) Z dX3_papersInForce_28 2 rfl (ei_1 _) (by decide) rfl ?_
  refine ez_goto (pc := 31) (tgt := 4) Z dX3_papersInForce_31 rfl ?_
  refine ez_sub [(0, .ref (X.2.1 b1)), (1, .int (t1 + t0)), (2, .int (v2 + (1 : Int32)))] [2, 1, 0] rfl ?_
  exact hR4 _ h
set_option maxHeartbeats 4000000 in
set_option maxRecDepth 100000 in
theorem tX3_papersInForce_4 {C : ew_C} {X : ew_X} {b1 : Nat} {E : ew_M → ew_S} (hE1 : ew_GE X b1 (ew_GT X.2.1 b1) E) (Z : ew_Z C X cX3_papersInForce 3 RX3 wsX3_papersInForce ({ frames := 3, cells := 0, slots := 0, locals := 65 } : Room) (some .int)) {Q : Int32 → Prop} {R4 : Int32 × Int32 → Prop} {v1 : Int32} {v2 : Int32} {s1 : ew_M} (hR : C.2.2.2.2.2.2.2.2.2.2 = MQ C.2.2.2.2.2.2.2.1 (va_Qi (fun (r : Int32) (_ : Unit) => Q r) (fun (u : Unit) => ew_wd X ((fun (_ : Unit) => E s1) u)) X.2.2.1) C.2.2.2.2.2.2.1 C.2.2.2.2.1 0 0 X.2.2.1) (hR4 : ∀ x : Int32 × Int32, R4 x → ew_W C X 3 (E s1) 4 [(0, .ref (X.2.1 b1)), (1, .int x.1), (2, .int x.2)] []) (h : wX3_papersInForce_4 R4 Q v1 v2 s1) : ew_W C X 3 (E s1) 4 [(0, .ref (X.2.1 b1)), (1, .int v1), (2, .int v2)] [] := by
  refine ez_iload_n (pc := 4) Z dX3_papersInForce_4 2 rfl rfl ?_
  refine ez_aload_n (pc := 5) Z dX3_papersInForce_5 0 rfl rfl ?_
  refine fX3_papers (pc := 6) (v := s1.1 1) Z hE1 rfl inX3_papersInForce (List.mem_of_getElem? (i := 1) rfl) dX3_papersInForce_6 ?_
  refine ez_icmp_ge (pc := 9) (tgt := 34) Z dX3_papersInForce_9 rfl (fun c1 => ?_) (fun c1 => ?_)
  · replace h := h.1 c1
    refine ez_iload_n (pc := 34) Z dX3_papersInForce_34 1 rfl rfl ?_
    exact ez_iret (pc := 35) Z hR () h rfl dX3_papersInForce_35
  · replace h := h.2 c1
    refine ez_iload_n (pc := 12) Z dX3_papersInForce_12 1 rfl rfl ?_
    refine ez_aload_n (pc := 13) Z dX3_papersInForce_13 0 rfl rfl ?_
    refine ez_iload_n (pc := 14) Z dX3_papersInForce_14 2 rfl rfl ?_
    refine ez_callVi (pc := 15) (r := b1) (As := [.int v2]) (st := [.int v1]) Z (kX3_isInForce Z.2.2.2.2.2.2.2.2.2.1 (E := E) hE1 h) gX3_papersInForce_X3_isInForce rfl rfl rfl hdX3_isInForce rfl rfl (ew_rT hE1) (ew_oT hE1 _) rfl rfl rfl rfl dX3_papersInForce_15 (fun r2 u3 h => ?_)
    refine ez_if_eq (pc := 18) (tgt := 25) Z dX3_papersInForce_18 rfl (fun c4 => ?_) (fun c4 => ?_)
    · replace h := h.1 c4
      refine ez_iconst (pc := 25) Z dX3_papersInForce_25 ec_0 ?_
      refine ez_sub [(0, .ref (X.2.1 b1)), (2, .int v2)] [0, 2] rfl ?_
      exact tX3_papersInForce_26 hE1 Z hR hR4 h
    · replace h := h.2 c4
      refine ez_iconst (pc := 21) Z dX3_papersInForce_21 ec_1 ?_
      refine ez_goto (pc := 22) (tgt := 26) Z dX3_papersInForce_22 rfl ?_
      refine ez_sub [(0, .ref (X.2.1 b1)), (2, .int v2)] [0, 2] rfl ?_
      exact tX3_papersInForce_26 hE1 Z hR hR4 h
set_option maxHeartbeats 4000000 in
set_option maxRecDepth 100000 in
theorem kX3_papersInForce {X : ew_X} {l : Launch} (hX : ew_Ap X) {b1 : Nat} {E : ew_M → ew_S} (hE1 : ew_GE X b1 (ew_GT X.2.1 b1) E) {Q : Int32 → Prop} {s1 : ew_M} (h : wX3_papersInForce Q s1) : Met l yX3_papersInForce wsX3_papersInForce ({ frames := 3, cells := 0, slots := 0, locals := 65 } : Room) (va_Pc [.ref (X.2.1 b1)] (ew_wd X (E s1))) (va_Qi (fun (r : Int32) (_ : Unit) => Q r) (fun (u : Unit) => ew_wd X ((fun (_ : Unit) => E s1) u)) X.2.2.1) 0 0 X.2.2.1 := by
  refine ew_met (As := [.ref (X.2.1 b1)]) (L0 := [(0, .ref (X.2.1 b1))]) X l hX (by decide) rfl rfl rfl rfl (fun C hl Z hR => ?_)
  subst hl
  refine ez_iconst (pc := 0) Z dX3_papersInForce_0 ec_0 ?_
  refine ez_istore_n (pc := 1) (L' := [(1, .int (0 : Int32)), (0, .ref (X.2.1 b1))]) Z dX3_papersInForce_1 rfl (by decide) rfl ?_
  refine ez_iconst (pc := 2) Z dX3_papersInForce_2 ec_0 ?_
  refine ez_istore_n (pc := 3) (L' := [(2, .int (0 : Int32)), (1, .int (0 : Int32)), (0, .ref (X.2.1 b1))]) Z dX3_papersInForce_3 rfl (by decide) rfl ?_
  refine ez_sub [(0, .ref (X.2.1 b1)), (1, .int (0 : Int32)), (2, .int (0 : Int32))] [2, 1, 0] rfl ?_
  exact ew_ind (P := fun (x : Int32 × Int32) => ew_W C X 3 (E s1) 4 [(0, .ref (X.2.1 b1)), (1, .int x.1), (2, .int x.2)] []) (fun R hR9 x h => tX3_papersInForce_4 hE1 Z hR  hR9 h) h
theorem inX3_clerkNow : ∀ w ∈ wsX30, w ∈ wsX3_clerkNow := fun _ h => List.mem_cons_of_mem _ (List.mem_append_right _ (h))
theorem hdX3_clerkNow : yX3_clerkNow.cls = RX3 ∧ yX3_clerkNow.cls ≠ "java/lang/invoke/MethodHandle" ∧ yX3_clerkNow.cls ≠ "java/lang/invoke/VarHandle" ∧ (parseMethodDescriptor yX3_clerkNow.desc).map (fun d => d.parameters.length) = some 0 := by decide +kernel
def wX3_clerkNow (Q : Int32 → Prop) (s1 : ew_M) : Prop := Q (s1.1 3) 
set_option maxHeartbeats 4000000 in
set_option maxRecDepth 100000 in
theorem kX3_clerkNow {X : ew_X} {l : Launch} (hX : ew_Ap X) {b1 : Nat} {E : ew_M → ew_S} (hE1 : ew_GE X b1 (ew_GT X.2.1 b1) E) {Q : Int32 → Prop} {s1 : ew_M} (h : wX3_clerkNow Q s1) : Met l yX3_clerkNow wsX3_clerkNow ({ frames := 0, cells := 0, slots := 0, locals := 0 } : Room) (va_Pc [.ref (X.2.1 b1)] (ew_wd X (E s1))) (va_Qi (fun (r : Int32) (_ : Unit) => Q r) (fun (u : Unit) => ew_wd X ((fun (_ : Unit) => E s1) u)) X.2.2.1) 0 0 X.2.2.1 := by
  refine ew_met (As := [.ref (X.2.1 b1)]) (L0 := [(0, .ref (X.2.1 b1))]) X l hX (by decide) rfl rfl rfl rfl (fun C hl Z hR => ?_)
  subst hl
  refine ez_aload_n (pc := 0) Z dX3_clerkNow_0 0 rfl rfl ?_
  refine fX3_clerk (pc := 1) (v := s1.1 3) Z hE1 rfl inX3_clerkNow (List.mem_of_getElem? (i := 1) rfl) dX3_clerkNow_1 ?_
  exact ez_iret (pc := 4) Z hR () h rfl dX3_clerkNow_4
