/-! town: a statement, the reference's side, whole -/
section ST
variable (T : Nat → Nat) (n a : Nat)
noncomputable def wpA : Nat → Int32 := fun j => if j = 0 then nI (bse T (a + 1) (nJ T n (a + 1) 6)) else if j = 1 then (if ris T (a + 1) (nJ T n (a + 1) 6) = true then nI (lst T (a + 1) (nJ T n (a + 1) 6)) - 1 else 99) else if j = 2 then nvl T n (aq2 T n a).2 3 else if j = 3 then nvl T n (aq4 T n a).2 3 else if j = 4 then nvl T n (aq6 T n a).2 1 else if j = 5 then nvl T n (aq7 T n a).2 1 else nvl T n (aq8 T n a).2 1
noncomputable def stW : Nat → Int32 := if T a = 97 then wpA T n a else if T a = 99 then vaC T n a else if T a = 108 then vaL T n a else vaP T n a
def stM : Nat := if T a = 97 then 7 else if T a = 99 then 1 else if T a = 108 then 1 else 3
def stK : Nat := if T a = 97 then 1 else if T a = 99 then 3 else if T a = 108 then 2 else 0
end ST
section ML
variable {T : Nat → Nat} {n a : Nat} {tl : Int32} {m m0 m1 : ew_M}
theorem stW_a (h : T a = 97) : stW T n a = wpA T n a ∧ stM T a = 7 ∧ stK T a = 1 := by unfold stW stM stK; rw [if_pos h, if_pos h, if_pos h]; exact ⟨rfl, rfl, rfl⟩
theorem stW_c (h : T a = 99) : stW T n a = vaC T n a ∧ stM T a = 1 ∧ stK T a = 3 := by unfold stW stM stK; rw [if_neg (by omega), if_pos h, if_neg (by omega), if_pos h, if_neg (by omega), if_pos h]; exact ⟨rfl, rfl, rfl⟩
theorem stW_l (h : T a = 108) : stW T n a = vaL T n a ∧ stM T a = 1 ∧ stK T a = 2 := by unfold stW stM stK; rw [if_neg (by omega), if_neg (by omega), if_pos h, if_neg (by omega), if_neg (by omega), if_pos h, if_neg (by omega), if_neg (by omega), if_pos h]; exact ⟨rfl, rfl, rfl⟩
theorem stW_p (h : T a = 112) : stW T n a = vaP T n a ∧ stM T a = 3 ∧ stK T a = 0 := by unfold stW stM stK; rw [if_neg (by omega), if_neg (by omega), if_neg (by omega), if_neg (by omega), if_neg (by omega), if_neg (by omega), if_neg (by omega), if_neg (by omega), if_neg (by omega)]; exact ⟨rfl, rfl, rfl⟩
theorem m_fail {F q : Bool × Nat} {Q : Int32 → ew_M → Prop} (h0 : F.1 = false → ∀ m', MtS m0 n F.2 tl m' → Q 0 m') (e : F = q) (hf : bI q.1 = 0) (g : MtS m0 n q.2 tl m) : wX5_statementTold_144 Q 0 m := by
  subst e
  exact ⟨fun _ => h0 ((bI_0 _).mp hf) m g, fun z => absurd rfl z⟩
theorem m_end (hM : MtT T n m0) {q : Bool × Nat} (hs : MtS m0 n q.2 tl m) (hq : q.1 = true) {Q : Int32 → ew_M → Prop} (h0 : (li T n 59 q).1 = false → ∀ m', MtS m0 n (li T n 59 q).2 tl m' → Q 0 m') (h1 : (li T n 59 q).1 = true → ∀ m', MtS m0 n (li T n 59 q).2 (tl + 1) m' → m'.2.1 = m.2.1 → Q 1 m') {t0 : Int32} (ht : ¬ t0 = 0) : wX5_statementTold_144 Q t0 m := by
  refine ⟨fun z => absurd z ht, fun _ => m_li (c := 59) hM (by decide) hs hq fun m' g1 g2 => ⟨fun z => ?_, fun z => h0 ((bI_0 _).mp z) m' g1⟩⟩
  obtain ⟨k1, k2, k3, k4, k5, k6⟩ := g1
  refine h1 (bI_ne z) _ ⟨k1, fun i i1 i2 => by rw [sI_i i1]; exact k2 i i1 i2, k3, k4, by rw [sI_i (by decide)]; exact k5, by rw [sI_s, k6]⟩ g2
theorem pl_1 (a : Nat) : nI a + (1 : Int32) = nI (a + 1) := by rw [show (1 : Int32) = nI 1 from rfl, nI_add]
theorem pl_2 (a : Nat) : nI a + (2 : Int32) = nI (a + 2) := by rw [show (2 : Int32) = nI 2 from rfl, nI_add]
theorem pl_3 (a : Nat) : nI a + (3 : Int32) = nI (a + 3) := by rw [show (3 : Int32) = nI 3 from rfl, nI_add]
theorem pl_4 (a : Nat) : nI a + (4 : Int32) = nI (a + 4) := by rw [show (4 : Int32) = nI 4 from rfl, nI_add]
theorem pl_5 (a : Nat) : nI a + (5 : Int32) = nI (a + 5) := by rw [show (5 : Int32) = nI 5 from rfl, nI_add]
theorem pl_6 (a : Nat) : nI a + (6 : Int32) = nI (a + 6) := by rw [show (6 : Int32) = nI 6 from rfl, nI_add]
theorem le_pred {d l : Nat} (hd : d < 1000) (hl : l < 1000) : (nI d ≤ nI l - 1) ↔ d < l := by
  rw [Int32.le_iff_toInt_le, show (1 : Int32) = nI 1 from rfl, pk_sub_toInt (by omega) (by omega), nI_toInt (by omega)]
  omega
theorem m_pap9 (hM : MtT T n m0) {to0 : Nat} (hk : to0 + 7 ≤ 288) {m : ew_M} (g0 : MtS m0 n (aq1 T n a).2 tl m) (hq0 : (aq1 T n a).1 = true) (n0 : MtN m1 (wpA T n a) to0 2 m) {Q : Int32 → ew_M → Prop} (h0 : (stA T n a).1 = false → ∀ m', MtS m0 n (stA T n a).2 tl m' → Q 0 m') (h1 : (stA T n a).1 = true → ∀ m', MtS m0 n (stA T n a).2 (tl + 1) m' → MtN m1 (wpA T n a) to0 7 m' → Q 1 m') : wX5_goesBy (fun (r2 : Int32) (m3 : ew_M) => (r2 = 0 → wX5_statementTold_144 Q (0 : Int32) m3) ∧ (¬ r2 = 0 → wX5_numberTo (fun (r5 : Int32) (m6 : ew_M) => (r5 = 0 → wX5_statementTold_144 Q (0 : Int32) m6) ∧ (¬ r5 = 0 → wX5_goesBy (fun (r8 : Int32) (m9 : ew_M) => (r8 = 0 → wX5_statementTold_144 Q (0 : Int32) m9) ∧ (¬ r8 = 0 → wX5_numberTo (fun (r11 : Int32) (m12 : ew_M) => (r11 = 0 → wX5_statementTold_144 Q (0 : Int32) m12) ∧ (¬ r11 = 0 → wX5_goesBy (fun (r14 : Int32) (m15 : ew_M) => (r14 = 0 → wX5_statementTold_144 Q (0 : Int32) m15) ∧ (¬ r14 = 0 → wX5_numberTo (fun (r17 : Int32) (m18 : ew_M) => (r17 = 0 → wX5_statementTold_144 Q (0 : Int32) m18) ∧ (¬ r17 = 0 → wX5_numberTo (fun (r20 : Int32) (m21 : ew_M) => (r20 = 0 → wX5_statementTold_144 Q (0 : Int32) m21) ∧ (¬ r20 = 0 → wX5_numberTo (fun (r23 : Int32) (m24 : ew_M) => (r23 = 0 → wX5_statementTold_144 Q (0 : Int32) m24) ∧ (¬ r23 = 0 → wX5_statementTold_144 Q (1 : Int32) m24)) (nI to0 + (6 : Int32)) (1 : Int32) m21)) (nI to0 + (5 : Int32)) (1 : Int32) m18)) (nI to0 + (4 : Int32)) (1 : Int32) m15)) (58 : Int32) m12)) (nI to0 + (3 : Int32)) (3 : Int32) m9)) (44 : Int32) m6)) (nI to0 + (2 : Int32)) (3 : Int32) m3)) (44 : Int32) m := by
  refine m_li (c := 44) (q := (aq1 T n a)) hM (by decide) g0 hq0 fun m1 g1 w1 => ⟨fun z1 => m_fail (q := aq2 T n a) h0 (fA2 ((bI_0 _).mp z1)) z1 g1, fun z1 => ?_⟩
  show wX5_numberTo _ (nI to0 + (2 : Int32)) (3 : Int32) _
  rw [pl_2 to0]
  refine m_nm (k := to0 + 2) (most := 3) (q := (aq2 T n a)) hM (by omega) (by decide) g1 (bI_ne z1) fun m2 v2 g2 w2 x2 => ⟨fun z2 => m_fail (q := aq3 T n a) h0 (fA3 ((bI_0 _).mp z2)) z2 g2, fun z2 => ?_⟩
  refine m_li (c := 44) (q := (aq3 T n a)) hM (by decide) g2 (bI_ne z2) fun m3 g3 w3 => ⟨fun z3 => m_fail (q := aq4 T n a) h0 (fA4 ((bI_0 _).mp z3)) z3 g3, fun z3 => ?_⟩
  show wX5_numberTo _ (nI to0 + (3 : Int32)) (3 : Int32) _
  rw [pl_3 to0]
  refine m_nm (k := to0 + 3) (most := 3) (q := (aq4 T n a)) hM (by omega) (by decide) g3 (bI_ne z3) fun m4 v4 g4 w4 x4 => ⟨fun z4 => m_fail (q := aq5 T n a) h0 (fA5 ((bI_0 _).mp z4)) z4 g4, fun z4 => ?_⟩
  refine m_li (c := 58) (q := (aq5 T n a)) hM (by decide) g4 (bI_ne z4) fun m5 g5 w5 => ⟨fun z5 => m_fail (q := aq6 T n a) h0 (fA6 ((bI_0 _).mp z5)) z5 g5, fun z5 => ?_⟩
  show wX5_numberTo _ (nI to0 + (4 : Int32)) (1 : Int32) _
  rw [pl_4 to0]
  refine m_nm (k := to0 + 4) (most := 1) (q := (aq6 T n a)) hM (by omega) (by decide) g5 (bI_ne z5) fun m6 v6 g6 w6 x6 => ⟨fun z6 => m_fail (q := aq7 T n a) h0 (fA7 ((bI_0 _).mp z6)) z6 g6, fun z6 => ?_⟩
  show wX5_numberTo _ (nI to0 + (5 : Int32)) (1 : Int32) _
  rw [pl_5 to0]
  refine m_nm (k := to0 + 5) (most := 1) (q := (aq7 T n a)) hM (by omega) (by decide) g6 (bI_ne z6) fun m7 v7 g7 w7 x7 => ⟨fun z7 => m_fail (q := aq8 T n a) h0 (fA8 ((bI_0 _).mp z7)) z7 g7, fun z7 => ?_⟩
  show wX5_numberTo _ (nI to0 + (6 : Int32)) (1 : Int32) _
  rw [pl_6 to0]
  refine m_nm (k := to0 + 6) (most := 1) (q := (aq8 T n a)) hM (by omega) (by decide) g7 (bI_ne z7) fun m8 v8 g8 w8 x8 => ⟨fun z8 => m_fail (q := aq9 T n a) h0 (fA9 ((bI_0 _).mp z8)) z8 g8, fun z8 => ?_⟩
  exact m_end hM g8 (bI_ne z8) h0 (fun y m' k1 k2 => h1 y m' k1 (MtN.sm (MtN.nu (MtN.nu (MtN.nu (MtN.sm (MtN.nu (MtN.sm (MtN.nu (MtN.sm n0 w1) w2 (x2 (bI_ne z2))) w3) w4 (x4 (bI_ne z4))) w5) w6 (x6 (bI_ne z6))) w7 (x7 (bI_ne z7))) w8 (x8 (bI_ne z8))) k2)) z10
theorem m_paper (hM : MtT T n m0) {to0 : Nat} (hk : to0 + 7 ≤ 288) (hs : MtS m0 n (a + 1) tl m) (hN : MtN m1 (wpA T n a) to0 0 m) {Q : Int32 → ew_M → Prop} (h0 : (stA T n a).1 = false → ∀ m', MtS m0 n (stA T n a).2 tl m' → Q 0 m') (h1 : (stA T n a).1 = true → ∀ m', MtS m0 n (stA T n a).2 (tl + 1) m' → MtN m1 (wpA T n a) to0 7 m' → Q 1 m') : wX5_paperTold (fun r5 m6 => wX5_statementTold_144 Q r5 m6) (nI to0) m := by
  obtain ⟨j1, j2, j3⟩ := nJ_p T n (a + 1) 6
  have hn := hM.1
  have eW0 : wpA T n a 0 = nI (bse T (a + 1) (nJ T n (a + 1) 6)) := rfl
  have eW1 : wpA T n a 1 = (if ris T (a + 1) (nJ T n (a + 1) 6) = true then nI (lst T (a + 1) (nJ T n (a + 1) 6)) - 1 else 99) := rfl
  have eq1 : aq1 T n a = if nJ T n (a + 1) 6 = 0 then (false, a + 1) else (true, a + 1 + nJ T n (a + 1) 6) := by
    unfold aq1 nm
    rw [if_pos rfl]
  generalize nJ T n (a + 1) 6 = J at j1 j2 j3 eW0 eW1 eq1
  have fin1 : ∀ (m' : ew_M) (v : Int32), v = wpA T n a 1 → MtS m0 n (a + 1 + J) tl m' → m'.2.1 = m.2.1 → wX5_paperTold_109 (fun r5 m6 => wX5_statementTold_144 Q r5 m6) (nI to0) (nI J) v (nI to0 + 1) (ew_sA m' 17 to0 (nI (bse T (a + 1) J))) := fun m' v ev g1 g2 => by
    unfold wX5_paperTold_109
    rw [pl_1 to0, cN (by omega)]
    have N2 : MtN m1 (wpA T n a) to0 2 (ew_sA (ew_sA m' 17 to0 (nI (bse T (a + 1) J))) 17 (to0 + 1) v) := MtN.nu (MtN.nu (i := 0) (hN.sm g2) rfl eW0.symm) rfl ev
    refine ⟨vp_in_nI (by omega) (by decide), fun z => ?_, fun z => ?_⟩
    · have z : J = 0 := by have := (nI_leI (a := J) (b := 0) (by omega) (by decide)).mp z; omega
      rw [if_pos z] at eq1
      refine m_fail (q := aq1 T n a) h0 (fA1 (by rw [eq1])) (by rw [eq1]; rfl) ?_
      rw [eq1]
      have g := (g1.nu to0 (nI (bse T (a + 1) J))).nu (to0 + 1) v
      rw [z, Nat.add_zero] at g
      rw [z]
      exact g
    · have z : ¬ J = 0 := fun e => z (by rw [e]; exact nI_le (a := 0) (b := 0) (by decide) (by decide))
      rw [if_neg z] at eq1
      refine m_pap9 hM hk ?_ (by rw [eq1]) N2 h0 h1
      rw [eq1]
      exact (g1.nu _ _).nu _ _
  have fin : ∀ m', MtS m0 n (a + 1 + J) tl m' → m'.2.1 = m.2.1 → wX5_paperTold_84 (fun r5 m6 => wX5_statementTold_144 Q r5 m6) (nI to0) (nI (bse T (a + 1) J)) (nI (lst T (a + 1) J) - 1) (nI J) (bI (ris T (a + 1) J)) m' := fun m' g1 g2 => by
    unfold wX5_paperTold_84
    rw [cN (by omega)]
    refine ⟨vp_in_nI (by omega) (by decide), fun z => fin1 m' _ ?_ g1 g2, fun z => fin1 m' _ ?_ g1 g2⟩
    · rw [bI_0] at z
      rw [eW1, if_neg (by rw [z]; decide)]
    · rw [eW1, if_pos (bI_ne z)]
  refine ew_forI J (fun k y => ∃ m', y = (nI (bse T (a + 1) k), nI (lst T (a + 1) k) - 1, nI k, bI (ris T (a + 1) k), m') ∧ MtS m0 n (a + 1 + k) tl m' ∧ m'.2.1 = m.2.1) (fun k R y hk hI hR => ?_) (fun R y hI => ?_) ⟨m, rfl, hs, rfl⟩
  · obtain ⟨m', rfl, g1, g2⟩ := hI
    have d := j2 k hk
    have d2 := dg_t.mp d
    obtain ⟨bb, bl⟩ := bse_b k (fun j hj => j2 j (by omega))
    refine ⟨fun z => absurd z (nI_ge (a := k) (b := 6) (by omega) (by decide)), fun _ => m_sign hM g1 (m_dg hM ?_)⟩
    rw [d]
    refine ⟨fun z => absurd z z10, fun _ => m_sign hM g1 ?_⟩
    have ed : sgn T n (a + 1 + k) - (48 : Int32) = nI (T (a + 1 + k) - 48) := by rw [sgn_y d, show (48 : Int32) = nI 48 from rfl, pk_sub (by omega)]
    have hR : ∀ t0 : Int32, t0 = bI (ris T (a + 1) (k + 1)) → R (nI (bse T (a + 1) k) ||| (1 : Int32) <<< (nI (T (a + 1 + k) - 48) &&& 31), nI (T (a + 1 + k) - 48), nI k + 1, t0, ew_sI m' 28 (m'.1 28 + 1)) := fun t0 e => by
      subst e
      rw [sh_d _ (by omega), or_d _ (by omega) _ bb, g1.2.2.2.2.1, nI_s, nI_s]
      refine hR _ ⟨_, ?_, g1.go (by omega), g2⟩
      show _ = (nI (bse T (a + 1) k ||| 2 ^ (T (a + 1 + k) - 48)), nI ((T (a + 1 + k) - 48) + 1) - 1, nI (k + 1), bI (ris T (a + 1) (k + 1)), _)
      rw [← nI_s (T (a + 1 + k) - 48), Int32.add_sub_cancel]
      rfl
    show (bI (ris T (a + 1) k) = 0 → R (nI (bse T (a + 1) k) ||| (1 : Int32) <<< ((sgn T n (a + 1 + k) - (48 : Int32)) &&& 31), sgn T n (a + 1 + k) - (48 : Int32), nI k + 1, 0, ew_sI m' 28 (m'.1 28 + 1))) ∧ (¬ bI (ris T (a + 1) k) = 0 → (sgn T n (a + 1 + k) - (48 : Int32) ≤ nI (lst T (a + 1) k) - 1 → R (nI (bse T (a + 1) k) ||| (1 : Int32) <<< ((sgn T n (a + 1 + k) - (48 : Int32)) &&& 31), sgn T n (a + 1 + k) - (48 : Int32), nI k + 1, 0, ew_sI m' 28 (m'.1 28 + 1))) ∧ (¬ sgn T n (a + 1 + k) - (48 : Int32) ≤ nI (lst T (a + 1) k) - 1 → R (nI (bse T (a + 1) k) ||| (1 : Int32) <<< ((sgn T n (a + 1 + k) - (48 : Int32)) &&& 31), sgn T n (a + 1 + k) - (48 : Int32), nI k + 1, 1, ew_sI m' 28 (m'.1 28 + 1))))
    rw [ed]
    refine ⟨fun z => hR 0 ?_, fun z => ⟨fun y => hR 0 ?_, fun y => hR 1 ?_⟩⟩
    · rw [bI_0] at z
      show _ = bI (ris T (a + 1) k && decide (lst T (a + 1) k ≤ T (a + 1 + k) - 48))
      rw [z]; rfl
    · rw [le_pred (by omega) (by omega)] at y
      show _ = bI (ris T (a + 1) k && decide (lst T (a + 1) k ≤ T (a + 1 + k) - 48))
      rw [decide_eq_false (by omega), Bool.and_false]; rfl
    · rw [le_pred (by omega) (by omega)] at y
      show _ = bI (ris T (a + 1) k && decide (lst T (a + 1) k ≤ T (a + 1 + k) - 48))
      rw [decide_eq_true (by omega), bI_ne z]; rfl
  · obtain ⟨m', rfl, g1, g2⟩ := hI
    refine ⟨fun _ => fin m' g1 g2, fun z => m_sign hM g1 (m_dg hM ?_)⟩
    have z : J < 6 := Nat.lt_of_not_le fun y => z (nI_le (a := 6) (b := J) y (by omega))
    rw [b_nt (j3 z)]
    exact ⟨fun _ => fin m' g1 g2, fun y => absurd rfl y⟩
theorem m_person (hM : MtT T n m0) {to0 : Nat} (hk : to0 + 7 ≤ 288) (hs : MtS m0 n (a + 1) tl m) (hN : MtN m1 (vaP T n a) to0 0 m) {Q : Int32 → ew_M → Prop} (h0 : (stP T n a).1 = false → ∀ m', MtS m0 n (stP T n a).2 tl m' → Q 0 m') (h1 : (stP T n a).1 = true → ∀ m', MtS m0 n (stP T n a).2 (tl + 1) m' → MtN m1 (vaP T n a) to0 3 m' → Q 1 m') : wX5_personTold (fun r5 m6 => wX5_statementTold_144 Q r5 m6) (nI to0) m := by
  have hn := hM.1
  refine m_sign hM hs (m_kndS hM (fun y1 y2 => ?_) (fun y => ?_))
  · have e : pq1 T n a = (true, a + 1 + 1) := by
      unfold pq1 ki
      rw [if_pos rfl, if_pos ⟨y1, y2⟩]
    refine ⟨fun _ => ⟨vp_in_nI (by omega) (by decide), ?_⟩, fun z => absurd (nI_le (a := 0) (b := kN (T (a + 1))) (by omega) (by omega)) z⟩
    rw [hs.2.2.2.2.1, nI_s (a + 1), cN (by omega)]
    have g : MtS m0 n (pq1 T n a).2 tl (ew_sA (ew_sI m 28 (nI (a + 1 + 1))) 17 to0 (nI (kN (T (a + 1))))) := by
      rw [e]
      exact (hs.go (by omega)).nu _ _
    have N1 : MtN m1 (vaP T n a) to0 1 (ew_sA (ew_sI m 28 (nI (a + 1 + 1))) 17 to0 (nI (kN (T (a + 1))))) := MtN.nu (i := 0) (m := ew_sI m 28 (nI (a + 1 + 1))) (hN.sm rfl) rfl rfl
    generalize ew_sA (ew_sI m 28 (nI (a + 1 + 1))) 17 to0 (nI (kN (T (a + 1)))) = mm at g N1 ⊢
    have q1 : (pq1 T n a).1 = true := by rw [e]
    show wX5_numberTo _ (nI to0 + (1 : Int32)) (1 : Int32) _
    rw [pl_1 to0]
    refine m_nm (k := to0 + 1) (most := 1) (q := (pq1 T n a)) hM (by omega) (by decide) g q1 fun m1 v1 g1 w1 x1 => ⟨fun z1 => m_fail (q := pq2 T n a) h0 (fP2 ((bI_0 _).mp z1)) z1 g1, fun z1 => ?_⟩
    show wX5_numberTo _ (nI to0 + (2 : Int32)) (2 : Int32) _
    rw [pl_2 to0]
    refine m_nm (k := to0 + 2) (most := 2) (q := (pq2 T n a)) hM (by omega) (by decide) g1 (bI_ne z1) fun m2 v2 g2 w2 x2 => ⟨fun z2 => m_fail (q := pq3 T n a) h0 (fP3 ((bI_0 _).mp z2)) z2 g2, fun z2 => ?_⟩
    exact m_end hM g2 (bI_ne z2) h0 (fun y m' k1 k2 => h1 y m' k1 (MtN.sm (MtN.nu (MtN.nu N1 w1 (x1 (bI_ne z1))) w2 (x2 (bI_ne z2))) k2)) z10
  · have e : pq1 T n a = (false, a + 1) := by
      unfold pq1 ki
      rw [if_pos rfl, if_neg y]
    refine ⟨fun z => absurd z (by decide), fun _ => m_fail (q := pq1 T n a) h0 (fP1 (by rw [e])) (by rw [e]; rfl) ?_⟩
    rw [e]
    exact hs
end ML
