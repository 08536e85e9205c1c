/-! town: a statement is taken -/
noncomputable def nvn (T : Nat → Nat) (n a most : Nat) : Nat := nv T a (nJ T n a most)
theorem nvn_b (T : Nat → Nat) (n a most : Nat) : nvn T n a most < 10 ^ most := by
  obtain ⟨j1, j2, j3⟩ := nJ_p T n a most
  exact Nat.lt_of_lt_of_le (nv_b _ j2) (Nat.pow_le_pow_right (by decide) j1)
section TKK
variable (T : Nat → Nat) (n a : Nat)
noncomputable def bA : Nat := if ris T (a + 1) (nJ T n (a + 1) 6) = true then bse T (a + 1) (nJ T n (a + 1) 6) else 0
noncomputable def c0A : Nat := nvn T n (aq2 T n a).2 3
noncomputable def c1A : Nat := nvn T n (aq4 T n a).2 3
noncomputable def dA : Nat → Nat := fun k => if k = 0 then nvn T n (aq6 T n a).2 1 else if k = 1 then nvn T n (aq7 T n a).2 1 else nvn T n (aq8 T n a).2 1
def gd (t : ew_M) : Prop := if T a = 97 then (An t < 5 ∧ bA T n a ≠ 0 ∧ bA T n a < 2 ^ Pn t ∧ c0A T n a + c1A T n a ≤ 100) else if T a = 99 then nvn T n (a + 1) 3 ≤ 100 else if T a = 108 then nvn T n (a + 1) 1 ≤ 4 else Pn t < 6
def TK (t t' : ew_M) : Prop := if T a = 97 then TA t (bA T n a) (c0A T n a) (c1A T n a) (dA T n a) t' else if T a = 99 then t' = ew_sI t 3 (nI (nvn T n (a + 1) 3)) else if T a = 108 then t' = ew_sI t 2 (nI (nvn T n (a + 1) 1)) else t' = tP t (kN (T (a + 1))) (nvn T n (pq1 T n a).2 1) (nvn T n (pq2 T n a).2 2)
end TKK
section TKK
variable {T : Nat → Nat} {n a : Nat} {t t' : ew_M}
theorem bA_b : bA T n a < 1024 := by
  unfold bA
  split
  · exact (bse_b _ (nJ_p T n (a + 1) 6).2.1).1
  · decide
theorem c0A_b : c0A T n a < 1000 := nvn_b T n _ 3
theorem c1A_b : c1A T n a < 1000 := nvn_b T n _ 3
theorem dA_b (k : Nat) : dA T n a k < 10 := by
  unfold dA
  split
  · exact nvn_b T n _ 1
  · split
    · exact nvn_b T n _ 1
    · exact nvn_b T n _ 1
theorem gd_a (h : T a = 97) : gd T n a t ↔ (An t < 5 ∧ bA T n a ≠ 0 ∧ bA T n a < 2 ^ Pn t ∧ c0A T n a + c1A T n a ≤ 100) := by unfold gd; rw [if_pos h]
theorem gd_c (h : T a = 99) : gd T n a t ↔ nvn T n (a + 1) 3 ≤ 100 := by unfold gd; rw [if_neg (by omega), if_pos h]
theorem gd_l (h : T a = 108) : gd T n a t ↔ nvn T n (a + 1) 1 ≤ 4 := by unfold gd; rw [if_neg (by omega), if_neg (by omega), if_pos h]
theorem gd_p (h : T a = 112) : gd T n a t ↔ Pn t < 6 := by unfold gd; rw [if_neg (by omega), if_neg (by omega), if_neg (by omega)]
theorem TK_a (h : T a = 97) : TK T n a t t' ↔ TA t (bA T n a) (c0A T n a) (c1A T n a) (dA T n a) t' := by unfold TK; rw [if_pos h]
theorem TK_c (h : T a = 99) : TK T n a t t' ↔ t' = ew_sI t 3 (nI (nvn T n (a + 1) 3)) := by unfold TK; rw [if_neg (by omega), if_pos h]
theorem TK_l (h : T a = 108) : TK T n a t t' ↔ t' = ew_sI t 2 (nI (nvn T n (a + 1) 1)) := by unfold TK; rw [if_neg (by omega), if_neg (by omega), if_pos h]
theorem TK_p (h : T a = 112) : TK T n a t t' ↔ t' = tP t (kN (T (a + 1))) (nvn T n (pq1 T n a).2 1) (nvn T n (pq2 T n a).2 2) := by unfold TK; rw [if_neg (by omega), if_neg (by omega), if_neg (by omega)]
theorem st_sort (h : (stF T n a).1 = true) : a < n ∧ (T a = 97 ∨ T a = 99 ∨ T a = 108 ∨ T a = 112) := by
  refine Classical.byContradiction fun z => ?_
  rw [stF_o z] at h
  exact absurd h Bool.false_ne_true
theorem st_kN (h : (stF T n a).1 = true) (e : T a = 112) : kN (T (a + 1)) < 7 := by
  rw [stF_p (st_sort h).1 e] at h
  exact (ki_p (q := (true, a + 1)) (nm_p (nm_p (li_p h).1).1).1).2.2.2
theorem st_J (h : (stF T n a).1 = true) (e : T a = 97) : 0 < nJ T n (a + 1) 6 := by
  rw [stF_a (st_sort h).1 e] at h
  exact (nm_p (q := (true, a + 1)) (li_p (nm_p (li_p (nm_p (li_p (nm_p (nm_p (nm_p (li_p h).1).1).1).1).1).1).1).1).1).2.2
theorem p_person {k v1 v2 : Nat} (hw : wf t) {Q : Int32 → ew_M → Prop} (hn : ¬ Pn t < 6 → Q 0 t) (hy : Pn t < 6 → Q 1 (tP t k v1 v2)) : wX3_takesPerson Q (nI k) (nI v1) (nI v2) t := by
  obtain ⟨eP, hP⟩ := hw.P
  unfold wX3_takesPerson
  rw [eP]
  refine ⟨fun z => ?_, fun z => hn (fun y => z ((nI_ltI (a := Pn t) (b := 6) (by omega) (by decide)).mpr y))⟩
  have z : Pn t < 6 := (nI_ltI (a := Pn t) (b := 6) (by omega) (by decide)).mp z
  rw [cN (by omega)]
  refine ⟨vp_in_nI z (by decide), vp_in_nI z (by decide), vp_in_nI z (by decide), vp_in_nI z (by decide), fun z2 e2 => ?_⟩
  have e : z2.1 0 = nI (Pn t) := by rw [e2]; exact eP
  rw [e, nI_s, e2]
  exact hy z
theorem c_takes {lt : ew_M} (hw : wf t) (hk : (stF T n a).1 = true) (hT : ∀ j, T j < 256) (hs : lt.1 2 = nI (T a)) (hV : NuV (stV T n a) (stN T a) lt) {Q : Int32 → ew_M → Prop} (hn : ¬ gd T n a t → Q 0 t) (hy : gd T n a t → ∀ t', TK T n a t t' → Q 1 t') : wX3_takes Q t lt := by
  have b0 : ∀ {P : ew_M → Prop} {s : ew_M}, Q 0 s → narrow .boolean (.int 0) = .int 0 ∧ Q 0 s := fun h => ⟨rfl, h⟩
  have hTa := hT a
  have eq : ∀ d : Nat, d < 256 → (nI (T a) = nI d ↔ T a = d) := fun d hd => nI_eq (by omega) (by omega)
  show (lt.1 2 = (97 : Int32) → _) ∧ (¬ lt.1 2 = (97 : Int32) → (lt.1 2 = (108 : Int32) → _) ∧ (¬ lt.1 2 = (108 : Int32) → (lt.1 2 = (112 : Int32) → _) ∧ (¬ lt.1 2 = (112 : Int32) → _)))
  rw [hs]
  refine ⟨fun y => ?_, fun y1 => ⟨fun y => ?_, fun y2 => ⟨fun y => ?_, fun y3 => ?_⟩⟩⟩
  · have e := (eq 97 (by decide)).mp y
    obtain ⟨v1, v2⟩ := stV_a (n := n) e
    rw [v1, v2] at hV
    refine p_paper (b := bA T n a) (c0 := c0A T n a) (c1 := c1A T n a) (d := dA T n a) hw bA_b c0A_b c1A_b (fun k _ => dA_b k) (hV 0 (by decide)) (hV 1 (by decide)) (hV 2 (by decide)) (fun k hk => ?_) (fun z => ⟨rfl, hn (fun w => z ((gd_a e).mp w))⟩) (fun z1 z2 z3 z4 t' h => ⟨rfl, hy ((gd_a e).mpr ⟨z1, z2, z3, z4⟩) t' ((TK_a e).mpr h)⟩)
    rw [hV (3 + k) (by omega)]
    rcases (show k = 0 ∨ k = 1 ∨ k = 2 by omega) with r | r | r <;> subst r <;> rfl
  · have e := (eq 108 (by decide)).mp y
    obtain ⟨v1, v2⟩ := stV_l (n := n) e
    rw [v1, v2] at hV
    refine p_num (i := 0) (by decide) ?_
    rw [hV 0 (by decide)]
    show wX4_isNoLaw _ (nI (nvn T n (a + 1) 1))
    have vb := nvn_b T n (a + 1) 1
    refine noLaw (fun k hk e2 => ⟨fun _ => ⟨rfl, hy ?_ _ ((TK_l e).mpr rfl)⟩, fun z => absurd rfl z⟩) (fun z => ⟨fun w => absurd w z10, fun _ => ⟨rfl, hn (fun w => ?_)⟩⟩)
    · have e2 := (nI_eq (by omega) (by omega)).mp e2
      exact (gd_l e).mpr (by omega)
    · have w := (gd_l e).mp w
      rcases z with z | z
      · exact absurd z (nI_pos (by omega))
      · exact absurd ((nI_ltI (a := 4) (b := nvn T n (a + 1) 1) (by decide) (by omega)).mp z) (by omega)
  · have e := (eq 112 (by decide)).mp y
    obtain ⟨v1, v2⟩ := stV_p (n := n) e
    rw [v1, v2] at hV
    refine p_num (i := 0) (by decide) (p_num (i := 1) (by decide) (p_num (i := 2) (by decide) ?_))
    rw [hV 0 (by decide), hV 1 (by decide), hV 2 (by decide)]
    exact p_person (k := kN (T (a + 1))) (v1 := nvn T n (pq1 T n a).2 1) (v2 := nvn T n (pq2 T n a).2 2) hw (fun z => ⟨rfl, hn (fun w => z ((gd_p e).mp w))⟩) (fun z => ⟨rfl, hy ((gd_p e).mpr z) _ ((TK_p e).mpr rfl)⟩)
  · have e : T a = 99 := by
      rcases (st_sort hk).2 with e | e | e | e
      · exact absurd ((eq 97 (by decide)).mpr e) y1
      · exact e
      · exact absurd ((eq 108 (by decide)).mpr e) y2
      · exact absurd ((eq 112 (by decide)).mpr e) y3
    obtain ⟨v1, v2⟩ := stV_c (n := n) e
    rw [v1, v2] at hV
    refine p_num (i := 0) (by decide) ?_
    rw [hV 0 (by decide)]
    have vb := nvn_b T n (a + 1) 3
    show wX3_takesClerk _ (nI (nvn T n (a + 1) 3)) t
    refine ⟨fun z => ⟨rfl, hy ((gd_c e).mpr ?_) _ ((TK_c e).mpr rfl)⟩, fun z => ⟨rfl, hn (fun w => z ?_)⟩⟩
    · exact (nI_leI (a := nvn T n (a + 1) 3) (b := 100) (by omega) (by decide)).mp z
    · exact (nI_leI (a := nvn T n (a + 1) 3) (b := 100) (by omega) (by decide)).mpr ((gd_c e).mp w)
theorem wf_TK (hw : wf t) (hk : (stF T n a).1 = true) (hg : gd T n a t) (h : TK T n a t t') : wf t' := by
  rcases (st_sort hk).2 with e | e | e | e
  · obtain ⟨g1, g2, g3, g4⟩ := (gd_a e).mp hg
    exact wf_TA hw g1 g2 g3 g4 (fun k _ => dA_b k) ((TK_a e).mp h)
  · rw [(TK_c e).mp h]
    have g := (gd_c e).mp hg
    obtain ⟨⟨w1, w2, w3, w4⟩, w5⟩ := hw
    refine ⟨⟨w1, w2, w3, ?_⟩, w5⟩
    rw [sI_s]
    exact isN_of (by omega) (by decide)
  · rw [(TK_l e).mp h]
    have g := (gd_l e).mp hg
    obtain ⟨⟨w1, w2, w3, w4⟩, w5⟩ := hw
    refine ⟨⟨w1, w2, ?_, w4⟩, w5⟩
    rw [sI_s]
    exact isN_of (by omega) (by decide)
  · rw [(TK_p e).mp h]
    exact wf_tP hw ((gd_p e).mp hg) (st_kN hk e) (nvn_b T n _ 1) (nvn_b T n _ 2)
end TKK
