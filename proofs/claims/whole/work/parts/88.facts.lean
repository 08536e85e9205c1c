/-! a paper's facts, counts, one's weights -/
section REL
variable {a b c lt ra xs m : ew_M}
theorem sub1 (n : Nat) : nI (n + 1) - 1 = nI n := by rw [← nI_s, Int32.add_sub_cancel]
theorem p_f90 {t : ew_M} {k j : Nat} (hk : k < 5) (hj : j < 3) {Q : Int32 → Prop} (h : Q (t.2.1 9 (k * 3 + j))) : wX3_paperFact_90 Q (nI k) (nI (j + 1)) t := by
  refine ⟨fun z => absurd ((nI_ltI (a := j + 1) (b := 1) (by omega) (by decide)).mp z) (by omega), fun _ => ⟨fun z => absurd ((nI_ltI (a := 3) (b := j + 1) (by decide) (by omega)).mp z) (by omega), fun _ => ?_⟩⟩
  show vp_in (nI k * (3 : Int32) + nI (j + 1) - (1 : Int32)) 15 ∧ Q (t.2.1 9 (nI k * (3 : Int32) + nI (j + 1) - (1 : Int32)).toNatClampNeg)
  rw [ix15, show k * 3 + (j + 1) = (k * 3 + j) + 1 from rfl, sub1, cN (by omega)]
  exact ⟨vp_in_nI (by omega) (by decide), h⟩
theorem m_f67 {n : ew_M} {k j : Nat} (hk : k < 5) (hj : j < 3) {Q : Int32 → ew_M → Prop} (h : Q (n.2.1 5 (k * 3 + j)) n) : wX5_paper_67 Q (nI k) (nI (j + 1)) n := by
  show vp_in ((3 : Int32) * nI k + nI (j + 1) - (1 : Int32)) 15 ∧ Q (n.2.1 5 ((3 : Int32) * nI k + nI (j + 1) - (1 : Int32)).toNatClampNeg) n
  rw [ix15m, show k * 3 + (j + 1) = (k * 3 + j) + 1 from rfl, sub1, cN (by omega)]
  exact ⟨vp_in_nI (by omega) (by decide), h⟩
/-- paper -/
theorem s_paper (hR : Rel a c lt xs m) (x y : Int32) : wX4_paper (fun r xs' => wX5_paper (fun r' m' => r = r' ∧ Rel a c lt xs' m') x y m) x y a b c lt ra xs := by
  have hA := hR.w.A.2
  by_cases hx : isA a x
  · obtain ⟨k, hk, rfl⟩ := hx
    have k5 : k < 5 := by omega
    refine p_hasPaper_y hR.w hk ⟨fun _ => ?_, fun q => absurd q z10⟩
    rcases few (n := 7) (by decide) y with ⟨j, hj, rfl⟩ | hy
    · refine ⟨fun z => absurd z (nI_pos (by omega)), fun _ => ⟨fun _ => ?_, fun z => absurd (nI_le (a := j) (b := 7) hj (by decide)) z⟩⟩
      obtain ⟨t1, t2, t3, t4, t5⟩ := hR.r.2.2.1 k k5
      rcases (show j = 0 ∨ j = 1 ∨ j = 2 ∨ j = 3 ∨ j = 4 ∨ j = 5 ∨ j = 6 ∨ j = 7 by omega) with rfl | rfl | rfl | rfl | rfl | rfl | rfl | rfl
      · refine ⟨fun _ => ⟨vp_in_nI k5 (by decide), m_isPaper_y hR.r hR.w hk ⟨fun _ => ⟨fun _ => ⟨vp_in_nI k5 (by decide), ?_, hR⟩, fun z => absurd rfl z⟩, fun z => absurd z z10⟩⟩, fun z => absurd rfl z⟩
        rw [cN (by omega)]; exact t1.symm
      · exact ⟨fun z => absurd z (by decide), fun _ => ⟨fun _ => p_f90 (j := 0) k5 (by decide) (m_isPaper_y hR.r hR.w hk ⟨fun _ => ⟨fun z => absurd z (by decide), fun _ => ⟨fun _ => m_f67 (j := 0) k5 (by decide) ⟨(hR.r.2.2.2.1 _ (by omega)).1.symm, hR⟩, fun z => absurd rfl z⟩⟩, fun z => absurd z z10⟩), fun z => absurd rfl z⟩⟩
      · exact ⟨fun z => absurd z (by decide), fun _ => ⟨fun z => absurd z (by decide), fun _ => ⟨fun _ => p_f90 (j := 1) k5 (by decide) (m_isPaper_y hR.r hR.w hk ⟨fun _ => ⟨fun z => absurd z (by decide), fun _ => ⟨fun z => absurd z (by decide), fun _ => ⟨fun _ => m_f67 (j := 1) k5 (by decide) ⟨(hR.r.2.2.2.1 _ (by omega)).1.symm, hR⟩, fun z => absurd rfl z⟩⟩⟩, fun z => absurd z z10⟩), fun z => absurd rfl z⟩⟩⟩
      · exact ⟨fun z => absurd z (by decide), fun _ => ⟨fun z => absurd z (by decide), fun _ => ⟨fun z => absurd z (by decide), fun _ => ⟨fun _ => p_f90 (j := 2) k5 (by decide) (m_isPaper_y hR.r hR.w hk ⟨fun _ => ⟨fun z => absurd z (by decide), fun _ => ⟨fun z => absurd z (by decide), fun _ => ⟨fun z => absurd z (by decide), fun _ => ⟨fun _ => m_f67 (j := 2) k5 (by decide) ⟨(hR.r.2.2.2.1 _ (by omega)).1.symm, hR⟩, fun z => absurd rfl z⟩⟩⟩⟩, fun z => absurd z z10⟩), fun z => absurd rfl z⟩⟩⟩⟩
      · refine ⟨fun z => absurd z (by decide), fun _ => ⟨fun z => absurd z (by decide), fun _ => ⟨fun z => absurd z (by decide), fun _ => ⟨fun z => absurd z (by decide), fun _ => ⟨fun _ => ⟨vp_in_nI k5 (by decide), m_isPaper_y hR.r hR.w hk ⟨fun _ => ⟨fun z => absurd z (by decide), fun _ => ⟨fun z => absurd z (by decide), fun _ => ⟨fun z => absurd z (by decide), fun _ => ⟨fun z => absurd z (by decide), fun _ => ⟨fun _ => ⟨vp_in_nI k5 (by decide), ?_, hR⟩, fun z => absurd rfl z⟩⟩⟩⟩⟩, fun z => absurd z z10⟩⟩, fun z => absurd rfl z⟩⟩⟩⟩⟩
        rw [cN (by omega)]; exact t4.symm
      · refine ⟨fun z => absurd z (by decide), fun _ => ⟨fun z => absurd z (by decide), fun _ => ⟨fun z => absurd z (by decide), fun _ => ⟨fun z => absurd z (by decide), fun _ => ⟨fun z => absurd z (by decide), fun _ => ⟨fun _ => ⟨vp_in_nI k5 (by decide), m_isPaper_y hR.r hR.w hk ⟨fun _ => ⟨fun z => absurd z (by decide), fun _ => ⟨fun z => absurd z (by decide), fun _ => ⟨fun z => absurd z (by decide), fun _ => ⟨fun z => absurd z (by decide), fun _ => ⟨fun z => absurd z (by decide), fun _ => ⟨fun _ => ⟨vp_in_nI k5 (by decide), ?_, hR⟩, fun z => absurd rfl z⟩⟩⟩⟩⟩⟩, fun z => absurd z z10⟩⟩, fun z => absurd rfl z⟩⟩⟩⟩⟩⟩
        rw [cN (by omega)]; exact t2.symm
      · refine ⟨fun z => absurd z (by decide), fun _ => ⟨fun z => absurd z (by decide), fun _ => ⟨fun z => absurd z (by decide), fun _ => ⟨fun z => absurd z (by decide), fun _ => ⟨fun z => absurd z (by decide), fun _ => ⟨fun z => absurd z (by decide), fun _ => ⟨fun _ => p_isInForce hR.w k5 ⟨fun q => m_isPaper_y hR.r hR.w hk ⟨fun _ => ⟨fun z => absurd z (by decide), fun _ => ⟨fun z => absurd z (by decide), fun _ => ⟨fun z => absurd z (by decide), fun _ => ⟨fun z => absurd z (by decide), fun _ => ⟨fun z => absurd z (by decide), fun _ => ⟨fun z => absurd z (by decide), fun _ => ⟨fun _ => m_isForce hR.r hR.w k5 ⟨fun _ => ⟨rfl, hR⟩, fun z => absurd q z⟩, fun z => absurd rfl z⟩⟩⟩⟩⟩⟩⟩, fun z => absurd z z10⟩, fun q => m_isPaper_y hR.r hR.w hk ⟨fun _ => ⟨fun z => absurd z (by decide), fun _ => ⟨fun z => absurd z (by decide), fun _ => ⟨fun z => absurd z (by decide), fun _ => ⟨fun z => absurd z (by decide), fun _ => ⟨fun z => absurd z (by decide), fun _ => ⟨fun z => absurd z (by decide), fun _ => ⟨fun _ => m_isForce hR.r hR.w k5 ⟨fun z => absurd z q, fun _ => ⟨rfl, hR⟩⟩, fun z => absurd rfl z⟩⟩⟩⟩⟩⟩⟩, fun z => absurd z z10⟩⟩, fun z => absurd rfl z⟩⟩⟩⟩⟩⟩⟩
      · refine ⟨fun z => absurd z (by decide), fun _ => ⟨fun z => absurd z (by decide), fun _ => ⟨fun z => absurd z (by decide), fun _ => ⟨fun z => absurd z (by decide), fun _ => ⟨fun z => absurd z (by decide), fun _ => ⟨fun z => absurd z (by decide), fun _ => ⟨fun z => absurd z (by decide), fun _ => ⟨fun _ => ⟨vp_in_nI k5 (by decide), m_isPaper_y hR.r hR.w hk ⟨fun _ => ⟨fun z => absurd z (by decide), fun _ => ⟨fun z => absurd z (by decide), fun _ => ⟨fun z => absurd z (by decide), fun _ => ⟨fun z => absurd z (by decide), fun _ => ⟨fun z => absurd z (by decide), fun _ => ⟨fun z => absurd z (by decide), fun _ => ⟨fun z => absurd z (by decide), fun _ => ⟨fun _ => ⟨vp_in_nI k5 (by decide), ?_, hR⟩, fun z => absurd rfl z⟩⟩⟩⟩⟩⟩⟩⟩, fun z => absurd z z10⟩⟩, fun z => absurd rfl z⟩⟩⟩⟩⟩⟩⟩⟩
        rw [cN (by omega)]; exact t5.symm
    · have no : wX5_paper (fun r' m' => -nI 2 = r' ∧ Rel a c lt (rfX xs 2) m') (nI k) y m :=
        m_isPaper_y hR.r hR.w hk ⟨fun _ => ⟨fun z => absurd z (few_ne (n := 7) (k := 0) (by decide) (by decide) hy), fun _ => ⟨fun z => absurd z (few_ne (n := 7) (k := 1) (by decide) (by decide) hy), fun _ => ⟨fun z => absurd z (few_ne (n := 7) (k := 2) (by decide) (by decide) hy), fun _ => ⟨fun z => absurd z (few_ne (n := 7) (k := 3) (by decide) (by decide) hy), fun _ => ⟨fun z => absurd z (few_ne (n := 7) (k := 4) (by decide) (by decide) hy), fun _ => ⟨fun z => absurd z (few_ne (n := 7) (k := 5) (by decide) (by decide) hy), fun _ => ⟨fun z => absurd z (few_ne (n := 7) (k := 6) (by decide) (by decide) hy), fun _ => ⟨fun z => absurd z (few_ne (n := 7) (k := 7) (by decide) (by decide) hy), fun _ => m_refuse (k := 2) (by decide) (by decide) ⟨by decide, hR.rf (by decide)⟩⟩⟩⟩⟩⟩⟩⟩⟩, fun z => absurd z z10⟩
      exact ⟨fun _ => p_refuse (k := 2) (by decide) no, fun z => ⟨fun z2 => absurd z2 (hy.resolve_left z), fun _ => p_refuse (k := 2) (by decide) no⟩⟩
  · refine p_hasPaper_n hR.w hx ⟨fun q => absurd rfl q, fun _ => p_refuse (k := 1) (by decide) ?_⟩
    exact m_isPaper_n hR.r hR.w hx ⟨fun q => absurd rfl q, fun _ => m_refuse (k := 1) (by decide) (by decide) ⟨by decide, hR.rf (by decide)⟩⟩
/-- how many are in force -/
def nF (t : ew_M) : Nat → Int32
  | 0 => 0
  | i + 1 => nF t i + bI (inF t i)
theorem bI_n0 {b : Bool} (h : ¬ bI b = 0) : bI b = 1 := (bI_1 b).mpr (b_nf (fun e => h ((bI_0 b).mpr e)))
theorem p_pif {t : ew_M} (hw : wf t) {Q : Int32 → Prop} (h : Q (nF t (An t))) : wX3_papersInForce Q t := by
  obtain ⟨e1, e2⟩ := hw.A
  refine ew_for (An t) (fun i => (nF t i, nI i)) (fun i R hi hR => ?_) (fun R => ?_)
  · have hR : R (nF t i + bI (inF t i), nI (i + 1)) := hR
    refine ⟨fun q => ?_, fun _ => p_isInForce hw (by omega) ⟨fun z => ?_, fun z => ?_⟩⟩
    · rw [e1] at q
      exact absurd q (nI_ge hi (by omega))
    · rw [z, ← nI_s] at hR
      exact hR
    · rw [bI_n0 z, ← nI_s] at hR
      exact hR
  · refine ⟨fun _ => h, fun q => ?_⟩
    rw [e1] at q
    exact absurd (nI_le (Nat.le_refl _) (by omega)) q
theorem m_inf {t m : ew_M} (hr : RT t m) (hw : wf t) {Q : Int32 → Prop} (h : Q (nF t (An t))) : wX5_inForce Q m := by
  obtain ⟨e1, e2⟩ := hw.A
  have e0 : m.1 5 = nI (An t) := by rw [hr.1.2.1, e1]
  refine ew_for (An t) (fun i => (nF t i, nI i)) (fun i R hi hR => ?_) (fun R => ?_)
  · have hR : R (nF t i + bI (inF t i), nI (i + 1)) := hR
    refine ⟨fun q => ?_, fun _ => m_isForce hr hw (by omega) ⟨fun z => ?_, fun z => ?_⟩⟩
    · rw [e0] at q
      exact absurd q (nI_ge hi (by omega))
    · rw [z, ← nI_s] at hR
      exact hR
    · rw [bI_n0 z, ← nI_s] at hR
      exact hR
  · refine ⟨fun _ => h, fun q => ?_⟩
    rw [e0] at q
    exact absurd (nI_le (Nat.le_refl _) (by omega)) q
/-- count -/
theorem s_count (hR : Rel a c lt xs m) (x : Int32) : wX4_count (fun r => wX5_count (fun r' => r = r') x m) x a b c lt ra xs := by
  obtain ⟨r0, r5, r15, r16, r17⟩ := hR.r.1
  by_cases hx : ∃ j, j < 8 ∧ x = nI j
  · obtain ⟨j, hj, rfl⟩ := hx
    rcases (show j = 0 ∨ j = 1 ∨ j = 2 ∨ j = 3 ∨ j = 4 ∨ j = 5 ∨ j = 6 ∨ j = 7 by omega) with rfl | rfl | rfl | rfl | rfl | rfl | rfl | rfl
    · exact ⟨fun _ => ⟨fun _ => r0.symm, fun z => absurd rfl z⟩, fun z => absurd rfl z⟩
    · exact ⟨fun z => absurd z (by decide), fun _ => ⟨fun _ => ⟨fun z => absurd z (by decide), fun _ => ⟨fun _ => r5.symm, fun z => absurd rfl z⟩⟩, fun z => absurd rfl z⟩⟩
    · exact ⟨fun z => absurd z (by decide), fun _ => ⟨fun z => absurd z (by decide), fun _ => ⟨fun _ => ⟨fun z => absurd z (by decide), fun _ => ⟨fun z => absurd z (by decide), fun _ => ⟨fun _ => r17.symm, fun z => absurd rfl z⟩⟩⟩, fun z => absurd rfl z⟩⟩⟩
    · exact ⟨fun z => absurd z (by decide), fun _ => ⟨fun z => absurd z (by decide), fun _ => ⟨fun z => absurd z (by decide), fun _ => ⟨fun _ => p_pif hR.w (⟨fun z => absurd z (by decide), fun _ => ⟨fun z => absurd z (by decide), fun _ => ⟨fun z => absurd z (by decide), fun _ => ⟨fun _ => m_inf hR.r hR.w rfl, fun z => absurd rfl z⟩⟩⟩⟩), fun z => absurd rfl z⟩⟩⟩⟩
    · exact ⟨fun z => absurd z (by decide), fun _ => ⟨fun z => absurd z (by decide), fun _ => ⟨fun z => absurd z (by decide), fun _ => ⟨fun z => absurd z (by decide), fun _ => ⟨fun _ => ⟨fun z => absurd z (by decide), fun _ => ⟨fun z => absurd z (by decide), fun _ => ⟨fun z => absurd z (by decide), fun _ => ⟨fun z => absurd z (by decide), fun _ => ⟨fun _ => r15.symm, fun z => absurd rfl z⟩⟩⟩⟩⟩, fun z => absurd rfl z⟩⟩⟩⟩⟩
    · exact ⟨fun z => absurd z (by decide), fun _ => ⟨fun z => absurd z (by decide), fun _ => ⟨fun z => absurd z (by decide), fun _ => ⟨fun z => absurd z (by decide), fun _ => ⟨fun z => absurd z (by decide), fun _ => ⟨fun _ => ⟨fun z => absurd z (by decide), fun _ => ⟨fun z => absurd z (by decide), fun _ => ⟨fun z => absurd z (by decide), fun _ => ⟨fun z => absurd z (by decide), fun _ => ⟨fun z => absurd z (by decide), fun _ => ⟨fun _ => r16.symm, fun z => absurd rfl z⟩⟩⟩⟩⟩⟩, fun z => absurd rfl z⟩⟩⟩⟩⟩⟩
    · exact ⟨fun z => absurd z (by decide), fun _ => ⟨fun z => absurd z (by decide), fun _ => ⟨fun z => absurd z (by decide), fun _ => ⟨fun z => absurd z (by decide), fun _ => ⟨fun z => absurd z (by decide), fun _ => ⟨fun z => absurd z (by decide), fun _ => ⟨fun _ => ⟨fun z => absurd z (by decide), fun _ => ⟨fun z => absurd z (by decide), fun _ => ⟨fun z => absurd z (by decide), fun _ => ⟨fun z => absurd z (by decide), fun _ => ⟨fun z => absurd z (by decide), fun _ => ⟨fun z => absurd z (by decide), fun _ => ⟨fun _ => hR.2.2.1.1.symm, fun z => absurd rfl z⟩⟩⟩⟩⟩⟩⟩, fun z => absurd rfl z⟩⟩⟩⟩⟩⟩⟩
    · exact ⟨fun z => absurd z (by decide), fun _ => ⟨fun z => absurd z (by decide), fun _ => ⟨fun z => absurd z (by decide), fun _ => ⟨fun z => absurd z (by decide), fun _ => ⟨fun z => absurd z (by decide), fun _ => ⟨fun z => absurd z (by decide), fun _ => ⟨fun z => absurd z (by decide), fun _ => ⟨fun _ => ⟨fun z => absurd z (by decide), fun _ => ⟨fun z => absurd z (by decide), fun _ => ⟨fun z => absurd z (by decide), fun _ => ⟨fun z => absurd z (by decide), fun _ => ⟨fun z => absurd z (by decide), fun _ => ⟨fun z => absurd z (by decide), fun _ => ⟨fun z => absurd z (by decide), fun _ => ⟨fun _ => hR.2.2.2.1.1.symm, fun z => absurd rfl z⟩⟩⟩⟩⟩⟩⟩⟩, fun z => absurd rfl z⟩⟩⟩⟩⟩⟩⟩⟩
  · have hn : ∀ j, j < 8 → ¬ x = nI j := fun j h1 h2 => hx ⟨j, h1, h2⟩
    by_cases h6 : ∃ j, j < 6 ∧ x = nI (j + 11)
    · obtain ⟨j, hj, rfl⟩ := h6
      have e : nI (j + 11) - 10 = nI (j + 1) := by
        rw [show j + 11 = (j + 1) + 10 from rfl, ← nI_add, show nI 10 = (10 : Int32) from rfl, Int32.add_sub_cancel]
      have f : ¬ (nI (j + 11) < 11 ∨ (16 : Int32) < nI (j + 11)) := fun z => z.elim (fun z => absurd ((nI_ltI (a := j + 11) (b := 11) (by omega) (by decide)).mp z) (by omega)) (fun z => absurd ((nI_ltI (a := 16) (b := j + 11) (by decide) (by omega)).mp z) (by omega))
      refine ⟨fun z => absurd z (hn 0 (by decide)), fun _ => ⟨fun z => absurd z (hn 1 (by decide)), fun _ => ⟨fun z => absurd z (hn 2 (by decide)), fun _ => ⟨fun z => absurd z (hn 3 (by decide)), fun _ => ⟨fun z => absurd z (hn 4 (by decide)), fun _ => ⟨fun z => absurd z (hn 5 (by decide)), fun _ => ⟨fun z => absurd z (hn 6 (by decide)), fun _ => ⟨fun z => absurd z (hn 7 (by decide)), fun _ => ?_⟩⟩⟩⟩⟩⟩⟩⟩
      rw [e]
      refine ⟨fun z => absurd ((nI_ltI (a := j + 1) (b := 1) (by omega) (by decide)).mp z) (by omega), fun _ => ⟨fun _ => ⟨vp_in_nI (by omega) (by decide), ?_⟩, fun z => absurd (nI_le (a := j + 1) (b := 6) (by omega) (by decide)) z⟩⟩
      refine ⟨fun z => absurd z (hn 0 (by decide)), fun _ => ⟨fun z => absurd z (hn 1 (by decide)), fun _ => ⟨fun z => absurd z (hn 2 (by decide)), fun _ => ⟨fun z => absurd z (hn 3 (by decide)), fun _ => ⟨fun z => absurd z (hn 4 (by decide)), fun _ => ⟨fun z => absurd z (hn 5 (by decide)), fun _ => ⟨fun z => absurd z (hn 6 (by decide)), fun _ => ⟨fun z => absurd z (hn 7 (by decide)), fun _ => m_in ?_⟩⟩⟩⟩⟩⟩⟩⟩
      rw [if_neg f, e]
      refine ⟨fun z => absurd z z10, fun _ => ⟨vp_in_nI (by omega) (by decide), ?_⟩⟩
      rw [cN (by omega)]
      exact (hR.2.1 (j + 1) (by omega)).symm
    · have no : wX5_count (fun r' => (-9 : Int32) = r') x m := by
        refine ⟨fun z => absurd z (hn 0 (by decide)), fun _ => ⟨fun z => absurd z (hn 1 (by decide)), fun _ => ⟨fun z => absurd z (hn 2 (by decide)), fun _ => ⟨fun z => absurd z (hn 3 (by decide)), fun _ => ⟨fun z => absurd z (hn 4 (by decide)), fun _ => ⟨fun z => absurd z (hn 5 (by decide)), fun _ => ⟨fun z => absurd z (hn 6 (by decide)), fun _ => ⟨fun z => absurd z (hn 7 (by decide)), fun _ => m_in ?_⟩⟩⟩⟩⟩⟩⟩⟩
        rw [if_pos (Classical.byContradiction fun z => h6 ?_)]
        · exact ⟨fun _ => rfl, fun z => absurd rfl z⟩
        · have z1 : ¬ x < 11 := fun q => z (Or.inl q)
          have z2 : ¬ (16 : Int32) < x := fun q => z (Or.inr q)
          rcases few (n := 16) (by decide) x with ⟨k, hk, rfl⟩ | q
          · have z1 : ¬ nI k < nI 11 := z1
            rw [nI_ltI (by omega) (by decide)] at z1
            exact ⟨k - 11, by omega, by rw [show k - 11 + 11 = k by omega]⟩
          · rcases q with q | q
            · exact absurd (Int32.lt_trans q (show (0 : Int32) < 11 by decide)) z1
            · exact absurd (Int32.not_le.mp q) z2
      refine ⟨fun z => absurd z (hn 0 (by decide)), fun _ => ⟨fun z => absurd z (hn 1 (by decide)), fun _ => ⟨fun z => absurd z (hn 2 (by decide)), fun _ => ⟨fun z => absurd z (hn 3 (by decide)), fun _ => ⟨fun z => absurd z (hn 4 (by decide)), fun _ => ⟨fun z => absurd z (hn 5 (by decide)), fun _ => ⟨fun z => absurd z (hn 6 (by decide)), fun _ => ⟨fun z => absurd z (hn 7 (by decide)), fun _ => ⟨fun _ => no, fun q1 => ⟨fun q2 => absurd ?_ h6, fun _ => no⟩⟩⟩⟩⟩⟩⟩⟩⟩⟩
      rcases few (n := 6) (by decide) (x - 10) with ⟨k, hk, e⟩ | q
      · rw [e] at q1
        have q1 : ¬ nI k < nI 1 := q1
        rw [nI_ltI (by omega) (by decide)] at q1
        refine ⟨k - 1, by omega, ?_⟩
        rw [show k - 1 + 11 = k + 10 by omega, ← nI_add, ← e, show nI 10 = (10 : Int32) from rfl, Int32.sub_add_cancel]
      · rcases q with q | q
        · exact absurd (Int32.lt_trans q (show (0 : Int32) < 1 by decide)) q1
        · exact absurd q2 q
theorem m_pair_n2 {x y : Int32} (hR : Rel a c lt xs m) (h : ¬ isP a x ∨ ¬ isA a y) {A : Prop} {B : Prop} (hB : B) : wX5_isPerson (fun r1 => (r1 = 0 → B) ∧ (¬ r1 = 0 → wX5_isPaper (fun r4 => (r4 = 0 → B) ∧ (¬ r4 = 0 → A)) y m)) x m := by
  by_cases hx : isP a x
  · obtain ⟨p, hp, e⟩ := hx
    subst e
    have hy := h.resolve_left (fun z => z ⟨p, hp, rfl⟩)
    exact m_isPerson_y hR.r hR.w hp ⟨fun z => absurd z z10, fun _ => m_isPaper_n hR.r hR.w hy ⟨fun _ => hB, fun z => absurd rfl z⟩⟩
  · exact m_isPerson_n hR.r hR.w hx ⟨fun _ => hB, fun z => absurd rfl z⟩
theorem m_pair_y2 {p k : Nat} (hR : Rel a c lt xs m) (hp : p < Pn a) (hk : k < An a) {A : Prop} {B : Prop} (hA : A) : wX5_isPerson (fun r1 => (r1 = 0 → B) ∧ (¬ r1 = 0 → wX5_isPaper (fun r4 => (r4 = 0 → B) ∧ (¬ r4 = 0 → A)) (nI k) m)) (nI p) m :=
  m_isPerson_y hR.r hR.w hp ⟨fun z => absurd z z10, fun _ => m_isPaper_y hR.r hR.w hk ⟨fun z => absurd z z10, fun _ => hA⟩⟩
/-- weight -/
theorem s_weight (hR : Rel a c lt xs m) (x y z : Int32) : wX4_weight (fun r xs' => wX5_weight (fun r' m' => r = r' ∧ Rel a c lt xs' m') x y z m) x y z a b c lt ra xs := by
  have hA := hR.w.A.2
  have hP := hR.w.P.2
  have r1 : ∀ {P : Int64 → ew_M → Prop}, P ((4000000000000000000 : Int64) - (-1 : Int32).toInt64) (rfM m 1) → wX5_refuseLong P (-1) m := fun {P} h => by
    show wX5_refuse (fun r1 m2 => P ((4000000000000000000 : Int64) - r1.toInt64) m2) (-1 : Int32) m
    exact m_refuse (k := 1) (by decide) (by decide) h
  have r3 : ∀ {P : Int64 → ew_M → Prop}, P ((4000000000000000000 : Int64) - (-3 : Int32).toInt64) (rfM m 3) → wX5_refuseLong P (-3) m := fun {P} h => by
    show wX5_refuse (fun r1 m2 => P ((4000000000000000000 : Int64) - r1.toInt64) m2) (-3 : Int32) m
    exact m_refuse (k := 3) (by decide) (by decide) h
  refine p_noPair hR.w (fun p k hp hk ex ey => ?_) (fun q => ?_)
  · subst ex
    subst ey
    refine ⟨fun q => absurd rfl q, fun _ => noThing (fun j hj e => ?_) (fun q => ?_)⟩
    · subst e
      refine ⟨fun _ => p_isBound hR.w (by omega) (by omega) ⟨fun q => p_weightOf hR.w (by omega) (by omega) hj ?_, fun q => p_refuseFarthest (k := 3) (by decide) ?_⟩, fun q => absurd rfl q⟩
      · refine m_pair_y2 hR hp hk (m_in ?_)
        rw [if_neg (in02 hj)]
        refine ⟨fun _ => m_isBound hR.r hR.w (by omega) (by omega) ⟨fun q2 => absurd q2 q, fun _ => ?_⟩, fun q2 => absurd q2 z10⟩
        show vp_in ((3 : Int32) * ((6 : Int32) * nI k + nI p) + nI j) 90 ∧ _
        rw [ix90m, nI_add]
        refine ⟨vp_in_nI (by omega) (by decide), ?_, hR⟩
        rw [cN (by omega)]
        exact (hR.r.2.2.2.2.2 k p j hk (by omega) hj).symm
      · refine m_pair_y2 hR hp hk (m_in ?_)
        rw [if_neg (in02 hj)]
        exact ⟨fun _ => m_isBound hR.r hR.w (by omega) (by omega) ⟨fun _ => r3 ⟨by decide, hR.rf (by decide)⟩, fun q2 => absurd q q2⟩, fun q2 => absurd q2 z10⟩
    · refine ⟨fun q2 => absurd q2 z10, fun _ => p_refuseFarthest (k := 1) (by decide) ?_⟩
      refine m_pair_y2 hR hp hk (m_in ?_)
      rw [if_pos q]
      exact ⟨fun q2 => absurd rfl q2, fun _ => r1 ⟨by decide, hR.rf (by decide)⟩⟩
  · refine ⟨fun _ => p_refuseFarthest (k := 1) (by decide) ?_, fun q2 => absurd q2 z10⟩
    exact m_pair_n2 hR q (r1 ⟨by decide, hR.rf (by decide)⟩)
end REL
