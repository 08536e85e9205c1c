/-! the short calls -/
section REL
variable {a b c lt ra xs m : ew_M}
theorem sI_s (t : ew_M) (i : Nat) (v : Int32) : (ew_sI t i v).1 i = v := by simp [ew_sI, upd]
theorem sI_i {t : ew_M} {i j : Nat} {v : Int32} (h : j ≠ i) : (ew_sI t i v).1 j = t.1 j := by simp [ew_sI, upd, h]
theorem Fo.ar {m : ew_M} {b i : Nat} {v : Int32} (h : ¬ (b = 12 ∨ b = 13 ∨ b = 14 ∨ 24 ≤ b)) : Fo m (ew_sA m b i v) := ⟨fun _ _ => rfl, fun c hc => sA_a (fun z => h (z ▸ hc)), rfl⟩
theorem Fo.i {m : ew_M} {i : Nat} {v : Int32} (h : ¬ (i = 18 ∨ i = 20 ∨ i = 29 ∨ 41 ≤ i)) : Fo m (ew_sI m i v) := ⟨fun c hc => sI_i (fun z => h (z ▸ hc)), fun _ _ => rfl, rfl⟩
/-- law -/
theorem s_law (hR : Rel a c lt xs m) (x : Int32) : wX4_law (fun r a' xs' => wX5_law (fun r' m' => r = r' ∧ Rel a' c lt xs' m') x m) x a b c lt ra xs := by
  have no : (x < 0 ∨ (4 : Int32) < x) → wX5_law (fun r' m' => -nI 2 = r' ∧ Rel a c lt (rfX xs 2) m') x m := fun q => by
    refine m_in ?_
    rw [if_pos q]
    exact ⟨fun z => absurd rfl z, fun _ => m_refuse (k := 2) (by decide) (by decide) ⟨by decide, hR.rf (by decide)⟩⟩
  refine ⟨fun q => ⟨fun z => absurd z z10, fun _ => p_refuse (k := 2) (by decide) (no (Or.inl q))⟩, fun q => ⟨fun q2 => ⟨fun _ => ?_, fun z => absurd rfl z⟩, fun q2 => ⟨fun z => absurd z z10, fun _ => p_refuse (k := 2) (by decide) (no (Or.inr ?_))⟩⟩⟩
  · obtain ⟨k, hk, rfl⟩ := nI_of q
    have hk5 : k < 5 := (nI_ltI (a := k) (b := 5) hk (by decide)).mp q2
    show wX5_law (fun r' m' => a.1 2 = r' ∧ Rel (ew_sI a 2 (nI k)) c lt xs m') (nI k) m
    refine m_in ?_
    rw [if_neg (fun z => z.elim q (fun z => absurd ((nI_ltI (a := 4) (b := k) (by decide) hk).mp z) (by omega)))]
    refine ⟨fun _ => ⟨hR.r.1.2.2.1.symm, ?_⟩, fun z => absurd z z10⟩
    refine hR.up ?_ ?_ (Fo.i (by omega))
    · obtain ⟨⟨w1, w2, w3, w4⟩, w5⟩ := hR.w
      refine ⟨⟨w1, w2, ?_, w4⟩, w5⟩
      rw [sI_s]
      exact isN_of hk5 (by decide)
    · obtain ⟨⟨g1, g2, g3, g4, g5⟩, g6⟩ := hR.r
      refine ⟨⟨g1, g2, ?_, g4, g5⟩, g6⟩
      rw [sI_s, sI_s]
  · have h5 : (5 : Int32) ≤ x := Int32.not_lt.mp q2
    rw [Int32.lt_iff_toInt_lt]
    rw [Int32.le_iff_toInt_le, show (5 : Int32).toInt = 5 by decide] at h5
    rw [show (4 : Int32).toInt = 4 by decide]
    omega
theorem noThing {x : Int32} {Q : Int32 → Prop} (h1 : (∀ k, k < 3 → x = nI k → Q 0)) (h2 : (x < 0 ∨ (2 : Int32) < x) → Q 1) : wX4_isNoThing Q x := by
  refine ⟨fun q => h2 (Or.inl q), fun q => ⟨fun q2 => ?_, fun q2 => h2 (Or.inr ?_)⟩⟩
  · obtain ⟨k, hk, rfl⟩ := nI_of q
    exact h1 k ((nI_ltI (a := k) (b := 3) hk (by decide)).mp q2) rfl
  · have h5 : (3 : Int32) ≤ x := Int32.not_lt.mp q2
    rw [Int32.lt_iff_toInt_lt]
    rw [Int32.le_iff_toInt_le, show (3 : Int32).toInt = 3 by decide] at h5
    rw [show (2 : Int32).toInt = 2 by decide]
    omega
theorem in02 {k : Nat} (hk : k < 3) : ¬ (nI k < 0 ∨ (2 : Int32) < nI k) := fun z => z.elim (nI_pos (by omega)) (fun z => absurd ((nI_ltI (a := 2) (b := k) (by decide) (by omega)).mp z) (by omega))
/-- brings -/
theorem s_brings (hR : Rel a c lt xs m) (x y : Int32) : wX4_brings (fun r xs' => wX5_brings (fun r' m' => r = r' ∧ Rel a c lt xs' m') x y m) x y a b c lt ra xs := by
  have hA := hR.w.A.2
  have r1 : ∀ {P : Int32 → ew_M → Prop}, P ((1000000000 : Int32) - (-1)) (rfM m 1) → wX5_brings_30 P m := fun {P} h => by
    show wX5_refuse (fun r1 m2 => P ((1000000000 : Int32) - r1) m2) (-1 : Int32) m
    exact m_refuse (k := 1) (by decide) (by decide) h
  by_cases hx : isA a x
  · obtain ⟨k, hk, rfl⟩ := hx
    refine p_hasPaper_y hR.w hk ⟨fun z => absurd z z10, fun _ => noThing (fun j hj e => ?_) (fun q => ?_)⟩
    · subst e
      refine ⟨fun _ => ?_, fun z => absurd rfl z⟩
      show vp_in (nI k * (3 : Int32) + nI j) 15 ∧ _
      rw [ix15]
      refine ⟨vp_in_nI (by omega) (by decide), ?_⟩
      rw [cN (by omega)]
      refine m_isPaper_y hR.r hR.w hk ⟨fun z => absurd z z10, fun _ => m_in ?_⟩
      rw [if_neg (in02 hj)]
      refine ⟨fun z => absurd z z10, fun _ => ?_⟩
      rw [ix15m]
      refine ⟨vp_in_nI (by omega) (by decide), ?_, hR⟩
      rw [cN (by omega)]
      exact (hR.r.2.2.2.1 _ (by omega)).2.symm
    · refine ⟨fun z => absurd z z10, fun _ => p_refuseFar (k := 1) (by decide) ?_⟩
      refine m_isPaper_y hR.r hR.w hk ⟨fun z => absurd z z10, fun _ => m_in ?_⟩
      rw [if_pos q]
      exact ⟨fun _ => r1 ⟨by decide, hR.rf (by decide)⟩, fun z => absurd rfl z⟩
  · refine p_hasPaper_n hR.w hx ⟨fun _ => p_refuseFar (k := 1) (by decide) ?_, fun q => absurd rfl q⟩
    exact m_isPaper_n hR.r hR.w hx ⟨fun _ => r1 ⟨by decide, hR.rf (by decide)⟩, fun q => absurd rfl q⟩
/-- truth -/
theorem s_truth (hR : Rel a c lt xs m) (x y : Int32) : wX4_truth (fun r a' xs' => wX5_truth (fun r' m' => r = r' ∧ Rel a' c lt xs' m') x y m) x y a b c lt ra xs := by
  have hA := hR.w.A.2
  by_cases hx : isA a x
  · obtain ⟨k, hk, rfl⟩ := hx
    obtain ⟨r1, r2⟩ := hR.w.r (a := k) (by omega)
    refine p_hasPaper_y hR.w hk ⟨fun z => absurd z z10, fun _ => noThing (fun j hj e => ?_) (fun q => ?_)⟩
    · subst e
      refine ⟨fun _ => ⟨vp_in_nI (by omega) (by decide), ?_⟩, fun z => absurd rfl z⟩
      rw [cN (by omega)]
      have go : ∀ {P : Int32 → ew_M → Prop}, (vp_in (nI k) 5 ∧ ((m.2.1 8 k = 0 → vp_in (nI k) 5 ∧ vp_in (nI k) 5 ∧ P (m.2.1 7 k) (ew_sA m 7 k (nI j))) ∧ (¬ m.2.1 8 k = 0 → wX5_refuse (fun r8 m9 => P r8 m9) (-3 : Int32) m))) → wX5_truth P (nI k) (nI j) m := fun h => by
        refine m_isPaper_y hR.r hR.w hk ⟨fun z => absurd z z10, fun _ => m_in ?_⟩
        rw [if_neg (in02 hj)]
        refine ⟨fun _ => ?_, fun z => absurd z z10⟩
        rw [cN (by omega)]
        exact h
      refine ⟨fun q => ⟨vp_in_nI (by omega) (by decide), vp_in_nI (by omega) (by decide), ?_⟩, fun q => p_refuse (k := 3) (by decide) ?_⟩
      · rw [cN (by omega)]
        refine go ⟨vp_in_nI (by omega) (by decide), fun _ => ⟨vp_in_nI (by omega) (by decide), vp_in_nI (by omega) (by decide), (hR.r.2.2.1 k (by omega)).2.2.2.1.symm, ?_⟩, fun z => absurd (by rw [(hR.r.2.2.1 k (by omega)).2.1]; exact q) z⟩
        have r0 : rs a k = 0 := by
          rw [r1] at q
          exact (nI_eq (a := rs a k) (b := 0) (by omega) (by decide)).mp q
        refine hR.up ?_ ?_ (Fo.ar (by omega))
        · obtain ⟨w1, w2, w3, w4⟩ := hR.w
          refine ⟨w1, w2, fun i hi => ⟨(w3 i hi).1, (w3 i hi).2.1, (w3 i hi).2.2.1, ?_⟩, w4⟩
          by_cases e : i = k
          · subst e
            rw [sA_s]
            exact isN_of hj (by decide)
          · rw [sA_i e]
            exact (w3 i hi).2.2.2
        · obtain ⟨g1, g2, g3, g4, g5, g6⟩ := hR.r
          refine ⟨g1, g2, fun i hi => ?_, g4, g5, fun i p t hi hp ht => ?_⟩
          · obtain ⟨f1, f2, f3, f4, f5⟩ := g3 i hi
            refine ⟨f1, f2, f3, ?_, f5⟩
            by_cases e : i = k
            · subst e
              rw [sA_s, sA_s]
            · rw [sA_i e, sA_i e, f4]
          · show m.2.2 0 _ = _
            rw [g6 i p t hi hp ht]
            have e1 : rs (ew_sA a 7 k (nI j)) i = rs a i := rfl
            have e2 : (ew_sA a 7 k (nI j)).2.2 = a.2.2 := rfl
            unfold wO
            rw [e1, e2]
            by_cases e : i = k
            · subst e
              rw [r0, Nat.zero_testBit, if_neg (by decide), if_neg (by decide)]
            · have e3 : tr (ew_sA a 7 k (nI j)) i = tr a i := by rw [tr, sA_i e, tr]
              rw [e3]
      · refine go ⟨vp_in_nI (by omega) (by decide), fun z => absurd (by rw [(hR.r.2.2.1 k (by omega)).2.1] at z; exact z) q, fun _ => ?_⟩
        exact m_refuse (k := 3) (by decide) (by decide) ⟨by decide, hR.rf (by decide)⟩
    · refine ⟨fun z => absurd z z10, fun _ => p_refuse (k := 1) (by decide) ?_⟩
      refine m_isPaper_y hR.r hR.w hk ⟨fun z => absurd z z10, fun _ => m_in ?_⟩
      rw [if_pos q]
      exact ⟨fun z => absurd rfl z, fun _ => m_refuse (k := 1) (by decide) (by decide) ⟨by decide, hR.rf (by decide)⟩⟩
  · refine p_hasPaper_n hR.w hx ⟨fun _ => p_refuse (k := 1) (by decide) ?_, fun q => absurd rfl q⟩
    exact m_isPaper_n hR.r hR.w hx ⟨fun _ => m_refuse (k := 1) (by decide) (by decide) ⟨by decide, hR.rf (by decide)⟩, fun q => absurd rfl q⟩
theorem p_noPair {x y : Int32} {s2 s3 s4 s5 s6 : ew_M} (hw : wf a) {Q : Int32 → Prop} (h1 : ∀ p k, p < Pn a → k < An a → x = nI p → y = nI k → Q 0) (h2 : (¬ isP a x ∨ ¬ isA a y) → Q 1) : wX4_isNoPair Q x y a s2 s3 s4 s5 s6 := by
  by_cases hx : isP a x
  · obtain ⟨p, hp, e⟩ := hx
    subst e
    refine p_hasPerson_y hw hp ⟨fun z => absurd z z10, fun _ => ?_⟩
    by_cases hy : isA a y
    · obtain ⟨k, hk, e⟩ := hy
      subst e
      exact p_hasPaper_y hw hk ⟨fun _ => h1 p k hp hk rfl rfl, fun z => absurd z z10⟩
    · exact p_hasPaper_n hw hy ⟨fun z => absurd rfl z, fun _ => h2 (Or.inr hy)⟩
  · exact p_hasPerson_n hw hx ⟨fun _ => h2 (Or.inl hx), fun z => absurd rfl z⟩
/-- the reference's same question, said with what it goes on to -/
theorem m_pair_n {x y : Int32} (hR : Rel a c lt xs m) (h : ¬ isP a x ∨ ¬ isA a y) {A : Prop} {B : Prop} (hB : B) : wX5_isPerson (fun r1 => (r1 = 0 → B) ∧ (¬ r1 = 0 → wX5_isPaper (fun r4 => (¬ r4 = 0 → A) ∧ (r4 = 0 → B)) y m)) x m := by
  by_cases hx : isP a x
  · obtain ⟨p, hp, e⟩ := hx
    subst e
    have hy := h.resolve_left (fun z => z ⟨p, hp, rfl⟩)
    exact m_isPerson_y hR.r hR.w hp ⟨fun z => absurd z z10, fun _ => m_isPaper_n hR.r hR.w hy ⟨fun z => absurd rfl z, fun _ => hB⟩⟩
  · exact m_isPerson_n hR.r hR.w hx ⟨fun _ => hB, fun z => absurd rfl z⟩
theorem m_pair_y {p k : Nat} (hR : Rel a c lt xs m) (hp : p < Pn a) (hk : k < An a) {A : Prop} {B : Prop} (hA : A) : wX5_isPerson (fun r1 => (r1 = 0 → B) ∧ (¬ r1 = 0 → wX5_isPaper (fun r4 => (¬ r4 = 0 → A) ∧ (r4 = 0 → B)) (nI k) m)) (nI p) m :=
  m_isPerson_y hR.r hR.w hp ⟨fun z => absurd z z10, fun _ => m_isPaper_y hR.r hR.w hk ⟨fun _ => hA, fun z => absurd z z10⟩⟩
/-- reads -/
theorem s_reads (hR : Rel a c lt xs m) (x y : Int32) : wX4_reads (fun r a' xs' => wX5_reads (fun r' m' => r = r' ∧ Rel a' c lt xs' m') x y m) x y a b c lt ra xs := by
  have hA := hR.w.A.2
  have hP := hR.w.P.2
  refine p_noPair hR.w (fun p k hp hk ex ey => ?_) (fun q => ?_)
  · subst ex
    subst ey
    refine ⟨fun _ => p_canRead hR.w (by omega) (by omega) ⟨fun z => ?_, fun z => ?_⟩, fun z => absurd rfl z⟩
    · rw [bI_0] at z
      have z := b_nf z
      have hu : unr a p k = true := by rw [canR, Bool.and_eq_true] at z; exact z.1
      have hw2 := wf_mk hR.w hk (by omega) hu
      obtain ⟨f1, f2⟩ := hw2.r (a := k) (by omega)
      refine p_markRead hR.w (by omega) (by omega) ⟨vp_in_nI (by omega) (by decide), ?_⟩
      rw [cN (by omega), f1]
      refine j_bc f2 ?_
      refine m_pair_y hR hp hk (m_mayRead hR.r hR.w (by omega) hp ?_)
      rw [z]
      refine ⟨fun _ => m_hasNowRead hR.r hR.w (by omega) (by omega) (fun n g1 g2 => ⟨vp_in_nI (by omega) (by decide), ?_⟩), fun z => absurd z z10⟩
      rw [cN (by omega), (g1.2.2.1 k (by omega)).2.1, f1]
      exact m_ones f2 ⟨rfl, hR.up hw2 g1 g2.o⟩
    · rw [bI_0] at z
      refine p_refuse (k := 3) (by decide) ?_
      refine m_pair_y hR hp hk (m_mayRead hR.r hR.w (by omega) hp ?_)
      rw [z]
      exact ⟨fun z => absurd rfl z, fun _ => m_refuse (k := 3) (by decide) (by decide) ⟨by decide, hR.rf (by decide)⟩⟩
  · refine ⟨fun z => absurd z z10, fun _ => p_refuse (k := 1) (by decide) ?_⟩
    exact m_pair_n hR q (m_refuse (k := 1) (by decide) (by decide) ⟨by decide, hR.rf (by decide)⟩)
end REL
