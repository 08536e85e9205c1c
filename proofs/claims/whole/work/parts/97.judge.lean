/-! judge -/
theorem ju_9 {t : ew_M} {row : Nat → Nat} {a i : Nat} (q : row i = 9) : ju t row a (i + 1) = wk1 (passP (-1) a (ju t row a i)) := by
  show wk1 (passP (-1) a (if row i = 9 then _ else _)) = _
  rw [if_pos q]
theorem ju_n {t : ew_M} {row : Nat → Nat} {a i : Nat} (q : ¬ row i = 9) : ju t row a (i + 1) = wk1 (passP (-1) a (mk (ju t row a i) (row i) a)) := by
  show wk1 (passP (-1) a (if row i = 9 then _ else _)) = _
  rw [if_neg q]
theorem canR_6 {t : ew_M} (hw : wf t) {p a : Nat} (ha : a < An t) (h : canR t p a = true) : p < 6 ∧ unr t p a = true := by
  rw [canR, Bool.and_eq_true] at h
  have u := h.1
  refine ⟨?_, u⟩
  rw [unr, Bool.and_eq_true] at u
  have b := (hw.2.2.2.1 a ha).1
  have hP := hw.P.2
  refine Nat.lt_of_not_le fun z => ?_
  rw [Nat.testBit_lt_two_pow (Nat.lt_of_lt_of_le b (Nat.pow_le_pow_right (by decide) (by omega)))] at u
  exact absurd u.1 (by decide)
theorem p_first {t xs s1 s3 : ew_M} (hw : wf t) {row : Nat → Nat} (hrow : ∀ i, row i < 10) {n a : Nat} (hn : n ≤ 12) (ha : a < An t) (hx : ∀ i, i < n → xs.2.1 0 i = nI (row i)) {J : Nat} (hJ : J ≤ n) (hok : ∀ i, i < J → jok t row a i) {Q : Int32 → ew_M → Prop} (h1 : J = n → Q (-9) (ju t row a J)) (h2 : J < n → ¬ jok t row a J ∧ Q (nI J) (ju t row a J)) : ew_lp (fun (R : Int32 × ew_M → Prop) (x : Int32 × ew_M) => wX1_firstThatCanNot_14 R Q (nI a) (nI n) x.1 s1 x.2 s3 xs) ((0 : Int32), t) := by
  have hA := hw.A.2
  refine ew_for J (fun i => (nI i, ju t row a i)) (fun i R hi hR => ?_) (fun R => ?_)
  · obtain ⟨w1, w2, w3⟩ := ju_wf hw ha hrow i (fun k hk => hok k (by omega))
    have hR : R (nI (i + 1), ju t row a (i + 1)) := hR
    have r9 := hrow i
    refine ⟨fun q => absurd q (nI_ge (by omega) (by omega)), fun _ => ?_⟩
    show vp_in (nI i) 12 ∧ ((xs.2.1 0 (nI i).toNatClampNeg = 9 → wX1_firstThatCanNot_59 R Q (nI a) (nI n) (nI i) s1 (ju t row a i) s3 xs) ∧ (¬ xs.2.1 0 (nI i).toNatClampNeg = 9 → vp_in (nI i) 12 ∧ wX3_canRead (fun r3 => (¬ r3 = 0 → vp_in (nI i) 12 ∧ wX3_markRead (fun m7 => wX1_firstThatCanNot_59 R Q (nI a) (nI n) (nI i) s1 m7 s3 xs) (xs.2.1 0 (nI i).toNatClampNeg) (nI a) (ju t row a i)) ∧ (r3 = 0 → Q (nI i) (ju t row a i))) (xs.2.1 0 (nI i).toNatClampNeg) (nI a) (ju t row a i)))
    rw [cN (by omega), hx i (by omega)]
    refine ⟨vp_in_nI (by omega) (by decide), fun q => ?_, fun q => ⟨vp_in_nI (by omega) (by decide), p_canRead w1 (by omega) (by omega) ⟨fun z => ⟨vp_in_nI (by omega) (by decide), ?_⟩, fun z => ?_⟩⟩⟩
    · have q : row i = 9 := (nI_eq (a := row i) (b := 9) (by omega) (by decide)).mp q
      rw [ju_9 q] at hR
      refine p_passPaper w1 (idle := -1) (by omega) ?_
      show R (nI i + 1, wk1 (passP (-1) a (ju t row a i)))
      rw [nI_s]
      exact hR
    · have q : ¬ row i = 9 := fun e => q (by rw [e]; rfl)
      have cc : canR (ju t row a i) (row i) a = true := (hok i hi).resolve_left q
      obtain ⟨p6, un⟩ := canR_6 w1 (by omega) cc
      rw [ju_n q] at hR
      refine p_markRead w1 (by omega) p6 (p_passPaper (wf_mk w1 (by omega) p6 un) (idle := -1) (show a < An (ju t row a i) by omega) ?_)
      show R (nI i + 1, wk1 (passP (-1) a (mk (ju t row a i) (row i) a)))
      rw [nI_s]
      exact hR
    · have q : ¬ row i = 9 := fun e => q (by rw [e]; rfl)
      have cc : canR (ju t row a i) (row i) a = true := (hok i hi).resolve_left q
      rw [bI_0, cc] at z
      exact absurd z (by decide)
  · obtain ⟨w1, w2, w3⟩ := ju_wf hw ha hrow J hok
    have r9 := hrow J
    refine ⟨fun q => h1 ?_, fun q => ?_⟩
    · have := (nI_leI (a := n) (b := J) (by omega) (by omega)).mp q
      omega
    · have jn : J < n := Nat.lt_of_not_le fun z => q (nI_le (by omega) (by omega))
      obtain ⟨k1, k2⟩ := h2 jn
      have q9 : ¬ row J = 9 := fun e => k1 (Or.inl e)
      have qc : canR (ju t row a J) (row J) a = false := b_nt (fun e => k1 (Or.inr e))
      show vp_in (nI J) 12 ∧ ((xs.2.1 0 (nI J).toNatClampNeg = 9 → wX1_firstThatCanNot_59 R Q (nI a) (nI n) (nI J) s1 (ju t row a J) s3 xs) ∧ (¬ xs.2.1 0 (nI J).toNatClampNeg = 9 → vp_in (nI J) 12 ∧ wX3_canRead (fun r3 => (¬ r3 = 0 → vp_in (nI J) 12 ∧ wX3_markRead (fun m7 => wX1_firstThatCanNot_59 R Q (nI a) (nI n) (nI J) s1 m7 s3 xs) (xs.2.1 0 (nI J).toNatClampNeg) (nI a) (ju t row a J)) ∧ (r3 = 0 → Q (nI J) (ju t row a J))) (xs.2.1 0 (nI J).toNatClampNeg) (nI a) (ju t row a J)))
      rw [cN (by omega), hx J jn]
      refine ⟨vp_in_nI (by omega) (by decide), fun z => absurd ((nI_eq (a := row J) (b := 9) (by omega) (by decide)).mp z) q9, fun _ => ⟨vp_in_nI (by omega) (by decide), p_canRead w1 (by omega) (by omega) ?_⟩⟩
      rw [qc]
      exact ⟨fun z => absurd rfl z, fun _ => k2⟩
/-- what the reference's rows leave -/
theorem m_judge {t n0 : ew_M} (hw : wf t) {row : Nat → Nat} (hrow : ∀ i, row i < 10) {n a : Nat} (hn : n ≤ 12) (ha : a < An t) (hr : RT t n0) (h29 : n0.1 29 = -1) (h20 : n0.1 20 = nI n) (hx : ∀ i, i < n → n0.2.1 13 i = nI (row i)) {J : Nat} (hJ : J ≤ n) (hok : ∀ i, i < J → jok t row a i) {Q : Int32 → ew_M → Prop} (h1 : J = n → ∀ s, Fr n0 s → wX5_judge_95 Q (-9) s) (h2 : J < n → ¬ jok t row a J ∧ ∀ s, Fr n0 s → wX5_judge_95 Q (nI J) s) : ew_lp (fun (R : Int32 × Int32 × ew_M → Prop) (x : Int32 × Int32 × ew_M) => wX5_judge_23 R Q (nI a) x.1 x.2.1 x.2.2) ((-9 : Int32), (0 : Int32), n0) := by
  have hA := hw.A.2
  have hJ2 : ew_lp (fun (R : Int32 × Int32 × ew_M → Prop) (x : Int32 × Int32 × ew_M) => wX5_judge_23 R Q (nI a) x.1 x.2.1 x.2.2) ((-9 : Int32), (0 : Int32), n0) := by
    refine ew_forI (if J < n then J + 1 else J) (fun i y => ∃ s, y.2.1 = nI i ∧ y.2.2 = s ∧ Fr n0 s ∧ ((i ≤ J ∧ y.1 = -9 ∧ ∃ T, RT T s ∧ wf T ∧ An T = An t ∧ Eq5 a T (ju t row a i)) ∨ (i = J + 1 ∧ J < n ∧ y.1 = nI J))) (fun i R y hi hI hR => ?_) (fun R y hI => ?_) ⟨n0, rfl, rfl, Fr.rf n0, Or.inl ⟨by omega, rfl, t, hr, hw, rfl, Eq5.rf a t⟩⟩
    · obtain ⟨v2, v3, s⟩ := y
      obtain ⟨s', e1, e2, hf, hc⟩ := hI
      have e1 : v3 = nI i := e1
      have e2 : s = s' := e2
      subst e1
      subst e2
      have iJ : i ≤ J := by split at hi <;> omega
      have iN : i < n := by split at hi <;> omega
      rcases hc with ⟨-, ev, T, T1, T2, T3, T4⟩ | ⟨z, -, -⟩
      case inr => omega
      have ev : v2 = -9 := ev
      subst ev
      have r9 := hrow i
      have s29 : s.1 29 = -1 := by rw [hf.1 29 (by decide)]; exact h29
      have s13 : s.2.1 13 = n0.2.1 13 := hf.2.1 13 (by decide) (by decide) (by decide) (by decide)
      obtain ⟨w1, w2, w3⟩ := ju_wf hw ha hrow i (fun k hk => hok k (by omega))
      have step : ∀ (T' v s' : ew_M), RT T' s' → wf T' → An T' = An t → Eq5 a T' v → Fr n0 s' → i < J → ju t row a (i + 1) = wk1 (passP (-1) a v) → wX5_passes (fun m12 => wX5_judge_89 R Q (nI a) (-9) (nI i) m12) s' := fun T' v s' a1 a2 a3 a4 a5 a6 a7 => by
        refine m_passes1 a1 a2 (by rw [a5.1 29 (by decide)]; exact h29) fun o o1 o2 => hR _ ⟨o, nI_s i, rfl, a5.tr o2, Or.inl ⟨a6, rfl, passWi m1 T', o1, wf_passWi a2 _, ?_, ?_⟩⟩
        · unfold An
          rw [show (passWi m1 T').1 1 = T'.1 1 by unfold passWi; rw [wk1_1 _ _ (by decide), itP_1]]
          exact a3
        · rw [a7]
          exact passWi_E m1 (by omega) a4
      refine ⟨fun q => ?_, fun _ => ⟨fun q => absurd rfl q, fun _ => ?_⟩⟩
      · have q : s.1 20 ≤ nI i := q
        rw [hf.1 20 (by decide), h20] at q
        exact absurd q (nI_ge iN (by omega))
      · show vp_in (nI i) 12 ∧ ((¬ s.2.1 13 (nI i).toNatClampNeg = 9 → vp_in (nI i) 12 ∧ wX5_mayRead (fun r4 => (r4 = 0 → wX5_judge_89 R Q (nI a) (nI i) (nI i) s) ∧ (¬ r4 = 0 → vp_in (nI i) 12 ∧ wX5_hasNowRead (fun m8 => wX5_passes (fun m10 => wX5_judge_89 R Q (nI a) (-9) (nI i) m10) m8) (s.2.1 13 (nI i).toNatClampNeg) (nI a) s)) (s.2.1 13 (nI i).toNatClampNeg) (nI a) s) ∧ (s.2.1 13 (nI i).toNatClampNeg = 9 → wX5_passes (fun m12 => wX5_judge_89 R Q (nI a) (-9) (nI i) m12) s))
        rw [cN (by omega), s13, hx i iN]
        refine ⟨vp_in_nI (by omega) (by decide), fun q => ⟨vp_in_nI (by omega) (by decide), m_mayRead2 T1 T2 (by omega) r9 ⟨fun z => ?_, fun z => ⟨vp_in_nI (by omega) (by decide), ?_⟩⟩⟩, fun q => ?_⟩
        · have q : ¬ row i = 9 := fun e => q (by rw [e]; rfl)
          rw [bI_0, ← e5_canR T4] at z
          by_cases e : i = J
          · subst e
            refine hR _ ⟨s, nI_s i, rfl, hf, Or.inr ⟨rfl, iN, rfl⟩⟩
          · have c := (hok i (by omega)).resolve_left q
            rw [z] at c
            exact absurd c (by decide)
        · have q : ¬ row i = 9 := fun e => q (by rw [e]; rfl)
          have cT : canR T (row i) a = true := b_nf (fun e => z ((bI_0 _).mpr e))
          have cj : canR (ju t row a i) (row i) a = true := by rw [e5_canR T4]; exact cT
          obtain ⟨p6, un⟩ := canR_6 T2 (by omega) cT
          have iJ2 : i < J := by
            refine Nat.lt_of_le_of_ne iJ fun e => ?_
            subst e
            exact (h2 iN).1 (Or.inr cj)
          refine m_hasNowRead T1 T2 (by omega) p6 fun o o1 o2 => ?_
          exact step (mk T (row i) a) (mk (ju t row a i) (row i) a) o o1 (wf_mk T2 (by omega) p6 un) T3 (e5_mk T4 _) (hf.tr o2) iJ2 (ju_n q)
        · have q : row i = 9 := (nI_eq (a := row i) (b := 9) (by omega) (by decide)).mp q
          have iJ2 : i < J := by
            refine Nat.lt_of_le_of_ne iJ fun e => ?_
            subst e
            exact (h2 iN).1 (Or.inl q)
          exact step T (ju t row a i) s T1 T2 T3 T4 hf iJ2 (ju_9 q)
    · obtain ⟨v2, v3, s⟩ := y
      obtain ⟨s', e1, e2, hf, hc⟩ := hI
      have e1 : v3 = nI _ := e1
      have e2 : s = s' := e2
      subst e1
      subst e2
      rcases hc with ⟨i1, ev, -⟩ | ⟨-, i2, ev⟩
      · have ev : v2 = -9 := ev
        subst ev
        have jn : ¬ J < n := fun z => by rw [if_pos z] at i1; omega
        have je : J = n := by omega
        refine ⟨fun _ => h1 je s hf, fun q => ?_⟩
        have q : ¬ s.1 20 ≤ nI (if J < n then J + 1 else J) := q
        rw [if_neg jn, hf.1 20 (by decide), h20, je] at q
        exact absurd (nI_le (Nat.le_refl n) (by omega)) q
      · have ev : v2 = nI J := ev
        subst ev
        have hh := (h2 i2).2 s hf
        refine ⟨fun _ => hh, fun _ => ⟨fun _ => hh, fun q => ?_⟩⟩
        have q : nI J = -9 := q
        exact absurd (show nI J < 0 by rw [q]; decide) (nI_pos (by omega))
  exact hJ2
