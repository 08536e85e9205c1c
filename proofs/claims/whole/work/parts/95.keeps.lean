/-! what the reference keeps of a town and lays back -/
def C3 (d1 d2 d3 s1 s2 s3 : Nat) (m n : ew_M) (i : Nat) : Prop := n.1 = m.1 ∧ (∀ b, b ≠ d1 → b ≠ d2 → b ≠ d3 → n.2.1 b = m.2.1 b) ∧ n.2.2 = m.2.2 ∧ ∀ j, j < i → n.2.1 d1 j = m.2.1 s1 j ∧ n.2.1 d2 j = m.2.1 s2 j ∧ n.2.1 d3 j = m.2.1 s3 j
theorem C3.step {d1 d2 d3 s1 s2 s3 : Nat} {m n : ew_M} {i : Nat} (e12 : d1 ≠ d2) (e13 : d1 ≠ d3) (e23 : d2 ≠ d3) (f1 : s1 ≠ d1 ∧ s1 ≠ d2 ∧ s1 ≠ d3) (f2 : s2 ≠ d1 ∧ s2 ≠ d2 ∧ s2 ≠ d3) (f3 : s3 ≠ d1 ∧ s3 ≠ d2 ∧ s3 ≠ d3) (h : C3 d1 d2 d3 s1 s2 s3 m n i) : C3 d1 d2 d3 s1 s2 s3 m (ew_sA (ew_sA (ew_sA n d1 i (n.2.1 s1 i)) d2 i (n.2.1 s2 i)) d3 i (n.2.1 s3 i)) (i + 1) := by
  obtain ⟨h1, h2, h3, h4⟩ := h
  refine ⟨h1, fun b b1 b2 b3 => ?_, h3, fun j hj => ⟨?_, ?_, ?_⟩⟩
  · rw [sA_a b3, sA_a b2, sA_a b1]
    exact h2 b b1 b2 b3
  · rw [sA_a e13, sA_a e12]
    by_cases e : j = i
    · subst e
      rw [sA_s, h2 s1 f1.1 f1.2.1 f1.2.2]
    · rw [sA_i e]
      exact (h4 j (by omega)).1
  · rw [sA_a e23]
    by_cases e : j = i
    · subst e
      rw [sA_s, h2 s2 f2.1 f2.2.1 f2.2.2]
    · rw [sA_i e, sA_a e12.symm]
      exact (h4 j (by omega)).2.1
  · by_cases e : j = i
    · subst e
      rw [sA_s, h2 s3 f3.1 f3.2.1 f3.2.2]
    · rw [sA_i e, sA_a e23.symm, sA_a e13.symm]
      exact (h4 j (by omega)).2.2
def C1 (d s : Nat) (m n : ew_M) (i : Nat) : Prop := n.1 = m.1 ∧ (∀ b, b ≠ d → n.2.1 b = m.2.1 b) ∧ n.2.2 = m.2.2 ∧ ∀ j, j < i → n.2.1 d j = m.2.1 s j
theorem C1.step {d s : Nat} {m n : ew_M} {i : Nat} (f : s ≠ d) (h : C1 d s m n i) : C1 d s m (ew_sA n d i (n.2.1 s i)) (i + 1) := by
  obtain ⟨h1, h2, h3, h4⟩ := h
  refine ⟨h1, fun b b1 => ?_, h3, fun j hj => ?_⟩
  · rw [sA_a b1]
    exact h2 b b1
  · by_cases e : j = i
    · subst e
      rw [sA_s, h2 s f]
    · rw [sA_i e]
      exact h4 j (by omega)
def W1 (d s : Nat) (m n : ew_M) (i : Nat) : Prop := n.1 = m.1 ∧ n.2.1 = m.2.1 ∧ (∀ b, b ≠ d → n.2.2 b = m.2.2 b) ∧ ∀ j, j < i → n.2.2 d j = m.2.2 s j
theorem W1.step {d s : Nat} {m n : ew_M} {i : Nat} (f : s ≠ d) (h : W1 d s m n i) : W1 d s m (ew_sW n d i (n.2.2 s i)) (i + 1) := by
  obtain ⟨h1, h2, h3, h4⟩ := h
  refine ⟨h1, h2, fun b b1 => ?_, fun j hj => ?_⟩
  · rw [sW_a b1]
    exact h3 b b1
  · by_cases e : j = i
    · subst e
      rw [sW_s, h3 s f]
    · rw [sW_i e]
      exact h4 j (by omega)
/-- after a copy: which numbers, arrays, weights lie where -/
def KP (t36 t17 d1 d2 d3 d4 s1 s2 s3 s4 dw sw : Nat) (m n : ew_M) : Prop := (∀ i, i ≠ t36 → n.1 i = m.1 i) ∧ n.1 t36 = m.1 t17 ∧ (∀ b, b ≠ d1 → b ≠ d2 → b ≠ d3 → b ≠ d4 → n.2.1 b = m.2.1 b) ∧ (∀ b, b ≠ dw → n.2.2 b = m.2.2 b) ∧ (∀ j, j < 5 → n.2.1 d1 j = m.2.1 s1 j ∧ n.2.1 d2 j = m.2.1 s2 j ∧ n.2.1 d3 j = m.2.1 s3 j) ∧ (∀ j, j < 6 → n.2.1 d4 j = m.2.1 s4 j) ∧ ∀ j, j < 90 → n.2.2 dw j = m.2.2 sw j
theorem KP_of {t36 t17 d1 d2 d3 d4 s1 s2 s3 s4 dw sw : Nat} (e1 : d1 ≠ d4) (e2 : d2 ≠ d4) (e3 : d3 ≠ d4) (f4 : s4 ≠ d1 ∧ s4 ≠ d2 ∧ s4 ≠ d3) {m n o q : ew_M} (h1 : C3 d1 d2 d3 s1 s2 s3 m n 5) (h2 : C1 d4 s4 n o 6) (h3 : W1 dw sw o q 90) : KP t36 t17 d1 d2 d3 d4 s1 s2 s3 s4 dw sw m (ew_sI q t36 (q.1 t17)) := by
  obtain ⟨a1, a2, a3, a4⟩ := h1
  obtain ⟨b1, b2, b3, b4⟩ := h2
  obtain ⟨c1, c2, c3, c4⟩ := h3
  have e : q.1 = m.1 := c1.trans (b1.trans a1)
  refine ⟨fun i hi => ?_, ?_, fun b x1 x2 x3 x4 => ?_, fun b x => ?_, fun j hj => ?_, fun j hj => ?_, fun j hj => ?_⟩
  · rw [sI_i hi, e]
  · rw [sI_s, e]
  · show q.2.1 b = _
    rw [c2, b2 b x4]
    exact a2 b x1 x2 x3
  · show q.2.2 b = _
    rw [c3 b x, b3, a3]
  · show q.2.1 d1 j = _ ∧ q.2.1 d2 j = _ ∧ q.2.1 d3 j = _
    rw [c2, b2 d1 e1, b2 d2 e2, b2 d3 e3]
    exact a4 j hj
  · show q.2.1 d4 j = _
    rw [c2, b4 j hj, a2 s4 f4.1 f4.2.1 f4.2.2]
  · show q.2.2 dw j = _
    rw [c4 j hj, b3, a3]
theorem m_keeps {m : ew_M} {Q : ew_M → Prop} (h : ∀ n, KP 36 17 19 20 21 22 8 9 10 3 1 0 m n → Q n) : wX5_keeps Q m := by
  refine ew_forI 5 (fun i y => ∃ n, y = (nI i, n) ∧ C3 19 20 21 8 9 10 m n i) (fun i R y hi hI hR => ?_) (fun R y hI => ?_) ⟨m, rfl, rfl, fun _ _ _ _ => rfl, rfl, fun j hj => absurd hj (by omega)⟩
  · obtain ⟨n, rfl, hn⟩ := hI
    refine ⟨fun q => absurd q (nI_ge (a := i) (b := 5) hi (by decide)), fun _ => ⟨vp_in_nI hi (by decide), vp_in_nI hi (by decide), vp_in_nI hi (by decide), vp_in_nI hi (by decide), vp_in_nI hi (by decide), vp_in_nI hi (by decide), fun z hz => ?_⟩⟩
    have hz : z = ew_sA (ew_sA (ew_sA n 19 (nI i).toNatClampNeg (n.2.1 8 (nI i).toNatClampNeg)) 20 (nI i).toNatClampNeg (n.2.1 9 (nI i).toNatClampNeg)) 21 (nI i).toNatClampNeg (n.2.1 10 (nI i).toNatClampNeg) := hz
    rw [cN (by omega)] at hz
    exact hR _ ⟨z, by rw [nI_s], by rw [hz]; exact hn.step (by decide) (by decide) (by decide) (by decide) (by decide) (by decide)⟩
  · obtain ⟨n, rfl, hn⟩ := hI
    refine ⟨fun _ => ?_, fun q => absurd (nI_le (a := 5) (b := 5) (by decide) (by decide)) q⟩
    refine ew_forI 6 (fun i y => ∃ o, y = (nI i, o) ∧ C1 22 3 n o i) (fun i R y hi hI hR => ?_) (fun R y hI => ?_) ⟨n, rfl, rfl, fun _ _ => rfl, rfl, fun j hj => absurd hj (by omega)⟩
    · obtain ⟨o, rfl, ho⟩ := hI
      refine ⟨fun q => absurd q (nI_ge (a := i) (b := 6) hi (by decide)), fun _ => ⟨vp_in_nI hi (by decide), vp_in_nI hi (by decide), ?_⟩⟩
      show R (nI i + 1, ew_sA o 22 (nI i).toNatClampNeg (o.2.1 3 (nI i).toNatClampNeg))
      rw [cN (by omega), nI_s]
      exact hR _ ⟨_, rfl, ho.step (by decide)⟩
    · obtain ⟨o, rfl, ho⟩ := hI
      refine ⟨fun _ => ?_, fun q => absurd (nI_le (a := 6) (b := 6) (by decide) (by decide)) q⟩
      refine ew_forI 90 (fun i y => ∃ q, y = (nI i, q) ∧ W1 1 0 o q i) (fun i R y hi hI hR => ?_) (fun R y hI => ?_) ⟨o, rfl, rfl, rfl, fun _ _ => rfl, fun j hj => absurd hj (by omega)⟩
      · obtain ⟨q, rfl, hq⟩ := hI
        refine ⟨fun z => absurd z (nI_ge (a := i) (b := 90) hi (by decide)), fun _ => ⟨vp_in_nI hi (by decide), vp_in_nI hi (by decide), ?_⟩⟩
        show R (nI i + 1, ew_sW q 1 (nI i).toNatClampNeg (q.2.2 0 (nI i).toNatClampNeg))
        rw [cN (by omega), nI_s]
        exact hR _ ⟨_, rfl, hq.step (by decide)⟩
      · obtain ⟨q, rfl, hq⟩ := hI
        exact ⟨fun _ => h _ (KP_of (by decide) (by decide) (by decide) (by decide) hn ho hq), fun z => absurd (nI_le (a := 90) (b := 90) (by decide) (by decide)) z⟩
theorem m_lays {m : ew_M} {Q : ew_M → Prop} (h : ∀ n, KP 17 36 8 9 10 3 19 20 21 22 0 1 m n → Q n) : wX5_lays Q m := by
  refine ew_forI 5 (fun i y => ∃ n, y = (nI i, n) ∧ C3 8 9 10 19 20 21 m n i) (fun i R y hi hI hR => ?_) (fun R y hI => ?_) ⟨m, rfl, rfl, fun _ _ _ _ => rfl, rfl, fun j hj => absurd hj (by omega)⟩
  · obtain ⟨n, rfl, hn⟩ := hI
    refine ⟨fun q => absurd q (nI_ge (a := i) (b := 5) hi (by decide)), fun _ => ⟨vp_in_nI hi (by decide), vp_in_nI hi (by decide), vp_in_nI hi (by decide), vp_in_nI hi (by decide), vp_in_nI hi (by decide), vp_in_nI hi (by decide), fun z hz => ?_⟩⟩
    have hz : z = ew_sA (ew_sA (ew_sA n 8 (nI i).toNatClampNeg (n.2.1 19 (nI i).toNatClampNeg)) 9 (nI i).toNatClampNeg (n.2.1 20 (nI i).toNatClampNeg)) 10 (nI i).toNatClampNeg (n.2.1 21 (nI i).toNatClampNeg) := hz
    rw [cN (by omega)] at hz
    exact hR _ ⟨z, by rw [nI_s], by rw [hz]; exact hn.step (by decide) (by decide) (by decide) (by decide) (by decide) (by decide)⟩
  · obtain ⟨n, rfl, hn⟩ := hI
    refine ⟨fun _ => ?_, fun q => absurd (nI_le (a := 5) (b := 5) (by decide) (by decide)) q⟩
    refine ew_forI 6 (fun i y => ∃ o, y = (nI i, o) ∧ C1 3 22 n o i) (fun i R y hi hI hR => ?_) (fun R y hI => ?_) ⟨n, rfl, rfl, fun _ _ => rfl, rfl, fun j hj => absurd hj (by omega)⟩
    · obtain ⟨o, rfl, ho⟩ := hI
      refine ⟨fun q => absurd q (nI_ge (a := i) (b := 6) hi (by decide)), fun _ => ⟨vp_in_nI hi (by decide), vp_in_nI hi (by decide), ?_⟩⟩
      show R (nI i + 1, ew_sA o 3 (nI i).toNatClampNeg (o.2.1 22 (nI i).toNatClampNeg))
      rw [cN (by omega), nI_s]
      exact hR _ ⟨_, rfl, ho.step (by decide)⟩
    · obtain ⟨o, rfl, ho⟩ := hI
      refine ⟨fun _ => ?_, fun q => absurd (nI_le (a := 6) (b := 6) (by decide) (by decide)) q⟩
      refine ew_forI 90 (fun i y => ∃ q, y = (nI i, q) ∧ W1 0 1 o q i) (fun i R y hi hI hR => ?_) (fun R y hI => ?_) ⟨o, rfl, rfl, rfl, fun _ _ => rfl, fun j hj => absurd hj (by omega)⟩
      · obtain ⟨q, rfl, hq⟩ := hI
        refine ⟨fun z => absurd z (nI_ge (a := i) (b := 90) hi (by decide)), fun _ => ⟨vp_in_nI hi (by decide), vp_in_nI hi (by decide), ?_⟩⟩
        show R (nI i + 1, ew_sW q 0 (nI i).toNatClampNeg (q.2.2 1 (nI i).toNatClampNeg))
        rw [cN (by omega), nI_s]
        exact hR _ ⟨_, rfl, hq.step (by decide)⟩
      · obtain ⟨q, rfl, hq⟩ := hI
        exact ⟨fun _ => h _ (KP_of (by decide) (by decide) (by decide) (by decide) hn ho hq), fun z => absurd (nI_le (a := 90) (b := 90) (by decide) (by decide)) z⟩
/-- kept, then other things in mind, then laid back: the same town again -/
theorem back {t m o q : ew_M} (hr : RT t m) (hA : An t ≤ 5) (h1 : ∀ i, (i = 0 ∨ i = 5 ∨ i = 15 ∨ i = 16 ∨ i = 18 ∨ i = 20 ∨ i = 29 ∨ 41 ≤ i) → o.1 i = m.1 i) (h2 : o.1 36 = m.1 17) (h3 : ∀ b, (b ≤ 2 ∨ (4 ≤ b ∧ b ≤ 7) ∨ (11 ≤ b ∧ b ≤ 14) ∨ 24 ≤ b) → o.2.1 b = m.2.1 b) (h4 : ∀ j, j < 5 → o.2.1 19 j = m.2.1 8 j ∧ o.2.1 20 j = m.2.1 9 j ∧ o.2.1 21 j = m.2.1 10 j) (h5 : ∀ j, j < 6 → o.2.1 22 j = m.2.1 3 j) (h6 : ∀ j, j < 90 → o.2.2 1 j = m.2.2 0 j) (h7 : o.2.2 2 = m.2.2 2) (hq : KP 17 36 8 9 10 3 19 20 21 22 0 1 o q) : RT t q ∧ Fo m q := by
  obtain ⟨k1, k2, k3, k4, k5, k6, k7⟩ := hq
  obtain ⟨⟨r0, r5, r15, r16, r17⟩, rp, ra, rk, rh, rw'⟩ := hr
  have ei : ∀ i, (i = 0 ∨ i = 5 ∨ i = 15 ∨ i = 16 ∨ i = 18 ∨ i = 20 ∨ i = 29 ∨ 41 ≤ i) → q.1 i = m.1 i := fun i hi => (k1 i (by omega)).trans (h1 i hi)
  have eb : ∀ b, (b ≤ 2 ∨ (4 ≤ b ∧ b ≤ 7) ∨ (11 ≤ b ∧ b ≤ 14) ∨ 24 ≤ b) → q.2.1 b = m.2.1 b := fun b hb => (k3 b (by omega) (by omega) (by omega) (by omega)).trans (h3 b hb)
  refine ⟨⟨⟨?_, ?_, ?_, ?_, ?_⟩, fun j hj => ?_, fun a ha => ?_, fun k hk => ?_, fun k hk => ?_, fun a p k ha hp hk => ?_⟩, fun i hi => ei i (by omega), fun b hb => eb b (by omega), (k4 2 (by decide)).trans h7⟩
  · rw [ei 0 (by omega)]; exact r0
  · rw [ei 5 (by omega)]; exact r5
  · rw [ei 15 (by omega)]; exact r15
  · rw [ei 16 (by omega)]; exact r16
  · rw [k2, h2]; exact r17
  · rw [eb 0 (by omega), eb 1 (by omega), eb 2 (by omega), k6 j hj, h5 j hj]
    exact rp j hj
  · obtain ⟨x1, x2, x3⟩ := k5 a ha
    obtain ⟨y1, y2, y3⟩ := h4 a ha
    rw [eb 4 (by omega), eb 7 (by omega), x1, x2, x3, y1, y2, y3]
    exact ra a ha
  · rw [eb 5 (by omega), eb 6 (by omega)]
    exact rk k hk
  · rw [eb 11 (by omega)]
    exact rh k hk
  · rw [k7 _ (by omega), h6 _ (by omega)]
    exact rw' a p k ha hp hk
