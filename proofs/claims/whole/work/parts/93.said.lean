/-! the reference's side of what the clerk says, and the two together -/
def us (t : ew_M) (f : Nat) (T : Nat → Int64) : Nat → Int64
  | 0 => 0
  | i + 1 => us t f T i + t.2.2 0 (f + i) * T i
theorem us_p {t : ew_M} {f : Nat} {T : Nat → Int64} (h : ∀ k, k < 3 → 0 ≤ (t.2.2 0 (f + k) * T k).toInt ∧ (t.2.2 0 (f + k) * T k).toInt ≤ 160000000000) : ∀ i : Nat, i ≤ 3 → 0 ≤ (us t f T i).toInt ∧ (us t f T i).toInt ≤ 160000000000 * (i : Int) ∧ ((us t f T i).toInt = 0 ↔ azP t f T i)
  | 0, _ => by
    refine ⟨by show 0 ≤ (0 : Int64).toInt; decide, by show (0 : Int64).toInt ≤ _; decide, fun _ k hk => absurd hk (by omega), fun _ => rfl⟩
  | i + 1, hi => by
    obtain ⟨h1, h2, h3⟩ := us_p h i (by omega)
    obtain ⟨k1, k2⟩ := h i (by omega)
    have e : (us t f T (i + 1)).toInt = (us t f T i).toInt + (t.2.2 0 (f + i) * T i).toInt := by
      show (us t f T i + t.2.2 0 (f + i) * T i).toInt = _
      rw [Int64.toInt_add, L_bm (by omega) (by omega)]
    rw [e]
    refine ⟨by omega, by omega, fun q k hk => ?_, fun q => ?_⟩
    · by_cases e : k = i
      · subst e
        rw [L_0]
        omega
      · exact h3.mp (by omega) k (by omega)
    · have q1 := h3.mpr fun k hk => q k (by omega)
      have q2 := L_0.mp (q i (by omega))
      omega
theorem m_201 {n : ew_M} {p k : Nat} (hk : k < 5) (hp : p < 6) (h0 : ∀ i, i < 3 → 0 ≤ (n.2.2 0 ((k * 6 + p) * 3 + i)).toInt) (hg : 0 < g3 n ((k * 6 + p) * 3)) {Q : Int32 → ew_M → Prop} (h : ∀ u, LW n u ((k * 6 + p) * 3) → Q (n.2.1 11 (k * 6 + p) + 1) (hd u (k * 6 + p))) : wX5_hear_201 Q (nI p) (nI k) (nI ((k * 6 + p) * 3)) n := by
  refine m_less (by omega) h0 hg fun u hu => ?_
  rw [ix30m, cN (by omega)]
  refine ⟨vp_in_nI (by omega) (by decide), vp_in_nI (by omega) (by decide), vp_in_nI (by omega) (by decide), fun y hy => ?_⟩
  rw [sA_s] at hy
  subst hy
  have g := h u hu
  rw [← hu.2.1] at g
  exact g
theorem m_clerk {t m : ew_M} (hr : RT t m) (hw : wf t) {p k j : Nat} (hk5 : k < 5) (hk : k < An t) (hp : p < 6) (hj : j < 3) (hu : (rs t k).testBit p = false) {Q : Int32 → ew_M → Prop} (h1 : azP t ((k * 6 + p) * 3) (tu t j) 3 → ∀ u, LW m u ((k * 6 + p) * 3) → Q (m.2.1 11 (k * 6 + p) + 1) (hd u (k * 6 + p))) (h2 : ¬ azP t ((k * 6 + p) * 3) (tu t j) 3 → ∀ u, LW (muS m ((k * 6 + p) * 3) (tu t j) 3) u ((k * 6 + p) * 3) → Q (m.2.1 11 (k * 6 + p) + 1) (hd u (k * 6 + p))) : ew_lp (fun (R : Int64 × Int32 → Prop) (x : Int64 × Int32) => wX5_hear_91 R Q (nI p) (nI k) (nI j) (nI ((k * 6 + p) * 3)) x.1 x.2 m) ((0 : Int64), (0 : Int32)) := by
  have ew : ∀ i, i < 3 → m.2.2 0 ((k * 6 + p) * 3 + i) = t.2.2 0 ((k * 6 + p) * 3 + i) := fun i hi => by
    rw [hr.2.2.2.2.2 k p i hk hp hi, wO, hu, if_neg (by decide)]
  have hn : ∀ i, i < 3 → 0 ≤ (t.2.2 0 ((k * 6 + p) * 3 + i) * tu t j i).toInt ∧ (t.2.2 0 ((k * 6 + p) * 3 + i) * tu t j i).toInt ≤ 160000000000 := fun i hi => by
    obtain ⟨w1, w2⟩ := hw.w (k := (k * 6 + p) * 3 + i) (by omega)
    obtain ⟨t1, t2⟩ := tu_b hw j i
    rw [wt_i w1 w2 t1 t2]
    obtain ⟨x1, x2, x3⟩ := wt_b w1 w2 t1 t2
    exact ⟨x1, x3⟩
  have e16 : m.1 16 = t.1 3 := hr.1.2.2.2.1
  have e0 := ew 0 (by decide)
  rw [Nat.add_zero] at e0
  have g1 : g3 m ((k * 6 + p) * 3) = 1 := by
    have := hw.2.2.2.2.2.2.2 (k * 6 + p) (by omega)
    unfold g3 at this ⊢
    rw [e0, ew 1 (by decide), ew 2 (by decide)]
    exact this
  have azm : azP m ((k * 6 + p) * 3) (tu t j) 3 ↔ azP t ((k * 6 + p) * 3) (tu t j) 3 := ⟨fun h i hi => by rw [← ew i hi]; exact h i hi, fun h i hi => by rw [ew i hi]; exact h i hi⟩
  refine ew_for 3 (fun i => (us t ((k * 6 + p) * 3) (tu t j) i, nI i)) (fun i R hi hR => ?_) (fun R => ?_)
  · have hR : R (us t ((k * 6 + p) * 3) (tu t j) i + t.2.2 0 ((k * 6 + p) * 3 + i) * tu t j i, nI (i + 1)) := hR
    refine ⟨fun q => absurd q (nI_ge (a := i) (b := 3) hi (by decide)), fun _ => ?_⟩
    show vp_in (nI ((k * 6 + p) * 3) + nI i) 90 ∧ ((¬ nI i = nI j → R (us t ((k * 6 + p) * 3) (tu t j) i + ((m.2.2 0 (nI ((k * 6 + p) * 3) + nI i).toNatClampNeg) * ((100 : Int32) - m.1 16).toInt64), nI i + 1)) ∧ (nI i = nI j → R (us t ((k * 6 + p) * 3) (tu t j) i + ((m.2.2 0 (nI ((k * 6 + p) * 3) + nI i).toNatClampNeg) * ((2 : Int32) * m.1 16).toInt64), nI i + 1)))
    rw [nI_add, cN (by omega), ew i hi, e16, nI_s]
    unfold tu at hR
    refine ⟨vp_in_nI (by omega) (by decide), fun q => ?_, fun q => ?_⟩
    · rw [nI_eq (by omega) (by omega)] at q
      rw [if_neg q] at hR
      exact hR
    · rw [nI_eq (by omega) (by omega)] at q
      rw [if_pos q] at hR
      exact hR
  · obtain ⟨s1, s2, s3⟩ := us_p hn 3 (Nat.le_refl 3)
    refine ⟨fun _ => ?_, fun q => absurd (nI_le (a := 3) (b := 3) (by decide) (by decide)) q⟩
    have cm : lg_cmp (us t ((k * 6 + p) * 3) (tu t j) 3) 0 ≤ 0 ↔ azP t ((k * 6 + p) * 3) (tu t j) 3 := by
      rw [lg_cmp_le, Int64.le_iff_toInt_le, show (0 : Int64).toInt = 0 from rfl, ← s3]
      exact ⟨fun q => by omega, fun q => by omega⟩
    by_cases az : azP t ((k * 6 + p) * 3) (tu t j) 3
    · refine ⟨1, fun q => absurd q (nI_ge (a := 0) (b := 3) (by decide) (by decide)), fun _ => ⟨fun _ => m_201 hk5 hp (fun i hi => ?_) (Nat.lt_of_lt_of_eq Nat.one_pos g1.symm) (h1 az), fun q => absurd (cm.mpr az) q⟩⟩
      show 0 ≤ (m.2.2 0 ((k * 6 + p) * 3 + i)).toInt
      rw [ew i hi]
      exact (hw.w (by omega)).1
    · refine ew_for 3 (fun i => (nI i, muS m ((k * 6 + p) * 3) (tu t j) i)) (fun i R hi hR => ?_) (fun R => ?_)
      · have hR : R (nI (i + 1), ew_sW (muS m ((k * 6 + p) * 3) (tu t j) i) 0 ((k * 6 + p) * 3 + i) ((muS m ((k * 6 + p) * 3) (tu t j) i).2.2 0 ((k * 6 + p) * 3 + i) * tu t j i)) := hR
        refine ⟨fun q => absurd q (nI_ge (a := i) (b := 3) hi (by decide)), fun _ => ⟨fun q => absurd (cm.mp q) az, fun _ => ?_⟩⟩
        have e17 : (muS m ((k * 6 + p) * 3) (tu t j) i).1 16 = t.1 3 := by rw [(muS_p m _ _ i).1, e16]
        show vp_in (nI ((k * 6 + p) * 3) + nI i) 90 ∧ ((¬ nI i = nI j → vp_in (nI ((k * 6 + p) * 3) + nI i) 90 ∧ R (nI i + 1, ew_sW (muS m ((k * 6 + p) * 3) (tu t j) i) 0 (nI ((k * 6 + p) * 3) + nI i).toNatClampNeg (((muS m ((k * 6 + p) * 3) (tu t j) i).2.2 0 (nI ((k * 6 + p) * 3) + nI i).toNatClampNeg) * ((100 : Int32) - (muS m ((k * 6 + p) * 3) (tu t j) i).1 16).toInt64))) ∧ (nI i = nI j → vp_in (nI ((k * 6 + p) * 3) + nI i) 90 ∧ R (nI i + 1, ew_sW (muS m ((k * 6 + p) * 3) (tu t j) i) 0 (nI ((k * 6 + p) * 3) + nI i).toNatClampNeg (((muS m ((k * 6 + p) * 3) (tu t j) i).2.2 0 (nI ((k * 6 + p) * 3) + nI i).toNatClampNeg) * ((2 : Int32) * (muS m ((k * 6 + p) * 3) (tu t j) i).1 16).toInt64))))
        rw [nI_add, cN (by omega), e17, nI_s]
        have ti : ∀ z : Int64, z = tu t j i → R (nI (i + 1), ew_sW (muS m ((k * 6 + p) * 3) (tu t j) i) 0 ((k * 6 + p) * 3 + i) ((muS m ((k * 6 + p) * 3) (tu t j) i).2.2 0 ((k * 6 + p) * 3 + i) * z)) := fun z e => by rw [e]; exact hR
        refine ⟨vp_in_nI (by omega) (by decide), fun q => ⟨vp_in_nI (by omega) (by decide), ti _ ?_⟩, fun q => ⟨vp_in_nI (by omega) (by decide), ti _ ?_⟩⟩
        · rw [nI_eq (by omega) (by omega)] at q
          rw [tu, if_neg q]
        · rw [nI_eq (by omega) (by omega)] at q
          rw [tu, if_pos q]
      · obtain ⟨-, q2, -, -, q5⟩ := muS_p m ((k * 6 + p) * 3) (tu t j) 3
        refine ⟨fun _ => m_201 hk5 hp (fun i hi => ?_) (g3_mu (fun i hi => ?_) (fun z => az (azm.mp z))) fun u hu => ?_, fun q => absurd (nI_le (a := 3) (b := 3) (by decide) (by decide)) q⟩
        · show 0 ≤ ((muS m ((k * 6 + p) * 3) (tu t j) 3).2.2 0 ((k * 6 + p) * 3 + i)).toInt
          rw [q5 i hi, ew i hi]
          exact (hn i hi).1
        · rw [ew i hi]
          exact (hn i hi).1
        · show Q ((muS m ((k * 6 + p) * 3) (tu t j) 3).2.1 11 (k * 6 + p) + 1) _
          rw [q2]
          exact h2 az u hu
