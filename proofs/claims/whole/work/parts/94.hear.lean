/-! hear: the town and the reference after it -/
theorem hd_a {u : ew_M} {i b : Nat} (h : b ≠ 11) : (hd u i).2.1 b = u.2.1 b := sA_a h
theorem RT_hd {t u m v : ew_M} (hr : RT t m) {k p : Nat} (hu : (rs t k).testBit p = false) (hp : p < 6) (u1 : u.1 = t.1) (u2 : u.2.1 = t.2.1) (u4 : ∀ j, (j < (k * 6 + p) * 3 ∨ (k * 6 + p) * 3 + 3 ≤ j) → u.2.2 0 j = t.2.2 0 j) (v1 : v.1 = m.1) (v2 : v.2.1 = m.2.1) (v4 : ∀ j, (j < (k * 6 + p) * 3 ∨ (k * 6 + p) * 3 + 3 ≤ j) → v.2.2 0 j = m.2.2 0 j) (e : ∀ i, i < 3 → v.2.2 0 ((k * 6 + p) * 3 + i) = u.2.2 0 ((k * 6 + p) * 3 + i)) (hi : k * 6 + p < 30) : RT (hd u (k * 6 + p)) (hd v (k * 6 + p)) := by
  have eu : ∀ b, b ≠ 11 → (hd u (k * 6 + p)).2.1 b = t.2.1 b := fun b hb => by rw [hd_a hb, u2]
  have ev : ∀ b, b ≠ 11 → (hd v (k * 6 + p)).2.1 b = m.2.1 b := fun b hb => by rw [hd_a hb, v2]
  have d1 : (hd u (k * 6 + p)).1 = t.1 := u1
  have d2 : (hd v (k * 6 + p)).1 = m.1 := v1
  obtain ⟨r1, r2, r3, r4, r5, r6⟩ := hr
  refine ⟨?_, ?_, ?_, ?_, fun q hq => ?_, fun a' p' k' ha hp' hk' => ?_⟩
  · rw [d1, d2]; exact r1
  · rw [eu 0 (by decide), eu 1 (by decide), eu 2 (by decide), eu 3 (by decide), ev 0 (by decide), ev 1 (by decide), ev 2 (by decide), ev 3 (by decide)]; exact r2
  · rw [eu 4 (by decide), eu 5 (by decide), eu 6 (by decide), eu 7 (by decide), eu 8 (by decide), ev 4 (by decide), ev 7 (by decide), ev 8 (by decide), ev 9 (by decide), ev 10 (by decide)]; exact r3
  · rw [eu 9 (by decide), eu 10 (by decide), ev 5 (by decide), ev 6 (by decide)]; exact r4
  · by_cases z : q = k * 6 + p
    · subst z
      rw [hd, hd, sA_s, sA_s, u2, v2, r5 _ hq]
    · rw [hd, hd, sA_i z, sA_i z, u2, v2, r5 _ hq]
  · have eA : An (hd u (k * 6 + p)) = An t := by unfold An; rw [d1]
    have eR : rs (hd u (k * 6 + p)) a' = rs t a' := by unfold rs; rw [eu 5 (by decide)]
    have eT : tr (hd u (k * 6 + p)) a' = tr t a' := by unfold tr; rw [eu 7 (by decide)]
    rw [eA] at ha
    have o := r6 a' p' k' ha hp' hk'
    show v.2.2 0 ((a' * 6 + p') * 3 + k') = _
    unfold wO at o ⊢
    rw [eR, eT]
    show _ = if (rs t a').testBit p' = true then (if k' = tr t a' then 1 else 0) else u.2.2 0 ((a' * 6 + p') * 3 + k')
    by_cases z : a' * 6 + p' = k * 6 + p
    · have za : a' = k := by omega
      have zp : p' = p := by omega
      subst za
      subst zp
      rw [hu, if_neg (by decide)]
      exact e k' hk'
    · rw [v4 _ (by omega), u4 _ (by omega)]
      exact o
theorem wf_hd {t u : ew_M} (hw : wf t) {k p : Nat} (u1 : u.1 = t.1) (u2 : u.2.1 = t.2.1) (u4 : ∀ j, (j < (k * 6 + p) * 3 ∨ (k * 6 + p) * 3 + 3 ≤ j) → u.2.2 0 j = t.2.2 0 j) (hi : k * 6 + p < 30) (hh : cl (t.2.1 11 (k * 6 + p)) < 3) (hb : ∀ i, i < 3 → 0 ≤ (u.2.2 0 ((k * 6 + p) * 3 + i)).toInt ∧ (u.2.2 0 ((k * 6 + p) * 3 + i)).toInt ≤ 100 * 200 ^ (cl (t.2.1 11 (k * 6 + p)) + 1)) (hg : g3 u ((k * 6 + p) * 3) = 1) : wf (hd u (k * 6 + p)) := by
  have eu : ∀ b, b ≠ 11 → (hd u (k * 6 + p)).2.1 b = t.2.1 b := fun b hb => by rw [hd_a hb, u2]
  have d1 : (hd u (k * 6 + p)).1 = t.1 := u1
  have h11 : (hd u (k * 6 + p)).2.1 11 (k * 6 + p) = nI (cl (t.2.1 11 (k * 6 + p)) + 1) := by
    rw [hd, sA_s, u2, (hw.2.2.2.2.2.1 _ hi).1, nI_s, cl_nI (by omega)]
  have h12 : ∀ j, j ≠ k * 6 + p → (hd u (k * 6 + p)).2.1 11 j = t.2.1 11 j := fun j hj => by rw [hd, sA_i hj, u2]
  obtain ⟨w1, w2, w3, w4, w5, w6, w7, w8⟩ := hw
  have eA : An (hd u (k * 6 + p)) = An t := by unfold An; rw [d1]
  refine ⟨?_, ?_, ?_, fun b hb2 => ?_, ?_, fun j hj => ?_, fun j hj => ?_, fun q hq => ?_⟩
  · rw [d1]; exact w1
  · rw [eu 0 (by decide), eu 1 (by decide), eu 2 (by decide)]; exact w2
  · rw [eu 4 (by decide), eu 5 (by decide), eu 6 (by decide), eu 7 (by decide)]; exact w3
  · rw [eA] at hb2
    have eB : bs (hd u (k * 6 + p)) b = bs t b := by unfold bs; rw [eu 4 (by decide)]
    have eR : rs (hd u (k * 6 + p)) b = rs t b := by unfold rs; rw [eu 5 (by decide)]
    have eP : Pn (hd u (k * 6 + p)) = Pn t := by unfold Pn; rw [d1]
    rw [eB, eR, eP]
    exact w4 b hb2
  · rw [eu 9 (by decide), eu 10 (by decide)]; exact w5
  · by_cases z : j = k * 6 + p
    · subst z
      rw [h11]
      exact isN_of (by omega) (by decide)
    · rw [h12 j z]
      exact w6 j hj
  · show 0 ≤ (u.2.2 0 j).toInt ∧ (u.2.2 0 j).toInt ≤ 100 * 200 ^ cl ((hd u (k * 6 + p)).2.1 11 (j / 3))
    by_cases z : j / 3 = k * 6 + p
    · rw [z, h11, cl_nI (by omega)]
      have := hb (j - (k * 6 + p) * 3) (by omega)
      rw [show (k * 6 + p) * 3 + (j - (k * 6 + p) * 3) = j by omega] at this
      exact this
    · rw [h12 _ z, u4 j (by omega)]
      exact w7 j hj
  · rw [eA] at hq
    show g3 u (q * 3) = 1
    by_cases z : q = k * 6 + p
    · subst z
      exact hg
    · have g := w8 q hq
      unfold g3 at g ⊢
      rw [u4 _ (by omega), u4 _ (by omega), u4 _ (by omega)]
      exact g
theorem pow_up (h : Nat) {x : Int} (hx : x ≤ 100 * 200 ^ h) : x ≤ 100 * 200 ^ (h + 1) ∧ x * 200 ≤ 100 * 200 ^ (h + 1) := by
  have p : (0 : Int) < 200 ^ h := Int.pow_pos (by decide)
  rw [Int.pow_succ]
  omega
theorem Fo_hd {m v : ew_M} {i : Nat} (v1 : v.1 = m.1) (v2 : v.2.1 = m.2.1) (v3 : ∀ b, b ≠ 0 → v.2.2 b = m.2.2 b) : Fo m (hd v i) :=
  ⟨fun j _ => congrFun v1 j, fun b hb => by rw [hd_a (by omega), v2], v3 2 (by decide)⟩
section REL
variable {a b c lt ra xs m : ew_M}
/-- hear -/
theorem s_hear (hR : Rel a c lt xs m) (x y z : Int32) : wX4_hear (fun r a' xs' => wX5_hear (fun r' m' => r = r' ∧ Rel a' c lt xs' m') x y z m) x y z a b c lt ra xs := by
  have hA := hR.w.A.2
  have hP := hR.w.P.2
  have hw := hR.w
  have hr := hR.r
  refine p_noPair hw (fun p k hp hk ex ey => ?_) (fun q => ?_)
  · subst ex
    subst ey
    have p6 : p < 6 := by omega
    have k5 : k < 5 := by omega
    refine ⟨fun q => absurd rfl q, fun _ => noThing (fun j hj e => ?_) (fun q => ?_)⟩
    · subst e
      refine ⟨fun _ => p_isUnread hw k5 (by omega) ⟨fun q => ?_, fun q => p_refuse (k := 3) (by decide) ?_⟩, fun q => absurd rfl q⟩
      · have un : unr a p k = true := b_nf (fun e => q ((bI_0 _).mpr e))
        have un1 : (bs a k).testBit p = true := by rw [unr, Bool.and_eq_true] at un; exact un.1
        have un2 : (rs a k).testBit p = false := by
          rw [unr, Bool.and_eq_true] at un
          exact b_nt (fun z => by have := un.2; rw [z] at this; exact absurd this (by decide))
        obtain ⟨h1, h4⟩ := hw.2.2.2.2.2.1 (k * 6 + p) (by omega)
        have hm : m.2.1 11 (k * 6 + p) = a.2.1 11 (k * 6 + p) := hr.2.2.2.2.1 _ (by omega)
        have go : ∀ {P : Int32 → ew_M → Prop}, ((¬ m.2.1 11 (k * 6 + p) = 3 → ew_lp (fun (R : Int64 × Int32 → Prop) (x : Int64 × Int32) => wX5_hear_91 R P (nI p) (nI k) (nI j) (nI ((k * 6 + p) * 3)) x.1 x.2 m) ((0 : Int64), (0 : Int32))) ∧ (m.2.1 11 (k * 6 + p) = 3 → wX5_refuse P (-6) m)) → wX5_hear P (nI p) (nI k) (nI j) m := fun {P} g => by
          refine m_pair_y2 hR hp hk (m_in ?_)
          rw [if_neg (in02 hj)]
          refine ⟨fun _ => m_isBound hr hw k5 (by omega) ⟨fun q2 => ?_, fun _ => m_hasRead hr hw k5 (by omega) ⟨fun _ => ?_, fun q2 => ?_⟩⟩, fun q2 => absurd q2 z10⟩
          · rw [bI_0, un1] at q2
            exact absurd q2 (by decide)
          · show vp_in ((6 : Int32) * nI k + nI p) 30 ∧ ((¬ m.2.1 11 ((6 : Int32) * nI k + nI p).toNatClampNeg = 3 → ew_lp (fun (R : Int64 × Int32 → Prop) (x : Int64 × Int32) => wX5_hear_91 R P (nI p) (nI k) (nI j) ((3 : Int32) * ((6 : Int32) * nI k + nI p)) x.1 x.2 m) ((0 : Int64), (0 : Int32))) ∧ (m.2.1 11 ((6 : Int32) * nI k + nI p).toNatClampNeg = 3 → wX5_refuse P (-6) m))
            rw [ix90m, ix30m, cN (by omega)]
            exact ⟨vp_in_nI (by omega) (by decide), g⟩
          · rw [bI_0, un2] at q2
            exact absurd rfl q2
        show vp_in (nI k * (6 : Int32) + nI p) 30 ∧ _
        rw [ix30]
        refine ⟨vp_in_nI (by omega) (by decide), fun q3 => ?_, fun q3 => p_refuse (k := 6) (by decide) ?_⟩
        · rw [cN (by omega), h1] at q3
          have h3 : cl (a.2.1 11 (k * 6 + p)) < 3 := (nI_ltI (a := cl (a.2.1 11 (k * 6 + p))) (b := 3) (by omega) (by decide)).mp q3
          have n3 : ¬ m.2.1 11 (k * 6 + p) = 3 := fun e => by
            rw [hm, h1] at e
            have := (nI_eq (a := cl (a.2.1 11 (k * 6 + p))) (b := 3) (by omega) (by decide)).mp e
            omega
          have ew : ∀ i, i < 3 → m.2.2 0 ((k * 6 + p) * 3 + i) = a.2.2 0 ((k * 6 + p) * 3 + i) := fun i hi => by
            rw [hr.2.2.2.2.2 k p i hk p6 hi, wO, un2, if_neg (by decide)]
          have wb := fun i (hi : i < 3) => hw.2.2.2.2.2.2.1 ((k * 6 + p) * 3 + i) (by omega)
          have d3 : ∀ i, i < 3 → ((k * 6 + p) * 3 + i) / 3 = k * 6 + p := fun i hi => by omega
          have hn : ∀ i, i < 3 → (a.2.2 0 ((k * 6 + p) * 3 + i) * tu a j i).toInt = (a.2.2 0 ((k * 6 + p) * 3 + i)).toInt * (tu a j i).toInt ∧ 0 ≤ (a.2.2 0 ((k * 6 + p) * 3 + i) * tu a j i).toInt ∧ (a.2.2 0 ((k * 6 + p) * 3 + i) * tu a j i).toInt ≤ (a.2.2 0 ((k * 6 + p) * 3 + i)).toInt * 200 := fun i hi => by
            obtain ⟨w1, w2⟩ := hw.w (k := (k * 6 + p) * 3 + i) (by omega)
            obtain ⟨t1, t2⟩ := tu_b hw j i
            obtain ⟨x1, x2, x3⟩ := wt_b w1 w2 t1 t2
            rw [wt_i w1 w2 t1 t2]
            exact ⟨rfl, x1, x2⟩
          refine p_clerk hw k5 p6 hj (fun az => ?_) (fun az u hu => ?_)
          · refine go ⟨fun _ => m_clerk hr hw k5 hk p6 hj un2 (fun _ v hv => ?_) (fun z => absurd az z), fun z => absurd z n3⟩
            have g1 : g3 m ((k * 6 + p) * 3) = 1 := by
              have e0 := ew 0 (by decide)
              rw [Nat.add_zero] at e0
              have := hw.2.2.2.2.2.2.2 (k * 6 + p) (by omega)
              unfold g3 at this ⊢
              rw [e0, ew 1 (by decide), ew 2 (by decide)]
              exact this
            refine ⟨by rw [hm], hR.up (wf_hd hw rfl rfl (fun _ _ => rfl) (by omega) h3 (fun i hi => ?_) (hw.2.2.2.2.2.2.2 _ (by omega))) (RT_hd hr un2 p6 rfl rfl (fun _ _ => rfl) hv.1 hv.2.1 hv.2.2.2.1 (fun i hi => ?_) (by omega)) (Fo_hd hv.1 hv.2.1 hv.2.2.1)⟩
            · have := wb i hi
              rw [d3 i hi] at this
              exact ⟨this.1, (pow_up _ this.2).1⟩
            · rw [← Int64.toInt_inj, hv.2.2.2.2 i hi, g1, ew i hi]
              exact Int.ediv_one _
          · refine go ⟨fun _ => m_clerk hr hw k5 hk p6 hj un2 (fun z => absurd z az) (fun _ v hv => ?_), fun z => absurd z n3⟩
            obtain ⟨a1, a2, a3, a4, a5⟩ := muS_p a ((k * 6 + p) * 3) (tu a j) 3
            obtain ⟨b1, b2, b3, b4, b5⟩ := muS_p m ((k * 6 + p) * 3) (tu a j) 3
            have pos := g3_mu (fun i hi => (hn i hi).2.1) az
            refine ⟨by rw [hm], hR.up (wf_hd hw (hu.1.trans a1) (hu.2.1.trans a2) (fun q hq => (hu.2.2.2.1 q hq).trans (a4 q hq)) (by omega) h3 (fun i hi => ?_) (LW_g3 hu (fun i hi => ?_) pos)) (RT_hd hr un2 p6 (hu.1.trans a1) (hu.2.1.trans a2) (fun q hq => (hu.2.2.2.1 q hq).trans (a4 q hq)) (hv.1.trans b1) (hv.2.1.trans b2) (fun q hq => (hv.2.2.2.1 q hq).trans (b4 q hq)) (LW_eq hu hv (fun i hi => ?_)) (by omega)) (Fo_hd (hv.1.trans b1) (hv.2.1.trans b2) (fun q hq => (hv.2.2.1 q hq).trans (b3 q hq)))⟩
            · obtain ⟨x1, x2, x3⟩ := hn i hi
              have y := wb i hi
              rw [d3 i hi] at y
              rw [hu.2.2.2.2 i hi, a5 i hi]
              have z1 := Int.ediv_le_self (a := (a.2.2 0 ((k * 6 + p) * 3 + i) * tu a j i).toInt) (g3 (muS a ((k * 6 + p) * 3) (tu a j) 3) ((k * 6 + p) * 3) : Int) x2
              have z2 := (pow_up _ y.2).2
              exact ⟨Int.ediv_nonneg x2 (by omega), Int.le_trans z1 (Int.le_trans x3 z2)⟩
            · rw [a5 i hi]
              exact (hn i hi).2.1
            · rw [a5 i hi, b5 i hi, ew i hi]
        · rw [cN (by omega), h1] at q3
          have h3 : ¬ cl (a.2.1 11 (k * 6 + p)) < 3 := fun z => q3 ((nI_ltI (a := cl (a.2.1 11 (k * 6 + p))) (b := 3) (by omega) (by decide)).mpr z)
          have e3 : m.2.1 11 (k * 6 + p) = 3 := by
            rw [hm, h1, show cl (a.2.1 11 (k * 6 + p)) = 3 by omega]
            rfl
          exact go ⟨fun z => absurd e3 z, fun _ => m_refuse (k := 6) (by decide) (by decide) ⟨by decide, hR.rf (by decide)⟩⟩
      · have un : unr a p k = false := (bI_0 _).mp q
        refine m_pair_y2 hR hp hk (m_in ?_)
        rw [if_neg (in02 hj)]
        refine ⟨fun _ => m_isBound hr hw k5 (by omega) ⟨fun _ => ?_, fun q2 => m_hasRead hr hw k5 (by omega) ⟨fun q3 => ?_, fun _ => ?_⟩⟩, fun q2 => absurd q2 z10⟩
        · exact m_refuse (k := 3) (by decide) (by decide) ⟨by decide, hR.rf (by decide)⟩
        · rw [bI_0] at q2 q3
          rw [unr, b_nf q2, q3] at un
          exact absurd un (by decide)
        · exact m_refuse (k := 3) (by decide) (by decide) ⟨by decide, hR.rf (by decide)⟩
    · refine ⟨fun q2 => absurd q2 z10, fun _ => p_refuse (k := 1) (by decide) ?_⟩
      refine m_pair_y2 hR hp hk (m_in ?_)
      rw [if_pos q]
      exact ⟨fun q2 => absurd rfl q2, fun _ => m_refuse (k := 1) (by decide) (by decide) ⟨by decide, hR.rf (by decide)⟩⟩
  · refine ⟨fun _ => p_refuse (k := 1) (by decide) ?_, fun q2 => absurd q2 z10⟩
    exact m_pair_n2 hR q (m_refuse (k := 1) (by decide) (by decide) ⟨by decide, hR.rf (by decide)⟩)
end REL
