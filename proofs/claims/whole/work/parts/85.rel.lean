/-! WHAT HOLDS BETWEEN CALLS: the class's towns (now, kept), its letters, its row and refusals, beside the reference -/
def RI (c m : ew_M) : Prop :=
  (m.1 42 = c.1 0 ∧ m.1 43 = c.1 1 ∧ m.1 44 = c.1 2 ∧ m.1 45 = c.1 3 ∧ m.1 46 = c.1 4) ∧
  (∀ j, j < 6 → m.2.1 24 j = c.2.1 0 j ∧ m.2.1 25 j = c.2.1 1 j ∧ m.2.1 26 j = c.2.1 2 j ∧ m.2.1 27 j = c.2.1 3 j) ∧
  (∀ a, a < 5 → m.2.1 28 a = c.2.1 4 a ∧ m.2.1 32 a = c.2.1 5 a ∧ m.2.1 33 a = c.2.1 6 a ∧ m.2.1 31 a = c.2.1 7 a ∧ m.2.1 34 a = c.2.1 8 a) ∧
  (∀ k, k < 15 → m.2.1 29 k = c.2.1 9 k ∧ m.2.1 30 k = c.2.1 10 k) ∧
  (∀ k, k < 30 → m.2.1 35 k = c.2.1 11 k) ∧
  (∀ a p k, a < An c → p < 6 → k < 3 → m.2.2 2 ((a * 6 + p) * 3 + k) = wO c p a k)
def Rel (a c lt xs m : ew_M) : Prop :=
  (wf a ∧ RT a m ∧ m.1 29 = -1) ∧ (∀ k, k < 7 → m.2.1 14 k = xs.2.1 1 k) ∧
  (m.1 20 = xs.1 2 ∧ isN (xs.1 2) 13 ∧ ∀ j, j < 12 → m.2.1 13 j = xs.2.1 0 j ∧ isN (xs.2.1 0 j) 10) ∧
  (m.1 18 = lt.1 0 ∧ isN (lt.1 0) 65 ∧ ∀ j, j < 64 → m.2.1 12 j = lt.2.1 0 j ∧ isN (lt.2.1 0 j) 256) ∧
  ((xs.1 0 = 0 ∧ m.1 41 = 0) ∨ (xs.1 0 = 1 ∧ m.1 41 = 1 ∧ wf c ∧ RI c m))
section REL
variable {a b c lt ra xs m : ew_M}
theorem Rel.w (h : Rel a c lt xs m) : wf a := h.1.1
theorem Rel.r (h : Rel a c lt xs m) : RT a m := h.1.2.1
/-- what a call may leave alone of the reference beside the town itself -/
def Fo (m n : ew_M) : Prop := (∀ i, (i = 18 ∨ i = 20 ∨ i = 29 ∨ 41 ≤ i) → n.1 i = m.1 i) ∧ (∀ b, (b = 12 ∨ b = 13 ∨ b = 14 ∨ 24 ≤ b) → n.2.1 b = m.2.1 b) ∧ n.2.2 2 = m.2.2 2
theorem Fo.rf (m : ew_M) : Fo m m := ⟨fun _ _ => rfl, fun _ _ => rfl, rfl⟩
theorem Fo.tr {m n o : ew_M} (h : Fo m n) (g : Fo n o) : Fo m o := ⟨fun i h1 => (g.1 i h1).trans (h.1 i h1), fun b h1 => (g.2.1 b h1).trans (h.2.1 b h1), g.2.2.trans h.2.2⟩
theorem Fr.o {m n : ew_M} (h : Fr m n) : Fo m n := ⟨fun i h1 => h.1 i (by omega), fun b h1 => h.2.1 b (by omega) (by omega) (by omega) (by omega), h.2.2 2 (by decide)⟩
theorem RI.o {c m n : ew_M} (h : RI c m) (f : Fo m n) : RI c n := by
  obtain ⟨f1, f2, f3⟩ := f
  unfold RI
  rw [f1 42 (by omega), f1 43 (by omega), f1 44 (by omega), f1 45 (by omega), f1 46 (by omega), f2 24 (by omega), f2 25 (by omega), f2 26 (by omega), f2 27 (by omega), f2 28 (by omega), f2 29 (by omega), f2 30 (by omega), f2 31 (by omega), f2 32 (by omega), f2 33 (by omega), f2 34 (by omega), f2 35 (by omega), f3]
  exact h
theorem Rel.up {a2 n : ew_M} (h : Rel a c lt xs m) (hw : wf a2) (hr : RT a2 n) (f : Fo m n) : Rel a2 c lt xs n := by
  obtain ⟨⟨h1, h2, h3⟩, h4, h5, h6, h7⟩ := h
  refine ⟨⟨hw, hr, by rw [f.1 29 (by omega)]; exact h3⟩, by rw [f.2.1 14 (by omega)]; exact h4, by rw [f.1 20 (by omega), f.2.1 13 (by omega)]; exact h5, by rw [f.1 18 (by omega), f.2.1 12 (by omega)]; exact h6, ?_⟩
  rw [f.1 41 (by omega)]
  exact h7.imp id (fun q => ⟨q.1, q.2.1, q.2.2.1, q.2.2.2.o f⟩)
theorem RT.cong {t m n : ew_M} (h : RT t m) (h1 : n.1 0 = m.1 0 ∧ n.1 5 = m.1 5 ∧ n.1 15 = m.1 15 ∧ n.1 16 = m.1 16 ∧ n.1 17 = m.1 17) (h2 : ∀ b, b < 12 → n.2.1 b = m.2.1 b) (h3 : n.2.2 0 = m.2.2 0) : RT t n := by
  obtain ⟨e0, e5, e15, e16, e17⟩ := h1
  unfold RT
  rw [e0, e5, e15, e16, e17, h2 0 (by decide), h2 1 (by decide), h2 2 (by decide), h2 3 (by decide), h2 4 (by decide), h2 5 (by decide), h2 6 (by decide), h2 7 (by decide), h2 8 (by decide), h2 9 (by decide), h2 10 (by decide), h2 11 (by decide), h3]
  exact h
def rfX (xs : ew_M) (k : Nat) : ew_M := ew_sA xs 1 k (xs.2.1 1 k + 1)
def rfM (m : ew_M) (k : Nat) : ew_M := ew_sA m 14 k (m.2.1 14 k + 1)
theorem p_refuse {k : Nat} (hk : k < 7) {Q : Int32 → ew_M → Prop} {s1 s2 s3 s4 s5 s6 : ew_M} (h : Q (-nI k) (rfX s6 k)) : wX4_refuse Q (nI k) s1 s2 s3 s4 s5 s6 := by
  refine ⟨vp_in_nI hk (by decide), vp_in_nI hk (by decide), ?_⟩
  rw [cN (by omega)]
  exact h
theorem p_refuseFar {k : Nat} (hk : k < 7) {Q : Int32 → ew_M → Prop} {s1 s2 s3 s4 s5 s6 : ew_M} (h : Q ((1000000000 : Int32) + nI k) (rfX s6 k)) : wX4_refuseFar Q (nI k) s1 s2 s3 s4 s5 s6 := by
  refine ⟨vp_in_nI hk (by decide), vp_in_nI hk (by decide), ?_⟩
  rw [cN (by omega)]
  exact h
theorem p_refuseFarthest {k : Nat} (hk : k < 7) {Q : Int64 → ew_M → Prop} {s1 s2 s3 s4 s5 s6 : ew_M} (h : Q ((4000000000000000000 : Int64) + (nI k).toInt64) (rfX s6 k)) : wX4_refuseFarthest Q (nI k) s1 s2 s3 s4 s5 s6 := by
  refine ⟨vp_in_nI hk (by decide), vp_in_nI hk (by decide), ?_⟩
  rw [cN (by omega)]
  exact h
theorem m_refuse {k : Nat} (hk : k < 7) {x : Int32} (hx : -x = nI k) {Q : Int32 → ew_M → Prop} (h : Q x (rfM m k)) : wX5_refuse Q x m := by
  refine ⟨?_, ?_, ?_⟩
  · rw [hx]; exact vp_in_nI hk (by decide)
  · rw [hx]; exact vp_in_nI hk (by decide)
  · rw [hx, cN (by omega)]
    exact h
theorem Rel.rf (h : Rel a c lt xs m) {k : Nat} (hk : k < 7) : Rel a c lt (rfX xs k) (rfM m k) := by
  obtain ⟨⟨h1, h2, h3⟩, h4, h5, h6, h7⟩ := h
  refine ⟨⟨h1, h2.cong ⟨rfl, rfl, rfl, rfl, rfl⟩ (fun b hb => sA_a (by omega)) rfl, h3⟩, fun j hj => ?_, h5, h6, ?_⟩
  · unfold rfX rfM
    by_cases e : j = k
    · subst e
      rw [sA_s, sA_s, h4 j hj]
    · rw [sA_i e, sA_i e, h4 j hj]
  · exact h7
/-- is there such a person, such a paper -/
def isP (t : ew_M) (x : Int32) : Prop := ∃ k, k < Pn t ∧ x = nI k
def isA (t : ew_M) (x : Int32) : Prop := ∃ k, k < An t ∧ x = nI k
theorem notIn {n : Nat} (hn : n < 1000) {x : Int32} (h : ¬ ∃ k, k < n ∧ x = nI k) : x < 0 ∨ nI n ≤ x := by
  rcases pk_ix x (n := n) (by omega) with q | q | q
  · exact Or.inl q
  · exact Or.inr q
  · exact absurd q h
theorem p_hasPerson_y {t : ew_M} (hw : wf t) {k : Nat} (hk : k < Pn t) {Q : Int32 → Prop} (h : Q 1) : wX3_hasPerson Q (nI k) t := by
  obtain ⟨e1, e2⟩ := hw.P
  refine ⟨fun q => absurd q (nI_pos (by omega)), fun _ => ⟨fun q => ?_, fun _ => h⟩⟩
  rw [e1] at q
  exact absurd q (nI_ge hk (by omega))
theorem p_hasPerson_n {t : ew_M} (hw : wf t) {x : Int32} (hx : ¬ isP t x) {Q : Int32 → Prop} (h : Q 0) : wX3_hasPerson Q x t := by
  obtain ⟨e1, e2⟩ := hw.P
  refine ⟨fun _ => h, fun q => ⟨fun _ => h, fun q2 => ?_⟩⟩
  rw [e1] at q2
  exact absurd (notIn (by omega) hx) (fun z => z.elim q q2)
theorem p_hasPaper_y {t : ew_M} (hw : wf t) {k : Nat} (hk : k < An t) {Q : Int32 → Prop} (h : Q 1) : wX3_hasPaper Q (nI k) t := by
  obtain ⟨e1, e2⟩ := hw.A
  refine ⟨fun q => absurd q (nI_pos (by omega)), fun _ => ⟨fun q => ?_, fun _ => h⟩⟩
  rw [e1] at q
  exact absurd q (nI_ge hk (by omega))
theorem p_hasPaper_n {t : ew_M} (hw : wf t) {x : Int32} (hx : ¬ isA t x) {Q : Int32 → Prop} (h : Q 0) : wX3_hasPaper Q x t := by
  obtain ⟨e1, e2⟩ := hw.A
  refine ⟨fun _ => h, fun q => ⟨fun _ => h, fun q2 => ?_⟩⟩
  rw [e1] at q2
  exact absurd (notIn (by omega) hx) (fun z => z.elim q q2)
theorem pred_lt {n : Nat} (hn : n < 1000) {x : Int32} (h : nI n ≤ x) : nI n - 1 < x := by
  rw [Int32.lt_iff_toInt_lt, show (1 : Int32) = nI 1 from rfl, pk_sub_toInt (by omega) (by omega)]
  rw [Int32.le_iff_toInt_le, nI_toInt (by omega)] at h
  omega
theorem m_isPerson_y {t m : ew_M} (hr : RT t m) (hw : wf t) {k : Nat} (hk : k < Pn t) {Q : Int32 → Prop} (h : Q 1) : wX5_isPerson Q (nI k) m := by
  have := hw.P.2
  refine m_isPerson hr hw (by omega) ?_
  rw [decide_eq_true hk]
  exact h
theorem m_isPerson_n {t m : ew_M} (hr : RT t m) (hw : wf t) {x : Int32} (hx : ¬ isP t x) {Q : Int32 → Prop} (h : Q 0) : wX5_isPerson Q x m := by
  obtain ⟨e1, e2⟩ := hw.P
  refine m_in ?_
  rw [hr.1.1, e1, if_pos ((notIn (by omega) hx).imp id (pred_lt (by omega)))]
  exact ⟨rfl, h⟩
theorem m_isPaper_y {t m : ew_M} (hr : RT t m) (hw : wf t) {k : Nat} (hk : k < An t) {Q : Int32 → Prop} (h : Q 1) : wX5_isPaper Q (nI k) m := by
  obtain ⟨e1, e2⟩ := hw.A
  refine m_in ?_
  rw [hr.1.2.1, e1, if_neg (fun z => z.elim (nI_pos (by omega)) (fun z => absurd ((lt_pred (by omega) (by omega)).mp z) (by omega)))]
  exact ⟨rfl, h⟩
theorem m_isPaper_n {t m : ew_M} (hr : RT t m) (hw : wf t) {x : Int32} (hx : ¬ isA t x) {Q : Int32 → Prop} (h : Q 0) : wX5_isPaper Q x m := by
  obtain ⟨e1, e2⟩ := hw.A
  refine m_in ?_
  rw [hr.1.2.1, e1, if_pos ((notIn (by omega) hx).imp id (pred_lt (by omega)))]
  exact ⟨rfl, h⟩
theorem z10 : ¬ (1 : Int32) = 0 := by decide
/-- had -/
theorem s_had (hR : Rel a c lt xs m) (x : Int32) : wX4_had (fun r xs' => wX5_had (fun r' m' => r = r' ∧ Rel a c lt xs' m') x m) x a b c lt ra xs := by
  have hP := hR.w.P.2
  by_cases hx : isP a x
  · obtain ⟨k, hk, rfl⟩ := hx
    refine p_hasPerson_y hR.w hk ⟨fun _ => ⟨vp_in_nI (by omega) (by decide), ?_⟩, fun q => absurd q z10⟩
    refine m_isPerson_y hR.r hR.w hk ⟨fun q => absurd q z10, fun _ => ⟨vp_in_nI (by omega) (by decide), ?_, hR⟩⟩
    rw [cN (by omega)]
    exact (hR.r.2.1 k (by omega)).2.2.2.symm
  · refine p_hasPerson_n hR.w hx ⟨fun q => absurd rfl q, fun _ => p_refuseFar (k := 1) (by decide) ?_⟩
    exact m_isPerson_n hR.r hR.w hx ⟨fun _ => m_refuse (k := 1) (by decide) (by decide) ⟨by decide, hR.rf (by decide)⟩, fun q => absurd rfl q⟩
/-- liars -/
theorem s_liars (hR : Rel a c lt xs m) (x : Int32) : wX4_liars (fun r xs' => wX5_liars (fun r' m' => r = r' ∧ Rel a c lt xs' m') x m) x a b c lt ra xs := by
  have hA := hR.w.A.2
  by_cases hx : isA a x
  · obtain ⟨k, hk, rfl⟩ := hx
    refine p_hasPaper_y hR.w hk ⟨fun _ => ⟨vp_in_nI (by omega) (by decide), vp_in_nI (by omega) (by decide), ?_⟩, fun q => absurd q z10⟩
    refine m_isPaper_y hR.r hR.w hk ⟨fun q => absurd q z10, fun _ => ⟨vp_in_nI (by omega) (by decide), vp_in_nI (by omega) (by decide), ?_, hR⟩⟩
    rw [cN (by omega), (hR.r.2.2.1 k (by omega)).2.1, (hR.r.2.2.1 k (by omega)).2.2.1]
  · refine p_hasPaper_n hR.w hx ⟨fun q => absurd rfl q, fun _ => p_refuse (k := 1) (by decide) ?_⟩
    exact m_isPaper_n hR.r hR.w hx ⟨fun _ => m_refuse (k := 1) (by decide) (by decide) ⟨by decide, hR.rf (by decide)⟩, fun q => absurd rfl q⟩
/-- weeks -/
def itW : Nat → ew_M → ew_M
  | 0, t => t
  | n + 1, t => passWi m1 (itW n t)
theorem wf_itW {t : ew_M} (hw : wf t) : ∀ n, wf (itW n t)
  | 0 => hw
  | n + 1 => wf_passWi (wf_itW hw n) _
theorem p_so {x : Int32} {n : Nat} (hn : n < 1000) {Q : Int32 → Prop} (h : (x < 1 → Q 4) ∧ (¬ x < 1 → nI n < x → Q 6) ∧ (∀ k, 1 ≤ k → k ≤ n → x = nI k → Q 0)) : wX4_whyNotSoMany Q x (nI n) := by
  obtain ⟨h1, h2, h3⟩ := h
  refine ⟨fun q => ⟨fun q2 => ?_, fun q2 => h2 (Int32.not_lt.mpr q) (Int32.not_le.mp q2)⟩, fun q => h1 (Int32.not_le.mp q)⟩
  have p0 : ¬ x < 0 := fun z => absurd (Int32.lt_iff_toInt_lt.mp z) (by have := Int32.le_iff_toInt_le.mp q; rw [show (1 : Int32).toInt = 1 from by decide] at this; rw [show (0 : Int32).toInt = 0 from by decide]; omega)
  obtain ⟨k, hk, rfl⟩ := nI_of p0
  have q : nI 1 ≤ nI k := q
  rw [nI_leI (by omega) (by omega)] at q q2
  exact h3 k q q2 rfl
theorem s_weeks (hR : Rel a c lt xs m) (x : Int32) : wX4_weeks (fun r a' xs' => wX5_weeks (fun r' m' => r = r' ∧ Rel a' c lt xs' m') x m) x a b c lt ra xs := by
  refine p_so (n := 99) (by decide) ⟨fun q => ?_, fun q q2 => ?_, fun k h1 h2 e => ?_⟩
  · refine ⟨fun z => absurd z (by decide), fun _ => p_refuse (k := 4) (by decide) ?_⟩
    exact ⟨fun z => absurd q (Int32.not_lt.mpr z), fun _ => m_refuse (k := 4) (by decide) (by decide) ⟨by decide, hR.rf (by decide)⟩⟩
  · refine ⟨fun z => absurd z (by decide), fun _ => p_refuse (k := 6) (by decide) ?_⟩
    exact ⟨fun z => ⟨fun z2 => absurd q2 (Int32.not_lt.mpr z2), fun _ => m_refuse (k := 6) (by decide) (by decide) ⟨by decide, hR.rf (by decide)⟩⟩, fun z => absurd (Int32.not_lt.mp q) z⟩
  · subst e
    refine ⟨fun _ => ?_, fun z => absurd rfl z⟩
    refine ew_for k (fun i => (nI i, itW i a)) (fun i R hi hRR => ?_) (fun R => ?_)
    · refine ⟨fun z => absurd z (nI_ge hi (by omega)), fun _ => p_passWeek (wf_itW hR.w i) ?_⟩
      show R (nI i + 1, _)
      rw [nI_s]
      exact hRR
    · refine ⟨fun _ => ?_, fun z => absurd (nI_le (Nat.le_refl _) (by omega)) z⟩
      refine ⟨fun _ => ⟨fun _ => ?_, fun z => absurd (nI_le (a := k) (b := 99) h2 (by decide)) z⟩, fun z => absurd (nI_le (a := 1) (b := k) h1 (by omega)) z⟩
      refine ew_forI k (fun i y => ∃ n, y = (nI i, n) ∧ RT (itW i a) n ∧ Fr m n) (fun i R y hi hI hRR => ?_) (fun R y hI => ?_) ⟨m, rfl, hR.r, Fr.rf m⟩
      · obtain ⟨n, rfl, hn, hf⟩ := hI
        refine ⟨fun z => absurd z (nI_ge hi (by omega)), fun _ => m_passes1 hn (wf_itW hR.w i) (by rw [hf.1 29 (by decide)]; exact hR.1.2.2) (fun n2 g1 g2 => hRR _ ⟨n2, by rw [nI_s], g1, hf.tr g2⟩)⟩
      · obtain ⟨n, rfl, hn, hf⟩ := hI
        refine ⟨fun _ => ⟨hn.1.2.2.2.2.symm, hR.up (wf_itW hR.w k) hn hf.o⟩, fun z => absurd (nI_le (Nat.le_refl _) (by omega)) z⟩
end REL
