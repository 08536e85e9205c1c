/-! weeks ahead under a law -/
theorem it1_8 (idle : Int32) (b : Nat) (t : ew_M) : ∀ n, (iter (st1 idle b) n t).2.1 8 = t.2.1 8
  | 0 => rfl
  | n + 1 => by
    show (st1 idle b n (iter (st1 idle b) n t)).2.1 8 = _
    rw [sh_pt (st1_sh idle b n (iter (st1 idle b) n t))]
    unfold pt
    rw [sA_a (by decide), sA_a (by decide)]
    exact it1_8 idle b t n
theorem it2_8 (a : Nat) (t : ew_M) : ∀ n, (iter (gn1 a) n t).2.1 8 = t.2.1 8
  | 0 => rfl
  | n + 1 => by
    show (gn1 a n (iter (gn1 a) n t)).2.1 8 = _
    rw [gn1_8r]
    exact it2_8 a t n
def flg (idle : Int32) (a : Nat) (t : ew_M) : Int32 := bI (inF (ph1 idle a t) a)
theorem passP_8 (idle : Int32) (a : Nat) (t : ew_M) : (passP idle a t).2.1 8 a = t.2.1 8 a + flg idle a t := by
  have e : (ph1 idle a t).2.1 8 = t.2.1 8 := it1_8 idle a t _
  unfold passP flg
  by_cases q : inF (ph1 idle a t) a = true
  · rw [if_pos q, q]
    unfold ph2
    rw [sA_s, it2_8, e]
    rfl
  · rw [if_neg q, b_nt q, e]
    exact (Int32.add_zero _).symm
theorem passP_8o {a b : Nat} (h : a ≠ b) (idle : Int32) (t : ew_M) : (passP idle b t).2.1 8 a = t.2.1 8 a := by
  have e : (ph1 idle b t).2.1 8 = t.2.1 8 := it1_8 idle b t _
  unfold passP
  split
  · unfold ph2
    rw [sA_i h, it2_8, e]
  · rw [e]
theorem flg_E {a : Nat} {t u : ew_M} (h : Eq5 a t u) (idle : Int32) : flg idle a u = flg idle a t := by
  unfold flg
  rw [e5_inF (e5_ph1 h idle)]
theorem itP_8 {a : Nat} {t : ew_M} (idl : Nat → Int32) : ∀ n, (n ≤ a → (iter (fun b => passP (idl b) b) n t).2.1 8 a = t.2.1 8 a) ∧ (a < n → (iter (fun b => passP (idl b) b) n t).2.1 8 a = t.2.1 8 a + flg (idl a) a t)
  | 0 => ⟨fun _ => rfl, fun h => absurd h (by omega)⟩
  | n + 1 => by
    obtain ⟨h1, h2⟩ := itP_8 (a := a) (t := t) idl n
    rw [iter_succ]
    refine ⟨fun h => (passP_8o (by omega) _ _).trans (h1 (by omega)), fun h => ?_⟩
    by_cases e : n = a
    · subst e
      rw [passP_8, h1 (Nat.le_refl _), flg_E ((itP_E idl n).1 (Nat.le_refl _))]
    · exact (passP_8o (fun z => e z.symm) _ _).trans (h2 (by omega))
theorem passWi_8 {a : Nat} {t : ew_M} (idl : Nat → Int32) (ha : a < An t) : (passWi idl t).2.1 8 a = t.2.1 8 a + flg (idl a) a t := (itP_8 idl (An t)).2 ha
/-- a paper's own weeks, and in how many of them it is in force -/
def lu (t : ew_M) (k : Nat) : Nat → ew_M
  | 0 => t
  | i + 1 => wk1 (passP (-1) k (lu t k i))
def lsm (t : ew_M) (k : Nat) : Nat → Int32
  | 0 => 0
  | i + 1 => lsm t k i + flg (-1) k (lu t k i)
theorem lu_wf {t : ew_M} (hw : wf t) {k : Nat} (hk : k < An t) : ∀ n, wf (lu t k n) ∧ An (lu t k n) = An t
  | 0 => ⟨hw, rfl⟩
  | n + 1 => by
    obtain ⟨h1, h2⟩ := lu_wf hw hk n
    refine ⟨wf_w (wf_passP h1 (by omega)) _, ?_⟩
    show An (wk1 _) = _
    unfold An
    rw [wk1_1 _ _ (by decide), passP_1]
    exact h2
theorem passWi_A (idl : Nat → Int32) (t : ew_M) : An (passWi idl t) = An t := by
  unfold An passWi
  rw [wk1_1 _ _ (by decide), itP_1]
theorem itW_lu {t : ew_M} {k : Nat} (hk : k < An t) : ∀ n, Eq5 k (itW n t) (lu t k n) ∧ (itW n t).2.1 8 k = t.2.1 8 k + lsm t k n ∧ An (itW n t) = An t
  | 0 => ⟨Eq5.rf k t, (Int32.add_zero _).symm, rfl⟩
  | n + 1 => by
    obtain ⟨h1, h2, h3⟩ := itW_lu hk n
    refine ⟨passWi_E m1 (by omega) h1, ?_, (passWi_A _ _).trans h3⟩
    show (passWi m1 (itW n t)).2.1 8 k = t.2.1 8 k + (lsm t k n + flg (-1) k (lu t k n))
    rw [passWi_8 m1 (by omega), h2, flg_E h1, Int32.add_assoc]
    rfl
theorem p_lasts {t s1 s3 s4 : ew_M} (hw : wf t) {k l n : Nat} (hk : k < An t) (hl : l < 5) (hn : n ≤ 60) {Q : Int32 → ew_M → Prop} (h : ∀ u, Q (lsm (ew_sI t 2 (nI l)) k n) u) : wX1_lastsUnder Q (nI k) (nI l) (nI n) t s1 s3 s4 := by
  have hw2 : wf (ew_sI t 2 (nI l)) := by
    obtain ⟨⟨w1, w2, w3, w4⟩, w5⟩ := hw
    refine ⟨⟨w1, w2, ?_, w4⟩, w5⟩
    rw [sI_s]
    exact isN_of hl (by decide)
  refine ew_for n (fun i => (lsm (ew_sI t 2 (nI l)) k i, nI i, lu (ew_sI t 2 (nI l)) k i)) (fun i R hi hR => ?_) (fun R => ?_)
  · obtain ⟨w1, w2⟩ := lu_wf hw2 (k := k) hk i
    have hk2 : k < An (ew_sI t 2 (nI l)) := hk
    refine ⟨fun q => absurd q (nI_ge hi (by omega)), fun _ => p_passPaper w1 (idle := -1) (by omega) ?_⟩
    show R (lsm (ew_sI t 2 (nI l)) k i + flg (-1) k (lu (ew_sI t 2 (nI l)) k i), nI i + 1, wk1 (passP (-1) k (lu (ew_sI t 2 (nI l)) k i)))
    rw [nI_s]
    exact hR
  · exact ⟨fun _ => h _, fun q => absurd (nI_le (Nat.le_refl n) (by omega)) q⟩
theorem KP_sI {t36 t17 d1 d2 d3 d4 s1 s2 s3 s4 dw sw x : Nat} {v : Int32} {m n : ew_M} (h1 : x ≠ t36) (h2 : x ≠ t17) (h : KP t36 t17 d1 d2 d3 d4 s1 s2 s3 s4 dw sw m n) : KP t36 t17 d1 d2 d3 d4 s1 s2 s3 s4 dw sw (ew_sI m x v) (ew_sI n x v) := by
  obtain ⟨k1, k2, k3⟩ := h
  refine ⟨fun i hi => ?_, ?_, k3⟩
  · by_cases e : i = x
    · subst e
      rw [sI_s, sI_s]
    · rw [sI_i e, sI_i e]
      exact k1 i hi
  · rw [sI_i h1.symm, sI_i h2.symm]
    exact k2
theorem m_lawFor {t m : ew_M} (hr : RT t m) (hw : wf t) (h29 : m.1 29 = -1) {l n : Nat} (hl : l < 5) (hn : n ≤ 60) {Q : ew_M → Prop} (h : ∀ q, RT t q → Fo m q → (∀ k, k < An t → q.2.1 23 k = lsm (ew_sI t 2 (nI l)) k n) → Q q) : wX5_lawFor Q (nI l) (nI n) m := by
  have hA := hw.A.2
  have hw2 : wf (ew_sI t 2 (nI l)) := by
    obtain ⟨⟨w1, w2, w3, w4⟩, w5⟩ := hw
    refine ⟨⟨w1, w2, ?_, w4⟩, w5⟩
    rw [sI_s]
    exact isN_of hl (by decide)
  refine m_keeps fun n0 h0 => ?_
  have r0 := KP_RT hr h0
  have r1 : RT (ew_sI t 2 (nI l)) (ew_sI n0 15 (nI l)) := by
    obtain ⟨⟨g1, g2, g3, g4, g5⟩, g6⟩ := r0
    refine ⟨⟨g1, g2, ?_, g4, g5⟩, g6⟩
    rw [sI_s, sI_s]
  obtain ⟨k1, k2, k3, k4, k5, k6, k7⟩ := h0
  refine ew_forI 5 (fun i y => ∃ o, y = (nI i, o) ∧ C1 23 10 (ew_sI n0 15 (nI l)) o i) (fun i R y hi hI hR => ?_) (fun R y hI => ?_) ⟨_, rfl, rfl, fun _ _ => rfl, rfl, fun j hj => absurd hj (by omega)⟩
  · obtain ⟨o, rfl, ho⟩ := hI
    refine ⟨fun q => absurd q (nI_ge (a := i) (b := 5) hi (by decide)), fun _ => ⟨vp_in_nI hi (by decide), vp_in_nI hi (by decide), ?_⟩⟩
    show R (nI i + 1, ew_sA o 23 (nI i).toNatClampNeg (o.2.1 10 (nI i).toNatClampNeg))
    rw [cN (by omega), nI_s]
    exact hR _ ⟨_, rfl, ho.step (by decide)⟩
  · obtain ⟨o, rfl, o1, o2, o3, o4⟩ := hI
    refine ⟨fun _ => ?_, fun q => absurd (nI_le (a := 5) (b := 5) (by decide) (by decide)) q⟩
    have r2 : RT (ew_sI t 2 (nI l)) o := r1.cong ⟨by rw [o1], by rw [o1], by rw [o1], by rw [o1], by rw [o1]⟩ (fun b hb => o2 b (by omega)) (by rw [o3])
    have o29 : o.1 29 = -1 := by rw [o1, sI_i (by decide), k1 29 (by decide)]; exact h29
    refine ew_forI n (fun i y => ∃ s, y = (nI i, s) ∧ RT (itW i (ew_sI t 2 (nI l))) s ∧ Fr o s) (fun i R y hi hI hR => ?_) (fun R y hI => ?_) ⟨o, rfl, r2, Fr.rf o⟩
    · obtain ⟨s, rfl, hs, hf⟩ := hI
      refine ⟨fun z => absurd z (nI_ge hi (by omega)), fun _ => m_passes1 hs (wf_itW hw2 i) (by rw [hf.1 29 (by decide)]; exact o29) (fun n2 g1 g2 => hR _ ⟨n2, by rw [nI_s], g1, hf.tr g2⟩)⟩
    · obtain ⟨s, rfl, hs, f1, f2, f3⟩ := hI
      refine ⟨fun _ => ?_, fun q => absurd (nI_le (Nat.le_refl n) (by omega)) q⟩
      refine ew_forI 5 (fun i y => ∃ w : ew_M, y = (nI i, w) ∧ w.1 = s.1 ∧ (∀ b, b ≠ 23 → w.2.1 b = s.2.1 b) ∧ w.2.2 = s.2.2 ∧ (∀ j, j < i → w.2.1 23 j = s.2.1 10 j - s.2.1 23 j) ∧ ∀ j, i ≤ j → w.2.1 23 j = s.2.1 23 j) (fun i R y hi hI hR => ?_) (fun R y hI => ?_) ⟨s, rfl, rfl, fun _ _ => rfl, rfl, fun j hj => absurd hj (by omega), fun _ _ => rfl⟩
      · obtain ⟨w, rfl, w1, w2, w3, w4, w5⟩ := hI
        refine ⟨fun q => absurd q (nI_ge (a := i) (b := 5) hi (by decide)), fun _ => ⟨vp_in_nI hi (by decide), vp_in_nI hi (by decide), vp_in_nI hi (by decide), ?_⟩⟩
        show R (nI i + 1, ew_sA w 23 (nI i).toNatClampNeg (w.2.1 10 (nI i).toNatClampNeg - w.2.1 23 (nI i).toNatClampNeg))
        rw [cN (by omega), nI_s]
        refine hR _ ⟨_, rfl, w1, fun b hb => (sA_a hb).trans (w2 b hb), w3, fun j hj => ?_, fun j hj => ?_⟩
        · by_cases e : j = i
          · subst e
            rw [sA_s, w2 10 (by decide), w5 j (Nat.le_refl _)]
          · rw [sA_i e]
            exact w4 j (by omega)
        · rw [sA_i (by omega)]
          exact w5 j (by omega)
      · obtain ⟨w, rfl, w1, w2, w3, w4, w5⟩ := hI
        refine ⟨fun _ => m_lays fun q hq => ?_, fun q => absurd (nI_le (a := 5) (b := 5) (by decide) (by decide)) q⟩
        have e1 : ∀ i, i ≠ 15 → i ≠ 17 → i ≠ 36 → w.1 i = m.1 i := fun i h1 h2 h3 => by rw [w1, f1 i h2, o1, sI_i h1, k1 i h3]
        have e2 : ∀ b, b ≠ 23 → b ≠ 3 → b ≠ 8 → b ≠ 9 → b ≠ 10 → w.2.1 b = n0.2.1 b := fun b h1 h2 h3 h4 h5 => by rw [w2 b h1, f2 b h2 h3 h4 h5, o2 b h1]; rfl
        have e3 : ∀ b, b ≠ 0 → w.2.2 b = n0.2.2 b := fun b hb => by rw [w3, f3 b hb, o3]; rfl
        have hq2 := KP_sI (x := 15) (v := m.1 15) (by decide) (by decide) hq
        have bb : RT t (ew_sI q 15 (m.1 15)) ∧ Fo m (ew_sI q 15 (m.1 15)) := by
          refine back (o := ew_sI w 15 (m.1 15)) hr hA (fun i hi => ?_) ?_ (fun b hb => ?_) (fun j hj => ?_) (fun j hj => ?_) (fun j hj => ?_) ?_ hq2
          · by_cases z : i = 15
            · subst z
              rw [sI_s]
            · rw [sI_i z]
              exact e1 i z (by omega) (by omega)
          · rw [sI_i (by decide), w1, f1 36 (by decide), o1, sI_i (by decide)]
            exact k2
          · show w.2.1 b = _
            rw [e2 b (by omega) (by omega) (by omega) (by omega) (by omega)]
            exact k3 b (by omega) (by omega) (by omega) (by omega)
          · show w.2.1 19 j = _ ∧ w.2.1 20 j = _ ∧ w.2.1 21 j = _
            rw [e2 19 (by decide) (by decide) (by decide) (by decide) (by decide), e2 20 (by decide) (by decide) (by decide) (by decide) (by decide), e2 21 (by decide) (by decide) (by decide) (by decide) (by decide)]
            exact k5 j hj
          · show w.2.1 22 j = _
            rw [e2 22 (by decide) (by decide) (by decide) (by decide) (by decide)]
            exact k6 j hj
          · show w.2.2 1 j = _
            rw [e3 1 (by decide)]
            exact k7 j hj
          · show w.2.2 2 = _
            rw [e3 2 (by decide), k4 2 (by decide)]
        obtain ⟨b1, b2⟩ := bb
        refine h _ b1 b2 fun k hk => ?_
        obtain ⟨-, x8, -⟩ := itW_lu (t := ew_sI t 2 (nI l)) (k := k) hk n
        show q.2.1 23 k = _
        rw [hq.2.2.1 23 (by decide) (by decide) (by decide) (by decide), w4 k (by omega), f2 23 (by decide) (by decide) (by decide) (by decide), o4 k (by omega), (hs.2.2.1 k (by omega)).2.2.2.2, x8, (r1.2.2.1 k (by omega)).2.2.2.2, Int32.add_comm, Int32.add_sub_cancel]
