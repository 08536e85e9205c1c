/-! when: the reference's weeks in mind, one reading at week d -/
def idw (p k : Nat) : Nat → Int32 := fun b => if b = k then nI p else -1
theorem idw_k (p k : Nat) : idw p k k = nI p := if_pos rfl
theorem idw_ok {p k : Nat} (hk : k < 5) {m : ew_M} (h29 : m.1 29 = nI p) (h30 : m.1 30 = nI k) : ∀ q b, q < 6 → b < 5 → (nI q = idw p k b ↔ (nI q = m.1 29 ∧ nI b = m.1 30)) := by
  intro q b hq hb
  rw [h29, h30]
  unfold idw
  by_cases e : b = k
  · subst e
    rw [if_pos rfl]
    exact ⟨fun z => ⟨z, rfl⟩, fun z => z.1⟩
  · rw [if_neg e]
    exact ⟨fun z => absurd (show nI q < 0 by rw [z]; decide) (nI_pos (by omega)), fun z => absurd ((nI_eq (a := b) (b := k) (by omega) (by omega)).mp z.2) e⟩
theorem m_forceIf {t m : ew_M} (hr : RT t m) (hw : wf t) (h29 : m.1 29 = -1) {p k n d : Nat} (hp : p < Pn t) (hk : k < An t) (hn : n ≤ 100) (hd : d ≤ 100) {Q : Int32 → ew_M → Prop} (h : ∀ q, RT t q → Fo m q → q.1 37 = m.1 37 → q.1 38 = m.1 38 → Q (rsm t p k d n) q) : wX5_forceIf Q (nI p) (nI k) (nI n) (nI d) m := by
  have hA := hw.A.2
  have hP := hw.P.2
  refine m_keeps fun n0 h0 => ⟨vp_in_nI (by omega) (by decide), ?_⟩
  have r0 := KP_RT hr h0
  obtain ⟨k1, k2, k3, k4, k5, k6, k7⟩ := h0
  rw [cN (by omega), (r0.2.2.1 k (by omega)).2.2.2.2]
  have r1 : RT t (ew_sI (ew_sI n0 29 (nI p)) 30 (nI k)) := r0.cong ⟨by rw [sI_i (by decide), sI_i (by decide)], by rw [sI_i (by decide), sI_i (by decide)], by rw [sI_i (by decide), sI_i (by decide)], by rw [sI_i (by decide), sI_i (by decide)], by rw [sI_i (by decide), sI_i (by decide)]⟩ (fun _ _ => rfl) rfl
  refine ew_forI n (fun i y => ∃ s T : ew_M, y = (nI i, s) ∧ RT T s ∧ wf T ∧ An T = An t ∧ Pn T = Pn t ∧ Eq5 k T (ri t p k d i) ∧ T.2.1 8 k = t.2.1 8 k + rsm t p k d i ∧ Fr (ew_sI (ew_sI n0 29 (nI p)) 30 (nI k)) s) (fun i R y hi hI hR => ?_) (fun R y hI => ?_) ⟨_, t, rfl, r1, hw, rfl, rfl, Eq5.rf k t, (Int32.add_zero _).symm, Fr.rf _⟩
  · obtain ⟨s, T, rfl, a1, a2, a3, a4, a5, a6, a7⟩ := hI
    have step : ∀ T' s' : ew_M, RT T' s' → wf T' → An T' = An t → Pn T' = Pn t → Eq5 k T' (rx p k d i (ri t p k d i)) → T'.2.1 8 k = t.2.1 8 k + rsm t p k d i → Fr (ew_sI (ew_sI n0 29 (nI p)) 30 (nI k)) s' → wX5_forceIf_53 R Q (nI p) (nI k) (nI n) (nI d) (t.2.1 8 k) (nI i) s' := fun T' s' b1 b2 b3 b4 b5 b6 b7 => by
      have x29 : s'.1 29 = nI p := by rw [b7.1 29 (by decide), sI_i (by decide), sI_s]
      have x30 : s'.1 30 = nI k := by rw [b7.1 30 (by decide), sI_s]
      refine m_passes b1 b2 (idl := idw p k) (idw_ok (by omega) x29 x30) fun o o1 o2 => hR _ ⟨o, passWi (idw p k) T', by rw [nI_s], ?_, wf_passWi b2 _, (passWi_A _ _).trans b3, ?_, ?_, ?_, b7.tr o2⟩
      · rw [← passM_eq]; exact o1
      · unfold Pn passWi
        rw [wk1_1 _ _ (by decide), itP_1]
        exact b4
      · have e := passWi_E (idw p k) (a := k) (t := T') (by omega) b5
        rw [idw_k] at e
        exact e
      · rw [passWi_8 (idw p k) (by omega), b6, idw_k]
        show _ = t.2.1 8 k + (rsm t p k d i + flg (nI p) k (rx p k d i (ri t p k d i)))
        rw [flg_E b5, Int32.add_assoc]
    refine ⟨fun q => absurd q (nI_ge hi (by omega)), fun _ => ⟨fun q => ?_, fun q => ?_⟩⟩
    · have q : ¬ nI i = nI d := q
      rw [nI_eq (by omega) (by omega)] at q
      refine step T s a1 a2 a3 a4 ?_ a6 a7
      unfold rx
      rw [if_neg (fun z => q z.1)]
      exact a5
    · have q : nI i = nI d := q
      rw [nI_eq (by omega) (by omega)] at q
      refine m_mayRead a1 a2 (by omega) (by omega) ⟨fun z => ?_, fun z => ?_⟩
      · rw [bI_0] at z
        refine step T s a1 a2 a3 a4 ?_ a6 a7
        unfold rx
        rw [if_neg (fun y => by rw [e5_canR a5, z] at y; exact absurd y.2 (by decide))]
        exact a5
      · have z : canR T p k = true := b_nf (fun e => z ((bI_0 _).mpr e))
        have un : unr T p k = true := by
          have z := z
          rw [canR, Bool.and_eq_true] at z
          exact z.1
        refine m_hasNowRead a1 a2 (by omega) (by omega) fun o o1 o2 => step (mk T p k) o o1 (wf_mk a2 (by omega) (by omega) un) a3 a4 ?_ a6 (a7.tr o2)
        unfold rx
        rw [if_pos ⟨q, by rw [e5_canR a5]; exact z⟩]
        exact e5_mk a5 p
  · obtain ⟨s, T, rfl, a1, a2, a3, a4, a5, a6, a7⟩ := hI
    refine ⟨fun _ => ⟨vp_in_nI (by omega) (by decide), ?_⟩, fun q => absurd (nI_le (Nat.le_refl n) (by omega)) q⟩
    show wX5_lays (fun m3 => Q (s.2.1 10 (nI k).toNatClampNeg - t.2.1 8 k) m3) (ew_sI s 29 (-1))
    rw [cN (by omega), (a1.2.2.1 k (by omega)).2.2.2.2, a6, Int32.add_comm (t.2.1 8 k), Int32.add_sub_cancel]
    refine m_lays fun q hq => ?_
    have ei : ∀ i, i ≠ 17 → i ≠ 29 → i ≠ 30 → i ≠ 36 → q.1 i = m.1 i := fun i z1 z2 z3 z4 => by rw [hq.1 i z1, sI_i z2, a7.1 i z1, sI_i z3, sI_i z2, k1 i z4]
    have bb : RT t q ∧ Fo m q := by
      refine back (o := ew_sI s 29 (-1)) hr hA (fun i hi => ?_) ?_ (fun b hb => ?_) (fun j hj => ?_) (fun j hj => ?_) (fun j hj => ?_) ?_ hq
      · by_cases z : i = 29
        · subst z
          rw [sI_s, h29]
        · rw [sI_i z, a7.1 i (by omega), sI_i (by omega), sI_i z, k1 i (by omega)]
      · rw [sI_i (by decide), a7.1 36 (by decide), sI_i (by decide), sI_i (by decide)]
        exact k2
      · show s.2.1 b = _
        rw [a7.2.1 b (by omega) (by omega) (by omega) (by omega)]
        exact k3 b (by omega) (by omega) (by omega) (by omega)
      · show s.2.1 19 j = _ ∧ s.2.1 20 j = _ ∧ s.2.1 21 j = _
        rw [a7.2.1 19 (by decide) (by decide) (by decide) (by decide), a7.2.1 20 (by decide) (by decide) (by decide) (by decide), a7.2.1 21 (by decide) (by decide) (by decide) (by decide)]
        exact k5 j hj
      · show s.2.1 22 j = _
        rw [a7.2.1 22 (by decide) (by decide) (by decide) (by decide)]
        exact k6 j hj
      · show s.2.2 1 j = _
        rw [a7.2.2 1 (by decide)]
        exact k7 j hj
      · show s.2.2 2 = _
        rw [a7.2.2 2 (by decide)]
        exact k4 2 (by decide)
    exact h q bb.1 bb.2 (ei 37 (by decide) (by decide) (by decide) (by decide)) (ei 38 (by decide) (by decide) (by decide) (by decide))
/-! the best week -/
def bq (th : Int64) (L : Nat → Int32) : Nat → Nat
  | 0 => 0
  | i + 1 => if lg_cmp (th * (L (i + 1)).toInt64) (th * (L (bq th L i)).toInt64) ≤ 0 then bq th L i else i + 1
theorem bq_le (th : Int64) (L : Nat → Int32) : ∀ i, bq th L i ≤ i
  | 0 => Nat.le_refl 0
  | i + 1 => by
    have h := bq_le th L i
    rw [bq]
    split
    · omega
    · omega
theorem m_finds {t m : ew_M} (hr : RT t m) (hw : wf t) (h29 : m.1 29 = -1) {p k n : Nat} (hp : p < Pn t) (hk : k < An t) (hn : n ≤ 20) {Q : ew_M → Prop} (h : ∀ q, RT t q → Fo m q → q.1 37 = nI (bq (tA t p k) (fun d => rsm t p k d n) n) → q.1 38 = rsm t p k (bq (tA t p k) (fun d => rsm t p k d n) n) n → Q q) : wX5_findsWhen Q (nI p) (nI k) (nI n) m := by
  have hA := hw.A.2
  have hP := hw.P.2
  have ci : ∀ (s : ew_M) (j : Nat) (v : Int32), RT t s → (j = 37 ∨ j = 38) → RT t (ew_sI s j v) := fun s j v g e => g.cong ⟨sI_i (by omega), sI_i (by omega), sI_i (by omega), sI_i (by omega), sI_i (by omega)⟩ (fun _ _ => rfl) rfl
  refine m_thinkAbove hr (by omega) hk (by omega) ?_
  refine m_forceIf (d := 0) (ci m 37 0 hr (Or.inl rfl)) hw (by rw [sI_i (by decide)]; exact h29) hp hk (by omega) (by omega) fun q0 q1 q2 q3 q4 => ?_
  refine ew_forI n (fun i y => ∃ s, y = (nI (i + 1), s) ∧ RT t s ∧ Fo m s ∧ s.1 37 = nI (bq (tA t p k) (fun d => rsm t p k d n) i) ∧ s.1 38 = rsm t p k (bq (tA t p k) (fun d => rsm t p k d n) i) n) (fun i R y hi hI hR => ?_) (fun R y hI => ?_) ⟨_, rfl, ci _ 38 _ q1 (Or.inr rfl), (Fo.i (by omega)).tr (q2.tr (Fo.i (by omega))), ?_, sI_s _ _ _⟩
  · obtain ⟨s, rfl, b1, b2, b3, b4⟩ := hI
    refine ⟨fun q => ?_, fun _ => ?_⟩
    · have q : nI n < nI (i + 1) := q
      rw [nI_ltI (by omega) (by omega)] at q
      omega
    · refine m_forceIf (d := i + 1) b1 hw (by rw [b2.1 29 (by omega)]; exact h29) hp hk (by omega) (by omega) fun s2 c1 c2 c3 c4 => ?_
      show (lg_cmp (tA t p k * (rsm t p k (i + 1) n).toInt64) (tA t p k * (s2.1 38).toInt64) ≤ 0 → R (nI (i + 1) + 1, s2)) ∧ (¬ lg_cmp (tA t p k * (rsm t p k (i + 1) n).toInt64) (tA t p k * (s2.1 38).toInt64) ≤ 0 → R (nI (i + 1) + 1, ew_sI (ew_sI s2 37 (nI (i + 1))) 38 (rsm t p k (i + 1) n)))
      rw [c4, b4, nI_s]
      refine ⟨fun z => hR _ ⟨s2, rfl, c1, b2.tr c2, ?_, ?_⟩, fun z => hR _ ⟨_, rfl, ci _ 38 _ (ci _ 37 _ c1 (Or.inl rfl)) (Or.inr rfl), (b2.tr c2).tr ((Fo.i (by omega)).tr (Fo.i (by omega))), ?_, ?_⟩⟩
      · rw [c3, b3, bq, if_pos z]
      · rw [c4, b4, bq, if_pos z]
      · rw [sI_i (by decide), sI_s, bq, if_neg z]
      · rw [sI_s, bq, if_neg z]
  · obtain ⟨s, rfl, b1, b2, b3, b4⟩ := hI
    exact ⟨fun _ => h s b1 b2 b3 b4, fun q => absurd ((nI_ltI (a := n) (b := n + 1) (by omega) (by omega)).mpr (by omega)) q⟩
  · show (ew_sI q0 38 _).1 37 = (0 : Int32)
    rw [sI_i (by decide), q3, sI_s]
theorem p_best {t s2 s3 s4 : ew_M} (hw : wf t) {p k n : Nat} (hp : p < 6) (hk : k < An t) (hn : n ≤ 20) {Q : Int32 → ew_M → Prop} (h : ∀ u, Q (nI (bq (tA t p k) (fun d => rsm t p k d n) n)) u) : wX1_bestWeek Q (nI p) (nI k) (nI n) t s2 s3 s4 := by
  have hA := hw.A.2
  refine p_thinkAbove hw (by omega) hp ?_
  refine ew_forI (n + 1) (fun i y => y.2.2.1 = nI i ∧ (0 < i → y.1 = nI (bq (tA t p k) (fun d => rsm t p k d n) (i - 1)) ∧ y.2.1 = tA t p k * (rsm t p k (bq (tA t p k) (fun d => rsm t p k d n) (i - 1)) n).toInt64)) (fun i R y hi hI hR => ?_) (fun R y hI => ?_) ⟨rfl, fun z => absurd z (by omega)⟩
  · obtain ⟨v6, v7, v9, s⟩ := y
    obtain ⟨e1, e2⟩ := hI
    have e1 : v9 = nI i := e1
    subst e1
    refine ⟨fun q => ?_, fun _ => ?_⟩
    · have q : nI n < nI i := q
      rw [nI_ltI (by omega) (by omega)] at q
      omega
    · refine p_lastsIf hw hp hk (by omega) (by omega) fun u => ⟨fun z => ?_, fun z => ?_⟩
      · have z : i = 0 := (nI_eq (a := i) (b := 0) (by omega) (by decide)).mp z
        subst z
        exact hR _ ⟨nI_s 0, fun _ => ⟨rfl, rfl⟩⟩
      · have z : ¬ nI i = 0 := z
        obtain ⟨j, rfl⟩ : ∃ j, i = j + 1 := ⟨i - 1, by
          have : i ≠ 0 := fun e => z (by rw [e]; rfl)
          omega⟩
        obtain ⟨f1, f2⟩ := e2 (by omega)
        have f1 : v6 = nI (bq (tA t p k) (fun d => rsm t p k d n) j) := f1
        have f2 : v7 = tA t p k * (rsm t p k (bq (tA t p k) (fun d => rsm t p k d n) j) n).toInt64 := f2
        subst f1
        subst f2
        refine ⟨fun z2 => hR _ ⟨nI_s _, fun _ => ?_⟩, fun z2 => hR _ ⟨nI_s _, fun _ => ?_⟩⟩
        · show _ = nI (bq (tA t p k) (fun d => rsm t p k d n) (j + 1)) ∧ _ = tA t p k * (rsm t p k (bq (tA t p k) (fun d => rsm t p k d n) (j + 1)) n).toInt64
          have z2 : lg_cmp (tA t p k * (rsm t p k (j + 1) n).toInt64) (tA t p k * (rsm t p k (bq (tA t p k) (fun d => rsm t p k d n) j) n).toInt64) ≤ 0 := z2
          rw [bq, if_pos z2]
          exact ⟨rfl, rfl⟩
        · show _ = nI (bq (tA t p k) (fun d => rsm t p k d n) (j + 1)) ∧ _ = tA t p k * (rsm t p k (bq (tA t p k) (fun d => rsm t p k d n) (j + 1)) n).toInt64
          have z2 : ¬ lg_cmp (tA t p k * (rsm t p k (j + 1) n).toInt64) (tA t p k * (rsm t p k (bq (tA t p k) (fun d => rsm t p k d n) j) n).toInt64) ≤ 0 := z2
          rw [bq, if_neg z2]
          exact ⟨rfl, rfl⟩
  · obtain ⟨v6, v7, v9, s⟩ := y
    obtain ⟨e1, e2⟩ := hI
    have e1 : v9 = nI (n + 1) := e1
    subst e1
    obtain ⟨f1, f2⟩ := e2 (by omega)
    have f1 : v6 = nI (bq (tA t p k) (fun d => rsm t p k d n) n) := f1
    subst f1
    exact ⟨fun _ => h s, fun q => absurd ((nI_ltI (a := n) (b := n + 1) (by omega) (by omega)).mpr (by omega)) q⟩
theorem rsm_n (t : ew_M) (p k d : Nat) : ∀ n, ∃ j, j ≤ n ∧ rsm t p k d n = nI j
  | 0 => ⟨0, by decide, rfl⟩
  | n + 1 => by
    obtain ⟨j, h1, h2⟩ := rsm_n t p k d n
    obtain ⟨i, h3, h4⟩ := flg_n (nI p) k (rx p k d n (ri t p k d n))
    refine ⟨j + i, by omega, ?_⟩
    show rsm t p k d n + flg (nI p) k (rx p k d n (ri t p k d n)) = _
    rw [h2, h4, nI_add]
