/-! lots: the weeks drawn -/
def lrd (T : ew_M) (r k : Nat) : ew_M := if canR T r k = true then mk T r k else T
def lstep (y : ew_M × Int32) : ew_M × Int32 := (passWi m1 (lrd y.1 (cl (dvn (sdn y.2) (nI (Pn y.1)))) (cl (dvn (sdn (sdn y.2)) (nI (An y.1))))), sdn (sdn y.2))
def lo (t : ew_M) (z : Int32) : Nat → ew_M × Int32
  | 0 => (t, z)
  | i + 1 => lstep (lo t z i)
theorem lrd_wf {T : ew_M} (hw : wf T) {r k : Nat} (hr : r < Pn T) (hk : k < An T) : wf (lrd T r k) ∧ An (lrd T r k) = An T ∧ Pn (lrd T r k) = Pn T := by
  have hP := hw.P.2
  unfold lrd
  split
  · rename_i q
    rw [canR, Bool.and_eq_true] at q
    exact ⟨wf_mk hw hk (by omega) q.1, rfl, rfl⟩
  · exact ⟨hw, rfl, rfl⟩
theorem lstep_wf {y : ew_M × Int32} (hw : wf y.1) (hp : 0 < Pn y.1) (ha : 0 < An y.1) : wf (lstep y).1 ∧ An (lstep y).1 = An y.1 ∧ Pn (lstep y).1 = Pn y.1 := by
  have hP := hw.P.2
  have hA := hw.A.2
  obtain ⟨r, r1, r2⟩ := dvn_n (sdn y.2) hp (by omega)
  obtain ⟨k, k1, k2⟩ := dvn_n (sdn (sdn y.2)) ha (by omega)
  unfold lstep
  rw [r2, k2, cl_nI (by omega), cl_nI (by omega)]
  obtain ⟨h1, h2, h3⟩ := lrd_wf hw r1 k1
  refine ⟨wf_passWi h1 _, (passWi_A _ _).trans h2, ?_⟩
  show Pn (passWi m1 (lrd y.1 r k)) = _
  unfold Pn passWi
  rw [wk1_1 _ _ (by decide), itP_1]
  exact h3
theorem lo_wf {t : ew_M} (hw : wf t) (hp : 0 < Pn t) (ha : 0 < An t) (z : Int32) : ∀ n, wf (lo t z n).1 ∧ An (lo t z n).1 = An t ∧ Pn (lo t z n).1 = Pn t
  | 0 => ⟨hw, rfl, rfl⟩
  | n + 1 => by
    obtain ⟨h1, h2, h3⟩ := lo_wf hw hp ha z n
    obtain ⟨g1, g2, g3⟩ := lstep_wf (y := lo t z n) h1 (by omega) (by omega)
    exact ⟨g1, g2.trans h2, g3.trans h3⟩
theorem p_draw {p : Nat} (h0 : 0 < p) (hp : p < 100) {s1 s2 s3 s4 : ew_M} {Q : Int32 → ew_M → Prop} (h : ∀ r, r < p → dvn (sdn (s4.1 1)) (nI p) = nI r → Q (nI r) (ew_sI s4 1 (sdn (s4.1 1)))) : wX1_drawBelow Q (nI p) s1 s2 s3 s4 := by
  obtain ⟨r, r1, r2⟩ := dvn_n (sdn (s4.1 1)) h0 hp
  refine ⟨fun q => absurd ((nI_leI (a := p) (b := 0) (by omega) (by decide)).mp q) (by omega), fun q => ⟨fun e => q (by rw [e]; decide), fun y hy => ?_⟩⟩
  have hy : y = dvn (sdn (s4.1 1)) (nI p) := hy
  rw [hy, r2]
  exact h r r1 r2
theorem m_draw {p : Nat} (h0 : 0 < p) (hp : p < 100) {m : ew_M} {Q : Int32 → ew_M → Prop} (h : ∀ r, r < p → dvn (sdn (m.1 40)) (nI p) = nI r → Q (nI r) (ew_sI m 40 (sdn (m.1 40)))) : wX5_draws Q (nI p) m := by
  obtain ⟨r, r1, r2⟩ := dvn_n (sdn (m.1 40)) h0 hp
  refine ⟨fun e => absurd ((nI_eq (a := p) (b := 0) (by omega) (by decide)).mp e) (by omega), fun y hy => ?_⟩
  have hy : y = dvn (sdn (m.1 40)) (nI p) := hy
  rw [hy, r2]
  exact h r r1 r2
theorem p_lots {t xs s2 s3 : ew_M} (hw : wf t) (hp : 0 < Pn t) (ha : 0 < An t) {n : Nat} (hn : n ≤ 60) {z : Int32} {Q : Int32 → ew_M → ew_M → Prop} (h : Q (hs (lo t z n).1 (Pn t) - hs t (Pn t)) (lo t z n).1 (ew_sI xs 1 (lo t z n).2)) : wX1_drawWeeks Q (nI n) z t s2 s3 xs := by
  have hP := hw.P.2
  have hA := hw.A.2
  refine ew_for n (fun i => (nI i, (lo t z i).1, ew_sI xs 1 (lo t z i).2)) (fun i R hi hR => ?_) (fun R => ?_)
  · obtain ⟨w1, w2, w3⟩ := lo_wf hw hp ha z i
    refine ⟨fun q => absurd q (nI_ge hi (by omega)), fun _ => ?_⟩
    unfold wX3_personCount
    dsimp only
    rw [w1.P.1]
    refine p_draw (by omega) (by omega) fun r r1 r2 => ?_
    unfold wX3_paperCount
    dsimp only
    rw [w1.A.1]
    refine p_draw (by omega) (by omega) fun k k1 k2 => ?_
    rw [sI_s] at r2 k2 ⊢
    rw [sI_s] at k2 ⊢
    rw [sI_sI, sI_sI]
    have e : lo t z (i + 1) = (passWi m1 (lrd (lo t z i).1 r k), sdn (sdn (lo t z i).2)) := by
      show lstep (lo t z i) = _
      unfold lstep
      rw [r2, k2, cl_nI (by omega), cl_nI (by omega)]
    have hR : R (nI (i + 1), (lo t z (i + 1)).1, ew_sI xs 1 (lo t z (i + 1)).2) := hR
    rw [e] at hR
    obtain ⟨l1, -, -⟩ := lrd_wf w1 r1 k1
    refine p_canRead w1 (by omega) (by omega) ⟨fun q => ?_, fun q => ?_⟩
    · rw [bI_0] at q
      have el : lrd (lo t z i).1 r k = (lo t z i).1 := by unfold lrd; rw [q, if_neg (by decide)]
      rw [el] at hR
      refine p_passWeek w1 ?_
      show R (nI i + 1, _)
      rw [nI_s]
      exact hR
    · have q : canR (lo t z i).1 r k = true := b_nf (fun e => q ((bI_0 _).mpr e))
      have el : lrd (lo t z i).1 r k = mk (lo t z i).1 r k := by unfold lrd; rw [if_pos q]
      rw [el] at hR l1
      refine p_markRead w1 (by omega) (by omega) (p_passWeek l1 ?_)
      show R (nI i + 1, _)
      rw [nI_s]
      exact hR
  · obtain ⟨w1, w2, w3⟩ := lo_wf hw hp ha z n
    refine ⟨fun _ => p_hadBy w1 (p_hadBy hw ?_), fun q => absurd (nI_le (Nat.le_refl n) (by omega)) q⟩
    rw [w3]
    exact h
