/-! lots: both -/
def Gr (m n : ew_M) : Prop := (∀ i, i ≠ 17 → i ≠ 40 → n.1 i = m.1 i) ∧ (∀ b, b ≠ 3 → b ≠ 8 → b ≠ 9 → b ≠ 10 → n.2.1 b = m.2.1 b) ∧ ∀ b, b ≠ 0 → n.2.2 b = m.2.2 b
theorem Gr.fr {m n o : ew_M} (h : Gr m n) (f : Fr n o) : Gr m o := ⟨fun i h1 h2 => (f.1 i h1).trans (h.1 i h1 h2), fun b h1 h2 h3 h4 => (f.2.1 b h1 h2 h3 h4).trans (h.2.1 b h1 h2 h3 h4), fun b hb => (f.2.2 b hb).trans (h.2.2 b hb)⟩
theorem Gr.sI {m n : ew_M} (h : Gr m n) (v : Int32) : Gr m (ew_sI n 40 v) := ⟨fun i h1 h2 => (sI_i h2).trans (h.1 i h1 h2), h.2.1, h.2.2⟩
theorem RT_40 {t m : ew_M} (h : RT t m) (v : Int32) : RT t (ew_sI m 40 v) := h.cong ⟨sI_i (by decide), sI_i (by decide), sI_i (by decide), sI_i (by decide), sI_i (by decide)⟩ (fun _ _ => rfl) rfl
theorem back_g {t m n o q : ew_M} (hr : RT t m) (hA : An t ≤ 5) (h : KP 36 17 19 20 21 22 8 9 10 3 1 0 m n) (hf : Gr n o) (hq : KP 17 36 8 9 10 3 19 20 21 22 0 1 o q) : RT t q ∧ Fo m q := by
  obtain ⟨k1, k2, k3, k4, k5, k6, k7⟩ := h
  obtain ⟨f1, f2, f3⟩ := hf
  refine back hr hA (fun i hi => ?_) ?_ (fun b hb => ?_) (fun j hj => ?_) (fun j hj => ?_) (fun j hj => ?_) ?_ hq
  · rw [f1 i (by omega) (by omega), k1 i (by omega)]
  · rw [f1 36 (by decide) (by decide), k2]
  · rw [f2 b (by omega) (by omega) (by omega) (by omega), k3 b (by omega) (by omega) (by omega) (by omega)]
  · rw [f2 19 (by decide) (by decide) (by decide) (by decide), f2 20 (by decide) (by decide) (by decide) (by decide), f2 21 (by decide) (by decide) (by decide) (by decide)]
    exact k5 j hj
  · rw [f2 22 (by decide) (by decide) (by decide) (by decide)]
    exact k6 j hj
  · rw [f3 1 (by decide)]
    exact k7 j hj
  · rw [f3 2 (by decide), k4 2 (by decide)]
theorem m_lotsw {t n0 : ew_M} (hw : wf t) (hp : 0 < Pn t) (ha : 0 < An t) (hr : RT t n0) (h29 : n0.1 29 = -1) {n : Nat} (hn : n ≤ 60) {z v3 : Int32} (h40 : n0.1 40 = z) {Q : Int32 → ew_M → Prop} (h : ∀ s, Gr n0 s → wX5_lays (fun m5 => Q (hs (lo t z n).1 (Pn t) - v3) m5) s) : ew_lp (fun (R : Int32 × ew_M → Prop) (x : Int32 × ew_M) => wX5_lots_63 R Q (nI n) v3 x.1 x.2) ((0 : Int32), n0) := by
  have hP := hw.P.2
  have hA := hw.A.2
  refine ew_forI n (fun i y => ∃ s, y = (nI i, s) ∧ RT (lo t z i).1 s ∧ s.1 40 = (lo t z i).2 ∧ Gr n0 s) (fun i R y hi hI hRR => ?_) (fun R y hI => ?_) ⟨n0, rfl, hr, h40, fun _ _ _ => rfl, fun _ _ _ _ _ => rfl, fun _ _ => rfl⟩
  · obtain ⟨s, rfl, g1, g2, g3⟩ := hI
    obtain ⟨w1, w2, w3⟩ := lo_wf hw hp ha z i
    refine ⟨fun q => absurd q (nI_ge hi (by omega)), fun _ => ?_⟩
    dsimp only
    rw [g1.1.1, w1.P.1]
    refine m_draw (by omega) (by omega) fun r r1 r2 => ?_
    rw [sI_i (by decide : (5 : Nat) ≠ 40), g1.1.2.1, w1.A.1]
    refine m_draw (by omega) (by omega) fun k k1 k2 => ?_
    rw [g2] at r2
    rw [sI_s, g2] at k2
    rw [sI_s, sI_sI, g2]
    have e : lo t z (i + 1) = (passWi m1 (lrd (lo t z i).1 r k), sdn (sdn (lo t z i).2)) := by
      show lstep (lo t z i) = _
      unfold lstep
      rw [r2, k2, cl_nI (by omega), cl_nI (by omega)]
    obtain ⟨l1, -, -⟩ := lrd_wf w1 r1 k1
    have step : ∀ s' : ew_M, RT (lrd (lo t z i).1 r k) s' → s'.1 40 = sdn (sdn (lo t z i).2) → Gr n0 s' → wX5_lots_108 R Q (nI n) v3 (nI i) s' := fun s' a1 a2 a3 => by
      refine m_passes1 a1 l1 (by rw [a3.1 29 (by decide) (by decide)]; exact h29) fun o o1 o2 => hRR _ ⟨o, by rw [nI_s], ?_, ?_, a3.fr o2⟩
      · rw [e]; exact o1
      · rw [e, o2.1 40 (by decide)]; exact a2
    refine m_mayRead (RT_40 g1 _) w1 (by omega) (by omega) ⟨fun q => ?_, fun q => ?_⟩
    · rw [bI_0] at q
      have el : lrd (lo t z i).1 r k = (lo t z i).1 := by unfold lrd; rw [q, if_neg (by decide)]
      exact step _ (by rw [el]; exact RT_40 g1 _) (sI_s _ _ _) (g3.sI _)
    · have q : canR (lo t z i).1 r k = true := b_nf (fun e => q ((bI_0 _).mpr e))
      have el : lrd (lo t z i).1 r k = mk (lo t z i).1 r k := by unfold lrd; rw [if_pos q]
      refine m_hasNowRead (RT_40 g1 _) w1 (by omega) (by omega) fun o o1 o2 => step o (by rw [el]; exact o1) ?_ ((g3.sI _).fr o2)
      rw [o2.1 40 (by decide), sI_s]
  · obtain ⟨s, rfl, g1, g2, g3⟩ := hI
    obtain ⟨w1, w2, w3⟩ := lo_wf hw hp ha z n
    refine ⟨fun _ => m_hadBy g1 w1 ?_, fun q => absurd (nI_le (Nat.le_refl n) (by omega)) q⟩
    rw [w3]
    exact h s g3
section REL
variable {a b c lt ra xs m : ew_M}
theorem Rel.seed (hR : Rel a c lt xs m) (v : Int32) : Rel a c lt (ew_sI xs 1 v) m := by
  obtain ⟨h1, h2, ⟨h3, h4, h5⟩, h6, h7⟩ := hR
  refine ⟨h1, h2, ⟨?_, ?_, h5⟩, h6, ?_⟩
  · rw [sI_i (by decide)]; exact h3
  · rw [sI_i (by decide)]; exact h4
  · rw [sI_i (by decide)]; exact h7
/-- lots -/
theorem s_lots (hR : Rel a c lt xs m) (x z : Int32) : wX4_lots (fun r _ xs' => wX5_lots (fun r' m' => r = r' ∧ Rel a c lt xs' m') x z m) x z a b c lt ra xs := by
  have hw := hR.w
  have hr := hR.r
  obtain ⟨eP, hP⟩ := hw.P
  obtain ⟨eA, hA⟩ := hw.A
  have rr : ∀ {P : Int32 → ew_M → Prop} {k : Nat} {x : Int32}, k < 7 → -x = nI k → P ((1000000000 : Int32) - x) (rfM m k) → wX5_refuseFar P x m := fun {P k x} h1 h2 h => by
    show wX5_refuse (fun r1 m2 => P ((1000000000 : Int32) - r1) m2) x m
    exact m_refuse h1 h2 h
  have no3 : wX5_lots_39 (fun r' m' => (1000000000 : Int32) + nI 3 = r' ∧ Rel a c lt (rfX xs 3) m') m := rr (k := 3) (by decide) (by decide) ⟨by decide, hR.rf (by decide)⟩
  refine p_so (n := 60) (by decide) ⟨fun q => ?_, fun q q2 => ?_, fun n h1 h2 e => ?_⟩
  · exact ⟨fun _ => ⟨fun q2 => absurd q2 (by decide), fun _ => p_refuseFar (k := 4) (by decide) ⟨fun q2 => absurd q (Int32.not_lt.mpr q2), fun _ => rr (k := 4) (by decide) (by decide) ⟨by decide, hR.rf (by decide)⟩⟩⟩, fun q2 => absurd q2 (by decide)⟩
  · exact ⟨fun _ => ⟨fun q2 => absurd q2 (by decide), fun _ => p_refuseFar (k := 6) (by decide) ⟨fun _ => ⟨fun q3 => absurd q2 (Int32.not_lt.mpr q3), fun _ => rr (k := 6) (by decide) (by decide) ⟨by decide, hR.rf (by decide)⟩⟩, fun q3 => absurd (Int32.not_lt.mp q) q3⟩⟩, fun q2 => absurd q2 (by decide)⟩
  · subst e
    have md : ∀ {P : Int32 → ew_M → Prop}, ((m.1 0 = 0 → wX5_lots_39 P m) ∧ (¬ m.1 0 = 0 → (¬ m.1 5 = 0 → wX5_keeps (fun m6 => wX5_allHad (fun r7 => ew_lp (fun (R : Int32 × ew_M → Prop) (x : Int32 × ew_M) => wX5_lots_63 R P (nI n) r7 x.1 x.2) ((0 : Int32), (ew_sI m6 40 z))) (ew_sI m6 40 z)) m) ∧ (m.1 5 = 0 → wX5_lots_39 P m))) → wX5_lots P (nI n) z m := fun g => ⟨fun _ => ⟨fun _ => g, fun q => absurd (nI_le (a := n) (b := 60) h2 (by decide)) q⟩, fun q => absurd (nI_le (a := 1) (b := n) h1 (by omega)) q⟩
    refine ⟨fun q => absurd rfl q, fun _ => ⟨fun q => ?_, fun q => ⟨fun q2 => ⟨fun _ => ?_, fun q3 => absurd rfl q3⟩, fun q2 => ?_⟩⟩⟩
    · have q : a.1 0 = 0 := q
      exact ⟨fun q2 => absurd q2 (by decide), fun _ => p_refuseFar (k := 3) (by decide) (md ⟨fun _ => no3, fun q2 => absurd (hr.1.1.trans q) q2⟩)⟩
    · have q : ¬ a.1 0 = 0 := q
      have q2 : ¬ a.1 1 = 0 := q2
      have p0 : 0 < Pn a := Nat.pos_of_ne_zero fun e => q (by rw [eP, e]; rfl)
      have a0 : 0 < An a := Nat.pos_of_ne_zero fun e => q2 (by rw [eA, e]; rfl)
      refine p_lots hw p0 a0 h2 (md ⟨fun z0 => absurd (hr.1.1.symm.trans z0) q, fun _ => ⟨fun _ => m_keeps fun n0 h0 => ?_, fun z0 => absurd (hr.1.2.1.symm.trans z0) q2⟩⟩)
      refine m_hadBy (RT_40 (KP_RT hr h0) z) hw (m_lotsw hw p0 a0 (RT_40 (KP_RT hr h0) z) ?_ h2 (sI_s _ _ _) fun s hs => m_lays fun o ho => ?_)
      · rw [sI_i (by decide), h0.1 29 (by decide)]; exact hR.1.2.2
      · have hg : Gr n0 s := ⟨fun i h1 h2 => (hs.1 i h1 h2).trans (sI_i h2), hs.2.1, hs.2.2⟩
        obtain ⟨b1, b2⟩ := back_g hr hA h0 hg ho
        exact ⟨rfl, (hR.up hw b1 b2).seed _⟩
    · have q2 : a.1 1 = 0 := q2
      have q : ¬ a.1 0 = 0 := q
      exact ⟨fun q3 => absurd q3 (by decide), fun _ => p_refuseFar (k := 3) (by decide) (md ⟨fun _ => no3, fun _ => ⟨fun q3 => absurd (hr.1.2.1.trans q2) q3, fun _ => no3⟩⟩)⟩
end REL
