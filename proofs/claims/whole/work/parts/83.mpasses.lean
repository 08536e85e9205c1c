/-! a week of the reference -/
def row1 (idl : Nat → Int32) (A p : Nat) (t : ew_M) : ew_M := iter (fun a => st1 (idl a) a p) A t
theorem row1_ok {t : ew_M} (hw : wf t) {idl : Nat → Int32} {p : Nat} (hp : p < Pn t) : ∀ n, n ≤ An t → Ag t (row1 idl n p t) ∧ wf (row1 idl n p t)
  | 0, _ => ⟨Ag.rf t, hw⟩
  | n + 1, hn => by
    obtain ⟨h1, h2⟩ := row1_ok hw (idl := idl) hp n (by omega)
    obtain ⟨g1, g2⟩ := st1_ok h2 (idle := idl n) (p := p) (a := n) (by rw [h1.A]; omega) (by rw [h1.P]; exact hp)
    exact ⟨h1.tr g1, g2⟩
theorem rows_ok {t : ew_M} (hw : wf t) {idl : Nat → Int32} : ∀ n, n ≤ Pn t → Ag t (iter (row1 idl (An t)) n t) ∧ wf (iter (row1 idl (An t)) n t)
  | 0, _ => ⟨Ag.rf t, hw⟩
  | n + 1, hn => by
    obtain ⟨h1, h2⟩ := rows_ok hw (idl := idl) n (by omega)
    obtain ⟨g1, g2⟩ := row1_ok h2 (idl := idl) (p := n) (by rw [h1.P]; omega) (An t) (by rw [h1.A]; exact Nat.le_refl _)
    exact ⟨h1.tr g1, g2⟩
def ph2c (a : Nat) (t : ew_M) : ew_M := if inF t a = true then ph2 a t else t
theorem ph2c_ok (t : ew_M) (a : Nat) : Ah t (ph2c a t) := by
  unfold ph2c
  by_cases h : inF t a = true
  · rw [if_pos h]; exact ph2_ok t a
  · rw [if_neg h]; exact Ah.rf t
theorem cols_ok (t : ew_M) : ∀ n, Ah t (iter ph2c n t)
  | 0 => Ah.rf t
  | n + 1 => (cols_ok t n).tr (ph2c_ok _ n)
def wk1 (t : ew_M) : ew_M := ew_sI t 4 (t.1 4 + 1)
def passM (idl : Nat → Int32) (t : ew_M) : ew_M := wk1 (iter ph2c (An t) (iter (row1 idl (An t)) (Pn t) t))
theorem gn1_8 (a p b : Nat) (v : Int32) (t : ew_M) : gn1 a p (ew_sA t 8 b v) = ew_sA (gn1 a p t) 8 b v := by
  unfold gn1
  have e1 : bs (ew_sA t 8 b v) a = bs t a := rfl
  have e2 : tr (ew_sA t 8 b v) a = tr t a := rfl
  rw [e1, e2]
  by_cases h : (bs t a).testBit p = true
  · rw [if_pos h, if_pos h]
    exact sA_comm (Or.inl (by decide))
  · rw [if_neg h, if_neg h]
theorem gn1_8r (a p : Nat) (t : ew_M) : (gn1 a p t).2.1 8 = t.2.1 8 := by
  unfold gn1
  by_cases h : (bs t a).testBit p = true
  · rw [if_pos h, sA_a (by decide)]
  · rw [if_neg h]
theorem RT_8 {t m : ew_M} (hr : RT t m) (a : Nat) (v : Int32) : RT (ew_sA t 8 a v) (ew_sA m 10 a v) := by
  refine ⟨hr.1, hr.2.1, fun b hb => ?_, hr.2.2.2.1, hr.2.2.2.2.1, hr.2.2.2.2.2⟩
  obtain ⟨g1, g2, g3, g4, g5⟩ := hr.2.2.1 b hb
  refine ⟨g1, g2, g3, g4, ?_⟩
  by_cases e : b = a
  · subst e
    rw [sA_s, sA_s]
  · rw [sA_i e, sA_i e, g5]
theorem RT_3 {t m : ew_M} (hr : RT t m) (p : Nat) (v : Int32) : RT (ew_sA t 3 p v) (ew_sA m 3 p v) := by
  refine ⟨hr.1, fun j hj => ?_, hr.2.2.1, hr.2.2.2.1, hr.2.2.2.2.1, hr.2.2.2.2.2⟩
  obtain ⟨g1, g2, g3, g4⟩ := hr.2.1 j hj
  refine ⟨g1, g2, g3, ?_⟩
  by_cases e : j = p
  · subst e
    rw [sA_s, sA_s]
  · rw [sA_i e, sA_i e, g4]
theorem RT_30 {t m : ew_M} (hr : RT t m) {p : Nat} (hp : p < 6) : RT t (ew_sA m 3 p (t.2.1 3 p + 0)) := by
  have h := RT_3 hr p (t.2.1 3 p)
  rw [sA_self] at h
  rw [Int32.add_zero]
  exact h
theorem RT_w {t m : ew_M} (hr : RT t m) : RT (wk1 t) (ew_sI m 17 (m.1 17 + 1)) := by
  obtain ⟨⟨g1, g2, g3, g4, g5⟩, h⟩ := hr
  refine ⟨⟨g1, g2, g3, g4, ?_⟩, h⟩
  show upd m.1 17 (m.1 17 + 1) 17 = upd t.1 4 (t.1 4 + 1) 4
  rw [g5]
  simp [upd]
theorem m_passes {t m : ew_M} (hr : RT t m) (hw : wf t) {idl : Nat → Int32} (hidl : ∀ p a, p < 6 → a < 5 → (nI p = idl a ↔ (nI p = m.1 29 ∧ nI a = m.1 30))) {Q : ew_M → Prop} (h : ∀ n, RT (passM idl t) n → Fr m n → Q n) : wX5_passes Q m := by
  obtain ⟨eP, hP⟩ := hw.P
  obtain ⟨eA, hA⟩ := hw.A
  refine ew_forI (Pn t) (fun p x => ∃ n, x = (nI p, n) ∧ RT (iter (row1 idl (An t)) p t) n ∧ Fr m n) (fun p R x hp hI hR => ?_) (fun R x hI => ?_) ⟨m, rfl, hr, Fr.rf m⟩
  · obtain ⟨n, rfl, hn, hf⟩ := hI
    obtain ⟨a1, a2⟩ := rows_ok hw (idl := idl) p (by omega)
    have hR : ∀ n2, RT (row1 idl (An t) p (iter (row1 idl (An t)) p t)) n2 → Fr m n2 → R (nI p + 1, n2) := fun n2 g1 g2 => hR _ ⟨n2, by rw [nI_s], g1, g2⟩
    generalize iter (row1 idl (An t)) p t = u at a1 a2 hn hR
    refine ⟨fun q => ?_, fun _ => ?_⟩
    · have q : n.1 0 ≤ nI p := q
      rw [hn.1.1, a1.1, eP] at q
      exact absurd q (nI_ge hp (by omega))
    · refine ew_forI (An t) (fun a x => ∃ n2, x = (nI a, n2) ∧ RT (row1 idl a p u) n2 ∧ Fr m n2) (fun a R2 x ha hI hR2 => ?_) (fun R2 x hI => ?_) ⟨n, rfl, hn, hf⟩
      · obtain ⟨n2, rfl, hn2, hf2⟩ := hI
        obtain ⟨b1, b2⟩ := row1_ok a2 (idl := idl) (p := p) (by rw [a1.P]; exact hp) a (by rw [a1.A]; omega)
        have hR2 : ∀ n3, RT (st1 (idl a) a p (row1 idl a p u)) n3 → Fr m n3 → R2 (nI a + 1, n3) := fun n3 g1 g2 => hR2 _ ⟨n3, by rw [nI_s], g1, g2⟩
        generalize row1 idl a p u = w at b1 b2 hn2 hR2
        have c1 := a1.tr b1
        have i1 : nI p = idl a ↔ (nI p = n2.1 29 ∧ nI a = n2.1 30) := by rw [hf2.1 29 (by decide), hf2.1 30 (by decide)]; exact hidl p a (by omega) (by omega)
        refine ⟨fun q => ?_, fun _ => m_mayRead hn2 b2 (by omega) (by rw [c1.P]; exact hp) ⟨fun z => ?_, fun z => ?_⟩⟩
        · have q : n2.1 5 ≤ nI a := q
          rw [hn2.1.2.1, c1.1, eA] at q
          exact absurd q (nI_ge ha (by omega))
        · rw [bI_0] at z
          refine hR2 n2 ?_ hf2
          have e : st1 (idl a) a p w = w := by
            unfold st1
            by_cases q : nI p = idl a
            · rw [if_pos q]
            · rw [if_neg q, z, if_neg (by decide)]
          rw [e]; exact hn2
        · rw [bI_0] at z
          have z := b_nf z
          have go : ¬ nI p = idl a → wX5_passes_45 R R2 Q (nI p) (nI a) n2 := fun q => by
            refine m_does hn2 b2 (by rw [c1.A]; exact ha) (by rw [c1.P]; exact hp) (fun n3 g1 g2 => ?_)
            refine hR2 n3 ?_ (hf2.tr g2)
            have e : st1 (idl a) a p w = trn w p a := by unfold st1; rw [if_neg q, if_pos z]
            rw [e]; exact g1
          refine ⟨fun q => go (fun y => q (i1.mp y).1), fun q => ⟨fun q2 => ?_, fun q2 => go (fun y => q2 (i1.mp y).2)⟩⟩
          refine hR2 n2 ?_ hf2
          have e : st1 (idl a) a p w = w := by unfold st1; rw [if_pos (i1.mpr ⟨q, q2⟩)]
          rw [e]; exact hn2
      · obtain ⟨n2, rfl, hn2, hf2⟩ := hI
        obtain ⟨b1, b2⟩ := row1_ok a2 (idl := idl) (p := p) (by rw [a1.P]; exact hp) (An t) (by rw [a1.A]; omega)
        refine ⟨fun _ => hR n2 hn2 hf2, fun q => ?_⟩
        have q : ¬ n2.1 5 ≤ nI (An t) := q
        rw [hn2.1.2.1, (a1.tr b1).1, eA] at q
        exact absurd (nI_le (Nat.le_refl _) (by omega)) q
  · obtain ⟨n, rfl, hn, hf⟩ := hI
    obtain ⟨a1, a2⟩ := rows_ok hw (idl := idl) (Pn t) (Nat.le_refl _)
    unfold passM at h
    generalize iter (row1 idl (An t)) (Pn t) t = u at a1 a2 hn h
    refine ⟨fun _ => ?_, fun q => ?_⟩
    · refine ew_forI (An t) (fun a x => ∃ n2, x = (nI a, n2) ∧ RT (iter ph2c a u) n2 ∧ Fr m n2) (fun a R2 x ha hI hR2 => ?_) (fun R2 x hI => ?_) ⟨n, rfl, hn, hf⟩
      · obtain ⟨n2, rfl, hn2, hf2⟩ := hI
        have b1 := cols_ok u a
        have b2 := b1.w a2
        have hR2 : ∀ n3, RT (ph2c a (iter ph2c a u)) n3 → Fr m n3 → R2 (nI a + 1, n3) := fun n3 g1 g2 => hR2 _ ⟨n3, by rw [nI_s], g1, g2⟩
        generalize iter ph2c a u = w at b1 b2 hn2 hR2
        have w0 : w.1 = t.1 := b1.1.trans a1.1
        have wP : Pn w = Pn t := by rw [Pn, Pn, w0]
        refine ⟨fun q => ?_, fun _ => m_isForce hn2 b2 (by omega) ⟨fun z => ?_, fun z => ⟨vp_in_nI (by omega) (by decide), vp_in_nI (by omega) (by decide), ?_⟩⟩⟩
        · have q : n2.1 5 ≤ nI a := q
          rw [hn2.1.2.1, w0, eA] at q
          exact absurd q (nI_ge ha (by omega))
        · rw [bI_0] at z
          refine hR2 n2 ?_ hf2
          unfold ph2c
          rw [z, if_neg (by decide)]
          exact hn2
        · rw [bI_0] at z
          have z := b_nf z
          have hR2 : ∀ n3, RT (ph2 a w) n3 → Fr m n3 → R2 (nI a + 1, n3) := fun n3 g1 g2 => hR2 n3 (by unfold ph2c; rw [if_pos z]; exact g1) g2
          rw [cN (by omega), (hn2.2.2.1 a (by omega)).2.2.2.2]
          refine ew_forI (Pn w) (fun i x => ∃ n3, x = (nI i, n3) ∧ RT (iter (gn1 a) i (ew_sA w 8 a (w.2.1 8 a + 1))) n3 ∧ Fr m n3) (fun i R3 x hi hI hR3 => ?_) (fun R3 x hI => ?_) ⟨_, rfl, RT_8 hn2 a _, hf2.tr (Fr.a10 _ _ _)⟩
          · obtain ⟨n3, rfl, hn3, hf3⟩ := hI
            have d1 := it2_ok (ew_sA w 8 a (w.2.1 8 a + 1)) a i
            have d2 := d1.w (wf_l b2 a _)
            have hR3 : ∀ n4, RT (gn1 a i (iter (gn1 a) i (ew_sA w 8 a (w.2.1 8 a + 1)))) n4 → Fr m n4 → R3 (nI i + 1, n4) := fun n4 g1 g2 => hR3 _ ⟨n4, by rw [nI_s], g1, g2⟩
            generalize iter (gn1 a) i (ew_sA w 8 a (w.2.1 8 a + 1)) = y at d1 d2 hn3 hR3
            have y0 : y.1 = t.1 := d1.1.trans w0
            obtain ⟨f1, f2⟩ := d2.t (a := a) (by omega)
            refine ⟨fun q => ?_, fun _ => ⟨vp_in_nI (by omega) (by decide), m_isBound hn3 d2 (by omega) (by omega) ⟨fun q => ⟨vp_in_nI (by omega) (by decide), ?_⟩, fun q => ?_⟩⟩⟩
            · have q : n3.1 0 ≤ nI i := q
              rw [hn3.1.1, y0, eP] at q
              exact absurd q (nI_ge (by omega) (by omega))
            · rw [bI_0] at q
              rw [cN (by omega), (hn3.2.1 i (by omega)).2.2.2]
              refine hR3 _ ?_ (hf3.tr (Fr.a3 _ _ _))
              unfold gn1
              rw [q, if_neg (by decide)]
              exact RT_30 hn3 (by omega)
            · rw [bI_0] at q
              show vp_in (nI a) 5 ∧ vp_in ((3 : Int32) * nI a + n3.2.1 7 (nI a).toNatClampNeg) 15 ∧ vp_in (nI i) 6 ∧ R3 (nI i + 1, ew_sA n3 3 (nI i).toNatClampNeg (n3.2.1 3 (nI i).toNatClampNeg + n3.2.1 6 ((3 : Int32) * nI a + n3.2.1 7 (nI a).toNatClampNeg).toNatClampNeg))
              rw [cN (a := a) (by omega), (hn3.2.2.1 a (by omega)).2.2.2.1, f1, ix15m, cN (a := i) (by omega), cN (a := a * 3 + tr y a) (by omega), (hn3.2.1 i (by omega)).2.2.2, (hn3.2.2.2.1 (a * 3 + tr y a) (by omega)).2]
              refine ⟨vp_in_nI (by omega) (by decide), vp_in_nI (by omega) (by decide), vp_in_nI (by omega) (by decide), hR3 _ ?_ (hf3.tr (Fr.a3 _ _ _))⟩
              unfold gn1
              rw [if_pos (b_nf q)]
              exact RT_3 hn3 i _
          · obtain ⟨n3, rfl, hn3, hf3⟩ := hI
            have d1 := it2_ok (ew_sA w 8 a (w.2.1 8 a + 1)) a (Pn w)
            refine ⟨fun _ => hR2 n3 ?_ hf3, fun q => ?_⟩
            · have e : iter (gn1 a) (Pn w) (ew_sA w 8 a (w.2.1 8 a + 1)) = ew_sA (iter (gn1 a) (Pn w) w) 8 a (w.2.1 8 a + 1) := iter_comm (g := fun t => ew_sA t 8 a (w.2.1 8 a + 1)) (fun i t => gn1_8 a i a _ t) _ _
              have e2 : (iter (gn1 a) (Pn w) w).2.1 8 = w.2.1 8 := by
                have k : ∀ n, (iter (gn1 a) n w).2.1 8 = w.2.1 8 := by
                  intro n
                  induction n with
                  | zero => rfl
                  | succ n ih =>
                    exact (gn1_8r a n _).trans ih
                exact k _
              unfold ph2
              rw [e2, ← e]
              exact hn3
            · have q : ¬ n3.1 0 ≤ nI (Pn w) := q
              rw [hn3.1.1, d1.1] at q
              have q : ¬ w.1 0 ≤ nI (Pn w) := q
              rw [w0, eP, wP] at q
              exact absurd (nI_le (Nat.le_refl _) (by omega)) q
      · obtain ⟨n2, rfl, hn2, hf2⟩ := hI
        have b1 := cols_ok u (An t)
        refine ⟨fun _ => h _ (RT_w hn2) (hf2.tr (Fr.i17 _ _)), fun q => ?_⟩
        have q : ¬ n2.1 5 ≤ nI (An t) := q
        rw [hn2.1.2.1, b1.1, a1.1, eA] at q
        exact absurd (nI_le (Nat.le_refl _) (by omega)) q
    · have q : ¬ n.1 0 ≤ nI (Pn t) := q
      rw [hn.1.1, a1.1, eP] at q
      exact absurd (nI_le (Nat.le_refl _) (by omega)) q
