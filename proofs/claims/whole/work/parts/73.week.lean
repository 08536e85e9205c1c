/-! a week of a paper, and a week -/
theorem sA_s (t : ew_M) (a i : Nat) (v : Int32) : (ew_sA t a i v).2.1 a i = v := by simp [ew_sA, upd]
theorem sA_i {t : ew_M} {a i j : Nat} {v : Int32} (h : j ≠ i) : (ew_sA t a i v).2.1 a j = t.2.1 a j := by simp [ew_sA, upd, h]
theorem sA_a {t : ew_M} {a b i : Nat} {v : Int32} (h : b ≠ a) : (ew_sA t a i v).2.1 b = t.2.1 b := by simp [ew_sA, h]
theorem sA_self (t : ew_M) (a i : Nat) : ew_sA t a i (t.2.1 a i) = t := by
  have e : (fun b => if b = a then upd (t.2.1 a) i (t.2.1 a i) else t.2.1 b) = t.2.1 := by
    funext b
    by_cases h : b = a
    · subst h
      rw [if_pos rfl]
      funext j
      simp only [upd]
      by_cases hj : j = i
      · rw [if_pos hj, hj]
      · rw [if_neg hj]
    · rw [if_neg h]
  simp only [ew_sA, e]
theorem rs_s {t : ew_M} {a r : Nat} (h : r < 64) : rs (ew_sA t 5 a (nI r)) a = r := by rw [rs, sA_s, cl_nI (by omega)]
theorem rs_o {t : ew_M} {a b : Nat} {v : Int32} (h : b ≠ a) : rs (ew_sA t 5 a v) b = rs t b := by rw [rs, sA_i h, rs]
theorem ss_s {t : ew_M} {a r : Nat} (h : r < 64) : ss (ew_sA t 6 a (nI r)) a = r := by rw [ss, sA_s, cl_nI (by omega)]
theorem ss_o {t : ew_M} {a b : Nat} {v : Int32} (h : b ≠ a) : ss (ew_sA t 6 a v) b = ss t b := by rw [ss, sA_i h, ss]
theorem wf_r {t : ew_M} (hw : wf t) {a r : Nat} (hr : r < 64) (h : a < An t → r &&& bs t a = r) : wf (ew_sA t 5 a (nI r)) := by
  refine ⟨hw.1, hw.2.1, fun b hb => ⟨(hw.2.2.1 b hb).1, ?_, (hw.2.2.1 b hb).2.2⟩, fun b hb => ⟨(hw.2.2.2.1 b hb).1, (hw.2.2.2.1 b hb).2.1, ?_⟩, hw.2.2.2.2.1, hw.2.2.2.2.2.1, hw.2.2.2.2.2.2.1, hw.2.2.2.2.2.2.2⟩
  · by_cases e : b = a
    · subst e
      rw [sA_s]
      exact isN_of hr (by decide)
    · rw [sA_i e]
      exact (hw.2.2.1 b hb).2.1
  · by_cases e : b = a
    · subst e
      rw [rs_s hr]
      exact h hb
    · rw [rs_o e]
      exact (hw.2.2.2.1 b hb).2.2
theorem wf_s {t : ew_M} (hw : wf t) {a r : Nat} (hr : r < 64) : wf (ew_sA t 6 a (nI r)) := by
  refine ⟨hw.1, hw.2.1, fun b hb => ⟨(hw.2.2.1 b hb).1, (hw.2.2.1 b hb).2.1, ?_, (hw.2.2.1 b hb).2.2.2⟩, hw.2.2.2.1, hw.2.2.2.2.1, hw.2.2.2.2.2.1, hw.2.2.2.2.2.2.1, hw.2.2.2.2.2.2.2⟩
  by_cases e : b = a
  · subst e
    rw [sA_s]
    exact isN_of hr (by decide)
  · rw [sA_i e]
    exact (hw.2.2.1 b hb).2.2.1
theorem wf_h {t : ew_M} (hw : wf t) (p : Nat) (v : Int32) : wf (ew_sA t 3 p v) := hw
theorem wf_l {t : ew_M} (hw : wf t) (a : Nat) (v : Int32) : wf (ew_sA t 8 a v) := hw
theorem wf_w {t : ew_M} (hw : wf t) (v : Int32) : wf (ew_sI t 4 v) := hw
theorem or_sub : ∀ b, b < 64 → ∀ r, r < 64 → r &&& b = r → ∀ p, p < 6 → b.testBit p = true → (r ||| 2 ^ p) &&& b = r ||| 2 ^ p := by decide +kernel
theorem wf_mk {t : ew_M} (hw : wf t) {p a : Nat} (ha : a < An t) (hp : p < 6) (h : unr t p a = true) : wf (mk t p a) := by
  have hA := hw.A.2
  have ha5 : a < 5 := by omega
  have hb : (bs t a).testBit p = true := by
    rw [unr, Bool.and_eq_true] at h
    exact h.1
  exact wf_r hw (bt_or_lt _ (hw.r ha5).2 p hp) (fun _ => or_sub _ (hw.b ha5).2 _ (hw.r ha5).2 (hw.2.2.2.1 a ha).2.2 p hp hb)
/-- all but who has read and who says so -/
def Ag (t u : ew_M) : Prop := u.1 = t.1 ∧ u.2.2 = t.2.2 ∧ ∀ b, b ≠ 5 → b ≠ 6 → u.2.1 b = t.2.1 b
theorem Ag.rf (t : ew_M) : Ag t t := ⟨rfl, rfl, fun _ _ _ => rfl⟩
theorem Ag.tr {t u v : ew_M} (h : Ag t u) (g : Ag u v) : Ag t v := ⟨g.1.trans h.1, g.2.1.trans h.2.1, fun b h5 h6 => (g.2.2 b h5 h6).trans (h.2.2 b h5 h6)⟩
theorem Ag.mk5 (t : ew_M) (a : Nat) (v : Int32) : Ag t (ew_sA t 5 a v) := ⟨rfl, rfl, fun b h5 _ => sA_a h5⟩
theorem Ag.mk6 (t : ew_M) (a : Nat) (v : Int32) : Ag t (ew_sA t 6 a v) := ⟨rfl, rfl, fun b _ h6 => sA_a h6⟩
theorem Ag.P {t u : ew_M} (h : Ag t u) : Pn u = Pn t := by rw [Pn, Pn, h.1]
theorem Ag.A {t u : ew_M} (h : Ag t u) : An u = An t := by rw [An, An, h.1]
theorem Ag.b {t u : ew_M} (h : Ag t u) (a : Nat) : bs u a = bs t a := by rw [bs, bs, h.2.2 4 (by decide) (by decide)]
theorem Ag.L {t u : ew_M} (h : Ag t u) : Ln u = Ln t := by rw [Ln, Ln, h.1]
theorem Ag.k {t u : ew_M} (h : Ag t u) (p : Nat) : kd u p = kd t p := by rw [kd, kd, h.2.2 0 (by decide) (by decide)]
theorem gvU_ok {t : ew_M} (hw : wf t) {p a : Nat} (ha : a < An t) (hp : p < Pn t) : ∀ k, k < Pn t → Ag t (gvU t p a k) ∧ wf (gvU t p a k)
  | 0, _ => ⟨Ag.rf t, hw⟩
  | k + 1, hk => by
    rw [gvU]
    by_cases h : unr t (nx t p (Pn t - (k + 1))) a = true
    · rw [if_pos h]
      have hn := nx_lt (t := t) (p := p) (s := Pn t - (k + 1)) hp (by omega)
      have := hw.P.2
      exact ⟨Ag.mk5 _ _ _, wf_mk hw ha (by omega) h⟩
    · rw [if_neg h]
      exact gvU_ok hw ha hp k (by omega)
theorem trn_ok {t : ew_M} (hw : wf t) {p a : Nat} (ha : a < An t) (hp : p < Pn t) (h : unr t p a = true) : Ag t (trn t p a) ∧ wf (trn t p a) := by
  have hP := hw.P.2
  have hA := hw.A.2
  have m : Ag t (mk t p a) ∧ wf (mk t p a) := ⟨Ag.mk5 _ _ _, wf_mk hw ha (by omega) h⟩
  have n : Ag t t ∧ wf t := ⟨Ag.rf t, hw⟩
  unfold trn
  by_cases h1 : kd t p = 1
  · rw [if_pos h1]; exact m
  · rw [if_neg h1]
    by_cases h2 : kd t p = 2
    · rw [if_pos h2]
      by_cases q : tl t p a = true
      · rw [if_pos q]; exact m
      · rw [if_neg q]; exact n
    · rw [if_neg h2]
      by_cases h3 : kd t p = 3
      · rw [if_pos h3]
        by_cases q : t.1 4 < t.2.1 2 p
        · rw [if_pos q]; exact n
        · rw [if_neg q]; exact m
      · rw [if_neg h3]
        by_cases h4 : kd t p = 4
        · rw [if_pos h4]
          by_cases q : rs t a = 0
          · rw [if_pos q]; exact n
          · rw [if_neg q]
            by_cases q : tl t p a = true
            · rw [if_pos q]; exact m
            · rw [if_neg q]; exact n
        · rw [if_neg h4]
          by_cases h5 : kd t p = 5
          · rw [if_pos h5]
            exact gvU_ok hw ha hp _ (by omega)
          · rw [if_neg h5]
            by_cases h6 : kd t p = 6
            · rw [if_pos h6]
              exact ⟨Ag.mk6 _ _ _, wf_s hw (bt_or_lt _ (hw.s (by omega)).2 p (by omega))⟩
            · rw [if_neg h6]; exact n
def iter (f : Nat → ew_M → ew_M) : Nat → ew_M → ew_M
  | 0, t => t
  | n + 1, t => f n (iter f n t)
def st1 (idle : Int32) (a p : Nat) (t : ew_M) : ew_M := if nI p = idle then t else if canR t p a = true then trn t p a else t
theorem st1_ok {t : ew_M} (hw : wf t) {idle : Int32} {p a : Nat} (ha : a < An t) (hp : p < Pn t) : Ag t (st1 idle a p t) ∧ wf (st1 idle a p t) := by
  unfold st1
  by_cases h : nI p = idle
  · rw [if_pos h]; exact ⟨Ag.rf t, hw⟩
  · rw [if_neg h]
    by_cases h : canR t p a = true
    · rw [if_pos h]
      rw [canR, Bool.and_eq_true] at h
      exact trn_ok hw ha hp h.1
    · rw [if_neg h]; exact ⟨Ag.rf t, hw⟩
theorem it1_ok {t : ew_M} (hw : wf t) {idle : Int32} {a : Nat} (ha : a < An t) : ∀ n, n ≤ Pn t → Ag t (iter (st1 idle a) n t) ∧ wf (iter (st1 idle a) n t)
  | 0, _ => ⟨Ag.rf t, hw⟩
  | n + 1, hn => by
    obtain ⟨h1, h2⟩ := it1_ok hw (idle := idle) ha n (by omega)
    obtain ⟨g1, g2⟩ := st1_ok h2 (idle := idle) (p := n) (a := a) (by rw [h1.A]; exact ha) (by rw [h1.P]; omega)
    exact ⟨h1.tr g1, g2⟩
def ph1 (idle : Int32) (a : Nat) (t : ew_M) : ew_M := iter (st1 idle a) (Pn t) t
def gn1 (a p : Nat) (t : ew_M) : ew_M := if (bs t a).testBit p = true then ew_sA t 3 p (t.2.1 3 p + t.2.1 10 (a * 3 + tr t a)) else t
/-- all but what each had and how long each lasted -/
def Ah (t u : ew_M) : Prop := u.1 = t.1 ∧ u.2.2 = t.2.2 ∧ ∀ b, b ≠ 3 → b ≠ 8 → u.2.1 b = t.2.1 b
theorem Ah.rf (t : ew_M) : Ah t t := ⟨rfl, rfl, fun _ _ _ => rfl⟩
theorem Ah.tr {t u v : ew_M} (h : Ah t u) (g : Ah u v) : Ah t v := ⟨g.1.trans h.1, g.2.1.trans h.2.1, fun b h5 h6 => (g.2.2 b h5 h6).trans (h.2.2 b h5 h6)⟩
theorem Ah.mk3 (t : ew_M) (a : Nat) (v : Int32) : Ah t (ew_sA t 3 a v) := ⟨rfl, rfl, fun b h5 _ => sA_a h5⟩
theorem Ah.mk8 (t : ew_M) (a : Nat) (v : Int32) : Ah t (ew_sA t 8 a v) := ⟨rfl, rfl, fun b _ h6 => sA_a h6⟩
theorem Ah.w {t u : ew_M} (h : Ah t u) (hw : wf t) : wf u := by
  obtain ⟨h1, h2, h3⟩ := h
  unfold wf bs rs Pn An g3
  rw [h1, h2, h3 0 (by decide) (by decide), h3 1 (by decide) (by decide), h3 2 (by decide) (by decide), h3 4 (by decide) (by decide), h3 5 (by decide) (by decide), h3 6 (by decide) (by decide), h3 7 (by decide) (by decide), h3 9 (by decide) (by decide), h3 10 (by decide) (by decide), h3 11 (by decide) (by decide)]
  exact hw
theorem gn1_ok (t : ew_M) (a p : Nat) : Ah t (gn1 a p t) := by
  unfold gn1
  by_cases h : (bs t a).testBit p = true
  · rw [if_pos h]; exact Ah.mk3 _ _ _
  · rw [if_neg h]; exact Ah.rf t
theorem it2_ok (t : ew_M) (a : Nat) : ∀ n, Ah t (iter (gn1 a) n t)
  | 0 => Ah.rf t
  | n + 1 => (it2_ok t a n).tr (gn1_ok _ a n)
def ph2 (a : Nat) (t : ew_M) : ew_M := ew_sA (iter (gn1 a) (Pn t) t) 8 a ((iter (gn1 a) (Pn t) t).2.1 8 a + 1)
theorem ph2_ok (t : ew_M) (a : Nat) : Ah t (ph2 a t) := (it2_ok t a _).tr (Ah.mk8 _ _ _)
def passP (idle : Int32) (a : Nat) (t : ew_M) : ew_M := if inF (ph1 idle a t) a = true then ph2 a (ph1 idle a t) else ph1 idle a t
theorem p_passPaper {t : ew_M} (hw : wf t) {idle : Int32} {a : Nat} (ha : a < An t) {Q : Int32 → ew_M → Prop} (h : Q (bI (inF (ph1 idle a t) a)) (passP idle a t)) : wX3_passPaper Q (nI a) idle t := by
  obtain ⟨e1, e2⟩ := hw.P
  have hA := hw.A.2
  have ha5 : a < 5 := by omega
  refine ew_for (Pn t) (fun i => (nI i, iter (st1 idle a) i t)) (fun i R hi hR => ?_) (fun R => ?_)
  · obtain ⟨h1, h2⟩ := it1_ok hw (idle := idle) ha i (by omega)
    have hR : R (nI (i + 1), st1 idle a i (iter (st1 idle a) i t)) := hR
    refine ⟨fun q => ?_, fun _ => ⟨fun q => ?_, fun q => ?_⟩⟩
    · have q : (iter (st1 idle a) i t).1 0 ≤ nI i := q
      rw [h1.1, e1] at q
      exact absurd q (nI_ge hi (by omega))
    · have q : nI i = idle := q
      show R (nI i + 1, iter (st1 idle a) i t)
      rw [st1, if_pos q] at hR
      rw [nI_s]
      exact hR
    · have q : ¬ nI i = idle := q
      rw [st1, if_neg q] at hR
      refine p_canRead h2 ha5 (by omega) ⟨fun z => ?_, fun z => ?_⟩
      · rw [bI_0] at z
        rw [z, if_neg (by decide)] at hR
        show R (nI i + 1, iter (st1 idle a) i t)
        rw [nI_s]
        exact hR
      · rw [bI_0] at z
        rw [if_pos (b_nf z)] at hR
        refine p_takeTurn h2 ha5 (by rw [h1.P]; exact hi) ?_
        show R (nI i + 1, _)
        rw [nI_s]
        exact hR
  · obtain ⟨h1, h2⟩ := it1_ok hw (idle := idle) ha (Pn t) (Nat.le_refl _)
    refine ⟨fun _ => ?_, fun q => ?_⟩
    · have h : Q (bI (inF (ph1 idle a t) a)) (passP idle a t) := h
      unfold passP at h
      have e9 : iter (st1 idle a) (Pn t) t = ph1 idle a t := rfl
      show wX3_isInForce _ (nI a) (iter (st1 idle a) (Pn t) t)
      rw [e9] at h1 h2 ⊢
      generalize ph1 idle a t = u at h h1 h2 ⊢
      refine p_isInForce h2 ha5 ⟨fun z => ?_, fun z => ?_⟩
      · rw [bI_0] at z
        have z := b_nf z
        rw [z, if_pos rfl] at h
        have hu : Pn u = Pn t := h1.P
        refine ew_for (Pn u) (fun i => (nI i, iter (gn1 a) i u)) (fun i R hi hR => ?_) (fun R => ?_)
        · have g := it2_ok u a i
          have hR : R (nI (i + 1), gn1 a i (iter (gn1 a) i u)) := hR
          have gw := g.w h2
          refine ⟨fun q => ?_, fun _ => p_isBound gw ha5 (by omega) ⟨fun q => ?_, fun q => ?_⟩⟩
          · have q : (iter (gn1 a) i u).1 0 ≤ nI i := q
            rw [g.1, h1.1, e1] at q
            exact absurd q (nI_ge (by omega) (by omega))
          · rw [bI_0] at q
            rw [gn1, if_neg (by rw [q]; decide)] at hR
            show R (nI i + 1, _)
            rw [nI_s]
            exact hR
          · rw [bI_0] at q
            rw [gn1, if_pos (b_nf q)] at hR
            obtain ⟨f1, f2⟩ := gw.t ha5
            show vp_in (nI i) 6 ∧ vp_in (nI a) 5 ∧ vp_in (nI a * 3 + (iter (gn1 a) i u).2.1 7 (nI a).toNatClampNeg) 15 ∧ vp_in (nI i) 6 ∧ R (nI i + 1, _)
            rw [cN (a := a) (by omega), f1, ix15]
            refine ⟨vp_in_nI (by omega) (by decide), vp_in_nI ha5 (by decide), vp_in_nI (by omega) (by decide), vp_in_nI (by omega) (by decide), ?_⟩
            rw [nI_s, cN (a := i) (by omega), cN (a := a * 3 + tr (iter (gn1 a) i u) a) (by omega)]
            exact hR
        · refine ⟨fun _ => ⟨vp_in_nI ha5 (by decide), vp_in_nI ha5 (by decide), ?_⟩, fun q => ?_⟩
          · rw [cN (a := a) (by omega)]
            exact h
          · have q : ¬ (iter (gn1 a) (Pn u) u).1 0 ≤ nI (Pn u) := q
            rw [(it2_ok u a _).1, h1.1, e1, hu] at q
            exact absurd (nI_le (Nat.le_refl _) (by omega)) q
      · rw [bI_0] at z
        rw [z, if_neg (by decide)] at h
        exact h
    · have q : ¬ (iter (st1 idle a) (Pn t) t).1 0 ≤ nI (Pn t) := q
      rw [h1.1, e1] at q
      exact absurd (nI_le (Nat.le_refl _) (by omega)) q
