/-! THE REFERENCE over the same town -/
def RT (t m : ew_M) : Prop :=
  (m.1 0 = t.1 0 ∧ m.1 5 = t.1 1 ∧ m.1 15 = t.1 2 ∧ m.1 16 = t.1 3 ∧ m.1 17 = t.1 4) ∧
  (∀ j, j < 6 → m.2.1 0 j = t.2.1 0 j ∧ m.2.1 1 j = t.2.1 1 j ∧ m.2.1 2 j = t.2.1 2 j ∧ m.2.1 3 j = t.2.1 3 j) ∧
  (∀ a, a < 5 → m.2.1 4 a = t.2.1 4 a ∧ m.2.1 8 a = t.2.1 5 a ∧ m.2.1 9 a = t.2.1 6 a ∧ m.2.1 7 a = t.2.1 7 a ∧ m.2.1 10 a = t.2.1 8 a) ∧
  (∀ k, k < 15 → m.2.1 5 k = t.2.1 9 k ∧ m.2.1 6 k = t.2.1 10 k) ∧
  (∀ k, k < 30 → m.2.1 11 k = t.2.1 11 k) ∧
  (∀ a p k, a < An t → p < 6 → k < 3 → m.2.2 0 ((a * 6 + p) * 3 + k) = wO t p a k)
/-- what a week leaves -/
def Fr (m n : ew_M) : Prop := (∀ i, i ≠ 17 → n.1 i = m.1 i) ∧ (∀ b, b ≠ 3 → b ≠ 8 → b ≠ 9 → b ≠ 10 → n.2.1 b = m.2.1 b) ∧ ∀ b, b ≠ 0 → n.2.2 b = m.2.2 b
theorem Fr.rf (m : ew_M) : Fr m m := ⟨fun _ _ => rfl, fun _ _ _ _ _ => rfl, fun _ _ => rfl⟩
theorem Fr.tr {m n o : ew_M} (h : Fr m n) (g : Fr n o) : Fr m o := ⟨fun i h1 => (g.1 i h1).trans (h.1 i h1), fun b h1 h2 h3 h4 => (g.2.1 b h1 h2 h3 h4).trans (h.2.1 b h1 h2 h3 h4), fun b h1 => (g.2.2 b h1).trans (h.2.2 b h1)⟩
theorem Fr.a3 (m : ew_M) (i : Nat) (v : Int32) : Fr m (ew_sA m 3 i v) := ⟨fun _ _ => rfl, fun b h _ _ _ => sA_a h, fun _ _ => rfl⟩
theorem Fr.a8 (m : ew_M) (i : Nat) (v : Int32) : Fr m (ew_sA m 8 i v) := ⟨fun _ _ => rfl, fun b _ h _ _ => sA_a h, fun _ _ => rfl⟩
theorem Fr.a9 (m : ew_M) (i : Nat) (v : Int32) : Fr m (ew_sA m 9 i v) := ⟨fun _ _ => rfl, fun b _ _ h _ => sA_a h, fun _ _ => rfl⟩
theorem Fr.a10 (m : ew_M) (i : Nat) (v : Int32) : Fr m (ew_sA m 10 i v) := ⟨fun _ _ => rfl, fun b _ _ _ h => sA_a h, fun _ _ => rfl⟩
theorem sW_a {t : ew_M} {a b i : Nat} {v : Int64} (h : b ≠ a) : (ew_sW t a i v).2.2 b = t.2.2 b := by simp [ew_sW, h]
theorem sW_s (t : ew_M) (a i : Nat) (v : Int64) : (ew_sW t a i v).2.2 a i = v := by simp [ew_sW, vp_updL]
theorem sW_i {t : ew_M} {a i j : Nat} {v : Int64} (h : j ≠ i) : (ew_sW t a i v).2.2 a j = t.2.2 a j := by simp [ew_sW, vp_updL, h]
theorem Fr.w (m : ew_M) (i : Nat) (v : Int64) : Fr m (ew_sW m 0 i v) := ⟨fun _ _ => rfl, fun _ _ _ _ _ => rfl, fun b h => sW_a h⟩
theorem Fr.i17 (m : ew_M) (v : Int32) : Fr m (ew_sI m 17 v) := ⟨fun i h => by simp [ew_sI, upd, h], fun _ _ _ _ _ => rfl, fun _ _ => rfl⟩
theorem m_isBound {t m : ew_M} (hr : RT t m) (hw : wf t) {p a : Nat} (ha : a < 5) (hp : p < 10) {Q : Int32 → Prop} (h : Q (bI ((bs t a).testBit p))) : wX5_isBound Q (nI p) (nI a) m := by
  obtain ⟨e1, e2⟩ := hw.b ha
  refine ⟨vp_in_nI ha (by decide), ?_⟩
  rw [cN (by omega), (hr.2.2.1 a ha).1, e1]
  refine ⟨fun q => ?_, fun q => ?_⟩
  · rw [bt_1 e2 hp] at q
    rw [b_nt q] at h
    exact h
  · rw [(bt_1 e2 hp).mp q] at h; exact h
theorem m_hasRead {t m : ew_M} (hr : RT t m) (hw : wf t) {p a : Nat} (ha : a < 5) (hp : p < 10) {Q : Int32 → Prop} (h : Q (bI ((rs t a).testBit p))) : wX5_hasRead Q (nI p) (nI a) m := by
  obtain ⟨e1, e2⟩ := hw.r ha
  refine ⟨vp_in_nI ha (by decide), ?_⟩
  rw [cN (by omega), (hr.2.2.1 a ha).2.1, e1]
  refine ⟨fun q => ?_, fun q => ?_⟩
  · rw [bt_1 e2 hp] at q
    rw [b_nt q] at h
    exact h
  · rw [(bt_1 e2 hp).mp q] at h; exact h
theorem m_forceBy {t m : ew_M} (hr : RT t m) (hw : wf t) {a l c : Nat} (ha : a < 5) (hl : l ≤ 4) (hc : c < 50) {Q : Int32 → Prop} (h : Q (bI (fo l (pc (bs t a)) c))) : wX5_forceBy Q (nI a) (nI l) (nI c) m := by
  obtain ⟨e1, e2⟩ := hw.b ha
  have e5 := pc_le _ e2
  refine ⟨vp_in_nI ha (by decide), ?_⟩
  rw [cN (by omega), (hr.2.2.1 a ha).1, e1]
  refine m_ones e2 ?_
  have m2 : (2 : Int32) * nI c = nI (2 * c) := pk_mul 2 c
  have f1 := fo_le (n := pc (bs t a)) (c := c) (by omega) (by omega)
  have f2 := fo_le (n := 1) (c := c) (by omega) (by omega)
  have f3 := nI_ltI (a := pc (bs t a)) (b := 2 * c) (by omega) (by omega)
  have f4 := fo_le (n := 2) (c := pc (bs t a)) (by omega) (by omega)
  have f5 := fo_le (n := 2) (c := c) (by omega) (by omega)
  rcases (show l = 0 ∨ l = 1 ∨ l = 2 ∨ l = 3 ∨ l = 4 by omega) with l | l | l | l | l
  · rw [l] at h ⊢
    refine ⟨fun _ => ⟨fun q => ?_, fun q => ?_⟩, fun q => absurd rfl q⟩
    · rw [f1] at q; rw [show fo 0 (pc (bs t a)) c = false by simp [fo]; omega] at h; exact h
    · rw [f1] at q; rw [show fo 0 (pc (bs t a)) c = true by simp [fo]; omega] at h; exact h
  · rw [l] at h ⊢
    refine ⟨fun q => absurd q (by decide), fun _ => ⟨fun _ => ⟨fun q => ?_, fun q => ?_⟩, fun q => absurd rfl q⟩⟩
    · have q : nI 1 ≤ nI c := q
      rw [f2] at q; rw [show fo 1 (pc (bs t a)) c = false by simp [fo]; omega] at h; exact h
    · have q : ¬ nI 1 ≤ nI c := q
      rw [f2] at q; rw [show fo 1 (pc (bs t a)) c = true by simp [fo]; omega] at h; exact h
  · rw [l] at h ⊢
    refine ⟨fun q => absurd q (by decide), fun _ => ⟨fun q => absurd q (by decide), fun _ => ⟨fun _ => ⟨fun q => ?_, fun q => ?_⟩, fun q => absurd rfl q⟩⟩⟩
    · rw [m2, f3] at q; rw [show fo 2 (pc (bs t a)) c = false by simp [fo]; omega] at h; exact h
    · rw [m2, f3] at q; rw [show fo 2 (pc (bs t a)) c = true by simp [fo]; omega] at h; exact h
  · rw [l] at h ⊢
    refine ⟨fun q => absurd q (by decide), fun _ => ⟨fun q => absurd q (by decide), fun _ => ⟨fun q => absurd q (by decide), fun _ => ⟨fun _ => ⟨fun q => ⟨fun q2 => ?_, fun q2 => ?_⟩, fun q => ⟨fun q2 => ?_, fun q2 => ?_⟩⟩, fun q => absurd rfl q⟩⟩⟩⟩
    · have q : nI 2 ≤ nI (pc (bs t a)) := q
      have q2 : nI 2 ≤ nI c := q2
      rw [f4] at q; rw [f5] at q2; rw [show fo 3 (pc (bs t a)) c = false by simp [fo]; omega] at h; exact h
    · have q : nI 2 ≤ nI (pc (bs t a)) := q
      have q2 : ¬ nI 2 ≤ nI c := q2
      rw [f4] at q; rw [f5] at q2; rw [show fo 3 (pc (bs t a)) c = true by simp [fo]; omega] at h; exact h
    · have q : ¬ nI 2 ≤ nI (pc (bs t a)) := q
      rw [f4] at q; rw [f1] at q2; rw [show fo 3 (pc (bs t a)) c = false by simp [fo]; omega] at h; exact h
    · have q : ¬ nI 2 ≤ nI (pc (bs t a)) := q
      rw [f4] at q; rw [f1] at q2; rw [show fo 3 (pc (bs t a)) c = true by simp [fo]; omega] at h; exact h
  · rw [l] at h ⊢
    exact ⟨fun q => absurd q (by decide), fun _ => ⟨fun q => absurd q (by decide), fun _ => ⟨fun q => absurd q (by decide), fun _ => ⟨fun q => absurd q (by decide), fun _ => h⟩⟩⟩⟩
theorem m_isForce {t m : ew_M} (hr : RT t m) (hw : wf t) {a : Nat} (ha : a < 5) {Q : Int32 → Prop} (h : Q (bI (inF t a))) : wX5_isForce Q (nI a) m := by
  obtain ⟨e1, e2⟩ := hw.r ha
  obtain ⟨e3, e4⟩ := hw.L
  have e5 := pc_le _ e2
  refine ⟨vp_in_nI ha (by decide), ?_⟩
  rw [cN (by omega), (hr.2.2.1 a ha).2.1, e1]
  refine m_ones e2 ?_
  show wX5_forceBy _ (nI a) (m.1 15) _ m
  rw [hr.1.2.2.1, e3]
  exact m_forceBy hr hw ha e4 (by omega) ⟨bI_nar _, h⟩
theorem lt_pred {p n : Nat} (hp : p < 1000) (hn : n < 1000) : (nI n - 1 < nI p) ↔ n ≤ p := by
  rw [Int32.lt_iff_toInt_lt, show (1 : Int32) = nI 1 from rfl, pk_sub_toInt (by omega) (by omega), nI_toInt (by omega)]
  omega
theorem m_isPerson {t m : ew_M} (hr : RT t m) (hw : wf t) {p : Nat} (hp : p < 10) {Q : Int32 → Prop} (h : Q (bI (decide (p < Pn t)))) : wX5_isPerson Q (nI p) m := by
  obtain ⟨e1, e2⟩ := hw.P
  refine m_in ?_
  rw [hr.1.1, e1]
  have n0 : ¬ nI p < 0 := nI_pos (by omega)
  by_cases q : p < Pn t
  · rw [if_neg (fun z => z.elim n0 (fun z => absurd ((lt_pred (by omega) (by omega)).mp z) (by omega)))]
    rw [decide_eq_true q] at h
    exact ⟨rfl, h⟩
  · rw [if_pos (Or.inr ((lt_pred (by omega) (by omega)).mpr (by omega)))]
    rw [decide_eq_false q] at h
    exact ⟨rfl, h⟩
theorem m_mayRead {t m : ew_M} (hr : RT t m) (hw : wf t) {p a : Nat} (ha : a < 5) (hp : p < Pn t) {Q : Int32 → Prop} (h : Q (bI (canR t p a))) : wX5_mayRead Q (nI p) (nI a) m := by
  have e2 := hw.P.2
  refine m_isPerson hr hw (by omega) ?_
  rw [decide_eq_true hp]
  refine ⟨fun q => absurd q (by decide), fun _ => m_isBound hr hw ha (by omega) ⟨fun q => ?_, fun q => m_hasRead hr hw ha (by omega) ⟨fun q2 => ?_, fun q2 => m_isForce hr hw ha ⟨fun q3 => ?_, fun q3 => ?_⟩⟩⟩⟩
  · rw [bI_0] at q
    rw [canR, unr, q] at h; exact h
  · rw [bI_0] at q2
    rw [canR, unr, b_nf q2, Bool.not_true, Bool.and_false] at h; exact h
  · rw [bI_0] at q3
    rw [canR, q3, Bool.and_false] at h; exact h
  · rw [bI_0] at q q2 q3
    rw [canR, unr, b_nf q, q2, b_nf q3] at h; exact h
theorem ix90m (a p : Nat) : (3 : Int32) * ((6 : Int32) * nI a + nI p) = nI ((a * 6 + p) * 3) := by
  rw [show (6 : Int32) = nI 6 from rfl, show (3 : Int32) = nI 3 from rfl, pk_mul, nI_add, pk_mul]
  congr 1; omega
theorem ix15m (a k : Nat) : (3 : Int32) * nI a + nI k = nI (a * 3 + k) := by
  rw [show (3 : Int32) = nI 3 from rfl, pk_mul, nI_add]
  congr 1; omega
theorem m_thinkAbove {t m : ew_M} (hr : RT t m) {p a : Nat} (ha5 : a < 5) (ha : a < An t) (hp : p < 6) {Q : Int64 → Prop} (h : Q (tA t p a)) : wX5_thinkAbove Q (nI p) (nI a) m := by
  refine ew_for 3 (fun i => (tAU t p a i, nI i)) (fun i R hi hR => ?_) (fun R => ?_)
  · refine ⟨fun q => absurd q (nI_ge (a := i) (b := 3) hi (by decide)), fun _ => ?_⟩
    show vp_in ((3 : Int32) * ((6 : Int32) * nI a + nI p) + nI i) 90 ∧ vp_in ((3 : Int32) * nI a + nI i) 15 ∧ R (tAU t p a i + m.2.2 0 ((3 : Int32) * ((6 : Int32) * nI a + nI p) + nI i).toNatClampNeg * (m.2.1 6 ((3 : Int32) * nI a + nI i).toNatClampNeg).toInt64, nI i + 1)
    rw [ix90m, ix15m, nI_add, cN (by omega), cN (by omega), nI_s, hr.2.2.2.2.2 a p i ha hp hi, (hr.2.2.2.1 (a * 3 + i) (by omega)).2]
    exact ⟨vp_in_nI (by omega) (by decide), vp_in_nI (by omega) (by decide), hR⟩
  · exact ⟨fun _ => h, fun q => absurd (nI_le (a := 3) (b := 3) (by decide) (by decide)) q⟩
theorem m_thinkBelow {t m : ew_M} (hr : RT t m) {p a : Nat} (ha5 : a < 5) (ha : a < An t) (hp : p < 6) {Q : Int64 → Prop} (h : Q (tB t p a)) : wX5_thinkBelow Q (nI p) (nI a) m := by
  show vp_in ((3 : Int32) * ((6 : Int32) * nI a + nI p)) 90 ∧ _
  rw [ix90m, show (1 : Int32) = nI 1 from rfl, show (2 : Int32) = nI 2 from rfl, nI_add, nI_add, cN (by omega), cN (by omega), cN (by omega)]
  have h0 := hr.2.2.2.2.2 a p 0 ha hp (by decide)
  have h1 := hr.2.2.2.2.2 a p 1 ha hp (by decide)
  have h2 := hr.2.2.2.2.2 a p 2 ha hp (by decide)
  rw [Nat.add_zero] at h0
  refine ⟨vp_in_nI (by omega) (by decide), vp_in_nI (by omega) (by decide), vp_in_nI (by omega) (by decide), ?_⟩
  rw [h0, h1, h2]
  have e : wO t p a 0 + wO t p a 1 + wO t p a 2 = tB t p a := by
    show _ = 0 + wO t p a 0 + wO t p a 1 + wO t p a 2
    rw [Int64.zero_add]
  rw [e]
  exact h
theorem bar4 : ∀ n, n < 10 → (nI n).toInt64 - 4 = (nI n - 4).toInt64 := by decide +kernel
theorem m_dares {t m : ew_M} (hr : RT t m) (hw : wf t) {p a : Nat} (ha : a < An t) (hp : p < 6) {Q : Int32 → Prop} (h : Q (bI (tl t p a))) : wX5_dares Q (nI p) (nI a) m := by
  have hA := hw.A.2
  refine m_thinkAbove hr (by omega) ha hp ⟨vp_in_nI hp (by decide), m_thinkBelow hr (by omega) ha hp ?_⟩
  obtain ⟨b1, b2⟩ := (hw.2.1 p hp).2.1
  rw [cN (by omega), (hr.2.1 p hp).2.1, b1, bar4 _ b2, ← b1]
  refine ⟨fun q => ?_, fun q => ?_⟩
  · rw [lg_cmp_ge] at q
    rw [tl, decide_eq_false (Int64.not_lt.mpr q)] at h; exact h
  · rw [lg_cmp_ge] at q
    rw [tl, decide_eq_true (Int64.not_le.mp q)] at h; exact h
