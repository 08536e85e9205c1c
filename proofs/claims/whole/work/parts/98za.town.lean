/-! town: the class's passes -/
section PT
variable {T : Nat → Nat} {n K : Nat}
theorem ps_K (ok : ∀ i, i < K → (stF T n (ps T n i)).1 = true ∧ ps T n i < n) (hn : n ≤ 64) : K ≤ 22 ∧ ∀ k, k ≤ K → ps T n k ≤ n := by
  refine ⟨?_, fun k hk => ?_⟩
  · rcases Nat.eq_zero_or_pos K with e | e
    · omega
    · have := (ok (K - 1) (by omega)).2
      have := (ps_b (T := T) (n := n) (K - 1) (fun i hi => (ok i (by omega)).1)).1
      omega
  · rcases (ps_b (T := T) (n := n) k (fun i hi => (ok i (by omega)).1)).2 with e | e
    · exact e
    · subst e
      exact Nat.zero_le n
theorem p_more {a : Nat} {so : Int32} {s : ew_M} (hn : n ≤ 64) (hs : LtS T n a so s) {Q : Int32 → Prop} (hy : a < n → Q 1) (h0 : ¬ a < n → Q 0) : wX0_hasMore Q s := by
  unfold wX0_hasMore
  rw [hs.2.1, hs.2.2.1]
  refine ⟨fun z => h0 fun y => absurd z (nI_ge y (by omega)), fun z => hy (Nat.lt_of_not_le fun y => z (nI_le y (by have := hs.1; omega)))⟩
theorem p_broken {so : Int32} {s : ew_M} (hn : n ≤ 64) (hT : ∀ j, T j < 256) (hs : LtS T n 0 so (ew_sI s 1 0)) (ok : ∀ i, i < K → (stF T n (ps T n i)).1 = true ∧ ps T n i < n) (hf : (ps T n K < n ∨ K = 0) → (stF T n (ps T n K)).1 = false) {Q : Int32 → ew_M → Prop} (h0 : (ps T n K < n ∨ K = 0) → ∀ s' so', LtS T n (stF T n (ps T n K)).2 so' s' → Q (nI (stF T n (ps T n K)).2) s') (h1 : ¬ (ps T n K < n ∨ K = 0) → ∀ s' so', LtS T n (ps T n K) so' s' → Q (-1) s') : wX0_brokenPlace Q s := by
  obtain ⟨K22, pn⟩ := ps_K ok hn
  show ew_lp (fun (R : Int32 × ew_M → Prop) (x : Int32 × ew_M) => wX0_brokenPlace_6 R Q x.1 x.2) ((0 : Int32), ew_sI s 1 0)
  refine ew_forI (if ps T n K < n ∨ K = 0 then K else K - 1) (fun k y => ∃ s' so', y = (nI k, s') ∧ LtS T n (ps T n k) so' s') (fun k R y hk hI hR => ?_) (fun R y hI => ?_) ⟨_, so, rfl, hs⟩
  · obtain ⟨s', so', rfl, g1⟩ := hI
    have kK : k < K := by split at hk <;> omega
    have k1 : ps T n (k + 1) < n := by
      by_cases e : k + 1 < K
      · exact (ok (k + 1) e).2
      · have e2 : k + 1 = K := by omega
        by_cases z : ps T n K < n ∨ K = 0
        · rw [e2]; omega
        · rw [if_neg z] at hk
          omega
    refine c_next hn hT g1 fun s2 so2 g2 _ => ?_
    rw [(ok k kK).1]
    refine ⟨fun _ => p_more hn g2 (fun _ => ⟨fun z => absurd z z10, fun _ => ⟨fun _ => ?_, fun z => ?_⟩⟩) (fun z => absurd k1 z), fun z => absurd z z10⟩
    · exact hR _ ⟨s2, so2, by rw [nI_s], g2⟩
    · have z : ¬ nI k + 1 < (64 : Int32) := z
      rw [nI_s] at z
      exact absurd ((nI_ltI (a := k + 1) (b := 64) (by omega) (by decide)).mpr (by omega)) z
  · obtain ⟨s', so', rfl, g1⟩ := hI
    by_cases z : ps T n K < n ∨ K = 0
    · rw [if_pos z] at g1
      refine c_next hn hT g1 fun s2 so2 g2 _ => ?_
      rw [hf z]
      refine ⟨fun y => absurd rfl y, fun _ => ?_⟩
      rw [g2.2.2.1]
      exact h0 z s2 so2 g2
    · rw [if_neg z] at g1
      refine c_next hn hT g1 fun s2 so2 g2 _ => ?_
      rw [(ok (K - 1) (by omega)).1]
      have e : ps T n K = (stF T n (ps T n (K - 1))).2 := by
        obtain ⟨j, rfl⟩ : ∃ j, K = j + 1 := ⟨K - 1, by omega⟩
        rfl
      rw [← e] at g2
      exact ⟨fun _ => p_more hn g2 (fun y => absurd (Or.inl y) z) (fun _ => ⟨fun _ => h1 z s2 so2 g2, fun y => absurd rfl y⟩), fun y => absurd y z10⟩
/-- the second pass: each statement is taken, till one can't be -/
theorem p_pass2 {t s3 s5 s6 : ew_M} (hw : wf t) {so : Int32} {s : ew_M} (hn : n ≤ 64) (hT : ∀ j, T j < 256) (hs : LtS T n 0 so s) (ok : ∀ i, i < K → (stF T n (ps T n i)).1 = true ∧ ps T n i < n) (hE : ¬ ps T n K < n) {Q : Int32 → ew_M → ew_M → ew_M → Prop} (h0 : ∀ W f s' so' d, W < K → Ch T n t W f → ¬ gd T n (ps T n W) (f W) → LtS T n (stF T n (ps T n W)).2 so' s' → Q ((-2000 : Int32) - nI (ps T n W)) t d s') (h1 : ∀ f s' so' d, Ch T n t K f → LtS T n (ps T n K) so' s' → Q (nI K) (f K) d s') : ew_lp (fun (R : Int32 × ew_M × ew_M → Prop) (x : Int32 × ew_M × ew_M) => wX4_settle_38 R Q x.1 t x.2.1 s3 x.2.2 s5 s6) ((0 : Int32), t, s) := by
  obtain ⟨K22, pn⟩ := ps_K ok hn
  refine ew_forI K (fun k y => ∃ f s' so', y = (nI k, f k, s') ∧ LtS T n (ps T n k) so' s' ∧ Ch T n t k f) (fun k R y hk hI hR => ?_) (fun R y hI => ?_) ⟨fun _ => t, s, so, rfl, hs, rfl, fun i hi => absurd hi (by omega)⟩
  · obtain ⟨f, s', so', rfl, g1, g2⟩ := hI
    obtain ⟨o1, o2⟩ := ok k hk
    have wk := g2.w hw (fun i hi => (ok i (by omega)).1) k (Nat.le_refl k)
    refine p_more hn g1 (fun _ => ⟨fun z => absurd z z10, fun _ => ⟨fun z => absurd z (nI_ge (a := k) (b := 64) (by omega) (by decide)), fun _ => ?_⟩⟩) (fun z => absurd o2 z)
    show wX0_nextStatement _ s'
    refine c_next hn hT g1 fun s2 so2 k1 k2 => ?_
    obtain ⟨k3, k4⟩ := k2 o1
    rw [o1]
    refine ⟨fun z => absurd z z10, fun _ => c_takes wk o1 hT (by rw [k1.2.2.2.2, k3]) k4 (fun z => ⟨fun y => absurd rfl y, fun _ => ?_⟩) (fun z t' ht => ⟨fun _ => ?_, fun y => absurd y z10⟩)⟩
    · show Q ((-2000 : Int32) - s'.1 1) t (f k) s2
      rw [g1.2.2.1]
      exact h0 k f s2 so2 (f k) hk g2 z k1
    · refine hR _ ⟨fun i => if i ≤ k then f i else t', s2, so2, ?_, k1, g2.up z ht⟩
      show (nI k + 1, t', s2) = (nI (k + 1), (if k + 1 ≤ k then f (k + 1) else t'), s2)
      rw [nI_s, if_neg (by omega)]
  · obtain ⟨f, s', so', rfl, g1, g2⟩ := hI
    exact p_more hn g1 (fun z => absurd z hE) (fun _ => ⟨fun _ => h1 f s' so' _ g2 g1, fun y => absurd rfl y⟩)
end PT
section MT
variable {T : Nat → Nat} {n K : Nat} {m : ew_M}
theorem m_wrong {t : ew_M} (hr : RT t m) (hw : wf t) {W : Nat} {f : Nat → ew_M} (ok : ∀ i, i < K → (stF T n (ps T n i)).1 = true) (K22 : K ≤ 22) (hWK : W ≤ K) (m23 : m.1 23 = nI K) (hv : ∀ i, i < K → MtV T n i (ps T n i) m) (hc : Ch T n t W f) (hg : W < K → ¬ gd T n (ps T n W) (f W)) {Q : Int32 → Prop} (h : Q (nI W)) : wX5_wrongOne Q m := by
  have e0 : m.1 0 = nI (Pn (f 0)) := by rw [hr.1.1, hc.1]; exact hw.P.1
  have e5 : m.1 5 = nI (An (f 0)) := by rw [hr.1.2.1, hc.1]; exact hw.A.1
  unfold wX5_wrongOne
  rw [e0, e5]
  refine ew_for W (fun i => (nI (Pn (f i)), nI (An (f i)), nI i)) (fun i R hi hR => ?_) (fun R => ?_)
  · have wi := hc.w hw (fun j hj => ok j (by omega)) i (by omega)
    obtain ⟨c1, c2⟩ := hc.2 i hi
    obtain ⟨p1, p2⟩ := TK_PA (ok i (by omega)) c1 c2
    refine m_wr wi (k := i) (K := K) (by omega) (by omega) m23 (ok i (by omega)) (hv i (by omega)) (fun _ => ?_) (fun z => absurd c1 z)
    have hR : R (nI (Pn (f (i + 1))), nI (An (f (i + 1))), nI (i + 1)) := hR
    rw [p1, p2] at hR
    exact hR
  · have wi := hc.w hw (fun j hj => ok j (by omega)) W (Nat.le_refl _)
    by_cases e : W < K
    · exact m_wr wi (k := W) (K := K) e (by omega) m23 (ok W e) (hv W e) (fun z => absurd z (hg e)) (fun _ => h)
    · have : W = K := by omega
      subst this
      refine ⟨fun _ => ?_, fun z => ?_⟩
      · rw [m23]; exact h
      · rw [m23] at z
        exact absurd (nI_le (Nat.le_refl _) (by omega)) z
theorem m_all {t : ew_M} (hr : RT t m) (hw : wf t) {f : Nat → ew_M} (ok : ∀ i, i < K → (stF T n (ps T n i)).1 = true) (K22 : K ≤ 22) (m23 : m.1 23 = nI K) (hv : ∀ i, i < K → MtV T n i (ps T n i) m) (hc : Ch T n t K f) {Q : Int32 → ew_M → Prop} (h : ∀ s, RT (f K) s → Fk m s → Q (nI K) s) : ew_lp (fun (R : Int32 × ew_M → Prop) (x : Int32 × ew_M) => wX5_town_101 R Q x.1 x.2) ((0 : Int32), m) := by
  refine ew_forI K (fun k y => ∃ s, y = (nI k, s) ∧ RT (f k) s ∧ Fk m s) (fun k R y hk hI hR => ?_) (fun R y hI => ?_) ⟨m, rfl, by rw [hc.1]; exact hr, fun _ _ _ _ _ => rfl, fun _ _ => rfl, fun _ _ => rfl⟩
  · obtain ⟨s, rfl, g1, g2⟩ := hI
    have s23 : s.1 23 = nI K := by rw [g2.1 23 (by decide) (by decide) (by decide) (by decide)]; exact m23
    have wi := hc.w hw ok k (by omega)
    obtain ⟨c1, c2⟩ := hc.2 k hk
    refine ⟨fun z => ?_, fun _ => ?_⟩
    · have z : s.1 23 ≤ nI k := z
      rw [s23] at z
      exact absurd z (nI_ge hk (by omega))
    · refine m_comes g1 wi (by omega) (ok k hk) c1 c2 ?_ fun s2 k1 k2 => hR _ ⟨s2, by rw [nI_s], k1, g2.tr k2⟩
      obtain ⟨v1, v2, v3⟩ := hv k hk
      unfold MtV
      rw [g2.2.1 15 (by decide), g2.2.1 16 (by decide), g2.2.1 17 (by decide)]
      exact ⟨v1, v2, v3⟩
  · obtain ⟨s, rfl, g1, g2⟩ := hI
    have s23 : s.1 23 = nI K := by rw [g2.1 23 (by decide) (by decide) (by decide) (by decide)]; exact m23
    refine ⟨fun _ => ?_, fun z => ?_⟩
    · show Q (s.1 23) s
      rw [s23]
      exact h s g1 g2
    · have z : ¬ s.1 23 ≤ nI K := z
      rw [s23] at z
      exact absurd (nI_le (Nat.le_refl _) (by omega)) z
end MT
section REL
variable {a b c lt ra xs m : ew_M}
theorem Rel.town (hR : Rel a c lt xs m) {a' lt' m' : ew_M} (hw : wf a') (hr : RT a' m') (l0 : lt'.1 0 = 0) (lT : ∀ j, j < 64 → lt'.2.1 0 j = lt.2.1 0 j) (e18 : m'.1 18 = 0) (e1 : ∀ i, i ≠ 0 → i ≠ 5 → i ≠ 15 → i ≠ 16 → i ≠ 18 → i ≠ 23 → i ≠ 28 → m'.1 i = m.1 i) (e2 : ∀ b, 12 ≤ b → b ≠ 15 → b ≠ 16 → b ≠ 17 → m'.2.1 b = m.2.1 b) (e3 : ∀ b, b ≠ 0 → m'.2.2 b = m.2.2 b) : Rel a' c lt' xs m' := by
  obtain ⟨⟨h1, h2, h3⟩, h4, ⟨h5, h5b, h5c⟩, ⟨h6, h6b, h6c⟩, h7⟩ := hR
  refine ⟨⟨hw, hr, ?_⟩, fun k hk => ?_, ⟨?_, h5b, fun j hj => ?_⟩, ⟨?_, ?_, fun j hj => ?_⟩, ?_⟩
  · rw [e1 29 (by decide) (by decide) (by decide) (by decide) (by decide) (by decide) (by decide)]; exact h3
  · rw [e2 14 (by decide) (by decide) (by decide) (by decide)]; exact h4 k hk
  · rw [e1 20 (by decide) (by decide) (by decide) (by decide) (by decide) (by decide) (by decide)]; exact h5
  · rw [e2 13 (by decide) (by decide) (by decide) (by decide)]; exact h5c j hj
  · rw [e18, l0]
  · rw [l0]; exact isN0 (by decide) (by decide)
  · rw [e2 12 (by decide) (by decide) (by decide) (by decide), lT j hj]; exact h6c j hj
  · rw [e1 41 (by decide) (by decide) (by decide) (by decide) (by decide) (by decide) (by decide)]
    exact h7.imp id (fun q => ⟨q.1, q.2.1, q.2.2.1, q.2.2.2.cg (fun i hi => e1 i (by omega) (by omega) (by omega) (by omega) (by omega) (by omega) (by omega)) (fun b hb => e2 b (by omega) (by omega) (by omega) (by omega)) (e3 2 (by decide))⟩)
/-- town -/
theorem s_town (hR : Rel a c lt xs m) : wX4_town (fun r a' _ lt' => wX5_town (fun r' m' => r = r' ∧ Rel a' c lt' xs m') m) a b c lt ra xs := by
  have hw := hR.w
  have hr := hR.r
  obtain ⟨e18, ⟨n1, n2⟩, hl⟩ := hR.2.2.2.1
  obtain ⟨n, hn⟩ : ∃ n, cl (lt.1 0) = n := ⟨_, rfl⟩
  rw [hn] at n1 n2
  obtain ⟨T, hTd⟩ : ∃ T : Nat → Nat, T = fun j => if j < 64 then cl (lt.2.1 0 j) else 0 := ⟨_, rfl⟩
  have hT : ∀ j, T j < 256 := fun j => by
    rw [hTd]
    show (if j < 64 then cl (lt.2.1 0 j) else 0) < 256
    split
    · rename_i q
      exact (hl j q).2.2
    · decide
  have hTl : ∀ j, j < 64 → lt.2.1 0 j = nI (T j) := fun j hj => by
    rw [hTd]
    show _ = nI (if j < 64 then cl (lt.2.1 0 j) else 0)
    rw [if_pos hj]
    exact (hl j hj).2.1
  clear hTd
  have n64 : n ≤ 64 := by omega
  have hM : MtT T n m := ⟨n64, hT, by rw [e18, n1], fun j hj => by rw [(hl j hj).1, hTl j hj]⟩
  have L0 : LtS T n 0 (lt.1 2) (ew_sI lt 1 0) := ⟨Nat.zero_le _, by rw [sI_i (by decide)]; exact n1, sI_s _ _ _, hTl, sI_i (by decide)⟩
  obtain ⟨K, k1, k2, k3⟩ := first_of (fun i => (stF T n (ps T n i)).1 = true ∧ ps T n i < n) 64
  obtain ⟨K22, pn⟩ := ps_K k2 n64
  have k3 := k3 (by omega)
  have okK : ∀ i, i < K → (stF T n (ps T n i)).1 = true := fun i hi => (k2 i hi).1
  have M0 : MtS m n 0 (nI 0) (ew_sI (ew_sI m 28 0) 23 0) := ⟨Nat.zero_le _, fun i h1 h2 => by rw [sI_i h1, sI_i h2], fun _ _ _ _ => rfl, rfl, by rw [sI_i (by decide), sI_s]; rfl, sI_s _ _ _⟩
  have hf : (ps T n K < n ∨ K = 0) → (stF T n (ps T n K)).1 = false := fun z => b_nt fun y => by
    rcases z with z | z
    · exact k3 ⟨y, z⟩
    · exact k3 ⟨y, (st_sort y).1⟩
  have clr : ∀ {so : Int32} {p : Nat} {s : ew_M}, LtS T n p so s → (ew_sI (ew_sI s 0 0) 1 0).1 0 = 0 ∧ ∀ j, j < 64 → (ew_sI (ew_sI s 0 0) 1 0).2.1 0 j = lt.2.1 0 j := fun h => ⟨by rw [sI_i (by decide), sI_s], fun j hj => by rw [hTl j hj]; exact h.2.2.2.1 j hj⟩
  have rtS : ∀ {p : Nat} {tl : Int32} {s : ew_M}, MtS m n p tl s → RT a (ew_sI s 18 0) := fun h => hr.cong ⟨by rw [sI_i (by decide)]; exact h.2.1 0 (by decide) (by decide), by rw [sI_i (by decide)]; exact h.2.1 5 (by decide) (by decide), by rw [sI_i (by decide)]; exact h.2.1 15 (by decide) (by decide), by rw [sI_i (by decide)]; exact h.2.1 16 (by decide) (by decide), by rw [sI_i (by decide)]; exact h.2.1 17 (by decide) (by decide)⟩ (fun b hb => h.2.2.1 b (by omega) (by omega) (by omega)) (congrFun h.2.2.2.1 0)
  have same : ∀ {p : Nat} {tl : Int32} {s : ew_M} {so : Int32} {q : Nat} {s' : ew_M}, MtS m n p tl s → LtS T n q so s' → Rel a c (ew_sI (ew_sI s' 0 0) 1 0) xs (ew_sI s 18 0) := fun h g => hR.town hw (rtS h) (clr g).1 (clr g).2 (sI_s _ _ _) (fun i _ _ _ _ i18 i23 i28 => by rw [sI_i i18]; exact h.2.1 i i23 i28) (fun b _ b15 b16 b17 => h.2.2.1 b b15 b16 b17) (fun b _ => congrFun h.2.2.2.1 b)
  have wr : m.1 18 = nI n := hM.2.2.1
  -- the reference, where the letters break off
  have modF : (ps T n K < n ∨ K = 0) → ∀ {so : Int32} {s' : ew_M}, LtS T n (stF T n (ps T n K)).2 so s' → wX5_town (fun r' m' => (-1000 : Int32) - nI (stF T n (ps T n K)).2 = r' ∧ Rel a c (ew_sI (ew_sI s' 0 0) 1 0) xs m') m := fun z so s' g => by
    by_cases n0 : n = 0
    · have e : stF T n (ps T n K) = (false, ps T n K) := stF_o (fun y => by omega)
      have K0 : K = 0 := by omega
      have p0 : ps T n K = 0 := by rw [K0]; rfl
      refine ⟨fun _ => ?_, fun y => ?_⟩
      · refine ⟨1, ⟨fun _ => ⟨fun _ => ⟨fun y => absurd rfl y, fun _ => ?_⟩, fun y => absurd rfl y⟩, fun y => absurd rfl y⟩⟩
        have g2 : LtS T n (stF T n (ps T n K)).2 so s' := g
        have e28 : (ew_sI (ew_sI m 28 0) 23 0).1 28 = 0 := by rw [sI_i (by decide), sI_s]
        dsimp only
        rw [e28, e, p0]
        exact ⟨rfl, same M0 g2⟩
      · rw [wr, n0] at y
        exact absurd (nI_le (a := 0) (b := 0) (by decide) (by decide)) y
    · refine ⟨fun y => ?_, fun _ => ?_⟩
      · rw [wr] at y
        exact absurd y (nI_ge (a := 0) (b := n) (by omega) (by omega))
      · have pK : ps T n K < n := by
          rcases z with z | z
          · exact z
          · rw [z]; show 0 < n; omega
        exact m_pass hM k2 (by omega) M0 (fun _ => hf z) (fun _ s hs => ⟨rfl, same hs g⟩) (fun y => absurd pK y)
  -- the reference, where all statements stand
  have modE : ¬ (ps T n K < n ∨ K = 0) → ∀ {Q : Int32 → ew_M → Prop}, (∀ s, MtS m n (ps T n K) (nI K) s → (∀ i, i < K → MtV T n i (ps T n i) s) → wX5_town_46 Q 1 s) → wX5_town Q m := fun z Q h => by
    have n0 : 0 < n := by have := (k2 0 (by omega)).2; omega
    refine ⟨fun y => ?_, fun _ => ?_⟩
    · rw [wr] at y
      exact absurd y (nI_ge (a := 0) (b := n) n0 (by omega))
    · exact m_pass hM k2 n0 M0 (fun y => absurd (Or.inl y) z) (fun y => absurd (Or.inl y) z) (fun _ s h1 h2 => h s h1 h2)
  show wX0_brokenPlace _ lt
  refine p_broken n64 hT L0 k2 hf (fun z s' so' g => ⟨fun y => absurd y (nI_pos (by have := g.1; omega)), fun _ => ?_⟩) (fun z s' so' g => ⟨fun _ => ?_, fun y => absurd (by decide) y⟩)
  · exact modF z g
  · have gL : LtS T n 0 so' (ew_sI s' 1 0) := ⟨Nat.zero_le _, by rw [sI_i (by decide)]; exact g.2.1, sI_s _ _ _, g.2.2.2.1, by rw [sI_i (by decide)]; exact g.2.2.2.2⟩
    refine p_pass2 hw n64 hT gL k2 (fun y => z (Or.inl y)) (fun W f s2 so2 d hW hc hg g2 => ?_) (fun f s2 so2 d hc g2 => ?_)
    · refine modE z fun s h1 h2 => ⟨fun y => absurd y z10, fun _ => ?_⟩
      refine m_wrong (t := a) (hr.cong ⟨h1.2.1 0 (by decide) (by decide), h1.2.1 5 (by decide) (by decide), h1.2.1 15 (by decide) (by decide), h1.2.1 16 (by decide) (by decide), h1.2.1 17 (by decide) (by decide)⟩ (fun b hb => h1.2.2.1 b (by omega) (by omega) (by omega)) (by rw [h1.2.2.2.1])) hw okK K22 (Nat.le_of_lt hW) h1.2.2.2.2.2 h2 hc (fun _ => hg) ⟨fun _ => ⟨fun y => ?_, fun _ => ⟨vp_in_nI (by omega) (by decide), ?_⟩⟩, fun y => absurd y z10⟩
      · rw [h1.2.2.2.2.2] at y
        exact absurd y (nI_ge hW (by omega))
      · rw [cN (by omega), (h2 W hW).1]
        exact ⟨rfl, same h1 g2⟩
    · refine modE z fun s h1 h2 => ⟨fun y => absurd y z10, fun _ => ?_⟩
      have rs0 : RT a s := hr.cong ⟨h1.2.1 0 (by decide) (by decide), h1.2.1 5 (by decide) (by decide), h1.2.1 15 (by decide) (by decide), h1.2.1 16 (by decide) (by decide), h1.2.1 17 (by decide) (by decide)⟩ (fun b hb => h1.2.2.1 b (by omega) (by omega) (by omega)) (by rw [h1.2.2.2.1])
      refine m_wrong (t := a) rs0 hw okK K22 (Nat.le_refl K) h1.2.2.2.2.2 h2 hc (fun y => absurd y (Nat.lt_irrefl K)) ⟨fun _ => ⟨fun _ => ?_, fun y => ?_⟩, fun y => absurd y z10⟩
      · refine m_all (m := ew_sI s 18 0) (rtS h1) hw okK K22 (by rw [sI_i (by decide)]; exact h1.2.2.2.2.2) h2 hc fun s3 q1 q2 => ⟨rfl, ?_⟩
        refine hR.town (hc.w hw okK K (Nat.le_refl K)) q1 (clr g2).1 (clr g2).2 ?_ (fun i i0 i5 i15 i16 i18 i23 i28 => ?_) (fun b b12 b15 b16 b17 => ?_) (fun b hb => ?_)
        · rw [q2.1 18 (by decide) (by decide) (by decide) (by decide), sI_s]
        · rw [q2.1 i i0 i5 i15 i16, sI_i i18]; exact h1.2.1 i i23 i28
        · rw [q2.2.1 b b12]; exact h1.2.2.1 b b15 b16 b17
        · rw [q2.2.2 b hb]; show s.2.2 b = _; rw [h1.2.2.2.1]
      · rw [h1.2.2.2.2.2] at y
        exact absurd (nI_le (Nat.le_refl K) (by omega)) y
end REL
