/-! letters, the row, counts, what is told of persons and papers -/
section REL
variable {a b c lt ra xs m : ew_M}
theorem RI.cg {c m n : ew_M} (h : RI c m) (f1 : ∀ i, 42 ≤ i → n.1 i = m.1 i) (f2 : ∀ b, 24 ≤ b → n.2.1 b = m.2.1 b) (f3 : n.2.2 2 = m.2.2 2) : RI c n := by
  unfold RI
  rw [f1 42 (by omega), f1 43 (by omega), f1 44 (by omega), f1 45 (by omega), f1 46 (by omega), f2 24 (by omega), f2 25 (by omega), f2 26 (by omega), f2 27 (by omega), f2 28 (by omega), f2 29 (by omega), f2 30 (by omega), f2 31 (by omega), f2 32 (by omega), f2 33 (by omega), f2 34 (by omega), f2 35 (by omega), f3]
  exact h
theorem Rel.let (hR : Rel a c lt xs m) {n v : Nat} (hn : n < 64) (hv : v < 256) : Rel a c (ew_sI (ew_sA lt 0 n (nI v)) 0 (nI (n + 1))) xs (ew_sI (ew_sA m 12 n (nI v)) 18 (nI (n + 1))) := by
  obtain ⟨⟨h1, h2, h3⟩, h4, h5, ⟨h6, h7, h8⟩, h9⟩ := hR
  refine ⟨⟨h1, h2.cong ⟨sI_i (by decide), sI_i (by decide), sI_i (by decide), sI_i (by decide), sI_i (by decide)⟩ (fun b hb => sA_a (by omega)) rfl, ?_⟩, fun k hk => ?_, ⟨?_, h5.2.1, fun j hj => ?_⟩, ⟨?_, ?_, fun j hj => ?_⟩, ?_⟩
  · rw [sI_i (by decide)]; exact h3
  · show (ew_sA m 12 n (nI v)).2.1 14 k = _
    rw [sA_a (by decide)]; exact h4 k hk
  · rw [sI_i (by decide)]; exact h5.1
  · show (ew_sA m 12 n (nI v)).2.1 13 j = _ ∧ _
    rw [sA_a (by decide)]; exact h5.2.2 j hj
  · rw [sI_s, sI_s]
  · rw [sI_s]; exact isN_of (by omega) (by decide)
  · show (ew_sA m 12 n (nI v)).2.1 12 j = (ew_sA lt 0 n (nI v)).2.1 0 j ∧ isN ((ew_sA lt 0 n (nI v)).2.1 0 j) 256
    by_cases e : j = n
    · subst e
      rw [sA_s, sA_s]
      exact ⟨rfl, isN_of hv (by decide)⟩
    · rw [sA_i e, sA_i e]
      exact h8 j hj
  · rw [sI_i (by decide)]
    exact h9.imp id (fun q => ⟨q.1, q.2.1, q.2.2.1, q.2.2.2.cg (fun i hi => sI_i (by omega)) (fun b hb => sA_a (by omega)) rfl⟩)
theorem Rel.rowm (hR : Rel a c lt xs m) {n v : Nat} (hn : n < 12) (hv : v < 10) : Rel a c lt (ew_sI (ew_sA xs 0 n (nI v)) 2 (nI (n + 1))) (ew_sI (ew_sA m 13 n (nI v)) 20 (nI (n + 1))) := by
  obtain ⟨⟨h1, h2, h3⟩, h4, h5, ⟨h6, h7, h8⟩, h9⟩ := hR
  refine ⟨⟨h1, h2.cong ⟨sI_i (by decide), sI_i (by decide), sI_i (by decide), sI_i (by decide), sI_i (by decide)⟩ (fun b hb => sA_a (by omega)) rfl, ?_⟩, fun k hk => ?_, ⟨?_, ?_, fun j hj => ?_⟩, ⟨?_, h7, fun j hj => ?_⟩, ?_⟩
  · rw [sI_i (by decide)]; exact h3
  · show (ew_sA m 13 n (nI v)).2.1 14 k = (ew_sA xs 0 n (nI v)).2.1 1 k
    rw [sA_a (by decide), sA_a (by decide)]; exact h4 k hk
  · rw [sI_s, sI_s]
  · rw [sI_s]; exact isN_of (by omega) (by decide)
  · show (ew_sA m 13 n (nI v)).2.1 13 j = (ew_sA xs 0 n (nI v)).2.1 0 j ∧ isN ((ew_sA xs 0 n (nI v)).2.1 0 j) 10
    by_cases e : j = n
    · subst e
      rw [sA_s, sA_s]
      exact ⟨rfl, isN_of hv (by decide)⟩
    · rw [sA_i e, sA_i e]
      exact h5.2.2 j hj
  · rw [sI_i (by decide)]; exact h6
  · show (ew_sA m 13 n (nI v)).2.1 12 j = _ ∧ _
    rw [sA_a (by decide)]; exact h8 j hj
  · rw [sI_i (by decide), sI_i (by decide)]
    exact h9.imp id (fun q => ⟨q.1, q.2.1, q.2.2.1, q.2.2.2.cg (fun i hi => sI_i (by omega)) (fun b hb => sA_a (by omega)) rfl⟩)
theorem le0 {x : Int32} : 0 ≤ x ↔ ¬ x < 0 := ⟨fun h => Int32.not_lt.mpr h, fun h => Int32.not_lt.mp h⟩
/-- letter -/
theorem s_letter (hR : Rel a c lt xs m) (x : Int32) : wX4_letter (fun r lt' xs' => wX5_letter (fun r' m' => r = r' ∧ Rel a c lt' xs' m') x m) x a b c lt ra xs := by
  obtain ⟨e18, hN, hl⟩ := hR.2.2.2.1
  obtain ⟨n, n1, n2⟩ : ∃ n, lt.1 0 = nI n ∧ n < 65 := ⟨cl (lt.1 0), hN.1, hN.2⟩
  have r6 : ∀ {P : Int32 → ew_M → Prop}, P (-6) (rfM m 6) → wX5_letter_27 P m := fun h => m_refuse (k := 6) (by decide) (by decide) h
  refine ⟨fun q => ⟨fun q2 => p_refuse (k := 6) (by decide) ?_, fun q2 => ⟨fun f => ⟨fun _ => ?_, fun z => absurd rfl z⟩, fun f => ⟨fun z => absurd z z10, fun _ => p_refuse (k := 6) (by decide) ?_⟩⟩⟩, fun q => p_refuse (k := 4) (by decide) ?_⟩
  · exact ⟨fun _ => ⟨fun _ => r6 ⟨by decide, hR.rf (by decide)⟩, fun z => absurd q2 z⟩, fun z => absurd q z⟩
  · obtain ⟨v, hv, rfl⟩ := nI_of (le0.mp q)
    have hv2 : v < 256 := by
      have q2 : ¬ nI 255 < nI v := q2
      rw [nI_ltI (by decide) hv] at q2
      omega
    rw [n1] at f
    have f : n < 64 := (nI_ltI (a := n) (b := 64) (by omega) (by decide)).mp f
    refine ⟨fun z => ?_, fun _ => ?_⟩
    · rw [n1] at z
      exact absurd z (nI_ge (a := n) (b := 64) f (by decide))
    · have g := hR.let (n := n) f hv2
      rw [n1, cN (by omega), nI_s]
      refine ⟨vp_in_nI f (by decide), ?_⟩
      show wX5_letter (fun r' m' => (ew_sI (ew_sA lt 0 (n) (nI v)) 0 (nI (n + 1))).1 0 = r' ∧ _) (nI v) m
      rw [sI_s]
      refine ⟨fun _ => ⟨fun z => absurd z q2, fun _ => ⟨fun _ => ?_, fun z => ?_⟩⟩, fun z => absurd q z⟩
      · rw [e18, n1, cN (by omega), nI_s]
        exact ⟨vp_in_nI f (by decide), rfl, g⟩
      · rw [e18, n1] at z
        have z : n = 64 := (nI_eq (a := n) (b := 64) (by omega) (by decide)).mp z
        omega
  · rw [n1] at f
    have f : ¬ n < 64 := fun z => f ((nI_ltI (a := n) (b := 64) (by omega) (by decide)).mpr z)
    have e64 : m.1 18 = 64 := by rw [e18, n1, show n = 64 by omega]; rfl
    by_cases q3 : (255 : Int32) < x
    · exact absurd q3 q2
    · exact ⟨fun _ => ⟨fun z => absurd z q3, fun _ => ⟨fun z => absurd e64 z, fun _ => r6 ⟨by decide, hR.rf (by decide)⟩⟩⟩, fun z => absurd q z⟩
  · exact ⟨fun z => absurd z q, fun _ => m_refuse (k := 4) (by decide) (by decide) ⟨by decide, hR.rf (by decide)⟩⟩
/-- row -/
theorem s_row (hR : Rel a c lt xs m) (x : Int32) : wX4_row (fun r xs' => wX5_row (fun r' m' => r = r' ∧ Rel a c lt xs' m') x m) x a b c lt ra xs := by
  obtain ⟨e20, hN, hl⟩ := hR.2.2.1
  obtain ⟨n, n1, n2⟩ : ∃ n, xs.1 2 = nI n ∧ n < 13 := ⟨cl (xs.1 2), hN.1, hN.2⟩
  have r6 : ∀ {P : Int32 → ew_M → Prop}, P (-6) (rfM m 6) → wX5_row_26 P m := fun h => m_refuse (k := 6) (by decide) (by decide) h
  refine ⟨fun q => ⟨fun q2 => p_refuse (k := 6) (by decide) ?_, fun q2 => ⟨fun f => ?_, fun f => p_refuse (k := 6) (by decide) ?_⟩⟩, fun q => p_refuse (k := 4) (by decide) ?_⟩
  · exact ⟨fun _ => ⟨fun _ => r6 ⟨by decide, hR.rf (by decide)⟩, fun z => absurd q2 z⟩, fun z => absurd q z⟩
  · obtain ⟨v, hv, rfl⟩ := nI_of (le0.mp q)
    have hv2 : v < 10 := by
      have q2 : ¬ nI 9 < nI v := q2
      rw [nI_ltI (by decide) hv] at q2
      omega
    rw [n1] at f
    have f : n < 12 := (nI_ltI (a := n) (b := 12) (by omega) (by decide)).mp f
    have g := hR.rowm (n := n) f hv2
    rw [n1, cN (by omega), nI_s]
    refine ⟨vp_in_nI f (by decide), ?_⟩
    refine ⟨fun _ => ⟨fun z => absurd z q2, fun _ => ⟨fun _ => ?_, fun z => ?_⟩⟩, fun z => absurd q z⟩
    · rw [e20, n1, cN (by omega), nI_s]
      exact ⟨vp_in_nI f (by decide), rfl, g⟩
    · rw [e20, n1] at z
      have z : n = 12 := (nI_eq (a := n) (b := 12) (by omega) (by decide)).mp z
      omega
  · rw [n1] at f
    have f : ¬ n < 12 := fun z => f ((nI_ltI (a := n) (b := 12) (by omega) (by decide)).mpr z)
    have e12 : m.1 20 = 12 := by rw [e20, n1, show n = 12 by omega]; rfl
    exact ⟨fun _ => ⟨fun z => absurd z q2, fun _ => ⟨fun z => absurd e12 z, fun _ => r6 ⟨by decide, hR.rf (by decide)⟩⟩⟩, fun z => absurd q z⟩
  · exact ⟨fun z => absurd z q, fun _ => m_refuse (k := 4) (by decide) (by decide) ⟨by decide, hR.rf (by decide)⟩⟩
/-- which papers, as bits -/
def pwU (f : Nat → Bool) : Nat → Int32
  | 0 => 0
  | i + 1 => pwU f i ||| (if f i = true then (1 : Int32) <<< (nI i &&& 31) else 0)
theorem bit_shl : ∀ a, a < 5 → nI 0 <<< (nI a &&& 31) = 0 ∧ nI 1 <<< (nI a &&& 31) = (1 : Int32) <<< (nI a &&& 31) := by decide +kernel
theorem bit_sh2 {n p a : Nat} (hn : n < 64) (hp : p < 10) (ha : a < 5) : ((nI n >>> (nI p &&& 31)) &&& 1) <<< (nI a &&& 31) = if n.testBit p = true then (1 : Int32) <<< (nI a &&& 31) else 0 := by
  rw [bt_sh n hn p hp, bt_tb]
  by_cases h : n.testBit p = true
  · rw [if_pos h, if_pos h, (bit_shl a ha).2]
  · rw [if_neg h, if_neg h, (bit_shl a ha).1]
theorem p_pwb {t : ew_M} (hw : wf t) {p : Nat} (hp : p < 10) {Q : Int32 → Prop} (h : Q (pwU (fun i => (bs t i).testBit p) (An t))) : wX3_papersWith_bd Q (nI p) t := by
  obtain ⟨e1, e2⟩ := hw.A
  refine ew_for (An t) (fun i => (pwU (fun i => (bs t i).testBit p) i, nI i)) (fun i R hi hR => ?_) (fun R => ?_)
  · obtain ⟨f1, f2⟩ := hw.b (a := i) (by omega)
    refine ⟨fun q => ?_, fun _ => ⟨vp_in_nI (by omega) (by decide), ?_⟩⟩
    · rw [e1] at q
      exact absurd q (nI_ge hi (by omega))
    · show R (_ ||| (((t.2.1 4 (nI i).toNatClampNeg >>> (nI p &&& 31)) &&& 1) <<< (nI i &&& 31)), nI i + 1)
      rw [cN (by omega), f1, bit_sh2 f2 hp (by omega), nI_s]
      exact hR
  · refine ⟨fun _ => h, fun q => ?_⟩
    rw [e1] at q
    exact absurd (nI_le (Nat.le_refl _) (by omega)) q
theorem p_pwr {t : ew_M} (hw : wf t) {p : Nat} (hp : p < 10) {Q : Int32 → Prop} (h : Q (pwU (fun i => (rs t i).testBit p) (An t))) : wX3_papersWith_rd Q (nI p) t := by
  obtain ⟨e1, e2⟩ := hw.A
  refine ew_for (An t) (fun i => (pwU (fun i => (rs t i).testBit p) i, nI i)) (fun i R hi hR => ?_) (fun R => ?_)
  · obtain ⟨f1, f2⟩ := hw.r (a := i) (by omega)
    refine ⟨fun q => ?_, fun _ => ⟨vp_in_nI (by omega) (by decide), ?_⟩⟩
    · rw [e1] at q
      exact absurd q (nI_ge hi (by omega))
    · show R (_ ||| (((t.2.1 5 (nI i).toNatClampNeg >>> (nI p &&& 31)) &&& 1) <<< (nI i &&& 31)), nI i + 1)
      rw [cN (by omega), f1, bit_sh2 f2 hp (by omega), nI_s]
      exact hR
  · refine ⟨fun _ => h, fun q => ?_⟩
    rw [e1] at q
    exact absurd (nI_le (Nat.le_refl _) (by omega)) q
theorem m_binds {t m : ew_M} (hr : RT t m) (hw : wf t) {p : Nat} (hp : p < 10) {Q : Int32 → Prop} (h : Q (pwU (fun i => (bs t i).testBit p) (An t))) : wX5_bindsOf Q (nI p) m := by
  obtain ⟨e1, e2⟩ := hw.A
  have e0 : m.1 5 = nI (An t) := by rw [hr.1.2.1, e1]
  refine ew_for (An t) (fun i => (pwU (fun i => (bs t i).testBit p) i, nI i)) (fun i R hi hR => ?_) (fun R => ?_)
  · have hR : R (pwU (fun i => (bs t i).testBit p) i ||| (if (bs t i).testBit p = true then (1 : Int32) <<< (nI i &&& 31) else 0), nI (i + 1)) := hR
    refine ⟨fun q => ?_, fun _ => m_isBound hr hw (by omega) hp ⟨fun z => ?_, fun z => ?_⟩⟩
    · rw [e0] at q
      exact absurd q (nI_ge hi (by omega))
    · rw [bI_0] at z
      rw [z, if_neg (by decide)] at hR
      show R (_, nI i + 1)
      rw [nI_s]
      exact hR
    · rw [bI_0] at z
      rw [if_pos (b_nf z)] at hR
      show R (_, nI i + 1)
      rw [nI_s]
      exact hR
  · refine ⟨fun _ => h, fun q => ?_⟩
    rw [e0] at q
    exact absurd (nI_le (Nat.le_refl _) (by omega)) q
theorem m_readBy {t m : ew_M} (hr : RT t m) (hw : wf t) {p : Nat} (hp : p < 10) {Q : Int32 → Prop} (h : Q (pwU (fun i => (rs t i).testBit p) (An t))) : wX5_readBy Q (nI p) m := by
  obtain ⟨e1, e2⟩ := hw.A
  have e0 : m.1 5 = nI (An t) := by rw [hr.1.2.1, e1]
  refine ew_for (An t) (fun i => (pwU (fun i => (rs t i).testBit p) i, nI i)) (fun i R hi hR => ?_) (fun R => ?_)
  · have hR : R (pwU (fun i => (rs t i).testBit p) i ||| (if (rs t i).testBit p = true then (1 : Int32) <<< (nI i &&& 31) else 0), nI (i + 1)) := hR
    refine ⟨fun q => ?_, fun _ => m_hasRead hr hw (by omega) hp ⟨fun z => ?_, fun z => ?_⟩⟩
    · rw [e0] at q
      exact absurd q (nI_ge hi (by omega))
    · rw [bI_0] at z
      rw [z, if_neg (by decide)] at hR
      show R (_, nI i + 1)
      rw [nI_s]
      exact hR
    · rw [bI_0] at z
      rw [if_pos (b_nf z)] at hR
      show R (_, nI i + 1)
      rw [nI_s]
      exact hR
  · refine ⟨fun _ => h, fun q => ?_⟩
    rw [e0] at q
    exact absurd (nI_le (Nat.le_refl _) (by omega)) q
/-- in a few ints, or outside -/
theorem few {n : Nat} (hn : n < 1000) (x : Int32) : (∃ k, k ≤ n ∧ x = nI k) ∨ (x < 0 ∨ ¬ x ≤ nI n) := by
  by_cases h : x < 0
  · exact Or.inr (Or.inl h)
  · obtain ⟨k, hk, rfl⟩ := nI_of h
    by_cases h2 : k ≤ n
    · exact Or.inl ⟨k, h2, rfl⟩
    · exact Or.inr (Or.inr (fun z => h2 ((nI_leI hk (by omega)).mp z)))
theorem few_ne {n k : Nat} (hn : n < 1000) (hk : k ≤ n) {x : Int32} (h : x < 0 ∨ ¬ x ≤ nI n) : ¬ x = nI k := fun e => by
  subst e
  exact h.elim (fun z => absurd z (nI_pos (by omega))) (fun z => z (nI_le hk (by omega)))
/-- person -/
theorem s_person (hR : Rel a c lt xs m) (x y : Int32) : wX4_person (fun r xs' => wX5_person (fun r' m' => r = r' ∧ Rel a c lt xs' m') x y m) x y a b c lt ra xs := by
  have hP := hR.w.P.2
  by_cases hx : isP a x
  · obtain ⟨k, hk, rfl⟩ := hx
    have k6 : k < 6 := by omega
    refine p_hasPerson_y hR.w hk ⟨fun _ => ?_, fun q => absurd q z10⟩
    rcases few (n := 4) (by decide) y with ⟨j, hj, rfl⟩ | hy
    · refine ⟨fun z => absurd z (nI_pos (by omega)), fun _ => ⟨fun _ => ?_, fun z => absurd (nI_le (a := j) (b := 4) hj (by decide)) z⟩⟩
      obtain ⟨t1, t2, t3, -⟩ := hR.r.2.1 k k6
      rcases (show j = 0 ∨ j = 1 ∨ j = 2 ∨ j = 3 ∨ j = 4 by omega) with rfl | rfl | rfl | rfl | rfl
      · refine ⟨fun _ => ⟨vp_in_nI k6 (by decide), m_isPerson_y hR.r hR.w hk ⟨fun _ => ⟨fun _ => ⟨vp_in_nI k6 (by decide), ?_, hR⟩, fun z => absurd rfl z⟩, fun z => absurd z z10⟩⟩, fun z => absurd rfl z⟩
        rw [cN (by omega)]; exact t1.symm
      · refine ⟨fun z => absurd z (by decide), fun _ => ⟨fun _ => ⟨vp_in_nI k6 (by decide), m_isPerson_y hR.r hR.w hk ⟨fun _ => ⟨fun z => absurd z (by decide), fun _ => ⟨fun _ => ⟨vp_in_nI k6 (by decide), ?_, hR⟩, fun z => absurd rfl z⟩⟩, fun z => absurd z z10⟩⟩, fun z => absurd rfl z⟩⟩
        rw [cN (by omega)]; exact t2.symm
      · refine ⟨fun z => absurd z (by decide), fun _ => ⟨fun z => absurd z (by decide), fun _ => ⟨fun _ => ⟨vp_in_nI k6 (by decide), m_isPerson_y hR.r hR.w hk ⟨fun _ => ⟨fun z => absurd z (by decide), fun _ => ⟨fun z => absurd z (by decide), fun _ => ⟨fun _ => ⟨vp_in_nI k6 (by decide), ?_, hR⟩, fun z => absurd rfl z⟩⟩⟩, fun z => absurd z z10⟩⟩, fun z => absurd rfl z⟩⟩⟩
        rw [cN (by omega)]; exact t3.symm
      · refine ⟨fun z => absurd z (by decide), fun _ => ⟨fun z => absurd z (by decide), fun _ => ⟨fun z => absurd z (by decide), fun _ => ⟨fun _ => p_pwb hR.w (by omega) ?_, fun z => absurd rfl z⟩⟩⟩⟩
        exact m_isPerson_y hR.r hR.w hk ⟨fun _ => ⟨fun z => absurd z (by decide), fun _ => ⟨fun z => absurd z (by decide), fun _ => ⟨fun z => absurd z (by decide), fun _ => ⟨fun _ => m_binds hR.r hR.w (by omega) ⟨rfl, hR⟩, fun z => absurd rfl z⟩⟩⟩⟩, fun z => absurd z z10⟩
      · refine ⟨fun z => absurd z (by decide), fun _ => ⟨fun z => absurd z (by decide), fun _ => ⟨fun z => absurd z (by decide), fun _ => ⟨fun z => absurd z (by decide), fun _ => p_pwr hR.w (by omega) ?_⟩⟩⟩⟩
        exact m_isPerson_y hR.r hR.w hk ⟨fun _ => ⟨fun z => absurd z (by decide), fun _ => ⟨fun z => absurd z (by decide), fun _ => ⟨fun z => absurd z (by decide), fun _ => ⟨fun z => absurd z (by decide), fun _ => ⟨fun _ => m_readBy hR.r hR.w (by omega) ⟨rfl, hR⟩, fun z => absurd rfl z⟩⟩⟩⟩⟩, fun z => absurd z z10⟩
    · have no : wX5_person (fun r' m' => -nI 2 = r' ∧ Rel a c lt (rfX xs 2) m') (nI k) y m :=
        m_isPerson_y hR.r hR.w hk ⟨fun _ => ⟨fun z => absurd z (few_ne (n := 4) (k := 0) (by decide) (by decide) hy), fun _ => ⟨fun z => absurd z (few_ne (n := 4) (k := 1) (by decide) (by decide) hy), fun _ => ⟨fun z => absurd z (few_ne (n := 4) (k := 2) (by decide) (by decide) hy), fun _ => ⟨fun z => absurd z (few_ne (n := 4) (k := 3) (by decide) (by decide) hy), fun _ => ⟨fun z => absurd z (few_ne (n := 4) (k := 4) (by decide) (by decide) hy), fun _ => m_refuse (k := 2) (by decide) (by decide) ⟨by decide, hR.rf (by decide)⟩⟩⟩⟩⟩⟩, fun z => absurd z z10⟩
      exact ⟨fun _ => p_refuse (k := 2) (by decide) no, fun z => ⟨fun z2 => absurd z2 (hy.resolve_left z), fun _ => p_refuse (k := 2) (by decide) no⟩⟩
  · refine p_hasPerson_n hR.w hx ⟨fun q => absurd rfl q, fun _ => p_refuse (k := 1) (by decide) ?_⟩
    exact m_isPerson_n hR.r hR.w hx ⟨fun q => absurd rfl q, fun _ => m_refuse (k := 1) (by decide) (by decide) ⟨by decide, hR.rf (by decide)⟩⟩
end REL
