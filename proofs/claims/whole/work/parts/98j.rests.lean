/-! rests: who would do otherwise -/
theorem bt_orr : ∀ r, r < 64 → ∀ s, s < 64 → nI r ||| nI s = nI (r ||| s) := by decide +kernel
theorem bt_orr_lt : ∀ r, r < 64 → ∀ s, s < 64 → r ||| s < 64 := by decide +kernel
theorem bt_xor : ∀ n, n < 64 → ∀ p, p < 6 → nI n ^^^ ((1 : Int32) <<< (nI p &&& 31)) = nI (n ^^^ 2 ^ p) := by decide +kernel
theorem bt_xor_lt : ∀ n, n < 64 → ∀ p, p < 6 → n ^^^ 2 ^ p < 64 := by decide +kernel
theorem pc_add : ∀ r, r < 64 → ∀ s, s < 64 → r &&& s = 0 → pc r + pc s = pc (r ||| s) := by decide +kernel
theorem sub_and : ∀ s, s < 64 → ∀ u, u < 64 → s &&& (63 ^^^ u) = 0 → s &&& u = s := by decide +kernel
theorem not_and : ∀ b, b < 64 → ∀ r, r < 64 → r &&& (b &&& (63 ^^^ r)) = 0 := by decide +kernel
theorem bit_sub : ∀ u, u < 64 → ∀ p, p < 6 → u.testBit p = true → 2 ^ p &&& (63 ^^^ u) = 0 := by decide +kernel
theorem uns_dis {t : ew_M} (hw : wf t) {k s : Nat} (hk : k < 5) (hs : s < 64) (h : s &&& (63 ^^^ uns t k) = 0) : rs t k &&& s = 0 := by
  have e1 := sub_and s hs _ (uns_lt hw hk) h
  have e2 : rs t k &&& uns t k = 0 := not_and _ (hw.b hk).2 _ (hw.r hk).2
  rw [← e1, Nat.and_comm s, ← Nat.and_assoc, e2, Nat.zero_and]
theorem m_leftOf {t m : ew_M} (hr : RT t m) (hw : wf t) {a : Nat} (ha : a < 5) {Q : Int32 → Prop} (h : Q (nI (uns t a))) : wX5_leftOf Q (nI a) m := by
  obtain ⟨e1, e2⟩ := hw.b ha
  obtain ⟨e3, e4⟩ := hw.r ha
  refine ⟨vp_in_nI ha (by decide), vp_in_nI ha (by decide), ?_⟩
  rw [cN (by omega), (hr.2.2.1 a ha).1, (hr.2.2.1 a ha).2.1, e1, e3, bt_andn _ e2 _ e4]
  exact h
def st0 (t : ew_M) (k s : Nat) : Bool := fo (Ln t) (pc (bs t k)) (pc (rs t k ||| s))
def ch (t : ew_M) (k s i : Nat) : Bool := if st0 t k s = st0 t k (s ^^^ 2 ^ i) then false else if st0 t k (s ^^^ 2 ^ i) = true then decide (0 < tA t i k) else decide (tA t i k < 0)
def anyF (f : Nat → Bool) (P : Nat) : Nat → Bool
  | 0 => false
  | k + 1 => f (P - (k + 1)) || anyF f P k
theorem anyF_s {f : Nat → Bool} {P i : Nat} (hi : i < P) : anyF f P (P - i) = (f i || anyF f P (P - (i + 1))) := by
  have e1 : P - i = (P - (i + 1)) + 1 := by omega
  have e2 : P - ((P - (i + 1)) + 1) = i := by omega
  rw [e1]
  show (f (P - ((P - (i + 1)) + 1)) || anyF f P (P - (i + 1))) = _
  rw [e2]
def iR (t : ew_M) (k s : Nat) : Bool := decide (s &&& (63 ^^^ uns t k) = 0) && !anyF (fun i => unr t i k && ch t k s i) (Pn t) (Pn t)
theorem p_behind {t s2 s3 s4 : ew_M} (hw : wf t) {k s : Nat} (hk : k < 5) (hs : s < 64) {Q : Int32 → Prop} (h : Q (bI (st0 t k s))) : wX1_isInForceBehind Q (nI k) (nI s) t s2 s3 s4 := by
  obtain ⟨e3, e4⟩ := hw.r hk
  have l := bt_orr_lt _ e4 _ hs
  have l2 := pc_le _ l
  refine ⟨vp_in_nI hk (by decide), ?_⟩
  rw [cN (by omega), e3]
  show wJ6_bitCount_0f7a4 _ (nI (rs t k) ||| nI s)
  rw [bt_orr _ e4 _ hs]
  exact j_bc l (p_forceWith hw hk (by omega) ⟨bI_nar _, h⟩)
theorem p_would {t s2 s3 s4 : ew_M} (hw : wf t) {i k s : Nat} (hi : i < 6) (hk : k < 5) (hs : s < 64) {Q : Int32 → Prop} (h : Q (bI (ch t k s i))) : wX1_wouldChange Q (nI i) (nI k) (nI s) t s2 s3 s4 := by
  unfold ch at h
  refine p_behind hw hk hs ?_
  rw [bt_xor _ hs i hi]
  refine p_behind hw hk (bt_xor_lt _ hs i hi) ⟨fun q => ?_, fun q => ?_⟩
  · have q : ¬ st0 t k s = st0 t k (s ^^^ 2 ^ i) := fun e => q (by rw [e])
    rw [if_neg q] at h
    refine p_thinkAbove hw hk hi ⟨fun z => ⟨fun y => ?_, fun y => ?_⟩, fun z => ⟨fun y => ?_, fun y => ?_⟩⟩
    · rw [bI_0] at z
      rw [lg_cmp_ge] at y
      rw [z, if_neg (by decide), decide_eq_false (Int64.not_lt.mpr y)] at h
      exact h
    · rw [bI_0] at z
      rw [lg_cmp_ge] at y
      rw [z, if_neg (by decide), decide_eq_true (Int64.not_le.mp y)] at h
      exact h
    · rw [bI_0] at z
      rw [lg_cmp_le] at y
      rw [if_pos (b_nf z), decide_eq_false (Int64.not_lt.mpr y)] at h
      exact h
    · rw [bI_0] at z
      rw [lg_cmp_le] at y
      rw [if_pos (b_nf z), decide_eq_true (Int64.not_le.mp y)] at h
      exact h
  · have q : st0 t k s = st0 t k (s ^^^ 2 ^ i) := by
      revert q
      cases st0 t k s <;> cases st0 t k (s ^^^ 2 ^ i) <;> decide
    rw [if_pos q] at h
    exact h
theorem p_isRest {t s2 s3 s4 : ew_M} (hw : wf t) {k s : Nat} (hk : k < An t) (hs : s < 64) {Q : Int32 → Prop} (h : Q (bI (iR t k s))) : wX1_isRest Q (nI k) (nI s) t s2 s3 s4 := by
  have hA := hw.A.2
  obtain ⟨eP, hP⟩ := hw.P
  have hk5 : k < 5 := by omega
  have hu := uns_lt hw hk5
  have hl := bt_and_lt _ hs _ hu
  refine p_unreadOf hw hk5 ?_
  rw [bt_andn _ hs _ hu]
  refine ⟨fun q => ?_, fun q => ?_⟩
  · have q : s &&& (63 ^^^ uns t k) = 0 := (nI_eq (a := s &&& (63 ^^^ uns t k)) (b := 0) (by omega) (by decide)).mp q
    rw [iR, decide_eq_true q, Bool.true_and] at h
    refine ew_forI (Pn t) (fun i x => x = nI i ∧ Q (bI (!anyF (fun i => unr t i k && ch t k s i) (Pn t) (Pn t - i)))) (fun i R x hi hI hR => ?_) (fun R x hI => ?_) ⟨rfl, by rw [Nat.sub_zero]; exact h⟩
    · obtain ⟨rfl, hq⟩ := hI
      rw [anyF_s hi] at hq
      have go : (unr t i k && ch t k s i) = false → R (nI i + 1) := fun z => hR _ ⟨nI_s i, by
        have hq : Q (bI (!((unr t i k && ch t k s i) || anyF (fun i => unr t i k && ch t k s i) (Pn t) (Pn t - (i + 1))))) := hq
        rw [z, Bool.false_or] at hq
        exact hq⟩
      have st : (unr t i k && ch t k s i) = true → Q 0 := fun z => by
        have hq : Q (bI (!((unr t i k && ch t k s i) || anyF (fun i => unr t i k && ch t k s i) (Pn t) (Pn t - (i + 1))))) := hq
        rw [z, Bool.true_or] at hq
        exact hq
      refine ⟨fun q => ?_, fun _ => ⟨fun q => ?_, fun q => ?_⟩⟩
      · have q : t.1 0 ≤ nI i := q
        rw [eP] at q
        exact absurd q (nI_ge hi (by omega))
      · have q : (nI (uns t k) >>> (nI i &&& 31)) &&& (1 : Int32) = 0 := q
        rw [bt_0 hu (by omega), uns_tb hw hk5 (by omega)] at q
        exact ⟨fun _ => go (by rw [q]; rfl), fun z => absurd rfl z⟩
      · have q : ¬ (nI (uns t k) >>> (nI i &&& 31)) &&& (1 : Int32) = 0 := q
        rw [bt_0 hu (by omega), uns_tb hw hk5 (by omega)] at q
        have q := b_nf q
        refine ⟨fun z => absurd z z10, fun _ => p_would hw (by omega) hk5 hs ⟨fun z => go ?_, fun z => st ?_⟩⟩
        · rw [bI_0] at z
          rw [z, Bool.and_false]
        · rw [bI_0] at z
          rw [q, b_nf z]; rfl
    · obtain ⟨rfl, hq⟩ := hI
      rw [Nat.sub_self] at hq
      refine ⟨fun _ => hq, fun q => ?_⟩
      have q : ¬ t.1 0 ≤ nI (Pn t) := q
      rw [eP] at q
      exact absurd (nI_le (Nat.le_refl _) (by omega)) q
  · have q : ¬ s &&& (63 ^^^ uns t k) = 0 := fun e => q (by rw [e]; rfl)
    rw [iR, decide_eq_false q, Bool.false_and] at h
    exact h
theorem ch_cmp {t : ew_M} {k s i : Nat} : lg_cmp (if st0 t k (s ^^^ 2 ^ i) = true then tA t i k else 0) (if st0 t k s = true then tA t i k else 0) ≤ 0 ↔ ch t k s i = false := by
  rw [lg_cmp_le]
  unfold ch
  cases st0 t k s <;> cases st0 t k (s ^^^ 2 ^ i)
  · exact ⟨fun _ => rfl, fun _ => Int64.le_refl _⟩
  · show tA t i k ≤ 0 ↔ decide (0 < tA t i k) = false
    rw [decide_eq_false_iff_not, Int64.not_lt]
  · show 0 ≤ tA t i k ↔ decide (tA t i k < 0) = false
    rw [decide_eq_false_iff_not, Int64.not_lt]
  · exact ⟨fun _ => rfl, fun _ => Int64.le_refl _⟩
theorem m_isRest {t m : ew_M} (hr : RT t m) (hw : wf t) {k s : Nat} (hk : k < An t) (hs : s < 64) (hsub : s &&& (63 ^^^ uns t k) = 0) {Q : Int32 → Prop} (h : Q (bI (iR t k s))) : wX5_isRest Q (nI k) (nI s) m := by
  have hA := hw.A.2
  obtain ⟨eP, hP⟩ := hw.P
  obtain ⟨eL, hL⟩ := hw.L
  have hk5 : k < 5 := by omega
  have hu := uns_lt hw hk5
  obtain ⟨e3, e4⟩ := hw.r hk5
  have p1 := pc_le _ e4
  have p2 := pc_le _ hs
  rw [iR, decide_eq_true hsub, Bool.true_and] at h
  refine ⟨vp_in_nI hk5 (by decide), ?_⟩
  rw [cN (by omega), (hr.2.2.1 k hk5).2.1, e3]
  refine m_ones e4 (m_ones hs ?_)
  rw [hr.1.2.2.1, eL, nI_add]
  refine m_forceBy hr hw hk5 hL (by omega) ?_
  rw [pc_add _ e4 _ hs (uns_dis hw hk5 hs hsub)]
  show ew_lp (fun (R : Int32 → Prop) (x : Int32) => wX5_isRest_30 R Q (nI k) (nI s) (nI (pc (rs t k))) (bI (st0 t k s)) x m) (0 : Int32)
  refine ew_forI (Pn t) (fun i x => x = nI i ∧ Q (bI (!anyF (fun i => unr t i k && ch t k s i) (Pn t) (Pn t - i)))) (fun i R x hi hI hR => ?_) (fun R x hI => ?_) ⟨rfl, by rw [Nat.sub_zero]; exact h⟩
  · obtain ⟨rfl, hq⟩ := hI
    rw [anyF_s hi] at hq
    have go : (unr t i k && ch t k s i) = false → R (nI i + 1) := fun z => hR _ ⟨nI_s i, by
      have hq : Q (bI (!((unr t i k && ch t k s i) || anyF (fun i => unr t i k && ch t k s i) (Pn t) (Pn t - (i + 1))))) := hq
      rw [z, Bool.false_or] at hq
      exact hq⟩
    have st : (unr t i k && ch t k s i) = true → Q 0 := fun z => by
      have hq : Q (bI (!((unr t i k && ch t k s i) || anyF (fun i => unr t i k && ch t k s i) (Pn t) (Pn t - (i + 1))))) := hq
      rw [z, Bool.true_or] at hq
      exact hq
    refine ⟨fun q => ?_, fun _ => m_leftOf hr hw hk5 ⟨fun q => ?_, fun q => ?_⟩⟩
    · rw [hr.1.1, eP] at q
      exact absurd q (nI_ge hi (by omega))
    · rw [bt_1 hu (by omega), uns_tb hw hk5 (by omega)] at q
      exact go (by rw [b_nt q]; rfl)
    · rw [bt_1 hu (by omega), uns_tb hw hk5 (by omega)] at q
      have ub : (uns t k).testBit i = true := by rw [uns_tb hw hk5 (by omega)]; exact q
      have sub2 : (s ^^^ 2 ^ i) &&& (63 ^^^ uns t k) = 0 := by
        rw [Nat.and_xor_distrib_right, hsub, bit_sub _ hu i (by omega) ub]
        rfl
      have hx := bt_xor_lt _ hs i (by omega)
      have p3 := pc_le _ hx
      rw [bt_xor _ hs i (by omega)]
      refine m_ones hx ?_
      rw [hr.1.2.2.1, eL, nI_add]
      refine m_forceBy hr hw hk5 hL (by omega) ?_
      rw [pc_add _ e4 _ hx (uns_dis hw hk5 hx sub2)]
      refine m_thinkAbove hr hk5 hk (by omega) ?_
      have last : wX5_isRest_106 R Q (nI k) (nI s) (nI (pc (rs t k))) (bI (st0 t k s)) (nI i) (if st0 t k s = true then tA t i k else 0) (if st0 t k (s ^^^ 2 ^ i) = true then tA t i k else 0) m := by
        refine ⟨fun z => ?_, fun z => ?_⟩
        · rw [ch_cmp] at z
          exact go (by rw [z, Bool.and_false])
        · rw [ch_cmp] at z
          exact st (by rw [q, b_nf z]; rfl)
      have mid : ∀ w : Int64, w = (if st0 t k (s ^^^ 2 ^ i) = true then tA t i k else 0) → wX5_isRest_95 R Q (nI k) (nI s) (nI (pc (rs t k))) (bI (st0 t k s)) (nI i) (tA t i k) w m := fun w e => by
        subst e
        refine ⟨fun z => ?_, fun z => ?_⟩
        · rw [bI_0] at z
          rw [if_neg (show ¬ st0 t k s = true by rw [z]; decide)] at last
          exact last
        · rw [bI_0] at z
          rw [if_pos (b_nf z)] at last
          exact last
      refine ⟨fun z => mid _ ?_, fun z => mid _ ?_⟩
      · have z : st0 t k (s ^^^ 2 ^ i) = false := (bI_0 _).mp z
        rw [if_neg (show ¬ st0 t k (s ^^^ 2 ^ i) = true by rw [z]; decide)]
      · have z : st0 t k (s ^^^ 2 ^ i) = true := b_nf (fun e => z ((bI_0 _).mpr e))
        rw [if_pos z]
  · obtain ⟨rfl, hq⟩ := hI
    rw [Nat.sub_self] at hq
    refine ⟨fun _ => hq, fun q => ?_⟩
    rw [hr.1.1, eP] at q
    exact absurd (nI_le (Nat.le_refl _) (by omega)) q
theorem m_prof {t m : ew_M} (hr : RT t m) (hw : wf t) {k s : Nat} (hk : k < An t) (hs : s < 64) {A0 A1 : Prop} (h0 : iR t k s = false → A0) (h1 : iR t k s = true → A1) : wX5_leftOf (fun r2 => (¬ (nI s &&& (r2 ^^^ (-1 : Int32))) = 0 → A0) ∧ ((nI s &&& (r2 ^^^ (-1 : Int32))) = 0 → wX5_isRest (fun r5 => (r5 = 0 → A0) ∧ (¬ r5 = 0 → A1)) (nI k) (nI s) m)) (nI k) m := by
  have hA := hw.A.2
  have hk5 : k < 5 := by omega
  have hu := uns_lt hw hk5
  have hl := bt_and_lt _ hs _ hu
  refine m_leftOf hr hw hk5 ?_
  rw [bt_andn _ hs _ hu]
  refine ⟨fun q => h0 ?_, fun q => m_isRest hr hw hk hs ((nI_eq (a := s &&& (63 ^^^ uns t k)) (b := 0) (by omega) (by decide)).mp q) ⟨fun z => h0 ((bI_0 _).mp z), fun z => h1 (b_nf (fun e => z ((bI_0 _).mpr e)))⟩⟩
  rw [iR, decide_eq_false (fun e => q (by rw [e]; rfl)), Bool.false_and]
def cR (g : Nat → Bool) : Nat → Int32
  | 0 => 0
  | i + 1 => cR g i + bI (g i)
section REL
variable {a b c lt ra xs m : ew_M}
/-- rests -/
theorem s_rests (hR : Rel a c lt xs m) (x : Int32) : wX4_rests (fun r xs' => wX5_rests (fun r' m' => r = r' ∧ Rel a c lt xs' m') x m) x a b c lt ra xs := by
  have hw := hR.w
  have hr := hR.r
  by_cases hx : isA a x
  · obtain ⟨k, hk, rfl⟩ := hx
    have mod : wX5_rests (fun r' m' => cR (iR a k) 64 = r' ∧ Rel a c lt xs m') (nI k) m := by
      refine m_isPaper_y hr hw hk ⟨fun _ => ?_, fun z => absurd z z10⟩
      refine ew_for 64 (fun i => (cR (iR a k) i, nI i)) (fun i R hi hRR => ?_) (fun R => ?_)
      · have hRR : R (cR (iR a k) i + bI (iR a k i), nI (i + 1)) := hRR
        rw [← nI_s] at hRR
        refine ⟨fun q => absurd q (nI_ge (a := i) (b := 64) hi (by decide)), fun _ => m_prof hr hw hk hi (fun z => ?_) (fun z => ?_)⟩
        · rw [z] at hRR
          exact hRR
        · rw [z] at hRR
          exact hRR
      · exact ⟨fun _ => ⟨rfl, hR⟩, fun q => absurd (nI_le (a := 64) (b := 64) (by decide) (by decide)) q⟩
    refine p_hasPaper_y hw hk ⟨fun _ => ?_, fun q => absurd q z10⟩
    refine ew_for 64 (fun i => (cR (iR a k) i, nI i)) (fun i R hi hRR => ?_) (fun R => ?_)
    · have hRR : R (cR (iR a k) i + bI (iR a k i), nI (i + 1)) := hRR
      rw [← nI_s] at hRR
      refine ⟨fun q => absurd q (nI_ge (a := i) (b := 64) hi (by decide)), fun _ => p_isRest hw hk hi ⟨fun z => ?_, fun z => ?_⟩⟩
      · rw [z] at hRR
        exact hRR
      · rw [bI_n0 z] at hRR
        exact hRR
    · exact ⟨fun _ => mod, fun q => absurd (nI_le (a := 64) (b := 64) (by decide) (by decide)) q⟩
  · refine p_hasPaper_n hw hx ⟨fun q => absurd rfl q, fun _ => p_refuse (k := 1) (by decide) ?_⟩
    exact m_isPaper_n hr hw hx ⟨fun q => absurd rfl q, fun _ => m_refuse (k := 1) (by decide) (by decide) ⟨by decide, hR.rf (by decide)⟩⟩
/-- rest -/
theorem s_rest (hR : Rel a c lt xs m) (x : Int32) : wX4_rest (fun r xs' => wX5_rest (fun r' m' => r = r' ∧ Rel a c lt xs' m') x m) x a b c lt ra xs := by
  have hw := hR.w
  have hr := hR.r
  by_cases hx : isA a x
  · obtain ⟨k, hk, rfl⟩ := hx
    obtain ⟨J, j1, j2, j3⟩ := first_of (fun i => iR a k i = false) 64
    have mod : wX5_rest (fun r' m' => (if J < 64 then nI J else -9) = r' ∧ Rel a c lt xs m') (nI k) m := by
      refine m_isPaper_y hr hw hk ⟨fun _ => ?_, fun z => absurd z z10⟩
      refine ew_for J (fun i => nI i) (fun i R hi hRR => ?_) (fun R => ?_)
      · have hRR : R (nI (i + 1)) := hRR
        rw [← nI_s] at hRR
        exact ⟨fun q => absurd q (nI_ge (a := i) (b := 64) (by omega) (by decide)), fun _ => m_prof hr hw hk (by omega) (fun _ => hRR) (fun z => by rw [j2 i hi] at z; exact absurd z (by decide))⟩
      · refine ⟨fun q => ?_, fun q => ?_⟩
        · have e : ¬ J < 64 := fun z => absurd q (nI_ge (a := J) (b := 64) z (by decide))
          rw [if_neg e]
          exact ⟨rfl, hR⟩
        · have e : J < 64 := Nat.lt_of_not_le fun z => q (nI_le (a := 64) (b := J) z (by omega))
          rw [if_pos e]
          exact m_prof hr hw hk e (fun z => absurd z (j3 e)) (fun _ => ⟨rfl, hR⟩)
    refine p_hasPaper_y hw hk ⟨fun _ => ?_, fun q => absurd q z10⟩
    refine ew_for J (fun i => nI i) (fun i R hi hRR => ?_) (fun R => ?_)
    · have hRR : R (nI (i + 1)) := hRR
      rw [← nI_s] at hRR
      refine ⟨fun q => absurd q (nI_ge (a := i) (b := 64) (by omega) (by decide)), fun _ => p_isRest hw hk (by omega) ⟨fun _ => hRR, fun z => ?_⟩⟩
      rw [j2 i hi] at z
      exact absurd rfl z
    · refine ⟨fun q => ?_, fun q => ?_⟩
      · have e : ¬ J < 64 := fun z => absurd q (nI_ge (a := J) (b := 64) z (by decide))
        rw [if_neg e] at mod
        exact mod
      · have e : J < 64 := Nat.lt_of_not_le fun z => q (nI_le (a := 64) (b := J) z (by omega))
        rw [if_pos e] at mod
        exact p_isRest hw hk e ⟨fun z => absurd ((bI_0 _).mp z) (j3 e), fun _ => mod⟩
  · refine p_hasPaper_n hw hx ⟨fun q => absurd rfl q, fun _ => p_refuse (k := 1) (by decide) ?_⟩
    exact m_isPaper_n hr hw hx ⟨fun q => absurd rfl q, fun _ => m_refuse (k := 1) (by decide) (by decide) ⟨by decide, hR.rf (by decide)⟩⟩
end REL
