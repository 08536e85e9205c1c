/-! ends, asks, power -/
def enB (t : ew_M) (k : Nat) : Bool := inF t k && !fo (Ln t) (pc (bs t k)) (pc (rs t k) + 1)
def enO (t : ew_M) (k : Nat) : Nat := if enB t k = true then uns t k else 0
theorem enO_lt {t : ew_M} (hw : wf t) {k : Nat} (hk : k < 5) : enO t k < 64 := by
  unfold enO
  split
  · exact uns_lt hw hk
  · decide
theorem p_enders {t s2 s3 s4 : ew_M} (hw : wf t) {k : Nat} (hk : k < 5) {Q : Int32 → Prop} (h : Q (nI (enO t k))) : wX1_endersOf Q (nI k) t s2 s3 s4 := by
  obtain ⟨e3, e4⟩ := hw.r hk
  have l2 := pc_le _ e4
  unfold enO at h
  refine ⟨vp_in_nI hk (by decide), ?_⟩
  rw [cN (by omega), e3]
  refine j_bc e4 (p_isInForce hw hk ⟨fun z => ?_, fun z => ?_⟩)
  · rw [bI_0] at z
    rw [if_neg (show ¬ enB t k = true by rw [enB, z, Bool.false_and]; decide)] at h
    exact ⟨fun _ => h, fun z => absurd rfl z⟩
  · rw [bI_0] at z
    have z := b_nf z
    rw [nI_s]
    refine p_forceWith hw hk (by omega) ⟨fun y => ?_, fun y => ?_⟩
    · rw [bI_0] at y
      rw [if_neg (show ¬ enB t k = true by rw [enB, b_nf y, z]; decide)] at h
      exact ⟨fun _ => h, fun z => absurd rfl z⟩
    · rw [bI_0] at y
      rw [if_pos (show enB t k = true by rw [enB, y, z]; rfl)] at h
      exact ⟨fun z => absurd z z10, fun _ => p_unreadOf hw hk h⟩
theorem m_endsOf {t m : ew_M} (hr : RT t m) (hw : wf t) {k : Nat} (hk : k < 5) {Q : Int32 → Prop} (h : Q (nI (enO t k))) : wX5_endsOf Q (nI k) m := by
  obtain ⟨e3, e4⟩ := hw.r hk
  obtain ⟨eL, hL⟩ := hw.L
  have l2 := pc_le _ e4
  unfold enO at h
  refine m_isForce hr hw hk ⟨fun z => ?_, fun z => ⟨vp_in_nI hk (by decide), ?_⟩⟩
  · rw [bI_0] at z
    rw [if_neg (show ¬ enB t k = true by rw [enB, z, Bool.false_and]; decide)] at h
    exact ⟨fun _ => h, fun z => absurd rfl z⟩
  · rw [bI_0] at z
    have z := b_nf z
    rw [cN (by omega), (hr.2.2.1 k hk).2.1, e3]
    refine m_ones e4 ?_
    rw [hr.1.2.2.1, eL, nI_s]
    refine m_forceBy hr hw hk hL (by omega) ⟨fun y => ?_, fun y => ?_⟩
    · rw [bI_0] at y
      rw [if_neg (show ¬ enB t k = true by rw [enB, b_nf y, z]; decide)] at h
      exact ⟨fun _ => h, fun z => absurd rfl z⟩
    · rw [bI_0] at y
      rw [if_pos (show enB t k = true by rw [enB, y, z]; rfl)] at h
      exact ⟨fun z => absurd z z10, fun _ => m_leftOf hr hw hk h⟩
/-- what the others think, in thousandths -/
def sU (t : ew_M) (p k : Nat) : Nat → Int64
  | 0 => 0
  | i + 1 => sU t p k i + (if i = p then 0 else if (bs t k).testBit i = true then ((1000 : Int64) * tA t i k) / tB t i k else 0)
def pri (s : Int64) (z : Int32) : Int32 := if 0 ≤ lg_cmp s 0 then 0 else ((-s) * z.toInt64).toInt32
theorem tB_nz {t : ew_M} (hw : wf t) {p a : Nat} (ha : a < An t) (hp : p < 6) : ¬ tB t p a = 0 ∧ ¬ lg_cmp (tB t p a) 0 ≤ 0 := by
  have hA := hw.A.2
  have h := tB_p hw (p := p) (a := a) (by omega) ha hp
  refine ⟨fun e => ?_, fun e => ?_⟩
  · rw [e] at h
    exact absurd h (by decide)
  · rw [lg_cmp_le, Int64.le_iff_toInt_le, show (0 : Int64).toInt = 0 from rfl] at e
    omega
theorem p_price {t s2 s3 s4 : ew_M} (hw : wf t) {p k : Nat} (hp : p < 6) (hk : k < An t) {z : Int32} {Q : Int32 → Prop} (h : Q (if (enO t k).testBit p = true then pri (sU t p k (Pn t)) z else 0)) : wX1_priceOf Q (nI p) (nI k) z t s2 s3 s4 := by
  have hA := hw.A.2
  have hk5 : k < 5 := by omega
  obtain ⟨eP, hP⟩ := hw.P
  have hE := enO_lt hw hk5
  refine p_enders hw hk5 ⟨fun q => ?_, fun q => ?_⟩
  · rw [bt_0 hE (by omega)] at q
    rw [if_pos (b_nf q)] at h
    refine ew_for (Pn t) (fun i => (sU t p k i, nI i)) (fun i R hi hR => ?_) (fun R => ?_)
    · have hR : R (sU t p k i + (if i = p then 0 else if (bs t k).testBit i = true then ((1000 : Int64) * tA t i k) / tB t i k else 0), nI (i + 1)) := hR
      rw [← nI_s] at hR
      refine ⟨fun q => ?_, fun _ => ⟨fun q => ?_, fun q => p_isBound hw hk5 (by omega) ⟨fun y => ?_, fun y => ?_⟩⟩⟩
      · have q : t.1 0 ≤ nI i := q
        rw [eP] at q
        exact absurd q (nI_ge hi (by omega))
      · have q : nI i = nI p := q
        rw [nI_eq (by omega) (by omega)] at q
        rw [if_pos q, Int64.add_zero] at hR
        exact hR
      · have q : ¬ nI i = nI p := q
        rw [nI_eq (by omega) (by omega)] at q
        rw [bI_0] at y
        rw [if_neg q, y, if_neg (by decide), Int64.add_zero] at hR
        exact hR
      · have q : ¬ nI i = nI p := q
        rw [nI_eq (by omega) (by omega)] at q
        rw [bI_0] at y
        rw [if_neg q, if_pos (b_nf y)] at hR
        obtain ⟨n1, n2⟩ := tB_nz hw hk (p := i) (by omega)
        exact p_thinkBelow hw hk5 (by omega) ⟨fun z => absurd z n2, fun _ => p_thinkAbove hw hk5 (by omega) ⟨n1, hR⟩⟩
    · refine ⟨fun _ => ⟨fun z => ?_, fun z => ?_⟩, fun q => ?_⟩
      · have z : 0 ≤ lg_cmp (sU t p k (Pn t)) 0 := z
        rw [pri, if_pos z] at h
        exact h
      · have z : ¬ 0 ≤ lg_cmp (sU t p k (Pn t)) 0 := z
        rw [pri, if_neg z] at h
        exact h
      · have q : ¬ t.1 0 ≤ nI (Pn t) := q
        rw [eP] at q
        exact absurd (nI_le (Nat.le_refl _) (by omega)) q
  · rw [bt_0 hE (by omega)] at q
    rw [if_neg (by rw [q]; decide)] at h
    exact h
theorem m_price {t m : ew_M} (hr : RT t m) (hw : wf t) {p k : Nat} (hp : p < 6) (hk : k < An t) {z : Int32} {Q : Int32 → ew_M → Prop} (h : Q (if (enO t k).testBit p = true then pri (sU t p k (Pn t)) z else 0) m) : ew_lp (fun (R : Int64 × Int32 → Prop) (x : Int64 × Int32) => wX5_asks_69 R Q (nI p) (nI k) z x.1 x.2 m) ((0 : Int64), (0 : Int32)) := by
  have hA := hw.A.2
  have hk5 : k < 5 := by omega
  obtain ⟨eP, hP⟩ := hw.P
  have hE := enO_lt hw hk5
  refine ew_for (Pn t) (fun i => (sU t p k i, nI i)) (fun i R hi hR => ?_) (fun R => ?_)
  · have hR : R (sU t p k i + (if i = p then 0 else if (bs t k).testBit i = true then ((1000 : Int64) * tA t i k) / tB t i k else 0), nI (i + 1)) := hR
    rw [← nI_s] at hR
    refine ⟨fun q => ?_, fun _ => ⟨fun q => ?_, fun q => m_isBound hr hw hk5 (by omega) ⟨fun y => ?_, fun y => ?_⟩⟩⟩
    · have q : m.1 0 ≤ nI i := q
      rw [hr.1.1, eP] at q
      exact absurd q (nI_ge hi (by omega))
    · have q : nI i = nI p := q
      rw [nI_eq (by omega) (by omega)] at q
      rw [if_pos q] at hR
      exact hR
    · have q : ¬ nI i = nI p := q
      rw [nI_eq (by omega) (by omega)] at q
      rw [bI_0] at y
      rw [if_neg q, y, if_neg (by decide)] at hR
      exact hR
    · have q : ¬ nI i = nI p := q
      rw [nI_eq (by omega) (by omega)] at q
      rw [bI_0] at y
      rw [if_neg q, if_pos (b_nf y)] at hR
      obtain ⟨n1, n2⟩ := tB_nz hw hk (p := i) (by omega)
      exact m_thinkAbove hr hk5 hk (by omega) (m_thinkBelow hr hk5 hk (by omega) ⟨n1, hR⟩)
  · refine ⟨fun _ => m_endsOf hr hw hk5 ⟨fun q => ?_, fun q => ⟨fun z => ?_, fun z => ?_⟩⟩, fun q => ?_⟩
    · rw [bt_1 hE (by omega)] at q
      rw [if_neg q] at h
      exact h
    · rw [bt_1 hE (by omega)] at q
      have z : 0 ≤ lg_cmp (sU t p k (Pn t)) 0 := z
      rw [if_pos q, pri, if_pos z] at h
      exact h
    · rw [bt_1 hE (by omega)] at q
      have z : ¬ 0 ≤ lg_cmp (sU t p k (Pn t)) 0 := z
      rw [if_pos q, pri, if_neg z] at h
      exact h
    · have q : ¬ m.1 0 ≤ nI (Pn t) := q
      rw [hr.1.1, eP] at q
      exact absurd (nI_le (Nat.le_refl _) (by omega)) q
/-! power -/
theorem pc_pos : ∀ b, b < 64 → 0 < b → 0 < pc b := by decide +kernel
theorem fo_all {l n : Nat} (hl : l ≤ 4) (hn : 0 < n) : fo l n n = decide (l = 4) := by
  rcases (show l = 0 ∨ l = 1 ∨ l = 2 ∨ l = 3 ∨ l = 4 by omega) with rfl | rfl | rfl | rfl | rfl
  · show decide (n < n) = decide (0 = 4)
    rw [decide_eq_false (Nat.lt_irrefl n)]; rfl
  · show decide (n < 1) = decide (1 = 4)
    rw [decide_eq_false (by omega)]; rfl
  · show decide (2 * n ≤ n) = decide (2 = 4)
    rw [decide_eq_false (by omega)]; rfl
  · show decide (n < min n 2) = decide (3 = 4)
    rw [decide_eq_false (by omega)]; rfl
  · rfl
def poN (t : ew_M) (k : Nat) : Bool := inF t k && !decide (Ln t = 4)
def poV (t : ew_M) (k : Nat) (z : Int32) : Int32 := if z = 0 then (if poN t k = true then 1 else 0) else (if poN t k = true then nI (pc (uns t k)) else 1)
theorem lw_0 : (lw 0 1 0).toInt32 = 0 ∧ (lw 0 1 1).toInt32 = 1 := by decide +kernel
theorem lw_1 : ∀ n, n < 7 → 0 < n → (lw 1 (nI n).toInt64 0).toInt32 = 1 ∧ (lw 1 (nI n).toInt64 1).toInt32 = nI n := by decide +kernel
theorem p_power {t s2 ra s4 : ew_M} (hw : wf t) {p k : Nat} (hk : k < An t) (hp : p < 6) (hu : unr t p k = true) {z : Int32} (hz : z = 0 ∨ z = 1) {Q : Int32 → ew_M → Prop} (h : ∀ s, Q (poV t k z) s) : wX1_weighPower (fun m11 => wX2_partOf (fun r12 => Q r12.toInt32 m11) z m11) (nI k) t s2 ra s4 := by
  have hA := hw.A.2
  have hk5 : k < 5 := by omega
  obtain ⟨e1, e2⟩ := hw.b hk5
  have bp := pc_pos _ e2 (hw.2.2.2.1 k hk).2.1
  have b6 := pc_le _ e2
  have ul := uns_lt hw hk5
  have up : 0 < uns t k := Nat.pos_of_ne_zero fun e => by
    have g := uns_tb hw hk5 (p := p) (by omega)
    rw [e, hu, Nat.zero_testBit] at g
    exact absurd g (by decide)
  have u0 := pc_pos _ ul up
  have u6 := pc_le _ ul
  have no : poN t k = false → wX1_weighPower_40 (fun m11 => wX2_partOf (fun r12 => Q r12.toInt32 m11) z m11) (nI k) 0 t s2 ra s4 := fun e => by
    refine ⟨fun _ => ?_, fun y => absurd rfl y⟩
    refine p_low (A := 0) (B := 1) (z := z) (Q := fun r s => Q r.toInt32 s) (by decide) (by decide) fun s => ?_
    have h := h s
    unfold poV at h
    rw [if_neg (show ¬ poN t k = true by rw [e]; decide), if_neg (show ¬ poN t k = true by rw [e]; decide)] at h
    rcases hz with rfl | rfl
    · rw [if_pos rfl] at h
      rw [lw_0.1]; exact h
    · rw [if_neg z10] at h
      rw [lw_0.2]; exact h
  have yes : poN t k = true → wX1_weighPower_40 (fun m11 => wX2_partOf (fun r12 => Q r12.toInt32 m11) z m11) (nI k) 1 t s2 ra s4 := fun e => by
    refine ⟨fun y => absurd y z10, fun _ => p_unreadOf hw hk5 (j_bc ul ?_)⟩
    have B0 : 0 < (nI (pc (uns t k))).toInt64.toInt := by rw [Int32.toInt_toInt64, nI_toInt (by omega)]; omega
    refine p_low (A := 1) (B := (nI (pc (uns t k))).toInt64) (z := z) (Q := fun r s => Q r.toInt32 s) (by decide) B0 fun s => ?_
    have h := h s
    unfold poV at h
    rw [if_pos e, if_pos e] at h
    rcases hz with rfl | rfl
    · rw [if_pos rfl] at h
      rw [(lw_1 _ (by omega) u0).1]; exact h
    · rw [if_neg z10] at h
      rw [(lw_1 _ (by omega) u0).2]; exact h
  refine ⟨vp_in_nI hk5 (by decide), ?_⟩
  rw [cN (by omega), e1]
  refine j_bc e2 (p_isInForce hw hk5 ⟨fun q => ?_, fun q => ?_⟩)
  · rw [bI_0] at q
    exact no (by rw [poN, q]; rfl)
  · rw [bI_0] at q
    have q := b_nf q
    refine p_forceWith hw hk5 (by omega) ⟨fun y => ?_, fun y => ?_⟩
    · rw [bI_0, fo_all hw.L.2 bp] at y
      exact no (by rw [poN, b_nf y]; simp)
    · rw [bI_0, fo_all hw.L.2 bp] at y
      exact yes (by rw [poN, y, q]; rfl)
theorem m_power {t m : ew_M} (hr : RT t m) (hw : wf t) {k : Nat} (hk : k < 5) {z : Int32} {Q : Int32 → ew_M → Prop} (h : Q (poV t k z) m) : (m.1 15 = 4 → wX5_power_79 Q (nI k) z m) ∧ (¬ m.1 15 = 4 → wX5_isForce (fun r17 => (¬ r17 = 0 → wX5_power_84 Q (nI k) z 0 m) ∧ (r17 = 0 → wX5_power_79 Q (nI k) z m)) (nI k) m) := by
  obtain ⟨eL, hL⟩ := hw.L
  unfold poV at h
  have no : poN t k = false → wX5_power_79 Q (nI k) z m := fun e => by
    rw [if_neg (show ¬ poN t k = true by rw [e]; decide), if_neg (show ¬ poN t k = true by rw [e]; decide)] at h
    refine ⟨fun y => ⟨fun w => absurd w z10, fun _ => ?_⟩, fun y => ⟨fun w => absurd w z10, fun _ => ?_⟩⟩
    · rw [if_neg y] at h; exact h
    · rw [if_pos y] at h; exact h
  rw [hr.1.2.2.1, eL]
  refine ⟨fun q => no ?_, fun q => m_isForce hr hw hk ⟨fun y => ?_, fun y => no ?_⟩⟩
  · have q : Ln t = 4 := (nI_eq (a := Ln t) (b := 4) (by omega) (by decide)).mp q
    rw [poN, decide_eq_true q]; simp
  · rw [bI_0] at y
    have e : poN t k = true := by
      rw [poN, b_nf y, decide_eq_false (fun e => q (by rw [e]; rfl))]; rfl
    rw [if_pos e, if_pos e] at h
    refine ⟨fun y => ⟨fun _ => m_leftOf hr hw hk (m_ones (uns_lt hw hk) ?_), fun w => absurd rfl w⟩, fun y => ⟨fun _ => ?_, fun w => absurd rfl w⟩⟩
    · rw [if_neg y] at h; exact h
    · rw [if_pos y] at h; exact h
  · rw [bI_0] at y
    rw [poN, y]; rfl
section REL
variable {a b c lt ra xs m : ew_M}
/-- ends -/
theorem s_ends (hR : Rel a c lt xs m) (x : Int32) : wX4_ends (fun r xs' => wX5_ends (fun r' m' => r = r' ∧ Rel a c lt xs' m') x m) x a b c lt ra xs := by
  have hw := hR.w
  have hr := hR.r
  have hA := hw.A.2
  by_cases hx : isA a x
  · obtain ⟨k, hk, rfl⟩ := hx
    refine p_hasPaper_y hw hk ⟨fun _ => p_enders hw (by omega) ?_, fun q => absurd q z10⟩
    exact m_isPaper_y hr hw hk ⟨fun q => absurd q z10, fun _ => m_endsOf hr hw (by omega) ⟨rfl, hR⟩⟩
  · refine p_hasPaper_n hw hx ⟨fun q => absurd rfl q, fun _ => p_refuse (k := 1) (by decide) ?_⟩
    exact m_isPaper_n hr hw hx ⟨fun _ => m_refuse (k := 1) (by decide) (by decide) ⟨by decide, hR.rf (by decide)⟩, fun q => absurd rfl q⟩
/-- asks -/
theorem s_asks (hR : Rel a c lt xs m) (x y z : Int32) : wX4_asks (fun r xs' => wX5_asks (fun r' m' => r = r' ∧ Rel a c lt xs' m') x y z m) x y z a b c lt ra xs := by
  have hw := hR.w
  have hr := hR.r
  have hA := hw.A.2
  have hP := hw.P.2
  refine p_noPair hw (fun p k hp hk ex ey => ?_) (fun q => ?_)
  · subst ex
    subst ey
    refine ⟨fun _ => p_so (n := 99) (by decide) ⟨fun q => ?_, fun q q2 => ?_, fun n h1 h2 e => ?_⟩, fun q => absurd rfl q⟩
    · exact ⟨fun z => absurd z (by decide), fun _ => p_refuse (k := 4) (by decide) (m_pair_y hR hp hk ⟨fun z => absurd q (Int32.not_lt.mpr z), fun _ => m_refuse (k := 4) (by decide) (by decide) ⟨by decide, hR.rf (by decide)⟩⟩)⟩
    · exact ⟨fun z => absurd z (by decide), fun _ => p_refuse (k := 6) (by decide) (m_pair_y hR hp hk ⟨fun _ => ⟨fun z => absurd q2 (Int32.not_lt.mpr z), fun _ => m_refuse (k := 6) (by decide) (by decide) ⟨by decide, hR.rf (by decide)⟩⟩, fun z => absurd (Int32.not_lt.mp q) z⟩)⟩
    · subst e
      refine ⟨fun _ => p_isBound hw (by omega) (by omega) ⟨fun q => p_price hw (by omega) hk ?_, fun q => p_refuse (k := 3) (by decide) ?_⟩, fun z => absurd rfl z⟩
      · exact m_pair_y hR hp hk ⟨fun _ => ⟨fun _ => m_isBound hr hw (by omega) (by omega) ⟨fun _ => m_price hr hw (by omega) hk ⟨rfl, hR⟩, fun z => absurd z q⟩, fun z => absurd (nI_le (a := n) (b := 99) h2 (by decide)) z⟩, fun z => absurd (nI_le (a := 1) (b := n) h1 (by omega)) z⟩
      · exact m_pair_y hR hp hk ⟨fun _ => ⟨fun _ => m_isBound hr hw (by omega) (by omega) ⟨fun z => absurd q z, fun _ => m_refuse (k := 3) (by decide) (by decide) ⟨by decide, hR.rf (by decide)⟩⟩, fun z => absurd (nI_le (a := n) (b := 99) h2 (by decide)) z⟩, fun z => absurd (nI_le (a := 1) (b := n) h1 (by omega)) z⟩
  · refine ⟨fun z => absurd z z10, fun _ => p_refuse (k := 1) (by decide) ?_⟩
    exact m_pair_n hR q (m_refuse (k := 1) (by decide) (by decide) ⟨by decide, hR.rf (by decide)⟩)
/-- power -/
theorem s_power (hR : Rel a c lt xs m) (x y z : Int32) : wX4_power (fun r _ xs' => wX5_power (fun r' m' => r = r' ∧ Rel a c lt xs' m') x y z m) x y z a b c lt ra xs := by
  have hw := hR.w
  have hr := hR.r
  have hA := hw.A.2
  have hP := hw.P.2
  refine p_noPair hw (fun p k hp hk ex ey => ?_) (fun q => ?_)
  · subst ex
    subst ey
    refine ⟨fun _ => noPart (fun hz => ?_) (fun q => ?_), fun q => absurd rfl q⟩
    · refine ⟨fun _ => p_isUnread hw (by omega) (by omega) ⟨fun q => ?_, fun q => p_refuse (k := 3) (by decide) ?_⟩, fun q => absurd rfl q⟩
      · rw [bI_0] at q
        have q := b_nf q
        refine p_power (Q := fun r _ => wX5_power (fun r' m' => r = r' ∧ Rel a c lt xs m') (nI p) (nI k) z m) hw hk (by omega) q hz fun s => ?_
        refine m_pair_y hR hp hk (m_in ?_)
        rw [if_neg (in01 hz)]
        have q2 := q
        rw [unr, Bool.and_eq_true, Bool.not_eq_true'] at q2
        refine ⟨fun _ => m_isBound hr hw (by omega) (by omega) ⟨fun y => ?_, fun y => m_hasRead hr hw (by omega) (by omega) ⟨fun y2 => m_power hr hw (by omega) ⟨rfl, hR⟩, fun y2 => ?_⟩⟩, fun y => absurd y z10⟩
        · rw [bI_0, q2.1] at y
          exact absurd y (by decide)
        · rw [bI_0, q2.2] at y2
          exact absurd rfl y2
      · rw [bI_0] at q
        refine m_pair_y hR hp hk (m_in ?_)
        rw [if_neg (in01 hz)]
        have no : wX5_power_56 (fun r' m' => -nI 3 = r' ∧ Rel a c lt (rfX xs 3) m') m := m_refuse (k := 3) (by decide) (by decide) ⟨by decide, hR.rf (by decide)⟩
        refine ⟨fun _ => m_isBound hr hw (by omega) (by omega) ⟨fun y => no, fun y => m_hasRead hr hw (by omega) (by omega) ⟨fun y2 => ?_, fun y2 => no⟩⟩, fun y => absurd y z10⟩
        rw [bI_0] at y y2
        rw [unr, b_nf y, y2] at q
        exact absurd q (by decide)
    · refine ⟨fun q2 => absurd q2 z10, fun _ => p_refuse (k := 2) (by decide) ?_⟩
      refine m_pair_y hR hp hk (m_in ?_)
      rw [if_pos q]
      exact ⟨fun q2 => absurd rfl q2, fun _ => m_refuse (k := 2) (by decide) (by decide) ⟨by decide, hR.rf (by decide)⟩⟩
  · refine ⟨fun q2 => absurd q2 z10, fun _ => p_refuse (k := 1) (by decide) ?_⟩
    exact m_pair_n hR q (m_refuse (k := 1) (by decide) (by decide) ⟨by decide, hR.rf (by decide)⟩)
end REL
