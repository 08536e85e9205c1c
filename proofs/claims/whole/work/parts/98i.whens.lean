/-! when and mean: both -/
section REL
variable {a b c lt ra xs m : ew_M}
theorem p_whyWhen {s2 s3 s4 s5 s6 : ew_M} {t : ew_M} (hw : wf t) {p k : Nat} (hk : k < 5) (hp : p < 10) {x : Int32} {Q : Int32 → Prop} (h4 : x < 1 → Q 4) (h6 : ¬ x < 1 → nI 20 < x → Q 6) (h3 : ∀ n, 1 ≤ n → n ≤ 20 → x = nI n → unr t p k = false → Q 3) (h0 : ∀ n, 1 ≤ n → n ≤ 20 → x = nI n → unr t p k = true → Q 0) : wX4_whyNotWhen Q (nI p) (nI k) x t s2 s3 s4 s5 s6 := by
  refine p_so (n := 20) (by decide) ⟨fun q => ⟨fun _ => h4 q, fun z => absurd z (by decide)⟩, fun q q2 => ⟨fun _ => h6 q q2, fun z => absurd z (by decide)⟩, fun n h1 h2 e => ⟨fun z => absurd rfl z, fun _ => p_isUnread hw hk hp ⟨fun z => ?_, fun z => ?_⟩⟩⟩
  · exact h0 n h1 h2 e (b_nf (fun y => z ((bI_0 _).mpr y)))
  · exact h3 n h1 h2 e ((bI_0 _).mp z)
theorem m_when4 {x : Int32} (q : x < 1) {y z : Int32} {Q : Int32 → Prop} (h : Q (-4)) : wX5_whenWrong Q x y z m := ⟨fun z => absurd q (Int32.not_lt.mpr z), fun _ => h⟩
theorem m_when6 {x : Int32} (q : ¬ x < 1) (q2 : nI 20 < x) {y z : Int32} {Q : Int32 → Prop} (h : Q (-6)) : wX5_whenWrong Q x y z m := ⟨fun _ => ⟨fun z => absurd q2 (Int32.not_lt.mpr z), fun _ => h⟩, fun z => absurd (Int32.not_lt.mp q) z⟩
theorem m_whenN {t m : ew_M} (hr : RT t m) (hw : wf t) {n p k : Nat} (h1 : 1 ≤ n) (h2 : n ≤ 20) (hk : k < 5) (hp : p < 10) {Q : Int32 → Prop} (hy : unr t p k = true → Q 0) (hn : unr t p k = false → Q (-3)) : wX5_whenWrong Q (nI n) (nI p) (nI k) m := by
  refine ⟨fun _ => ⟨fun _ => m_isBound hr hw hk hp ⟨fun z => hn ?_, fun z => m_hasRead hr hw hk hp ⟨fun z2 => hy ?_, fun z2 => hn ?_⟩⟩, fun z => absurd (nI_le (a := n) (b := 20) h2 (by decide)) z⟩, fun z => absurd (nI_le (a := 1) (b := n) h1 (by omega)) z⟩
  · rw [bI_0] at z
    rw [unr, z]; rfl
  · rw [bI_0] at z z2
    rw [unr, b_nf z, z2]; rfl
  · rw [bI_0] at z z2
    rw [unr, b_nf z, b_nf z2]; rfl
/-- when -/
theorem s_when (hR : Rel a c lt xs m) (x y z : Int32) : wX4_when (fun r _ xs' => wX5_when (fun r' m' => r = r' ∧ Rel a c lt xs' m') x y z m) x y z a b c lt ra xs := by
  have hw := hR.w
  have hr := hR.r
  have hA := hw.A.2
  have hP := hw.P.2
  refine p_noPair hw (fun p k hp hk ex ey => ?_) (fun q => ?_)
  · subst ex
    subst ey
    have mp : ∀ {P : Int32 → ew_M → Prop}, wX5_whenWrong (fun r7 => (r7 = 0 → wX5_findsWhen (fun m11 => P (m11.1 37) m11) (nI p) (nI k) z m) ∧ (¬ r7 = 0 → wX5_refuse (fun r12 m13 => P r12 m13) r7 m)) z (nI p) (nI k) m → wX5_when P (nI p) (nI k) z m := fun g => m_pair_y hR hp hk g
    refine ⟨fun _ => p_whyWhen hw (by omega) (by omega) (fun q => ?_) (fun q q2 => ?_) (fun n h1 h2 e u => ?_) (fun n h1 h2 e u => ?_), fun q => absurd rfl q⟩
    · exact ⟨fun z => absurd z (by decide), fun _ => p_refuse (k := 4) (by decide) (mp (m_when4 q ⟨fun z => absurd z (by decide), fun _ => m_refuse (k := 4) (by decide) (by decide) ⟨by decide, hR.rf (by decide)⟩⟩))⟩
    · exact ⟨fun z => absurd z (by decide), fun _ => p_refuse (k := 6) (by decide) (mp (m_when6 q q2 ⟨fun z => absurd z (by decide), fun _ => m_refuse (k := 6) (by decide) (by decide) ⟨by decide, hR.rf (by decide)⟩⟩))⟩
    · subst e
      exact ⟨fun z => absurd z (by decide), fun _ => p_refuse (k := 3) (by decide) (mp (m_whenN hr hw h1 h2 (by omega) (by omega) (fun z => by rw [u] at z; exact absurd z (by decide)) fun _ => ⟨fun z => absurd z (by decide), fun _ => m_refuse (k := 3) (by decide) (by decide) ⟨by decide, hR.rf (by decide)⟩⟩))⟩
    · subst e
      exact ⟨fun _ => p_best hw (by omega) hk h2 fun s => mp (m_whenN hr hw h1 h2 (by omega) (by omega) (fun _ => ⟨fun _ => m_finds hr hw hR.1.2.2 hp hk h2 fun q c1 c2 c3 c4 => ⟨c3.symm, hR.up hw c1 c2⟩, fun z => absurd rfl z⟩) fun z => by rw [u] at z; exact absurd z (by decide)), fun z => absurd rfl z⟩
  · refine ⟨fun z => absurd z z10, fun _ => p_refuse (k := 1) (by decide) ?_⟩
    exact m_pair_n hR q (m_refuse (k := 1) (by decide) (by decide) ⟨by decide, hR.rf (by decide)⟩)
theorem mul_b {j : Nat} {T : Int} (hj : j ≤ 100) (t1 : -12000000000 ≤ T) (t2 : T ≤ 12000000000) : -1200000000000 ≤ (j : Int) * T ∧ (j : Int) * T ≤ 1200000000000 := by
  have h1 : ((j : Int) * T).natAbs = j * T.natAbs := by rw [Int.natAbs_mul, Int.natAbs_natCast]
  have h2 : j * T.natAbs ≤ 100 * 12000000000 := Nat.mul_le_mul hj (by omega)
  omega
/-- mean -/
theorem s_mean (hR : Rel a c lt xs m) (x y z v : Int32) : wX4_mean (fun r _ _ xs' => wX5_mean (fun r' m' => r = r' ∧ Rel a c lt xs' m') x y z v m) x y z v a b c lt ra xs := by
  have hw := hR.w
  have hr := hR.r
  have hA := hw.A.2
  have hP := hw.P.2
  have rr : ∀ {P : Int64 → ew_M → Prop} {k : Nat} {x : Int32}, k < 7 → -x = nI k → P ((4000000000000000000 : Int64) - x.toInt64) (rfM m k) → wX5_refuseLong P x m := fun {P k x} h1 h2 h => by
    show wX5_refuse (fun r1 m2 => P ((4000000000000000000 : Int64) - r1.toInt64) m2) x m
    exact m_refuse h1 h2 h
  refine p_noPair hw (fun p k hp hk ex ey => ?_) (fun q => ?_)
  · subst ex
    subst ey
    refine ⟨fun _ => noPart (fun hv => ?_) (fun q => ?_), fun q => absurd rfl q⟩
    · have mp : ∀ {P : Int64 → ew_M → Prop}, wX5_whenWrong (fun r10 => (r10 = 0 → wX5_findsWhen (fun m14 => wX5_thinkAbove (fun r15 => wX5_thinkBelow (fun r17 => wX5_lowest (fun r19 => P r19 m14) (r15 * ((m14.1 38).toInt64)) r17 v) (nI p) (nI k) m14) (nI p) (nI k) m14) (nI p) (nI k) z m) ∧ (¬ r10 = 0 → wX5_refuseLong (fun r21 m22 => P r21 m22) r10 m)) z (nI p) (nI k) m → wX5_mean P (nI p) (nI k) z v m := fun g => m_pair_y hR hp hk (m_in (by
        rw [if_neg (in01 hv)]
        exact ⟨fun _ => g, fun q => absurd q z10⟩))
      refine ⟨fun _ => p_whyWhen hw (by omega) (by omega) (fun q => ?_) (fun q q2 => ?_) (fun n h1 h2 e u => ?_) (fun n h1 h2 e u => ?_), fun q => absurd rfl q⟩
      · exact ⟨fun z => absurd z (by decide), fun _ => p_refuseFarthest (k := 4) (by decide) (mp (m_when4 q ⟨fun z => absurd z (by decide), fun _ => rr (k := 4) (by decide) (by decide) ⟨by decide, hR.rf (by decide)⟩⟩))⟩
      · exact ⟨fun z => absurd z (by decide), fun _ => p_refuseFarthest (k := 6) (by decide) (mp (m_when6 q q2 ⟨fun z => absurd z (by decide), fun _ => rr (k := 6) (by decide) (by decide) ⟨by decide, hR.rf (by decide)⟩⟩))⟩
      · subst e
        exact ⟨fun z => absurd z (by decide), fun _ => p_refuseFarthest (k := 3) (by decide) (mp (m_whenN hr hw h1 h2 (by omega) (by omega) (fun z => by rw [u] at z; exact absurd z (by decide)) fun _ => ⟨fun z => absurd z (by decide), fun _ => rr (k := 3) (by decide) (by decide) ⟨by decide, hR.rf (by decide)⟩⟩))⟩
      · subst e
        have A1 := tAU_b hw (p := p) (a := k) (by omega) (by omega) 3 (by omega)
        have B0 := tB_p hw (p := p) (a := k) (by omega) hk (by omega)
        have bl := bq_le (tA a p k) (fun d => rsm a p k d n) n
        obtain ⟨j, j1, j2⟩ := rsm_n a p k (bq (tA a p k) (fun d => rsm a p k d n) n) n
        have A2 : (tA a p k).toInt = (tAU a p k 3).toInt := rfl
        have A3 : (nI j).toInt64.toInt = j := by rw [Int32.toInt_toInt64, nI_toInt (by omega)]
        obtain ⟨A4, A5⟩ := mul_b (j := j) (T := (tA a p k).toInt) (by omega) (by omega) (by omega)
        have A0 : -9223372036854775808 < ((nI j).toInt64 * tA a p k).toInt := by
          rw [Int64.toInt_mul, A3, L_bm (by omega) (by omega)]
          omega
        refine ⟨fun _ => p_best hw (by omega) hk h2 fun s => p_lastsIf hw (by omega) hk (by omega) (by omega) fun s => p_thinkAbove hw (by omega) (by omega) (p_thinkBelow hw (by omega) (by omega) ?_), fun z => absurd rfl z⟩
        rw [j2]
        refine p_low A0 B0 fun s => mp (m_whenN hr hw h1 h2 (by omega) (by omega) (fun _ => ⟨fun _ => m_finds hr hw hR.1.2.2 hp hk h2 fun q c1 c2 c3 c4 => m_thinkAbove c1 (by omega) hk (by omega) (m_thinkBelow c1 (by omega) hk (by omega) ?_), fun z => absurd rfl z⟩) fun z => by rw [u] at z; exact absurd z (by decide))
        rw [c4, j2, Int64.mul_comm (tA a p k)]
        exact m_low hv A0 B0 ⟨rfl, hR.up hw c1 c2⟩
    · refine ⟨fun q2 => absurd q2 z10, fun _ => p_refuseFarthest (k := 2) (by decide) ?_⟩
      refine m_pair_y hR hp hk (m_in ?_)
      rw [if_pos q]
      exact ⟨fun q2 => absurd rfl q2, fun _ => rr (k := 2) (by decide) (by decide) ⟨by decide, hR.rf (by decide)⟩⟩
  · refine ⟨fun q2 => absurd q2 z10, fun _ => p_refuseFarthest (k := 1) (by decide) ?_⟩
    exact m_pair_n hR q (rr (k := 1) (by decide) (by decide) ⟨by decide, hR.rf (by decide)⟩)
end REL
