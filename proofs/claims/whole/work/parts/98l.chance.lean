/-! chance -/
def pw (b : Int64) : Nat → Int64
  | 0 => 1
  | i + 1 => pw b i * b
theorem p_pow {b : Int64} {n : Nat} (hn : n < 1000) {Q : Int64 → Prop} (h : Q (pw b n)) : wX1_powerOf Q b (nI n) := by
  refine ew_for n (fun i => (pw b i, nI i)) (fun i R hi hR => ?_) (fun R => ?_)
  · have hR : R (pw b i * b, nI (i + 1)) := hR
    rw [← nI_s] at hR
    exact ⟨fun q => absurd q (nI_ge hi (by omega)), fun _ => hR⟩
  · exact ⟨fun _ => h, fun q => absurd (nI_le (Nat.le_refl n) (by omega)) q⟩
theorem m_pow {b : Int64} {n : Nat} (hn : n < 1000) {Q : Int64 → Prop} (h : Q (pw b n)) : wX5_power0 Q b (nI n) := by
  refine ew_for n (fun i => (pw b i, nI i)) (fun i R hi hR => ?_) (fun R => ?_)
  · have hR : R (pw b i * b, nI (i + 1)) := hR
    rw [← nI_s] at hR
    exact ⟨fun q => absurd q (nI_ge hi (by omega)), fun _ => hR⟩
  · exact ⟨fun _ => h, fun q => absurd (nI_le (Nat.le_refl n) (by omega)) q⟩
theorem c_100 : ∀ h, h < 101 → ((100 : Int32) - nI h).toInt64 = (100 : Int64) - (nI h).toInt64 ∧ ((100 : Int64) - (nI h).toInt64).toInt = ((100 - h : Nat) : Int) := by decide +kernel
theorem pw_pw : ∀ n, n < 9 → ∀ u, u < 7 → n * u ≤ 8 → pw (pw 100 n) u = pw 100 (n * u) ∧ 0 < (pw 100 (n * u)).toInt := by decide +kernel
def cw (u : Nat) : Nat → Int64
  | 0 => 1
  | j + 1 => (cw u j * (nI u - nI j).toInt64) / (nI j + 1).toInt64
theorem cw_b : ∀ u, u < 7 → ∀ j, j < 8 → j ≤ u → 0 ≤ (cw u j).toInt ∧ (cw u j).toInt ≤ 20 := by decide +kernel
theorem cw_n : ∀ j, j < 8 → ¬ (nI j + 1).toInt64 = 0 := by decide +kernel
def cno (h n : Nat) : Int64 := pw ((100 : Int64) - (nI h).toInt64) n
def cha (h n : Nat) : Int64 := pw 100 n - cno h n
def cs (t : ew_M) (k u : Nat) (A B : Int64) : Nat → Int64
  | 0 => 0
  | j + 1 => cs t k u A B j + (if fo (Ln t) (pc (bs t k)) (pc (rs t k) + j) = true then (cw u j * pw A j) * pw B (u - j) else 0)
theorem pw_i {b : Int64} {x N k : Nat} (hb : b.toInt = (x : Int)) (hx : x ≤ N) (hN : 1 ≤ N) (hk : N ^ k ≤ 10000000000000000) : ∀ i, i ≤ k → (pw b i).toInt = ((x ^ i : Nat) : Int)
  | 0, _ => by
    rw [Nat.pow_zero]; rfl
  | i + 1, h => by
    have le : x ^ (i + 1) ≤ 10000000000000000 := Nat.le_trans (Nat.pow_le_pow_left hx (i + 1)) (Nat.le_trans (Nat.pow_le_pow_right hN h) hk)
    have e : ((x ^ i : Nat) : Int) * (x : Int) = ((x ^ (i + 1) : Nat) : Int) := by rw [← Int.natCast_mul, ← Nat.pow_succ]
    show (pw b i * b).toInt = _
    rw [Int64.toInt_mul, pw_i hb hx hN hk i (by omega), hb, e, L_bm (by omega) (by omega)]
theorem pow8 {n : Nat} (h : n ≤ 8) : 100 ^ n ≤ 10000000000000000 := Nat.le_trans (Nat.pow_le_pow_right (by decide) h) (by decide)
theorem term_b {h n u j : Nat} (hh : h ≤ 100) (hn : n ≤ 8) (hu : u < 7) (hnu : n * u ≤ 8) (hj : j ≤ u) : 0 ≤ ((cw u j * pw (cha h n) j) * pw (cno h n) (u - j)).toInt ∧ ((cw u j * pw (cha h n) j) * pw (cno h n) (u - j)).toInt ≤ 200000000000000000 := by
  have c1 := (c_100 h (by omega)).2
  have p8 := pow8 hn
  have e1 : (cno h n).toInt = (((100 - h) ^ n : Nat) : Int) := pw_i c1 (N := 100) (by omega) (by decide) p8 n (Nat.le_refl n)
  have e2 : (pw 100 n).toInt = ((100 ^ n : Nat) : Int) := pw_i (x := 100) (N := 100) rfl (by decide) (by decide) p8 n (Nat.le_refl n)
  have l1 : (100 - h) ^ n ≤ 100 ^ n := Nat.pow_le_pow_left (by omega) n
  have n1 : 1 ≤ 100 ^ n := Nat.one_le_pow _ _ (by decide)
  have e3 : (cha h n).toInt = ((100 ^ n - (100 - h) ^ n : Nat) : Int) := by
    unfold cha
    rw [Int64.toInt_sub, e1, e2, L_bm (by omega) (by omega)]
    omega
  have k8 : (100 ^ n) ^ u ≤ 10000000000000000 := by
    rw [← Nat.pow_mul]
    exact pow8 hnu
  have e4 := pw_i e3 (N := 100 ^ n) (by omega) n1 k8 j hj
  have e5 := pw_i e1 (N := 100 ^ n) l1 n1 k8 (u - j) (by omega)
  obtain ⟨w1, w2⟩ := cw_b u hu j (by omega) hj
  obtain ⟨c, hc⟩ := Int.eq_ofNat_of_zero_le w1
  have c20 : c ≤ 20 := by omega
  have hm : (100 ^ n - (100 - h) ^ n) ^ j * ((100 - h) ^ n) ^ (u - j) ≤ 10000000000000000 := by
    refine Nat.le_trans (Nat.mul_le_mul (Nat.pow_le_pow_left (Nat.sub_le _ _) j) (Nat.pow_le_pow_left l1 (u - j))) ?_
    rw [← Nat.pow_add, show j + (u - j) = u by omega]
    exact k8
  have hj1 : (100 ^ n - (100 - h) ^ n) ^ j ≤ 10000000000000000 := Nat.le_trans (Nat.pow_le_pow_left (Nat.sub_le _ _) j) (Nat.le_trans (Nat.pow_le_pow_right n1 hj) k8)
  generalize (100 ^ n - (100 - h) ^ n) ^ j = H at e4 hm hj1
  generalize ((100 - h) ^ n) ^ (u - j) = X at e5 hm
  have b1 : c * H ≤ 20 * 10000000000000000 := Nat.mul_le_mul c20 hj1
  have b2 : c * (H * X) ≤ 20 * 10000000000000000 := Nat.mul_le_mul c20 hm
  have e6 : (cw u j * pw (cha h n) j).toInt = ((c * H : Nat) : Int) := by
    rw [Int64.toInt_mul, hc, e4, ← Int.natCast_mul, L_bm (by omega) (by omega)]
  have e7 : ((cw u j * pw (cha h n) j) * pw (cno h n) (u - j)).toInt = ((c * (H * X) : Nat) : Int) := by
    rw [Int64.toInt_mul, e6, e5, ← Int.natCast_mul, Nat.mul_assoc, L_bm (by omega) (by omega)]
  rw [e7]
  omega
theorem cs_b {t : ew_M} {k h n u : Nat} (hh : h ≤ 100) (hn : n ≤ 8) (hu : u < 7) (hnu : n * u ≤ 8) : ∀ j : Nat, j ≤ u + 1 → 0 ≤ (cs t k u (cha h n) (cno h n) j).toInt ∧ (cs t k u (cha h n) (cno h n) j).toInt ≤ (j : Int) * 200000000000000000
  | 0, _ => by
    show 0 ≤ (0 : Int64).toInt ∧ (0 : Int64).toInt ≤ _
    decide
  | j + 1, hj => by
    obtain ⟨h1, h2⟩ := cs_b hh hn hu hnu (t := t) (k := k) j (by omega)
    obtain ⟨g1, g2⟩ := term_b hh hn hu hnu (j := j) (by omega)
    show 0 ≤ (cs t k u (cha h n) (cno h n) j + (if fo (Ln t) (pc (bs t k)) (pc (rs t k) + j) = true then (cw u j * pw (cha h n) j) * pw (cno h n) (u - j) else 0)).toInt ∧ (cs t k u (cha h n) (cno h n) j + (if fo (Ln t) (pc (bs t k)) (pc (rs t k) + j) = true then (cw u j * pw (cha h n) j) * pw (cno h n) (u - j) else 0)).toInt ≤ _
    split
    · rw [Int64.toInt_add, L_bm (by omega) (by omega)]
      omega
    · rw [Int64.add_zero]
      omega
theorem p_chance {t s2 ra s4 : ew_M} (hw : wf t) {k h n : Nat} (hk : k < 5) (hh : h ≤ 100) (hn : n ≤ 8) (hnu : n * pc (uns t k) ≤ 8) {z : Int32} {Q : Int64 → ew_M → Prop} (hq : ∀ s, Q (lw (cs t k (pc (uns t k)) (cha h n) (cno h n) (pc (uns t k) + 1)) (pw 100 (n * pc (uns t k))) z) s) : wX1_weighChance (fun m17 => wX2_partOf (fun r18 => Q r18 m17) z m17) (nI k) (nI h) (nI n) t s2 ra s4 := by
  obtain ⟨e3, e4⟩ := hw.r hk
  have hu := uns_lt hw hk
  have u6 := pc_le _ hu
  have r6 := pc_le _ e4
  refine ⟨vp_in_nI hk (by decide), ?_⟩
  rw [cN (by omega), e3]
  refine j_bc e4 (p_unreadOf hw hk (j_bc hu (p_pow (by omega) (p_pow (by omega) ?_))))
  rw [(c_100 h (by omega)).1]
  obtain ⟨q1, q2⟩ := pw_pw n (by omega) (pc (uns t k)) (by omega) hnu
  generalize hU : pc (uns t k) = u at hq hnu u6 q1 q2 ⊢
  refine ew_for (u + 1) (fun j => (cs t k u (cha h n) (cno h n) j, cw u j, nI j)) (fun j R hj hR => ?_) (fun R => ?_)
  · have hR : R (cs t k u (cha h n) (cno h n) (j + 1), cw u (j + 1), nI (j + 1)) := hR
    rw [← nI_s] at hR
    have hR : R (cs t k u (cha h n) (cno h n) j + (if fo (Ln t) (pc (bs t k)) (pc (rs t k) + j) = true then (cw u j * pw (cha h n) j) * pw (cno h n) (u - j) else 0), cw u (j + 1), nI j + 1) := hR
    refine ⟨fun q => absurd ((nI_ltI (a := u) (b := j) (by omega) (by omega)).mp q) (by omega), fun _ => ?_⟩
    show wX3_isInForceWith _ (nI k) (nI (pc (rs t k)) + nI j) t
    rw [nI_add]
    refine p_forceWith hw hk (by omega) ⟨fun y => ?_, fun y => ?_⟩
    · rw [bI_0] at y
      rw [if_neg (by rw [y]; decide), Int64.add_zero] at hR
      exact ⟨cw_n j (by omega), hR⟩
    · rw [bI_0] at y
      rw [if_pos (b_nf y)] at hR
      refine p_pow (by omega) ?_
      show wX1_powerOf _ (cno h n) (nI u - nI j)
      rw [pk_sub (by omega)]
      exact p_pow (by omega) ⟨cw_n j (by omega), hR⟩
  · refine ⟨fun _ => p_pow (by omega) ?_, fun q => absurd ((nI_ltI (a := u) (b := u + 1) (by omega) (by omega)).mpr (by omega)) q⟩
    show wX2_become (fun m5 => wX2_partOf (fun r18 => Q r18 m5) z m5) (cs t k u (cha h n) (cno h n) (u + 1)) (pw (pw 100 n) u) ra
    rw [q1]
    obtain ⟨b1, b2⟩ := cs_b hh hn (by omega) hnu (t := t) (k := k) (u := u) (u + 1) (Nat.le_refl _)
    exact p_low (by omega) q2 hq
theorem m_chance {t m : ew_M} (hr : RT t m) (hw : wf t) {k h n : Nat} (hk : k < 5) (hh : h ≤ 100) (hn : n ≤ 8) (hnu : n * pc (uns t k) ≤ 8) {z : Int32} (hz : z = 0 ∨ z = 1) {Q : Int64 → ew_M → Prop} (hq : Q (lw (cs t k (pc (uns t k)) (cha h n) (cno h n) (pc (uns t k) + 1)) (pw 100 (n * pc (uns t k))) z) m) : wX5_power0 (fun r16 => wX5_power0 (fun r18 => ew_lp (fun (R : Int64 × Int64 × Int32 → Prop) (x : Int64 × Int64 × Int32) => wX5_chance_117 R Q (nI k) (nI n) z (nI (pc (uns t k))) r16 (r18 - r16) x.1 x.2.1 x.2.2 m) ((0 : Int64), (1 : Int64), (0 : Int32))) (100 : Int64) (nI n)) ((100 : Int64) - (nI h).toInt64) (nI n) := by
  obtain ⟨e3, e4⟩ := hw.r hk
  obtain ⟨eL, hL⟩ := hw.L
  have hu := uns_lt hw hk
  have u6 := pc_le _ hu
  have r6 := pc_le _ e4
  refine m_pow (by omega) (m_pow (by omega) ?_)
  obtain ⟨q1, q2⟩ := pw_pw n (by omega) (pc (uns t k)) (by omega) hnu
  generalize hU : pc (uns t k) = u at hq hnu u6 q1 q2 ⊢
  refine ew_for (u + 1) (fun j => (cs t k u (cha h n) (cno h n) j, cw u j, nI j)) (fun j R hj hR => ?_) (fun R => ?_)
  · have hR : R (cs t k u (cha h n) (cno h n) (j + 1), cw u (j + 1), nI (j + 1)) := hR
    rw [← nI_s] at hR
    have hR : R (cs t k u (cha h n) (cno h n) j + (if fo (Ln t) (pc (bs t k)) (pc (rs t k) + j) = true then (cw u j * pw (cha h n) j) * pw (cno h n) (u - j) else 0), cw u (j + 1), nI j + 1) := hR
    refine ⟨fun q => absurd ((nI_ltI (a := u) (b := j) (by omega) (by omega)).mp q) (by omega), fun _ => ⟨vp_in_nI hk (by decide), ?_⟩⟩
    rw [cN (by omega), (hr.2.2.1 k hk).2.1, e3]
    refine m_ones e4 ?_
    rw [hr.1.2.2.1, eL]
    show wX5_forceBy _ (nI k) (nI (Ln t)) (nI (pc (rs t k)) + nI j) m
    rw [nI_add]
    refine m_forceBy hr hw hk hL (by omega) ⟨fun y => ?_, fun y => ?_⟩
    · rw [bI_0] at y
      rw [if_neg (by rw [y]; decide)] at hR
      exact ⟨cw_n j (by omega), hR⟩
    · rw [bI_0] at y
      rw [if_pos (b_nf y)] at hR
      refine m_pow (by omega) ?_
      show wX5_power0 _ (cno h n) (nI u - nI j)
      rw [pk_sub (by omega)]
      exact m_pow (by omega) ⟨cw_n j (by omega), hR⟩
  · refine ⟨fun _ => ?_, fun q => absurd ((nI_ltI (a := u) (b := u + 1) (by omega) (by omega)).mpr (by omega)) q⟩
    show wX5_power0 (fun r2 => wX5_lowest (fun r4 => Q r4 m) (cs t k u (cha h n) (cno h n) (u + 1)) r2 z) (100 : Int64) (nI n * nI u)
    rw [pk_mul]
    obtain ⟨b1, b2⟩ := cs_b hh hn (by omega) hnu (t := t) (k := k) (u := u) (u + 1) (Nat.le_refl _)
    exact m_pow (by omega) (m_low hz (by omega) q2 hq)
section REL
variable {a b c lt ra xs m : ew_M}
/-- chance -/
theorem s_chance (hR : Rel a c lt xs m) (x y z v : Int32) : wX4_chance (fun r _ xs' => wX5_chance (fun r' m' => r = r' ∧ Rel a c lt xs' m') x y z v m) x y z v a b c lt ra xs := by
  have hw := hR.w
  have hr := hR.r
  have hA := hw.A.2
  have rr : ∀ {P : Int64 → ew_M → Prop} {k : Nat} {x : Int32}, k < 7 → -x = nI k → P ((4000000000000000000 : Int64) - x.toInt64) (rfM m k) → wX5_refuseLong P x m := fun {P k x} h1 h2 h => by
    show wX5_refuse (fun r1 m2 => P ((4000000000000000000 : Int64) - r1.toInt64) m2) x m
    exact m_refuse h1 h2 h
  by_cases hx : isA a x
  · obtain ⟨k, hk, rfl⟩ := hx
    have hk5 : k < 5 := by omega
    have hu := uns_lt hw hk5
    have u6 := pc_le _ hu
    refine p_hasPaper_y hw hk ⟨fun _ => noPart (fun hv => ?_) (fun q => ?_), fun q => absurd q z10⟩
    · have lf : ∀ {P : Int32 → Prop}, P (nI (pc (uns a k))) → wX5_leftOf (fun r9 => wX5_ones (fun r11 => P r11) r9) (nI k) m := fun h => m_leftOf hr hw hk5 (m_ones hu h)
      have no6 : wX5_chance_77 (fun r' m' => (4000000000000000000 : Int64) + (nI 6).toInt64 = r' ∧ Rel a c lt (rfX xs 6) m') m := rr (k := 6) (by decide) (by decide) ⟨by decide, hR.rf (by decide)⟩
      have no4 : wX5_chance_39 (fun r' m' => (4000000000000000000 : Int64) + (nI 4).toInt64 = r' ∧ Rel a c lt (rfX xs 4) m') m := rr (k := 4) (by decide) (by decide) ⟨by decide, hR.rf (by decide)⟩
      have n01 := in01 hv
      refine ⟨fun _ => ⟨fun y0 => p_refuseFarthest (k := 4) (by decide) ?_, fun y0 => ⟨fun z0 => ⟨fun y1 => p_refuseFarthest (k := 6) (by decide) ?_, fun y1 => ⟨fun z1 => p_refuseFarthest (k := 6) (by decide) ?_, fun z1 => p_unreadOf hw hk5 (j_bc hu ⟨fun g => ?_, fun g => p_refuseFarthest (k := 6) (by decide) ?_⟩)⟩⟩, fun z0 => p_refuseFarthest (k := 4) (by decide) ?_⟩⟩, fun q => absurd rfl q⟩
      · refine m_isPaper_y hr hw hk ⟨fun _ => m_in ?_, fun q => absurd q z10⟩
        rw [if_neg n01]
        exact ⟨fun _ => ⟨fun _ => no4, fun q => absurd y0 q⟩, fun q => absurd q z10⟩
      · refine m_isPaper_y hr hw hk ⟨fun _ => m_in ?_, fun q => absurd q z10⟩
        rw [if_neg n01]
        exact ⟨fun _ => ⟨fun q => absurd q y0, fun _ => ⟨fun _ => lf ⟨fun _ => no6, fun q => absurd y1 q⟩, fun q => absurd z0 q⟩⟩, fun q => absurd q z10⟩
      · refine m_isPaper_y hr hw hk ⟨fun _ => m_in ?_, fun q => absurd q z10⟩
        rw [if_neg n01]
        exact ⟨fun _ => ⟨fun q => absurd q y0, fun _ => ⟨fun _ => lf ⟨fun q => absurd q y1, fun _ => ⟨fun _ => no6, fun q => absurd z1 q⟩⟩, fun q => absurd z0 q⟩⟩, fun q => absurd q z10⟩
      · obtain ⟨h, h1, rfl⟩ := nI_of y0
        obtain ⟨n, n1, rfl⟩ := nI_of (le0.mp z0)
        have hh : h ≤ 100 := Nat.le_of_not_lt fun e => y1 ((nI_ltI (a := 100) (b := h) (by decide) h1).mpr e)
        have hn : n ≤ 8 := Nat.le_of_not_lt fun e => z1 ((nI_ltI (a := 8) (b := n) (by decide) n1).mpr e)
        have nu : n * pc (uns a k) ≤ 8 * 6 := Nat.mul_le_mul hn u6
        have g2 : nI (n * pc (uns a k)) ≤ nI 8 := by rw [← pk_mul]; exact g
        have hnu : n * pc (uns a k) ≤ 8 := (nI_leI (by omega) (by decide)).mp g2
        refine p_chance hw hk5 hh hn hnu fun s => ?_
        refine m_isPaper_y hr hw hk ⟨fun _ => m_in ?_, fun q => absurd q z10⟩
        rw [if_neg n01]
        exact ⟨fun _ => ⟨fun q => absurd q y0, fun _ => ⟨fun _ => lf ⟨fun q => absurd q y1, fun _ => ⟨fun q => absurd q z1, fun _ => ⟨fun _ => m_chance hr hw hk5 hh hn hnu hv ⟨rfl, hR⟩, fun q => absurd g q⟩⟩⟩, fun q => absurd z0 q⟩⟩, fun q => absurd q z10⟩
      · refine m_isPaper_y hr hw hk ⟨fun _ => m_in ?_, fun q => absurd q z10⟩
        rw [if_neg n01]
        exact ⟨fun _ => ⟨fun q => absurd q y0, fun _ => ⟨fun _ => lf ⟨fun q => absurd q y1, fun _ => ⟨fun q => absurd q z1, fun _ => ⟨fun q => absurd q g, fun _ => no6⟩⟩⟩, fun q => absurd z0 q⟩⟩, fun q => absurd q z10⟩
      · refine m_isPaper_y hr hw hk ⟨fun _ => m_in ?_, fun q => absurd q z10⟩
        rw [if_neg n01]
        exact ⟨fun _ => ⟨fun q => absurd q y0, fun _ => ⟨fun q => absurd q z0, fun _ => no4⟩⟩, fun q => absurd q z10⟩
    · refine ⟨fun q2 => absurd q2 z10, fun _ => p_refuseFarthest (k := 2) (by decide) ?_⟩
      refine m_isPaper_y hr hw hk ⟨fun _ => m_in ?_, fun q => absurd q z10⟩
      rw [if_pos q]
      exact ⟨fun q2 => absurd rfl q2, fun _ => rr (k := 2) (by decide) (by decide) ⟨by decide, hR.rf (by decide)⟩⟩
  · refine p_hasPaper_n hw hx ⟨fun q => absurd rfl q, fun _ => p_refuseFarthest (k := 1) (by decide) ?_⟩
    exact m_isPaper_n hr hw hx ⟨fun q => absurd rfl q, fun _ => rr (k := 1) (by decide) (by decide) ⟨by decide, hR.rf (by decide)⟩⟩
end REL
