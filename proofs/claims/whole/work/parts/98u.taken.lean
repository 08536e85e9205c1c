/-! town: what stands when a statement is taken -/
def tP (t : ew_M) (k v1 v2 : Nat) : ew_M := ew_sI (ew_sA (ew_sA (ew_sA (ew_sA t 0 (Pn t) (nI k)) 1 (Pn t) (nI v1)) 2 (Pn t) (nI v2)) 3 (Pn t) 0) 0 (nI (Pn t + 1))
theorem tP_get (t : ew_M) (k v1 v2 : Nat) (c j : Nat) : (tP t k v1 v2).2.1 c j = if c = 3 ∧ j = Pn t then 0 else if c = 2 ∧ j = Pn t then nI v2 else if c = 1 ∧ j = Pn t then nI v1 else if c = 0 ∧ j = Pn t then nI k else t.2.1 c j := by
  unfold tP
  show (ew_sA (ew_sA (ew_sA (ew_sA t 0 (Pn t) (nI k)) 1 (Pn t) (nI v1)) 2 (Pn t) (nI v2)) 3 (Pn t) 0).2.1 c j = _
  simp only [sA_get]
theorem tP_a (t : ew_M) (k v1 v2 : Nat) {c : Nat} (hc : 4 ≤ c) : (tP t k v1 v2).2.1 c = t.2.1 c := by
  funext j
  rw [tP_get, if_neg (by omega), if_neg (by omega), if_neg (by omega), if_neg (by omega)]
theorem tP_P {t : ew_M} (k v1 v2 : Nat) (h : Pn t < 6) : Pn (tP t k v1 v2) = Pn t + 1 := by
  have e : (tP t k v1 v2).1 0 = nI (Pn t + 1) := sI_s _ _ _
  show cl ((tP t k v1 v2).1 0) = Pn t + 1
  rw [e, cl_nI (by omega)]
theorem tP_i (t : ew_M) (k v1 v2 : Nat) {i : Nat} (hi : i ≠ 0) : (tP t k v1 v2).1 i = t.1 i := by
  unfold tP
  rw [sI_i hi]
  rfl
theorem tP_A (t : ew_M) (k v1 v2 : Nat) : An (tP t k v1 v2) = An t := by unfold An; rw [tP_i _ _ _ _ (by decide)]
theorem wf_tP {t : ew_M} (hw : wf t) {k v1 v2 : Nat} (hP : Pn t < 6) (hk : k < 7) (h1 : v1 < 10) (h2 : v2 < 100) : wf (tP t k v1 v2) := by
  obtain ⟨⟨w0, w0b⟩, w1, w2, w3, w4, w5, w6, w7⟩ := hw
  have eP := tP_P (t := t) k v1 v2 hP
  refine ⟨⟨?_, ?_, ?_, ?_⟩, fun p hp => ⟨?_, ?_, ?_⟩, fun a ha => ?_, fun a ha => ?_, fun k hk => ?_, fun k hk => ?_, fun k hk => ?_, fun k hk => ?_⟩
  · show isN (ew_sI _ 0 (nI (Pn t + 1)) |>.1 0) 7
    rw [sI_s]
    exact isN_of (by omega) (by decide)
  · rw [tP_i _ _ _ _ (by decide)]; exact w0b.1
  · rw [tP_i _ _ _ _ (by decide)]; exact w0b.2.1
  · rw [tP_i _ _ _ _ (by decide)]; exact w0b.2.2
  · rw [tP_get, if_neg (by omega), if_neg (by omega), if_neg (by omega)]
    split
    · exact isN_of hk (by decide)
    · exact (w1 p hp).1
  · rw [tP_get, if_neg (by omega), if_neg (by omega)]
    split
    · exact isN_of h1 (by decide)
    · rw [if_neg (by omega)]; exact (w1 p hp).2.1
  · rw [tP_get, if_neg (by omega)]
    split
    · exact isN_of h2 (by decide)
    · rw [if_neg (by omega), if_neg (by omega)]; exact (w1 p hp).2.2
  · rw [tP_a _ _ _ _ (by decide), tP_a _ _ _ _ (by decide), tP_a _ _ _ _ (by decide), tP_a _ _ _ _ (by decide)]
    exact w2 a ha
  · rw [tP_A] at ha
    obtain ⟨x1, x2, x3⟩ := w3 a ha
    rw [eP]
    unfold bs rs at *
    rw [tP_a _ _ _ _ (by decide), tP_a _ _ _ _ (by decide)]
    exact ⟨Nat.lt_of_lt_of_le x1 (Nat.pow_le_pow_right (by decide) (by omega)), x2, x3⟩
  · rw [tP_a _ _ _ _ (by decide), tP_a _ _ _ _ (by decide)]
    exact w4 k hk
  · rw [tP_a _ _ _ _ (by decide)]
    exact w5 k hk
  · rw [tP_a _ _ _ _ (by decide)]
    exact w6 k hk
  · rw [tP_A] at hk
    exact w7 k hk
theorem cl0 : cl 0 = 0 := by decide
theorem isN0 {n : Nat} (h : 0 < n) (h2 : n ≤ 2 ^ 31) : isN 0 n := isN_of (n := 0) h h2
theorem divG {x G : Nat} : (((x : Int) / (G : Int)).toNat) = x / G := by rw [Int.ofNat_ediv_ofNat, Int.toNat_natCast]
section TAA
variable {t t' : ew_M} {b c0 c1 : Nat} {d : Nat → Nat}
theorem TA_A (hA : An t < 5) (h : TA t b c0 c1 d t') : An t' = An t + 1 := by
  unfold An at hA ⊢
  rw [h.1.1]
  exact cl_nI (by unfold An; omega)
theorem TA_P (h : TA t b c0 c1 d t') : Pn t' = Pn t := by unfold Pn; rw [h.1.2 0 (by decide)]
theorem TA_4 (h : TA t b c0 c1 d t') : t'.2.1 4 (An t) = nI b ∧ ∀ c, 5 ≤ c → c < 9 → t'.2.1 c (An t) = 0 := by
  obtain ⟨-, s, u, hB, hW, e⟩ := h
  refine ⟨?_, fun c h1 h2 => ?_⟩
  · rw [e, hW.2.1 4 (by decide)]
    exact hB.2.2.2.2.1.1
  · rw [e, hW.2.1 c (by omega)]
    exact hB.2.2.2.2.1.2 c h1 h2
theorem TA_o (h : TA t b c0 c1 d t') {c j : Nat} (h1 : 4 ≤ c) (h2 : c < 9) (hj : j ≠ An t) : t'.2.1 c j = t.2.1 c j := by
  obtain ⟨-, s, u, hB, hW, e⟩ := h
  rw [e, hW.2.1 c (by omega)]
  exact hB.2.2.2.1 c j h1 h2 hj
theorem TA_lo (h : TA t b c0 c1 d t') {c : Nat} (h1 : c < 4) : t'.2.1 c = t.2.1 c := by
  obtain ⟨-, s, u, hB, hW, e⟩ := h
  rw [e, hW.2.1 c (by omega)]
  exact hB.2.2.1 c (by omega)
theorem TA_9 (h : TA t b c0 c1 d t') (j : Nat) : (¬ (An t * 3 ≤ j ∧ j < An t * 3 + 3) → t'.2.1 9 j = t.2.1 9 j ∧ t'.2.1 10 j = t.2.1 10 j) ∧ ∀ k, k < 3 → t'.2.1 9 (An t * 3 + k) = nI (hH c0 c1 k) ∧ t'.2.1 10 (An t * 3 + k) = nI (d k) - 4 := by
  obtain ⟨-, s, u, hB, hW, e⟩ := h
  rw [e, hW.2.1 9 (by omega), hW.2.1 10 (by omega)]
  exact ⟨fun hj => ⟨hB.2.2.2.2.2.1 j hj, hB.2.2.2.2.2.2.2.1 j hj⟩, fun k hk => ⟨hB.2.2.2.2.2.2.1 k hk, hB.2.2.2.2.2.2.2.2 k hk⟩⟩
theorem TA_11 (h : TA t b c0 c1 d t') (j : Nat) : (¬ (An t * 6 ≤ j ∧ j < An t * 6 + 6) → t'.2.1 11 j = t.2.1 11 j) ∧ ∀ p, p < 6 → t'.2.1 11 (An t * 6 + p) = 0 := by
  obtain ⟨-, s, u, hB, hW, e⟩ := h
  rw [e]
  refine ⟨fun hj => ?_, hW.2.2.2.1⟩
  rw [hW.2.2.1 j hj, hB.2.2.1 11 (by omega)]
theorem TA_w (h : TA t b c0 c1 d t') (j : Nat) : (¬ (An t * 18 ≤ j ∧ j < An t * 18 + 18) → t'.2.2 0 j = t.2.2 0 j) ∧ ∀ p k, p < 6 → k < 3 → (t'.2.2 0 ((An t * 6 + p) * 3 + k)).toInt = (hH c0 c1 k : Int) / (hG (hH c0 c1) : Int) := by
  obtain ⟨-, s, u, hB, hW, e⟩ := h
  rw [e]
  refine ⟨fun hj => ?_, hW.2.2.2.2.2.2⟩
  rw [hW.2.2.2.2.2.1 j (by omega), hB.2.1]
theorem wf_TA (hw : wf t) (hA : An t < 5) (b0 : b ≠ 0) (bP : b < 2 ^ Pn t) (hc : c0 + c1 ≤ 100) (hd : ∀ k, k < 3 → d k < 10) (h : TA t b c0 c1 d t') : wf t' := by
  obtain ⟨⟨w0, w0b⟩, w1, w2, w3, w4, w5, w6, w7⟩ := id hw
  have eA := TA_A hA h
  have eP := TA_P h
  obtain ⟨f4, f5⟩ := TA_4 h
  have hP := hw.P.2
  have b64 : b < 64 := Nat.lt_of_lt_of_le bP (show 2 ^ Pn t ≤ 2 ^ 6 from Nat.pow_le_pow_right (by decide) hP)
  have gp := hG_p hc
  refine ⟨⟨?_, ?_, ?_, ?_⟩, fun p hp => ?_, fun a ha => ?_, fun a ha => ?_, fun k hk => ?_, fun k hk => ?_, fun k hk => ?_, fun k hk => ?_⟩
  · rw [h.1.2 0 (by decide)]; exact w0
  · rw [h.1.1]; exact isN_of (by omega) (by decide)
  · rw [h.1.2 2 (by decide)]; exact w0b.2.1
  · rw [h.1.2 3 (by decide)]; exact w0b.2.2
  · rw [TA_lo h (by decide), TA_lo h (by decide), TA_lo h (by decide)]; exact w1 p hp
  · by_cases e : a = An t
    · subst e
      rw [f4, f5 5 (by decide) (by decide), f5 6 (by decide) (by decide), f5 7 (by decide) (by decide)]
      exact ⟨isN_of b64 (by decide), isN0 (by decide) (by decide), isN0 (by decide) (by decide), isN0 (by decide) (by decide)⟩
    · rw [TA_o h (by decide) (by decide) e, TA_o h (by decide) (by decide) e, TA_o h (by decide) (by decide) e, TA_o h (by decide) (by decide) e]
      exact w2 a ha
  · rw [eP]
    unfold bs rs at *
    by_cases e : a = An t
    · subst e
      rw [f4, f5 5 (by decide) (by decide), cl_nI (by omega), cl0, Nat.zero_and]
      exact ⟨bP, by omega, rfl⟩
    · rw [TA_o h (by decide) (by decide) e, TA_o h (by decide) (by decide) e]
      exact w3 a (by omega)
  · obtain ⟨g1, g2⟩ := TA_9 h k
    by_cases e : An t * 3 ≤ k ∧ k < An t * 3 + 3
    · obtain ⟨i, rfl⟩ : ∃ i, k = An t * 3 + i := ⟨k - An t * 3, by omega⟩
      obtain ⟨x1, x2⟩ := g2 i (by omega)
      have dk := hd i (by omega)
      rw [x1, x2, show (4 : Int32) = nI 4 from rfl, pk_sub_toInt (by omega) (by omega)]
      exact ⟨isN_of (by have := hH_b hc i; omega) (by decide), by omega, by omega⟩
    · rw [(g1 e).1, (g1 e).2]
      exact w4 k hk
  · obtain ⟨g1, g2⟩ := TA_11 h k
    by_cases e : An t * 6 ≤ k ∧ k < An t * 6 + 6
    · obtain ⟨i, rfl⟩ : ∃ i, k = An t * 6 + i := ⟨k - An t * 6, by omega⟩
      rw [g2 i (by omega)]
      exact isN0 (by decide) (by decide)
    · rw [g1 e]
      exact w5 k hk
  · obtain ⟨g1, g2⟩ := TA_w h k
    by_cases e : An t * 18 ≤ k ∧ k < An t * 18 + 18
    · obtain ⟨p, i, hp, hi, rfl⟩ : ∃ p i, p < 6 ∧ i < 3 ∧ k = (An t * 6 + p) * 3 + i := ⟨k / 3 - An t * 6, k % 3, by omega, by omega, by omega⟩
      rw [g2 p i hp hi, show ((An t * 6 + p) * 3 + i) / 3 = An t * 6 + p by omega, (TA_11 h 0).2 p hp, cl0]
      have hb := hH_b hc i
      have q1 : 0 ≤ (hH c0 c1 i : Int) / (hG (hH c0 c1) : Int) := Int.ediv_nonneg (by omega) (by omega)
      have q2 : (hH c0 c1 i : Int) / (hG (hH c0 c1) : Int) ≤ (hH c0 c1 i : Int) := Int.ediv_le_self _ (by omega)
      refine ⟨q1, ?_⟩
      rw [Int.pow_zero]
      omega
    · rw [g1 e]
      have o := (TA_11 h (k / 3)).1 (by omega)
      rw [o]
      exact w6 k hk
  · rw [eA] at hk
    by_cases e : An t * 6 ≤ k
    · obtain ⟨p, hp, rfl⟩ : ∃ p, p < 6 ∧ k = An t * 6 + p := ⟨k - An t * 6, by omega, by omega⟩
      have x0 := (TA_w h 0).2 p 0 hp (by decide)
      have x1 := (TA_w h 0).2 p 1 hp (by decide)
      have x2 := (TA_w h 0).2 p 2 hp (by decide)
      rw [Nat.add_zero] at x0
      have d2 : hG (hH c0 c1) ∣ hH c0 c1 2 := Nat.gcd_dvd_right _ _
      have d3 : hG (hH c0 c1) ∣ Nat.gcd (hH c0 c1 0) (hH c0 c1 1) := Nat.gcd_dvd_left _ _
      have d0 := Nat.dvd_trans d3 (Nat.gcd_dvd_left _ _)
      have d1 := Nat.dvd_trans d3 (Nat.gcd_dvd_right _ _)
      unfold g3
      rw [x0, x1, x2, divG, divG, divG, Nat.gcd_div d0 d1, Nat.gcd_div d3 d2]
      exact Nat.div_self gp
    · have q := w7 k (by omega)
      unfold g3 at q ⊢
      rw [(TA_w h (k * 3)).1 (by omega), (TA_w h (k * 3 + 1)).1 (by omega), (TA_w h (k * 3 + 2)).1 (by omega)]
      exact q
end TAA
