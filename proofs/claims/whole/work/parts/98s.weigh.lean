/-! town: the weights of a paper that comes -/
def hG (H : Nat → Nat) : Nat := Nat.gcd (Nat.gcd (H 0) (H 1)) (H 2)
def TW (H : Nat → Nat) (A i : Nat) (s u : ew_M) : Prop := u.1 = s.1 ∧ (∀ b, b ≠ 11 → u.2.1 b = s.2.1 b) ∧ (∀ j, ¬ (A * 6 ≤ j ∧ j < A * 6 + i) → u.2.1 11 j = s.2.1 11 j) ∧ (∀ p, p < i → u.2.1 11 (A * 6 + p) = 0) ∧ (∀ b, b ≠ 0 → u.2.2 b = s.2.2 b) ∧ (∀ j, ¬ (A * 18 ≤ j ∧ j < A * 18 + 3 * i) → u.2.2 0 j = s.2.2 0 j) ∧ ∀ p k, p < i → k < 3 → (u.2.2 0 ((A * 6 + p) * 3 + k)).toInt = (H k : Int) / (hG H : Int)
theorem TW.z (H : Nat → Nat) (A : Nat) (s : ew_M) : TW H A 0 s s := ⟨rfl, fun _ _ => rfl, fun _ _ => rfl, fun p hp => absurd hp (by omega), fun _ _ => rfl, fun _ _ => rfl, fun p k hp => absurd hp (by omega)⟩
def wS (ar : Nat) (u : ew_M) (f A : Nat) : Nat → ew_M
  | 0 => u
  | j + 1 => ew_sW (wS ar u f A j) 0 (f + j) ((wS ar u f A j).2.1 ar (A * 3 + j)).toInt64
theorem wS_p (ar : Nat) (u : ew_M) (f A : Nat) : ∀ i, (wS ar u f A i).1 = u.1 ∧ (wS ar u f A i).2.1 = u.2.1 ∧ (∀ b, b ≠ 0 → (wS ar u f A i).2.2 b = u.2.2 b) ∧ (∀ j, (j < f ∨ f + i ≤ j) → (wS ar u f A i).2.2 0 j = u.2.2 0 j) ∧ ∀ k, k < i → (wS ar u f A i).2.2 0 (f + k) = (u.2.1 ar (A * 3 + k)).toInt64
  | 0 => ⟨rfl, rfl, fun _ _ => rfl, fun _ _ => rfl, fun k hk => absurd hk (by omega)⟩
  | i + 1 => by
    obtain ⟨h1, h2, h3, h4, h5⟩ := wS_p ar u f A i
    refine ⟨h1, h2, fun b hb => ?_, fun j hj => ?_, fun k hk => ?_⟩
    · show (ew_sW (wS ar u f A i) 0 (f + i) _).2.2 b = _
      rw [sW_a hb]
      exact h3 b hb
    · show (ew_sW (wS ar u f A i) 0 (f + i) _).2.2 0 j = _
      rw [sW_i (by omega)]
      exact h4 j (by omega)
    · show (ew_sW (wS ar u f A i) 0 (f + i) _).2.2 0 (f + k) = _
      by_cases e : k = i
      · subst e
        rw [sW_s, h2]
      · rw [sW_i (by omega)]
        exact h5 k (by omega)
theorem wS_v {ar : Nat} {u : ew_M} {f A : Nat} {H : Nat → Nat} (hH : ∀ k, k < 3 → H k ≤ 100 ∧ u.2.1 ar (A * 3 + k) = nI (H k)) {k : Nat} (hk : k < 3) : ((wS ar u f A 3).2.2 0 (f + k)).toInt = (H k : Int) := by
  have h := hH k hk
  rw [(wS_p ar u f A 3).2.2.2.2 k hk, h.2, Int32.toInt_toInt64, nI_toInt (by omega)]
theorem wS_g {ar : Nat} {u : ew_M} {f A : Nat} {H : Nat → Nat} (hH : ∀ k, k < 3 → H k ≤ 100 ∧ u.2.1 ar (A * 3 + k) = nI (H k)) : g3 (wS ar u f A 3) f = hG H := by
  have e0 := wS_v (f := f) hH (k := 0) (by decide)
  rw [Nat.add_zero] at e0
  unfold g3 hG
  rw [e0, wS_v hH (by decide), wS_v hH (by decide), Int.toNat_natCast, Int.toNat_natCast, Int.toNat_natCast]
theorem TW.st {ar : Nat} {H : Nat → Nat} {A i : Nat} {s u n : ew_M} (har : ar ≠ 11) (hi : i < 6) (hG0 : 0 < hG H) (hH : ∀ k, k < 3 → H k ≤ 100 ∧ s.2.1 ar (A * 3 + k) = nI (H k)) (h : TW H A i s u) (hn : LW (wS ar (ew_sA u 11 (A * 6 + i) 0) ((A * 6 + i) * 3) A 3) n ((A * 6 + i) * 3)) : TW H A (i + 1) s n := by
  obtain ⟨t1, t2, t3, t4, t5, t6, t7⟩ := h
  obtain ⟨n1, n2, n3, n4, n5⟩ := hn
  have hu : ∀ k, k < 3 → H k ≤ 100 ∧ (ew_sA u 11 (A * 6 + i) 0).2.1 ar (A * 3 + k) = nI (H k) := fun k hk => ⟨(hH k hk).1, by rw [sA_a har, t2 ar har]; exact (hH k hk).2⟩
  obtain ⟨w1, w2, w3, w4, w5⟩ := wS_p ar (ew_sA u 11 (A * 6 + i) 0) ((A * 6 + i) * 3) A 3
  refine ⟨n1.trans (w1.trans t1), fun b hb => ?_, fun j hj => ?_, fun p hp => ?_, fun b hb => ?_, fun j hj => ?_, fun p k hp hk => ?_⟩
  · rw [n2, w2, sA_a hb]
    exact t2 b hb
  · rw [n2, w2, sA_i (by omega)]
    exact t3 j (by omega)
  · rw [n2, w2]
    by_cases e : p = i
    · subst e
      rw [sA_s]
    · rw [sA_i (by omega)]
      exact t4 p (by omega)
  · rw [n3 b hb, w3 b hb]
    exact t5 b hb
  · rw [n4 j (by omega), w4 j (by omega)]
    exact t6 j (by omega)
  · by_cases e : p = i
    · subst e
      rw [n5 k hk, wS_v hu hk, wS_g hu]
    · rw [n4 _ (by omega), w4 _ (by omega)]
      exact t7 p k (by omega) hk
theorem p_wei {H : Nat → Nat} {A i : Nat} {s u : ew_M} (hA : A < 5) (hi : i < 6) (hG0 : 0 < hG H) (hH : ∀ k, k < 3 → H k ≤ 100 ∧ s.2.1 9 (A * 3 + k) = nI (H k)) (h : TW H A i s u) {Q : ew_M → Prop} (hQ : ∀ n, TW H A (i + 1) s n → Q n) : wX3_weighFirst Q (nI i) (nI A) u := by
  have hu : ∀ k, k < 3 → H k ≤ 100 ∧ (ew_sA u 11 (A * 6 + i) 0).2.1 9 (A * 3 + k) = nI (H k) := fun k hk => ⟨(hH k hk).1, by rw [sA_a (by decide), h.2.1 9 (by decide)]; exact (hH k hk).2⟩
  show vp_in (nI A * (6 : Int32) + nI i) 30 ∧ ew_lp (fun (R : Int32 × ew_M → Prop) (x : Int32 × ew_M) => wX3_weighFirst_24 R Q (nI A) ((nI A * (6 : Int32) + nI i) * (3 : Int32)) x.1 x.2) ((0 : Int32), ew_sA u 11 (nI A * (6 : Int32) + nI i).toNatClampNeg 0)
  rw [ixf, ix30, cN (by omega)]
  refine ⟨vp_in_nI (by omega) (by decide), ?_⟩
  refine ew_for 3 (fun j => (nI j, wS 9 (ew_sA u 11 (A * 6 + i) 0) ((A * 6 + i) * 3) A j)) (fun j R hj hR => ?_) (fun R => ?_)
  · refine ⟨fun q => absurd q (nI_ge (a := j) (b := 3) hj (by decide)), fun _ => ?_⟩
    show vp_in (nI A * (3 : Int32) + nI j) 15 ∧ vp_in (nI ((A * 6 + i) * 3) + nI j) 90 ∧ R (nI j + 1, ew_sW (wS 9 (ew_sA u 11 (A * 6 + i) 0) ((A * 6 + i) * 3) A j) 0 (nI ((A * 6 + i) * 3) + nI j).toNatClampNeg ((wS 9 (ew_sA u 11 (A * 6 + i) 0) ((A * 6 + i) * 3) A j).2.1 9 (nI A * (3 : Int32) + nI j).toNatClampNeg).toInt64)
    rw [ix15, nI_add, cN (by omega), cN (by omega), nI_s]
    exact ⟨vp_in_nI (by omega) (by decide), vp_in_nI (by omega) (by decide), hR⟩
  · refine ⟨fun _ => p_less (by omega) (fun k hk => ?_) ?_ (fun n hn => hQ n (h.st (ar := 9) (by decide) hi hG0 hH hn)), fun q => absurd (nI_le (a := 3) (b := 3) (by decide) (by decide)) q⟩
    · show 0 ≤ ((wS 9 (ew_sA u 11 (A * 6 + i) 0) ((A * 6 + i) * 3) A 3).2.2 0 ((A * 6 + i) * 3 + k)).toInt
      rw [wS_v hu hk]
      omega
    · show 0 < g3 (wS 9 (ew_sA u 11 (A * 6 + i) 0) ((A * 6 + i) * 3) A 3) ((A * 6 + i) * 3)
      rw [wS_g hu]
      exact hG0
theorem m_wei {H : Nat → Nat} {A i : Nat} {s u : ew_M} (hA : A < 5) (eA : s.1 5 = nI A) (hi : i < 6) (hG0 : 0 < hG H) (hH : ∀ k, k < 3 → H k ≤ 100 ∧ s.2.1 5 (A * 3 + k) = nI (H k)) (h : TW H A i s u) {R : Int32 × ew_M → Prop} {Q : ew_M → Prop} (hQ : ∀ n, TW H A (i + 1) s n → R (nI (i + 1), n)) : wX5_comes_264 R Q (nI i) u := by
  have hu : ∀ k, k < 3 → H k ≤ 100 ∧ (ew_sA u 11 (A * 6 + i) 0).2.1 5 (A * 3 + k) = nI (H k) := fun k hk => ⟨(hH k hk).1, by rw [sA_a (by decide), h.2.1 5 (by decide)]; exact (hH k hk).2⟩
  have u5 : u.1 5 = nI A := by rw [h.1]; exact eA
  refine ⟨fun q => absurd q (nI_ge (a := i) (b := 6) hi (by decide)), fun _ => ?_⟩
  rw [u5, ix30m, cN (by omega)]
  refine ⟨vp_in_nI (by omega) (by decide), ?_⟩
  refine ew_for 3 (fun j => (nI j, wS 5 (ew_sA u 11 (A * 6 + i) 0) ((A * 6 + i) * 3) A j)) (fun j R2 hj hR => ?_) (fun R2 => ?_)
  · have w5 : (wS 5 (ew_sA u 11 (A * 6 + i) 0) ((A * 6 + i) * 3) A j).1 5 = nI A := by rw [(wS_p 5 _ _ _ j).1]; exact u5
    refine ⟨fun q => absurd q (nI_ge (a := j) (b := 3) hj (by decide)), fun _ => ?_⟩
    unfold wX5_fromOf
    dsimp only
    rw [w5, ix90m, ix15m, nI_add, cN (by omega), cN (by omega), nI_s]
    exact ⟨vp_in_nI (by omega) (by decide), vp_in_nI (by omega) (by decide), hR⟩
  · have w5 : (wS 5 (ew_sA u 11 (A * 6 + i) 0) ((A * 6 + i) * 3) A 3).1 5 = nI A := by rw [(wS_p 5 _ _ _ 3).1]; exact u5
    refine ⟨fun _ => ?_, fun q => absurd (nI_le (a := 3) (b := 3) (by decide) (by decide)) q⟩
    unfold wX5_fromOf
    dsimp only
    rw [w5, ix90m]
    refine m_less (by omega) (fun k hk => ?_) ?_ (fun n hn => ?_)
    · rw [wS_v hu hk]
      omega
    · rw [wS_g hu]
      exact hG0
    · rw [nI_s]
      exact hQ n (h.st (ar := 5) (by decide) hi hG0 hH hn)
