/-! judge: both -/
theorem first_of (P : Nat → Prop) : ∀ n : Nat, ∃ J, J ≤ n ∧ (∀ i, i < J → P i) ∧ (J < n → ¬ P J)
  | 0 => ⟨0, Nat.le_refl 0, fun i hi => absurd hi (by omega), fun h => absurd h (by omega)⟩
  | n + 1 => by
    obtain ⟨J, h1, h2, h3⟩ := first_of P n
    by_cases e : J = n
    · by_cases p : P n
      · exact ⟨n + 1, Nat.le_refl _, fun i hi => by
          by_cases z : i = n
          · subst z; exact p
          · exact h2 i (by omega), fun h => absurd h (by omega)⟩
      · exact ⟨n, by omega, fun i hi => h2 i (by omega), fun _ => p⟩
    · exact ⟨J, by omega, h2, fun _ => h3 (by omega)⟩
theorem KP_RT {t m n : ew_M} (hr : RT t m) (h : KP 36 17 19 20 21 22 8 9 10 3 1 0 m n) : RT t n := by
  obtain ⟨k1, k2, k3, k4, k5, k6, k7⟩ := h
  exact hr.cong ⟨k1 0 (by decide), k1 5 (by decide), k1 15 (by decide), k1 16 (by decide), k1 17 (by decide)⟩ (fun b hb => k3 b (by omega) (by omega) (by omega) (by omega)) (k4 0 (by decide))
/-- kept, some weeks in mind, laid back -/
theorem back_w {t m n o q : ew_M} (hr : RT t m) (hA : An t ≤ 5) (h : KP 36 17 19 20 21 22 8 9 10 3 1 0 m n) (hf : Fr n o) (hq : KP 17 36 8 9 10 3 19 20 21 22 0 1 o q) : RT t q ∧ Fo m q := by
  obtain ⟨k1, k2, k3, k4, k5, k6, k7⟩ := h
  obtain ⟨f1, f2, f3⟩ := hf
  refine back hr hA (fun i hi => ?_) ?_ (fun b hb => ?_) (fun j hj => ?_) (fun j hj => ?_) (fun j hj => ?_) ?_ hq
  · rw [f1 i (by omega), k1 i (by omega)]
  · rw [f1 36 (by decide), k2]
  · rw [f2 b (by omega) (by omega) (by omega) (by omega), k3 b (by omega) (by omega) (by omega) (by omega)]
  · rw [f2 19 (by decide) (by decide) (by decide) (by decide), f2 20 (by decide) (by decide) (by decide) (by decide), f2 21 (by decide) (by decide) (by decide) (by decide)]
    exact k5 j hj
  · rw [f2 22 (by decide) (by decide) (by decide) (by decide)]
    exact k6 j hj
  · rw [f3 1 (by decide)]
    exact k7 j hj
  · rw [f3 2 (by decide), k4 2 (by decide)]
section REL
variable {a b c lt ra xs m : ew_M}
theorem Rel.row0 (hR : Rel a c lt xs m) : Rel a c lt (ew_sI xs 2 0) (ew_sI m 20 0) := by
  obtain ⟨⟨h1, h2, h3⟩, h4, ⟨h5, h6, h7⟩, ⟨h8, h9, h10⟩, h11⟩ := hR
  refine ⟨⟨h1, h2.cong ⟨sI_i (by decide), sI_i (by decide), sI_i (by decide), sI_i (by decide), sI_i (by decide)⟩ (fun b hb => rfl) rfl, ?_⟩, h4, ⟨?_, ?_, h7⟩, ⟨?_, h9, h10⟩, ?_⟩
  · rw [sI_i (by decide)]; exact h3
  · rw [sI_s, sI_s]
  · rw [sI_s]; exact isN_of (n := 0) (by decide) (by decide)
  · rw [sI_i (by decide)]; exact h8
  · rw [sI_i (by decide), sI_i (by decide)]
    exact h11.imp id (fun q => ⟨q.1, q.2.1, q.2.2.1, q.2.2.2.cg (fun i hi => sI_i (by omega)) (fun b hb => rfl) rfl⟩)
/-- judge -/
theorem s_judge (hR : Rel a c lt xs m) (x : Int32) : wX4_judge (fun r _ xs' => wX5_judge (fun r' m' => r = r' ∧ Rel a c lt xs' m') x m) x a b c lt ra xs := by
  have hw := hR.w
  have hr := hR.r
  have hA := hw.A.2
  by_cases hx : isA a x
  · obtain ⟨k, hk, rfl⟩ := hx
    obtain ⟨e20, ⟨n1, n2⟩, hl⟩ := hR.2.2.1
    have hrow : ∀ i, (fun i => if i < 12 then cl (xs.2.1 0 i) else 9) i < 10 := fun i => by
      show (if i < 12 then cl (xs.2.1 0 i) else 9) < 10
      split
      · rename_i q
        exact (hl i q).2.2
      · decide
    have ex : ∀ i, i < cl (xs.1 2) → xs.2.1 0 i = nI ((fun i => if i < 12 then cl (xs.2.1 0 i) else 9) i) := fun i hi => by
      show _ = nI (if i < 12 then cl (xs.2.1 0 i) else 9)
      rw [if_pos (by omega)]
      exact (hl i (by omega)).2.1
    obtain ⟨J, j1, j2, j3⟩ := first_of (jok a (fun i => if i < 12 then cl (xs.2.1 0 i) else 9) k) (cl (xs.1 2))
    have fin : ∀ (v : Int32) (n0 s : ew_M), KP 36 17 19 20 21 22 8 9 10 3 1 0 m n0 → Fr n0 s → wX5_judge_95 (fun r' m' => v = r' ∧ Rel a c lt (ew_sI xs 2 0) m') v s := fun v n0 s h1 h2 => by
      refine m_lays fun q hq => ?_
      obtain ⟨b1, b2⟩ := back_w hr hA h1 h2 hq
      exact ⟨rfl, (hR.up hw b1 b2).row0⟩
    have mod : ∀ v : Int32, (J = cl (xs.1 2) → v = -9) → (J < cl (xs.1 2) → v = nI J) → wX5_judge (fun r' m' => v = r' ∧ Rel a c lt (ew_sI xs 2 0) m') (nI k) m := fun v v1 v2 => by
      refine m_isPaper_y hr hw hk ⟨fun _ => m_keeps fun n0 h0 => ?_, fun z => absurd z z10⟩
      refine m_judge hw hrow (n := cl (xs.1 2)) (by omega) hk (KP_RT hr h0) ?_ ?_ (fun i hi => ?_) j1 j2 (fun e s hs => ?_) (fun e => ⟨j3 e, fun s hs => ?_⟩)
      · rw [h0.1 29 (by decide)]; exact hR.1.2.2
      · rw [h0.1 20 (by decide), e20]; exact n1
      · rw [h0.2.2.1 13 (by decide) (by decide) (by decide) (by decide), (hl i (by omega)).1]
        exact ex i hi
      · rw [v1 e]; exact fin _ n0 s h0 hs
      · rw [v2 e]; exact fin _ n0 s h0 hs
    refine p_hasPaper_y hw hk ⟨fun _ => ?_, fun z => absurd z z10⟩
    show ew_lp (fun (R : Int32 × ew_M → Prop) (x : Int32 × ew_M) => wX1_firstThatCanNot_14 R (fun r4 m5 => wX5_judge (fun r' m' => r4 = r' ∧ Rel a c lt (ew_sI xs 2 0) m') (nI k) m) (nI k) (xs.1 2) x.1 a x.2 ra xs) ((0 : Int32), a)
    rw [n1]
    refine p_first hw hrow (n := cl (xs.1 2)) (by omega) hk ex j1 j2 (fun e => mod _ (fun _ => rfl) (fun z => absurd z (by omega))) (fun e => ⟨j3 e, mod _ (fun z => absurd z (by omega)) (fun _ => rfl)⟩)
  · refine p_hasPaper_n hw hx ⟨fun z => absurd rfl z, fun _ => p_refuse (k := 1) (by decide) ?_⟩
    exact m_isPaper_n hr hw hx ⟨fun z => absurd rfl z, fun _ => m_refuse (k := 1) (by decide) (by decide) ⟨by decide, hR.rf (by decide)⟩⟩
end REL
