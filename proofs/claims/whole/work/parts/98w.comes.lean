/-! town: the reference takes a statement -/
def Fk (m n : ew_M) : Prop := (∀ i, i ≠ 0 → i ≠ 5 → i ≠ 15 → i ≠ 16 → n.1 i = m.1 i) ∧ (∀ b, 12 ≤ b → n.2.1 b = m.2.1 b) ∧ ∀ b, b ≠ 0 → n.2.2 b = m.2.2 b
theorem Fk.tr {m n o : ew_M} (h : Fk m n) (g : Fk n o) : Fk m o := ⟨fun i h1 h2 h3 h4 => (g.1 i h1 h2 h3 h4).trans (h.1 i h1 h2 h3 h4), fun b hb => (g.2.1 b hb).trans (h.2.1 b hb), fun b hb => (g.2.2 b hb).trans (h.2.2 b hb)⟩
def MB (m : ew_M) (A b c0 c1 : Nat) (d : Nat → Nat) (i : Nat) (s : ew_M) : Prop :=
  s.1 = m.1 ∧ s.2.2 = m.2.2 ∧ (∀ c, c ≠ 4 → c ≠ 5 → c ≠ 6 → s.2.1 c = m.2.1 c) ∧ (∀ j, j ≠ A → s.2.1 4 j = m.2.1 4 j) ∧ s.2.1 4 A = nI b ∧
  (∀ j, ¬ (A * 3 ≤ j ∧ j < A * 3 + 3) → s.2.1 5 j = m.2.1 5 j) ∧ (∀ k, k < 3 → s.2.1 5 (A * 3 + k) = nI (hH c0 c1 k)) ∧ (∀ j, ¬ (A * 3 ≤ j ∧ j < A * 3 + i) → s.2.1 6 j = m.2.1 6 j) ∧ ∀ k, k < i → s.2.1 6 (A * 3 + k) = nI (d k) - 4
theorem MB.st {m : ew_M} {A b c0 c1 : Nat} {d : Nat → Nat} {i : Nat} {s : ew_M} (h : MB m A b c0 c1 d i s) : MB m A b c0 c1 d (i + 1) (ew_sA s 6 (A * 3 + i) (nI (d i) - 4)) := by
  obtain ⟨h1, h2, h3, h4, h5, h6, h7, h8, h9⟩ := h
  refine ⟨h1, h2, fun c q1 q2 q3 => ?_, fun j hj => ?_, ?_, fun j hj => ?_, fun k hk => ?_, fun j hj => ?_, fun k hk => ?_⟩
  · rw [sA_a q3]; exact h3 c q1 q2 q3
  · rw [sA_a (by decide)]; exact h4 j hj
  · rw [sA_a (by decide)]; exact h5
  · rw [sA_a (by decide)]; exact h6 j hj
  · rw [sA_a (by decide)]; exact h7 k hk
  · rw [sA_i (by omega)]; exact h8 j (by omega)
  · by_cases e : k = i
    · subst e
      rw [sA_s]
    · rw [sA_i (by omega)]
      exact h9 k (by omega)
theorem RT_TA {t t' m n' s u : ew_M} {b c0 c1 : Nat} {d : Nat → Nat} (hr : RT t m) (hA : An t < 5) (h : TA t b c0 c1 d t') (hB : MB m (An t) b c0 c1 d 3 s) (hW : TW (hH c0 c1) (An t) 6 (ew_sA (ew_sA (ew_sA (ew_sA s 7 (An t) 0) 8 (An t) 0) 9 (An t) 0) 10 (An t) 0) u) (e2 : n'.2 = u.2) (e5 : n'.1 5 = nI (An t + 1)) (e1 : ∀ i, i ≠ 5 → n'.1 i = u.1 i) : RT t' n' ∧ Fk m n' := by
  obtain ⟨b1, b2, b3, b4, b5, b6, b7, b8, b9⟩ := hB
  obtain ⟨w1, w2, w3, w4, w5, w6, w7⟩ := hW
  obtain ⟨⟨r0, r5, r15, r16, r17⟩, rp, rA, rk, rh, rw'⟩ := hr
  obtain ⟨f4, f5⟩ := TA_4 h
  have u1 : ∀ i, u.1 i = m.1 i := fun i => by rw [w1]; show s.1 i = _; rw [b1]
  have g : ∀ c j, (ew_sA (ew_sA (ew_sA (ew_sA s 7 (An t) 0) 8 (An t) 0) 9 (An t) 0) 10 (An t) 0).2.1 c j = if c = 10 ∧ j = An t then 0 else if c = 9 ∧ j = An t then 0 else if c = 8 ∧ j = An t then 0 else if c = 7 ∧ j = An t then 0 else s.2.1 c j := fun c j => by simp only [sA_get]
  have gx : ∀ c j, c ≠ 11 → n'.2.1 c j = if c = 10 ∧ j = An t then 0 else if c = 9 ∧ j = An t then 0 else if c = 8 ∧ j = An t then 0 else if c = 7 ∧ j = An t then 0 else s.2.1 c j := fun c j hc => by rw [e2, w2 c hc, g]
  have go : ∀ c j, c ≠ 11 → (c < 7 ∨ 11 ≤ c ∨ j ≠ An t) → n'.2.1 c j = s.2.1 c j := fun c j hc hx => by rw [gx c j hc, if_neg (by omega), if_neg (by omega), if_neg (by omega), if_neg (by omega)]
  have gA : ∀ c, 7 ≤ c → c < 11 → n'.2.1 c (An t) = 0 := fun c q1 q2 => by
    rw [gx c _ (by omega)]
    rcases (show c = 7 ∨ c = 8 ∨ c = 9 ∨ c = 10 by omega) with e | e | e | e <;> subst e <;> simp
  have A' := TA_A hA h
  refine ⟨⟨⟨?_, ?_, ?_, ?_, ?_⟩, fun j hj => ⟨?_, ?_, ?_, ?_⟩, fun a ha => ?_, fun k hk => ?_, fun k hk => ?_, fun a p k ha hp hk => ?_⟩, fun i i0 i5 i15 i16 => ?_, fun c hc => ?_, fun c hc => ?_⟩
  · rw [e1 0 (by decide), u1, h.1.2 0 (by decide)]; exact r0
  · rw [e5, h.1.1]
  · rw [e1 15 (by decide), u1, h.1.2 2 (by decide)]; exact r15
  · rw [e1 16 (by decide), u1, h.1.2 3 (by decide)]; exact r16
  · rw [e1 17 (by decide), u1, h.1.2 4 (by decide)]; exact r17
  · rw [go 0 j (by decide) (by omega), b3 0 (by decide) (by decide) (by decide), TA_lo h (by decide)]; exact (rp j hj).1
  · rw [go 1 j (by decide) (by omega), b3 1 (by decide) (by decide) (by decide), TA_lo h (by decide)]; exact (rp j hj).2.1
  · rw [go 2 j (by decide) (by omega), b3 2 (by decide) (by decide) (by decide), TA_lo h (by decide)]; exact (rp j hj).2.2.1
  · rw [go 3 j (by decide) (by omega), b3 3 (by decide) (by decide) (by decide), TA_lo h (by decide)]; exact (rp j hj).2.2.2
  · by_cases e : a = An t
    · subst e
      rw [go 4 _ (by decide) (by omega), b5, gA 8 (by decide) (by decide), gA 9 (by decide) (by decide), gA 7 (by decide) (by decide), gA 10 (by decide) (by decide), f4, f5 5 (by decide) (by decide), f5 6 (by decide) (by decide), f5 7 (by decide) (by decide), f5 8 (by decide) (by decide)]
      exact ⟨rfl, rfl, rfl, rfl, rfl⟩
    · obtain ⟨x1, x2, x3, x4, x5⟩ := rA a ha
      rw [go 4 _ (by decide) (by omega), b4 a e, go 8 _ (by decide) (by omega), go 9 _ (by decide) (by omega), go 7 _ (by decide) (by omega), go 10 _ (by decide) (by omega), b3 8 (by decide) (by decide) (by decide), b3 9 (by decide) (by decide) (by decide), b3 7 (by decide) (by decide) (by decide), b3 10 (by decide) (by decide) (by decide), TA_o h (by decide) (by decide) e, TA_o h (by decide) (by decide) e, TA_o h (by decide) (by decide) e, TA_o h (by decide) (by decide) e, TA_o h (by decide) (by decide) e]
      exact ⟨x1, x2, x3, x4, x5⟩
  · obtain ⟨g1, g2⟩ := TA_9 h k
    rw [go 5 _ (by decide) (by omega), go 6 _ (by decide) (by omega)]
    by_cases e : An t * 3 ≤ k ∧ k < An t * 3 + 3
    · obtain ⟨i, rfl⟩ : ∃ i, k = An t * 3 + i := ⟨k - An t * 3, by omega⟩
      obtain ⟨x1, x2⟩ := g2 i (by omega)
      rw [x1, x2, b7 i (by omega), b9 i (by omega)]
      exact ⟨rfl, rfl⟩
    · rw [(g1 e).1, (g1 e).2, b6 k e, b8 k e]
      exact rk k hk
  · obtain ⟨g1, g2⟩ := TA_11 h k
    by_cases e : An t * 6 ≤ k ∧ k < An t * 6 + 6
    · obtain ⟨i, rfl⟩ : ∃ i, k = An t * 6 + i := ⟨k - An t * 6, by omega⟩
      rw [g2 i (by omega), e2, w4 i (by omega)]
    · rw [g1 e, e2, w3 k e, g, if_neg (by omega), if_neg (by omega), if_neg (by omega), if_neg (by omega), b3 11 (by decide) (by decide) (by decide)]
      exact rh k hk
  · rw [A'] at ha
    rw [e2]
    by_cases e : a = An t
    · subst e
      have z : rs t' (An t) = 0 := by unfold rs; rw [f5 5 (by decide) (by decide), cl0]
      unfold wO
      rw [z, Nat.zero_testBit, if_neg (by decide)]
      exact Int64.toInt_inj.mp (by rw [w7 p k hp hk, (TA_w h 0).2 p k hp hk])
    · have y : ¬ (An t * 18 ≤ (a * 6 + p) * 3 + k ∧ (a * 6 + p) * 3 + k < An t * 18 + 18) := by omega
      rw [w6 _ (by omega)]
      show s.2.2 0 _ = _
      rw [b2, rw' a p k (by omega) hp hk]
      unfold wO rs tr
      rw [(TA_w h _).1 y, TA_o h (by decide) (by decide) e, TA_o h (by decide) (by decide) e]
  · rw [e1 i i5, u1]
  · funext j
    rw [go c j (by omega) (by omega), b3 c (by omega) (by omega) (by omega)]
  · rw [e2, w5 c hc]
    show s.2.2 c = _
    rw [b2]
