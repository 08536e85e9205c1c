/-! town: the reference takes a statement, and looks for the wrong one -/
section MC
variable {T : Nat → Nat} {n a : Nat} {t t' m : ew_M}
theorem bA_r (h : bA T n a ≠ 0) : ris T (a + 1) (nJ T n (a + 1) 6) = true ∧ bA T n a = bse T (a + 1) (nJ T n (a + 1) 6) := by
  unfold bA at h ⊢
  by_cases e : ris T (a + 1) (nJ T n (a + 1) 6) = true
  · rw [if_pos e]
    exact ⟨e, rfl⟩
  · rw [if_neg e] at h
    exact absurd rfl h
theorem RT_tP (hr : RT t m) {k v1 v2 : Nat} {n' : ew_M} (hP : Pn t < 6) (e0 : n'.1 0 = nI (Pn t + 1)) (e1 : ∀ i, i ≠ 0 → n'.1 i = m.1 i) (ea : ∀ c j, n'.2.1 c j = if c = 3 ∧ j = Pn t then 0 else if c = 2 ∧ j = Pn t then nI v2 else if c = 1 ∧ j = Pn t then nI v1 else if c = 0 ∧ j = Pn t then nI k else m.2.1 c j) (e2 : n'.2.2 = m.2.2) : RT (tP t k v1 v2) n' ∧ Fk m n' := by
  obtain ⟨⟨r0, r5, r15, r16, r17⟩, rp, rA, rk, rh, rw'⟩ := hr
  have eb : ∀ c, 4 ≤ c → n'.2.1 c = m.2.1 c := fun c hc => by
    funext j
    rw [ea, if_neg (by omega), if_neg (by omega), if_neg (by omega), if_neg (by omega)]
  have t0 : (tP t k v1 v2).1 0 = nI (Pn t + 1) := sI_s _ _ _
  refine ⟨⟨⟨?_, ?_, ?_, ?_, ?_⟩, fun j hj => ?_, fun a ha => ?_, fun k hk => ?_, fun k hk => ?_, fun a p k ha hp hk => ?_⟩, fun i i0 i5 i15 i16 => e1 i i0, fun c hc => eb c (by omega), fun c hc => by rw [e2]⟩
  · rw [e0, t0]
  · rw [e1 5 (by decide), tP_i _ _ _ _ (by decide)]; exact r5
  · rw [e1 15 (by decide), tP_i _ _ _ _ (by decide)]; exact r15
  · rw [e1 16 (by decide), tP_i _ _ _ _ (by decide)]; exact r16
  · rw [e1 17 (by decide), tP_i _ _ _ _ (by decide)]; exact r17
  · obtain ⟨x0, x1, x2, x3⟩ := rp j hj
    rw [ea, ea, ea, ea, tP_get, tP_get, tP_get, tP_get, x0, x1, x2, x3]
    exact ⟨rfl, rfl, rfl, rfl⟩
  · rw [eb 4 (by decide), eb 8 (by decide), eb 9 (by decide), eb 7 (by decide), eb 10 (by decide), tP_a _ _ _ _ (by decide), tP_a _ _ _ _ (by decide), tP_a _ _ _ _ (by decide), tP_a _ _ _ _ (by decide), tP_a _ _ _ _ (by decide)]
    exact rA a ha
  · rw [eb 5 (by decide), eb 6 (by decide), tP_a _ _ _ _ (by decide), tP_a _ _ _ _ (by decide)]
    exact rk k hk
  · rw [eb 11 (by decide), tP_a _ _ _ _ (by decide)]
    exact rh k hk
  · rw [tP_A] at ha
    rw [e2, rw' a p k ha hp hk]
    unfold wO rs tr
    rw [tP_a _ _ _ _ (by decide), tP_a _ _ _ _ (by decide)]
    rfl
theorem m_comes {k : Nat} (hr : RT t m) (hw : wf t) (hk : k < 31) (ok : (stF T n a).1 = true) (hg : gd T n a t) (h : TK T n a t t') (hv : MtV T n k a m) {Q : ew_M → Prop} (hQ : ∀ n', RT t' n' → Fk m n' → Q n') : wX5_comes Q (nI k) m := by
  obtain ⟨-, v16, v17⟩ := hv
  obtain ⟨eP, hP⟩ := hw.P
  obtain ⟨eA, hA⟩ := hw.A
  have m0 : m.1 0 = nI (Pn t) := by rw [hr.1.1, eP]
  have m5 : m.1 5 = nI (An t) := by rw [hr.1.2.1, eA]
  unfold wX5_comes
  rw [cN (by omega), v16, ix9, pl_1, pl_2, pl_3]
  rw [cN (by omega), cN (by omega), cN (by omega), cN (by omega)]
  have vk : vp_in (nI k) 32 := vp_in_nI (by omega) (by decide)
  have v9 : ∀ j, j < 9 → vp_in (nI (9 * k + j)) 288 := fun j hj => vp_in_nI (by omega) (by decide)
  rcases (st_sort ok).2 with e | e | e | e
  · obtain ⟨w1, w2, w3⟩ := stW_a (n := n) e
    obtain ⟨g1, g2, g3, g4⟩ := (gd_a e).mp hg
    obtain ⟨q1, q2⟩ := bA_r g2
    have hT := (TK_a e).mp h
    rw [w1, w2] at v17
    have x0 : m.2.1 17 (9 * k) = nI (bA T n a) := by
      have y := v17 0 (by decide)
      rw [Nat.add_zero] at y
      rw [y, q2]
      rfl
    have x2 : m.2.1 17 (9 * k + 2) = nI (c0A T n a) := v17 2 (by decide)
    have x3 : m.2.1 17 (9 * k + 3) = nI (c1A T n a) := v17 3 (by decide)
    have x4 : ∀ j, j < 3 → m.2.1 17 (9 * k + 4 + j) = nI (dA T n a j) := fun j hj => by
      rw [Nat.add_assoc, v17 (4 + j) (by omega)]
      rcases (show j = 0 ∨ j = 1 ∨ j = 2 by omega) with r | r | r <;> subst r <;> rfl
    rw [w3]
    refine ⟨vk, fun _ => ⟨vk, fun z => absurd rfl z, fun _ => ?_⟩, fun z => absurd z (by decide)⟩
    rw [m5, x0, x2, cN (by omega)]
    have i3 : (3 : Int32) * nI (An t) = nI (An t * 3) := by rw [show (3 : Int32) = nI 3 from rfl, pk_mul, Nat.mul_comm]
    rw [i3, cN (by omega)]
    refine ⟨v9 0 (by decide), vp_in_nI g1 (by decide), v9 2 (by decide), vp_in_nI (by omega) (by decide), fun z4 e4 => ?_⟩
    have z45 : z4.1 5 = nI (An t) := by rw [e4]; exact m5
    have z4n : ∀ j, z4.2.1 17 j = m.2.1 17 j := fun j => by rw [e4]; rfl
    rw [z45, i3, z4n, z4n, x2, x3, pl_1, pl_2, cN (by omega), cN (by omega), left_e g4]
    refine ⟨v9 3 (by decide), vp_in_nI (by omega) (by decide), v9 2 (by decide), v9 3 (by decide), vp_in_nI (by omega) (by decide), fun z5 e5 => ?_⟩
    have hB : MB m (An t) (bA T n a) (c0A T n a) (c1A T n a) (dA T n a) 0 z5 := by
      have g : ∀ c j, z5.2.1 c j = if c = 5 ∧ j = An t * 3 + 2 then nI (100 - c0A T n a - c1A T n a) else if c = 5 ∧ j = An t * 3 + 1 then nI (c1A T n a) else if c = 5 ∧ j = An t * 3 then nI (c0A T n a) else if c = 4 ∧ j = An t then nI (bA T n a) else m.2.1 c j := fun c j => by
        rw [e5, e4]
        simp only [sA_get]
      refine ⟨by rw [e5, e4]; rfl, by rw [e5, e4]; rfl, fun c c4 c5 c6 => ?_, fun j hj => ?_, ?_, fun j hj => ?_, fun i hi => ?_, fun j hj => ?_, fun i hi => absurd hi (by omega)⟩
      · funext j
        rw [g, if_neg (by omega), if_neg (by omega), if_neg (by omega), if_neg (by omega)]
      · rw [g, if_neg (by omega), if_neg (by omega), if_neg (by omega), if_neg (by omega)]
      · rw [g, if_neg (by omega), if_neg (by omega), if_neg (by omega), if_pos ⟨rfl, rfl⟩]
      · rw [g, if_neg (by omega), if_neg (by omega), if_neg (by omega), if_neg (by omega)]
      · rw [g]
        rcases (show i = 0 ∨ i = 1 ∨ i = 2 by omega) with e | e | e
        · subst e
          rw [if_neg (by omega), if_neg (by omega), if_pos ⟨rfl, by omega⟩]; rfl
        · subst e
          rw [if_neg (by omega), if_pos ⟨rfl, rfl⟩]; rfl
        · subst e
          rw [if_pos ⟨rfl, rfl⟩]; rfl
      · rw [g, if_neg (by omega), if_neg (by omega), if_neg (by omega), if_neg (by omega)]
    refine ew_forI 3 (fun i y => ∃ s, y = (nI i, s) ∧ MB m (An t) (bA T n a) (c0A T n a) (c1A T n a) (dA T n a) i s) (fun i R y hi hI hR => ?_) (fun R y hI => ?_) ⟨z5, rfl, hB⟩
    · obtain ⟨s, rfl, hs⟩ := hI
      have s5 : s.1 5 = nI (An t) := by rw [hs.1]; exact m5
      have s17 : s.2.1 17 = m.2.1 17 := hs.2.2.1 17 (by decide) (by decide) (by decide)
      refine ⟨fun q => absurd q (nI_ge (a := i) (b := 3) hi (by decide)), fun _ => ?_⟩
      show vp_in (nI (9 * k) + (4 : Int32) + nI i) 288 ∧ vp_in ((3 : Int32) * s.1 5 + nI i) 15 ∧ R (nI i + 1, ew_sA s 6 ((3 : Int32) * s.1 5 + nI i).toNatClampNeg (s.2.1 17 (nI (9 * k) + (4 : Int32) + nI i).toNatClampNeg - 4))
      rw [s5, i3, pl_4, nI_add, nI_add, cN (by omega), cN (by omega), s17, x4 i hi, nI_s]
      exact ⟨vp_in_nI (by omega) (by decide), vp_in_nI (by omega) (by decide), hR _ ⟨_, rfl, hs.st⟩⟩
    · obtain ⟨s, rfl, hs⟩ := hI
      have s5 : s.1 5 = nI (An t) := by rw [hs.1]; exact m5
      refine ⟨fun _ => ?_, fun q => absurd (nI_le (a := 3) (b := 3) (by decide) (by decide)) q⟩
      dsimp only
      rw [s5, cN (by omega)]
      refine ⟨vp_in_nI g1 (by decide), vp_in_nI g1 (by decide), vp_in_nI g1 (by decide), vp_in_nI g1 (by decide), fun z2 e2 => ?_⟩
      subst e2
      refine ew_forI 6 (fun i y => ∃ u, y = (nI i, u) ∧ TW (hH (c0A T n a) (c1A T n a)) (An t) i (ew_sA (ew_sA (ew_sA (ew_sA s 7 (An t) 0) 8 (An t) 0) 9 (An t) 0) 10 (An t) 0) u) (fun i R y hi hI hR => ?_) (fun R y hI => ?_) ⟨_, rfl, TW.z _ _ _⟩
      · obtain ⟨u, rfl, hu⟩ := hI
        refine m_wei (s := ew_sA (ew_sA (ew_sA (ew_sA s 7 (An t) 0) 8 (An t) 0) 9 (An t) 0) 10 (An t) 0) g1 s5 hi (hG_p g4) (fun j hj => ⟨hH_b g4 j, ?_⟩) hu fun o ho => hR _ ⟨o, rfl, ho⟩
        rw [sA_a (by decide), sA_a (by decide), sA_a (by decide), sA_a (by decide)]
        exact hs.2.2.2.2.2.2.1 j hj
      · obtain ⟨u, rfl, hu⟩ := hI
        refine ⟨fun _ => ?_, fun q => absurd (nI_le (a := 6) (b := 6) (by decide) (by decide)) q⟩
        have u5 : u.1 5 = nI (An t) := by rw [hu.1]; exact s5
        obtain ⟨y1, y2⟩ := RT_TA (n' := ew_sI u 5 (u.1 5 + 1)) hr g1 hT hs hu rfl (by rw [sI_s, u5, nI_s]) (fun i hi => sI_i hi)
        exact hQ _ y1 y2
  · obtain ⟨w1, w2, w3⟩ := stW_c (n := n) e
    rw [w1, w2] at v17
    have x0 : m.2.1 17 (9 * k) = nI (nvn T n (a + 1) 3) := v17 0 (by decide)
    rw [w3, x0]
    refine ⟨vk, fun _ => ⟨vk, fun _ => ⟨vk, fun _ => ⟨v9 0 (by decide), ?_⟩, fun z => absurd z (by decide)⟩, fun z => absurd z (by decide)⟩, fun z => absurd z (by decide)⟩
    rw [(TK_c e).mp h] at hQ
    refine hQ _ ?_ ⟨fun i i0 i5 i15 i16 => sI_i i16, fun _ _ => rfl, fun _ _ => rfl⟩
    obtain ⟨⟨r0, r5, r15, r16, r17⟩, r⟩ := hr
    exact ⟨⟨r0, r5, r15, by rw [sI_s, sI_s], r17⟩, r⟩
  · obtain ⟨w1, w2, w3⟩ := stW_l (n := n) e
    rw [w1, w2] at v17
    have x0 : m.2.1 17 (9 * k) = nI (nvn T n (a + 1) 1) := v17 0 (by decide)
    rw [w3, x0]
    refine ⟨vk, fun _ => ⟨vk, fun _ => ⟨vk, fun z => absurd rfl z, fun _ => ⟨v9 0 (by decide), ?_⟩⟩, fun z => absurd z (by decide)⟩, fun z => absurd z (by decide)⟩
    rw [(TK_l e).mp h] at hQ
    refine hQ _ ?_ ⟨fun i i0 i5 i15 i16 => sI_i i15, fun _ _ => rfl, fun _ _ => rfl⟩
    obtain ⟨⟨r0, r5, r15, r16, r17⟩, r⟩ := hr
    exact ⟨⟨r0, r5, by rw [sI_s, sI_s], r16, r17⟩, r⟩
  · obtain ⟨w1, w2, w3⟩ := stW_p (n := n) e
    have gp := (gd_p e).mp hg
    rw [w1, w2] at v17
    have x0 : m.2.1 17 (9 * k) = nI (kN (T (a + 1))) := v17 0 (by decide)
    have x1 : m.2.1 17 (9 * k + 1) = nI (nvn T n (pq1 T n a).2 1) := v17 1 (by decide)
    have x2 : m.2.1 17 (9 * k + 2) = nI (nvn T n (pq2 T n a).2 2) := v17 2 (by decide)
    rw [w3]
    refine ⟨vk, fun z => absurd rfl z, fun _ => ?_⟩
    rw [m0, x0, x1, cN (by omega)]
    refine ⟨v9 0 (by decide), vp_in_nI gp (by decide), v9 1 (by decide), vp_in_nI gp (by decide), fun z6 e6 => ?_⟩
    have z60 : z6.1 0 = nI (Pn t) := by rw [e6]; exact m0
    have z62 : z6.2.1 17 (9 * k + 2) = nI (nvn T n (pq2 T n a).2 2) := by rw [e6]; exact x2
    rw [z60, z62, cN (by omega), nI_s]
    refine ⟨v9 2 (by decide), vp_in_nI gp (by decide), vp_in_nI gp (by decide), fun z7 e7 => ?_⟩
    rw [(TK_p e).mp h] at hQ
    obtain ⟨y1, y2⟩ := RT_tP (n' := z7) (k := kN (T (a + 1))) (v1 := nvn T n (pq1 T n a).2 1) (v2 := nvn T n (pq2 T n a).2 2) hr gp (by rw [e7, sI_s]) (fun i hi => by rw [e7, sI_i hi, e6]; rfl) (fun c j => by
      rw [e7, e6]
      show (ew_sA (ew_sA (ew_sA (ew_sA m 0 (Pn t) _) 1 (Pn t) _) 2 (Pn t) _) 3 (Pn t) 0).2.1 c j = _
      simp only [sA_get]) (by rw [e7, e6]; rfl)
    exact hQ _ y1 y2
end MC
