/-! the image: taken, and laid back -/
def CB (lo hi : Nat) (f : Nat → Nat) (P : Nat → Nat → Prop) (m n : ew_M) : Prop := n.1 = m.1 ∧ n.2.2 = m.2.2 ∧ (∀ b, ¬ (lo ≤ b ∧ b < hi) → n.2.1 b = m.2.1 b) ∧ ∀ d, lo ≤ d → d < hi → ∀ j, P d j → n.2.1 d j = m.2.1 (f d) j
theorem CB.st {lo hi : Nat} {f : Nat → Nat} {P : Nat → Nat → Prop} {m n : ew_M} (h : CB lo hi f P m n) {d i : Nat} {v : Int32} (hd : lo ≤ d ∧ d < hi) (hv : v = m.2.1 (f d) i) : CB lo hi f (fun e j => P e j ∨ (e = d ∧ j = i)) m (ew_sA n d i v) := by
  obtain ⟨h1, h2, h3, h4⟩ := h
  refine ⟨h1, h2, fun b hb => ?_, fun e e1 e2 j hj => ?_⟩
  · rw [sA_a (fun z => hb (by rw [z]; exact hd))]
    exact h3 b hb
  · by_cases z : e = d
    · subst z
      by_cases y : j = i
      · subst y
        rw [sA_s, hv]
      · rw [sA_i y]
        exact h4 e e1 e2 j (hj.resolve_right (fun q => y q.2))
    · rw [sA_a z]
      exact h4 e e1 e2 j (hj.resolve_right (fun q => z q.1))
theorem CB.mo {lo hi : Nat} {f : Nat → Nat} {P P' : Nat → Nat → Prop} {m n : ew_M} (h : CB lo hi f P m n) (hP : ∀ d, lo ≤ d → d < hi → ∀ j, P' d j → P d j) : CB lo hi f P' m n := ⟨h.1, h.2.1, h.2.2.1, fun d d1 d2 j hj => h.2.2.2 d d1 d2 j (hP d d1 d2 j hj)⟩
theorem CB.sr {lo hi : Nat} {f : Nat → Nat} {P : Nat → Nat → Prop} {m n : ew_M} (h : CB lo hi f P m n) {b : Nat} (hb : ¬ (lo ≤ b ∧ b < hi)) (i : Nat) : n.2.1 b i = m.2.1 b i := by rw [h.2.2.1 b hb]
theorem m_imgL {m : ew_M} {Q : Int32 → ew_M → Prop} (h : ∀ n q, CB 24 36 (fun d => d - 24) (fun d j => (d < 28 ∧ j < 6) ∨ ((d = 28 ∨ (31 ≤ d ∧ d < 35)) ∧ j < 5) ∨ ((d = 29 ∨ d = 30) ∧ j < 15) ∨ (d = 35 ∧ j < 30)) m n → W1 2 0 n q 90 → Q (q.1 17) q) : ew_lp (fun (R : Int32 × ew_M → Prop) (x : Int32 × ew_M) => wX5_image_47 R Q x.1 x.2) ((0 : Int32), m) := by
  refine ew_forI 6 (fun i y => ∃ n, y = (nI i, n) ∧ CB 24 36 (fun d => d - 24) (fun d j => d < 28 ∧ j < i) m n) (fun i R y hi hI hR => ?_) (fun R y hI => ?_) ⟨m, rfl, rfl, rfl, fun _ _ => rfl, fun d _ _ j hj => absurd hj.2 (by omega)⟩
  · obtain ⟨n, rfl, hn⟩ := hI
    refine ⟨fun q => absurd q (nI_ge (a := i) (b := 6) hi (by decide)), fun _ => ⟨vp_in_nI hi (by decide), vp_in_nI hi (by decide), vp_in_nI hi (by decide), vp_in_nI hi (by decide), vp_in_nI hi (by decide), vp_in_nI hi (by decide), fun z hz => ⟨vp_in_nI hi (by decide), vp_in_nI hi (by decide), ?_⟩⟩⟩
    have hz : z = ew_sA (ew_sA (ew_sA n 24 (nI i).toNatClampNeg (n.2.1 0 (nI i).toNatClampNeg)) 25 (nI i).toNatClampNeg (n.2.1 1 (nI i).toNatClampNeg)) 26 (nI i).toNatClampNeg (n.2.1 2 (nI i).toNatClampNeg) := hz
    rw [cN (by omega)] at hz
    have g := ((hn.st (d := 24) (i := i) (v := n.2.1 0 i) (by omega) (hn.sr (by omega) i)).st (d := 25) (i := i) (v := n.2.1 1 i) (by omega) (hn.sr (by omega) i)).st (d := 26) (i := i) (v := n.2.1 2 i) (by omega) (hn.sr (by omega) i)
    rw [← hz] at g
    show R (nI i + 1, ew_sA z 27 (nI i).toNatClampNeg (z.2.1 3 (nI i).toNatClampNeg))
    rw [cN (by omega), nI_s]
    exact hR _ ⟨_, rfl, (g.st (d := 27) (i := i) (v := z.2.1 3 i) (by omega) (g.sr (by omega) i)).mo (fun d d1 d2 j hj => by omega)⟩
  · obtain ⟨n, rfl, hn⟩ := hI
    refine ⟨fun _ => ?_, fun q => absurd (nI_le (a := 6) (b := 6) (by decide) (by decide)) q⟩
    refine ew_forI 5 (fun i y => ∃ n, y = (nI i, n) ∧ CB 24 36 (fun d => d - 24) (fun d j => (d < 28 ∧ j < 6) ∨ ((d = 28 ∨ (31 ≤ d ∧ d < 35)) ∧ j < i)) m n) (fun i R y hi hI hR => ?_) (fun R y hI => ?_) ⟨n, rfl, hn.mo (fun d d1 d2 j hj => by omega)⟩
    · obtain ⟨n, rfl, hn⟩ := hI
      refine ⟨fun q => absurd q (nI_ge (a := i) (b := 5) hi (by decide)), fun _ => ⟨vp_in_nI hi (by decide), vp_in_nI hi (by decide), vp_in_nI hi (by decide), vp_in_nI hi (by decide), vp_in_nI hi (by decide), vp_in_nI hi (by decide), fun z hz => ⟨vp_in_nI hi (by decide), vp_in_nI hi (by decide), vp_in_nI hi (by decide), vp_in_nI hi (by decide), ?_⟩⟩⟩
      have hz : z = ew_sA (ew_sA (ew_sA n 28 (nI i).toNatClampNeg (n.2.1 4 (nI i).toNatClampNeg)) 31 (nI i).toNatClampNeg (n.2.1 7 (nI i).toNatClampNeg)) 32 (nI i).toNatClampNeg (n.2.1 8 (nI i).toNatClampNeg) := hz
      rw [cN (by omega)] at hz
      have g := ((hn.st (d := 28) (i := i) (v := n.2.1 4 i) (by omega) (hn.sr (by omega) i)).st (d := 31) (i := i) (v := n.2.1 7 i) (by omega) (hn.sr (by omega) i)).st (d := 32) (i := i) (v := n.2.1 8 i) (by omega) (hn.sr (by omega) i)
      rw [← hz] at g
      show R (nI i + 1, ew_sA (ew_sA z 33 (nI i).toNatClampNeg (z.2.1 9 (nI i).toNatClampNeg)) 34 (nI i).toNatClampNeg (z.2.1 10 (nI i).toNatClampNeg))
      rw [cN (by omega), nI_s]
      exact hR _ ⟨_, rfl, ((g.st (d := 33) (i := i) (v := z.2.1 9 i) (by omega) (g.sr (by omega) i)).st (d := 34) (i := i) (v := z.2.1 10 i) (by omega) (g.sr (by omega) i)).mo (fun d d1 d2 j hj => by omega)⟩
    · obtain ⟨n, rfl, hn⟩ := hI
      refine ⟨fun _ => ?_, fun q => absurd (nI_le (a := 5) (b := 5) (by decide) (by decide)) q⟩
      refine ew_forI 15 (fun i y => ∃ n, y = (nI i, n) ∧ CB 24 36 (fun d => d - 24) (fun d j => (d < 28 ∧ j < 6) ∨ ((d = 28 ∨ (31 ≤ d ∧ d < 35)) ∧ j < 5) ∨ ((d = 29 ∨ d = 30) ∧ j < i)) m n) (fun i R y hi hI hR => ?_) (fun R y hI => ?_) ⟨n, rfl, hn.mo (fun d d1 d2 j hj => by omega)⟩
      · obtain ⟨n, rfl, hn⟩ := hI
        refine ⟨fun q => absurd q (nI_ge (a := i) (b := 15) hi (by decide)), fun _ => ⟨vp_in_nI hi (by decide), vp_in_nI hi (by decide), vp_in_nI hi (by decide), vp_in_nI hi (by decide), ?_⟩⟩
        show R (nI i + 1, ew_sA (ew_sA n 29 (nI i).toNatClampNeg (n.2.1 5 (nI i).toNatClampNeg)) 30 (nI i).toNatClampNeg (n.2.1 6 (nI i).toNatClampNeg))
        rw [cN (by omega), nI_s]
        exact hR _ ⟨_, rfl, ((hn.st (d := 29) (i := i) (v := n.2.1 5 i) (by omega) (hn.sr (by omega) i)).st (d := 30) (i := i) (v := n.2.1 6 i) (by omega) (hn.sr (by omega) i)).mo (fun d d1 d2 j hj => by omega)⟩
      · obtain ⟨n, rfl, hn⟩ := hI
        refine ⟨fun _ => ?_, fun q => absurd (nI_le (a := 15) (b := 15) (by decide) (by decide)) q⟩
        refine ew_forI 30 (fun i y => ∃ n, y = (nI i, n) ∧ CB 24 36 (fun d => d - 24) (fun d j => (d < 28 ∧ j < 6) ∨ ((d = 28 ∨ (31 ≤ d ∧ d < 35)) ∧ j < 5) ∨ ((d = 29 ∨ d = 30) ∧ j < 15) ∨ (d = 35 ∧ j < i)) m n) (fun i R y hi hI hR => ?_) (fun R y hI => ?_) ⟨n, rfl, hn.mo (fun d d1 d2 j hj => by omega)⟩
        · obtain ⟨n, rfl, hn⟩ := hI
          refine ⟨fun q => absurd q (nI_ge (a := i) (b := 30) hi (by decide)), fun _ => ⟨vp_in_nI hi (by decide), vp_in_nI hi (by decide), ?_⟩⟩
          show R (nI i + 1, ew_sA n 35 (nI i).toNatClampNeg (n.2.1 11 (nI i).toNatClampNeg))
          rw [cN (by omega), nI_s]
          exact hR _ ⟨_, rfl, (hn.st (d := 35) (i := i) (v := n.2.1 11 i) (by omega) (hn.sr (by omega) i)).mo (fun d d1 d2 j hj => by omega)⟩
        · obtain ⟨n, rfl, hn⟩ := hI
          refine ⟨fun _ => ?_, fun q => absurd (nI_le (a := 30) (b := 30) (by decide) (by decide)) q⟩
          refine ew_forI 90 (fun i y => ∃ q, y = (nI i, q) ∧ W1 2 0 n q i) (fun i R y hi hI hR => ?_) (fun R y hI => ?_) ⟨n, rfl, rfl, rfl, fun _ _ => rfl, fun j hj => absurd hj (by omega)⟩
          · obtain ⟨q, rfl, hq⟩ := hI
            refine ⟨fun z => absurd z (nI_ge (a := i) (b := 90) hi (by decide)), fun _ => ⟨vp_in_nI hi (by decide), vp_in_nI hi (by decide), ?_⟩⟩
            show R (nI i + 1, ew_sW q 2 (nI i).toNatClampNeg (q.2.2 0 (nI i).toNatClampNeg))
            rw [cN (by omega), nI_s]
            exact hR _ ⟨_, rfl, hq.step (by decide)⟩
          · obtain ⟨q, rfl, hq⟩ := hI
            exact ⟨fun _ => h n q hn hq, fun z => absurd (nI_le (a := 90) (b := 90) (by decide) (by decide)) z⟩
theorem m_onL {m : ew_M} {Q : Int32 → ew_M → Prop} (h : ∀ n q, CB 0 12 (fun d => d + 24) (fun d j => (d < 4 ∧ j < 6) ∨ ((d = 4 ∨ (7 ≤ d ∧ d < 11)) ∧ j < 5) ∨ ((d = 5 ∨ d = 6) ∧ j < 15) ∨ (d = 11 ∧ j < 30)) m n → W1 0 2 n q 90 → Q (q.1 17) q) : ew_lp (fun (R : Int32 × ew_M → Prop) (x : Int32 × ew_M) => wX5_on_56 R Q x.1 x.2) ((0 : Int32), m) := by
  refine ew_forI 6 (fun i y => ∃ n, y = (nI i, n) ∧ CB 0 12 (fun d => d + 24) (fun d j => d < 4 ∧ j < i) m n) (fun i R y hi hI hR => ?_) (fun R y hI => ?_) ⟨m, rfl, rfl, rfl, fun _ _ => rfl, fun d _ _ j hj => absurd hj.2 (by omega)⟩
  · obtain ⟨n, rfl, hn⟩ := hI
    refine ⟨fun q => absurd q (nI_ge (a := i) (b := 6) hi (by decide)), fun _ => ⟨vp_in_nI hi (by decide), vp_in_nI hi (by decide), vp_in_nI hi (by decide), vp_in_nI hi (by decide), vp_in_nI hi (by decide), vp_in_nI hi (by decide), fun z hz => ⟨vp_in_nI hi (by decide), vp_in_nI hi (by decide), ?_⟩⟩⟩
    have hz : z = ew_sA (ew_sA (ew_sA n 0 (nI i).toNatClampNeg (n.2.1 24 (nI i).toNatClampNeg)) 1 (nI i).toNatClampNeg (n.2.1 25 (nI i).toNatClampNeg)) 2 (nI i).toNatClampNeg (n.2.1 26 (nI i).toNatClampNeg) := hz
    rw [cN (by omega)] at hz
    have g := ((hn.st (d := 0) (i := i) (v := n.2.1 24 i) (by omega) (hn.sr (by omega) i)).st (d := 1) (i := i) (v := n.2.1 25 i) (by omega) (hn.sr (by omega) i)).st (d := 2) (i := i) (v := n.2.1 26 i) (by omega) (hn.sr (by omega) i)
    rw [← hz] at g
    show R (nI i + 1, ew_sA z 3 (nI i).toNatClampNeg (z.2.1 27 (nI i).toNatClampNeg))
    rw [cN (by omega), nI_s]
    exact hR _ ⟨_, rfl, (g.st (d := 3) (i := i) (v := z.2.1 27 i) (by omega) (g.sr (by omega) i)).mo (fun d d1 d2 j hj => by omega)⟩
  · obtain ⟨n, rfl, hn⟩ := hI
    refine ⟨fun _ => ?_, fun q => absurd (nI_le (a := 6) (b := 6) (by decide) (by decide)) q⟩
    refine ew_forI 5 (fun i y => ∃ n, y = (nI i, n) ∧ CB 0 12 (fun d => d + 24) (fun d j => (d < 4 ∧ j < 6) ∨ ((d = 4 ∨ (7 ≤ d ∧ d < 11)) ∧ j < i)) m n) (fun i R y hi hI hR => ?_) (fun R y hI => ?_) ⟨n, rfl, hn.mo (fun d d1 d2 j hj => by omega)⟩
    · obtain ⟨n, rfl, hn⟩ := hI
      refine ⟨fun q => absurd q (nI_ge (a := i) (b := 5) hi (by decide)), fun _ => ⟨vp_in_nI hi (by decide), vp_in_nI hi (by decide), vp_in_nI hi (by decide), vp_in_nI hi (by decide), vp_in_nI hi (by decide), vp_in_nI hi (by decide), fun z hz => ⟨vp_in_nI hi (by decide), vp_in_nI hi (by decide), vp_in_nI hi (by decide), vp_in_nI hi (by decide), ?_⟩⟩⟩
      have hz : z = ew_sA (ew_sA (ew_sA n 4 (nI i).toNatClampNeg (n.2.1 28 (nI i).toNatClampNeg)) 7 (nI i).toNatClampNeg (n.2.1 31 (nI i).toNatClampNeg)) 8 (nI i).toNatClampNeg (n.2.1 32 (nI i).toNatClampNeg) := hz
      rw [cN (by omega)] at hz
      have g := ((hn.st (d := 4) (i := i) (v := n.2.1 28 i) (by omega) (hn.sr (by omega) i)).st (d := 7) (i := i) (v := n.2.1 31 i) (by omega) (hn.sr (by omega) i)).st (d := 8) (i := i) (v := n.2.1 32 i) (by omega) (hn.sr (by omega) i)
      rw [← hz] at g
      show R (nI i + 1, ew_sA (ew_sA z 9 (nI i).toNatClampNeg (z.2.1 33 (nI i).toNatClampNeg)) 10 (nI i).toNatClampNeg (z.2.1 34 (nI i).toNatClampNeg))
      rw [cN (by omega), nI_s]
      exact hR _ ⟨_, rfl, ((g.st (d := 9) (i := i) (v := z.2.1 33 i) (by omega) (g.sr (by omega) i)).st (d := 10) (i := i) (v := z.2.1 34 i) (by omega) (g.sr (by omega) i)).mo (fun d d1 d2 j hj => by omega)⟩
    · obtain ⟨n, rfl, hn⟩ := hI
      refine ⟨fun _ => ?_, fun q => absurd (nI_le (a := 5) (b := 5) (by decide) (by decide)) q⟩
      refine ew_forI 15 (fun i y => ∃ n, y = (nI i, n) ∧ CB 0 12 (fun d => d + 24) (fun d j => (d < 4 ∧ j < 6) ∨ ((d = 4 ∨ (7 ≤ d ∧ d < 11)) ∧ j < 5) ∨ ((d = 5 ∨ d = 6) ∧ j < i)) m n) (fun i R y hi hI hR => ?_) (fun R y hI => ?_) ⟨n, rfl, hn.mo (fun d d1 d2 j hj => by omega)⟩
      · obtain ⟨n, rfl, hn⟩ := hI
        refine ⟨fun q => absurd q (nI_ge (a := i) (b := 15) hi (by decide)), fun _ => ⟨vp_in_nI hi (by decide), vp_in_nI hi (by decide), vp_in_nI hi (by decide), vp_in_nI hi (by decide), ?_⟩⟩
        show R (nI i + 1, ew_sA (ew_sA n 5 (nI i).toNatClampNeg (n.2.1 29 (nI i).toNatClampNeg)) 6 (nI i).toNatClampNeg (n.2.1 30 (nI i).toNatClampNeg))
        rw [cN (by omega), nI_s]
        exact hR _ ⟨_, rfl, ((hn.st (d := 5) (i := i) (v := n.2.1 29 i) (by omega) (hn.sr (by omega) i)).st (d := 6) (i := i) (v := n.2.1 30 i) (by omega) (hn.sr (by omega) i)).mo (fun d d1 d2 j hj => by omega)⟩
      · obtain ⟨n, rfl, hn⟩ := hI
        refine ⟨fun _ => ?_, fun q => absurd (nI_le (a := 15) (b := 15) (by decide) (by decide)) q⟩
        refine ew_forI 30 (fun i y => ∃ n, y = (nI i, n) ∧ CB 0 12 (fun d => d + 24) (fun d j => (d < 4 ∧ j < 6) ∨ ((d = 4 ∨ (7 ≤ d ∧ d < 11)) ∧ j < 5) ∨ ((d = 5 ∨ d = 6) ∧ j < 15) ∨ (d = 11 ∧ j < i)) m n) (fun i R y hi hI hR => ?_) (fun R y hI => ?_) ⟨n, rfl, hn.mo (fun d d1 d2 j hj => by omega)⟩
        · obtain ⟨n, rfl, hn⟩ := hI
          refine ⟨fun q => absurd q (nI_ge (a := i) (b := 30) hi (by decide)), fun _ => ⟨vp_in_nI hi (by decide), vp_in_nI hi (by decide), ?_⟩⟩
          show R (nI i + 1, ew_sA n 11 (nI i).toNatClampNeg (n.2.1 35 (nI i).toNatClampNeg))
          rw [cN (by omega), nI_s]
          exact hR _ ⟨_, rfl, (hn.st (d := 11) (i := i) (v := n.2.1 35 i) (by omega) (hn.sr (by omega) i)).mo (fun d d1 d2 j hj => by omega)⟩
        · obtain ⟨n, rfl, hn⟩ := hI
          refine ⟨fun _ => ?_, fun q => absurd (nI_le (a := 30) (b := 30) (by decide) (by decide)) q⟩
          refine ew_forI 90 (fun i y => ∃ q, y = (nI i, q) ∧ W1 0 2 n q i) (fun i R y hi hI hR => ?_) (fun R y hI => ?_) ⟨n, rfl, rfl, rfl, fun _ _ => rfl, fun j hj => absurd hj (by omega)⟩
          · obtain ⟨q, rfl, hq⟩ := hI
            refine ⟨fun z => absurd z (nI_ge (a := i) (b := 90) hi (by decide)), fun _ => ⟨vp_in_nI hi (by decide), vp_in_nI hi (by decide), ?_⟩⟩
            show R (nI i + 1, ew_sW q 0 (nI i).toNatClampNeg (q.2.2 2 (nI i).toNatClampNeg))
            rw [cN (by omega), nI_s]
            exact hR _ ⟨_, rfl, hq.step (by decide)⟩
          · obtain ⟨q, rfl, hq⟩ := hI
            exact ⟨fun _ => h n q hn hq, fun z => absurd (nI_le (a := 90) (b := 90) (by decide) (by decide)) z⟩
section REL
variable {a b c lt ra xs m : ew_M}
/-- image -/
theorem s_image (hR : Rel a c lt xs m) : wX4_image (fun r c' xs' => wX5_image (fun r' m' => r = r' ∧ Rel a c' lt xs' m') m) a b c lt ra xs := by
  obtain ⟨⟨h1, h2, h3⟩, h4, ⟨h5, h5b, h5c⟩, ⟨h6, h6b, h6c⟩, h7⟩ := hR
  have hA := h1.A.2
  show wX5_image (fun r' m' => a.1 4 = r' ∧ Rel a a lt (ew_sI xs 0 1) m') m
  refine m_imgL fun n q hn hq => ?_
  obtain ⟨n1, n2, n3, n4⟩ := hn
  obtain ⟨q1, q2, q3, q4⟩ := hq
  have ei : ∀ i, i < 41 → q.1 i = m.1 i := fun i hi => by
    rw [q1, n1, sI_i (by omega), sI_i (by omega), sI_i (by omega), sI_i (by omega), sI_i (by omega), sI_i (by omega)]
  have eb : ∀ b, b < 24 → q.2.1 b = m.2.1 b := fun b hb => by rw [q2]; exact n3 b (by omega)
  have e0 : q.2.2 0 = m.2.2 0 := by rw [q3 0 (by decide), n2]; rfl
  obtain ⟨⟨r0, r5, r15, r16, r17⟩, rp, rA, rk, rh, rw'⟩ := h2
  refine ⟨by rw [ei 17 (by decide)]; exact r17.symm, ⟨h1, RT.cong ⟨⟨r0, r5, r15, r16, r17⟩, rp, rA, rk, rh, rw'⟩ ⟨ei 0 (by decide), ei 5 (by decide), ei 15 (by decide), ei 16 (by decide), ei 17 (by decide)⟩ (fun b hb => eb b (by omega)) e0, by rw [ei 29 (by decide)]; exact h3⟩, fun k hk => ?_, ⟨?_, ?_, fun j hj => ?_⟩, ⟨?_, h6b, fun j hj => ?_⟩, Or.inr ⟨sI_s _ _ _, ?_, h1, ⟨?_, ?_, ?_, ?_, ?_⟩, fun j hj => ?_, fun k hk => ?_, fun k hk => ?_, fun k hk => ?_, fun k p t hk hp ht => ?_⟩⟩
  · rw [eb 14 (by decide)]; exact h4 k hk
  · rw [ei 20 (by decide), sI_i (by decide)]; exact h5
  · rw [sI_i (by decide)]; exact h5b
  · rw [eb 13 (by decide)]; exact h5c j hj
  · rw [ei 18 (by decide)]; exact h6
  · rw [eb 12 (by decide)]; exact h6c j hj
  · rw [q1, n1, sI_i (by decide), sI_i (by decide), sI_i (by decide), sI_i (by decide), sI_i (by decide), sI_s]
  · rw [q1, n1, sI_i (by decide), sI_i (by decide), sI_i (by decide), sI_i (by decide), sI_s]
    exact r0
  · rw [q1, n1, sI_i (by decide), sI_i (by decide), sI_i (by decide), sI_s]
    exact r5
  · rw [q1, n1, sI_i (by decide), sI_i (by decide), sI_s]
    exact r15
  · rw [q1, n1, sI_i (by decide), sI_s]
    exact r16
  · rw [q1, n1, sI_s]
    exact r17
  · rw [q2, n4 24 (by decide) (by decide) j (by omega), n4 25 (by decide) (by decide) j (by omega), n4 26 (by decide) (by decide) j (by omega), n4 27 (by decide) (by decide) j (by omega)]
    exact rp j hj
  · rw [q2, n4 28 (by decide) (by decide) k (by omega), n4 32 (by decide) (by decide) k (by omega), n4 33 (by decide) (by decide) k (by omega), n4 31 (by decide) (by decide) k (by omega), n4 34 (by decide) (by decide) k (by omega)]
    exact rA k hk
  · rw [q2, n4 29 (by decide) (by decide) k (by omega), n4 30 (by decide) (by decide) k (by omega)]
    exact rk k hk
  · rw [q2, n4 35 (by decide) (by decide) k (by omega)]
    exact rh k hk
  · rw [q4 _ (by omega), n2]
    exact rw' k p t hk hp ht
/-- on -/
theorem s_on (hR : Rel a c lt xs m) : wX4_on (fun r a' xs' => wX5_on (fun r' m' => r = r' ∧ Rel a' c lt xs' m') m) a b c lt ra xs := by
  have hR0 := hR
  obtain ⟨⟨h1, h2, h3⟩, h4, ⟨h5, h5b, h5c⟩, ⟨h6, h6b, h6c⟩, h7⟩ := hR
  rcases h7 with ⟨x0, m0⟩ | ⟨x0, m0, hc, hI⟩
  · refine ⟨fun z => absurd x0 z, fun _ => p_refuse (k := 3) (by decide) ⟨fun z => absurd m0 z, fun _ => m_refuse (k := 3) (by decide) (by decide) ⟨by decide, hR0.rf (by decide)⟩⟩⟩
  · refine ⟨fun _ => ?_, fun z => absurd (x0.symm.trans z) (by decide)⟩
    have hA := hc.A.2
    show wX5_on (fun r' m' => c.1 4 = r' ∧ Rel c c lt xs m') m
    refine ⟨fun _ => m_onL fun n q hn hq => ?_, fun z => absurd (m0.symm.trans z) (by decide)⟩
    obtain ⟨n1, n2, n3, n4⟩ := hn
    obtain ⟨q1, q2, q3, q4⟩ := hq
    obtain ⟨⟨r0, r5, r15, r16, r17⟩, rp, rA, rk, rh, rw'⟩ := hI
    have ei : ∀ i, i ≠ 0 → i ≠ 5 → i ≠ 15 → i ≠ 16 → i ≠ 17 → q.1 i = m.1 i := fun i i1 i2 i3 i4 i5 => by
      rw [q1, n1, sI_i i5, sI_i i4, sI_i i3, sI_i i2, sI_i i1]
    have eb : ∀ b, 12 ≤ b → q.2.1 b = m.2.1 b := fun b hb => by rw [q2]; exact n3 b (by omega)
    have e2 : q.2.2 2 = m.2.2 2 := by rw [q3 2 (by decide), n2]; rfl
    have e17 : q.1 17 = c.1 4 := by
      rw [q1, n1, sI_s]
      exact r17
    have hI2 : RI c q := RI.cg ⟨⟨r0, r5, r15, r16, r17⟩, rp, rA, rk, rh, rw'⟩ (fun i hi => ei i (by omega) (by omega) (by omega) (by omega) (by omega)) (fun b hb => eb b (by omega)) e2
    refine ⟨e17.symm, ⟨hc, ⟨⟨?_, ?_, ?_, ?_, e17⟩, fun j hj => ?_, fun k hk => ?_, fun k hk => ?_, fun k hk => ?_, fun k p t hk hp ht => ?_⟩, ?_⟩, fun k hk => ?_, ⟨?_, h5b, fun j hj => ?_⟩, ⟨?_, h6b, fun j hj => ?_⟩, Or.inr ⟨x0, ?_, hc, hI2⟩⟩
    · rw [q1, n1, sI_i (by decide), sI_i (by decide), sI_i (by decide), sI_i (by decide), sI_s]
      exact r0
    · rw [q1, n1, sI_i (by decide), sI_i (by decide), sI_i (by decide), sI_s]
      exact r5
    · rw [q1, n1, sI_i (by decide), sI_i (by decide), sI_s]
      exact r15
    · rw [q1, n1, sI_i (by decide), sI_s]
      exact r16
    · rw [q2, n4 0 (by decide) (by decide) j (by omega), n4 1 (by decide) (by decide) j (by omega), n4 2 (by decide) (by decide) j (by omega), n4 3 (by decide) (by decide) j (by omega)]
      exact rp j hj
    · rw [q2, n4 4 (by decide) (by decide) k (by omega), n4 8 (by decide) (by decide) k (by omega), n4 9 (by decide) (by decide) k (by omega), n4 7 (by decide) (by decide) k (by omega), n4 10 (by decide) (by decide) k (by omega)]
      exact rA k hk
    · rw [q2, n4 5 (by decide) (by decide) k (by omega), n4 6 (by decide) (by decide) k (by omega)]
      exact rk k hk
    · rw [q2, n4 11 (by decide) (by decide) k (by omega)]
      exact rh k hk
    · rw [q4 _ (by omega), n2]
      exact rw' k p t hk hp ht
    · rw [ei 29 (by decide) (by decide) (by decide) (by decide) (by decide)]; exact h3
    · rw [eb 14 (by decide)]; exact h4 k hk
    · rw [ei 20 (by decide) (by decide) (by decide) (by decide) (by decide)]; exact h5
    · rw [eb 13 (by decide)]; exact h5c j hj
    · rw [ei 18 (by decide) (by decide) (by decide) (by decide) (by decide)]; exact h6
    · rw [eb 12 (by decide)]; exact h6c j hj
    · rw [ei 41 (by decide) (by decide) (by decide) (by decide) (by decide)]; exact m0
end REL
