/-! town: a paper that comes, the class's side -/
theorem sA_get (t : ew_M) (a i : Nat) (v : Int32) (b j : Nat) : (ew_sA t a i v).2.1 b j = if b = a ∧ j = i then v else t.2.1 b j := by
  by_cases h : b = a
  · subst h
    by_cases h2 : j = i
    · subst h2
      rw [sA_s, if_pos ⟨rfl, rfl⟩]
    · rw [sA_i h2, if_neg (fun z => h2 z.2)]
  · rw [sA_a h, if_neg (fun z => h z.1)]
def hH (c0 c1 : Nat) : Nat → Nat := fun k => if k = 0 then c0 else if k = 1 then c1 else 100 - c0 - c1
theorem hH_b {c0 c1 : Nat} (h : c0 + c1 ≤ 100) (k : Nat) : hH c0 c1 k ≤ 100 := by
  unfold hH
  split
  · omega
  · split <;> omega
theorem hG_p {c0 c1 : Nat} (h : c0 + c1 ≤ 100) : 0 < hG (hH c0 c1) := by
  refine Nat.pos_of_ne_zero fun e => ?_
  have e2 := Nat.eq_zero_of_gcd_eq_zero_right e
  have e3 := Nat.eq_zero_of_gcd_eq_zero_left e
  have e1 := Nat.eq_zero_of_gcd_eq_zero_right e3
  have e0 := Nat.eq_zero_of_gcd_eq_zero_left e3
  have e0 : c0 = 0 := e0
  have e1 : c1 = 0 := e1
  have e2 : 100 - c0 - c1 = 0 := e2
  omega
def TB (t : ew_M) (A b c0 c1 : Nat) (d : Nat → Nat) (i : Nat) (s : ew_M) : Prop :=
  s.1 = t.1 ∧ s.2.2 = t.2.2 ∧ (∀ c, (c < 4 ∨ 11 ≤ c) → s.2.1 c = t.2.1 c) ∧ (∀ c j, 4 ≤ c → c < 9 → j ≠ A → s.2.1 c j = t.2.1 c j) ∧ (s.2.1 4 A = nI b ∧ ∀ c, 5 ≤ c → c < 9 → s.2.1 c A = 0) ∧
  (∀ j, ¬ (A * 3 ≤ j ∧ j < A * 3 + 3) → s.2.1 9 j = t.2.1 9 j) ∧ (∀ k, k < 3 → s.2.1 9 (A * 3 + k) = nI (hH c0 c1 k)) ∧ (∀ j, ¬ (A * 3 ≤ j ∧ j < A * 3 + i) → s.2.1 10 j = t.2.1 10 j) ∧ ∀ k, k < i → s.2.1 10 (A * 3 + k) = nI (d k) - 4
theorem TB.st {t : ew_M} {A b c0 c1 : Nat} {d : Nat → Nat} {i : Nat} {s : ew_M} (h : TB t A b c0 c1 d i s) (hi : i < 3) : TB t A b c0 c1 d (i + 1) (ew_sA s 10 (A * 3 + i) (nI (d i) - 4)) := by
  obtain ⟨h1, h2, h3, h4, ⟨h5, h5b⟩, h6, h7, h8, h9⟩ := h
  refine ⟨h1, h2, fun c hc => ?_, fun c j c1 c2 hj => ?_, ⟨?_, fun c c1 c2 => ?_⟩, fun j hj => ?_, fun k hk => ?_, fun j hj => ?_, fun k hk => ?_⟩
  · rw [sA_a (by omega)]; exact h3 c hc
  · rw [sA_a (by omega)]; exact h4 c j c1 c2 hj
  · rw [sA_a (by omega)]; exact h5
  · rw [sA_a (by omega)]; exact h5b c c1 c2
  · rw [sA_a (by omega)]; exact h6 j hj
  · rw [sA_a (by omega)]; exact h7 k hk
  · rw [sA_i (by omega)]; exact h8 j (by omega)
  · by_cases e : k = i
    · subst e
      rw [sA_s]
    · rw [sA_i (by omega)]
      exact h9 k (by omega)
def TA (t : ew_M) (b c0 c1 : Nat) (d : Nat → Nat) (t' : ew_M) : Prop :=
  (t'.1 1 = nI (An t + 1) ∧ ∀ i, i ≠ 1 → t'.1 i = t.1 i) ∧ ∃ s u, TB t (An t) b c0 c1 d 3 s ∧ TW (hH c0 c1) (An t) 6 s u ∧ t'.2 = u.2
theorem left_i {c0 c1 : Nat} (h0 : c0 < 1000) (h1 : c1 < 1000) : (0 ≤ ((100 : Int32) - nI c0) - nI c1) ↔ c0 + c1 ≤ 100 := by
  have e : (((100 : Int32) - nI c0) - nI c1).toInt = 100 - (c0 : Int) - (c1 : Int) := by
    rw [Int32.toInt_sub, Int32.toInt_sub, nI_toInt (by omega), nI_toInt (by omega), show (100 : Int32).toInt = 100 from rfl, I_bm (x := 100 - (c0 : Int)) (by omega) (by omega), I_bm (by omega) (by omega)]
  rw [Int32.le_iff_toInt_le, e, show (0 : Int32).toInt = 0 from rfl]
  omega
theorem left_e {c0 c1 : Nat} (h : c0 + c1 ≤ 100) : ((100 : Int32) - nI c0) - nI c1 = nI (100 - c0 - c1) := by
  rw [show (100 : Int32) = nI 100 from rfl, pk_sub (by omega), pk_sub (by omega)]
theorem p_num {lt : ew_M} {i : Nat} (hi : i < 6) {Q : Int32 → Prop} (h : Q (lt.2.1 1 i)) : wX0_number Q (nI i) lt := by
  refine ⟨fun z => absurd z (nI_pos (by omega)), fun _ => ⟨fun z => absurd z (nI_ge (a := i) (b := 6) hi (by decide)), fun _ => ⟨vp_in_nI hi (by decide), ?_⟩⟩⟩
  rw [cN (by omega)]
  exact h
theorem p_paper {t lt : ew_M} (hw : wf t) {b c0 c1 : Nat} {d : Nat → Nat} (hb : b < 1024) (h0 : c0 < 1000) (h1 : c1 < 1000) (hd : ∀ k, k < 3 → d k < 10) (hV0 : lt.2.1 1 0 = nI b) (hV1 : lt.2.1 1 1 = nI c0) (hV2 : lt.2.1 1 2 = nI c1) (hV3 : ∀ k, k < 3 → lt.2.1 1 (3 + k) = nI (d k)) {Q : Int32 → ew_M → Prop} (hn : ¬ (An t < 5 ∧ b ≠ 0 ∧ b < 2 ^ Pn t ∧ c0 + c1 ≤ 100) → Q 0 t) (hy : An t < 5 → b ≠ 0 → b < 2 ^ Pn t → c0 + c1 ≤ 100 → ∀ t', TA t b c0 c1 d t' → Q 1 t') : wX3_takesPaper Q t lt := by
  obtain ⟨eP, hP⟩ := hw.P
  obtain ⟨eA, hA⟩ := hw.A
  refine p_num (i := 0) (by decide) (p_num (i := 1) (by decide) (p_num (i := 2) (by decide) ?_))
  rw [hV0, hV1, hV2, eA, eP, sh_d _ (by omega)]
  have pp : 2 ^ Pn t < 1024 := (show 2 ^ Pn t < 2 ^ 10 from Nat.pow_lt_pow_right (by decide) (by omega))
  refine ⟨fun z => hn fun y => ?_, fun z1 => ⟨fun z => hn fun y => ?_, fun z2 => ⟨fun z => hn fun y => ?_, fun z3 => ⟨fun z => ?_, fun z => hn fun y => ?_⟩⟩⟩⟩
  · have := (nI_leI (a := 5) (b := An t) (by decide) (by omega)).mp z
    omega
  · have z : b = 0 := (nI_eq (a := b) (b := 0) (by omega) (by decide)).mp z
    exact y.2.1 z
  · have := (nI_leI (a := 2 ^ Pn t) (b := b) (by omega) (by omega)).mp z
    omega
  · have A5 : An t < 5 := Nat.lt_of_not_le fun y => z1 (nI_le (a := 5) (b := An t) y (by omega))
    have b0 : b ≠ 0 := fun e => z2 (by rw [e]; rfl)
    have bP : b < 2 ^ Pn t := Nat.lt_of_not_le fun y => z3 (nI_le y (by omega))
    rw [left_i h0 h1] at z
    have hy := hy A5 b0 bP z
    rw [cN (by omega), left_e z]
    refine ⟨vp_in_nI A5 (by decide), vp_in_nI A5 (by decide), vp_in_nI A5 (by decide), vp_in_nI A5 (by decide), fun z11 e11 => ?_⟩
    have ez1 : z11.1 1 = nI (An t) := by rw [e11]; exact eA
    rw [ez1]
    refine ⟨vp_in_nI A5 (by decide), p_num (i := 1) (by decide) ?_⟩
    have i0 : nI (An t) * (3 : Int32) = nI (An t * 3) := by rw [show (3 : Int32) = nI 3 from rfl, pk_mul]
    rw [i0, pl_1, pl_2, cN (by omega), cN (by omega), cN (by omega), cN (by omega)]
    refine ⟨vp_in_nI (by omega) (by decide), p_num (i := 2) (by decide) ⟨vp_in_nI (by omega) (by decide), fun z16 e16 => ⟨vp_in_nI (by omega) (by decide), ?_⟩⟩⟩
    rw [hV1, hV2] at e16
    have hB : TB t (An t) b c0 c1 d 0 (ew_sA z16 9 (An t * 3 + 2) (nI (100 - c0 - c1))) := by
      have g : ∀ c j, (ew_sA z16 9 (An t * 3 + 2) (nI (100 - c0 - c1))).2.1 c j = if c = 9 ∧ j = An t * 3 + 2 then nI (100 - c0 - c1) else if c = 9 ∧ j = An t * 3 + 1 then nI c1 else if c = 9 ∧ j = An t * 3 then nI c0 else if c = 8 ∧ j = An t then 0 else if c = 7 ∧ j = An t then 0 else if c = 6 ∧ j = An t then 0 else if c = 5 ∧ j = An t then 0 else if c = 4 ∧ j = An t then nI b else t.2.1 c j := fun c j => by
        rw [e16, e11]
        simp only [sA_get]
      refine ⟨by rw [e16, e11]; rfl, by rw [e16, e11]; rfl, fun c hc => ?_, fun c j c1' c2' hj => ?_, ⟨?_, fun c c1' c2' => ?_⟩, fun j hj => ?_, fun k hk => ?_, fun j hj => ?_, fun k hk => absurd hk (by omega)⟩
      · funext j
        rw [g, if_neg (by omega), if_neg (by omega), if_neg (by omega), if_neg (by omega), if_neg (by omega), if_neg (by omega), if_neg (by omega), if_neg (by omega)]
      · rw [g, if_neg (by omega), if_neg (by omega), if_neg (by omega), if_neg (by omega), if_neg (by omega), if_neg (by omega), if_neg (by omega), if_neg (by omega)]
      · rw [g, if_neg (by omega), if_neg (by omega), if_neg (by omega), if_neg (by omega), if_neg (by omega), if_neg (by omega), if_neg (by omega), if_pos ⟨rfl, rfl⟩]
      · rw [g, if_neg (by omega), if_neg (by omega), if_neg (by omega)]
        rcases (show c = 5 ∨ c = 6 ∨ c = 7 ∨ c = 8 by omega) with e | e | e | e <;> subst e <;> simp
      · rw [g, if_neg (by omega), if_neg (by omega), if_neg (by omega), if_neg (by omega), if_neg (by omega), if_neg (by omega), if_neg (by omega), if_neg (by omega)]
      · rw [g]
        rcases (show k = 0 ∨ k = 1 ∨ k = 2 by omega) with e | e | e
        · subst e
          rw [if_neg (by omega), if_neg (by omega), if_pos ⟨rfl, by omega⟩]; rfl
        · subst e
          rw [if_neg (by omega), if_pos ⟨rfl, rfl⟩]; rfl
        · subst e
          rw [if_pos ⟨rfl, rfl⟩]; rfl
      · rw [g, if_neg (by omega), if_neg (by omega), if_neg (by omega), if_neg (by omega), if_neg (by omega), if_neg (by omega), if_neg (by omega), if_neg (by omega)]
    generalize ew_sA z16 9 (An t * 3 + 2) (nI (100 - c0 - c1)) = s0 at hB ⊢
    refine ew_forI 3 (fun i y => ∃ s, y = (nI i, s) ∧ TB t (An t) b c0 c1 d i s) (fun i R y hi hI hR => ?_) (fun R y hI => ?_) ⟨s0, rfl, hB⟩
    · obtain ⟨s, rfl, hs⟩ := hI
      refine ⟨fun q => absurd q (nI_ge (a := i) (b := 3) hi (by decide)), fun _ => ?_⟩
      show wX0_number _ (nI 3 + nI i) lt
      rw [show nI 3 + nI i = nI (3 + i) by rw [nI_add]]
      refine p_num (i := 3 + i) (by omega) ?_
      show vp_in (nI (An t * 3) + nI i) 15 ∧ R (nI i + 1, ew_sA s 10 (nI (An t * 3) + nI i).toNatClampNeg (lt.2.1 1 (3 + i) - 4))
      rw [nI_add, cN (by omega), hV3 i hi, nI_s]
      exact ⟨vp_in_nI (by omega) (by decide), hR _ ⟨_, rfl, hs.st hi⟩⟩
    · obtain ⟨s, rfl, hs⟩ := hI
      refine ⟨fun _ => ?_, fun q => absurd (nI_le (a := 3) (b := 3) (by decide) (by decide)) q⟩
      refine ew_forI 6 (fun i y => ∃ u, y = (nI i, u) ∧ TW (hH c0 c1) (An t) i s u) (fun i R y hi hI hR => ?_) (fun R y hI => ?_) ⟨s, rfl, TW.z _ _ _⟩
      · obtain ⟨u, rfl, hu⟩ := hI
        have u1 : u.1 1 = nI (An t) := by rw [hu.1, hs.1]; exact eA
        refine ⟨fun q => absurd q (nI_ge (a := i) (b := 6) hi (by decide)), fun _ => ?_⟩
        dsimp only
        rw [u1]
        refine p_wei A5 hi (hG_p z) (fun k hk => ⟨hH_b z k, hs.2.2.2.2.2.2.1 k hk⟩) hu fun n hn => ?_
        rw [nI_s]
        exact hR _ ⟨n, rfl, hn⟩
      · obtain ⟨u, rfl, hu⟩ := hI
        refine ⟨fun _ => hy _ ⟨⟨?_, fun i hi => ?_⟩, s, u, hs, hu, rfl⟩, fun q => absurd (nI_le (a := 6) (b := 6) (by decide) (by decide)) q⟩
        · rw [sI_s, hu.1, hs.1, eA, nI_s]
        · rw [sI_i hi, hu.1, hs.1]
  · rw [left_i h0 h1] at z
    exact z y.2.2.2
