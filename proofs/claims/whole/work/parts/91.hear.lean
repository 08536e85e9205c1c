/-! what the clerk says -/
def gU (t : ew_M) (f : Nat) : Nat → Nat
  | 0 => 0
  | i + 1 => Nat.gcd (gU t f i) (t.2.2 0 (f + i)).toInt.toNat
theorem gU_3 (t : ew_M) (f : Nat) : gU t f 3 = g3 t f := by
  show Nat.gcd (Nat.gcd (Nat.gcd 0 (t.2.2 0 (f + 0)).toInt.toNat) _) _ = _
  rw [Nat.gcd_zero_left]
  rfl
theorem gU_lt (t : ew_M) (f : Nat) : ∀ i, gU t f i < 9223372036854775808
  | 0 => by
    show 0 < _
    decide
  | i + 1 => by
    have h := gU_lt t f i
    have l := L_lt (t.2.2 0 (f + i))
    show Nat.gcd _ _ < _
    by_cases q : (t.2.2 0 (f + i)).toInt.toNat = 0
    · rw [q, Nat.gcd_zero_right]
      exact h
    · have := Nat.gcd_le_right (gU t f i) (n := (t.2.2 0 (f + i)).toInt.toNat) (by omega)
      omega
def gL (t : ew_M) (f i : Nat) : Int64 := Int64.ofNat (gU t f i)
theorem gL_i (t : ew_M) (f i : Nat) : (gL t f i).toInt = (gU t f i : Int) := Int64.toInt_ofNat_of_lt (gU_lt t f i)
/-- the weights in lowest terms -/
def LW (t n : ew_M) (f : Nat) : Prop := n.1 = t.1 ∧ n.2.1 = t.2.1 ∧ (∀ b, b ≠ 0 → n.2.2 b = t.2.2 b) ∧ (∀ j, (j < f ∨ f + 3 ≤ j) → n.2.2 0 j = t.2.2 0 j) ∧ ∀ k, k < 3 → (n.2.2 0 (f + k)).toInt = (t.2.2 0 (f + k)).toInt / (g3 t f : Int)
def dvS (t : ew_M) (f : Nat) (G : Int64) : Nat → ew_M
  | 0 => t
  | i + 1 => ew_sW (dvS t f G i) 0 (f + i) ((dvS t f G i).2.2 0 (f + i) / G)
theorem dvS_p (t : ew_M) (f : Nat) (G : Int64) : ∀ i, (dvS t f G i).1 = t.1 ∧ (dvS t f G i).2.1 = t.2.1 ∧ (∀ b, b ≠ 0 → (dvS t f G i).2.2 b = t.2.2 b) ∧ (∀ j, (j < f ∨ f + i ≤ j) → (dvS t f G i).2.2 0 j = t.2.2 0 j) ∧ ∀ k, k < i → (dvS t f G i).2.2 0 (f + k) = t.2.2 0 (f + k) / G
  | 0 => ⟨rfl, rfl, fun _ _ => rfl, fun _ _ => rfl, fun k hk => absurd hk (by omega)⟩
  | i + 1 => by
    obtain ⟨h1, h2, h3, h4, h5⟩ := dvS_p t f G i
    refine ⟨h1, h2, fun b hb => ?_, fun j hj => ?_, fun k hk => ?_⟩
    · show (ew_sW (dvS t f G i) 0 (f + i) _).2.2 b = _
      rw [sW_a hb]
      exact h3 b hb
    · show (ew_sW (dvS t f G i) 0 (f + i) _).2.2 0 j = _
      rw [sW_i (by omega)]
      exact h4 j (by omega)
    · show (ew_sW (dvS t f G i) 0 (f + i) _).2.2 0 (f + k) = _
      by_cases e : k = i
      · subst e
        rw [sW_s, h4 (f + k) (by omega)]
      · rw [sW_i (by omega)]
        exact h5 k (by omega)
theorem dvS_LW {t : ew_M} {f : Nat} {G : Int64} (h0 : ∀ k, k < 3 → 0 ≤ (t.2.2 0 (f + k)).toInt) (hG : G.toInt = (g3 t f : Int)) (hp : 0 < g3 t f) : LW t (dvS t f G 3) f := by
  obtain ⟨h1, h2, h3, h4, h5⟩ := dvS_p t f G 3
  refine ⟨h1, h2, h3, h4, fun k hk => ?_⟩
  rw [h5 k hk, L_div (h0 k hk) (by omega), hG]
theorem loopD {t : ew_M} {f : Nat} (hf : f + 3 ≤ 90) {G : Int64} (nz : ¬ G = 0) {Q : ew_M → Prop} (h : Q (dvS t f G 3)) : ew_lp (fun (R : Int32 × ew_M → Prop) (x : Int32 × ew_M) => wX3_lessenWeights_40 R Q (nI f) G x.1 x.2) ((0 : Int32), t) := by
  refine ew_for 3 (fun i => (nI i, dvS t f G i)) (fun i R hi hR => ?_) (fun R => ?_)
  · refine ⟨fun q => absurd q (nI_ge (a := i) (b := 3) hi (by decide)), fun _ => ?_⟩
    show vp_in (nI f + nI i) 90 ∧ (¬ G = 0) ∧ vp_in (nI f + nI i) 90 ∧ R (nI i + 1, ew_sW (dvS t f G i) 0 (nI f + nI i).toNatClampNeg ((dvS t f G i).2.2 0 (nI f + nI i).toNatClampNeg / G))
    rw [nI_add, cN (by omega), nI_s]
    exact ⟨vp_in_nI (by omega) (by decide), nz, vp_in_nI (by omega) (by decide), hR⟩
  · exact ⟨fun _ => h, fun q => absurd (nI_le (a := 3) (b := 3) (by decide) (by decide)) q⟩
theorem loopM {t : ew_M} {f : Nat} (hf : f + 3 ≤ 90) {G : Int64} (nz : ¬ G = 0) {Q : ew_M → Prop} (h : Q (dvS t f G 3)) : ew_lp (fun (R : Int32 × ew_M → Prop) (x : Int32 × ew_M) => wX5_least_32 R Q (nI f) G x.1 x.2) ((0 : Int32), t) := by
  refine ew_for 3 (fun i => (nI i, dvS t f G i)) (fun i R hi hR => ?_) (fun R => ?_)
  · refine ⟨fun q => absurd q (nI_ge (a := i) (b := 3) hi (by decide)), fun _ => ?_⟩
    show vp_in (nI f + nI i) 90 ∧ (¬ G = 0) ∧ vp_in (nI f + nI i) 90 ∧ R (nI i + 1, ew_sW (dvS t f G i) 0 (nI f + nI i).toNatClampNeg ((dvS t f G i).2.2 0 (nI f + nI i).toNatClampNeg / G))
    rw [nI_add, cN (by omega), nI_s]
    exact ⟨vp_in_nI (by omega) (by decide), nz, vp_in_nI (by omega) (by decide), hR⟩
  · exact ⟨fun _ => h, fun q => absurd (nI_le (a := 3) (b := 3) (by decide) (by decide)) q⟩
theorem p_less {t : ew_M} {f : Nat} (hf : f + 3 ≤ 90) (h0 : ∀ k, k < 3 → 0 ≤ (t.2.2 0 (f + k)).toInt) (hp : 0 < g3 t f) {Q : ew_M → Prop} (h : ∀ n, LW t n f → Q n) : wX3_lessenWeights Q (nI f) t := by
  have g0 : (gL t f 3).toInt = (g3 t f : Int) := by rw [gL_i, gU_3]
  have nz : ¬ gL t f 3 = 0 := fun q => by rw [L_0] at q; omega
  refine ew_for 3 (fun i => (gL t f i, nI i)) (fun i R hi hR => ?_) (fun R => ?_)
  · refine ⟨fun q => absurd q (nI_ge (a := i) (b := 3) hi (by decide)), fun _ => ?_⟩
    show vp_in (nI f + nI i) 90 ∧ wX2_commonOf (fun r3 => R (r3, nI i + 1)) (gL t f i) (t.2.2 0 (nI f + nI i).toNatClampNeg)
    rw [nI_add, cN (by omega), nI_s]
    refine ⟨vp_in_nI (by omega) (by decide), p_gcd (by rw [gL_i]; omega) (h0 i hi) fun v hv => ?_⟩
    have e : v = gL t f (i + 1) := Int64.toInt_inj.mp (by rw [hv, gL_i, gL_i, Int.toNat_natCast]; rfl)
    rw [e]
    exact hR
  · refine ⟨fun _ => ⟨fun q => h t ?_, fun q => loopD hf nz (h _ (dvS_LW h0 g0 hp))⟩, fun q => absurd (nI_le (a := 3) (b := 3) (by decide) (by decide)) q⟩
    have q : lg_cmp (gL t f 3) 1 ≤ 0 := q
    rw [lg_cmp_le, Int64.le_iff_toInt_le, g0, show (1 : Int64).toInt = 1 from rfl] at q
    refine ⟨rfl, rfl, fun _ _ => rfl, fun _ _ => rfl, fun k hk => ?_⟩
    rw [show (g3 t f : Int) = 1 by omega, Int.ediv_one]
theorem m_less {t : ew_M} {f : Nat} (hf : f + 3 ≤ 90) (h0 : ∀ k, k < 3 → 0 ≤ (t.2.2 0 (f + k)).toInt) (hp : 0 < g3 t f) {Q : ew_M → Prop} (h : ∀ n, LW t n f → Q n) : wX5_least Q (nI f) t := by
  have l0 := L_lt (t.2.2 0 f)
  show vp_in (nI f) 90 ∧ vp_in (nI f + nI 1) 90 ∧ wX5_common (fun r1 => vp_in (nI f + nI 2) 90 ∧ wX5_common (fun r3 => ew_lp (fun (R : Int32 × ew_M → Prop) (x : Int32 × ew_M) => wX5_least_32 R Q (nI f) r3 x.1 x.2) ((0 : Int32), t)) r1 (t.2.2 0 (nI f + nI 2).toNatClampNeg)) (t.2.2 0 (nI f).toNatClampNeg) (t.2.2 0 (nI f + nI 1).toNatClampNeg)
  rw [nI_add, nI_add, cN (by omega), cN (by omega), cN (by omega)]
  have a0 := h0 0 (by decide)
  rw [Nat.add_zero] at a0
  refine ⟨vp_in_nI (by omega) (by decide), vp_in_nI (by omega) (by decide), m_gcd (by omega) (h0 1 (by decide)) fun v hv => ⟨vp_in_nI (by omega) (by decide), m_gcd (by omega) (h0 2 (by decide)) fun u hu => ?_⟩⟩
  have e : u.toInt = (g3 t f : Int) := by
    rw [hu, hv, Int.natAbs_natCast, show (t.2.2 0 f).toInt.natAbs = (t.2.2 0 f).toInt.toNat by omega]
    rfl
  exact loopM hf (fun q => by rw [L_0] at q; omega) (h _ (dvS_LW h0 e hp))
/-- two sides made low come out alike -/
theorem LW_eq {t m n u : ew_M} {f : Nat} (h1 : LW t n f) (h2 : LW m u f) (e : ∀ k, k < 3 → m.2.2 0 (f + k) = t.2.2 0 (f + k)) : ∀ k, k < 3 → u.2.2 0 (f + k) = n.2.2 0 (f + k) := fun k hk => by
  have e0 := e 0 (by decide)
  have e1 := e 1 (by decide)
  have e2 := e 2 (by decide)
  rw [Nat.add_zero] at e0
  have eg : g3 m f = g3 t f := by unfold g3; rw [e0, e1, e2]
  rw [← Int64.toInt_inj, h2.2.2.2.2 k hk, h1.2.2.2.2 k hk, e k hk, eg]
theorem LW_g3 {t n : ew_M} {f : Nat} (h : LW t n f) (h0 : ∀ k, k < 3 → 0 ≤ (t.2.2 0 (f + k)).toInt) (hp : 0 < g3 t f) : g3 n f = 1 := by
  have k0 := h.2.2.2.2 0 (by decide)
  have k1 := h.2.2.2.2 1 (by decide)
  have k2 := h.2.2.2.2 2 (by decide)
  rw [Nat.add_zero] at k0
  have tn : ∀ x : Int, 0 ≤ x → (x / (g3 t f : Int)).toNat = x.toNat / g3 t f := fun x hx => by
    obtain ⟨y, rfl⟩ := Int.eq_ofNat_of_zero_le hx
    rw [Int.ofNat_ediv_ofNat, Int.toNat_natCast, Int.toNat_natCast]
  have d2 : g3 t f ∣ (t.2.2 0 (f + 2)).toInt.toNat := Nat.gcd_dvd_right _ _
  have d3 : g3 t f ∣ Nat.gcd (t.2.2 0 f).toInt.toNat (t.2.2 0 (f + 1)).toInt.toNat := Nat.gcd_dvd_left _ _
  have d0 := Nat.dvd_trans d3 (Nat.gcd_dvd_left _ _)
  have d1 := Nat.dvd_trans d3 (Nat.gcd_dvd_right _ _)
  have z0 := h0 0 (by decide)
  rw [Nat.add_zero] at z0
  show Nat.gcd (Nat.gcd (n.2.2 0 f).toInt.toNat (n.2.2 0 (f + 1)).toInt.toNat) (n.2.2 0 (f + 2)).toInt.toNat = 1
  rw [k0, k1, k2, tn _ z0, tn _ (h0 1 (by decide)), tn _ (h0 2 (by decide)), Nat.gcd_div d0 d1, Nat.gcd_div d3 d2]
  exact Nat.div_self hp
