/-! lots: the draws, and all that was had -/
theorem I_bm {x : Int} (h1 : -2147483648 ≤ x) (h2 : x < 2147483648) : x.bmod (2 ^ 32) = x := Int.bmod_eq_of_le (by omega) (by omega)
theorem I_lt (x : Int32) : x.toInt < 2147483648 := Int32.toInt_lt x
theorem I_div {a b : Int32} (ha : 0 ≤ a.toInt) (hb : 0 < b.toInt) : (a / b).toInt = a.toInt / b.toInt := by
  have l1 := I_lt a
  have d0 : 0 ≤ a.toInt / b.toInt := Int.ediv_nonneg ha (by omega)
  have d1 : a.toInt / b.toInt ≤ a.toInt := Int.ediv_le_self _ ha
  rw [Int32.toInt_div, Int.tdiv_eq_ediv_of_nonneg ha, I_bm (by omega) (by omega)]
theorem I_rem {a b : Int32} (ha : 0 ≤ a.toInt) (hb : 0 < b.toInt) : (a - a / b * b).toInt = a.toInt % b.toInt := by
  have l1 := I_lt a
  have d0 : 0 ≤ a.toInt / b.toInt := Int.ediv_nonneg ha (by omega)
  have e : b.toInt * (a.toInt / b.toInt) + a.toInt % b.toInt = a.toInt := Int.mul_ediv_add_emod _ _
  have m0 : 0 ≤ a.toInt % b.toInt := Int.emod_nonneg _ (by omega)
  have m2 : 0 ≤ b.toInt * (a.toInt / b.toInt) := Int.mul_nonneg (by omega) d0
  rw [Int32.toInt_sub, Int32.toInt_mul, I_div ha hb, Int.mul_comm, I_bm (x := b.toInt * (a.toInt / b.toInt)) (by omega) (by omega), I_bm (by omega) (by omega)]
  omega
theorem and_nn (s : Int32) : 0 ≤ (s &&& (2147483647 : Int32)).toInt := by
  have h : (s &&& (2147483647 : Int32)).toBitVec.msb = false := by
    rw [Int32.toBitVec_and, BitVec.msb_and, show (2147483647 : Int32).toBitVec.msb = false by decide, Bool.and_false]
  rw [BitVec.msb_eq_toInt] at h
  exact Int.not_lt.mp (of_decide_eq_false h)
def sdn (s : Int32) : Int32 := s * (1664525 : Int32) + (1013904223 : Int32)
def dvn (s p : Int32) : Int32 := ((s &&& (2147483647 : Int32)) / (256 : Int32)) - ((s &&& (2147483647 : Int32)) / (256 : Int32)) / p * p
theorem dvn_n (s : Int32) {p : Nat} (h0 : 0 < p) (hp : p < 100) : ∃ r, r < p ∧ dvn s (nI p) = nI r := by
  have e1 : ((s &&& (2147483647 : Int32)) / (256 : Int32)).toInt = (s &&& (2147483647 : Int32)).toInt / (256 : Int32).toInt := I_div (and_nn s) (by decide)
  have x0 : 0 ≤ ((s &&& (2147483647 : Int32)) / (256 : Int32)).toInt := by
    rw [e1]
    exact Int.ediv_nonneg (and_nn s) (by decide)
  have ep : (nI p).toInt = p := nI_toInt (by omega)
  have e2 : (dvn s (nI p)).toInt = ((s &&& (2147483647 : Int32)) / (256 : Int32)).toInt % (nI p).toInt := I_rem x0 (by rw [ep]; omega)
  obtain ⟨k, hk⟩ := Int.eq_ofNat_of_zero_le x0
  have hr : k % p < p := Nat.mod_lt _ h0
  refine ⟨k % p, hr, Int32.toInt_inj.mp ?_⟩
  rw [e2, hk, ep, nI_toInt (by omega), Int.natCast_emod]
def hs (t : ew_M) : Nat → Int32
  | 0 => 0
  | i + 1 => hs t i + t.2.1 3 i
theorem p_hadBy {t : ew_M} (hw : wf t) {Q : Int32 → Prop} (h : Q (hs t (Pn t))) : wX3_hadByAll Q t := by
  obtain ⟨e1, e2⟩ := hw.P
  refine ew_for (Pn t) (fun i => (hs t i, nI i)) (fun i R hi hR => ?_) (fun R => ?_)
  · refine ⟨fun q => ?_, fun _ => ⟨vp_in_nI (by omega) (by decide), ?_⟩⟩
    · rw [e1] at q
      exact absurd q (nI_ge hi (by omega))
    · show R (hs t i + t.2.1 3 (nI i).toNatClampNeg, nI i + 1)
      rw [cN (by omega), nI_s]
      exact hR
  · refine ⟨fun _ => h, fun q => ?_⟩
    rw [e1] at q
    exact absurd (nI_le (Nat.le_refl _) (by omega)) q
theorem m_hadBy {t m : ew_M} (hr : RT t m) (hw : wf t) {Q : Int32 → Prop} (h : Q (hs t (Pn t))) : wX5_allHad Q m := by
  obtain ⟨e1, e2⟩ := hw.P
  have e0 : m.1 0 = nI (Pn t) := by rw [hr.1.1, e1]
  refine ew_for (Pn t) (fun i => (hs t i, nI i)) (fun i R hi hR => ?_) (fun R => ?_)
  · refine ⟨fun q => ?_, fun _ => ⟨vp_in_nI (by omega) (by decide), ?_⟩⟩
    · rw [e0] at q
      exact absurd q (nI_ge hi (by omega))
    · show R (hs t i + m.2.1 3 (nI i).toNatClampNeg, nI i + 1)
      rw [cN (by omega), nI_s, (hr.2.1 i (by omega)).2.2.2]
      exact hR
  · refine ⟨fun _ => h, fun q => ?_⟩
    rw [e0] at q
    exact absurd (nI_le (Nat.le_refl _) (by omega)) q
theorem sI_sI (x : ew_M) (i : Nat) (v w : Int32) : ew_sI (ew_sI x i v) i w = ew_sI x i w := by
  refine Prod.ext (funext fun j => ?_) rfl
  by_cases e : j = i
  · subst e
    rw [sI_s, sI_s]
  · rw [sI_i e, sI_i e, sI_i e]
