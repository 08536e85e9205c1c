/-! what one thinks, told in lowest terms -/
def gO (A B : Int64) : Int64 := Int64.ofNat (Nat.gcd A.toInt.natAbs B.toInt.toNat)
theorem gO_i {A B : Int64} (hB : 0 < B.toInt) : (gO A B).toInt = (Nat.gcd A.toInt.natAbs B.toInt.toNat : Int) ∧ 0 < (gO A B).toInt := by
  have l := L_lt B
  have d : Nat.gcd A.toInt.natAbs B.toInt.toNat ≤ B.toInt.toNat := Nat.gcd_le_right _ (by omega)
  have p : 0 < Nat.gcd A.toInt.natAbs B.toInt.toNat := Nat.gcd_pos_of_pos_right _ (by omega)
  rw [gO, Int64.toInt_ofNat_of_lt (by omega)]
  exact ⟨rfl, by omega⟩
def lw (A B : Int64) (z : Int32) : Int64 := if z = 0 then A / gO A B else B / gO A B
theorem L_d1 (A : Int64) : A / 1 = A := by
  have l1 := L_lt A
  have l2 := L_ge A
  rw [← Int64.toInt_inj, Int64.toInt_div, show (1 : Int64).toInt = 1 from rfl, Int.tdiv_one, L_bm (by omega) (by omega)]
theorem p_low {A B : Int64} {z : Int32} {ra : ew_M} (hA : -9223372036854775808 < A.toInt) (hB : 0 < B.toInt) {Q : Int64 → ew_M → Prop} (h : ∀ s, Q (lw A B z) s) : wX2_become (fun s => wX2_partOf (fun r => Q r s) z s) A B ra := by
  have ea : (if 0 < A then A else -A).toInt.toNat = A.toInt.natAbs := by
    split
    · rename_i q
      rw [Int64.lt_iff_toInt_lt, show (0 : Int64).toInt = 0 from rfl] at q
      omega
    · rename_i q
      rw [Int64.lt_iff_toInt_lt, show (0 : Int64).toInt = 0 from rfl] at q
      rw [L_neg hA]
      omega
  have ep : 0 ≤ (if 0 < A then A else -A).toInt := by
    split
    · rename_i q
      rw [Int64.lt_iff_toInt_lt, show (0 : Int64).toInt = 0 from rfl] at q
      omega
    · rename_i q
      rw [Int64.lt_iff_toInt_lt, show (0 : Int64).toInt = 0 from rfl] at q
      rw [L_neg hA]
      omega
  obtain ⟨g1, g2⟩ := gO_i (A := A) hB
  refine p_gcd ep (by omega) fun v hv => ?_
  have ev : v = gO A B := Int64.toInt_inj.mp (by rw [hv, ea, g1])
  subst ev
  have key : ∀ X : Int64, (lg_cmp (gO A B) 1 ≤ 0) → X = X / gO A B := fun X q => by
    rw [lg_cmp_le, Int64.le_iff_toInt_le, show (1 : Int64).toInt = 1 from rfl] at q
    have e1 : gO A B = 1 := Int64.toInt_inj.mp (by rw [show (1 : Int64).toInt = 1 from rfl]; omega)
    rw [e1, L_d1]
  have last : wX2_become_45 (fun s => wX2_partOf (fun r => Q r s) z s) (B / gO A B) (ew_sW ra 0 0 (A / gO A B)) := by
    refine ⟨fun q => ?_, fun q => ?_⟩
    · have h := h (ew_sW (ew_sW ra 0 0 (A / gO A B)) 0 1 (B / gO A B))
      rw [lw, if_neg q] at h
      rw [sW_s]
      exact h
    · have h := h (ew_sW (ew_sW ra 0 0 (A / gO A B)) 0 1 (B / gO A B))
      rw [lw, if_pos q] at h
      rw [sW_i (by decide), sW_s]
      exact h
  have nz : ¬ gO A B = 0 := fun q => by rw [L_0] at q; omega
  have mid : wX2_become_26 (fun s => wX2_partOf (fun r => Q r s) z s) B (gO A B) (A / gO A B) ra := ⟨fun q => by rw [← key B q] at last; exact last, fun q => ⟨nz, last⟩⟩
  exact ⟨fun q => by rw [← key A q] at mid; exact mid, fun q => ⟨nz, mid⟩⟩
theorem m_low {A B : Int64} {z : Int32} (hz : z = 0 ∨ z = 1) (hA : -9223372036854775808 < A.toInt) (hB : 0 < B.toInt) {Q : Int64 → Prop} (h : Q (lw A B z)) : wX5_lowest Q A B z := by
  obtain ⟨g1, g2⟩ := gO_i (A := A) hB
  have nz : ¬ gO A B = 0 := fun q => by rw [L_0] at q; omega
  have ev : ∀ v : Int64, v.toInt = (Nat.gcd A.toInt.natAbs B.toInt.toNat : Int) → v = gO A B := fun v hv => Int64.toInt_inj.mp (by rw [hv, g1])
  refine ⟨fun _ => ⟨fun q => m_gcd hA (by omega) fun v hv => ?_, fun q => m_gcd hA (by omega) fun v hv => ?_⟩, fun q => ?_⟩
  · rw [ev v hv]
    rw [lw, if_neg q] at h
    exact ⟨nz, h⟩
  · rw [ev v hv]
    rw [lw, if_pos q] at h
    exact ⟨nz, h⟩
  · rw [lg_cmp_eq] at q
    rcases hz with rfl | rfl
    · rw [lw, if_pos rfl] at h
      have e : A / gO A B = (0 : Int32).toInt64 := Int64.toInt_inj.mp (by
        rw [L_div (by rw [L_0.mp q]; omega) g2, L_0.mp q, Int.zero_ediv]
        decide)
      rw [e] at h
      exact h
    · rw [lw, if_neg (by decide)] at h
      have e : B / gO A B = (1 : Int32).toInt64 := Int64.toInt_inj.mp (by
        have eb : (gO A B).toInt = B.toInt := by
          rw [g1, L_0.mp q]
          rw [show (0 : Int).natAbs = 0 from rfl, Nat.gcd_zero_left]
          omega
        rw [L_div (by omega) g2, eb, Int.ediv_self (by omega)]
        decide)
      rw [e] at h
      exact h
theorem wf.w {t : ew_M} (hw : wf t) {k : Nat} (hk : k < 90) : 0 ≤ (t.2.2 0 k).toInt ∧ (t.2.2 0 k).toInt ≤ 800000000 := by
  obtain ⟨w1, w2⟩ := hw.2.2.2.2.2.2.1 k hk
  refine ⟨w1, Int.le_trans w2 ?_⟩
  have hh := (hw.2.2.2.2.2.1 (k / 3) (by omega)).2
  rcases (show cl (t.2.1 11 (k / 3)) = 0 ∨ cl (t.2.1 11 (k / 3)) = 1 ∨ cl (t.2.1 11 (k / 3)) = 2 ∨ cl (t.2.1 11 (k / 3)) = 3 by omega) with e | e | e | e <;> rw [e] <;> decide
theorem wO_b {t : ew_M} (hw : wf t) {p a k : Nat} (ha : a < 5) (hp : p < 6) (hk : k < 3) : 0 ≤ (wO t p a k).toInt ∧ (wO t p a k).toInt ≤ 800000000 := by
  unfold wO
  split
  · split
    · decide
    · decide
  · exact hw.w (by omega)
theorem wg_b {w g : Int} (w1 : 0 ≤ w) (w2 : w ≤ 800000000) (g1 : -4 ≤ g) (g2 : g ≤ 5) : -3200000000 ≤ w * g ∧ w * g ≤ 4000000000 := by
  rcases (show g = -4 ∨ g = -3 ∨ g = -2 ∨ g = -1 ∨ g = 0 ∨ g = 1 ∨ g = 2 ∨ g = 3 ∨ g = 4 ∨ g = 5 by omega) with e | e | e | e | e | e | e | e | e | e <;> subst e <;> omega
theorem tAU_b {t : ew_M} (hw : wf t) {p a : Nat} (ha : a < 5) (hp : p < 6) : ∀ i : Nat, i ≤ 3 → -3200000000 * (i : Int) ≤ (tAU t p a i).toInt ∧ (tAU t p a i).toInt ≤ 4000000000 * (i : Int)
  | 0, _ => by
    show _ ≤ (0 : Int64).toInt ∧ (0 : Int64).toInt ≤ _
    decide
  | i + 1, h => by
    obtain ⟨h1, h2⟩ := tAU_b hw ha hp i (by omega)
    obtain ⟨w1, w2⟩ := wO_b hw ha hp (k := i) (by omega)
    obtain ⟨-, g1, g2⟩ := hw.2.2.2.2.1 (a * 3 + i) (by omega)
    obtain ⟨m1, m2⟩ := wg_b w1 w2 g1 g2
    have e : (tAU t p a (i + 1)).toInt = (tAU t p a i).toInt + (wO t p a i).toInt * (t.2.1 10 (a * 3 + i)).toInt := by
      show (tAU t p a i + wO t p a i * (t.2.1 10 (a * 3 + i)).toInt64).toInt = _
      rw [Int64.toInt_add, Int64.toInt_mul, Int32.toInt_toInt64, L_bm (x := _ * _) (by omega) (by omega), L_bm (by omega) (by omega)]
    rw [e]
    omega
theorem tBU_e {t : ew_M} (hw : wf t) {p a : Nat} (ha : a < 5) (hp : p < 6) : (tB t p a).toInt = (wO t p a 0).toInt + (wO t p a 1).toInt + (wO t p a 2).toInt := by
  obtain ⟨a1, a2⟩ := wO_b hw ha hp (k := 0) (by omega)
  obtain ⟨b1, b2⟩ := wO_b hw ha hp (k := 1) (by omega)
  obtain ⟨c1, c2⟩ := wO_b hw ha hp (k := 2) (by omega)
  show (0 + wO t p a 0 + wO t p a 1 + wO t p a 2).toInt = _
  rw [Int64.zero_add, Int64.toInt_add, Int64.toInt_add, L_bm (x := (wO t p a 0).toInt + _) (by omega) (by omega), L_bm (by omega) (by omega)]
theorem tB_p {t : ew_M} (hw : wf t) {p a : Nat} (ha5 : a < 5) (ha : a < An t) (hp : p < 6) : 0 < (tB t p a).toInt := by
  rw [tBU_e hw ha5 hp]
  by_cases q : (rs t a).testBit p = true
  · unfold wO
    rw [if_pos q, if_pos q, if_pos q]
    have h3 := (hw.t ha5).2
    rcases (show tr t a = 0 ∨ tr t a = 1 ∨ tr t a = 2 by omega) with e | e | e <;> rw [e] <;> decide
  · unfold wO
    rw [if_neg q, if_neg q, if_neg q]
    rw [Nat.add_zero]
    have g := hw.2.2.2.2.2.2.2 (a * 6 + p) (by omega)
    have w0 := (hw.w (k := (a * 6 + p) * 3) (by omega)).1
    have w1 := (hw.w (k := (a * 6 + p) * 3 + 1) (by omega)).1
    have w2 := (hw.w (k := (a * 6 + p) * 3 + 2) (by omega)).1
    refine Classical.byContradiction fun n => ?_
    rw [g3, show (t.2.2 0 ((a * 6 + p) * 3)).toInt.toNat = 0 by omega, show (t.2.2 0 ((a * 6 + p) * 3 + 1)).toInt.toNat = 0 by omega, show (t.2.2 0 ((a * 6 + p) * 3 + 2)).toInt.toNat = 0 by omega] at g
    exact absurd g (by decide)
section REL
variable {a b c lt ra xs m : ew_M}
theorem noPart {x : Int32} {Q : Int32 → Prop} (h1 : (x = 0 ∨ x = 1) → Q 0) (h2 : (x < 0 ∨ (1 : Int32) < x) → Q 1) : wX4_isNoPart Q x := by
  refine ⟨fun q => h1 (Or.inl q), fun q => ⟨fun q2 => h1 (Or.inr q2), fun q2 => h2 ?_⟩⟩
  rcases few (n := 1) (by decide) x with ⟨k, hk, rfl⟩ | z
  · rcases (show k = 0 ∨ k = 1 by omega) with rfl | rfl
    · exact absurd rfl q
    · exact absurd rfl q2
  · exact z.imp id Int32.not_le.mp
theorem in01 {x : Int32} (h : x = 0 ∨ x = 1) : ¬ (x < 0 ∨ (1 : Int32) < x) := by
  rcases h with rfl | rfl <;> decide
/-- think -/
theorem s_think (hR : Rel a c lt xs m) (x y z : Int32) : wX4_think (fun r _ xs' => wX5_think (fun r' m' => r = r' ∧ Rel a c lt xs' m') x y z m) x y z a b c lt ra xs := by
  have hA := hR.w.A.2
  have hP := hR.w.P.2
  have rr : ∀ {P : Int64 → ew_M → Prop} {k : Nat} {x : Int32}, k < 7 → -x = nI k → P ((4000000000000000000 : Int64) - x.toInt64) (rfM m k) → wX5_refuseLong P x m := fun {P k x} h1 h2 h => by
    show wX5_refuse (fun r1 m2 => P ((4000000000000000000 : Int64) - r1.toInt64) m2) x m
    exact m_refuse h1 h2 h
  refine p_noPair hR.w (fun p k hp hk ex ey => ?_) (fun q => ?_)
  · subst ex
    subst ey
    refine ⟨fun _ => noPart (fun hz => ?_) (fun q => ?_), fun q => absurd rfl q⟩
    · have A1 := tAU_b hR.w (p := p) (a := k) (by omega) (by omega) 3 (by omega)
      have A0 : -9223372036854775808 < (tA a p k).toInt := by
        show _ < (tAU a p k 3).toInt
        omega
      have B0 := tB_p hR.w (p := p) (a := k) (by omega) hk (by omega)
      refine ⟨fun _ => p_isBound hR.w (by omega) (by omega) ⟨fun q => p_thinkAbove hR.w (by omega) (by omega) (p_thinkBelow hR.w (by omega) (by omega) (p_low A0 B0 fun s => ?_)), fun q => p_refuseFarthest (k := 3) (by decide) ?_⟩, fun q => absurd rfl q⟩
      · refine m_pair_y hR hp hk (m_in ?_)
        rw [if_neg (in01 hz)]
        exact ⟨fun _ => m_isBound hR.r hR.w (by omega) (by omega) ⟨fun q2 => absurd q2 q, fun _ => m_thinkAbove hR.r (by omega) hk (by omega) (m_thinkBelow hR.r (by omega) hk (by omega) (m_low hz A0 B0 ⟨rfl, hR⟩))⟩, fun q2 => absurd q2 z10⟩
      · refine m_pair_y hR hp hk (m_in ?_)
        rw [if_neg (in01 hz)]
        exact ⟨fun _ => m_isBound hR.r hR.w (by omega) (by omega) ⟨fun _ => rr (k := 3) (by decide) (by decide) ⟨by decide, hR.rf (by decide)⟩, fun q2 => absurd q q2⟩, fun q2 => absurd q2 z10⟩
    · refine ⟨fun q2 => absurd q2 z10, fun _ => p_refuseFarthest (k := 2) (by decide) ?_⟩
      refine m_pair_y hR hp hk (m_in ?_)
      rw [if_pos q]
      exact ⟨fun q2 => absurd rfl q2, fun _ => rr (k := 2) (by decide) (by decide) ⟨by decide, hR.rf (by decide)⟩⟩
  · refine ⟨fun q2 => absurd q2 z10, fun _ => p_refuseFarthest (k := 1) (by decide) ?_⟩
    exact m_pair_n hR q (rr (k := 1) (by decide) (by decide) ⟨by decide, hR.rf (by decide)⟩)
end REL
