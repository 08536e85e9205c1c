/-! the greatest number that divides both -/
theorem L_bm {x : Int} (h1 : -9223372036854775808 ≤ x) (h2 : x < 9223372036854775808) : x.bmod (2 ^ 64) = x := Int.bmod_eq_of_le (by omega) (by omega)
theorem L_lt (x : Int64) : x.toInt < 9223372036854775808 := Int64.toInt_lt x
theorem L_ge (x : Int64) : -9223372036854775808 ≤ x.toInt := Int64.le_toInt x
theorem L_div {a b : Int64} (ha : 0 ≤ a.toInt) (hb : 0 < b.toInt) : (a / b).toInt = a.toInt / b.toInt := by
  have l1 := L_lt a
  have d0 : 0 ≤ a.toInt / b.toInt := Int.ediv_nonneg ha (by omega)
  have d1 : a.toInt / b.toInt ≤ a.toInt := Int.ediv_le_self _ ha
  rw [Int64.toInt_div, Int.tdiv_eq_ediv_of_nonneg ha, L_bm (by omega) (by omega)]
theorem L_rem {a b : Int64} (ha : 0 ≤ a.toInt) (hb : 0 < b.toInt) : (a - a / b * b).toInt = a.toInt % b.toInt := by
  have l1 := L_lt a
  have d0 : 0 ≤ a.toInt / b.toInt := Int.ediv_nonneg ha (by omega)
  have e : b.toInt * (a.toInt / b.toInt) + a.toInt % b.toInt = a.toInt := Int.mul_ediv_add_emod _ _
  have m0 : 0 ≤ a.toInt % b.toInt := Int.emod_nonneg _ (by omega)
  have m2 : 0 ≤ b.toInt * (a.toInt / b.toInt) := Int.mul_nonneg (by omega) d0
  rw [Int64.toInt_sub, Int64.toInt_mul, L_div ha hb, Int.mul_comm, L_bm (x := b.toInt * (a.toInt / b.toInt)) (by omega) (by omega), L_bm (by omega) (by omega)]
  omega
theorem L_0 {x : Int64} : x = 0 ↔ x.toInt = 0 := ⟨fun h => by rw [h]; rfl, fun h => Int64.toInt_inj.mp (by rw [h]; rfl)⟩
def gI (G n : Nat) (g s : Int64) : Prop := ∃ a b : Nat, g.toInt = a ∧ s.toInt = b ∧ Nat.gcd a b = G ∧ (b = 0 ∨ (1 ≤ n ∧ ((b ≤ a ∧ a * b < 2 ^ n) ∨ (a < b ∧ 2 * (a * b) < 2 ^ n))))
theorem two1 {n x : Nat} (h0 : 1 ≤ x) (h : x < 2 ^ n) : 1 ≤ n := by
  cases n with
  | zero => rw [Nat.pow_zero] at h; omega
  | succ n => omega
theorem gI_s {G n : Nat} {g s : Int64} (h : gI G n g s) (hs : ¬ s = 0) : 1 ≤ n ∧ gI G (n - 1) s (g - g / s * s) := by
  obtain ⟨a, b, e1, e2, e3, e4⟩ := h
  have hb : 0 < b := by
    rw [L_0, e2] at hs
    omega
  obtain ⟨n1, h4⟩ := e4.resolve_left (by omega)
  refine ⟨n1, b, a % b, e2, ?_, ?_, ?_⟩
  · rw [L_rem (by omega) (by omega), e1, e2, Int.natCast_emod]
  · rw [Nat.gcd_rec, Nat.mod_mod, ← Nat.gcd_rec, Nat.gcd_comm]
    rw [← e3, Nat.gcd_comm a b]
  · by_cases h0 : a % b = 0
    · exact Or.inl h0
    · have ml : a % b < b := Nat.mod_lt _ hb
      have p2 : 2 ^ n = 2 * 2 ^ (n - 1) := by
        obtain ⟨k, rfl⟩ : ∃ k, n = k + 1 := ⟨n - 1, by omega⟩
        rw [Nat.pow_succ, Nat.mul_comm]
        rfl
      have key : b * (a % b) < 2 ^ (n - 1) := by
        rcases h4 with ⟨q1, q2⟩ | ⟨q1, q2⟩
        · have q3 : a % b + b ≤ a := by
            have d := Nat.div_add_mod a b
            have d1 : 1 ≤ a / b := (Nat.one_le_div_iff hb).mpr q1
            have d2 : b * 1 ≤ b * (a / b) := Nat.mul_le_mul_left b d1
            omega
          have q4 : b * (2 * (a % b)) ≤ b * a := Nat.mul_le_mul_left b (by omega)
          rw [Nat.mul_left_comm] at q4
          rw [Nat.mul_comm a b] at q2
          omega
        · rw [Nat.mod_eq_of_lt q1, Nat.mul_comm b a]
          omega
      have k1 : 1 ≤ b * (a % b) := Nat.mul_pos hb (by omega)
      exact Or.inr ⟨two1 k1 key, Or.inl ⟨by omega, key⟩⟩
theorem gI_0 {a b : Int64} (ha : 0 ≤ a.toInt) (hb : 0 ≤ b.toInt) : gI (Nat.gcd a.toInt.toNat b.toInt.toNat) 128 a b := by
  have l1 := L_lt a
  have l2 := L_lt b
  refine ⟨a.toInt.toNat, b.toInt.toNat, by omega, by omega, rfl, ?_⟩
  have h : a.toInt.toNat * b.toInt.toNat ≤ 9223372036854775807 * 9223372036854775807 := Nat.mul_le_mul (by omega) (by omega)
  by_cases q : b.toInt.toNat ≤ a.toInt.toNat
  · exact Or.inr ⟨by decide, Or.inl ⟨q, Nat.lt_of_le_of_lt h (by decide)⟩⟩
  · exact Or.inr ⟨by decide, Or.inr ⟨by omega, Nat.lt_of_le_of_lt (Nat.mul_le_mul_left 2 h) (by decide)⟩⟩
theorem gI_e {G n : Nat} {g s : Int64} (h : gI G n g s) (hs : s = 0) : g.toInt = (G : Int) := by
  obtain ⟨a, b, e1, e2, e3, e4⟩ := h
  rw [L_0, e2] at hs
  have : b = 0 := by omega
  subst this
  rw [Nat.gcd_zero_right] at e3
  rw [e1, e3]
theorem p_gcd {a b : Int64} (ha : 0 ≤ a.toInt) (hb : 0 ≤ b.toInt) {Q : Int64 → Prop} (h : ∀ v : Int64, v.toInt = (Nat.gcd a.toInt.toNat b.toInt.toNat : Int) → Q v) : wX2_commonOf Q a b := by
  refine ew_lpi (fun n x => gI (Nat.gcd a.toInt.toNat b.toInt.toNat) n x.1 x.2.1 ∧ ∃ j, x.2.2 = nI j ∧ j + n ≤ 200) (fun n R x hI hR => ?_) (n := 128) ⟨gI_0 ha hb, 0, rfl, by decide⟩
  obtain ⟨hI, j, ej, hj⟩ := hI
  refine ⟨fun q => ?_, fun _ => ⟨fun q => ?_, fun q => ?_⟩⟩
  · rw [ej] at q
    exact absurd ((nI_leI (a := 1000) (b := j) (by decide) (by omega)).mp q) (by omega)
  · rw [lg_cmp_eq] at q
    exact h _ (gI_e hI q)
  · rw [lg_cmp_eq] at q
    obtain ⟨g1, g2⟩ := gI_s hI q
    refine ⟨q, hR (n - 1) _ (by omega) ⟨g2, j + 1, ?_, by omega⟩⟩
    show x.2.2 + 1 = _
    rw [ej, nI_s]
theorem m_gcd0 {a b : Int64} (ha : 0 ≤ a.toInt) (hb : 0 ≤ b.toInt) {Q : Int64 → Prop} (h : ∀ v : Int64, v.toInt = (Nat.gcd a.toInt.toNat b.toInt.toNat : Int) → Q v) : wX5_common_26 Q a b := by
  refine ew_lpi (fun n x => gI (Nat.gcd a.toInt.toNat b.toInt.toNat) n x.1 x.2) (fun n R x hI hR => ?_) (n := 128) (gI_0 ha hb)
  refine ⟨fun q => ?_, fun q => ?_⟩
  · rw [lg_cmp_eq] at q
    exact h _ (gI_e hI q)
  · rw [lg_cmp_eq] at q
    obtain ⟨g1, g2⟩ := gI_s hI q
    exact ⟨q, hR (n - 1) _ (by omega) g2⟩
theorem L_le0 {x : Int64} : (0 : Int64) ≤ x ↔ 0 ≤ x.toInt := by
  rw [Int64.le_iff_toInt_le]
  rfl
theorem L_neg {x : Int64} (h : -9223372036854775808 < x.toInt) : (-x).toInt = -x.toInt := by
  have := L_lt x
  rw [Int64.toInt_neg, L_bm (by omega) (by omega)]
theorem m_gcd {a b : Int64} (ha : -9223372036854775808 < a.toInt) (hb : 0 ≤ b.toInt) {Q : Int64 → Prop} (h : ∀ v : Int64, v.toInt = (Nat.gcd a.toInt.natAbs b.toInt.toNat : Int) → Q v) : wX5_common Q a b := by
  have hbb : ∀ {t : Int64}, wX5_common_26 Q t b → wX5_common_12 Q b t := fun g => ⟨fun _ => g, fun q => absurd ((lg_cmp_ge _ _).mpr (L_le0.mpr hb)) q⟩
  refine ⟨fun q => hbb (m_gcd0 ?_ hb fun v hv => h v ?_), fun q => hbb (m_gcd0 ?_ hb fun v hv => h v ?_)⟩
  · exact L_le0.mp ((lg_cmp_ge _ _).mp q)
  · have q := L_le0.mp ((lg_cmp_ge _ _).mp q)
    rw [hv, show a.toInt.toNat = a.toInt.natAbs by omega]
  · have q : ¬ 0 ≤ a.toInt := fun z => q ((lg_cmp_ge _ _).mpr (L_le0.mpr z))
    rw [L_neg ha]
    omega
  · have q : ¬ 0 ≤ a.toInt := fun z => q ((lg_cmp_ge _ _).mpr (L_le0.mpr z))
    rw [hv, L_neg ha, show (-a.toInt).toNat = a.toInt.natAbs by omega]
