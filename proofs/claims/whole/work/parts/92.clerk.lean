/-! the clerk says a thing -/
def tu (t : ew_M) (j k : Nat) : Int64 := if k = j then ((2 : Int32) * t.1 3).toInt64 else ((100 : Int32) - t.1 3).toInt64
theorem tu_all : ∀ n, n < 101 → 0 ≤ ((2 : Int32) * nI n).toInt ∧ ((2 : Int32) * nI n).toInt ≤ 200 ∧ 0 ≤ ((100 : Int32) - nI n).toInt ∧ ((100 : Int32) - nI n).toInt ≤ 200 := by decide +kernel
theorem tu_b {t : ew_M} (hw : wf t) (j k : Nat) : 0 ≤ (tu t j k).toInt ∧ (tu t j k).toInt ≤ 200 := by
  obtain ⟨e1, e2⟩ := hw.1.2.2.2
  obtain ⟨a1, a2, a3, a4⟩ := tu_all _ e2
  unfold tu
  rw [e1]
  split
  · rw [Int32.toInt_toInt64]; exact ⟨a1, a2⟩
  · rw [Int32.toInt_toInt64]; exact ⟨a3, a4⟩
theorem p_trust {t : ew_M} {k j : Nat} (hk : k < 3) (hj : j < 3) {Q : Int64 → Prop} (h : Q (tu t j k)) : wX3_trustIn Q (nI k) (nI j) t := by
  refine ⟨fun q => ?_, fun q => ?_⟩
  · rw [nI_eq (by omega) (by omega)] at q
    rw [tu, if_neg q] at h; exact h
  · rw [nI_eq (by omega) (by omega)] at q
    rw [tu, if_pos q] at h; exact h
def muS (t : ew_M) (f : Nat) (T : Nat → Int64) : Nat → ew_M
  | 0 => t
  | i + 1 => ew_sW (muS t f T i) 0 (f + i) ((muS t f T i).2.2 0 (f + i) * T i)
theorem muS_p (t : ew_M) (f : Nat) (T : Nat → Int64) : ∀ i, (muS t f T i).1 = t.1 ∧ (muS t f T i).2.1 = t.2.1 ∧ (∀ b, b ≠ 0 → (muS t f T i).2.2 b = t.2.2 b) ∧ (∀ j, (j < f ∨ f + i ≤ j) → (muS t f T i).2.2 0 j = t.2.2 0 j) ∧ ∀ k, k < i → (muS t f T i).2.2 0 (f + k) = t.2.2 0 (f + k) * T k
  | 0 => ⟨rfl, rfl, fun _ _ => rfl, fun _ _ => rfl, fun k hk => absurd hk (by omega)⟩
  | i + 1 => by
    obtain ⟨h1, h2, h3, h4, h5⟩ := muS_p t f T i
    refine ⟨h1, h2, fun b hb => ?_, fun j hj => ?_, fun k hk => ?_⟩
    · show (ew_sW (muS t f T i) 0 (f + i) _).2.2 b = _
      rw [sW_a hb]
      exact h3 b hb
    · show (ew_sW (muS t f T i) 0 (f + i) _).2.2 0 j = _
      rw [sW_i (by omega)]
      exact h4 j (by omega)
    · show (ew_sW (muS t f T i) 0 (f + i) _).2.2 0 (f + k) = _
      by_cases e : k = i
      · subst e
        rw [sW_s, h4 (f + k) (by omega)]
      · rw [sW_i (by omega)]
        exact h5 k (by omega)
theorem wt_b {w T : Int} (w1 : 0 ≤ w) (w2 : w ≤ 800000000) (t1 : 0 ≤ T) (t2 : T ≤ 200) : 0 ≤ w * T ∧ w * T ≤ w * 200 ∧ w * T ≤ 160000000000 := by
  have h1 := Int.mul_le_mul_of_nonneg_left t2 w1
  exact ⟨Int.mul_nonneg w1 t1, h1, by omega⟩
theorem wt_i {w T : Int64} (w1 : 0 ≤ w.toInt) (w2 : w.toInt ≤ 800000000) (t1 : 0 ≤ T.toInt) (t2 : T.toInt ≤ 200) : (w * T).toInt = w.toInt * T.toInt := by
  obtain ⟨h1, h2, h3⟩ := wt_b w1 w2 t1 t2
  rw [Int64.toInt_mul, L_bm (by omega) (by omega)]
/-- nothing is left of the three -/
def azP (t : ew_M) (f : Nat) (T : Nat → Int64) (i : Nat) : Prop := ∀ k, k < i → t.2.2 0 (f + k) * T k = 0
theorem g3_mu {t : ew_M} {f : Nat} {T : Nat → Int64} (h : ∀ k, k < 3 → 0 ≤ (t.2.2 0 (f + k) * T k).toInt) (hz : ¬ azP t f T 3) : 0 < g3 (muS t f T 3) f := by
  refine Nat.pos_of_ne_zero fun e => hz fun k hk => ?_
  obtain ⟨-, -, -, -, h5⟩ := muS_p t f T 3
  have e2 := Nat.eq_zero_of_gcd_eq_zero_right e
  have e3 := Nat.eq_zero_of_gcd_eq_zero_left e
  have e1 := Nat.eq_zero_of_gcd_eq_zero_right e3
  have e0 := Nat.eq_zero_of_gcd_eq_zero_left e3
  have h50 := h5 0 (by decide)
  rw [Nat.add_zero] at h50
  have hh := h k hk
  rw [L_0]
  rcases (show k = 0 ∨ k = 1 ∨ k = 2 by omega) with rfl | rfl | rfl
  · rw [h50] at e0
    rw [Nat.add_zero] at hh ⊢
    omega
  · rw [h5 1 (by decide)] at e1
    omega
  · rw [h5 2 (by decide)] at e2
    omega
def fl (t : ew_M) (f : Nat) (T : Nat → Int64) : Nat → Int32
  | 0 => 1
  | i + 1 => if fl t f T i = 0 then 0 else if t.2.2 0 (f + i) * T i = 0 then 1 else 0
theorem fl_p (t : ew_M) (f : Nat) (T : Nat → Int64) : ∀ i, ¬ fl t f T i = 0 ↔ azP t f T i
  | 0 => ⟨fun _ k hk => absurd hk (by omega), fun _ => by show ¬ (1 : Int32) = 0; decide⟩
  | i + 1 => by
    have h := fl_p t f T i
    show ¬ (if fl t f T i = 0 then (0 : Int32) else if t.2.2 0 (f + i) * T i = 0 then 1 else 0) = 0 ↔ _
    by_cases q : fl t f T i = 0
    · rw [if_pos q]
      exact ⟨fun z => absurd rfl z, fun z => absurd (h.mpr fun k hk => z k (by omega)) (fun z2 => z2 q)⟩
    · rw [if_neg q]
      by_cases q2 : t.2.2 0 (f + i) * T i = 0
      · rw [if_pos q2]
        refine ⟨fun _ k hk => ?_, fun _ => by decide⟩
        by_cases e : k = i
        · subst e; exact q2
        · exact h.mp q k (by omega)
      · rw [if_neg q2]
        exact ⟨fun z => absurd rfl z, fun z => absurd (z i (by omega)) q2⟩
theorem ixf (a p : Nat) : (nI a * (6 : Int32) + nI p) * (3 : Int32) = nI ((a * 6 + p) * 3) := by
  rw [show (6 : Int32) = nI 6 from rfl, show (3 : Int32) = nI 3 from rfl, pk_mul, nI_add, pk_mul]
theorem ix30 (a p : Nat) : nI a * (6 : Int32) + nI p = nI (a * 6 + p) := by
  rw [show (6 : Int32) = nI 6 from rfl, pk_mul, nI_add]
theorem ix30m (a p : Nat) : (6 : Int32) * nI a + nI p = nI (a * 6 + p) := by
  rw [show (6 : Int32) = nI 6 from rfl, pk_mul, nI_add]
  congr 1; omega
/-- one more heard -/
def hd (u : ew_M) (i : Nat) : ew_M := ew_sA u 11 i (u.2.1 11 i + 1)
theorem p_109 {u : ew_M} {p k : Nat} (hk : k < 5) (hp : p < 6) {Q : Int32 → ew_M → Prop} (h : Q (u.2.1 11 (k * 6 + p) + 1) (hd u (k * 6 + p))) : wX3_clerkSays_109 Q (nI p) (nI k) u := by
  unfold wX3_clerkSays_109
  rw [ix30, cN (by omega)]
  refine ⟨vp_in_nI (by omega) (by decide), vp_in_nI (by omega) (by decide), vp_in_nI (by omega) (by decide), fun y hy => ?_⟩
  rw [sA_s] at hy
  subst hy
  exact h
theorem p_clerk {t : ew_M} (hw : wf t) {p k j : Nat} (hk : k < 5) (hp : p < 6) (hj : j < 3) {Q : Int32 → ew_M → Prop} (h1 : azP t ((k * 6 + p) * 3) (tu t j) 3 → Q (t.2.1 11 (k * 6 + p) + 1) (hd t (k * 6 + p))) (h2 : ¬ azP t ((k * 6 + p) * 3) (tu t j) 3 → ∀ u, LW (muS t ((k * 6 + p) * 3) (tu t j) 3) u ((k * 6 + p) * 3) → Q (t.2.1 11 (k * 6 + p) + 1) (hd u (k * 6 + p))) : wX3_clerkSays Q (nI p) (nI k) (nI j) t := by
  show ew_lp (fun (R : Int32 × Int32 → Prop) (x : Int32 × Int32) => wX3_clerkSays_16 R Q (nI p) (nI k) (nI j) ((nI k * (6 : Int32) + nI p) * (3 : Int32)) x.1 x.2 t) ((1 : Int32), (0 : Int32))
  rw [ixf]
  have hn : ∀ i, i < 3 → 0 ≤ (t.2.2 0 ((k * 6 + p) * 3 + i) * tu t j i).toInt := fun i hi => by
    obtain ⟨w1, w2⟩ := hw.w (k := (k * 6 + p) * 3 + i) (by omega)
    obtain ⟨t1, t2⟩ := tu_b hw j i
    rw [wt_i w1 w2 t1 t2]
    exact (wt_b w1 w2 t1 t2).1
  refine ew_for 3 (fun i => (fl t ((k * 6 + p) * 3) (tu t j) i, nI i)) (fun i R hi hR => ?_) (fun R => ?_)
  · have hR : R (if fl t ((k * 6 + p) * 3) (tu t j) i = 0 then (0 : Int32) else if t.2.2 0 ((k * 6 + p) * 3 + i) * tu t j i = 0 then 1 else 0, nI (i + 1)) := hR
    refine ⟨fun q => absurd q (nI_ge (a := i) (b := 3) hi (by decide)), fun _ => ⟨fun q => ?_, fun q => ?_⟩⟩
    · have q : fl t ((k * 6 + p) * 3) (tu t j) i = 0 := q
      rw [if_pos q, ← nI_s] at hR
      exact hR
    · have q : ¬ fl t ((k * 6 + p) * 3) (tu t j) i = 0 := q
      rw [if_neg q, ← nI_s] at hR
      show vp_in (nI ((k * 6 + p) * 3) + nI i) 90 ∧ wX3_trustIn (fun r4 => (¬ (lg_cmp ((t.2.2 0 (nI ((k * 6 + p) * 3) + nI i).toNatClampNeg) * r4) (0 : Int64)) = 0 → R ((0 : Int32), nI i + 1)) ∧ ((lg_cmp ((t.2.2 0 (nI ((k * 6 + p) * 3) + nI i).toNatClampNeg) * r4) (0 : Int64)) = 0 → R ((1 : Int32), nI i + 1))) (nI i) (nI j) t
      rw [nI_add, cN (by omega)]
      refine ⟨vp_in_nI (by omega) (by decide), p_trust hi hj ⟨fun z => ?_, fun z => ?_⟩⟩
      · rw [lg_cmp_eq] at z
        rw [if_neg z] at hR
        exact hR
      · rw [lg_cmp_eq] at z
        rw [if_pos z] at hR
        exact hR
  · refine ⟨fun _ => ⟨fun q => p_109 hk hp (h1 ((fl_p _ _ _ _).mp q)), fun q => ?_⟩, fun q => absurd (nI_le (a := 3) (b := 3) (by decide) (by decide)) q⟩
    have az : ¬ azP t ((k * 6 + p) * 3) (tu t j) 3 := fun z => (fl_p _ _ _ _).mpr z q
    refine ew_for 3 (fun i => (nI i, muS t ((k * 6 + p) * 3) (tu t j) i)) (fun i R hi hR => ?_) (fun R => ?_)
    · refine ⟨fun q => absurd q (nI_ge (a := i) (b := 3) hi (by decide)), fun _ => ?_⟩
      show vp_in (nI ((k * 6 + p) * 3) + nI i) 90 ∧ wX3_trustIn (fun r4 => vp_in (nI ((k * 6 + p) * 3) + nI i) 90 ∧ R (nI i + 1, ew_sW (muS t ((k * 6 + p) * 3) (tu t j) i) 0 (nI ((k * 6 + p) * 3) + nI i).toNatClampNeg (((muS t ((k * 6 + p) * 3) (tu t j) i).2.2 0 (nI ((k * 6 + p) * 3) + nI i).toNatClampNeg) * r4))) (nI i) (nI j) (muS t ((k * 6 + p) * 3) (tu t j) i)
      rw [nI_add, cN (by omega), nI_s]
      refine ⟨vp_in_nI (by omega) (by decide), p_trust hi hj ⟨vp_in_nI (by omega) (by decide), ?_⟩⟩
      have e : tu (muS t ((k * 6 + p) * 3) (tu t j) i) j i = tu t j i := by unfold tu; rw [(muS_p t _ _ i).1]
      rw [e]
      exact hR
    · refine ⟨fun _ => p_less (by omega) (fun i hi => ?_) (g3_mu hn az) (fun u hu => p_109 hk hp ?_), fun q => absurd (nI_le (a := 3) (b := 3) (by decide) (by decide)) q⟩
      · show 0 ≤ ((muS t ((k * 6 + p) * 3) (tu t j) 3).2.2 0 ((k * 6 + p) * 3 + i)).toInt
        rw [(muS_p t _ _ 3).2.2.2.2 i hi]
        exact hn i hi
      · have e : u.2.1 = t.2.1 := hu.2.1.trans (muS_p t _ _ 3).2.1
        rw [e]
        exact h2 az u hu
