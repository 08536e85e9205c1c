/-! town: a statement, the reference's side, by its first letter -/
section ML
variable {T : Nat → Nat} {n a tl : Nat} {m m0 : ew_M}
def MtP (tl : Nat) (m m' : ew_M) : Prop := (∀ k, k < tl → m'.2.1 15 k = m.2.1 15 k ∧ m'.2.1 16 k = m.2.1 16 k) ∧ ∀ j, j < 9 * tl → m'.2.1 17 j = m.2.1 17 j
def MtV (T : Nat → Nat) (n tl a : Nat) (m' : ew_M) : Prop := m'.2.1 15 tl = nI a ∧ m'.2.1 16 tl = nI (stK T a) ∧ ∀ j, j < stM T a → m'.2.1 17 (9 * tl + j) = stW T n a j
theorem MtS.b {tq : Int32} (h : MtS m0 n a tq m) {b : Nat} (hb : b = 15 ∨ b = 16) (i : Nat) (v : Int32) : MtS m0 n a tq (ew_sA m b i v) := ⟨h.1, h.2.1, fun c h1 h2 h3 => by rw [sA_a (by omega)]; exact h.2.2.1 c h1 h2 h3, h.2.2.2.1, h.2.2.2.2.1, h.2.2.2.2.2⟩
theorem ix9 (tl : Nat) : (9 : Int32) * nI tl = nI (9 * tl) := by rw [show (9 : Int32) = nI 9 from rfl, pk_mul]
theorem m_75f {c : Nat} (hM : MtT T n m0) (hc : c = T a) (ha : a < n) {K : Nat} (hK : K < 4) (e4 : c = 112 ∨ c = 97 ∨ c = 108 ∨ c = 99) (eK : stK T a = K) (hk : tl < 31) (hs : MtS m0 n a (nI tl) m) {Q : Int32 → ew_M → Prop} (h0 : (stF T n a).1 = false → ∀ m', MtS m0 n (stF T n a).2 (nI tl) m' → Q 0 m') (h1 : (stF T n a).1 = true → ∀ m', MtS m0 n (stF T n a).2 (nI (tl + 1)) m' → MtP tl m m' → MtV T n tl a m' → Q 1 m') : wX5_statementTold_75 Q ((9 : Int32) * nI tl) (nI c) (nI K) (nI tl) (ew_sA m 15 tl (nI a)) := by
  have hn := hM.1
  have g0 := hs.b (b := 15) (Or.inl rfl) tl (nI a)
  have g1 := g0.b (b := 16) (Or.inr rfl) tl (nI K)
  unfold wX5_statementTold_75
  rw [g0.2.2.2.2.2, g0.2.2.2.2.1, ix9, nI_s, cN (by omega)]
  have g2 := g1.go (b := a + 1) (by omega)
  have fin : ∀ m' (W : Nat → Int32) (cnt : Nat), W = stW T n a → cnt = stM T a → MtN (ew_sI (ew_sA (ew_sA m 15 tl (nI a)) 16 tl (nI K)) 28 (nI (a + 1))) W (9 * tl) cnt m' → MtP tl m m' ∧ MtV T n tl a m' := fun m' W cnt eW ec hN => by
    subst eW
    subst ec
    obtain ⟨k1, k2, k3⟩ := hN
    refine ⟨⟨fun k hk => ⟨?_, ?_⟩, fun j hj => ?_⟩, ?_, ?_, k3⟩
    · rw [k1 15 (by decide)]
      show (ew_sA (ew_sA m 15 tl (nI a)) 16 tl (nI K)).2.1 15 k = _
      rw [sA_a (by decide), sA_i (by omega)]
    · rw [k1 16 (by decide)]
      show (ew_sA (ew_sA m 15 tl (nI a)) 16 tl (nI K)).2.1 16 k = _
      rw [sA_i (by omega), sA_a (by decide)]
    · rw [k2 j hj]
      show (ew_sA (ew_sA m 15 tl (nI a)) 16 tl (nI K)).2.1 17 j = _
      rw [sA_a (by decide), sA_a (by decide)]
    · rw [k1 15 (by decide)]
      show (ew_sA (ew_sA m 15 tl (nI a)) 16 tl (nI K)).2.1 15 tl = _
      rw [sA_a (by decide), sA_s]
    · rw [k1 16 (by decide), eK]
      show (ew_sA (ew_sA m 15 tl (nI a)) 16 tl (nI K)).2.1 16 tl = _
      rw [sA_s]
  have n0 : ∀ W, MtN (ew_sI (ew_sA (ew_sA m 15 tl (nI a)) 16 tl (nI K)) 28 (nI (a + 1))) W (9 * tl) 0 (ew_sI (ew_sA (ew_sA m 15 tl (nI a)) 16 tl (nI K)) 28 (nI (a + 1))) := fun W => ⟨fun _ _ => rfl, fun _ _ => rfl, fun j hj => absurd hj (by omega)⟩
  have e16 : (ew_sA (ew_sA m 15 tl (nI a)) 16 tl (nI K)).2.1 16 tl = nI K := sA_s _ _ _ _
  rw [e16]
  have eq : ∀ d : Nat, d < 256 → nI c = nI d → c = d := fun d hd z => (nI_eq (by have := hM.2.1 a; omega) (by omega)).mp z
  generalize ew_sI (ew_sA (ew_sA m 15 tl (nI a)) 16 tl (nI K)) 28 (nI (a + 1)) = mm at g2 fin n0 ⊢
  have s1 : nI tl + 1 = nI (tl + 1) := nI_s tl
  refine ⟨vp_in_nI (by omega) (by decide), vp_in_nI (by omega) (by decide), fun _ => ⟨fun y1 => ⟨fun y2 => ⟨fun y3 => ?_, fun y => ?_⟩, fun y => ?_⟩, fun y => ?_⟩, fun z => absurd (nI_le (a := 0) (b := K) (by omega) (by omega)) z⟩
  · have e : T a = 99 := by
      rcases e4 with e | e | e | e
      · exact absurd (by rw [e]; rfl) y1
      · exact absurd (by rw [e]; rfl) y2
      · exact absurd (by rw [e]; rfl) y3
      · omega
    rw [stF_c ha e] at h0 h1
    obtain ⟨w1, w2, w3⟩ := stW_c (n := n) e
    refine m_nm (k := 9 * tl) (most := 3) (q := (true, a + 1)) hM (by omega) (by decide) g2 rfl fun m' v k1 k2 k3 => ?_
    by_cases z : bI (nm T n 3 (true, a + 1)).1 = 0
    · rw [z]
      exact m_fail (q := cq1 T n a) h0 (fC1 ((bI_0 _).mp z)) z k1
    · refine m_end hM k1 (bI_ne z) h0 (fun y m2 x1 x2 => ?_) z
      rw [s1] at x1
      obtain ⟨f1, f2⟩ := fin m2 _ _ w1.symm w2.symm (MtN.sm (MtN.nu (i := 0) (n0 _) k2 (k3 (bI_ne z))) x2)
      exact h1 y m2 x1 f1 f2
  · have e : T a = 108 := by rw [← hc]; exact eq 108 (by decide) y
    rw [stF_l ha e] at h0 h1
    obtain ⟨w1, w2, w3⟩ := stW_l (n := n) e
    refine m_nm (k := 9 * tl) (most := 1) (q := (true, a + 1)) hM (by omega) (by decide) g2 rfl fun m' v k1 k2 k3 => ?_
    by_cases z : bI (nm T n 1 (true, a + 1)).1 = 0
    · rw [z]
      exact m_fail (q := lq1 T n a) h0 (fL1 ((bI_0 _).mp z)) z k1
    · refine m_end hM k1 (bI_ne z) h0 (fun y m2 x1 x2 => ?_) z
      rw [s1] at x1
      obtain ⟨f1, f2⟩ := fin m2 _ _ w1.symm w2.symm (MtN.sm (MtN.nu (i := 0) (n0 _) k2 (k3 (bI_ne z))) x2)
      exact h1 y m2 x1 f1 f2
  · have e : T a = 97 := by rw [← hc]; exact eq 97 (by decide) y
    rw [stF_a ha e] at h0 h1
    obtain ⟨w1, w2, w3⟩ := stW_a (n := n) e
    refine m_paper hM (by omega) g2 (n0 _) h0 fun y m2 x1 x2 => ?_
    rw [s1] at x1
    obtain ⟨f1, f2⟩ := fin m2 _ _ w1.symm w2.symm x2
    exact h1 y m2 x1 f1 f2
  · have e : T a = 112 := by rw [← hc]; exact eq 112 (by decide) y
    rw [stF_p ha e] at h0 h1
    obtain ⟨w1, w2, w3⟩ := stW_p (n := n) e
    refine m_person hM (by omega) g2 (n0 _) h0 fun y m2 x1 x2 => ?_
    rw [s1] at x1
    obtain ⟨f1, f2⟩ := fin m2 _ _ w1.symm w2.symm x2
    exact h1 y m2 x1 f1 f2
theorem m_stat (hM : MtT T n m0) (hk : tl < 31) (ha : a < n) (hs : MtS m0 n a (nI tl) m) {Q : Int32 → ew_M → Prop} (h0 : (stF T n a).1 = false → ∀ m', MtS m0 n (stF T n a).2 (nI tl) m' → Q 0 m') (h1 : (stF T n a).1 = true → ∀ m', MtS m0 n (stF T n a).2 (nI (tl + 1)) m' → MtP tl m m' → MtV T n tl a m' → Q 1 m') : wX5_statementTold Q m := by
  have g0 := hs.b (b := 15) (Or.inl rfl) tl (nI a)
  have eq : ∀ d : Nat, d < 256 → nI (T a) = nI d → T a = d := fun d hd z => (nI_eq (by have := hM.2.1 a; omega) (by omega)).mp z
  unfold wX5_statementTold
  rw [hs.2.2.2.2.2, hs.2.2.2.2.1, cN (by omega)]
  refine ⟨vp_in_nI (by omega) (by decide), m_sign hM g0 ?_⟩
  have es : sgn T n a = nI (T a) := if_pos ha
  rw [es]
  refine ⟨fun y1 => ⟨fun y2 => ⟨fun y3 => ⟨fun y4 => ?_, fun y => ?_⟩, fun y => ?_⟩, fun y => ?_⟩, fun y => ?_⟩
  · have e : stF T n a = (false, a) := stF_o (fun z => by
      rcases z.2 with e | e | e | e
      · exact y2 (by rw [e]; rfl)
      · exact y4 (by rw [e]; rfl)
      · exact y3 (by rw [e]; rfl)
      · exact y1 (by rw [e]; rfl))
    rw [e] at h0
    unfold wX5_statementTold_75
    rw [g0.2.2.2.2.2, cN (by omega)]
    refine ⟨vp_in_nI (by omega) (by decide), vp_in_nI (by omega) (by decide), fun z => ?_, fun _ => h0 rfl _ (g0.b (Or.inr rfl) _ _)⟩
    rw [sA_s] at z
    exact absurd z (by decide)
  · have e := eq 99 (by decide) y
    exact m_75f hM rfl ha (K := 3) (by decide) (by omega) (stW_c (n := n) e).2.2 hk hs h0 h1
  · have e := eq 108 (by decide) y
    exact m_75f hM rfl ha (K := 2) (by decide) (by omega) (stW_l (n := n) e).2.2 hk hs h0 h1
  · have e := eq 97 (by decide) y
    exact m_75f hM rfl ha (K := 1) (by decide) (by omega) (stW_a (n := n) e).2.2 hk hs h0 h1
  · have e := eq 112 (by decide) y
    exact m_75f hM rfl ha (K := 0) (by decide) (by omega) (stW_p (n := n) e).2.2 hk hs h0 h1
end ML
