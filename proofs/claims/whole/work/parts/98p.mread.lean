/-! town: a statement, the reference's side -/
def MtS (m0 : ew_M) (n a : Nat) (tl : Int32) (m : ew_M) : Prop := a ≤ n ∧ (∀ i, i ≠ 23 → i ≠ 28 → m.1 i = m0.1 i) ∧ (∀ b, b ≠ 15 → b ≠ 16 → b ≠ 17 → m.2.1 b = m0.2.1 b) ∧ m.2.2 = m0.2.2 ∧ m.1 28 = nI a ∧ m.1 23 = tl
def MtN (m1 : ew_M) (W : Nat → Int32) (to0 i : Nat) (m : ew_M) : Prop := (∀ b, b ≠ 17 → m.2.1 b = m1.2.1 b) ∧ (∀ j, j < to0 → m.2.1 17 j = m1.2.1 17 j) ∧ ∀ j, j < i → m.2.1 17 (to0 + j) = W j
theorem MtN.sm {m1 : ew_M} {W : Nat → Int32} {to0 i : Nat} {m m' : ew_M} (h : MtN m1 W to0 i m) (e : m'.2.1 = m.2.1) : MtN m1 W to0 i m' := ⟨fun b hb => by rw [e]; exact h.1 b hb, fun j hj => by rw [e]; exact h.2.1 j hj, fun j hj => by rw [e]; exact h.2.2 j hj⟩
theorem MtN.nu {m1 : ew_M} {W : Nat → Int32} {to0 i : Nat} {m m' : ew_M} {v : Int32} (h : MtN m1 W to0 i m) (e : m'.2.1 = (ew_sA m 17 (to0 + i) v).2.1) (hv : v = W i) : MtN m1 W to0 (i + 1) m' := by
  refine ⟨fun b hb => ?_, fun j hj => ?_, fun j hj => ?_⟩
  · rw [e, sA_a hb]
    exact h.1 b hb
  · rw [e, sA_i (by omega)]
    exact h.2.1 j hj
  · rw [e]
    by_cases z : j = i
    · subst z
      rw [sA_s, hv]
    · rw [sA_i (by omega)]
      exact h.2.2 j (by omega)
theorem MtS.go {m0 : ew_M} {n a b : Nat} {tl : Int32} {m : ew_M} (h : MtS m0 n a tl m) (hb : b ≤ n) : MtS m0 n b tl (ew_sI m 28 (nI b)) := ⟨hb, fun i h1 h2 => by rw [sI_i h2]; exact h.2.1 i h1 h2, h.2.2.1, h.2.2.2.1, sI_s _ _ _, by rw [sI_i (by decide)]; exact h.2.2.2.2.2⟩
theorem MtS.nu {m0 : ew_M} {n a : Nat} {tl : Int32} {m : ew_M} (h : MtS m0 n a tl m) (i : Nat) (v : Int32) : MtS m0 n a tl (ew_sA m 17 i v) := ⟨h.1, h.2.1, fun b h1 h2 h3 => by rw [sA_a h3]; exact h.2.2.1 b h1 h2 h3, h.2.2.2.1, h.2.2.2.2.1, h.2.2.2.2.2⟩
/-- what the letters are -/
def MtT (T : Nat → Nat) (n : Nat) (m0 : ew_M) : Prop := n ≤ 64 ∧ (∀ j, T j < 256) ∧ m0.1 18 = nI n ∧ ∀ j, j < 64 → m0.2.1 12 j = nI (T j)
def sgn (T : Nat → Nat) (n a : Nat) : Int32 := if a < n then nI (T a) else -1
section ML
variable {T : Nat → Nat} {n : Nat} {tl : Int32} {q : Bool × Nat} {m m0 : ew_M}
theorem m_sign (hM : MtT T n m0) {a : Nat} (hs : MtS m0 n a tl m) {Q : Int32 → Prop} (h : Q (sgn T n a)) : wX5_sign Q m := by
  obtain ⟨hn, hT, h18, h12⟩ := hM
  obtain ⟨hl, s1, s2, s3, s4, s5⟩ := hs
  unfold wX5_sign
  rw [s1 18 (by decide) (by decide), h18, s4, s2 12 (by decide) (by decide) (by decide)]
  unfold sgn at h
  refine ⟨fun z => ?_, fun z => ?_⟩
  · rw [if_neg (fun y => absurd z (nI_ge y (by omega)))] at h
    exact h
  · have y1 : a < n := Nat.lt_of_not_le fun y => z (nI_le y (by omega))
    rw [if_pos y1] at h
    rw [cN (by omega), h12 _ (by omega)]
    exact ⟨vp_in_nI (by omega) (by decide), h⟩
theorem sgn_c {a c : Nat} (hT : ∀ j, T j < 256) (hc : c < 256) : sgn T n a = nI c ↔ (a < n ∧ T a = c) := by
  have tq := hT a
  unfold sgn
  by_cases y : a < n
  · rw [if_pos y, nI_eq (by omega) (by omega)]
    exact ⟨fun z => ⟨y, z⟩, fun z => z.2⟩
  · rw [if_neg y]
    exact ⟨fun z => absurd (show nI c < 0 by rw [← z]; decide) (nI_pos (by omega)), fun z => absurd z.1 y⟩
theorem m_li (hM : MtT T n m0) {c : Nat} (hc : c < 256) (hs : MtS m0 n q.2 tl m) (hq : q.1 = true) {Q : Int32 → ew_M → Prop} (h : ∀ m', MtS m0 n (li T n c q).2 tl m' → m'.2.1 = m.2.1 → Q (bI (li T n c q).1) m') : wX5_goesBy Q (nI c) m := by
  have hT := hM.2.1
  refine m_sign hM hs ⟨fun z => ?_, fun z => ?_⟩
  · have z := (sgn_c hT hc).mp z
    unfold li at h
    rw [if_pos hq, if_pos z] at h
    rw [hs.2.2.2.2.1, nI_s]
    exact h _ (hs.go (by omega)) rfl
  · have z : ¬ (q.2 < n ∧ T q.2 = c) := fun y => z ((sgn_c hT hc).mpr y)
    unfold li at h
    rw [if_pos hq, if_neg z] at h
    exact h _ hs rfl
theorem m_dg (hM : MtT T n m0) {a : Nat} {Q : Int32 → Prop} (h : Q (bI (dg T n a))) : wX5_in Q (sgn T n a) 48 57 := by
  have hT := hM.2.1 a
  refine m_in ?_
  unfold sgn
  by_cases y : a < n
  · rw [if_pos y]
    by_cases d : dg T n a = true
    · have d2 := dg_t.mp d
      rw [if_neg (fun z => z.elim (fun z => absurd ((nI_ltI (a := T a) (b := 48) (by omega) (by decide)).mp z) (by omega)) (fun z => absurd ((nI_ltI (a := 57) (b := T a) (by decide) (by omega)).mp z) (by omega)))]
      rw [d] at h
      exact h
    · rw [b_nt d] at h
      rw [if_pos]
      · exact h
      · by_cases w : T a < 48
        · exact Or.inl ((nI_ltI (a := T a) (b := 48) (by omega) (by decide)).mpr w)
        · refine Or.inr ((nI_ltI (a := 57) (b := T a) (by decide) (by omega)).mpr ?_)
          exact Nat.lt_of_not_le fun w2 => d (dg_t.mpr ⟨y, by omega, w2⟩)
  · have d : dg T n a = false := b_nt (fun z => y (dg_t.mp z).1)
    rw [if_neg y, if_pos (Or.inl (by decide))]
    rw [d] at h
    exact h
theorem sgn_y {a : Nat} (h : dg T n a = true) : sgn T n a = nI (T a) := if_pos (dg_t.mp h).1
theorem m_nm (hM : MtT T n m0) {k most : Nat} (hk : k < 288) (hm : most ≤ 3) (hs : MtS m0 n q.2 tl m) (hq : q.1 = true) {Q : Int32 → ew_M → Prop} (h : ∀ m' v, MtS m0 n (nm T n most q).2 tl m' → m'.2.1 = (ew_sA m 17 k v).2.1 → ((nm T n most q).1 = true → v = nvl T n q.2 most) → Q (bI (nm T n most q).1) m') : wX5_numberTo Q (nI k) (nI most) m := by
  obtain ⟨j1, j2, j3⟩ := nJ_p T n q.2 most
  unfold nvl nm at h
  rw [if_pos hq] at h
  generalize nJ T n q.2 most = J at j1 j2 j3 h
  have hn := hM.1
  have fin : ∀ m', MtS m0 n (q.2 + J) tl m' → m'.2.1 = m.2.1 → wX5_numberTo_54 Q (nI k) (nI (nv T q.2 J)) (nI J) m' := fun m' g1 g2 => by
    have e : ∀ v, (ew_sA m' 17 k v).2.1 = (ew_sA m 17 k v).2.1 := fun v => by
      funext b
      by_cases hb : b = 17
      · subst hb
        funext j
        by_cases hj : j = k
        · subst hj
          rw [sA_s, sA_s]
        · rw [sA_i hj, sA_i hj, g2]
      · rw [sA_a hb, sA_a hb, g2]
    refine ⟨vp_in_nI hk (by decide), fun z => ?_, fun z => ?_⟩
    · have z : J = 0 := by have := (nI_leI (a := J) (b := 0) (by omega) (by decide)).mp z; omega
      rw [if_pos z] at h
      rw [cN (by omega)]
      refine h _ (nI (nv T q.2 J)) ?_ (e _) (fun y => absurd y Bool.false_ne_true)
      have g := g1.nu k (nI (nv T q.2 J))
      rw [z, Nat.add_zero] at g
      rw [z]
      exact g
    · have z : ¬ J = 0 := fun e => z (by rw [e]; exact nI_le (a := 0) (b := 0) (by decide) (by decide))
      rw [if_neg z] at h
      rw [cN (by omega)]
      exact h _ _ (g1.nu k _) (e _) (fun _ => rfl)
  refine ew_forI J (fun i y => ∃ m', y = (nI (nv T q.2 i), nI i, m') ∧ MtS m0 n (q.2 + i) tl m' ∧ m'.2.1 = m.2.1) (fun i R y hi hI hR => ?_) (fun R y hI => ?_) ⟨m, rfl, hs, rfl⟩
  · obtain ⟨m', rfl, g1, g2⟩ := hI
    have d := j2 i hi
    have d2 := dg_t.mp d
    refine ⟨fun z => absurd z (nI_ge (a := i) (b := most) (by omega) (by omega)), fun _ => m_sign hM g1 (m_dg hM ?_)⟩
    rw [d]
    refine ⟨fun z => absurd z z10, fun _ => m_sign hM g1 ?_⟩
    show R ((10 : Int32) * nI (nv T q.2 i) + sgn T n (q.2 + i) - (48 : Int32), nI i + 1, ew_sI m' 28 (m'.1 28 + 1))
    rw [sgn_y d, dst_m (by omega), nI_s, g1.2.2.2.2.1, nI_s]
    exact hR _ ⟨_, rfl, g1.go (by omega), g2⟩
  · obtain ⟨m', rfl, g1, g2⟩ := hI
    refine ⟨fun _ => fin m' g1 g2, fun z => m_sign hM g1 (m_dg hM ?_)⟩
    have z : J < most := Nat.lt_of_not_le fun y => z (nI_le y (by omega))
    rw [b_nt (j3 z)]
    exact ⟨fun _ => fin m' g1 g2, fun y => absurd rfl y⟩
theorem m_kind {x : Int32} {Q : Int32 → Prop} (h : (x = -1 ∧ Q (-1)) ∨ ∃ c, c < 256 ∧ x = nI c ∧ Q (if kN c < 7 then nI (kN c) else -1)) : wX5_kindOf Q x := by
  rcases h with ⟨rfl, h⟩ | ⟨c, hc, rfl, h⟩
  · exact ⟨fun _ => ⟨fun _ => ⟨fun _ => ⟨fun _ => ⟨fun _ => ⟨fun _ => ⟨fun _ => h, fun z => absurd z (by decide)⟩, fun z => absurd z (by decide)⟩, fun z => absurd z (by decide)⟩, fun z => absurd z (by decide)⟩, fun z => absurd z (by decide)⟩, fun z => absurd z (by decide)⟩, fun z => absurd z (by decide)⟩
  · unfold kN at h
    have eq : ∀ d, d < 256 → (nI c = nI d ↔ c = d) := fun d hd => nI_eq (by omega) (by omega)
    refine ⟨fun z1 => ⟨fun z2 => ⟨fun z3 => ⟨fun z4 => ⟨fun z5 => ⟨fun z6 => ⟨fun z7 => ?_, fun z => ?_⟩, fun z => ?_⟩, fun z => ?_⟩, fun z => ?_⟩, fun z => ?_⟩, fun z => ?_⟩, fun z => ?_⟩
    · have z1 : ¬ c = 98 := fun e => z1 ((eq 98 (by decide)).mpr e)
      have z2 : ¬ c = 108 := fun e => z2 ((eq 108 (by decide)).mpr e)
      have z3 : ¬ c = 116 := fun e => z3 ((eq 116 (by decide)).mpr e)
      have z4 : ¬ c = 101 := fun e => z4 ((eq 101 (by decide)).mpr e)
      have z5 : ¬ c = 119 := fun e => z5 ((eq 119 (by decide)).mpr e)
      have z6 : ¬ c = 103 := fun e => z6 ((eq 103 (by decide)).mpr e)
      have z7 : ¬ c = 115 := fun e => z7 ((eq 115 (by decide)).mpr e)
      rw [if_neg z1, if_neg z2, if_neg z3, if_neg z4, if_neg z5, if_neg z6, if_neg z7] at h
      exact h
    · have z := (eq 115 (by decide)).mp z
      subst z; exact h
    · have z := (eq 103 (by decide)).mp z
      subst z; exact h
    · have z := (eq 119 (by decide)).mp z
      subst z; exact h
    · have z := (eq 101 (by decide)).mp z
      subst z; exact h
    · have z := (eq 116 (by decide)).mp z
      subst z; exact h
    · have z := (eq 108 (by decide)).mp z
      subst z; exact h
    · have z := (eq 98 (by decide)).mp z
      subst z; exact h
theorem m_kndS (hM : MtT T n m0) {a : Nat} {Q : Int32 → Prop} (h1 : a < n → kN (T a) < 7 → Q (nI (kN (T a)))) (h0 : ¬ (a < n ∧ kN (T a) < 7) → Q (-1)) : wX5_kindOf Q (sgn T n a) := by
  refine m_kind ?_
  unfold sgn
  by_cases y : a < n
  · rw [if_pos y]
    refine Or.inr ⟨T a, hM.2.1 a, rfl, ?_⟩
    by_cases w : kN (T a) < 7
    · rw [if_pos w]; exact h1 y w
    · rw [if_neg w]; exact h0 (fun z => w z.2)
  · rw [if_neg y]
    exact Or.inl ⟨rfl, h0 (fun z => y z.1)⟩
end ML
