/-! a paper's own weeks beside the whole town's weeks -/
theorem it1_oth {a b : Nat} (h : a ≠ b) (idle : Int32) (t : ew_M) : ∀ n, Eq5 a t (iter (st1 idle b) n t)
  | 0 => Eq5.rf a t
  | n + 1 => by
    have h1 := it1_oth h idle t n
    show Eq5 a t (st1 idle b n (iter (st1 idle b) n t))
    rw [sh_pt (st1_sh idle b n (iter (st1 idle b) n t))]
    exact h1.tr (pt_eq5 h _ _)
theorem passP_oth {a b : Nat} (h : a ≠ b) (idle : Int32) (t : ew_M) : Eq5 a t (passP idle b t) := by
  rw [passP_c]
  exact (it1_oth h idle t _).tr ((ph2c_ok _ b).e5 a)
theorem passP_same {a : Nat} {t u : ew_M} (h : Eq5 a t u) (idle : Int32) : Eq5 a (passP idle a t) (passP idle a u) := by
  rw [passP_c, passP_c, e5_P h]
  exact (((ph2c_ok _ a).e5 a).sy.tr (e5_it1 h idle _)).tr ((ph2c_ok _ a).e5 a)
theorem itP_E {a : Nat} {t : ew_M} (idl : Nat → Int32) : ∀ n, (n ≤ a → Eq5 a t (iter (fun b => passP (idl b) b) n t)) ∧ (a < n → Eq5 a (passP (idl a) a t) (iter (fun b => passP (idl b) b) n t))
  | 0 => ⟨fun _ => Eq5.rf a t, fun h => absurd h (by omega)⟩
  | n + 1 => by
    obtain ⟨h1, h2⟩ := itP_E (a := a) (t := t) idl n
    rw [iter_succ]
    refine ⟨fun h => (h1 (by omega)).tr (passP_oth (by omega) _ _), fun h => ?_⟩
    by_cases e : n = a
    · subst e
      exact passP_same (h1 (Nat.le_refl _)) _
    · exact (h2 (by omega)).tr (passP_oth (fun z => e z.symm) _ _)
theorem wk1_E {a : Nat} {t u : ew_M} (h : Eq5 a t u) : Eq5 a (wk1 t) (wk1 u) := by
  refine ⟨?_, h.2.1, h.2.2.1, h.2.2.2.1, h.2.2.2.2⟩
  unfold wk1 ew_sI
  rw [h.1]
theorem passWi_E {a : Nat} {t u : ew_M} (idl : Nat → Int32) (ha : a < An t) (h : Eq5 a t u) : Eq5 a (passWi idl t) (wk1 (passP (idl a) a u)) := by
  unfold passWi
  exact wk1_E ((((itP_E idl (An t)).2 ha).sy).tr (passP_same h _))
theorem m_mayRead2 {t m : ew_M} (hr : RT t m) (hw : wf t) {p a : Nat} (ha : a < An t) (hp : p < 10) {Q : Int32 → Prop} (h : Q (bI (canR t p a))) : wX5_mayRead Q (nI p) (nI a) m := by
  have hA := hw.A.2
  by_cases q : p < Pn t
  · exact m_mayRead hr hw (by omega) q h
  · refine m_isPerson hr hw hp ?_
    rw [decide_eq_false q]
    refine ⟨fun _ => ?_, fun z => absurd rfl z⟩
    have b1 := (hw.2.2.2.1 a ha).1
    have b2 : (bs t a).testBit p = false := Nat.testBit_lt_two_pow (Nat.lt_of_lt_of_le b1 (Nat.pow_le_pow_right (by decide) (by omega)))
    rw [canR, unr, b2] at h
    exact h
/-- judge's rows -/
def ju (t : ew_M) (row : Nat → Nat) (a : Nat) : Nat → ew_M
  | 0 => t
  | i + 1 => wk1 (passP (-1) a (if row i = 9 then ju t row a i else mk (ju t row a i) (row i) a))
def jok (t : ew_M) (row : Nat → Nat) (a i : Nat) : Prop := row i = 9 ∨ canR (ju t row a i) (row i) a = true
theorem wk1_1 (t : ew_M) (i : Nat) (h : i ≠ 4) : (wk1 t).1 i = t.1 i := by unfold wk1; rw [sI_i h]
theorem ju_wf {t : ew_M} (hw : wf t) {row : Nat → Nat} {a : Nat} (ha : a < An t) (hrow : ∀ i, row i < 10) : ∀ n, (∀ i, i < n → jok t row a i) → wf (ju t row a n) ∧ An (ju t row a n) = An t ∧ Pn (ju t row a n) = Pn t
  | 0, _ => ⟨hw, rfl, rfl⟩
  | n + 1, h => by
    obtain ⟨h1, h2, h3⟩ := ju_wf hw ha hrow n (fun i hi => h i (by omega))
    have hk := h n (by omega)
    have key : ∀ v : ew_M, wf v → An v = An t → Pn v = Pn t → wf (wk1 (passP (-1) a v)) ∧ An (wk1 (passP (-1) a v)) = An t ∧ Pn (wk1 (passP (-1) a v)) = Pn t := fun v w1 w2 w3 => by
      refine ⟨wf_w (wf_passP w1 (by omega)) _, ?_, ?_⟩
      · unfold An; rw [wk1_1 _ _ (by decide), passP_1]; exact w2
      · unfold Pn; rw [wk1_1 _ _ (by decide), passP_1]; exact w3
    show wf (wk1 (passP (-1) a (if row n = 9 then ju t row a n else mk (ju t row a n) (row n) a))) ∧ _
    by_cases q : row n = 9
    · have e : ju t row a (n + 1) = wk1 (passP (-1) a (ju t row a n)) := by
        show wk1 (passP (-1) a (if row n = 9 then _ else _)) = _
        rw [if_pos q]
      rw [e, if_pos q]
      exact key _ h1 h2 h3
    · have e : ju t row a (n + 1) = wk1 (passP (-1) a (mk (ju t row a n) (row n) a)) := by
        show wk1 (passP (-1) a (if row n = 9 then _ else _)) = _
        rw [if_neg q]
      rw [e, if_neg q]
      have c := hk.resolve_left q
      rw [canR, Bool.and_eq_true] at c
      have u := c.1
      have pl : row n < 6 := by
        rw [unr, Bool.and_eq_true] at u
        have l := Nat.testBit_lt_two_pow (x := bs (ju t row a n) a) (i := row n)
        have b := (h1.2.2.2.1 a (by omega)).1
        have hP := h1.P.2
        refine Nat.lt_of_not_le fun z => ?_
        rw [Nat.testBit_lt_two_pow (Nat.lt_of_lt_of_le b (Nat.pow_le_pow_right (by decide) (by omega)))] at u
        exact absurd u.1 (by decide)
      exact key _ (wf_mk h1 (by omega) pl u) h2 h3
