/-! THE TOWN as the class has it: what is read of it, and what each step makes of it -/
def bs (t : ew_M) (a : Nat) : Nat := cl (t.2.1 4 a)
def rs (t : ew_M) (a : Nat) : Nat := cl (t.2.1 5 a)
def ss (t : ew_M) (a : Nat) : Nat := cl (t.2.1 6 a)
def tr (t : ew_M) (a : Nat) : Nat := cl (t.2.1 7 a)
def Pn (t : ew_M) : Nat := cl (t.1 0)
def An (t : ew_M) : Nat := cl (t.1 1)
def Ln (t : ew_M) : Nat := cl (t.1 2)
def g3 (t : ew_M) (f : Nat) : Nat := Nat.gcd (Nat.gcd (t.2.2 0 f).toInt.toNat (t.2.2 0 (f + 1)).toInt.toNat) (t.2.2 0 (f + 2)).toInt.toNat
def wf (t : ew_M) : Prop :=
  (isN (t.1 0) 7 ∧ isN (t.1 1) 6 ∧ isN (t.1 2) 5 ∧ isN (t.1 3) 101) ∧
  (∀ p, p < 6 → isN (t.2.1 0 p) 7 ∧ isN (t.2.1 1 p) 10 ∧ isN (t.2.1 2 p) 100) ∧
  (∀ a, a < 5 → isN (t.2.1 4 a) 64 ∧ isN (t.2.1 5 a) 64 ∧ isN (t.2.1 6 a) 64 ∧ isN (t.2.1 7 a) 3) ∧
  (∀ a, a < An t → bs t a < 2 ^ Pn t ∧ 0 < bs t a ∧ rs t a &&& bs t a = rs t a) ∧
  (∀ k, k < 15 → isN (t.2.1 9 k) 101 ∧ -4 ≤ (t.2.1 10 k).toInt ∧ (t.2.1 10 k).toInt ≤ 5) ∧
  (∀ k, k < 30 → isN (t.2.1 11 k) 4) ∧
  (∀ k, k < 90 → 0 ≤ (t.2.2 0 k).toInt ∧ (t.2.2 0 k).toInt ≤ 100 * 200 ^ cl (t.2.1 11 (k / 3))) ∧
  (∀ k, k < An t * 6 → g3 t (k * 3) = 1)
theorem wf.P {t : ew_M} (hw : wf t) : t.1 0 = nI (Pn t) ∧ Pn t ≤ 6 := ⟨hw.1.1.1, by have := hw.1.1.2; show cl _ ≤ 6; omega⟩
theorem wf.A {t : ew_M} (hw : wf t) : t.1 1 = nI (An t) ∧ An t ≤ 5 := ⟨hw.1.2.1.1, by have := hw.1.2.1.2; show cl _ ≤ 5; omega⟩
theorem wf.L {t : ew_M} (hw : wf t) : t.1 2 = nI (Ln t) ∧ Ln t ≤ 4 := ⟨hw.1.2.2.1.1, by have := hw.1.2.2.1.2; show cl _ ≤ 4; omega⟩
theorem wf.b {t : ew_M} (hw : wf t) {a : Nat} (ha : a < 5) : t.2.1 4 a = nI (bs t a) ∧ bs t a < 64 := (hw.2.2.1 a ha).1
theorem wf.r {t : ew_M} (hw : wf t) {a : Nat} (ha : a < 5) : t.2.1 5 a = nI (rs t a) ∧ rs t a < 64 := (hw.2.2.1 a ha).2.1
theorem wf.s {t : ew_M} (hw : wf t) {a : Nat} (ha : a < 5) : t.2.1 6 a = nI (ss t a) ∧ ss t a < 64 := (hw.2.2.1 a ha).2.2.1
theorem wf.t {t : ew_M} (hw : wf t) {a : Nat} (ha : a < 5) : t.2.1 7 a = nI (tr t a) ∧ tr t a < 3 := (hw.2.2.1 a ha).2.2.2
theorem cN {a : Nat} (h : a < 1000) : (nI a).toNatClampNeg = a := nI_clamp (by omega)
def unr (t : ew_M) (p a : Nat) : Bool := (bs t a).testBit p && !(rs t a).testBit p
def inF (t : ew_M) (a : Nat) : Bool := fo (Ln t) (pc (bs t a)) (pc (rs t a))
def canR (t : ew_M) (p a : Nat) : Bool := unr t p a && inF t a
def uns (t : ew_M) (a : Nat) : Nat := bs t a &&& (63 ^^^ rs t a)
theorem uns_lt {t : ew_M} (hw : wf t) {a : Nat} (ha : a < 5) : uns t a < 64 := bt_and_lt _ (hw.b ha).2 _ (hw.r ha).2
theorem uns_tb {t : ew_M} (hw : wf t) {a p : Nat} (ha : a < 5) (hp : p < 10) : (uns t a).testBit p = unr t p a := bt_and_tb _ (hw.b ha).2 _ (hw.r ha).2 p hp
theorem p_isBound {t : ew_M} (hw : wf t) {p a : Nat} (ha : a < 5) (hp : p < 10) {Q : Int32 → Prop} (h : Q (bI ((bs t a).testBit p))) : wX3_isBound Q (nI p) (nI a) t := by
  obtain ⟨e1, e2⟩ := hw.b ha
  refine ⟨vp_in_nI ha (by decide), ?_⟩
  rw [cN (by omega), e1]
  refine ⟨fun q => ?_, fun q => ?_⟩
  · rw [(bt_0 e2 hp).mp q] at h; exact h
  · rw [bt_0 e2 hp] at q
    rw [b_nf q] at h
    exact h
theorem p_unreadOf {t : ew_M} (hw : wf t) {a : Nat} (ha : a < 5) {Q : Int32 → Prop} (h : Q (nI (uns t a))) : wX3_unreadOf Q (nI a) t := by
  obtain ⟨e1, e2⟩ := hw.b ha
  obtain ⟨e3, e4⟩ := hw.r ha
  refine ⟨vp_in_nI ha (by decide), vp_in_nI ha (by decide), ?_⟩
  rw [cN (by omega), e1, e3, bt_andn _ e2 _ e4]
  exact h
theorem p_isUnread {t : ew_M} (hw : wf t) {p a : Nat} (ha : a < 5) (hp : p < 10) {Q : Int32 → Prop} (h : Q (bI (unr t p a))) : wX3_isUnread Q (nI p) (nI a) t := by
  refine p_unreadOf hw ha ?_
  have e := uns_tb hw ha hp
  refine ⟨fun q => ?_, fun q => ?_⟩
  · rw [(bt_0 (uns_lt hw ha) hp)] at q; rw [← e, q] at h; exact h
  · rw [bt_0 (uns_lt hw ha) hp] at q
    rw [← e, b_nf q] at h
    exact h
theorem fo_le {n c : Nat} (hn : n < 100) (hc : c < 100) : (nI n ≤ nI c) ↔ n ≤ c := nI_leI (by omega) (by omega)
theorem p_forceWith {t : ew_M} (hw : wf t) {a c : Nat} (ha : a < 5) (hc : c < 50) {Q : Int32 → Prop} (h : Q (bI (fo (Ln t) (pc (bs t a)) c))) : wX3_isInForceWith Q (nI a) (nI c) t := by
  obtain ⟨e1, e2⟩ := hw.b ha
  obtain ⟨e3, e4⟩ := hw.L
  have e5 := pc_le _ e2
  refine ⟨vp_in_nI ha (by decide), ?_⟩
  rw [cN (by omega), e1]
  refine j_bc e2 ?_
  rw [e3]
  have m2 : (2 : Int32) * nI c = nI (2 * c) := pk_mul 2 c
  have f1 := fo_le (n := pc (bs t a)) (c := c) (by omega) (by omega)
  have f2 := fo_le (n := 1) (c := c) (by omega) (by omega)
  have f3 := nI_ltI (a := pc (bs t a)) (b := 2 * c) (by omega) (by omega)
  have f4 := nI_ltI (a := pc (bs t a)) (b := 2) (by omega) (by omega)
  have f5 := fo_le (n := 2) (c := c) (by omega) (by omega)
  rcases (show Ln t = 0 ∨ Ln t = 1 ∨ Ln t = 2 ∨ Ln t = 3 ∨ Ln t = 4 by omega) with l | l | l | l | l
  · rw [l] at h ⊢
    refine ⟨fun _ => ⟨fun q => ?_, fun q => ?_⟩, fun q => absurd rfl q⟩
    · rw [f1] at q; rw [show fo 0 (pc (bs t a)) c = false by simp [fo]; omega] at h; exact h
    · rw [f1] at q; rw [show fo 0 (pc (bs t a)) c = true by simp [fo]; omega] at h; exact h
  · rw [l] at h ⊢
    refine ⟨fun q => absurd q (by decide), fun _ => ⟨fun _ => ⟨fun q => ?_, fun q => ?_⟩, fun q => absurd rfl q⟩⟩
    · have q : nI 1 ≤ nI c := q
      rw [f2] at q; rw [show fo 1 (pc (bs t a)) c = false by simp [fo]; omega] at h; exact h
    · have q : ¬ nI 1 ≤ nI c := q
      rw [f2] at q; rw [show fo 1 (pc (bs t a)) c = true by simp [fo]; omega] at h; exact h
  · rw [l] at h ⊢
    refine ⟨fun q => absurd q (by decide), fun _ => ⟨fun q => absurd q (by decide), fun _ => ⟨fun _ => ⟨fun q => ?_, fun q => ?_⟩, fun q => absurd rfl q⟩⟩⟩
    · rw [m2, f3] at q; rw [show fo 2 (pc (bs t a)) c = false by simp [fo]; omega] at h; exact h
    · rw [m2, f3] at q; rw [show fo 2 (pc (bs t a)) c = true by simp [fo]; omega] at h; exact h
  · rw [l] at h ⊢
    refine ⟨fun q => absurd q (by decide), fun _ => ⟨fun q => absurd q (by decide), fun _ => ⟨fun q => absurd q (by decide), fun _ => ⟨fun _ => ?_, fun q => absurd rfl q⟩⟩⟩⟩
    have e : (if nI (pc (bs t a)) < (2 : Int32) then nI (pc (bs t a)) else 2) = nI (min (pc (bs t a)) 2) := by
      have f4' : nI (pc (bs t a)) < (2 : Int32) ↔ pc (bs t a) < 2 := f4
      by_cases q : pc (bs t a) < 2
      · rw [if_pos (f4'.mpr q), Nat.min_eq_left (by omega)]
      · rw [if_neg (fun z => q (f4'.mp z)), Nat.min_eq_right (by omega)]; rfl
    rw [e]
    have f6 := fo_le (n := min (pc (bs t a)) 2) (c := c) (by omega) (by omega)
    refine ⟨fun q => ?_, fun q => ?_⟩
    · rw [f6] at q; rw [show fo 3 (pc (bs t a)) c = false by simp [fo]; omega] at h; exact h
    · rw [f6] at q; rw [show fo 3 (pc (bs t a)) c = true by simp [fo]; omega] at h; exact h
  · rw [l] at h ⊢
    exact ⟨fun q => absurd q (by decide), fun _ => ⟨fun q => absurd q (by decide), fun _ => ⟨fun q => absurd q (by decide), fun _ => ⟨fun q => absurd q (by decide), fun _ => h⟩⟩⟩⟩
theorem p_isInForce {t : ew_M} (hw : wf t) {a : Nat} (ha : a < 5) {Q : Int32 → Prop} (h : Q (bI (inF t a))) : wX3_isInForce Q (nI a) t := by
  obtain ⟨e1, e2⟩ := hw.r ha
  refine ⟨vp_in_nI ha (by decide), ?_⟩
  rw [cN (by omega), e1]
  refine j_bc e2 ?_
  have e5 := pc_le _ e2
  exact p_forceWith hw ha (by omega) ⟨bI_nar _, h⟩
theorem p_canRead {t : ew_M} (hw : wf t) {p a : Nat} (ha : a < 5) (hp : p < 10) {Q : Int32 → Prop} (h : Q (bI (canR t p a))) : wX3_canRead Q (nI p) (nI a) t := by
  refine p_isUnread hw ha hp ⟨fun q => ?_, fun q => ?_⟩
  · rw [bI_0] at q; rw [canR, q] at h; exact h
  · rw [bI_0] at q
    refine p_isInForce hw ha ⟨fun q2 => ?_, fun q2 => ?_⟩
    · rw [bI_0] at q2; rw [canR, q2, Bool.and_false] at h; exact h
    · rw [bI_0] at q2; rw [canR, b_nf q, b_nf q2] at h; exact h
def mk (t : ew_M) (p a : Nat) : ew_M := ew_sA t 5 a (nI (rs t a ||| 2 ^ p))
theorem p_markRead {t : ew_M} (hw : wf t) {p a : Nat} (ha : a < 5) (hp : p < 6) {Q : ew_M → Prop} (h : Q (mk t p a)) : wX3_markRead Q (nI p) (nI a) t := by
  obtain ⟨e1, e2⟩ := hw.r ha
  refine ⟨vp_in_nI ha (by decide), vp_in_nI ha (by decide), ?_⟩
  rw [cN (by omega), e1, bt_or _ e2 p hp]
  exact h
