/-! town: which statement is wrong, and how they follow each other -/
section WR
variable {T : Nat → Nat} {n a : Nat} {t t' m : ew_M}
def nP (T : Nat → Nat) (a : Nat) (t : ew_M) : Nat := if T a = 112 then Pn t + 1 else Pn t
def nA (T : Nat → Nat) (a : Nat) (t : ew_M) : Nat := if T a = 97 then An t + 1 else An t
theorem TK_PA (ok : (stF T n a).1 = true) (hg : gd T n a t) (h : TK T n a t t') : Pn t' = nP T a t ∧ An t' = nA T a t := by
  unfold nP nA
  rcases (st_sort ok).2 with e | e | e | e
  · have g := (gd_a e).mp hg
    have hT := (TK_a e).mp h
    rw [if_neg (by omega), if_pos e]
    exact ⟨TA_P hT, TA_A g.1 hT⟩
  · rw [(TK_c e).mp h, if_neg (by omega), if_neg (by omega)]
    exact ⟨by unfold Pn; rw [sI_i (by decide)], by unfold An; rw [sI_i (by decide)]⟩
  · rw [(TK_l e).mp h, if_neg (by omega), if_neg (by omega)]
    exact ⟨by unfold Pn; rw [sI_i (by decide)], by unfold An; rw [sI_i (by decide)]⟩
  · have g := (gd_p e).mp hg
    rw [(TK_p e).mp h, if_pos e, if_neg (by omega)]
    exact ⟨tP_P _ _ _ g, tP_A _ _ _ _⟩
theorem bA_g (hJ : 0 < nJ T n (a + 1) 6) {P : Nat} (hP : P ≤ 6) : (nI P ≤ (if ris T (a + 1) (nJ T n (a + 1) 6) = true then nI (lst T (a + 1) (nJ T n (a + 1) 6)) - 1 else 99)) ↔ ¬ (bA T n a ≠ 0 ∧ bA T n a < 2 ^ P) := by
  obtain ⟨-, j2, -⟩ := nJ_p T n (a + 1) 6
  have lb := (bse_b _ j2).2
  unfold bA
  generalize nJ T n (a + 1) 6 = J at hJ lb ⊢
  by_cases e : ris T (a + 1) J = true
  · rw [if_pos e, if_pos e, le_pred (by omega) (by omega)]
    obtain ⟨r1, r2⟩ := ris_b J e
    have r2 := r2 hJ
    have p1 : 0 < 2 ^ (lst T (a + 1) J - 1) := Nat.two_pow_pos _
    constructor
    · intro h g
      have : 2 ^ P ≤ 2 ^ (lst T (a + 1) J - 1) := Nat.pow_le_pow_right (by decide) (by omega)
      omega
    · intro h
      refine Classical.byContradiction fun z => h ⟨by omega, Nat.lt_of_lt_of_le r1 (Nat.pow_le_pow_right (by decide) (by omega))⟩
  · rw [if_neg e, if_neg e]
    exact ⟨fun _ h => h.1 rfl, fun _ => nI_le (a := P) (b := 99) (by omega) (by decide)⟩
theorem m_wr {k K : Nat} (hw : wf t) (hkK : k < K) (hK : K ≤ 31) (m23 : m.1 23 = nI K) (ok : (stF T n a).1 = true) (hv : MtV T n k a m) {R : Int32 × Int32 × Int32 → Prop} {Q : Int32 → Prop} (hy : gd T n a t → R (nI (nP T a t), nI (nA T a t), nI (k + 1))) (hn : ¬ gd T n a t → Q (nI k)) : wX5_wrongOne_12 R Q (nI (Pn t)) (nI (An t)) (nI k) m := by
  obtain ⟨-, v16, v17⟩ := hv
  have hP := hw.P.2
  have hA := hw.A.2
  unfold wX5_wrongOne_12
  rw [m23, cN (by omega), v16, ix9, pl_1, pl_2, pl_3]
  rw [cN (by omega), cN (by omega), cN (by omega), cN (by omega)]
  have vk : vp_in (nI k) 32 := vp_in_nI (by omega) (by decide)
  have v9 : ∀ j, j < 9 → vp_in (nI (9 * k + j)) 288 := fun j hj => vp_in_nI (by omega) (by decide)
  have y155 : ∀ {x y t0 : Int32}, ¬ t0 = 0 → x = nI (nP T a t) → y = nI (nA T a t) → gd T n a t → wX5_wrongOne_155 R Q x y (nI k) t0 m := fun h ex ey g => by
    subst ex
    subst ey
    refine ⟨fun _ => ?_, fun z => absurd z h⟩
    rw [nI_s]
    exact hy g
  have n155 : ∀ {x y : Int32}, ¬ gd T n a t → wX5_wrongOne_155 R Q x y (nI k) 0 m := fun g => ⟨fun z => absurd rfl z, fun _ => hn g⟩
  refine ⟨fun z => absurd z (nI_ge hkK (by omega)), fun _ => ?_⟩
  unfold nP nA at y155
  rcases (st_sort ok).2 with e | e | e | e
  · obtain ⟨w1, w2, w3⟩ := stW_a (n := n) e
    rw [w1, w2] at v17
    have x1 : m.2.1 17 (9 * k + 1) = (if ris T (a + 1) (nJ T n (a + 1) 6) = true then nI (lst T (a + 1) (nJ T n (a + 1) 6)) - 1 else 99) := v17 1 (by decide)
    have x2 : m.2.1 17 (9 * k + 2) = nI (c0A T n a) := v17 2 (by decide)
    have x3 : m.2.1 17 (9 * k + 3) = nI (c1A T n a) := v17 3 (by decide)
    have b0 : c0A T n a < 1000 := c0A_b
    have b1 : c1A T n a < 1000 := c1A_b
    have ba := bA_g (T := T) (n := n) (a := a) (st_J ok e) hP
    rw [if_neg (by omega), if_pos e] at y155
    have g := gd_a (n := n) (t := t) e
    rw [w3, x1, x2, x3, nI_add]
    refine ⟨vk, fun _ => ⟨vk, fun z => absurd rfl z, fun _ => ⟨fun z => n155 fun y => ?_, fun z => ⟨v9 1 (by decide), fun z1 => n155 fun y => ?_, fun z1 => ⟨v9 2 (by decide), v9 3 (by decide), fun z2 => n155 fun y => ?_, fun z2 => ?_⟩⟩⟩⟩, fun z => absurd z (by decide)⟩
    · have := (nI_leI (a := 5) (b := An t) (by decide) (by omega)).mp z
      have := (g.mp y).1
      omega
    · exact (ba.mp z1) ⟨(g.mp y).2.1, (g.mp y).2.2.1⟩
    · have := (nI_ltI (a := 100) (b := c0A T n a + c1A T n a) (by decide) (by omega)).mp z2
      have := (g.mp y).2.2.2
      omega
    · have A5 : An t < 5 := Nat.lt_of_not_le fun y => z (nI_le (a := 5) (b := An t) y (by omega))
      have c5 : c0A T n a + c1A T n a ≤ 100 := Nat.le_of_not_lt fun y => z2 ((nI_ltI (a := 100) (b := c0A T n a + c1A T n a) (by decide) (by omega)).mpr y)
      have bb : bA T n a ≠ 0 ∧ bA T n a < 2 ^ Pn t := Classical.byContradiction fun y => z1 (ba.mpr y)
      exact y155 z10 rfl (nI_s _) (g.mpr ⟨A5, bb.1, bb.2, c5⟩)
  · obtain ⟨w1, w2, w3⟩ := stW_c (n := n) e
    rw [w1, w2] at v17
    have x0 : m.2.1 17 (9 * k) = nI (nvn T n (a + 1) 3) := v17 0 (by decide)
    have g := gd_c (n := n) (t := t) e
    have vb := nvn_b T n (a + 1) 3
    rw [if_neg (by omega), if_neg (by omega)] at y155
    rw [w3, x0]
    refine ⟨vk, fun _ => ⟨vk, fun _ => ⟨v9 0 (by decide), vk, fun _ => ⟨fun z => n155 fun y => ?_, fun z => y155 z10 rfl rfl (g.mpr ?_)⟩, fun z => absurd z (by decide)⟩, fun z => absurd z (by decide)⟩, fun z => absurd z (by decide)⟩
    · have := (nI_ltI (a := 100) (b := nvn T n (a + 1) 3) (by decide) (by omega)).mp z
      have := g.mp y
      omega
    · exact Nat.le_of_not_lt fun y => z ((nI_ltI (a := 100) (b := nvn T n (a + 1) 3) (by decide) (by omega)).mpr y)
  · obtain ⟨w1, w2, w3⟩ := stW_l (n := n) e
    rw [w1, w2] at v17
    have x0 : m.2.1 17 (9 * k) = nI (nvn T n (a + 1) 1) := v17 0 (by decide)
    have g := gd_l (n := n) (t := t) e
    have vb := nvn_b T n (a + 1) 1
    rw [if_neg (by omega), if_neg (by omega)] at y155
    rw [w3, x0]
    refine ⟨vk, fun _ => ⟨vk, fun _ => ⟨v9 0 (by decide), vk, fun z => absurd rfl z, fun _ => ⟨fun z => n155 fun y => ?_, fun z => y155 z10 rfl rfl (g.mpr ?_)⟩⟩, fun z => absurd z (by decide)⟩, fun z => absurd z (by decide)⟩
    · have := (nI_ltI (a := 4) (b := nvn T n (a + 1) 1) (by decide) (by omega)).mp z
      have := g.mp y
      omega
    · exact Nat.le_of_not_lt fun y => z ((nI_ltI (a := 4) (b := nvn T n (a + 1) 1) (by decide) (by omega)).mpr y)
  · obtain ⟨w1, w2, w3⟩ := stW_p (n := n) e
    have g := gd_p (n := n) (t := t) e
    rw [if_pos e, if_neg (by omega)] at y155
    rw [w3]
    refine ⟨vk, fun z => absurd rfl z, fun _ => ⟨fun z => n155 fun y => ?_, fun z => y155 z10 (nI_s _) rfl (g.mpr ?_)⟩⟩
    · have := (nI_leI (a := 6) (b := Pn t) (by decide) (by omega)).mp z
      have := g.mp y
      omega
    · exact Nat.lt_of_not_le fun y => z (nI_le (a := 6) (b := Pn t) y (by omega))
/-- where the k-th statement begins -/
noncomputable def ps (T : Nat → Nat) (n : Nat) : Nat → Nat
  | 0 => 0
  | k + 1 => (stF T n (ps T n k)).2
theorem li_le {c : Nat} {q : Bool × Nat} (h : (li T n c q).1 = true) : (li T n c q).2 = q.2 + 1 ∧ q.2 < n ∧ q.1 = true := by
  obtain ⟨h1, h2, h3, -⟩ := li_p h
  rw [h2]
  exact ⟨rfl, h3, h1⟩
theorem nm_le {most : Nat} {q : Bool × Nat} (h : (nm T n most q).1 = true) : q.2 + 1 ≤ (nm T n most q).2 ∧ q.1 = true := by
  obtain ⟨h1, h2, h3⟩ := nm_p h
  rw [h2]
  exact ⟨by show q.2 + 1 ≤ q.2 + _; omega, h1⟩
theorem st_end (ok : (stF T n a).1 = true) : a + 3 ≤ (stF T n a).2 ∧ (stF T n a).2 ≤ n := by
  obtain ⟨ha, e⟩ := st_sort ok
  rcases e with e | e | e | e
  · rw [stF_a ha e] at ok ⊢
    obtain ⟨l1, l2, l3⟩ := li_le ok
    obtain ⟨k9, l4⟩ := nm_le l3
    obtain ⟨k8, l5⟩ := nm_le l4
    obtain ⟨k7, l6⟩ := nm_le l5
    obtain ⟨k6, -, l7⟩ := li_le l6
    obtain ⟨k5, l8⟩ := nm_le l7
    obtain ⟨k4, -, l9⟩ := li_le l8
    obtain ⟨k3, l10⟩ := nm_le l9
    obtain ⟨k2, -, l11⟩ := li_le l10
    obtain ⟨k1, -⟩ := nm_le (q := (true, a + 1)) l11
    unfold stA aq9 aq8 aq7 aq6 aq5 aq4 aq3 aq2 aq1 at *
    dsimp only at *
    omega
  · rw [stF_c ha e] at ok ⊢
    obtain ⟨l1, l2, l3⟩ := li_le ok
    obtain ⟨k9, -⟩ := nm_le (q := (true, a + 1)) l3
    unfold stC cq1 at *
    dsimp only at *
    omega
  · rw [stF_l ha e] at ok ⊢
    obtain ⟨l1, l2, l3⟩ := li_le ok
    obtain ⟨k9, -⟩ := nm_le (q := (true, a + 1)) l3
    unfold stL lq1 at *
    dsimp only at *
    omega
  · rw [stF_p ha e] at ok ⊢
    obtain ⟨l1, l2, l3⟩ := li_le ok
    obtain ⟨k3, l4⟩ := nm_le l3
    obtain ⟨k2, l5⟩ := nm_le l4
    obtain ⟨-, h2, -⟩ := ki_p (q := (true, a + 1)) l5
    have hk : (ki T n (true, a + 1)).2 = a + 1 + 1 := by rw [h2]
    clear h2
    unfold stP pq3 pq2 pq1 at *
    omega
end WR
