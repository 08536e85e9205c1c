/-! town: how letters are read -/
def dg (T : Nat → Nat) (n at0 : Nat) : Bool := decide (at0 < n) && (decide (48 ≤ T at0) && decide (T at0 ≤ 57))
theorem dg_t {T : Nat → Nat} {n a : Nat} : dg T n a = true ↔ (a < n ∧ 48 ≤ T a ∧ T a ≤ 57) := by
  unfold dg
  rw [Bool.and_eq_true, Bool.and_eq_true, decide_eq_true_eq, decide_eq_true_eq, decide_eq_true_eq]
noncomputable def nJ (T : Nat → Nat) (n a most : Nat) : Nat := Classical.choose (first_of (fun i => dg T n (a + i) = true) most)
theorem nJ_p (T : Nat → Nat) (n a most : Nat) : nJ T n a most ≤ most ∧ (∀ i, i < nJ T n a most → dg T n (a + i) = true) ∧ (nJ T n a most < most → ¬ dg T n (a + nJ T n a most) = true) := Classical.choose_spec (first_of (fun i => dg T n (a + i) = true) most)
def nv (T : Nat → Nat) (a : Nat) : Nat → Nat
  | 0 => 0
  | i + 1 => nv T a i * 10 + (T (a + i) - 48)
theorem nv_b {T : Nat → Nat} {n a : Nat} : ∀ i, (∀ j, j < i → dg T n (a + j) = true) → nv T a i < 10 ^ i
  | 0, _ => by
    show 0 < 1
    decide
  | i + 1, h => by
    have h1 := nv_b i (fun j hj => h j (by omega))
    have h2 := dg_t.mp (h i (by omega))
    show nv T a i * 10 + (T (a + i) - 48) < 10 ^ (i + 1)
    rw [Nat.pow_succ]
    omega
def LtS (T : Nat → Nat) (n a : Nat) (so : Int32) (s : ew_M) : Prop := a ≤ n ∧ s.1 0 = nI n ∧ s.1 1 = nI a ∧ (∀ j, j < 64 → s.2.1 0 j = nI (T j)) ∧ s.1 2 = so
def NuV (V : Nat → Int32) (i : Nat) (s : ew_M) : Prop := ∀ j, j < i → s.2.1 1 j = V j
theorem LtS.go {T : Nat → Nat} {n a b : Nat} {so : Int32} {s : ew_M} (h : LtS T n a so s) (hb : b ≤ n) : LtS T n b so (ew_sI s 1 (nI b)) := ⟨hb, by rw [sI_i (by decide)]; exact h.2.1, sI_s _ _ _, h.2.2.2.1, by rw [sI_i (by decide)]; exact h.2.2.2.2⟩
theorem LtS.nu {T : Nat → Nat} {n a : Nat} {so : Int32} {s : ew_M} (h : LtS T n a so s) (i : Nat) (v : Int32) : LtS T n a so (ew_sA s 1 i v) := ⟨h.1, h.2.1, h.2.2.1, fun j hj => by rw [sA_a (by decide)]; exact h.2.2.2.1 j hj, h.2.2.2.2⟩
theorem NuV.nu {V : Nat → Int32} {i : Nat} {s : ew_M} (h : NuV V i s) {v : Int32} (hv : v = V i) : NuV V (i + 1) (ew_sA s 1 i v) := fun j hj => by
  by_cases e : j = i
  · subst e
    rw [sA_s, hv]
  · rw [sA_i e]
    exact h j (by omega)
/-- the steps of a statement: whether all is well so far, and where -/
noncomputable def nm (T : Nat → Nat) (n most : Nat) (q : Bool × Nat) : Bool × Nat := if q.1 = true then (if nJ T n q.2 most = 0 then (false, q.2) else (true, q.2 + nJ T n q.2 most)) else q
def li (T : Nat → Nat) (n c : Nat) (q : Bool × Nat) : Bool × Nat := if q.1 = true then (if q.2 < n ∧ T q.2 = c then (true, q.2 + 1) else (false, q.2)) else q
def kN (c : Nat) : Nat := if c = 98 then 0 else if c = 108 then 1 else if c = 116 then 2 else if c = 101 then 3 else if c = 119 then 4 else if c = 103 then 5 else if c = 115 then 6 else 7
def ki (T : Nat → Nat) (n : Nat) (q : Bool × Nat) : Bool × Nat := if q.1 = true then (if q.2 < n ∧ kN (T q.2) < 7 then (true, q.2 + 1) else (false, q.2)) else q
theorem nm_f {T : Nat → Nat} {n most : Nat} {q : Bool × Nat} (h : q.1 = false) : nm T n most q = q := if_neg (by rw [h]; decide)
theorem li_f {T : Nat → Nat} {n c : Nat} {q : Bool × Nat} (h : q.1 = false) : li T n c q = q := if_neg (by rw [h]; decide)
theorem ki_f {T : Nat → Nat} {n : Nat} {q : Bool × Nat} (h : q.1 = false) : ki T n q = q := if_neg (by rw [h]; decide)
theorem nm_p {T : Nat → Nat} {n most : Nat} {q : Bool × Nat} (h : (nm T n most q).1 = true) : q.1 = true ∧ nm T n most q = (true, q.2 + nJ T n q.2 most) ∧ 0 < nJ T n q.2 most := by
  unfold nm at h ⊢
  by_cases e : q.1 = true
  · rw [if_pos e] at h ⊢
    by_cases z : nJ T n q.2 most = 0
    · rw [if_pos z] at h
      exact absurd h Bool.false_ne_true
    · rw [if_neg z]
      exact ⟨e, rfl, by omega⟩
  · rw [if_neg e] at h
    exact absurd h e
theorem li_p {T : Nat → Nat} {n c : Nat} {q : Bool × Nat} (h : (li T n c q).1 = true) : q.1 = true ∧ li T n c q = (true, q.2 + 1) ∧ q.2 < n ∧ T q.2 = c := by
  unfold li at h ⊢
  by_cases e : q.1 = true
  · rw [if_pos e] at h ⊢
    by_cases z : q.2 < n ∧ T q.2 = c
    · rw [if_pos z]
      exact ⟨e, rfl, z⟩
    · rw [if_neg z] at h
      exact absurd h Bool.false_ne_true
  · rw [if_neg e] at h
    exact absurd h e
theorem ki_p {T : Nat → Nat} {n : Nat} {q : Bool × Nat} (h : (ki T n q).1 = true) : q.1 = true ∧ ki T n q = (true, q.2 + 1) ∧ q.2 < n ∧ kN (T q.2) < 7 := by
  unfold ki at h ⊢
  by_cases e : q.1 = true
  · rw [if_pos e] at h ⊢
    by_cases z : q.2 < n ∧ kN (T q.2) < 7
    · rw [if_pos z]
      exact ⟨e, rfl, z⟩
    · rw [if_neg z] at h
      exact absurd h Bool.false_ne_true
  · rw [if_neg e] at h
    exact absurd h e
noncomputable def nvl (T : Nat → Nat) (n a most : Nat) : Int32 := nI (nv T a (nJ T n a most))
theorem bI_ne {b : Bool} (h : ¬ bI b = 0) : b = true := b_nf (fun e => h ((bI_0 b).mpr e))
theorem dst_c {v t : Nat} (h : 48 ≤ t) : nI v * (10 : Int32) + nI t - (48 : Int32) = nI (v * 10 + (t - 48)) := by
  rw [show (10 : Int32) = nI 10 from rfl, show (48 : Int32) = nI 48 from rfl, pk_mul, nI_add, pk_sub (by omega)]
  congr 1; omega
theorem dst_m {v t : Nat} (h : 48 ≤ t) : (10 : Int32) * nI v + nI t - (48 : Int32) = nI (v * 10 + (t - 48)) := by
  rw [show (10 : Int32) = nI 10 from rfl, show (48 : Int32) = nI 48 from rfl, pk_mul, nI_add, pk_sub (by omega)]
  congr 1; omega
theorem kN_all : ∀ c, c < 256 → ((nI c).toUInt32 % 65536).toInt32 = nI c ∧ (∀ i, i < kN c → ¬ ew_kinds i = (nI c).toInt8.toInt32) ∧ (kN c < 7 → ew_kinds (kN c) = (nI c).toInt8.toInt32) ∧ kN c ≤ 7 := by decide +kernel
/-- the place of a letter among the kinds -/
theorem c_index {c : Nat} (hc : c < 256) {Q : Int32 → Prop} (h : Q (if kN c < 7 then nI (kN c) else -1)) : wJ0_indexOf_0f7a4 Q (((nI c).toUInt32 % 65536).toInt32) := by
  obtain ⟨e1, e2, e3, e4⟩ := kN_all c hc
  rw [e1]
  refine ⟨fun z => absurd z z10, fun _ => ⟨fun z => absurd rfl z, fun _ => ⟨rfl, fun z => absurd z z10, fun _ => ?_⟩⟩⟩
  show wJ1_indexOf_4cfef (fun r5 => Q r5) (nI c) 0 7
  refine ⟨fun z => absurd z (nI_pos (by omega)), fun _ => ⟨fun z => ?_, fun _ => ⟨fun _ => ⟨fun _ => ?_, fun z => absurd (by decide) z⟩, fun z => absurd z z10⟩⟩⟩
  · exact absurd ((nI_ltI (a := 255) (b := c) (by decide) (by omega)).mp z) (by omega)
  show wJ1_indexOfChar_4cfef (fun r5 => Q r5) (nI c) 0 7
  refine ew_for (kN c) (fun i => nI i) (fun i R hi hR => ?_) (fun R => ?_)
  · refine ⟨fun z => absurd z (nI_ge (a := i) (b := 7) (by omega) (by decide)), fun _ => ⟨vp_in_nI (by omega) (by decide), fun _ => ?_, fun z => ?_⟩⟩
    · rw [nI_s]
      exact hR
    · rw [cN (by omega)] at z
      exact absurd z (e2 i hi)
  · refine ⟨fun z => ?_, fun z => ?_⟩
    · rw [if_neg (fun y => absurd z (nI_ge (a := kN c) (b := 7) y (by decide)))] at h
      exact h
    · have y : kN c < 7 := Nat.lt_of_not_le fun y => z (nI_le (a := 7) (b := kN c) y (by omega))
      rw [if_pos y] at h
      refine ⟨vp_in_nI (by omega) (by decide), fun w => ?_, fun _ => h⟩
      rw [cN (by omega)] at w
      exact absurd (e3 y) w
/-- persons, as bits -/
def bse (T : Nat → Nat) (a : Nat) : Nat → Nat
  | 0 => 0
  | i + 1 => bse T a i ||| 2 ^ (T (a + i) - 48)
def lst (T : Nat → Nat) (a : Nat) : Nat → Nat
  | 0 => 0
  | i + 1 => (T (a + i) - 48) + 1
def ris (T : Nat → Nat) (a : Nat) : Nat → Bool
  | 0 => true
  | i + 1 => ris T a i && decide (lst T a i ≤ T (a + i) - 48)
theorem bse_b {T : Nat → Nat} {n a : Nat} : ∀ i, (∀ j, j < i → dg T n (a + j) = true) → bse T a i < 1024 ∧ lst T a i ≤ 10
  | 0, _ => by
    show 0 < 1024 ∧ 0 ≤ 10
    decide
  | i + 1, h => by
    have h1 := (bse_b i (fun j hj => h j (by omega))).1
    have h2 := dg_t.mp (h i (by omega))
    refine ⟨?_, ?_⟩
    · show bse T a i ||| 2 ^ (T (a + i) - 48) < 2 ^ 10
      exact Nat.or_lt_two_pow h1 (Nat.pow_lt_pow_right (by decide) (by omega))
    · show (T (a + i) - 48) + 1 ≤ 10
      omega
theorem ris_b {T : Nat → Nat} {a : Nat} : ∀ i, ris T a i = true → bse T a i < 2 ^ lst T a i ∧ (0 < i → 2 ^ (lst T a i - 1) ≤ bse T a i)
  | 0, _ => ⟨by show 0 < 1; decide, fun h => absurd h (by omega)⟩
  | i + 1, h => by
    have h : (ris T a i && decide (lst T a i ≤ T (a + i) - 48)) = true := h
    rw [Bool.and_eq_true, decide_eq_true_eq] at h
    obtain ⟨h1, -⟩ := ris_b i h.1
    have p1 : 2 ^ lst T a i ≤ 2 ^ (T (a + i) - 48) := Nat.pow_le_pow_right (by decide) h.2
    have p2 : 2 ^ ((T (a + i) - 48) + 1) = 2 * 2 ^ (T (a + i) - 48) := by rw [Nat.pow_succ, Nat.mul_comm]
    refine ⟨?_, fun _ => ?_⟩
    · show bse T a i ||| 2 ^ (T (a + i) - 48) < 2 ^ ((T (a + i) - 48) + 1)
      exact Nat.or_lt_two_pow (by omega) (by omega)
    · show 2 ^ ((T (a + i) - 48) + 1 - 1) ≤ bse T a i ||| 2 ^ (T (a + i) - 48)
      rw [Nat.add_sub_cancel]
      exact Nat.right_le_or
theorem ris_s {T : Nat → Nat} {a i : Nat} (h : ris T a i = true) : (bse T a i < 2 ^ (T (a + i) - 48)) ↔ lst T a i ≤ T (a + i) - 48 := by
  obtain ⟨h1, h2⟩ := ris_b i h
  refine ⟨fun g => Nat.le_of_not_lt fun z => ?_, fun g => Nat.lt_of_lt_of_le h1 (Nat.pow_le_pow_right (by decide) g)⟩
  have i0 : 0 < i := by
    cases i with
    | zero => exact absurd z (by show ¬ _ < 0; omega)
    | succ i => omega
  have p := h2 i0
  have p1 : 2 ^ (T (a + i) - 48) ≤ 2 ^ (lst T a i - 1) := Nat.pow_le_pow_right (by decide) (by omega)
  omega
theorem sh_d : ∀ d, d < 10 → (1 : Int32) <<< (nI d &&& 31) = nI (2 ^ d) := by decide +kernel
theorem or_d : ∀ d, d < 10 → ∀ b, b < 1024 → nI b ||| nI (2 ^ d) = nI (b ||| 2 ^ d) := by decide +kernel
section CL
variable {T : Nat → Nat} {n : Nat} {so : Int32} {V : Nat → Int32} {q : Bool × Nat} {s : ew_M}
theorem c_li {c : Nat} (hn : n ≤ 64) (hT : ∀ j, T j < 256) (hc : c < 256) (hs : LtS T n q.2 so s) (hq : q.1 = true) {Q : Int32 → ew_M → Prop} (h : ∀ s', LtS T n (li T n c q).2 so s' → s'.2.1 = s.2.1 → Q (bI (li T n c q).1) s') : wX0_passes Q (nI c) s := by
  obtain ⟨hl, h0, h1, h2, h3⟩ := id hs
  unfold wX0_passes
  rw [h0, h1]
  unfold li at h
  rw [if_pos hq] at h
  refine ⟨fun z => ?_, fun z => ?_⟩
  · by_cases y : q.2 < n ∧ T q.2 = c
    · exact absurd z (nI_ge y.1 (by omega))
    · rw [if_neg y] at h
      exact h s hs rfl
  · have y1 : q.2 < n := Nat.lt_of_not_le fun y => z (nI_le y (by omega))
    have tq := hT q.2
    rw [cN (by omega), h2 _ (by omega)]
    refine ⟨vp_in_nI (by omega) (by decide), fun y => ?_, fun y => ?_⟩
    · have y : ¬ T q.2 = c := fun e => y (by rw [e])
      rw [if_neg (fun w => y w.2)] at h
      exact h s hs rfl
    · have y : T q.2 = c := (nI_eq (by omega) (by omega)).mp y
      rw [if_pos ⟨y1, y⟩] at h
      rw [nI_s]
      exact h _ (hs.go (by omega)) rfl
theorem c_dg {a : Nat} (hn : n ≤ 64) (hT : ∀ j, T j < 256) (hs : LtS T n a so s) {Q : Int32 → Prop} (h : Q (bI (dg T n a))) : wX0_isAtDigit Q s := by
  obtain ⟨hl, h0, h1, h2, h3⟩ := id hs
  unfold wX0_isAtDigit
  rw [h0, h1]
  refine ⟨fun z => ?_, fun z => ?_⟩
  · have e : dg T n a = false := b_nt (fun y => absurd z (nI_ge (dg_t.mp y).1 (by omega)))
    rw [e] at h
    exact h
  · have y1 : a < n := Nat.lt_of_not_le fun y => z (nI_le y (by omega))
    have tq := hT a
    rw [cN (by omega), h2 _ (by omega)]
    refine ⟨vp_in_nI (by omega) (by decide), fun y => ?_, fun y => ⟨vp_in_nI (by omega) (by decide), fun w => ?_, fun w => ?_⟩⟩
    · have y := (nI_ltI (a := T a) (b := 48) (by omega) (by decide)).mp y
      have e : dg T n a = false := b_nt (fun x => by have := dg_t.mp x; omega)
      rw [e] at h
      exact h
    · have w := (nI_ltI (a := 57) (b := T a) (by decide) (by omega)).mp w
      have e : dg T n a = false := b_nt (fun x => by have := dg_t.mp x; omega)
      rw [e] at h
      exact h
    · have y : ¬ T a < 48 := fun x => y ((nI_ltI (a := T a) (b := 48) (by omega) (by decide)).mpr x)
      have w : ¬ 57 < T a := fun x => w ((nI_ltI (a := 57) (b := T a) (by decide) (by omega)).mpr x)
      have e : dg T n a = true := dg_t.mpr ⟨y1, by omega, by omega⟩
      rw [e] at h
      exact h
theorem c_nm {i most : Nat} (hn : n ≤ 64) (hT : ∀ j, T j < 256) (hi : i < 6) (hm : most ≤ 3) (hs : LtS T n q.2 so s) (hq : q.1 = true) (hV : NuV V i s) (hv : V i = nvl T n q.2 most) {Q : Int32 → ew_M → Prop} (h : ∀ s', LtS T n (nm T n most q).2 so s' → ((nm T n most q).1 = true → NuV V (i + 1) s') → Q (bI (nm T n most q).1) s') : wX0_passesNumber Q (nI i) (nI most) s := by
  obtain ⟨j1, j2, j3⟩ := nJ_p T n q.2 most
  unfold nvl at hv
  unfold nm at h
  rw [if_pos hq] at h
  generalize nJ T n q.2 most = J at j1 j2 j3 hv h
  have fin : ∀ s', LtS T n (q.2 + J) so s' → s'.2.1 = s.2.1 → wX0_passesNumber_52 Q (nI i) (nI (nv T q.2 J)) (nI J) s' := fun s' g1 g2 => by
    refine ⟨vp_in_nI hi (by decide), fun z => ?_, fun z => ?_⟩
    · have z : J = 0 := by have := (nI_leI (a := J) (b := 0) (by omega) (by decide)).mp z; omega
      rw [if_pos z] at h
      rw [cN (by omega)]
      refine h _ ?_ (fun y => absurd y Bool.false_ne_true)
      have g := g1.nu i (nI (nv T q.2 J))
      rw [z, Nat.add_zero] at g
      rw [z]
      exact g
    · have z : ¬ J = 0 := fun e => z (by rw [e]; exact nI_le (a := 0) (b := 0) (by decide) (by decide))
      rw [if_neg z] at h
      rw [cN (by omega)]
      refine h _ (g1.nu i _) (fun _ => NuV.nu (fun j hj => by rw [g2]; exact hV j hj) hv.symm)
  refine ew_forI J (fun k y => ∃ s', y = (nI (nv T q.2 k), nI k, s') ∧ LtS T n (q.2 + k) so s' ∧ s'.2.1 = s.2.1) (fun k R y hk hI hR => ?_) (fun R y hI => ?_) ⟨s, rfl, hs, rfl⟩
  · obtain ⟨s', rfl, g1, g2⟩ := hI
    have d := j2 k hk
    have d2 := dg_t.mp d
    refine ⟨fun z => absurd z (nI_ge (a := k) (b := most) (by omega) (by omega)), fun _ => c_dg hn hT g1 ?_⟩
    rw [d]
    refine ⟨fun z => absurd z z10, fun _ => ?_⟩
    show vp_in (s'.1 1) 64 ∧ R (nI (nv T q.2 k) * (10 : Int32) + s'.2.1 0 (s'.1 1).toNatClampNeg - (48 : Int32), nI k + 1, ew_sI s' 1 (s'.1 1 + 1))
    rw [g1.2.2.1, cN (by omega), g1.2.2.2.1 _ (by omega), dst_c (by omega), nI_s, nI_s]
    exact ⟨vp_in_nI (by omega) (by decide), hR _ ⟨_, rfl, g1.go (by omega), g2⟩⟩
  · obtain ⟨s', rfl, g1, g2⟩ := hI
    refine ⟨fun _ => fin s' g1 g2, fun z => c_dg hn hT g1 ?_⟩
    have z : J < most := Nat.lt_of_not_le fun y => z (nI_le y (by omega))
    rw [b_nt (j3 z)]
    exact ⟨fun _ => fin s' g1 g2, fun y => absurd rfl y⟩
theorem c_ki (hn : n ≤ 64) (hT : ∀ j, T j < 256) (hs : LtS T n q.2 so s) (hq : q.1 = true) (hv : V 0 = nI (kN (T q.2))) {Q : Int32 → ew_M → Prop} (h : ∀ s', LtS T n (ki T n q).2 so s' → ((ki T n q).1 = true → NuV V 1 s') → Q (bI (ki T n q).1) s') : wX0_passesKind Q s := by
  obtain ⟨hl, h0, h1, h2, h3⟩ := id hs
  unfold wX0_passesKind
  rw [h0, h1]
  unfold ki at h
  rw [if_pos hq] at h
  refine ⟨fun z => ?_, fun z => ?_⟩
  · rw [if_neg (fun y => absurd z (nI_ge y.1 (by omega)))] at h
    exact ⟨fun y => absurd y (by decide), fun _ => h s hs (fun y => absurd y Bool.false_ne_true)⟩
  · have y1 : q.2 < n := Nat.lt_of_not_le fun y => z (nI_le y (by omega))
    rw [cN (by omega), h2 _ (by omega)]
    refine ⟨vp_in_nI (by omega) (by decide), c_index (hT q.2) ?_⟩
    by_cases w : kN (T q.2) < 7
    · rw [if_pos w]
      rw [if_pos ⟨y1, w⟩] at h
      refine ⟨fun _ => ?_, fun x => absurd (nI_le (a := 0) (b := kN (T q.2)) (by omega) (by omega)) x⟩
      rw [h1, nI_s]
      exact h _ ((hs.nu 0 _).go (by omega)) (fun _ => NuV.nu (i := 0) (fun j hj => absurd hj (by omega)) hv.symm)
    · rw [if_neg w]
      rw [if_neg (fun y => w y.2)] at h
      exact ⟨fun y => absurd y (by decide), fun _ => h s hs (fun y => absurd y Bool.false_ne_true)⟩
theorem c_pr (hn : n ≤ 64) (hT : ∀ j, T j < 256) (hs : LtS T n q.2 so s) (hq : q.1 = true) (hv : V 0 = nI (if ris T q.2 (nJ T n q.2 6) = true then bse T q.2 (nJ T n q.2 6) else 0)) {Q : Int32 → ew_M → Prop} (h : ∀ s', LtS T n (nm T n 6 q).2 so s' → ((nm T n 6 q).1 = true → NuV V 1 s') → Q (bI (nm T n 6 q).1) s') : wX0_passesPersons Q s := by
  obtain ⟨j1, j2, j3⟩ := nJ_p T n q.2 6
  unfold nm at h
  rw [if_pos hq] at h
  generalize nJ T n q.2 6 = J at j1 j2 j3 hv h
  have fin1 : ∀ (s' : ew_M) (v : Int32), v = nI (if ris T q.2 J = true then bse T q.2 J else 0) → LtS T n (q.2 + J) so s' → wX0_passesPersons_86 Q (nI J) v 0 s' := fun s' v ev g1 => by
    refine ⟨vp_in_nI (show 0 < 6 by decide) (by decide), fun z => ?_, fun z => ?_⟩
    · have z : J = 0 := by have := (nI_leI (a := J) (b := 0) (by omega) (by decide)).mp z; omega
      rw [if_pos z] at h
      refine h _ ?_ (fun y => absurd y Bool.false_ne_true)
      have g := g1.nu (0 : Int32).toNatClampNeg v
      rw [z, Nat.add_zero] at g
      exact g
    · have z : ¬ J = 0 := fun e => z (by rw [e]; exact nI_le (a := 0) (b := 0) (by decide) (by decide))
      rw [if_neg z] at h
      exact h _ (g1.nu _ _) (fun _ => NuV.nu (i := 0) (fun j hj => absurd hj (by omega)) (ev.trans hv.symm))
  have fin : ∀ s', LtS T n (q.2 + J) so s' → wX0_passesPersons_72 Q (nI (bse T q.2 J)) (bI (ris T q.2 J)) (nI J) s' := fun s' g1 => by
    refine ⟨fun z => fin1 s' _ ?_ g1, fun z => fin1 s' _ ?_ g1⟩
    · rw [bI_0] at z
      rw [if_neg (by rw [z]; decide)]
      rfl
    · rw [if_pos (bI_ne z)]
  refine ew_forI J (fun k y => ∃ s', y = (nI (bse T q.2 k), bI (ris T q.2 k), nI k, s') ∧ LtS T n (q.2 + k) so s') (fun k R y hk hI hR => ?_) (fun R y hI => ?_) ⟨s, rfl, hs⟩
  · obtain ⟨s', rfl, g1⟩ := hI
    have d := j2 k hk
    have d2 := dg_t.mp d
    have bb := (bse_b k (fun j hj => j2 j (by omega))).1
    refine ⟨fun z => absurd z (nI_ge (a := k) (b := 6) (by omega) (by decide)), fun _ => c_dg hn hT g1 ?_⟩
    rw [d]
    refine ⟨fun z => absurd z z10, fun _ => ?_⟩
    have ed : nI (T (q.2 + k)) - (48 : Int32) = nI (T (q.2 + k) - 48) := by rw [show (48 : Int32) = nI 48 from rfl, pk_sub (by omega)]
    have hR : ∀ t0 : Int32, t0 = bI (ris T q.2 (k + 1)) → R (nI (bse T q.2 k) ||| nI (2 ^ (T (q.2 + k) - 48)), t0, nI k + 1, ew_sI s' 1 (s'.1 1 + 1)) := fun t0 e => by
      subst e
      rw [or_d _ (by omega) _ bb, g1.2.2.1, nI_s, nI_s]
      exact hR _ ⟨_, rfl, g1.go (by omega)⟩
    show vp_in (s'.1 1) 64 ∧ ((bI (ris T q.2 k) = 0 → R (nI (bse T q.2 k) ||| (1 : Int32) <<< ((s'.2.1 0 (s'.1 1).toNatClampNeg - (48 : Int32)) &&& 31), 0, nI k + 1, ew_sI s' 1 (s'.1 1 + 1))) ∧ (¬ bI (ris T q.2 k) = 0 → ((1 : Int32) <<< ((s'.2.1 0 (s'.1 1).toNatClampNeg - (48 : Int32)) &&& 31) ≤ nI (bse T q.2 k) → R (nI (bse T q.2 k) ||| (1 : Int32) <<< ((s'.2.1 0 (s'.1 1).toNatClampNeg - (48 : Int32)) &&& 31), 0, nI k + 1, ew_sI s' 1 (s'.1 1 + 1))) ∧ (¬ (1 : Int32) <<< ((s'.2.1 0 (s'.1 1).toNatClampNeg - (48 : Int32)) &&& 31) ≤ nI (bse T q.2 k) → R (nI (bse T q.2 k) ||| (1 : Int32) <<< ((s'.2.1 0 (s'.1 1).toNatClampNeg - (48 : Int32)) &&& 31), 1, nI k + 1, ew_sI s' 1 (s'.1 1 + 1)))))
    have e3 : (1 : Int32) <<< ((s'.2.1 0 (s'.1 1).toNatClampNeg - (48 : Int32)) &&& 31) = nI (2 ^ (T (q.2 + k) - 48)) := by
      rw [g1.2.2.1, cN (by omega), g1.2.2.2.1 _ (by omega), ed, sh_d _ (by omega)]
    rw [e3]
    have pl : 2 ^ (T (q.2 + k) - 48) < 1024 := (show 2 ^ (T (q.2 + k) - 48) < 2 ^ 10 from Nat.pow_lt_pow_right (by decide) (by omega))
    refine ⟨by rw [g1.2.2.1]; exact vp_in_nI (by omega) (by decide), fun z => hR 0 ?_, fun z => ⟨fun y => hR 0 ?_, fun y => hR 1 ?_⟩⟩
    · rw [bI_0] at z
      show _ = bI (ris T q.2 k && decide (lst T q.2 k ≤ T (q.2 + k) - 48))
      rw [z]; rfl
    · have z := bI_ne z
      rw [nI_leI (by omega) (by omega)] at y
      have w : ¬ lst T q.2 k ≤ T (q.2 + k) - 48 := fun w => by have := (ris_s z).mpr w; omega
      show _ = bI (ris T q.2 k && decide (lst T q.2 k ≤ T (q.2 + k) - 48))
      rw [decide_eq_false w, Bool.and_false]; rfl
    · have z := bI_ne z
      rw [nI_leI (by omega) (by omega)] at y
      have w : lst T q.2 k ≤ T (q.2 + k) - 48 := (ris_s z).mp (by omega)
      show _ = bI (ris T q.2 k && decide (lst T q.2 k ≤ T (q.2 + k) - 48))
      rw [decide_eq_true w, z]; rfl
  · obtain ⟨s', rfl, g1⟩ := hI
    refine ⟨fun _ => fin s' g1, fun z => c_dg hn hT g1 ?_⟩
    have z : J < 6 := Nat.lt_of_not_le fun y => z (nI_le (a := 6) (b := J) y (by omega))
    rw [b_nt (j3 z)]
    exact ⟨fun _ => fin s' g1, fun y => absurd rfl y⟩
end CL
