/-! town: a statement, the class's side -/
section ST
variable (T : Nat → Nat) (n a : Nat)
noncomputable def aq1 : Bool × Nat := nm T n 6 (true, a + 1)
noncomputable def aq2 : Bool × Nat := li T n 44 (aq1 T n a)
noncomputable def aq3 : Bool × Nat := nm T n 3 (aq2 T n a)
noncomputable def aq4 : Bool × Nat := li T n 44 (aq3 T n a)
noncomputable def aq5 : Bool × Nat := nm T n 3 (aq4 T n a)
noncomputable def aq6 : Bool × Nat := li T n 58 (aq5 T n a)
noncomputable def aq7 : Bool × Nat := nm T n 1 (aq6 T n a)
noncomputable def aq8 : Bool × Nat := nm T n 1 (aq7 T n a)
noncomputable def aq9 : Bool × Nat := nm T n 1 (aq8 T n a)
noncomputable def stA : Bool × Nat := li T n 59 (aq9 T n a)
noncomputable def pq1 : Bool × Nat := ki T n (true, a + 1)
noncomputable def pq2 : Bool × Nat := nm T n 1 (pq1 T n a)
noncomputable def pq3 : Bool × Nat := nm T n 2 (pq2 T n a)
noncomputable def stP : Bool × Nat := li T n 59 (pq3 T n a)
noncomputable def lq1 : Bool × Nat := nm T n 1 (true, a + 1)
noncomputable def stL : Bool × Nat := li T n 59 (lq1 T n a)
noncomputable def cq1 : Bool × Nat := nm T n 3 (true, a + 1)
noncomputable def stC : Bool × Nat := li T n 59 (cq1 T n a)
noncomputable def vaA : Nat → Int32 := fun j => if j = 0 then nI (if ris T (a + 1) (nJ T n (a + 1) 6) = true then bse T (a + 1) (nJ T n (a + 1) 6) else 0) else if j = 1 then nvl T n (aq2 T n a).2 3 else if j = 2 then nvl T n (aq4 T n a).2 3 else if j = 3 then nvl T n (aq6 T n a).2 1 else if j = 4 then nvl T n (aq7 T n a).2 1 else nvl T n (aq8 T n a).2 1
noncomputable def vaP : Nat → Int32 := fun j => if j = 0 then nI (kN (T (a + 1))) else if j = 1 then nvl T n (pq1 T n a).2 1 else nvl T n (pq2 T n a).2 2
noncomputable def vaL : Nat → Int32 := fun _ => nvl T n (a + 1) 1
noncomputable def vaC : Nat → Int32 := fun _ => nvl T n (a + 1) 3
/-- a statement at a place: whether it is one, and where it ends or breaks off; its numbers -/
noncomputable def stF : Bool × Nat := if a < n then (if T a = 97 then stA T n a else if T a = 99 then stC T n a else if T a = 108 then stL T n a else if T a = 112 then stP T n a else (false, a)) else (false, a)
noncomputable def stV : Nat → Int32 := if T a = 97 then vaA T n a else if T a = 99 then vaC T n a else if T a = 108 then vaL T n a else vaP T n a
def stN : Nat := if T a = 97 then 6 else if T a = 99 then 1 else if T a = 108 then 1 else 3
end ST
section ST
variable {T : Nat → Nat} {n a : Nat}
theorem fA9 (h : (aq9 T n a).1 = false) : stA T n a = aq9 T n a := li_f h
theorem fA8 (h : (aq8 T n a).1 = false) : stA T n a = aq8 T n a := by
  have e : aq9 T n a = aq8 T n a := nm_f h
  exact (fA9 (by rw [e]; exact h)).trans e
theorem fA7 (h : (aq7 T n a).1 = false) : stA T n a = aq7 T n a := by
  have e : aq8 T n a = aq7 T n a := nm_f h
  exact (fA8 (by rw [e]; exact h)).trans e
theorem fA6 (h : (aq6 T n a).1 = false) : stA T n a = aq6 T n a := by
  have e : aq7 T n a = aq6 T n a := nm_f h
  exact (fA7 (by rw [e]; exact h)).trans e
theorem fA5 (h : (aq5 T n a).1 = false) : stA T n a = aq5 T n a := by
  have e : aq6 T n a = aq5 T n a := li_f h
  exact (fA6 (by rw [e]; exact h)).trans e
theorem fA4 (h : (aq4 T n a).1 = false) : stA T n a = aq4 T n a := by
  have e : aq5 T n a = aq4 T n a := nm_f h
  exact (fA5 (by rw [e]; exact h)).trans e
theorem fA3 (h : (aq3 T n a).1 = false) : stA T n a = aq3 T n a := by
  have e : aq4 T n a = aq3 T n a := li_f h
  exact (fA4 (by rw [e]; exact h)).trans e
theorem fA2 (h : (aq2 T n a).1 = false) : stA T n a = aq2 T n a := by
  have e : aq3 T n a = aq2 T n a := nm_f h
  exact (fA3 (by rw [e]; exact h)).trans e
theorem fA1 (h : (aq1 T n a).1 = false) : stA T n a = aq1 T n a := by
  have e : aq2 T n a = aq1 T n a := li_f h
  exact (fA2 (by rw [e]; exact h)).trans e
theorem fP3 (h : (pq3 T n a).1 = false) : stP T n a = pq3 T n a := li_f h
theorem fP2 (h : (pq2 T n a).1 = false) : stP T n a = pq2 T n a := by
  have e : pq3 T n a = pq2 T n a := nm_f h
  exact (fP3 (by rw [e]; exact h)).trans e
theorem fP1 (h : (pq1 T n a).1 = false) : stP T n a = pq1 T n a := by
  have e : pq2 T n a = pq1 T n a := nm_f h
  exact (fP2 (by rw [e]; exact h)).trans e
theorem fL1 (h : (lq1 T n a).1 = false) : stL T n a = lq1 T n a := li_f h
theorem fC1 (h : (cq1 T n a).1 = false) : stC T n a = cq1 T n a := li_f h
theorem stF_a (ha : a < n) (h : T a = 97) : stF T n a = stA T n a := by unfold stF; rw [if_pos ha, if_pos h]
theorem stF_c (ha : a < n) (h : T a = 99) : stF T n a = stC T n a := by unfold stF; rw [if_pos ha, if_neg (by omega), if_pos h]
theorem stF_l (ha : a < n) (h : T a = 108) : stF T n a = stL T n a := by unfold stF; rw [if_pos ha, if_neg (by omega), if_neg (by omega), if_pos h]
theorem stF_p (ha : a < n) (h : T a = 112) : stF T n a = stP T n a := by unfold stF; rw [if_pos ha, if_neg (by omega), if_neg (by omega), if_neg (by omega), if_pos h]
theorem stF_o (h : ¬ (a < n ∧ (T a = 97 ∨ T a = 99 ∨ T a = 108 ∨ T a = 112))) : stF T n a = (false, a) := by
  unfold stF
  by_cases ha : a < n
  · rw [if_pos ha, if_neg (fun z => h ⟨ha, by omega⟩), if_neg (fun z => h ⟨ha, by omega⟩), if_neg (fun z => h ⟨ha, by omega⟩), if_neg (fun z => h ⟨ha, by omega⟩)]
  · rw [if_neg ha]
theorem stV_a (h : T a = 97) : stV T n a = vaA T n a ∧ stN T a = 6 := by unfold stV stN; rw [if_pos h, if_pos h]; exact ⟨rfl, rfl⟩
theorem stV_c (h : T a = 99) : stV T n a = vaC T n a ∧ stN T a = 1 := by unfold stV stN; rw [if_neg (by omega), if_pos h, if_neg (by omega), if_pos h]; exact ⟨rfl, rfl⟩
theorem stV_l (h : T a = 108) : stV T n a = vaL T n a ∧ stN T a = 1 := by unfold stV stN; rw [if_neg (by omega), if_neg (by omega), if_pos h, if_neg (by omega), if_neg (by omega), if_pos h]; exact ⟨rfl, rfl⟩
theorem stV_p (h : T a = 112) : stV T n a = vaP T n a ∧ stN T a = 3 := by unfold stV stN; rw [if_neg (by omega), if_neg (by omega), if_neg (by omega), if_neg (by omega), if_neg (by omega), if_neg (by omega)]; exact ⟨rfl, rfl⟩
theorem LtS.so {so v : Int32} {s : ew_M} (h : LtS T n a so s) : LtS T n a v (ew_sI s 2 v) := ⟨h.1, by rw [sI_i (by decide)]; exact h.2.1, by rw [sI_i (by decide)]; exact h.2.2.1, h.2.2.2.1, sI_s _ _ _⟩
theorem NuV.sm {V : Nat → Int32} {i : Nat} {s s' : ew_M} (h : NuV V i s) (e : s'.2.1 = s.2.1) : NuV V i s' := fun j hj => by rw [e]; exact h j hj
theorem c_fail {F q : Bool × Nat} {P : Int32 → ew_M → Prop} {Q : Int32 → ew_M → Prop} {so : Int32} {s1 : ew_M} (h : ∀ s' so', LtS T n F.2 so' s' → (F.1 = true → P so' s') → Q (bI F.1) s') (e : F = q) (hf : bI q.1 = 0) (g : LtS T n q.2 so s1) : Q 0 s1 := by
  subst e
  have hf := (bI_0 _).mp hf
  have k := h s1 so g (fun y => by rw [hf] at y; exact absurd y Bool.false_ne_true)
  rw [hf] at k
  exact k
theorem c_done {F : Bool × Nat} {P : Int32 → ew_M → Prop} {Q : Int32 → ew_M → Prop} {so : Int32} {s1 : ew_M} (h : ∀ s' so', LtS T n F.2 so' s' → (F.1 = true → P so' s') → Q (bI F.1) s') (hf : F.1 = true) (g : LtS T n F.2 so s1) (p : P so s1) : Q 1 s1 := by
  have k := h s1 so g (fun _ => p)
  rw [hf] at k
  exact k
theorem c_first {c : Nat} {so : Int32} {s : ew_M} (hn : n ≤ 64) (hT : ∀ j, T j < 256) (hc : c < 256) (ha : a < n) (e : T a = c) (hs : LtS T n a so s) {Q : Int32 → ew_M → Prop} (h : ∀ s', LtS T n (a + 1) so s' → s'.2.1 = s.2.1 → Q 1 s') : wX0_passes Q (nI c) s := by
  have k : li T n c (true, a) = (true, a + 1) := by
    unfold li
    rw [if_pos rfl, if_pos ⟨ha, e⟩]
  refine c_li (q := (true, a)) hn hT hc hs rfl fun s' g1 g2 => ?_
  rw [k] at g1 ⊢
  exact h s' g1 g2

theorem c_sA {so : Int32} {s : ew_M} (hn : n ≤ 64) (hT : ∀ j, T j < 256) (ha : a < n) (hc : T a = 97) (hs : LtS T n a so s) {Q : Int32 → ew_M → Prop} (h : ∀ s' so', LtS T n (stA T n a).2 so' s' → ((stA T n a).1 = true → so' = so ∧ NuV (vaA T n a) 6 s') → Q (bI (stA T n a).1) s') : wX0_passes (fun (r2 : Int32) (m3 : ew_M) => (r2 = 0 → Q (0 : Int32) m3) ∧ (¬ r2 = 0 → wX0_passesPersons (fun (r5 : Int32) (m6 : ew_M) => (r5 = 0 → Q (0 : Int32) m6) ∧ (¬ r5 = 0 → wX0_passes (fun (r8 : Int32) (m9 : ew_M) => (r8 = 0 → Q (0 : Int32) m9) ∧ (¬ r8 = 0 → wX0_passesNumber (fun (r11 : Int32) (m12 : ew_M) => (r11 = 0 → Q (0 : Int32) m12) ∧ (¬ r11 = 0 → wX0_passes (fun (r14 : Int32) (m15 : ew_M) => (r14 = 0 → Q (0 : Int32) m15) ∧ (¬ r14 = 0 → wX0_passesNumber (fun (r17 : Int32) (m18 : ew_M) => (r17 = 0 → Q (0 : Int32) m18) ∧ (¬ r17 = 0 → wX0_passes (fun (r20 : Int32) (m21 : ew_M) => (r20 = 0 → Q (0 : Int32) m21) ∧ (¬ r20 = 0 → wX0_passesNumber (fun (r23 : Int32) (m24 : ew_M) => (r23 = 0 → Q (0 : Int32) m24) ∧ (¬ r23 = 0 → wX0_passesNumber (fun (r26 : Int32) (m27 : ew_M) => (r26 = 0 → Q (0 : Int32) m27) ∧ (¬ r26 = 0 → wX0_passesNumber (fun (r29 : Int32) (m30 : ew_M) => (r29 = 0 → Q (0 : Int32) m30) ∧ (¬ r29 = 0 → wX0_passes (fun (r32 : Int32) (m33 : ew_M) => (r32 = 0 → Q (0 : Int32) m33) ∧ (¬ r32 = 0 → Q (1 : Int32) m33)) (59 : Int32) m30)) (5 : Int32) (1 : Int32) m27)) (4 : Int32) (1 : Int32) m24)) (3 : Int32) (1 : Int32) m21)) (58 : Int32) m18)) (2 : Int32) (3 : Int32) m15)) (44 : Int32) m12)) (1 : Int32) (3 : Int32) m9)) (44 : Int32) m6)) m3)) (97 : Int32) s := by
  refine c_first hn hT (c := 97) (by decide) ha hc hs fun s0 g0 _ => ⟨fun z => absurd z z10, fun _ => ?_⟩
  refine c_pr (V := vaA T n a) (q := (true, a + 1)) hn hT g0 rfl rfl fun s1 g1 w1 => ⟨fun z1 => c_fail (q := (aq1 T n a)) h (fA1 ((bI_0 _).mp z1)) z1 g1, fun z1 => ?_⟩
  refine c_li (c := 44) (q := (aq1 T n a)) hn hT (by decide) g1 (bI_ne z1) fun s2 g2 w2 => ⟨fun z2 => c_fail (q := (aq2 T n a)) h (fA2 ((bI_0 _).mp z2)) z2 g2, fun z2 => ?_⟩
  refine c_nm (V := vaA T n a) (i := 1) (most := 3) (q := (aq2 T n a)) hn hT (by decide) (by decide) g2 (bI_ne z2) (NuV.sm (w1 (bI_ne z1)) w2) rfl fun s3 g3 w3 => ⟨fun z3 => c_fail (q := (aq3 T n a)) h (fA3 ((bI_0 _).mp z3)) z3 g3, fun z3 => ?_⟩
  refine c_li (c := 44) (q := (aq3 T n a)) hn hT (by decide) g3 (bI_ne z3) fun s4 g4 w4 => ⟨fun z4 => c_fail (q := (aq4 T n a)) h (fA4 ((bI_0 _).mp z4)) z4 g4, fun z4 => ?_⟩
  refine c_nm (V := vaA T n a) (i := 2) (most := 3) (q := (aq4 T n a)) hn hT (by decide) (by decide) g4 (bI_ne z4) (NuV.sm (w3 (bI_ne z3)) w4) rfl fun s5 g5 w5 => ⟨fun z5 => c_fail (q := (aq5 T n a)) h (fA5 ((bI_0 _).mp z5)) z5 g5, fun z5 => ?_⟩
  refine c_li (c := 58) (q := (aq5 T n a)) hn hT (by decide) g5 (bI_ne z5) fun s6 g6 w6 => ⟨fun z6 => c_fail (q := (aq6 T n a)) h (fA6 ((bI_0 _).mp z6)) z6 g6, fun z6 => ?_⟩
  refine c_nm (V := vaA T n a) (i := 3) (most := 1) (q := (aq6 T n a)) hn hT (by decide) (by decide) g6 (bI_ne z6) (NuV.sm (w5 (bI_ne z5)) w6) rfl fun s7 g7 w7 => ⟨fun z7 => c_fail (q := (aq7 T n a)) h (fA7 ((bI_0 _).mp z7)) z7 g7, fun z7 => ?_⟩
  refine c_nm (V := vaA T n a) (i := 4) (most := 1) (q := (aq7 T n a)) hn hT (by decide) (by decide) g7 (bI_ne z7) (w7 (bI_ne z7)) rfl fun s8 g8 w8 => ⟨fun z8 => c_fail (q := (aq8 T n a)) h (fA8 ((bI_0 _).mp z8)) z8 g8, fun z8 => ?_⟩
  refine c_nm (V := vaA T n a) (i := 5) (most := 1) (q := (aq8 T n a)) hn hT (by decide) (by decide) g8 (bI_ne z8) (w8 (bI_ne z8)) rfl fun s9 g9 w9 => ⟨fun z9 => c_fail (q := (aq9 T n a)) h (fA9 ((bI_0 _).mp z9)) z9 g9, fun z9 => ?_⟩
  refine c_li (c := 59) (q := (aq9 T n a)) hn hT (by decide) g9 (bI_ne z9) fun s10 g10 w10 => ⟨fun z10 => c_fail (q := (stA T n a)) h rfl z10 g10, fun z10 => ?_⟩
  exact c_done h (bI_ne z10) g10 ⟨rfl, (NuV.sm (w9 (bI_ne z9)) w10)⟩
theorem c_sC {so : Int32} {s : ew_M} (hn : n ≤ 64) (hT : ∀ j, T j < 256) (ha : a < n) (hc : T a = 99) (hs : LtS T n a so s) {Q : Int32 → ew_M → Prop} (h : ∀ s' so', LtS T n (stC T n a).2 so' s' → ((stC T n a).1 = true → so' = so ∧ NuV (vaC T n a) 1 s') → Q (bI (stC T n a).1) s') : wX0_passes (fun (r36 : Int32) (m37 : ew_M) => (r36 = 0 → Q (0 : Int32) m37) ∧ (¬ r36 = 0 → wX0_passesNumber (fun (r39 : Int32) (m40 : ew_M) => (r39 = 0 → Q (0 : Int32) m40) ∧ (¬ r39 = 0 → wX0_passes (fun (r42 : Int32) (m43 : ew_M) => (r42 = 0 → Q (0 : Int32) m43) ∧ (¬ r42 = 0 → Q (1 : Int32) m43)) (59 : Int32) m40)) (0 : Int32) (3 : Int32) m37)) (99 : Int32) s := by
  refine c_first hn hT (c := 99) (by decide) ha hc hs fun s0 g0 _ => ⟨fun z => absurd z z10, fun _ => ?_⟩
  refine c_nm (V := vaC T n a) (i := 0) (most := 3) (q := (true, a + 1)) hn hT (by decide) (by decide) g0 rfl (fun j hj => absurd hj (by omega)) rfl fun s1 g1 w1 => ⟨fun z1 => c_fail (q := (cq1 T n a)) h (fC1 ((bI_0 _).mp z1)) z1 g1, fun z1 => ?_⟩
  refine c_li (c := 59) (q := (cq1 T n a)) hn hT (by decide) g1 (bI_ne z1) fun s2 g2 w2 => ⟨fun z2 => c_fail (q := (stC T n a)) h rfl z2 g2, fun z2 => ?_⟩
  exact c_done h (bI_ne z2) g2 ⟨rfl, (NuV.sm (w1 (bI_ne z1)) w2)⟩
theorem c_sL {so : Int32} {s : ew_M} (hn : n ≤ 64) (hT : ∀ j, T j < 256) (ha : a < n) (hc : T a = 108) (hs : LtS T n a so s) {Q : Int32 → ew_M → Prop} (h : ∀ s' so', LtS T n (stL T n a).2 so' s' → ((stL T n a).1 = true → so' = so ∧ NuV (vaL T n a) 1 s') → Q (bI (stL T n a).1) s') : wX0_passes (fun (r46 : Int32) (m47 : ew_M) => (r46 = 0 → Q (0 : Int32) m47) ∧ (¬ r46 = 0 → wX0_passesNumber (fun (r49 : Int32) (m50 : ew_M) => (r49 = 0 → Q (0 : Int32) m50) ∧ (¬ r49 = 0 → wX0_passes (fun (r52 : Int32) (m53 : ew_M) => (r52 = 0 → Q (0 : Int32) m53) ∧ (¬ r52 = 0 → Q (1 : Int32) m53)) (59 : Int32) m50)) (0 : Int32) (1 : Int32) m47)) (108 : Int32) s := by
  refine c_first hn hT (c := 108) (by decide) ha hc hs fun s0 g0 _ => ⟨fun z => absurd z z10, fun _ => ?_⟩
  refine c_nm (V := vaL T n a) (i := 0) (most := 1) (q := (true, a + 1)) hn hT (by decide) (by decide) g0 rfl (fun j hj => absurd hj (by omega)) rfl fun s1 g1 w1 => ⟨fun z1 => c_fail (q := (lq1 T n a)) h (fL1 ((bI_0 _).mp z1)) z1 g1, fun z1 => ?_⟩
  refine c_li (c := 59) (q := (lq1 T n a)) hn hT (by decide) g1 (bI_ne z1) fun s2 g2 w2 => ⟨fun z2 => c_fail (q := (stL T n a)) h rfl z2 g2, fun z2 => ?_⟩
  exact c_done h (bI_ne z2) g2 ⟨rfl, (NuV.sm (w1 (bI_ne z1)) w2)⟩
theorem c_sP {so : Int32} {s : ew_M} (hn : n ≤ 64) (hT : ∀ j, T j < 256) (ha : a < n) (hc : T a = 112) (hs : LtS T n a so s) {Q : Int32 → ew_M → Prop} (h : ∀ s' so', LtS T n (stP T n a).2 so' s' → ((stP T n a).1 = true → so' = so ∧ NuV (vaP T n a) 3 s') → Q (bI (stP T n a).1) s') : wX0_passes (fun (r56 : Int32) (m57 : ew_M) => (r56 = 0 → Q (0 : Int32) m57) ∧ (¬ r56 = 0 → wX0_passesKind (fun (r59 : Int32) (m60 : ew_M) => (r59 = 0 → Q (0 : Int32) m60) ∧ (¬ r59 = 0 → wX0_passesNumber (fun (r62 : Int32) (m63 : ew_M) => (r62 = 0 → Q (0 : Int32) m63) ∧ (¬ r62 = 0 → wX0_passesNumber (fun (r65 : Int32) (m66 : ew_M) => (r65 = 0 → Q (0 : Int32) m66) ∧ (¬ r65 = 0 → wX0_passes (fun (r68 : Int32) (m69 : ew_M) => (r68 = 0 → Q (0 : Int32) m69) ∧ (¬ r68 = 0 → Q (1 : Int32) m69)) (59 : Int32) m66)) (2 : Int32) (2 : Int32) m63)) (1 : Int32) (1 : Int32) m60)) m57)) (112 : Int32) s := by
  refine c_first hn hT (c := 112) (by decide) ha hc hs fun s0 g0 _ => ⟨fun z => absurd z z10, fun _ => ?_⟩
  refine c_ki (V := vaP T n a) (q := (true, a + 1)) hn hT g0 rfl rfl fun s1 g1 w1 => ⟨fun z1 => c_fail (q := (pq1 T n a)) h (fP1 ((bI_0 _).mp z1)) z1 g1, fun z1 => ?_⟩
  refine c_nm (V := vaP T n a) (i := 1) (most := 1) (q := (pq1 T n a)) hn hT (by decide) (by decide) g1 (bI_ne z1) (w1 (bI_ne z1)) rfl fun s2 g2 w2 => ⟨fun z2 => c_fail (q := (pq2 T n a)) h (fP2 ((bI_0 _).mp z2)) z2 g2, fun z2 => ?_⟩
  refine c_nm (V := vaP T n a) (i := 2) (most := 2) (q := (pq2 T n a)) hn hT (by decide) (by decide) g2 (bI_ne z2) (w2 (bI_ne z2)) rfl fun s3 g3 w3 => ⟨fun z3 => c_fail (q := (pq3 T n a)) h (fP3 ((bI_0 _).mp z3)) z3 g3, fun z3 => ?_⟩
  refine c_li (c := 59) (q := (pq3 T n a)) hn hT (by decide) g3 (bI_ne z3) fun s4 g4 w4 => ⟨fun z4 => c_fail (q := (stP T n a)) h rfl z4 g4, fun z4 => ?_⟩
  exact c_done h (bI_ne z4) g4 ⟨rfl, (NuV.sm (w3 (bI_ne z3)) w4)⟩
theorem c_next {so : Int32} {s : ew_M} (hn : n ≤ 64) (hT : ∀ j, T j < 256) (hs : LtS T n a so s) {Q : Int32 → ew_M → Prop} (h : ∀ s' so', LtS T n (stF T n a).2 so' s' → ((stF T n a).1 = true → so' = nI (T a) ∧ NuV (stV T n a) (stN T a) s') → Q (bI (stF T n a).1) s') : wX0_nextStatement Q s := by
  obtain ⟨hl, h0, h1, h2, h3⟩ := id hs
  unfold wX0_nextStatement
  rw [h0, h1]
  have tq := hT a
  refine ⟨fun z => ?_, fun z => ?_⟩
  · have ha : ¬ a < n := fun y => absurd z (nI_ge y (by omega))
    refine ⟨fun y => absurd y (by decide), fun _ => ⟨fun y => absurd y (by decide), fun _ => ⟨fun y => absurd y (by decide), fun _ => ⟨fun y => absurd y (by decide), fun _ => ?_⟩⟩⟩⟩
    exact c_fail (q := (false, a)) h (stF_o (fun y => ha y.1)) rfl hs.so
  · have ha : a < n := Nat.lt_of_not_le fun y => z (nI_le y (by omega))
    rw [cN (by omega), h2 _ (by omega)]
    refine ⟨vp_in_nI (by omega) (by decide), fun y => ?_, fun y1 => ⟨fun y => ?_, fun y2 => ⟨fun y => ?_, fun y3 => ⟨fun y => ?_, fun y4 => ?_⟩⟩⟩⟩
    · have e : T a = 97 := (nI_eq (a := T a) (b := 97) (by omega) (by decide)).mp y
      refine c_sA hn hT ha e hs.so fun s' so' g1 g2 => ?_
      have k := h s' so'
      rw [stF_a ha e, (stV_a e).1, (stV_a (n := n) e).2] at k
      exact k g1 g2
    · have e : T a = 99 := (nI_eq (a := T a) (b := 99) (by omega) (by decide)).mp y
      refine c_sC hn hT ha e hs.so fun s' so' g1 g2 => ?_
      have k := h s' so'
      rw [stF_c ha e, (stV_c e).1, (stV_c (n := n) e).2] at k
      exact k g1 g2
    · have e : T a = 108 := (nI_eq (a := T a) (b := 108) (by omega) (by decide)).mp y
      refine c_sL hn hT ha e hs.so fun s' so' g1 g2 => ?_
      have k := h s' so'
      rw [stF_l ha e, (stV_l e).1, (stV_l (n := n) e).2] at k
      exact k g1 g2
    · have e : T a = 112 := (nI_eq (a := T a) (b := 112) (by omega) (by decide)).mp y
      refine c_sP hn hT ha e hs.so fun s' so' g1 g2 => ?_
      have k := h s' so'
      rw [stF_p ha e, (stV_p e).1, (stV_p (n := n) e).2] at k
      exact k g1 g2
    · refine c_fail (q := (false, a)) h (stF_o (fun y => ?_)) rfl hs.so
      rcases y.2 with e | e | e | e
      · exact y1 (by rw [e]; rfl)
      · exact y2 (by rw [e]; rfl)
      · exact y3 (by rw [e]; rfl)
      · exact y4 (by rw [e]; rfl)
end ST
