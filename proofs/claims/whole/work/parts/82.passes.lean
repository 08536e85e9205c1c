/-! papers don't look at each other -/
theorem sA_comm {t : ew_M} {a b i j : Nat} {v w : Int32} (h : a ≠ b ∨ i ≠ j) : ew_sA (ew_sA t a i v) b j w = ew_sA (ew_sA t b j w) a i v := by
  have e : ∀ c k, (ew_sA (ew_sA t a i v) b j w).2.1 c k = (ew_sA (ew_sA t b j w) a i v).2.1 c k := by
    intro c k
    by_cases h1 : c = b
    · by_cases h2 : k = j
      · subst h1; subst h2
        rw [sA_s]
        by_cases h3 : c = a
        · subst h3
          rw [sA_i (fun z => h.elim (fun q => q rfl) (fun q => q z.symm)), sA_s]
        · rw [sA_a h3, sA_s]
      · subst h1
        rw [sA_i h2]
        by_cases h3 : c = a
        · subst h3
          by_cases h4 : k = i
          · subst h4
            rw [sA_s, sA_s]
          · rw [sA_i h4, sA_i h4, sA_i h2]
        · rw [sA_a h3, sA_a h3, sA_i h2]
    · rw [sA_a h1]
      by_cases h3 : c = a
      · subst h3
        by_cases h4 : k = i
        · subst h4
          rw [sA_s, sA_s]
        · rw [sA_i h4, sA_i h4, sA_a h1]
      · rw [sA_a h3, sA_a h3, sA_a h1]
  have e2 : (ew_sA (ew_sA t a i v) b j w).2.1 = (ew_sA (ew_sA t b j w) a i v).2.1 := funext fun c => funext fun k => e c k
  exact Prod.ext rfl (Prod.ext e2 rfl)
/-- the same, as far as the paper a's own week goes -/
def Eq5 (a : Nat) (t u : ew_M) : Prop := u.1 = t.1 ∧ u.2.2 = t.2.2 ∧ (∀ b, b ≠ 3 → b ≠ 5 → b ≠ 6 → b ≠ 8 → u.2.1 b = t.2.1 b) ∧ u.2.1 5 a = t.2.1 5 a ∧ u.2.1 6 a = t.2.1 6 a
theorem Eq5.rf (a : Nat) (t : ew_M) : Eq5 a t t := ⟨rfl, rfl, fun _ _ _ _ _ => rfl, rfl, rfl⟩
theorem Eq5.sy {a : Nat} {t u : ew_M} (h : Eq5 a t u) : Eq5 a u t := ⟨h.1.symm, h.2.1.symm, fun b h1 h2 h3 h4 => (h.2.2.1 b h1 h2 h3 h4).symm, h.2.2.2.1.symm, h.2.2.2.2.symm⟩
theorem Eq5.tr {a : Nat} {t u v : ew_M} (h : Eq5 a t u) (g : Eq5 a u v) : Eq5 a t v := ⟨g.1.trans h.1, g.2.1.trans h.2.1, fun b h1 h2 h3 h4 => (g.2.2.1 b h1 h2 h3 h4).trans (h.2.2.1 b h1 h2 h3 h4), g.2.2.2.1.trans h.2.2.2.1, g.2.2.2.2.trans h.2.2.2.2⟩
section E5
variable {a : Nat} {t u : ew_M}
theorem e5_P (h : Eq5 a t u) : Pn u = Pn t := by rw [Pn, Pn, h.1]
theorem e5_A (h : Eq5 a t u) : An u = An t := by rw [An, An, h.1]
theorem e5_b (h : Eq5 a t u) (c : Nat) : bs u c = bs t c := by rw [bs, bs, h.2.2.1 4 (by decide) (by decide) (by decide) (by decide)]
theorem e5_L (h : Eq5 a t u) : Ln u = Ln t := by rw [Ln, Ln, h.1]
theorem e5_t (h : Eq5 a t u) (c : Nat) : tr u c = tr t c := by unfold tr; rw [h.2.2.1 7 (by decide) (by decide) (by decide) (by decide)]
theorem e5_r (h : Eq5 a t u) : rs u a = rs t a := by rw [rs, rs, h.2.2.2.1]
theorem e5_s (h : Eq5 a t u) : ss u a = ss t a := by rw [ss, ss, h.2.2.2.2]
theorem e5_k (h : Eq5 a t u) (p : Nat) : kd u p = kd t p := by rw [kd, kd, h.2.2.1 0 (by decide) (by decide) (by decide) (by decide)]
theorem e5_w (h : Eq5 a t u) (p k : Nat) : wO u p a k = wO t p a k := by unfold wO; rw [e5_r h, e5_t h, h.2.1]
theorem e5_tAU (h : Eq5 a t u) (p : Nat) : ∀ n, tAU u p a n = tAU t p a n
  | 0 => rfl
  | n + 1 => by
    show tAU u p a n + wO u p a n * (u.2.1 10 (a * 3 + n)).toInt64 = tAU t p a n + wO t p a n * (t.2.1 10 (a * 3 + n)).toInt64
    rw [e5_tAU h p n, e5_w h, h.2.2.1 10 (by decide) (by decide) (by decide) (by decide)]
theorem e5_tBU (h : Eq5 a t u) (p : Nat) : ∀ n, tBU u p a n = tBU t p a n
  | 0 => rfl
  | n + 1 => by
    show tBU u p a n + wO u p a n = tBU t p a n + wO t p a n
    rw [e5_tBU h p n, e5_w h]
theorem e5_tl (h : Eq5 a t u) (p : Nat) : tl u p a = tl t p a := by
  unfold tl tA tB
  rw [e5_tAU h, e5_tBU h, h.2.2.1 1 (by decide) (by decide) (by decide) (by decide)]
theorem e5_unr (h : Eq5 a t u) (p : Nat) : unr u p a = unr t p a := by rw [unr, unr, e5_b h, e5_r h]
theorem e5_inF (h : Eq5 a t u) : inF u a = inF t a := by rw [inF, inF, e5_b h, e5_r h, e5_L h]
theorem e5_canR (h : Eq5 a t u) (p : Nat) : canR u p a = canR t p a := by rw [canR, canR, e5_unr h, e5_inF h]
theorem e5_nx (h : Eq5 a t u) (p s : Nat) : nx u p s = nx t p s := by unfold nx; rw [e5_P h]
theorem e5_5 (h : Eq5 a t u) (v : Int32) : Eq5 a (ew_sA t 5 a v) (ew_sA u 5 a v) := ⟨h.1, h.2.1, fun b h1 h2 h3 h4 => by rw [sA_a h2, sA_a h2]; exact h.2.2.1 b h1 h2 h3 h4, by rw [sA_s, sA_s], h.2.2.2.2⟩
theorem e5_6 (h : Eq5 a t u) (v : Int32) : Eq5 a (ew_sA t 6 a v) (ew_sA u 6 a v) := ⟨h.1, h.2.1, fun b h1 h2 h3 h4 => by rw [sA_a h3, sA_a h3]; exact h.2.2.1 b h1 h2 h3 h4, h.2.2.2.1, by rw [sA_s, sA_s]⟩
theorem e5_mk (h : Eq5 a t u) (p : Nat) : Eq5 a (mk t p a) (mk u p a) := by
  unfold mk
  rw [e5_r h]
  exact e5_5 h _
theorem e5_gvU (h : Eq5 a t u) (p : Nat) : ∀ k, Eq5 a (gvU t p a k) (gvU u p a k)
  | 0 => h
  | k + 1 => by
    rw [gvU, gvU, e5_P h, e5_nx h, e5_unr h]
    by_cases q : unr t (nx t p (Pn t - (k + 1))) a = true
    · rw [if_pos q, if_pos q]; exact e5_mk h _
    · rw [if_neg q, if_neg q]; exact e5_gvU h p k
theorem e5_trn (h : Eq5 a t u) (p : Nat) : Eq5 a (trn t p a) (trn u p a) := by
  unfold trn
  rw [e5_k h, e5_tl h, e5_r h, h.1, h.2.2.1 2 (by decide) (by decide) (by decide) (by decide)]
  by_cases h1 : kd t p = 1
  · rw [if_pos h1, if_pos h1]; exact e5_mk h p
  · rw [if_neg h1, if_neg h1]
    by_cases h2 : kd t p = 2
    · rw [if_pos h2, if_pos h2]
      by_cases q : tl t p a = true
      · rw [if_pos q, if_pos q]; exact e5_mk h p
      · rw [if_neg q, if_neg q]; exact h
    · rw [if_neg h2, if_neg h2]
      by_cases h3 : kd t p = 3
      · rw [if_pos h3, if_pos h3]
        by_cases q : t.1 4 < t.2.1 2 p
        · rw [if_pos q, if_pos q]; exact h
        · rw [if_neg q, if_neg q]; exact e5_mk h p
      · rw [if_neg h3, if_neg h3]
        by_cases h4 : kd t p = 4
        · rw [if_pos h4, if_pos h4]
          by_cases q : rs t a = 0
          · rw [if_pos q, if_pos q]; exact h
          · rw [if_neg q, if_neg q]
            by_cases q : tl t p a = true
            · rw [if_pos q, if_pos q]; exact e5_mk h p
            · rw [if_neg q, if_neg q]; exact h
        · rw [if_neg h4, if_neg h4]
          by_cases h5 : kd t p = 5
          · rw [if_pos h5, if_pos h5, gv, gv, e5_P h]
            exact e5_gvU h p _
          · rw [if_neg h5, if_neg h5]
            by_cases h6 : kd t p = 6
            · rw [if_pos h6, if_pos h6]
              unfold sy
              rw [e5_s h]
              exact e5_6 h _
            · rw [if_neg h6, if_neg h6]; exact h
theorem e5_st1 (h : Eq5 a t u) (idle : Int32) (p : Nat) : Eq5 a (st1 idle a p t) (st1 idle a p u) := by
  unfold st1
  rw [e5_canR h]
  by_cases q : nI p = idle
  · rw [if_pos q, if_pos q]; exact h
  · rw [if_neg q, if_neg q]
    by_cases q : canR t p a = true
    · rw [if_pos q, if_pos q]; exact e5_trn h p
    · rw [if_neg q, if_neg q]; exact h
theorem e5_it1 (h : Eq5 a t u) (idle : Int32) : ∀ n, Eq5 a (iter (st1 idle a) n t) (iter (st1 idle a) n u)
  | 0 => h
  | n + 1 => e5_st1 (e5_it1 h idle n) idle n
theorem e5_ph1 (h : Eq5 a t u) (idle : Int32) : Eq5 a (ph1 idle a t) (ph1 idle a u) := by
  unfold ph1
  rw [e5_P h]
  exact e5_it1 h idle _
end E5
/-- the paper b's part of a state, put into another -/
def pt (b : Nat) (z : Int32 × Int32) (t : ew_M) : ew_M := ew_sA (ew_sA t 5 b z.1) 6 b z.2
def sh (t u : ew_M) (a : Nat) : Prop := u = t ∨ (∃ v, u = ew_sA t 5 a v) ∨ ∃ v, u = ew_sA t 6 a v
theorem sh_pt {t u : ew_M} {a : Nat} (h : sh t u a) : u = pt a (u.2.1 5 a, u.2.1 6 a) t := by
  rcases h with h | ⟨v, h⟩ | ⟨v, h⟩
  · subst h
    unfold pt
    rw [sA_self, sA_self]
  · subst h
    unfold pt
    dsimp only
    rw [sA_s, show (ew_sA t 5 a v).2.1 6 a = (ew_sA t 5 a v).2.1 6 a from rfl, sA_self]
  · subst h
    unfold pt
    dsimp only
    rw [sA_s, show (ew_sA t 6 a v).2.1 5 a = t.2.1 5 a from rfl, sA_self]
theorem gvU_sh (t : ew_M) (p a : Nat) : ∀ k, sh t (gvU t p a k) a
  | 0 => Or.inl rfl
  | k + 1 => by
    rw [gvU]
    by_cases q : unr t (nx t p (Pn t - (k + 1))) a = true
    · rw [if_pos q]; exact Or.inr (Or.inl ⟨_, rfl⟩)
    · rw [if_neg q]; exact gvU_sh t p a k
theorem st1_sh (idle : Int32) (a p : Nat) (t : ew_M) : sh t (st1 idle a p t) a := by
  have m : sh t (mk t p a) a := Or.inr (Or.inl ⟨_, rfl⟩)
  have n : sh t t a := Or.inl rfl
  unfold st1
  by_cases q : nI p = idle
  · rw [if_pos q]; exact n
  · rw [if_neg q]
    by_cases q : canR t p a = true
    · rw [if_pos q, trn_wr]
      by_cases h1 : wr t p a = true
      · rw [if_pos h1]; exact m
      · rw [if_neg h1]
        by_cases h5 : kd t p = 5
        · rw [if_pos h5]; exact gvU_sh t p a _
        · rw [if_neg h5]
          by_cases h6 : kd t p = 6
          · rw [if_pos h6]; exact Or.inr (Or.inr ⟨_, rfl⟩)
          · rw [if_neg h6]; exact n
    · rw [if_neg q]; exact n
theorem pt_eq5 {a b : Nat} (h : a ≠ b) (z : Int32 × Int32) (t : ew_M) : Eq5 a t (pt b z t) :=
  ⟨rfl, rfl, fun c h1 h2 h3 h4 => by unfold pt; rw [sA_a h3, sA_a h2], by unfold pt; rw [sA_a (by decide), sA_i h], by unfold pt; rw [sA_i h, sA_a (by decide)]⟩
theorem pt_comm {a b : Nat} (h : a ≠ b) (y z : Int32 × Int32) (t : ew_M) : pt a y (pt b z t) = pt b z (pt a y t) := by
  unfold pt
  rw [sA_comm (a := 6) (b := 5) (i := b) (j := a) (Or.inl (by decide)), sA_comm (a := 5) (b := 5) (i := b) (j := a) (Or.inr (fun q => h q.symm)), sA_comm (a := 6) (b := 6) (i := b) (j := a) (Or.inr (fun q => h q.symm)), sA_comm (a := 5) (b := 6) (i := b) (j := a) (Or.inl (by decide))]
theorem st1_comm {a b : Nat} (h : a ≠ b) (i j : Int32) (p q : Nat) (t : ew_M) : st1 i a p (st1 j b q t) = st1 j b q (st1 i a p t) := by
  have e1 := sh_pt (st1_sh j b q t)
  have e2 := sh_pt (st1_sh i a p t)
  generalize hz : ((st1 j b q t).2.1 5 b, (st1 j b q t).2.1 6 b) = z at e1
  generalize hy : ((st1 i a p t).2.1 5 a, (st1 i a p t).2.1 6 a) = y at e2
  have c1 := e5_st1 (pt_eq5 h z t) i p
  have c2 := e5_st1 (pt_eq5 (fun q => h q.symm) y t) j q
  have e3 := sh_pt (st1_sh i a p (pt b z t))
  have e4 := sh_pt (st1_sh j b q (pt a y t))
  rw [c1.2.2.2.1, c1.2.2.2.2, hy] at e3
  rw [c2.2.2.2.1, c2.2.2.2.2, hz] at e4
  rw [e1, e2, e3, e4]
  exact pt_comm h y z t
theorem iter_comm {f : Nat → ew_M → ew_M} {g : ew_M → ew_M} (h : ∀ i t, f i (g t) = g (f i t)) : ∀ n t, iter f n (g t) = g (iter f n t)
  | 0, _ => rfl
  | n + 1, t => by
    show f n (iter f n (g t)) = g (f n (iter f n t))
    rw [iter_comm h n t, h]
theorem iter_comm_lt {f : Nat → ew_M → ew_M} {g : ew_M → ew_M} (m : Nat) (h : ∀ i t, i < m → f i (g t) = g (f i t)) : ∀ n t, n ≤ m → iter f n (g t) = g (iter f n t)
  | 0, _, _ => rfl
  | n + 1, t, hn => by
    show f n (iter f n (g t)) = g (f n (iter f n t))
    rw [iter_comm_lt m h n t (by omega), h _ _ (by omega)]
/-- rows and columns -/
theorem iter_swap {f : Nat → Nat → ew_M → ew_M} (h : ∀ p q a b t, a ≠ b → f p a (f q b t) = f q b (f p a t)) (n : Nat) : ∀ m t, iter (fun p => iter (fun a => f p a) m) n t = iter (fun a => iter (fun p => f p a) n) m t
  | 0, t => by
    show iter (fun _ t => t) n t = t
    induction n with
    | zero => rfl
    | succ n ih => exact ih
  | m + 1, t => by
    show iter (fun p t => f p m (iter (fun a => f p a) m t)) n t = iter (fun p => f p m) n (iter (fun a => iter (fun p => f p a) n) m t)
    rw [← iter_swap h n m t]
    induction n with
    | zero => rfl
    | succ n ih =>
      show f n m (iter (fun a => f n a) m (iter (fun p t => f p m (iter (fun a => f p a) m t)) n t)) = f n m (iter (fun p => f p m) n (iter (fun a => f n a) m (iter (fun p => iter (fun a => f p a) m) n t)))
      rw [ih]
      congr 1
      exact (iter_comm_lt m (g := iter (fun p => f p m) n) (fun i t hi => (iter_comm (f := fun p => f p m) (g := f n i) (fun j t => h j n m i t (by omega)) n t).symm) m _ (Nat.le_refl m))
