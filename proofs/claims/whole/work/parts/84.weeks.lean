/-! the reference's week is the class's week -/
theorem st1_1 (idle : Int32) (a p : Nat) (t : ew_M) : (st1 idle a p t).1 = t.1 := by
  rcases st1_sh idle a p t with h | ⟨v, h⟩ | ⟨v, h⟩ <;> rw [h] <;> rfl
theorem it1_1 (idle : Int32) (a : Nat) (t : ew_M) : ∀ n, (iter (st1 idle a) n t).1 = t.1
  | 0 => rfl
  | n + 1 => (st1_1 idle a n _).trans (it1_1 idle a t n)
theorem gn1_pt {a b : Nat} (y : Int32 × Int32) (p : Nat) (t : ew_M) : gn1 a p (pt b y t) = pt b y (gn1 a p t) := by
  have e1 : bs (pt b y t) a = bs t a := rfl
  have e2 : tr (pt b y t) a = tr t a := rfl
  unfold gn1
  rw [e1, e2]
  by_cases h : (bs t a).testBit p = true
  · rw [if_pos h, if_pos h]
    unfold pt
    rw [sA_comm (a := 6) (b := 3) (Or.inl (by decide)), sA_comm (a := 5) (b := 3) (Or.inl (by decide))]
    rfl
  · rw [if_neg h, if_neg h]
theorem ph2_pt {a b : Nat} (y : Int32 × Int32) (t : ew_M) : ph2 a (pt b y t) = pt b y (ph2 a t) := by
  unfold ph2
  have e0 : Pn (pt b y t) = Pn t := rfl
  have e := iter_comm (f := gn1 a) (g := pt b y) (fun i t => gn1_pt y i t) (Pn t) t
  rw [e0, e]
  generalize iter (gn1 a) (Pn t) t = u
  unfold pt
  rw [sA_comm (a := 6) (b := 8) (Or.inl (by decide)), sA_comm (a := 5) (b := 8) (Or.inl (by decide))]
  rfl
theorem ph2c_pt {a b : Nat} (h : a ≠ b) (y : Int32 × Int32) (t : ew_M) : ph2c a (pt b y t) = pt b y (ph2c a t) := by
  unfold ph2c
  rw [e5_inF (pt_eq5 h y t)]
  by_cases q : inF t a = true
  · rw [if_pos q, if_pos q, ph2_pt]
  · rw [if_neg q, if_neg q]
theorem Ah.e5 {t u : ew_M} (h : Ah t u) (a : Nat) : Eq5 a t u := ⟨h.1, h.2.1, fun b h1 _ _ h4 => h.2.2 b h1 h4, by rw [h.2.2 5 (by decide) (by decide)], by rw [h.2.2 6 (by decide) (by decide)]⟩
theorem ph2c_st1 {a b : Nat} (h : a ≠ b) (idle : Int32) (p : Nat) (t : ew_M) : ph2c a (st1 idle b p t) = st1 idle b p (ph2c a t) := by
  have e1 := sh_pt (st1_sh idle b p t)
  have e2 := sh_pt (st1_sh idle b p (ph2c a t))
  have c := e5_st1 ((ph2c_ok t a).e5 b) idle p
  rw [c.2.2.2.1, c.2.2.2.2] at e2
  rw [e2]
  exact (congrArg (ph2c a) e1).trans (ph2c_pt h _ t)
def passWi (idl : Nat → Int32) (t : ew_M) : ew_M := wk1 (iter (fun a => passP (idl a) a) (An t) t)
theorem passP_c (idle : Int32) (a : Nat) (t : ew_M) : passP idle a t = ph2c a (iter (st1 idle a) (Pn t) t) := rfl
theorem passP_1 (idle : Int32) (a : Nat) (t : ew_M) : (passP idle a t).1 = t.1 := by rw [passP_c, (ph2c_ok _ a).1, it1_1]
theorem itP_1 (idl : Nat → Int32) (t : ew_M) : ∀ n, (iter (fun a => passP (idl a) a) n t).1 = t.1
  | 0 => rfl
  | n + 1 => (passP_1 _ n _).trans (itP_1 idl t n)
theorem rows_swap (idl : Nat → Int32) (P A : Nat) (t : ew_M) : iter (row1 idl A) P t = iter (fun a => iter (fun p => st1 (idl a) a p) P) A t :=
  iter_swap (f := fun p a => st1 (idl a) a p) (fun p q a b t h => st1_comm h _ _ p q t) P A t
theorem iter_succ (f : Nat → ew_M → ew_M) (n : Nat) (t : ew_M) : iter f (n + 1) t = f n (iter f n t) := rfl
theorem col_step (idl : Nat → Int32) (P n : Nat) (u : ew_M) : iter ph2c n (iter (fun p => st1 (idl n) n p) P u) = iter (fun p => st1 (idl n) n p) P (iter ph2c n u) :=
  iter_comm_lt n (g := iter (fun p => st1 (idl n) n p) P) (fun i u hi => (iter_comm (f := fun p => st1 (idl n) n p) (g := ph2c i) (fun p v => (ph2c_st1 (Nat.ne_of_lt hi) (idl n) p v).symm) P u).symm) n u (Nat.le_refl n)
theorem iter_zero (f : Nat → ew_M → ew_M) (t : ew_M) : iter f 0 t = t := rfl
theorem cols_eq (idl : Nat → Int32) (P : Nat) (t : ew_M) (hP : Pn t = P) (n : Nat) : iter ph2c n (iter (fun a => iter (fun p => st1 (idl a) a p) P) n t) = iter (fun a => passP (idl a) a) n t := by
  induction n with
  | zero => rw [iter_zero, iter_zero, iter_zero]
  | succ n ih =>
    have e2 : Pn (iter (fun a => passP (idl a) a) n t) = P := by rw [Pn, itP_1, ← hP, Pn]
    rw [iter_succ ph2c, iter_succ (fun a => iter (fun p => st1 (idl a) a p) P), iter_succ (fun a => passP (idl a) a), col_step, ih, passP_c, e2]
theorem passM_eq (idl : Nat → Int32) (t : ew_M) : passM idl t = passWi idl t := by
  unfold passM passWi
  rw [rows_swap, cols_eq idl (Pn t) t rfl]
theorem wf_passP {t : ew_M} (hw : wf t) {idle : Int32} {a : Nat} (ha : a < An t) : wf (passP idle a t) := by
  rw [passP_c]
  exact (ph2c_ok _ a).w (it1_ok hw ha _ (Nat.le_refl _)).2
theorem wf_itP {t : ew_M} (hw : wf t) {idl : Nat → Int32} : ∀ n, n ≤ An t → wf (iter (fun a => passP (idl a) a) n t)
  | 0, _ => hw
  | n + 1, hn => by
    have h := wf_itP hw (idl := idl) n (by omega)
    exact wf_passP h (by rw [An, itP_1]; exact hn)
theorem wf_passWi {t : ew_M} (hw : wf t) (idl : Nat → Int32) : wf (passWi idl t) := wf_w (wf_itP hw _ (Nat.le_refl _)) _
def m1 : Nat → Int32 := fun _ => -1
theorem p_passWeek {t : ew_M} (hw : wf t) {Q : ew_M → Prop} (h : Q (passWi m1 t)) : wX3_passWeek Q t := by
  obtain ⟨eA, hA⟩ := hw.A
  refine ew_for (An t) (fun i => (nI i, iter (fun a => passP (m1 a) a) i t)) (fun i R hi hR => ?_) (fun R => ?_)
  · have h1 := itP_1 m1 t i
    have h2 := wf_itP hw (idl := m1) i (by omega)
    refine ⟨fun q => ?_, fun _ => ?_⟩
    · have q : (iter (fun a => passP (m1 a) a) i t).1 1 ≤ nI i := q
      rw [h1, eA] at q
      exact absurd q (nI_ge hi (by omega))
    · refine p_passPaper h2 (by rw [An, h1]; exact hi) ?_
      show R (nI i + 1, _)
      rw [nI_s]
      exact hR
  · refine ⟨fun _ => h, fun q => ?_⟩
    have q : ¬ (iter (fun a => passP (m1 a) a) (An t) t).1 1 ≤ nI (An t) := q
    rw [itP_1, eA] at q
    exact absurd (nI_le (Nat.le_refl _) (by omega)) q
theorem m_passes1 {t m : ew_M} (hr : RT t m) (hw : wf t) (hs : m.1 29 = -1) {Q : ew_M → Prop} (h : ∀ n, RT (passWi m1 t) n → Fr m n → Q n) : wX5_passes Q m := by
  rw [← passM_eq] at h
  refine m_passes hr hw (idl := m1) (fun p a hp ha => ⟨fun q => ?_, fun q => ?_⟩) h
  · have q : nI p = -1 := q
    exact absurd (show nI p < 0 by rw [q]; decide) (nI_pos (by omega))
  · rw [hs] at q
    exact q.1
