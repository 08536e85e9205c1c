/-! town: both -/
section REL
variable {a b c lt ra xs m : ew_M}
/-- statements taken, one after the other -/
def Ch (T : Nat → Nat) (n : Nat) (t : ew_M) (k : Nat) (f : Nat → ew_M) : Prop := f 0 = t ∧ ∀ i, i < k → gd T n (ps T n i) (f i) ∧ TK T n (ps T n i) (f i) (f (i + 1))
theorem Ch.up {T : Nat → Nat} {n : Nat} {t : ew_M} {k : Nat} {f : Nat → ew_M} (h : Ch T n t k f) {t' : ew_M} (g : gd T n (ps T n k) (f k)) (ht : TK T n (ps T n k) (f k) t') : Ch T n t (k + 1) (fun i => if i ≤ k then f i else t') := by
  refine ⟨?_, fun i hi => ?_⟩
  · show (if 0 ≤ k then f 0 else t') = t
    rw [if_pos (by omega)]
    exact h.1
  · show gd T n (ps T n i) (if i ≤ k then f i else t') ∧ TK T n (ps T n i) (if i ≤ k then f i else t') (if i + 1 ≤ k then f (i + 1) else t')
    by_cases e : i < k
    · rw [if_pos (by omega), if_pos (by omega)]
      exact h.2 i e
    · have : i = k := by omega
      subst this
      rw [if_pos (by omega), if_neg (by omega)]
      exact ⟨g, ht⟩
theorem Ch.w {T : Nat → Nat} {n : Nat} {t : ew_M} {k : Nat} {f : Nat → ew_M} (hw : wf t) (h : Ch T n t k f) (ok : ∀ i, i < k → (stF T n (ps T n i)).1 = true) : ∀ i, i ≤ k → wf (f i)
  | 0, _ => by rw [h.1]; exact hw
  | i + 1, hi => wf_TK (Ch.w hw h ok i (by omega)) (ok i (by omega)) (h.2 i (by omega)).1 (h.2 i (by omega)).2
theorem ps_b {T : Nat → Nat} {n : Nat} : ∀ k, (∀ i, i < k → (stF T n (ps T n i)).1 = true) → 3 * k ≤ ps T n k ∧ (ps T n k ≤ n ∨ k = 0)
  | 0, _ => ⟨by omega, Or.inr rfl⟩
  | k + 1, h => by
    obtain ⟨h1, -⟩ := ps_b k (fun i hi => h i (by omega))
    obtain ⟨g1, g2⟩ := st_end (h k (by omega))
    show 3 * (k + 1) ≤ (stF T n (ps T n k)).2 ∧ ((stF T n (ps T n k)).2 ≤ n ∨ _)
    exact ⟨by omega, Or.inl g2⟩
theorem MtP.V {T : Nat → Nat} {n tl k : Nat} {m m' : ew_M} (h : MtP tl m m') (hk : k < tl) {p : Nat} (hv : MtV T n k p m) : MtV T n k p m' := by
  obtain ⟨h1, h2⟩ := h
  obtain ⟨v1, v2, v3⟩ := hv
  have sM : stM T p ≤ 7 := by unfold stM; split <;> (try split) <;> (try split) <;> omega
  exact ⟨by rw [(h1 k hk).1]; exact v1, by rw [(h1 k hk).2]; exact v2, fun j hj => by rw [h2 _ (by omega)]; exact v3 j hj⟩
/-- the reference's first pass: K statements stand, then the letters end or break off -/
theorem m_pass {T : Nat → Nat} {n K : Nat} (hM : MtT T n m) (ok : ∀ i, i < K → (stF T n (ps T n i)).1 = true ∧ ps T n i < n) {Q : Int32 → ew_M → Prop} (hn0 : 0 < n) {m1 : ew_M} (hs : MtS m n 0 (nI 0) m1)
    (hf : ps T n K < n → (stF T n (ps T n K)).1 = false) (hQ : ps T n K < n → ∀ s, MtS m n (stF T n (ps T n K)).2 (nI K) s → Q ((-1000 : Int32) - nI (stF T n (ps T n K)).2) (ew_sI s 18 0))
    (hE : ¬ ps T n K < n → ∀ s, MtS m n (ps T n K) (nI K) s → (∀ i, i < K → MtV T n i (ps T n i) s) → wX5_town_46 Q 1 s) : wX5_town_22 Q 1 m1 := by
  have hn := hM.1
  have pb := ps_b (T := T) (n := n) K (fun i hi => (ok i hi).1)
  have K22 : K ≤ 22 := by
    rcases Nat.eq_zero_or_pos K with e | e
    · omega
    · have := (ok (K - 1) (by omega)).2
      have := (ps_b (T := T) (n := n) (K - 1) (fun i hi => (ok i (by omega)).1)).1
      omega
  have dn : (-1000 : Int32) - nI (stF T n (ps T n K)).2 = (-1000 : Int32) - nI (stF T n (ps T n K)).2 := rfl
  refine ew_forI (if ps T n K < n then K + 1 else K) (fun k y => ∃ s, (k ≤ K ∧ y = ((1 : Int32), s) ∧ MtS m n (ps T n k) (nI k) s ∧ ∀ i, i < k → MtV T n i (ps T n i) s) ∨ (k = K + 1 ∧ ps T n K < n ∧ y = ((0 : Int32), s) ∧ MtS m n (stF T n (ps T n K)).2 (nI K) s)) (fun k R y hk hI hR => ?_) (fun R y hI => ?_) ⟨m1, Or.inl ⟨by omega, rfl, hs, fun i hi => absurd hi (by omega)⟩⟩
  · obtain ⟨s, h⟩ := hI
    have kK : k ≤ K := by split at hk <;> omega
    rcases h with ⟨-, rfl, g1, g2⟩ | ⟨e, -⟩
    case inr => omega
    have pn : ps T n k < n := by
      by_cases e : k < K
      · exact (ok k e).2
      · have : k = K := by omega
        subst this
        by_cases z : ps T n k < n
        · exact z
        · rw [if_neg z] at hk
          omega
    refine ⟨fun z => absurd z z10, fun _ => ⟨fun z => ?_, fun _ => ?_⟩⟩
    · have z : s.1 18 ≤ s.1 28 := z
      rw [g1.2.1 18 (by decide) (by decide), hM.2.2.1, g1.2.2.2.2.1] at z
      exact absurd z (nI_ge pn (by omega))
    · refine m_stat hM (by omega) pn g1 (fun z m' w1 => hR _ ?_) (fun z m' w1 w2 w3 => hR _ ?_)
      · have : k = K := by
          rcases Nat.lt_or_ge k K with e | e
          · rw [(ok k e).1] at z
            exact absurd z (by decide)
          · omega
        subst this
        exact ⟨m', Or.inr ⟨rfl, pn, rfl, w1⟩⟩
      · have kl : k < K := by
          rcases Nat.lt_or_ge k K with e | e
          · exact e
          · have : k = K := by omega
            subst this
            rw [hf pn] at z
            exact absurd z (by decide)
        refine ⟨m', Or.inl ⟨kl, rfl, w1, fun i hi => ?_⟩⟩
        by_cases e : i = k
        · subst e
          exact w3
        · exact w2.V (by omega) (g2 i (by omega))
  · obtain ⟨s, h⟩ := hI
    by_cases z : ps T n K < n
    · rcases h with ⟨e, -⟩ | ⟨-, -, rfl, g1⟩
      · rw [if_pos z] at e
        omega
      · refine ⟨fun _ => ⟨fun _ => ⟨fun y => absurd rfl y, fun _ => ?_⟩, fun y => absurd rfl y⟩, fun y => absurd rfl y⟩
        have q := hQ z s g1
        have e28 : s.1 28 = nI (stF T n (ps T n K)).2 := g1.2.2.2.2.1
        dsimp only
        rw [e28]
        exact q
    · rcases h with ⟨e, rfl, g1, g2⟩ | ⟨-, e, -⟩
      case inr => exact absurd e z
      rw [if_neg z] at g1 g2
      refine ⟨fun y => absurd y z10, fun _ => ⟨fun _ => hE z s g1 g2, fun y => ?_⟩⟩
      have y : ¬ s.1 18 ≤ s.1 28 := y
      rw [g1.2.1 18 (by decide) (by decide), hM.2.2.1, g1.2.2.2.2.1] at y
      exact absurd (nI_le (by omega) (by
        rcases pb.2 with e | e
        · omega
        · rw [e] at *
          show ps T n 0 < 2 ^ 31
          show 0 < 2 ^ 31
          decide)) y
end REL
