/-! laws and lasting -/
section REL
variable {a b c lt ra xs m : ew_M}
theorem noLaw {x : Int32} {Q : Int32 → Prop} (h1 : ∀ k, k < 5 → x = nI k → Q 0) (h2 : (x < 0 ∨ (4 : Int32) < x) → Q 1) : wX4_isNoLaw Q x := by
  refine ⟨fun q => h2 (Or.inl q), fun q => ⟨fun q2 => ?_, fun q2 => h2 (Or.inr ?_)⟩⟩
  · obtain ⟨k, hk, rfl⟩ := nI_of q
    exact h1 k ((nI_ltI (a := k) (b := 5) hk (by decide)).mp q2) rfl
  · have h5 : (5 : Int32) ≤ x := Int32.not_lt.mp q2
    rw [Int32.lt_iff_toInt_lt]
    rw [Int32.le_iff_toInt_le, show (5 : Int32).toInt = 5 by decide] at h5
    rw [show (4 : Int32).toInt = 4 by decide]
    omega
theorem in04 {k : Nat} (hk : k < 5) : ¬ (nI k < 0 ∨ (4 : Int32) < nI k) := fun z => z.elim (nI_pos (by omega)) (fun z => absurd ((nI_ltI (a := 4) (b := k) (by decide) (by omega)).mp z) (by omega))
/-- laws -/
theorem s_laws (hR : Rel a c lt xs m) (x y z : Int32) : wX4_laws (fun r _ xs' => wX5_laws (fun r' m' => r = r' ∧ Rel a c lt xs' m') x y z m) x y z a b c lt ra xs := by
  have hw := hR.w
  have hr := hR.r
  have hA := hw.A.2
  by_cases hx : isA a x
  · obtain ⟨k, hk, rfl⟩ := hx
    have mp : ∀ {A B : Prop}, A → wX5_isPaper (fun r1 => (¬ r1 = 0 → A) ∧ (r1 = 0 → B)) (nI k) m := fun h => m_isPaper_y hr hw hk ⟨fun _ => h, fun q => absurd q z10⟩
    refine p_hasPaper_y hw hk ⟨fun _ => noLaw (fun l hl e => ?_) (fun q => ?_), fun q => absurd q z10⟩
    · subst e
      have mi : ∀ {A B : Prop}, A → wX5_in (fun r4 => (¬ r4 = 0 → A) ∧ (r4 = 0 → B)) (nI l) 0 4 := fun h => m_in (by
        rw [if_neg (in04 hl)]
        exact ⟨fun _ => h, fun q => absurd q z10⟩)
      refine ⟨fun _ => p_so (n := 60) (by decide) ⟨fun q => ?_, fun q q2 => ?_, fun n h1 h2 e => ?_⟩, fun q => absurd rfl q⟩
      · exact ⟨fun q2 => absurd q2 (by decide), fun _ => p_refuse (k := 4) (by decide) (mp (mi ⟨fun q2 => absurd q (Int32.not_lt.mpr q2), fun _ => m_refuse (k := 4) (by decide) (by decide) ⟨by decide, hR.rf (by decide)⟩⟩))⟩
      · exact ⟨fun q2 => absurd q2 (by decide), fun _ => p_refuse (k := 6) (by decide) (mp (mi ⟨fun _ => ⟨fun q3 => absurd q2 (Int32.not_lt.mpr q3), fun _ => m_refuse (k := 6) (by decide) (by decide) ⟨by decide, hR.rf (by decide)⟩⟩, fun q3 => absurd (Int32.not_lt.mp q) q3⟩))⟩
      · subst e
        refine ⟨fun _ => p_lasts hw hk hl h2 fun u => mp (mi ⟨fun _ => ⟨fun _ => m_lawFor hr hw hR.1.2.2 hl h2 fun q q1 q2 q3 => ⟨vp_in_nI (by omega) (by decide), ?_, hR.up hw q1 q2⟩, fun q => absurd (nI_le (a := n) (b := 60) h2 (by decide)) q⟩, fun q => absurd (nI_le (a := 1) (b := n) h1 (by omega)) q⟩), fun q => absurd rfl q⟩
        rw [cN (by omega)]
        exact (q3 k hk).symm
    · refine ⟨fun q2 => absurd q2 z10, fun _ => p_refuse (k := 2) (by decide) (mp (m_in ?_))⟩
      rw [if_pos q]
      exact ⟨fun q2 => absurd rfl q2, fun _ => m_refuse (k := 2) (by decide) (by decide) ⟨by decide, hR.rf (by decide)⟩⟩
  · refine p_hasPaper_n hw hx ⟨fun q => absurd rfl q, fun _ => p_refuse (k := 1) (by decide) ?_⟩
    exact m_isPaper_n hr hw hx ⟨fun q => absurd rfl q, fun _ => m_refuse (k := 1) (by decide) (by decide) ⟨by decide, hR.rf (by decide)⟩⟩
theorem flg_n (i : Int32) (k : Nat) (t : ew_M) : ∃ j, j ≤ 1 ∧ flg i k t = nI j := by
  unfold flg
  by_cases h : inF (ph1 i k t) k = true
  · rw [h]; exact ⟨1, by decide, rfl⟩
  · rw [b_nt h]; exact ⟨0, by decide, rfl⟩
theorem lsm_n (t : ew_M) (k : Nat) : ∀ n, ∃ j, j ≤ n ∧ lsm t k n = nI j
  | 0 => ⟨0, by decide, rfl⟩
  | n + 1 => by
    obtain ⟨j, h1, h2⟩ := lsm_n t k n
    obtain ⟨i, h3, h4⟩ := flg_n (-1) k (lu t k n)
    refine ⟨j + i, by omega, ?_⟩
    show lsm t k n + flg (-1) k (lu t k n) = _
    rw [h2, h4, nI_add]
/-- the longest so far -/
def bw (L : Nat → Int32) : Nat → Int32 × Int32
  | 0 => (-9, -1)
  | i + 1 => if L i ≤ (bw L i).2 then bw L i else (nI i, L i)
theorem bw_p {L : Nat → Int32} (hL : ∀ i, ¬ L i ≤ -1) : ∀ i, 0 < i → ∃ j, j < i ∧ bw L i = (nI j, L j)
  | 0, h => absurd h (by omega)
  | i + 1, _ => by
    show ∃ j, j < i + 1 ∧ (if L i ≤ (bw L i).2 then bw L i else (nI i, L i)) = (nI j, L j)
    by_cases q : L i ≤ (bw L i).2
    · rw [if_pos q]
      by_cases z : i = 0
      · subst z
        exact absurd q (hL 0)
      · obtain ⟨j, h1, h2⟩ := bw_p hL i (by omega)
        exact ⟨j, by omega, h2⟩
    · rw [if_neg q]
      exact ⟨i, by omega, rfl⟩
/-- lasting -/
theorem s_lasting (hR : Rel a c lt xs m) (x : Int32) : wX4_lasting (fun r _ xs' => wX5_lasting (fun r' m' => r = r' ∧ Rel a c lt xs' m') x m) x a b c lt ra xs := by
  have hw := hR.w
  have hr := hR.r
  obtain ⟨eA, hA⟩ := hw.A
  obtain ⟨eL, hL4⟩ := hw.L
  refine p_so (n := 60) (by decide) ⟨fun q => ?_, fun q q2 => ?_, fun n h1 h2 e => ?_⟩
  · exact ⟨fun q2 => absurd q2 (by decide), fun _ => p_refuse (k := 4) (by decide) ⟨fun q2 => absurd q (Int32.not_lt.mpr q2), fun _ => m_refuse (k := 4) (by decide) (by decide) ⟨by decide, hR.rf (by decide)⟩⟩⟩
  · exact ⟨fun q2 => absurd q2 (by decide), fun _ => p_refuse (k := 6) (by decide) ⟨fun _ => ⟨fun q3 => absurd q2 (Int32.not_lt.mpr q3), fun _ => m_refuse (k := 6) (by decide) (by decide) ⟨by decide, hR.rf (by decide)⟩⟩, fun q3 => absurd (Int32.not_lt.mp q) q3⟩⟩
  · subst e
    refine ⟨fun _ => ?_, fun q => absurd rfl q⟩
    have hL : ∀ i, ¬ (fun i => lsm (ew_sI a 2 (nI (Ln a))) i n) i ≤ -1 := fun i q => by
      obtain ⟨j, j1, j2⟩ := lsm_n (ew_sI a 2 (nI (Ln a))) i n
      have q : lsm (ew_sI a 2 (nI (Ln a))) i n ≤ -1 := q
      rw [j2, Int32.le_iff_toInt_le, nI_toInt (by omega), show (-1 : Int32).toInt = -1 by decide] at q
      omega
    have mod : wX5_lasting (fun r' m' => (bw (fun i => lsm (ew_sI a 2 (nI (Ln a))) i n) (An a)).1 = r' ∧ Rel a c lt xs m') (nI n) m := by
      refine ⟨fun _ => ⟨fun _ => ?_, fun q => absurd (nI_le (a := n) (b := 60) h2 (by decide)) q⟩, fun q => absurd (nI_le (a := 1) (b := n) h1 (by omega)) q⟩
      rw [hr.1.2.2.1, eL]
      refine m_lawFor hr hw hR.1.2.2 (by omega) h2 fun q q1 q2 q3 => ?_
      have q5 : q.1 5 = nI (An a) := by rw [q1.1.2.1, eA]
      refine ew_for (An a) (fun i => ((bw (fun i => lsm (ew_sI a 2 (nI (Ln a))) i n) i).1, nI i)) (fun i R hi hRR => ?_) (fun R => ?_)
      · have hRR : R ((if lsm (ew_sI a 2 (nI (Ln a))) i n ≤ (bw (fun i => lsm (ew_sI a 2 (nI (Ln a))) i n) i).2 then bw (fun i => lsm (ew_sI a 2 (nI (Ln a))) i n) i else (nI i, lsm (ew_sI a 2 (nI (Ln a))) i n)).1, nI (i + 1)) := hRR
        rw [← nI_s] at hRR
        refine ⟨fun z => ?_, fun _ => ?_⟩
        · rw [q5] at z
          exact absurd z (nI_ge hi (by omega))
        · by_cases i0 : i = 0
          · subst i0
            rw [if_neg (show ¬ lsm (ew_sI a 2 (nI (Ln a))) 0 n ≤ (bw (fun i => lsm (ew_sI a 2 (nI (Ln a))) i n) 0).2 from hL 0)] at hRR
            exact ⟨fun _ => hRR, fun z => absurd rfl z⟩
          · obtain ⟨j, j1, j2⟩ := bw_p hL i (by omega)
            rw [j2] at hRR
            show ((bw (fun i => lsm (ew_sI a 2 (nI (Ln a))) i n) i).1 = -9 → _) ∧ _
            rw [j2]
            refine ⟨fun z => ?_, fun _ => ?_⟩
            · have z : nI j = -9 := z
              exact absurd (show nI j < 0 by rw [z]; decide) (nI_pos (by omega))
            · show vp_in (nI i) 5 ∧ vp_in (nI j) 5 ∧ ((q.2.1 23 (nI i).toNatClampNeg ≤ q.2.1 23 (nI j).toNatClampNeg → R (nI j, nI i + 1)) ∧ (¬ q.2.1 23 (nI i).toNatClampNeg ≤ q.2.1 23 (nI j).toNatClampNeg → R (nI i, nI i + 1)))
              rw [cN (by omega), cN (by omega), q3 i hi, q3 j (by omega)]
              refine ⟨vp_in_nI (by omega) (by decide), vp_in_nI (by omega) (by decide), fun z => ?_, fun z => ?_⟩
              · rw [if_pos z] at hRR
                exact hRR
              · rw [if_neg z] at hRR
                exact hRR
      · refine ⟨fun _ => ⟨rfl, hR.up hw q1 q2⟩, fun z => ?_⟩
        rw [q5] at z
        exact absurd (nI_le (Nat.le_refl _) (by omega)) z
    refine ew_forI (An a) (fun i y => y.1 = (bw (fun i => lsm (ew_sI a 2 (nI (Ln a))) i n) i).1 ∧ y.2.1 = (bw (fun i => lsm (ew_sI a 2 (nI (Ln a))) i n) i).2 ∧ y.2.2.1 = nI i) (fun i R y hi hI hRR => ?_) (fun R y hI => ?_) ⟨rfl, rfl, rfl⟩
    · obtain ⟨v2, v3, v4, s⟩ := y
      obtain ⟨e1, e2, e3⟩ := hI
      have e1 : v2 = _ := e1
      have e2 : v3 = _ := e2
      have e3 : v4 = _ := e3
      subst e1
      subst e2
      subst e3
      refine ⟨fun z => ?_, fun _ => ?_⟩
      · rw [eA] at z
        exact absurd z (nI_ge hi (by omega))
      · show wX1_lastsUnder _ (nI i) (a.1 2) (nI n) a s ra xs
        rw [eL]
        refine p_lasts hw hi (by omega) h2 fun u => ⟨fun z => hRR _ ⟨?_, ?_, nI_s i⟩, fun z => hRR _ ⟨?_, ?_, nI_s i⟩⟩
        · show _ = (if lsm (ew_sI a 2 (nI (Ln a))) i n ≤ (bw (fun i => lsm (ew_sI a 2 (nI (Ln a))) i n) i).2 then bw (fun i => lsm (ew_sI a 2 (nI (Ln a))) i n) i else (nI i, lsm (ew_sI a 2 (nI (Ln a))) i n)).1
          rw [if_pos z]
        · show _ = (if lsm (ew_sI a 2 (nI (Ln a))) i n ≤ (bw (fun i => lsm (ew_sI a 2 (nI (Ln a))) i n) i).2 then bw (fun i => lsm (ew_sI a 2 (nI (Ln a))) i n) i else (nI i, lsm (ew_sI a 2 (nI (Ln a))) i n)).2
          rw [if_pos z]
        · show _ = (if lsm (ew_sI a 2 (nI (Ln a))) i n ≤ (bw (fun i => lsm (ew_sI a 2 (nI (Ln a))) i n) i).2 then bw (fun i => lsm (ew_sI a 2 (nI (Ln a))) i n) i else (nI i, lsm (ew_sI a 2 (nI (Ln a))) i n)).1
          rw [if_neg z]
        · show _ = (if lsm (ew_sI a 2 (nI (Ln a))) i n ≤ (bw (fun i => lsm (ew_sI a 2 (nI (Ln a))) i n) i).2 then bw (fun i => lsm (ew_sI a 2 (nI (Ln a))) i n) i else (nI i, lsm (ew_sI a 2 (nI (Ln a))) i n)).2
          rw [if_neg z]
    · obtain ⟨v2, v3, v4, s⟩ := y
      obtain ⟨e1, e2, e3⟩ := hI
      have e1 : v2 = _ := e1
      have e2 : v3 = _ := e2
      have e3 : v4 = _ := e3
      subst e1
      subst e2
      subst e3
      refine ⟨fun _ => mod, fun z => ?_⟩
      rw [eA] at z
      exact absurd (nI_le (Nat.le_refl _) (by omega)) z
end REL
