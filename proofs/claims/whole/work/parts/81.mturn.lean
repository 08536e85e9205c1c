/-! the reference's turns -/
theorem tb_or : ∀ r, r < 64 → ∀ p, p < 6 → ∀ q, q < 6 → (r ||| 2 ^ p).testBit q = (r.testBit q || decide (q = p)) := by decide +kernel
theorem wO_mk {t : ew_M} (hw : wf t) {p a : Nat} (ha : a < 5) (hp : p < 6) {q b k : Nat} (hb : b < 5) (hq : q < 6) : wO (mk t p a) q b k = if b = a ∧ q = p then (if k = tr t a then 1 else 0) else wO t q b k := by
  have hr := (hw.r ha).2
  have e1 : ∀ c, tr (mk t p a) c = tr t c := fun c => rfl
  have e2 : (mk t p a).2.2 = t.2.2 := rfl
  by_cases hb' : b = a
  · subst hb'
    have e3 : rs (mk t p b) b = rs t b ||| 2 ^ p := rs_s (bt_or_lt _ hr p hp)
    rw [wO, e3, tb_or _ hr p hp q hq, e1, e2]
    by_cases hq' : q = p
    · subst hq'
      simp
    · rw [decide_eq_false hq', Bool.or_false, if_neg (show ¬ (b = b ∧ q = p) from fun z => hq' z.2), wO]
  · have e3 : rs (mk t p a) b = rs t b := rs_o hb'
    rw [wO, e3, e1, e2, if_neg (show ¬ (b = a ∧ q = p) from fun z => hb' z.1), wO]
def hn (m : ew_M) (f c : Nat) : Nat → ew_M
  | 0 => m
  | i + 1 => ew_sW (hn m f c i) 0 (f + i) (if i = c then 1 else 0)
theorem hn_0 (m : ew_M) (f c : Nat) : ∀ i, (hn m f c i).1 = m.1 ∧ (hn m f c i).2.1 = m.2.1 ∧ Fr m (hn m f c i)
  | 0 => ⟨rfl, rfl, Fr.rf m⟩
  | i + 1 => ⟨(hn_0 m f c i).1, (hn_0 m f c i).2.1, (hn_0 m f c i).2.2.tr (Fr.w _ _ _)⟩
theorem hn_get (m : ew_M) (f c j : Nat) : ∀ i, (hn m f c i).2.2 0 j = if f ≤ j ∧ j < f + i then (if j - f = c then 1 else 0) else m.2.2 0 j
  | 0 => by rw [if_neg (by omega)]; rfl
  | i + 1 => by
    rw [hn]
    by_cases h : j = f + i
    · subst h
      rw [sW_s, if_pos (show f ≤ f + i ∧ f + i < f + (i + 1) from by omega), show f + i - f = i by omega]
    · rw [sW_i h, hn_get m f c j i]
      by_cases h2 : f ≤ j ∧ j < f + i
      · rw [if_pos h2, if_pos (show f ≤ j ∧ j < f + (i + 1) from by omega)]
      · rw [if_neg h2, if_neg (show ¬ (f ≤ j ∧ j < f + (i + 1)) from by omega)]
theorem RT_mk {t m : ew_M} (hr : RT t m) (hw : wf t) {p a : Nat} (ha5 : a < 5) (hp : p < 6) : RT (mk t p a) (hn (ew_sA m 8 a (nI (rs t a ||| 2 ^ p))) ((a * 6 + p) * 3) (tr t a) 3) := by
  obtain ⟨h1, h2, -⟩ := hn_0 (ew_sA m 8 a (nI (rs t a ||| 2 ^ p))) ((a * 6 + p) * 3) (tr t a) 3
  refine ⟨by rw [h1]; exact hr.1, fun j hj => by rw [h2]; exact hr.2.1 j hj, fun b hb => ?_, fun k hk => by rw [h2]; exact hr.2.2.2.1 k hk, fun k hk => by rw [h2]; exact hr.2.2.2.2.1 k hk, fun b q k hb hq hk => ?_⟩
  · rw [h2]
    obtain ⟨g1, g2, g3, g4, g5⟩ := hr.2.2.1 b hb
    refine ⟨g1, ?_, g3, g4, g5⟩
    by_cases e : b = a
    · subst e
      rw [sA_s]
      exact (sA_s _ _ _ _).symm
    · rw [sA_i e, g2]
      exact (sA_i e).symm
  · have hb5 : b < 5 := by have := hw.A.2; have : b < An t := hb; omega
    rw [hn_get, wO_mk hw ha5 hp hb5 hq]
    by_cases e : b = a ∧ q = p
    · obtain ⟨rfl, rfl⟩ := e
      rw [if_pos (show (b * 6 + q) * 3 ≤ (b * 6 + q) * 3 + k ∧ (b * 6 + q) * 3 + k < (b * 6 + q) * 3 + 3 from by omega), if_pos (show b = b ∧ q = q from ⟨rfl, rfl⟩), show (b * 6 + q) * 3 + k - (b * 6 + q) * 3 = k by omega]
    · rw [if_neg (show ¬ ((a * 6 + p) * 3 ≤ (b * 6 + q) * 3 + k ∧ (b * 6 + q) * 3 + k < (a * 6 + p) * 3 + 3) from by omega), if_neg e]
      exact hr.2.2.2.2.2 b q k hb hq hk
theorem m_hasNowRead {t m : ew_M} (hr : RT t m) (hw : wf t) {p a : Nat} (ha : a < 5) (hp : p < 6) {Q : ew_M → Prop} (h : ∀ n, RT (mk t p a) n → Fr m n → Q n) : wX5_hasNowRead Q (nI p) (nI a) m := by
  obtain ⟨e1, e2⟩ := hw.r ha
  obtain ⟨e3, e4⟩ := hw.t ha
  refine ⟨vp_in_nI ha (by decide), vp_in_nI ha (by decide), ?_⟩
  rw [cN (by omega), (hr.2.2.1 a ha).2.1, e1, bt_or _ e2 p hp]
  have hq := h _ (RT_mk hr hw ha hp) ((Fr.a8 m a _).tr (hn_0 _ _ _ _).2.2)
  generalize hm : ew_sA m 8 a (nI (rs t a ||| 2 ^ p)) = m0 at hq ⊢
  have h7 : m0.2.1 7 a = nI (tr t a) := by rw [← hm, ← e3, ← (hr.2.2.1 a ha).2.2.2.1]; rfl
  refine ew_for 3 (fun i => (nI i, hn m0 ((a * 6 + p) * 3) (tr t a) i)) (fun i R hi hR => ?_) (fun R => ?_)
  · refine ⟨fun q => absurd q (nI_ge (a := i) (b := 3) hi (by decide)), fun _ => ?_⟩
    have hR : R (nI (i + 1), ew_sW (hn m0 ((a * 6 + p) * 3) (tr t a) i) 0 ((a * 6 + p) * 3 + i) (if i = tr t a then 1 else 0)) := hR
    show vp_in (nI a) 5 ∧ (¬ nI i = (hn m0 ((a * 6 + p) * 3) (tr t a) i).2.1 7 (nI a).toNatClampNeg → _) ∧ (nI i = (hn m0 ((a * 6 + p) * 3) (tr t a) i).2.1 7 (nI a).toNatClampNeg → _)
    rw [cN (by omega), (hn_0 m0 _ _ i).2.1, h7, nI_eq (by omega) (by omega), ix90m, nI_add]
    refine ⟨vp_in_nI ha (by decide), fun z => ⟨vp_in_nI (by omega) (by decide), ?_⟩, fun z => ⟨vp_in_nI (by omega) (by decide), ?_⟩⟩
    · rw [if_neg z] at hR
      rw [nI_s, cN (by omega)]
      exact hR
    · rw [if_pos z] at hR
      rw [nI_s, cN (by omega)]
      exact hR
  · exact ⟨fun _ => hq, fun q => absurd (nI_le (a := 3) (b := 3) (by decide) (by decide)) q⟩
theorem nx_mod {t : ew_M} {p s : Nat} (hp : p < Pn t) (hs : s < Pn t) : (p + s) % Pn t = nx t p s := by
  unfold nx
  by_cases h : p + s < Pn t
  · rw [if_pos h, Nat.mod_eq_of_lt h]
  · rw [if_neg h, Nat.mod_eq_sub_mod (by omega), Nat.mod_eq_of_lt (by omega)]
theorem m_gives {t m : ew_M} (hr : RT t m) (hw : wf t) {p a : Nat} (ha : a < 5) (hp : p < Pn t) {Q : ew_M → Prop} (h : ∀ n, RT (gv t p a) n → Fr m n → Q n) : wX5_gives Q (nI p) (nI a) m := by
  obtain ⟨e1, e2⟩ := hw.P
  have e0 : m.1 0 = nI (Pn t) := by rw [hr.1.1, e1]
  refine ew_forI (Pn t - 1) (fun i x => x = nI (1 + i) ∧ ∀ n, RT (gvU t p a (Pn t - 1 - i)) n → Fr m n → Q n) (fun i R x hi hI hR => ?_) (fun R x hI => ?_) ⟨rfl, h⟩
  · obtain ⟨rfl, hq⟩ := hI
    have hs : 1 + i < Pn t := by omega
    have hk : Pn t - 1 - i = (Pn t - 2 - i) + 1 := by omega
    have hk2 : Pn t - (Pn t - 2 - i + 1) = 1 + i := by omega
    rw [hk, gvU, hk2] at hq
    have hnx := nx_lt hp hs
    have on : unr t (nx t p (1 + i)) a = false → R (nI (1 + i) + 1) := fun z => by
      rw [z, if_neg (by decide)] at hq
      refine hR _ ⟨?_, ?_⟩
      · rw [nI_s]; rfl
      · rw [show Pn t - 1 - (i + 1) = Pn t - 2 - i by omega]; exact hq
    refine ⟨fun q => ?_, fun _ => ?_⟩
    · rw [e0] at q
      exact absurd q (nI_ge (a := 1 + i) (b := Pn t) hs (by omega))
    · rw [e0, nI_add, pk_rem (by omega) (by omega) (by omega), nx_mod hp hs]
      refine ⟨nI_ne0 (by omega) (by omega), m_isBound hr hw ha (by omega) ⟨fun z => ?_, fun z => m_hasRead hr hw ha (by omega) ⟨fun z2 => ?_, fun z2 => ?_⟩⟩⟩
      · rw [bI_0] at z
        exact on (by rw [unr, z]; rfl)
      · rw [bI_0] at z2
        exact on (by rw [unr, b_nf z2]; simp)
      · rw [bI_0] at z z2
        rw [if_pos (by rw [unr, b_nf z, z2]; rfl)] at hq
        exact m_hasNowRead hr hw ha (by omega) hq
  · obtain ⟨rfl, hq⟩ := hI
    rw [Nat.sub_self] at hq
    refine ⟨fun _ => hq _ hr (Fr.rf m), fun q => ?_⟩
    rw [e0] at q
    exact absurd (nI_le (a := Pn t) (b := 1 + (Pn t - 1)) (by omega) (by omega)) q
def wr (t : ew_M) (p a : Nat) : Bool := if kd t p = 1 then true else if kd t p = 2 then tl t p a else if kd t p = 3 then !decide (t.1 4 < t.2.1 2 p) else if kd t p = 4 then (tl t p a && !decide (rs t a = 0)) else false
theorem trn_wr (t : ew_M) (p a : Nat) : trn t p a = if wr t p a = true then mk t p a else if kd t p = 5 then gv t p a else if kd t p = 6 then sy t p a else t := by
  unfold trn wr
  by_cases h1 : kd t p = 1
  · simp [h1]
  · by_cases h2 : kd t p = 2
    · simp [h2]
    · by_cases h3 : kd t p = 3
      · by_cases q : t.1 4 < t.2.1 2 p <;> simp [h3, q]
      · by_cases h4 : kd t p = 4
        · by_cases q : rs t a = 0 <;> simp [h4, q]
        · simp [h1, h2, h3, h4]
theorem m_wouldRead {t m : ew_M} (hr : RT t m) (hw : wf t) {p a : Nat} (ha : a < An t) (hp : p < 6) {Q : Int32 → Prop} (h : Q (bI (wr t p a))) : wX5_wouldRead Q (nI p) (nI a) m := by
  have hA := hw.A.2
  obtain ⟨e3, e4⟩ := (hw.2.1 p hp).1
  have e3 : t.2.1 0 p = nI (kd t p) := e3
  have e4 : kd t p < 7 := e4
  obtain ⟨e5, e6⟩ := hw.r (a := a) (by omega)
  refine ⟨vp_in_nI hp (by decide), ?_⟩
  rw [cN (by omega), cN (by omega), (hr.2.1 p hp).1, e3, hr.1.2.2.2.2, (hr.2.1 p hp).2.2.1, (hr.2.2.1 a (by omega)).2.1]
  unfold wr at h
  generalize kd t p = k at h e4 ⊢
  refine ⟨fun q => ?_, fun q => ?_⟩
  · have q : k = 1 := (nI_eq (a := k) (b := 1) (by omega) (by omega)).mp q
    subst q
    exact h
  · rw [if_neg (fun z => q (by rw [z]; rfl))] at h
    refine ⟨fun q => ?_, fun q => ?_⟩
    · have q : k = 2 := (nI_eq (a := k) (b := 2) (by omega) (by omega)).mp q
      subst q
      exact m_dares hr hw ha hp ⟨bI_nar _, h⟩
    · rw [if_neg (fun z => q (by rw [z]; rfl))] at h
      refine ⟨fun q => ?_, fun q => ?_⟩
      · have q : k = 3 := (nI_eq (a := k) (b := 3) (by omega) (by omega)).mp q
        subst q
        rw [if_pos rfl] at h
        refine ⟨vp_in_nI hp (by decide), fun q => ?_, fun q => ?_⟩
        · rw [decide_eq_true q] at h; exact h
        · rw [decide_eq_false q] at h; exact h
      · rw [if_neg (fun z => q (by rw [z]; rfl))] at h
        refine ⟨fun q => ?_, fun q => ?_⟩
        · have q : k = 4 := (nI_eq (a := k) (b := 4) (by omega) (by omega)).mp q
          subst q
          rw [if_pos rfl] at h
          refine m_dares hr hw ha hp ⟨fun z => ?_, fun z => ⟨vp_in_nI (by omega) (by decide), fun q => ?_, fun q => ?_⟩⟩
          · rw [bI_0] at z
            rw [z] at h; exact h
          · rw [e5] at q
            have q : rs t a = 0 := (nI_eq (a := rs t a) (b := 0) (by omega) (by omega)).mp q
            rw [decide_eq_true q, Bool.not_true, Bool.and_false] at h; exact h
          · rw [bI_0] at z
            rw [e5] at q
            rw [decide_eq_false (fun z => q (by rw [z]; rfl)), b_nf z] at h; exact h
        · rw [if_neg (fun z => q (by rw [z]; rfl))] at h
          exact h
theorem RT_sy {t m : ew_M} (hr : RT t m) (a : Nat) (v : Int32) : RT (ew_sA t 6 a v) (ew_sA m 9 a v) := by
  refine ⟨hr.1, hr.2.1, fun b hb => ?_, hr.2.2.2.1, hr.2.2.2.2.1, hr.2.2.2.2.2⟩
  obtain ⟨g1, g2, g3, g4, g5⟩ := hr.2.2.1 b hb
  refine ⟨g1, g2, ?_, g4, g5⟩
  by_cases e : b = a
  · subst e
    rw [sA_s, sA_s]
  · rw [sA_i e, sA_i e, g3]
theorem m_does {t m : ew_M} (hr : RT t m) (hw : wf t) {p a : Nat} (ha : a < An t) (hp : p < Pn t) {Q : ew_M → Prop} (h : ∀ n, RT (trn t p a) n → Fr m n → Q n) : wX5_does Q (nI p) (nI a) m := by
  have hA := hw.A.2
  have hP := hw.P.2
  have ha5 : a < 5 := by omega
  have hp6 : p < 6 := by omega
  obtain ⟨e3, e4⟩ := (hw.2.1 p hp6).1
  have e3 : t.2.1 0 p = nI (kd t p) := e3
  have e4 : kd t p < 7 := e4
  obtain ⟨e7, e8⟩ := hw.s ha5
  rw [trn_wr] at h
  refine m_wouldRead hr hw ha hp6 ⟨fun z => ⟨vp_in_nI hp6 (by decide), ?_⟩, fun z => ?_⟩
  · rw [bI_0] at z
    rw [z, if_neg (by decide)] at h
    rw [cN (by omega), cN (by omega), (hr.2.1 p hp6).1, e3, (hr.2.2.1 a ha5).2.2.1]
    refine ⟨fun q => ⟨vp_in_nI hp6 (by decide), fun q2 => ?_, fun q2 => ⟨vp_in_nI ha5 (by decide), vp_in_nI ha5 (by decide), ?_⟩⟩, fun q => ?_⟩
    · rw [if_neg (fun z => q (by rw [z]; rfl)), if_neg (fun z => q2 (by rw [z]; rfl))] at h
      exact h _ hr (Fr.rf m)
    · have q2 : kd t p = 6 := (nI_eq (a := kd t p) (b := 6) (by omega) (by omega)).mp q2
      rw [if_neg (by omega), if_pos q2] at h
      rw [e7, bt_or _ e8 p hp6]
      exact h _ (RT_sy hr a _) (Fr.a9 m a _)
    · have q : kd t p = 5 := (nI_eq (a := kd t p) (b := 5) (by omega) (by omega)).mp q
      rw [if_pos q] at h
      exact m_gives hr hw ha5 hp h
  · rw [bI_0] at z
    rw [if_pos (b_nf z)] at h
    exact m_hasNowRead hr hw ha5 hp6 h
