/-! what one thinks, and a turn -/
def wO (t : ew_M) (p a k : Nat) : Int64 := if (rs t a).testBit p = true then (if k = tr t a then 1 else 0) else t.2.2 0 ((a * 6 + p) * 3 + k)
theorem ix90 (a p k : Nat) : (nI a * (6 : Int32) + nI p) * (3 : Int32) + nI k = nI ((a * 6 + p) * 3 + k) := by
  rw [show (6 : Int32) = nI 6 from rfl, show (3 : Int32) = nI 3 from rfl, pk_mul, nI_add, pk_mul, nI_add]
theorem ix15 (a k : Nat) : nI a * (3 : Int32) + nI k = nI (a * 3 + k) := by
  rw [show (3 : Int32) = nI 3 from rfl, pk_mul, nI_add]
theorem p_weightOf {t : ew_M} (hw : wf t) {p a k : Nat} (ha : a < 5) (hp : p < 6) (hk : k < 3) {Q : Int64 → Prop} (h : Q (wO t p a k)) : wX3_weightOf Q (nI p) (nI a) (nI k) t := by
  obtain ⟨e1, e2⟩ := hw.r ha
  obtain ⟨e3, e4⟩ := hw.t ha
  refine ⟨vp_in_nI ha (by decide), ?_⟩
  rw [cN (by omega), e1, ix90]
  refine ⟨fun q => ⟨vp_in_nI (by omega) (by decide), ?_⟩, fun q => ⟨vp_in_nI ha (by decide), ?_⟩⟩
  · rw [bt_0 e2 (by omega)] at q
    rw [cN (by omega)]
    rw [wO, if_neg (by rw [q]; decide)] at h
    exact h
  · rw [bt_0 e2 (by omega)] at q
    rw [wO, if_pos (b_nf q)] at h
    rw [e3]
    refine ⟨fun q2 => ?_, fun q2 => ?_⟩
    · rw [nI_eq (by omega) (by omega)] at q2
      rw [if_neg q2] at h; exact h
    · rw [nI_eq (by omega) (by omega)] at q2
      rw [if_pos q2] at h; exact h
def tAU (t : ew_M) (p a : Nat) : Nat → Int64
  | 0 => 0
  | i + 1 => tAU t p a i + wO t p a i * (t.2.1 10 (a * 3 + i)).toInt64
def tA (t : ew_M) (p a : Nat) : Int64 := tAU t p a 3
def tBU (t : ew_M) (p a : Nat) : Nat → Int64
  | 0 => 0
  | i + 1 => tBU t p a i + wO t p a i
def tB (t : ew_M) (p a : Nat) : Int64 := tBU t p a 3
theorem le3 {i : Nat} : ((3 : Int32) ≤ nI i) = (nI 3 ≤ nI i) := rfl
theorem p_thinkAbove {t : ew_M} (hw : wf t) {p a : Nat} (ha : a < 5) (hp : p < 6) {Q : Int64 → Prop} (h : Q (tA t p a)) : wX3_thinkAbove Q (nI p) (nI a) t := by
  refine ew_for 3 (fun i => (tAU t p a i, nI i)) (fun i R hi hR => ?_) (fun R => ?_)
  · refine ⟨fun q => absurd q (nI_ge (a := i) (b := 3) hi (by decide)), fun _ => p_weightOf hw ha hp hi ?_⟩
    show vp_in (nI a * (3 : Int32) + nI i) 15 ∧ _
    rw [ix15]
    refine ⟨vp_in_nI (by omega) (by decide), ?_⟩
    rw [cN (by omega), nI_s]
    exact hR
  · exact ⟨fun _ => h, fun q => absurd (nI_le (a := 3) (b := 3) (by decide) (by decide)) q⟩
theorem p_thinkBelow {t : ew_M} (hw : wf t) {p a : Nat} (ha : a < 5) (hp : p < 6) {Q : Int64 → Prop} (h : Q (tB t p a)) : wX3_thinkBelow Q (nI p) (nI a) t := by
  refine ew_for 3 (fun i => (tBU t p a i, nI i)) (fun i R hi hR => ?_) (fun R => ?_)
  · refine ⟨fun q => absurd q (nI_ge (a := i) (b := 3) hi (by decide)), fun _ => p_weightOf hw ha hp hi ?_⟩
    show R (tBU t p a i + wO t p a i, nI i + 1)
    rw [nI_s]
    exact hR
  · exact ⟨fun _ => h, fun q => absurd (nI_le (a := 3) (b := 3) (by decide) (by decide)) q⟩
def tl (t : ew_M) (p a : Nat) : Bool := decide (tA t p a < (t.2.1 1 p - 4).toInt64 * tB t p a)
theorem p_thinksLess {t : ew_M} (hw : wf t) {p a : Nat} (ha : a < 5) (hp : p < 6) {Q : Int32 → Prop} (h : Q (bI (tl t p a))) : wX3_thinksLess Q (nI p) (nI a) t := by
  refine p_thinkAbove hw ha hp ⟨vp_in_nI hp (by decide), p_thinkBelow hw ha hp ?_⟩
  rw [cN (by omega)]
  refine ⟨fun q => ?_, fun q => ?_⟩
  · rw [lg_cmp_ge] at q
    rw [tl, decide_eq_false (Int64.not_lt.mpr q)] at h; exact h
  · rw [lg_cmp_ge] at q
    rw [tl, decide_eq_true (Int64.not_le.mp q)] at h; exact h
def nx (t : ew_M) (p s : Nat) : Nat := if p + s < Pn t then p + s else p + s - Pn t
def gvU (t : ew_M) (p a : Nat) : Nat → ew_M
  | 0 => t
  | k + 1 => if unr t (nx t p (Pn t - (k + 1))) a = true then mk t (nx t p (Pn t - (k + 1))) a else gvU t p a k
def gv (t : ew_M) (p a : Nat) : ew_M := gvU t p a (Pn t - 1)
theorem nx_lt {t : ew_M} {p s : Nat} (hp : p < Pn t) (hs : s < Pn t) : nx t p s < Pn t := by
  unfold nx
  by_cases h : p + s < Pn t
  · rw [if_pos h]; exact h
  · rw [if_neg h]; omega
theorem p_give {t : ew_M} (hw : wf t) {p a : Nat} (ha : a < 5) (hp : p < Pn t) {Q : ew_M → Prop} (h : Q (gv t p a)) : wX3_give Q (nI p) (nI a) t := by
  obtain ⟨e1, e2⟩ := hw.P
  refine ew_forI (Pn t - 1) (fun i x => x = nI (1 + i) ∧ Q (gvU t p a (Pn t - 1 - i))) (fun i R x hi hI hR => ?_) (fun R x hI => ?_) ⟨rfl, h⟩
  · obtain ⟨rfl, hq⟩ := hI
    have hs : 1 + i < Pn t := by omega
    have hk : Pn t - 1 - i = (Pn t - 2 - i) + 1 := by omega
    have hk2 : Pn t - (Pn t - 2 - i + 1) = 1 + i := by omega
    rw [hk, gvU, hk2] at hq
    have key : ∀ q : Nat, q = nx t p (1 + i) → wX3_give_34 R Q (nI p) (nI a) (nI (1 + i)) (nI q) t := by
      intro q e
      subst e
      have hn := nx_lt hp hs
      refine p_isUnread hw ha (by omega) ⟨fun z => ?_, fun z => ?_⟩
      · rw [bI_0] at z
        rw [z, if_neg (by decide)] at hq
        refine hR _ ⟨?_, ?_⟩
        · rw [nI_s]; rfl
        · rw [show Pn t - 1 - (i + 1) = Pn t - 2 - i by omega]; exact hq
      · rw [bI_0] at z
        rw [if_pos (b_nf z)] at hq
        exact p_markRead hw ha (by omega) hq
    refine ⟨fun q => ?_, fun _ => ⟨fun q => ?_, fun q => ?_⟩⟩
    · rw [e1] at q
      exact absurd q (nI_ge (a := 1 + i) (b := Pn t) hs (by omega))
    · rw [e1, nI_add, nI_leI (by omega) (by omega)] at q
      rw [e1, nI_add, pk_sub q]
      exact key _ (by unfold nx; rw [if_neg (by omega)])
    · rw [e1, nI_add, nI_leI (by omega) (by omega)] at q
      rw [nI_add]
      exact key _ (by unfold nx; rw [if_pos (by omega)])
  · obtain ⟨rfl, hq⟩ := hI
    rw [Nat.sub_self] at hq
    refine ⟨fun _ => hq, fun q => ?_⟩
    rw [e1] at q
    exact absurd (nI_le (a := Pn t) (b := 1 + (Pn t - 1)) (by omega) (by omega)) q
def kd (t : ew_M) (p : Nat) : Nat := cl (t.2.1 0 p)
def sy (t : ew_M) (p a : Nat) : ew_M := ew_sA t 6 a (nI (ss t a ||| 2 ^ p))
def trn (t : ew_M) (p a : Nat) : ew_M :=
  if kd t p = 1 then mk t p a else if kd t p = 2 then (if tl t p a = true then mk t p a else t) else if kd t p = 3 then (if t.1 4 < t.2.1 2 p then t else mk t p a)
  else if kd t p = 4 then (if rs t a = 0 then t else if tl t p a = true then mk t p a else t) else if kd t p = 5 then gv t p a else if kd t p = 6 then sy t p a else t
theorem p_turn136 {t : ew_M} (hw : wf t) {p a : Nat} (ha : a < 5) (hp : p < 6) {Q : ew_M → Prop} (b : Bool) (h : Q (if b = true then mk t p a else t)) : wX3_takeTurn_136 Q (nI p) (nI a) (bI b) t := by
  refine ⟨fun q => ?_, fun q => ?_⟩
  · rw [bI_0] at q; rw [q, if_neg (by decide)] at h; exact h
  · rw [bI_0] at q
    rw [if_pos (b_nf q)] at h
    exact p_markRead hw ha hp h
theorem p_takeTurn {t : ew_M} (hw : wf t) {p a : Nat} (ha : a < 5) (hp : p < Pn t) {Q : ew_M → Prop} (h : Q (trn t p a)) : wX3_takeTurn Q (nI p) (nI a) t := by
  obtain ⟨e1, e2⟩ := hw.P
  have hp6 : p < 6 := by omega
  obtain ⟨e3, e4⟩ := (hw.2.1 p hp6).1
  have e3 : t.2.1 0 p = nI (kd t p) := e3
  have e4 : kd t p < 7 := e4
  obtain ⟨e5, e6⟩ := hw.r ha
  obtain ⟨e7, e8⟩ := hw.s ha
  refine ⟨vp_in_nI hp6 (by decide), ?_⟩
  rw [cN (by omega), cN (by omega), e3]
  unfold trn at h
  generalize kd t p = k at h e4 ⊢
  have no : ∀ j : Nat, j < 7 → k ≠ j → ¬ nI k = nI j := fun j hj hk q => hk ((nI_eq (by omega) (by omega)).mp q)
  have z0 : ∀ x : ew_M, Q x → wX3_takeTurn_136 Q (nI p) (nI a) 0 x := fun x hx => ⟨fun _ => hx, fun q => absurd rfl q⟩
  refine ⟨fun q => ?_, fun q => ?_⟩
  · have q : k = 1 := (nI_eq (a := k) (b := 1) (by omega) (by omega)).mp q
    subst q
    exact p_turn136 hw ha hp6 true h
  · rw [if_neg (fun z => q (by rw [z]; rfl))] at h
    refine ⟨fun q => ?_, fun q => ?_⟩
    · have q : k = 2 := (nI_eq (a := k) (b := 2) (by omega) (by omega)).mp q
      subst q
      exact p_thinksLess hw ha hp6 (p_turn136 hw ha hp6 _ h)
    · rw [if_neg (fun z => q (by rw [z]; rfl))] at h
      refine ⟨fun q => ?_, fun q => ?_⟩
      · have q : k = 3 := (nI_eq (a := k) (b := 3) (by omega) (by omega)).mp q
        subst q
        refine ⟨vp_in_nI hp6 (by decide), fun q => ?_, fun q => ?_⟩
        · rw [if_pos rfl, if_pos q] at h
          exact p_turn136 hw ha hp6 false h
        · rw [if_pos rfl, if_neg q] at h
          exact p_turn136 hw ha hp6 true h
      · rw [if_neg (fun z => q (by rw [z]; rfl))] at h
        refine ⟨fun q => ?_, fun q => ?_⟩
        · have q : k = 4 := (nI_eq (a := k) (b := 4) (by omega) (by omega)).mp q
          subst q
          rw [if_pos rfl] at h
          refine ⟨vp_in_nI ha (by decide), fun q => ?_, fun q => ?_⟩
          · rw [e5] at q
            have q : rs t a = 0 := (nI_eq (a := rs t a) (b := 0) (by omega) (by omega)).mp q
            rw [if_pos q] at h
            exact p_turn136 hw ha hp6 false h
          · rw [e5] at q
            rw [if_neg (fun z => q (by rw [z]; rfl))] at h
            refine p_thinksLess hw ha hp6 ⟨fun z => ?_, fun z => ?_⟩
            · rw [bI_0] at z
              rw [z, if_neg (by decide)] at h
              exact p_turn136 hw ha hp6 false h
            · rw [bI_0] at z
              rw [if_pos (b_nf z)] at h
              exact p_turn136 hw ha hp6 true h
        · rw [if_neg (fun z => q (by rw [z]; rfl))] at h
          refine ⟨fun q => ?_, fun q => ?_⟩
          · have q : k = 5 := (nI_eq (a := k) (b := 5) (by omega) (by omega)).mp q
            subst q
            rw [if_pos rfl] at h
            exact p_give hw ha hp (z0 _ h)
          · rw [if_neg (fun z => q (by rw [z]; rfl))] at h
            refine ⟨fun q => ?_, fun q => ?_⟩
            · have q : k = 6 := (nI_eq (a := k) (b := 6) (by omega) (by omega)).mp q
              subst q
              rw [if_pos rfl] at h
              refine ⟨vp_in_nI ha (by decide), vp_in_nI ha (by decide), ?_⟩
              rw [e7, bt_or _ e8 p hp6]
              exact z0 _ h
            · rw [if_neg (fun z => q (by rw [z]; rfl))] at h
              exact z0 _ h
