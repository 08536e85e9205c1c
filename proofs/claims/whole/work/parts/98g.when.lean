/-! when: the class's weeks in mind, one reading at week d -/
def rx (p k d i : Nat) (u : ew_M) : ew_M := if i = d ∧ canR u p k = true then mk u p k else u
def ri (t : ew_M) (p k d : Nat) : Nat → ew_M
  | 0 => t
  | i + 1 => wk1 (passP (nI p) k (rx p k d i (ri t p k d i)))
def rsm (t : ew_M) (p k d : Nat) : Nat → Int32
  | 0 => 0
  | i + 1 => rsm t p k d i + flg (nI p) k (rx p k d i (ri t p k d i))
theorem rx_wf {u : ew_M} (hw : wf u) {p k : Nat} (hp : p < 6) (hk : k < An u) (d i : Nat) : wf (rx p k d i u) ∧ An (rx p k d i u) = An u := by
  unfold rx
  split
  · rename_i q
    have q2 := q.2
    rw [canR, Bool.and_eq_true] at q2
    exact ⟨wf_mk hw hk hp q2.1, rfl⟩
  · exact ⟨hw, rfl⟩
theorem ri_wf {t : ew_M} (hw : wf t) {p k : Nat} (hp : p < 6) (hk : k < An t) (d : Nat) : ∀ n, wf (ri t p k d n) ∧ An (ri t p k d n) = An t
  | 0 => ⟨hw, rfl⟩
  | n + 1 => by
    obtain ⟨h1, h2⟩ := ri_wf hw hp hk d n
    obtain ⟨g1, g2⟩ := rx_wf (u := ri t p k d n) h1 hp (show k < An (ri t p k d n) from h2 ▸ hk) d n
    show wf (wk1 (passP (nI p) k (rx p k d n (ri t p k d n)))) ∧ An (wk1 (passP (nI p) k (rx p k d n (ri t p k d n)))) = An t
    have hk2 : k < An (rx p k d n (ri t p k d n)) := by rw [g2, h2]; exact hk
    refine ⟨wf_w (wf_passP g1 hk2) _, ?_⟩
    unfold An
    rw [wk1_1 _ _ (by decide), passP_1]
    exact g2.trans h2
theorem p_lastsIf {t s2 s3 s4 : ew_M} (hw : wf t) {p k n d : Nat} (hp : p < 6) (hk : k < An t) (hn : n ≤ 100) (hd : d ≤ 100) {Q : Int32 → ew_M → Prop} (h : ∀ u, Q (rsm t p k d n) u) : wX1_lastsIfReadAt Q (nI p) (nI k) (nI n) (nI d) t s2 s3 s4 := by
  have hA := hw.A.2
  refine ew_for n (fun i => (rsm t p k d i, nI i, ri t p k d i)) (fun i R hi hR => ?_) (fun R => ?_)
  · obtain ⟨w1, w2⟩ := ri_wf hw hp hk d i
    obtain ⟨g1, g2⟩ := rx_wf w1 hp (show k < An (ri t p k d i) by omega) d i
    have hR : R (rsm t p k d i + flg (nI p) k (rx p k d i (ri t p k d i)), nI (i + 1), wk1 (passP (nI p) k (rx p k d i (ri t p k d i)))) := hR
    rw [← nI_s] at hR
    have go : ∀ v, v = rx p k d i (ri t p k d i) → wX1_lastsIfReadAt_51 R Q (nI p) (nI k) (nI n) (nI d) (rsm t p k d i) (nI i) t v s3 s4 := fun v e => by
      subst e
      exact p_passPaper g1 (idle := nI p) (by omega) hR
    refine ⟨fun q => absurd q (nI_ge hi (by omega)), fun _ => ⟨fun q => go _ ?_, fun q => p_canRead w1 (by omega) (by omega) ⟨fun z => go _ ?_, fun z => p_markRead w1 (by omega) hp (go _ ?_)⟩⟩⟩
    · rw [nI_eq (by omega) (by omega)] at q
      unfold rx
      rw [if_neg (fun z => q z.1)]
    · rw [bI_0] at z
      unfold rx
      rw [if_neg (fun y => by rw [z] at y; exact absurd y.2 (by decide))]
    · rw [nI_eq (by omega) (by omega)] at q
      have z : canR (ri t p k d i) p k = true := b_nf (fun e => z ((bI_0 _).mpr e))
      unfold rx
      rw [if_pos ⟨q, z⟩]
  · exact ⟨fun _ => h _, fun q => absurd (nI_le (Nat.le_refl n) (by omega)) q⟩
