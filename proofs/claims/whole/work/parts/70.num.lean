/-! NUMBERS: small naturals in ints, sets of persons as bits, loops that count -/
def pcU (n : Nat) : Nat → Nat
  | 0 => 0
  | i + 1 => pcU n i + n / 2 ^ i % 2
def pc (n : Nat) : Nat := pcU n 6
def cl (x : Int32) : Nat := x.toNatClampNeg
def isN (x : Int32) (n : Nat) : Prop := x = nI (cl x) ∧ cl x < n
theorem cl_nI {n : Nat} (h : n < 2 ^ 31) : cl (nI n) = n := nI_clamp h
theorem isN_of {n m : Nat} (h : n < m) (hm : m ≤ 2 ^ 31) : isN (nI n) m := ⟨by rw [cl_nI (by omega)], by rw [cl_nI (by omega)]; exact h⟩
theorem isN_mono {x : Int32} {n m : Nat} (h : isN x n) (hm : n ≤ m) : isN x m := ⟨h.1, Nat.lt_of_lt_of_le h.2 hm⟩
theorem ew_for {α : Type} {B : (α → Prop) → α → Prop} (n : Nat) (x : Nat → α) (hs : ∀ (i : Nat) (R : α → Prop), i < n → R (x (i + 1)) → B R (x i)) (he : ∀ R : α → Prop, B R (x n)) : ew_lp B (x 0) := by
  refine ew_lpi (n := n) (I := fun k y => k ≤ n ∧ y = x (n - k)) (fun k R y hI hR => ?_) ⟨Nat.le_refl n, by rw [Nat.sub_self]⟩
  obtain ⟨hk, rfl⟩ := hI
  rcases Nat.eq_zero_or_pos k with h0 | h0
  · subst h0
    exact he R
  · refine hs (n - k) R (by omega) (hR (k - 1) _ (by omega) ⟨by omega, ?_⟩)
    rw [show n - (k - 1) = n - k + 1 by omega]
theorem ew_forI {α : Type} {B : (α → Prop) → α → Prop} (n : Nat) (I : Nat → α → Prop) (hs : ∀ (i : Nat) (R : α → Prop) (x : α), i < n → I i x → (∀ y, I (i + 1) y → R y) → B R x) (he : ∀ (R : α → Prop) (x : α), I n x → B R x) {x : α} (h0 : I 0 x) : ew_lp B x := by
  refine ew_lpi (n := n) (I := fun k y => k ≤ n ∧ I (n - k) y) (fun k R y hI hR => ?_) ⟨Nat.le_refl n, by rw [Nat.sub_self]; exact h0⟩
  obtain ⟨hk, hI⟩ := hI
  rcases Nat.eq_zero_or_pos k with h1 | h1
  · subst h1
    exact he R y hI
  · refine hs (n - k) R y (by omega) hI (fun z hz => hR (k - 1) z (by omega) ⟨by omega, ?_⟩)
    rw [show n - (k - 1) = n - k + 1 by omega]
    exact hz
/-- bits, by trying all -/
theorem bt_sh : ∀ n, n < 64 → ∀ p, p < 10 → (nI n >>> (nI p &&& 31)) &&& 1 = nI (n / 2 ^ p % 2) := by decide +kernel
theorem bt_tb (n p : Nat) : n / 2 ^ p % 2 = if n.testBit p then 1 else 0 := by
  rw [Nat.testBit_eq_decide_div_mod_eq]
  have h := Nat.mod_two_eq_zero_or_one (n / 2 ^ p)
  rcases h with h | h <;> simp [h]
theorem bt_1 {n p : Nat} (hn : n < 64) (hp : p < 10) : ((nI n >>> (nI p &&& 31)) &&& 1 = 1) ↔ n.testBit p = true := by
  rw [bt_sh n hn p hp, bt_tb]
  cases n.testBit p <;> decide
theorem bt_0 {n p : Nat} (hn : n < 64) (hp : p < 10) : ((nI n >>> (nI p &&& 31)) &&& 1 = 0) ↔ n.testBit p = false := by
  rw [bt_sh n hn p hp, bt_tb]
  cases n.testBit p <;> decide
theorem bt_or : ∀ n, n < 64 → ∀ p, p < 6 → nI n ||| ((1 : Int32) <<< (nI p &&& 31)) = nI (n ||| 2 ^ p) := by decide +kernel
theorem bt_or_lt : ∀ n, n < 64 → ∀ p, p < 6 → n ||| 2 ^ p < 64 := by decide +kernel
theorem bt_andn : ∀ b, b < 64 → ∀ r, r < 64 → nI b &&& (nI r ^^^ (-1)) = nI (b &&& (63 ^^^ r)) := by decide +kernel
theorem bt_and_lt : ∀ b, b < 64 → ∀ r, r < 64 → b &&& (63 ^^^ r) < 64 := by decide +kernel
theorem bt_and_tb : ∀ b, b < 64 → ∀ r, r < 64 → ∀ p, p < 10 → (b &&& (63 ^^^ r)).testBit p = (b.testBit p && !r.testBit p) := by
  intro b hb r hr p hp
  rw [Nat.testBit_and, Nat.testBit_xor]
  rcases (show p = 0 ∨ p = 1 ∨ p = 2 ∨ p = 3 ∨ p = 4 ∨ p = 5 ∨ 6 ≤ p by omega) with h | h | h | h | h | h | h
  · subst h; cases b.testBit 0 <;> cases r.testBit 0 <;> rfl
  · subst h; cases b.testBit 1 <;> cases r.testBit 1 <;> rfl
  · subst h; cases b.testBit 2 <;> cases r.testBit 2 <;> rfl
  · subst h; cases b.testBit 3 <;> cases r.testBit 3 <;> rfl
  · subst h; cases b.testBit 4 <;> cases r.testBit 4 <;> rfl
  · subst h; cases b.testBit 5 <;> cases r.testBit 5 <;> rfl
  · have e : b.testBit p = false := Nat.testBit_lt_two_pow (Nat.lt_of_lt_of_le hb (Nat.le_trans (by decide : 64 ≤ 2 ^ 6) (Nat.pow_le_pow_right (by decide : 2 > 0) h)))
    rw [e]; rfl
theorem pcU_step : ∀ n, n < 64 → ∀ i, i < 6 → nI (pcU n i) + ((nI n >>> (nI i &&& 31)) &&& 1) = nI (pcU n (i + 1)) := by decide +kernel
theorem pc_le : ∀ n, n < 64 → pc n ≤ 6 := by decide +kernel
theorem nI_s (n : Nat) : nI n + 1 = nI (n + 1) := nI_1 n
/-- ones(set) -/
theorem m_ones {n : Nat} (hn : n < 64) {Q : Int32 → Prop} (h : Q (nI (pc n))) : wX5_ones Q (nI n) := by
  refine ew_for 6 (fun i => (nI (pcU n i), nI i)) (fun i R hi hR => ?_) (fun R => ?_)
  · refine ⟨fun q => absurd q (nI_ge (a := i) (b := 6) hi (by decide)), fun _ => ?_⟩
    rw [pcU_step n hn i hi, nI_s]
    exact hR
  · exact ⟨fun _ => h, fun q => absurd (nI_le (a := 6) (b := 6) (by decide) (by decide)) q⟩
/-- Integer.bitCount -/
def bc1 (x : Int32) : Int32 := x - (((x.toUInt32 >>> ((1 : Int32).toUInt32 &&& Int32.toUInt32 31)).toInt32) &&& (1431655765 : Int32))
def bc2 (x : Int32) : Int32 := ((bc1 x) &&& (858993459 : Int32)) + ((((bc1 x).toUInt32 >>> ((2 : Int32).toUInt32 &&& Int32.toUInt32 31)).toInt32) &&& (858993459 : Int32))
def bc3 (x : Int32) : Int32 := (bc2 x + (((bc2 x).toUInt32 >>> ((4 : Int32).toUInt32 &&& Int32.toUInt32 31)).toInt32)) &&& (252645135 : Int32)
def bc4 (x : Int32) : Int32 := bc3 x + ((bc3 x).toUInt32 >>> ((8 : Int32).toUInt32 &&& Int32.toUInt32 31)).toInt32
def bc5 (x : Int32) : Int32 := (bc4 x + ((bc4 x).toUInt32 >>> ((16 : Int32).toUInt32 &&& Int32.toUInt32 31)).toInt32) &&& (63 : Int32)
theorem bc5_pc : ∀ n, n < 64 → bc5 (nI n) = nI (pc n) := by decide +kernel
theorem j_bc {n : Nat} (hn : n < 64) {Q : Int32 → Prop} (h : Q (nI (pc n))) : wJ6_bitCount_0f7a4 Q (nI n) := by
  rw [← bc5_pc n hn] at h
  intro y1 e1 y2 e2 y3 e3 y4 e4
  subst e1
  subst e2
  subst e3
  subst e4
  exact h
/-- in(v, low, high) -/
theorem m_in {x y z : Int32} {Q : Int32 → Prop} (h : Q (if x < y ∨ z < x then 0 else 1)) : wX5_in Q x y z := by
  refine ⟨fun q => ?_, fun q => ⟨fun q2 => ?_, fun q2 => ?_⟩⟩
  · rw [if_pos (Or.inl q)] at h; exact h
  · rw [if_pos (Or.inr q2)] at h; exact h
  · rw [if_neg (fun z => z.elim q q2)] at h; exact h
/-- by how many of the bound having read it is in force -/
def fo (l n c : Nat) : Bool := if l = 0 then decide (c < n) else if l = 1 then decide (c < 1) else if l = 2 then decide (2 * c ≤ n) else if l = 3 then decide (c < min n 2) else true
def bI (b : Bool) : Int32 := if b then 1 else 0
theorem b_nf {b : Bool} (h : ¬ b = false) : b = true := by cases b with
  | false => exact absurd rfl h
  | true => rfl
theorem b_nt {b : Bool} (h : ¬ b = true) : b = false := by cases b with
  | false => rfl
  | true => exact absurd rfl h
theorem bI_nar (b : Bool) : narrow .boolean (.int (bI b)) = .int (bI b) := by cases b <;> rfl
theorem bI_0 (b : Bool) : bI b = 0 ↔ b = false := by cases b <;> decide
theorem bI_1 (b : Bool) : bI b = 1 ↔ b = true := by cases b <;> decide
