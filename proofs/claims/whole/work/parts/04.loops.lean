/-- loops: a body over what it goes on with -/
def ew_it {α : Type} (B : (α → Prop) → α → Prop) : Nat → α → Prop
  | 0, _ => False
  | n + 1, a => B (ew_it B n) a
def ew_lp {α : Type} (B : (α → Prop) → α → Prop) (x : α) : Prop := ∃ n, ew_it B n x
theorem ew_ind {α : Type} {B : (α → Prop) → α → Prop} {P : α → Prop} (hs : ∀ (R : α → Prop), (∀ x, R x → P x) → ∀ x, B R x → P x) {x : α} (h : ew_lp B x) : P x := by
  obtain ⟨n, h⟩ := h
  induction n generalizing x with
  | zero => exact h.elim
  | succ n ih => exact hs (ew_it B n) (fun y hy => ih hy) x h
theorem ew_lpi {α : Type} {B : (α → Prop) → α → Prop} (I : Nat → α → Prop) (hs : ∀ (n : Nat) (R : α → Prop) (x : α), I n x → (∀ (k : Nat) (y : α), k < n → I k y → R y) → B R x) {n : Nat} {x : α} (h : I n x) : ew_lp B x := by
  refine ⟨n + 1, ?_⟩
  have key : ∀ (m n : Nat) (x : α), n < m → I n x → ew_it B m x := by
    intro m
    induction m with
    | zero => intro n x h1; omega
    | succ m ih => intro n x h1 h2; exact hs n (ew_it B m) x h2 (fun k y h3 h4 => ih k y (by omega) h4)
  exact key (n + 1) n x (by omega) h
/-- numbers that the code speaks of -/
theorem ec_m1 : Int32.ofInt (-1) = (-1 : Int32) := by decide
theorem ec_0 : Int32.ofInt 0 = (0 : Int32) := by decide
theorem ec_1 : Int32.ofInt 1 = (1 : Int32) := by decide
theorem ec_2 : Int32.ofInt 2 = (2 : Int32) := by decide
theorem ec_3 : Int32.ofInt 3 = (3 : Int32) := by decide
theorem ec_4 : Int32.ofInt 4 = (4 : Int32) := by decide
theorem ec_5 : Int32.ofInt 5 = (5 : Int32) := by decide
theorem eb_m9 : (Int8.ofInt (-9)).toInt32 = (-9 : Int32) := by decide
theorem eb_m6 : (Int8.ofInt (-6)).toInt32 = (-6 : Int32) := by decide
theorem eb_m4 : (Int8.ofInt (-4)).toInt32 = (-4 : Int32) := by decide
theorem eb_m3 : (Int8.ofInt (-3)).toInt32 = (-3 : Int32) := by decide
theorem eb_m2 : (Int8.ofInt (-2)).toInt32 = (-2 : Int32) := by decide
theorem eb_6 : (Int8.ofInt 6).toInt32 = (6 : Int32) := by decide
theorem eb_7 : (Int8.ofInt 7).toInt32 = (7 : Int32) := by decide
theorem eb_8 : (Int8.ofInt 8).toInt32 = (8 : Int32) := by decide
theorem eb_9 : (Int8.ofInt 9).toInt32 = (9 : Int32) := by decide
theorem eb_10 : (Int8.ofInt 10).toInt32 = (10 : Int32) := by decide
theorem eb_11 : (Int8.ofInt 11).toInt32 = (11 : Int32) := by decide
theorem eb_12 : (Int8.ofInt 12).toInt32 = (12 : Int32) := by decide
theorem eb_15 : (Int8.ofInt 15).toInt32 = (15 : Int32) := by decide
theorem eb_16 : (Int8.ofInt 16).toInt32 = (16 : Int32) := by decide
theorem eb_20 : (Int8.ofInt 20).toInt32 = (20 : Int32) := by decide
theorem eb_30 : (Int8.ofInt 30).toInt32 = (30 : Int32) := by decide
theorem eb_44 : (Int8.ofInt 44).toInt32 = (44 : Int32) := by decide
theorem eb_48 : (Int8.ofInt 48).toInt32 = (48 : Int32) := by decide
theorem eb_57 : (Int8.ofInt 57).toInt32 = (57 : Int32) := by decide
theorem eb_58 : (Int8.ofInt 58).toInt32 = (58 : Int32) := by decide
theorem eb_59 : (Int8.ofInt 59).toInt32 = (59 : Int32) := by decide
theorem eb_60 : (Int8.ofInt 60).toInt32 = (60 : Int32) := by decide
theorem eb_63 : (Int8.ofInt 63).toInt32 = (63 : Int32) := by decide
theorem eb_64 : (Int8.ofInt 64).toInt32 = (64 : Int32) := by decide
theorem eb_90 : (Int8.ofInt 90).toInt32 = (90 : Int32) := by decide
theorem eb_97 : (Int8.ofInt 97).toInt32 = (97 : Int32) := by decide
theorem eb_98 : (Int8.ofInt 98).toInt32 = (98 : Int32) := by decide
theorem eb_99 : (Int8.ofInt 99).toInt32 = (99 : Int32) := by decide
theorem eb_100 : (Int8.ofInt 100).toInt32 = (100 : Int32) := by decide
theorem eb_101 : (Int8.ofInt 101).toInt32 = (101 : Int32) := by decide
theorem eb_103 : (Int8.ofInt 103).toInt32 = (103 : Int32) := by decide
theorem eb_108 : (Int8.ofInt 108).toInt32 = (108 : Int32) := by decide
theorem eb_112 : (Int8.ofInt 112).toInt32 = (112 : Int32) := by decide
theorem eb_115 : (Int8.ofInt 115).toInt32 = (115 : Int32) := by decide
theorem eb_116 : (Int8.ofInt 116).toInt32 = (116 : Int32) := by decide
theorem eb_119 : (Int8.ofInt 119).toInt32 = (119 : Int32) := by decide
theorem es_m2000 : (Int16.ofInt (-2000)).toInt32 = (-2000 : Int32) := by decide
theorem es_m1000 : (Int16.ofInt (-1000)).toInt32 = (-1000 : Int32) := by decide
theorem es_255 : (Int16.ofInt 255).toInt32 = (255 : Int32) := by decide
theorem es_256 : (Int16.ofInt 256).toInt32 = (256 : Int32) := by decide
theorem es_1000 : (Int16.ofInt 1000).toInt32 = (1000 : Int32) := by decide
theorem ei_1 (x : Int32) : x + Int32.ofInt 1 = x + (1 : Int32) := by rw [show Int32.ofInt 1 = (1 : Int32) by decide]
theorem ek_0 : (0 : Int32).toNatClampNeg = 0 := by decide
theorem ek_5 : (5 : Int32).toNatClampNeg = 5 := by decide
theorem ek_6 : (6 : Int32).toNatClampNeg = 6 := by decide
theorem ek_15 : (15 : Int32).toNatClampNeg = 15 := by decide
theorem ek_30 : (30 : Int32).toNatClampNeg = 30 := by decide
theorem ek_90 : (90 : Int32).toNatClampNeg = 90 := by decide
theorem ez_t0 : (0 : Int32).toInt = 0 := by decide
theorem ez_t1 : (1 : Int32).toInt = 1 := by decide
theorem ez_t2 : (2 : Int32).toInt = 2 := by decide
theorem ez_t3 : (3 : Int32).toInt = 3 := by decide
theorem ez_t4 : (4 : Int32).toInt = 4 := by decide
theorem ez_t5 : (5 : Int32).toInt = 5 := by decide
theorem ez_t6 : (6 : Int32).toInt = 6 := by decide
theorem ez_t7 : (7 : Int32).toInt = 7 := by decide
theorem ez_t97 : (97 : Int32).toInt = 97 := by decide
theorem ez_t99 : (99 : Int32).toInt = 99 := by decide
theorem ez_t108 : (108 : Int32).toInt = 108 := by decide
theorem ez_t112 : (112 : Int32).toInt = 112 := by decide
theorem el_0 : Int64.ofNat ((0 : Fin 2) : Nat) = (0 : Int64) := by decide
theorem el_1 : Int64.ofNat ((1 : Fin 2) : Nat) = (1 : Int64) := by decide
