/-! THE WORLD: every cell of class and reference, by its role; a state of numbers -/
abbrev ew_M : Type := (Nat → Int32) × (Nat → Nat → Int32) × (Nat → Nat → Int64)
def ew_sI (M : ew_M) (i : Nat) (v : Int32) : ew_M := (upd M.1 i v, M.2.1, M.2.2)
def ew_sA (M : ew_M) (a i : Nat) (v : Int32) : ew_M := (M.1, fun b => if b = a then upd (M.2.1 a) i v else M.2.1 b, M.2.2)
def ew_sW (M : ew_M) (a i : Nat) (v : Int64) : ew_M := (M.1, M.2.1, fun b => if b = a then vp_updL (M.2.2 a) i v else M.2.2 b)
/-- a group: how many objects, int arrays, long arrays; the objects (number of the class, fields); the arrays' lengths, by place -/
abbrev ew_G : Type := (Nat × Nat × Nat) × ((Nat → Int32) → (Nat → Nat → Int64) → Nat → Nat × List Value) × (Nat → Nat)
def ew_gc (cI cJ : Nat) (G : ew_G) (M : ew_M) (j : Nat) : va_E :=
  if j < G.1.1 then .inr (G.2.1 M.1 M.2.2 j) else if j < G.1.1 + G.1.2.1 then .inl (cI, G.2.2 j, .inl (M.2.1 (j - G.1.1))) else .inl (cJ, G.2.2 j, .inr (.inl (M.2.2 (j - G.1.1 - G.1.2.1))))
def ew_gn (G : ew_G) : Nat := G.1.1 + G.1.2.1 + G.1.2.2
def ew_lT : Nat → Nat := fun j => if j < 1 then 0 else if j < 5 then 6 else if j < 10 then 5 else if j < 12 then 15 else if j < 13 then 30 else 90
def ew_GT (ad : Nat → Nat) (b : Nat) : ew_G := ((1, 12, 1), (fun f _ _ => (3, [.int (f 0), .int (f 1), .int (f 2), .int (f 3), .int (f 4), .ref (ad (b + 1)), .ref (ad (b + 2)), .ref (ad (b + 3)), .ref (ad (b + 4)), .ref (ad (b + 5)), .ref (ad (b + 6)), .ref (ad (b + 7)), .ref (ad (b + 8)), .ref (ad (b + 9)), .ref (ad (b + 10)), .ref (ad (b + 11)), .ref (ad (b + 12)), .ref (ad (b + 13))])), ew_lT)
def ew_lL : Nat → Nat := fun j => if j < 1 then 0 else if j < 2 then 64 else 6
def ew_GL (ad : Nat → Nat) : ew_G := ((1, 2, 0), (fun f _ _ => (0, [.ref (ad 43), .int (f 0), .int (f 1), .int (f 2), .ref (ad 44)])), ew_lL)
def ew_GR (_ : Nat → Nat) : ew_G := ((1, 0, 0), (fun _ w _ => (2, [.long (w 0 0), .long (w 0 1)])), fun _ => 0)
def ew_lX : Nat → Nat := fun j => if j < 2 then 0 else if j < 3 then 12 else 7
def ew_GX (ad : Nat → Nat) : ew_G := ((2, 2, 0), (fun f _ j => if j = 0 then (4, [.ref (ad 0), .ref (ad 14), .ref (ad 28), .int (f 0), .ref (ad 42), .ref (ad 47), .ref (ad 45), .ref (ad 48), .int (f 2), .ref (ad 49)]) else (1, [.ref (ad 0), .ref (ad 14), .int (f 1)])), ew_lX)
def ew_lM : Nat → Nat := fun j => if j < 1 then 0 else if j < 5 then 6 else if j < 6 then 5 else if j < 8 then 15 else if j < 12 then 5 else if j < 13 then 30 else if j < 14 then 64 else if j < 15 then 12 else if j < 16 then 7 else if j < 18 then 32 else if j < 19 then 288 else if j < 20 then 32 else if j < 23 then 5 else if j < 24 then 6 else if j < 25 then 5 else if j < 29 then 6 else if j < 30 then 5 else if j < 32 then 15 else if j < 36 then 5 else if j < 37 then 30 else 90
def ew_GM (ad : Nat → Nat) : ew_G := ((1, 36, 3), (fun f _ _ => (5, [.int (f 0), .ref (ad 51), .ref (ad 52), .ref (ad 53), .ref (ad 54), .int (f 5), .ref (ad 55), .ref (ad 56), .ref (ad 57), .ref (ad 58), .ref (ad 59), .ref (ad 60), .ref (ad 61), .ref (ad 87), .ref (ad 62), .int (f 15), .int (f 16), .int (f 17), .int (f 18), .ref (ad 63), .int (f 20), .ref (ad 64), .ref (ad 65), .int (f 23), .ref (ad 66), .ref (ad 67), .ref (ad 68), .ref (ad 69), .int (f 28), .int (f 29), .int (f 30), .ref (ad 70), .ref (ad 71), .ref (ad 72), .ref (ad 73), .ref (ad 88), .int (f 36), .int (f 37), .int (f 38), .ref (ad 74), .int (f 40), .int (f 41), .int (f 42), .int (f 43), .int (f 44), .int (f 45), .int (f 46), .ref (ad 75), .ref (ad 76), .ref (ad 77), .ref (ad 78), .ref (ad 79), .ref (ad 80), .ref (ad 81), .ref (ad 82), .ref (ad 83), .ref (ad 84), .ref (ad 85), .ref (ad 86), .ref (ad 89)])), ew_lM)
abbrev ew_NR : Nat := 90
abbrev ew_S : Type := (ew_M × ew_M × ew_M × ew_M × ew_M × ew_M) × ew_M
/-- the tables' numbers, the addresses by role, which are ours, the classes of int[] and long[], the text and its bytes -/
abbrev ew_X : Type := va_G × (Nat → Nat) × (Nat → Prop) × Nat × Nat × Nat × Nat
def ew_ct (X : ew_X) (S : ew_S) (r : Nat) : va_E :=
  if r < 14 then ew_gc X.2.2.2.1 X.2.2.2.2.1 (ew_GT X.2.1 0) S.1.1 r
  else if r < 28 then ew_gc X.2.2.2.1 X.2.2.2.2.1 (ew_GT X.2.1 14) S.1.2.1 (r - 14)
  else if r < 42 then ew_gc X.2.2.2.1 X.2.2.2.2.1 (ew_GT X.2.1 28) S.1.2.2.1 (r - 28)
  else if r < 45 then ew_gc X.2.2.2.1 X.2.2.2.2.1 (ew_GL X.2.1) S.1.2.2.2.1 (r - 42)
  else if r < 46 then ew_gc X.2.2.2.1 X.2.2.2.2.1 (ew_GR X.2.1) S.1.2.2.2.2.1 (r - 45)
  else if r < 50 then ew_gc X.2.2.2.1 X.2.2.2.2.1 (ew_GX X.2.1) S.1.2.2.2.2.2 (r - 46)
  else ew_gc X.2.2.2.1 X.2.2.2.2.1 (ew_GM X.2.1) S.2 (r - 50)
def ew_cs (X : ew_X) (S : ew_S) : va_W := (List.range ew_NR).map (fun r => (X.2.1 r, ew_ct X S r))
theorem ew_cs_get {X : ew_X} {S : ew_S} {r : Nat} (h : r < ew_NR) : (ew_cs X S)[r]? = some (X.2.1 r, ew_ct X S r) := by
  simp [ew_cs, h]
theorem ew_cs_out {X : ew_X} {S : ew_S} {r : Nat} (h : ¬ r < ew_NR) : (ew_cs X S)[r]? = none := by
  simp [ew_cs]; omega
/-- a part of the state is a group of cells -/
def ew_GE (X : ew_X) (b : Nat) (G : ew_G) (E : ew_M → ew_S) : Prop :=
  (∀ (M : ew_M) (j : Nat), j < ew_gn G → ew_ct X (E M) (b + j) = ew_gc X.2.2.2.1 X.2.2.2.2.1 G M j) ∧ (∀ (M M' : ew_M) (r : Nat), r < ew_NR → (r < b ∨ b + ew_gn G ≤ r) → ew_ct X (E M') r = ew_ct X (E M) r) ∧ b + ew_gn G ≤ ew_NR
theorem ew_cs_set {X : ew_X} {b : Nat} {G : ew_G} {E : ew_M → ew_S} (hE : ew_GE X b G E) {M M' : ew_M} {j : Nat} (hj : j < ew_gn G) {e : va_E} (he : ew_gc X.2.2.2.1 X.2.2.2.2.1 G M' j = e)
    (ho : ∀ i, i < ew_gn G → i ≠ j → ew_gc X.2.2.2.1 X.2.2.2.2.1 G M' i = ew_gc X.2.2.2.1 X.2.2.2.2.1 G M i) : (ew_cs X (E M)).set (b + j) (X.2.1 (b + j), e) = ew_cs X (E M') := by
  have hn := hE.2.2
  apply List.ext_getElem?
  intro i
  by_cases hi : i < ew_NR
  · rw [ew_cs_get hi]
    by_cases hij : i = b + j
    · subst hij
      rw [List.getElem?_set_self (by simp [ew_cs]; omega), hE.1 M' j hj, he]
    · rw [List.getElem?_set_ne (Ne.symm hij), ew_cs_get hi]
      by_cases hr : i < b ∨ b + ew_gn G ≤ i
      · rw [hE.2.1 M M' i hi hr]
      · have e1 : i = b + (i - b) := by omega
        have h1 := hE.1 M (i - b) (by omega)
        have h2 := hE.1 M' (i - b) (by omega)
        rw [← e1] at h1 h2
        rw [h1, h2, ho (i - b) (by omega) (by omega)]
  · rw [ew_cs_out hi, List.getElem?_eq_none (by simp [ew_cs]; omega)]
def ew_Ap (X : ew_X) : Prop := (∀ i j, i < ew_NR → j < ew_NR → X.2.1 i = X.2.1 j → i = j) ∧ ∀ i, i < ew_NR → X.2.2.1 (X.2.1 i)
theorem ew_D {X : ew_X} (h : ew_Ap X) (S : ew_S) : va_D X.2.2.1 (ew_cs X S) := by
  have key : ∀ (k : Nat) (q : Nat × va_E), (ew_cs X S)[k]? = some q → k < ew_NR ∧ q.1 = X.2.1 k := by
    intro k q hq
    by_cases hk : k < ew_NR
    · rw [ew_cs_get hk] at hq
      cases hq
      exact ⟨hk, rfl⟩
    · rw [ew_cs_out hk] at hq
      cases hq
  refine ⟨fun i j p q hi hj e => ?_, fun k q hk => ?_⟩
  · obtain ⟨a1, a2⟩ := key i p hi
    obtain ⟨b1, b2⟩ := key j q hj
    exact h.1 i j a1 b1 (by rw [← a2, ← b2]; exact e)
  · obtain ⟨a1, a2⟩ := key k q hk
    rw [a2]
    exact h.2 k a1
/-- what else a state must say: the nest mate, the text "bltewgs", the static of String -/
def ew_Ex (X : ew_X) (U : State) : Prop :=
  va_Nw (.methodLinkNest RX3 107 yX4_isNoLaw "EndsWhenRead") U ∧ vk_R RX0 52 "bltewgs" X.2.2.2.2.2.1 U ∧ vk_S 1 [7] [[98, 108, 116, 101, 119, 103, 115]] (fun _ => X.2.2.2.2.2.1) (fun _ => X.2.2.2.2.2.2) X.2.2.1 U U.heap ∧ va_Z "java/lang/String" "COMPACT_STRINGS" "Z" (.int 1) X.2.2.1 U U.heap
theorem ew_Ex.warm {X : ew_X} {s U : State} {H : Heap} {locs : List Loc} (h : ew_Ex X s) (hU : U.heap = H) (hW : s.WarmedH U.vm) (hS : va_S X.2.2.1 s.heap H locs) : ew_Ex X U := by
  obtain ⟨h1, h2, h3, h4⟩ := h
  subst hU
  exact ⟨h1.warmM hW, h2.warm hW, (h3.moved hW.alike).kept hS.2.1, (h4.moved hW.alike).kept hS.2.1⟩
def ew_wd (X : ew_X) (S : ew_S) (U : State) : Prop := va_P X.1 vwCl (ew_cs X S) U.heap ∧ va_K X.1 vwCl [(X.2.2.2.1, .int), (X.2.2.2.2.1, .long)] U ∧ ew_Ex X U
/-- a method's place: program, launch, env, room, start, itself, its arguments, the frames below, its code, what is to hold at its end -/
abbrev ew_C : Type := Program × Launch × Env × Room × State × MethodId × Array Value × List Frame × Method × Code × (State → Prop)
def ew_Z (C : ew_C) (X : ew_X) (cc : ByteArray) (nL : Nat) (own : String) (Ts : List Cond) (rm : Room) (rt : Option FieldType) : Prop :=
  C.1.tables.exec = Jvm.exec ∧ C.2.2.2.2.2.2.2.2.2.1.code = cc ∧ C.2.2.2.2.2.2.2.2.2.1.maxLocals = nL ∧ C.2.2.2.2.1.vm.findClass own = some C.2.2.2.2.2.1.cls ∧ (∀ w ∈ Ts, w.before C.2.2.2.2.2.2.1 C.2.2.2.2.1 = true)
  ∧ va_K X.1 vwCl [(X.2.2.2.1, .int), (X.2.2.2.2.1, .long)] C.2.2.2.2.1 ∧ C.2.2.2.2.2.2.2.2.1.locks = false ∧ C.2.2.2.2.2.2.2.2.1.sig.returnType = rt ∧ C.2.2.2.1 = rm ∧ ew_Ap X ∧ ew_Ex X C.2.2.2.2.1
/-- at pc, with these locals and this stack and the cells in the state S, the machine comes to the method's end -/
def ew_W (C : ew_C) (X : ew_X) (nL : Nat) (S : ew_S) (pc : Nat) (L : List (Nat × Value)) (st : List Value) : Prop :=
  ∀ (H : Heap) (locs : List Loc) (ls : Array Slot), va_P X.1 vwCl (ew_cs X S) H → va_S X.2.2.1 C.2.2.2.2.1.heap H locs → lv_has ls nL L →
    W C.1 C.2.1 C.2.2.1 C.2.2.2.1 C.2.2.2.2.1 C.2.2.2.2.2.1 C.2.2.2.2.2.2.1 C.2.2.2.2.2.2.2.1 C.2.2.2.2.2.2.2.2.1 C.2.2.2.2.2.2.2.2.2.1 H locs 0 0 C.2.2.2.2.2.2.2.2.2.2 (F0 C.2.2.2.2.2.1 pc ls st)
theorem ew_cell_eq {cA n : Nat} {f g : Nat → Int32} (h : ∀ j, j < n → f j = g j) : vp_cell cA (n, .inl f) = vp_cell cA (n, .inl g) := by
  have e : (fun j : Fin n => Value.int (f j.val)) = fun j : Fin n => Value.int (g j.val) := funext fun j => by rw [h j.val j.isLt]
  show ({ cls := cA, slots := Array.ofFn (n := n) (fun j : Fin n => Value.int (f j.val)), vm := .none } : Cell) = _
  rw [e]
  rfl
theorem ew_cell_eqL {cA n : Nat} {f g : Nat → Int64} (h : ∀ j, j < n → f j = g j) : vp_cell cA (n, .inr (.inl f)) = vp_cell cA (n, .inr (.inl g)) := by
  have e : (fun j : Fin n => Value.long (f j.val)) = fun j : Fin n => Value.long (g j.val) := funext fun j => by rw [h j.val j.isLt]
  show ({ cls := cA, slots := Array.ofFn (n := n) (fun j : Fin n => Value.long (f j.val)), vm := .none } : Cell) = _
  rw [e]
  rfl
section EWR
variable {C : ew_C} {X : ew_X} {cc : ByteArray} {nL : Nat} {own : String} {Ts : List Cond} {rm : Room} {rt : Option FieldType} {S : ew_S} {pc : Nat} {L : List (Nat × Value)} {st : List Value}
theorem ez_iconst (Z : ew_Z C X cc nL own Ts rm rt) {n : Int} {v : Int32} (d : decode cc pc = .ok (.iconst n, 1)) (hv : Int32.ofInt n = v) (k : ew_W C X nL S (pc + 1) L (.int v :: st)) : ew_W C X nL S pc L (st) := fun H locs ls hP hS hl => lv_iconst Z.1 Z.2.1 d hv (k H locs ls hP hS hl)
theorem ez_bipush (Z : ew_Z C X cc nL own Ts rm rt) {n : Int} {v : Int32} (d : decode cc pc = .ok (.bipush n, 2)) (hv : (Int8.ofInt n).toInt32 = v) (k : ew_W C X nL S (pc + 2) L (.int v :: st)) : ew_W C X nL S pc L (st) := fun H locs ls hP hS hl => lv_bipush Z.1 Z.2.1 d hv (k H locs ls hP hS hl)
theorem ez_sipush (Z : ew_Z C X cc nL own Ts rm rt) {n : Int} {v : Int32} (d : decode cc pc = .ok (.sipush n, 3)) (hv : (Int16.ofInt n).toInt32 = v) (k : ew_W C X nL S (pc + 3) L (.int v :: st)) : ew_W C X nL S pc L (st) := fun H locs ls hP hS hl => lv_sipush Z.1 Z.2.1 d hv (k H locs ls hP hS hl)
theorem ez_lconst (Z : ew_Z C X cc nL own Ts rm rt) {n : Fin 2} {v : Int64} (d : decode cc pc = .ok (.lconst n, 1)) (hv : Int64.ofNat (n : Nat) = v) (k : ew_W C X nL S (pc + 1) L (.long v :: st)) : ew_W C X nL S pc L (st) := fun H locs ls hP hS hl => lv_lconst Z.1 Z.2.1 d hv (k H locs ls hP hS hl)
theorem ez_iload_n (Z : ew_Z C X cc nL own Ts rm rt) {n : Fin 4} {i : Nat} {x : Int32} (d : decode cc pc = .ok (.iload_n n, 1)) (q : Nat) (hi : (n : Nat) = i) (hq : L[q]? = some (i, .int x)) (k : ew_W C X nL S (pc + 1) L (.int x :: st)) : ew_W C X nL S pc L st := fun H locs ls hP hS hl => lv_iload_n Z.1 Z.2.1 d hi (lv_at hl q hq) (k H locs ls hP hS hl)
theorem ez_iload (Z : ew_Z C X cc nL own Ts rm rt) {i : Nat} {x : Int32} (d : decode cc pc = .ok (.iload i, 2)) (q : Nat) (hq : L[q]? = some (i, .int x)) (k : ew_W C X nL S (pc + 2) L (.int x :: st)) : ew_W C X nL S pc L st := fun H locs ls hP hS hl => lv_iload Z.1 Z.2.1 d (lv_at hl q hq) (k H locs ls hP hS hl)
theorem ez_istore_n (Z : ew_Z C X cc nL own Ts rm rt) {n : Fin 4} {i : Nat} {x : Int32} {L' : List (Nat × Value)} (d : decode cc pc = .ok (.istore_n n, 1)) (hi : (n : Nat) = i) (hn : i < nL) (hl' : (i, Value.int x) :: L.filter (fun q => !(q.1 == i) && !(q.1 + 1 == i && q.2.category == 2)) = L') (k : ew_W C X nL S (pc + 1) L' st) : ew_W C X nL S pc L (.int x :: st) := fun H locs ls hP hS hl => lv_istore_n Z.1 Z.2.1 d hi hl hn hl' (fun ls' h => k H locs ls' hP hS h)
theorem ez_istore (Z : ew_Z C X cc nL own Ts rm rt) {i : Nat} {x : Int32} {L' : List (Nat × Value)} (d : decode cc pc = .ok (.istore i, 2)) (hn : i < nL) (hl' : (i, Value.int x) :: L.filter (fun q => !(q.1 == i) && !(q.1 + 1 == i && q.2.category == 2)) = L') (k : ew_W C X nL S (pc + 2) L' st) : ew_W C X nL S pc L (.int x :: st) := fun H locs ls hP hS hl => lv_istore Z.1 Z.2.1 d hl hn hl' (fun ls' h => k H locs ls' hP hS h)
theorem ez_lload_n (Z : ew_Z C X cc nL own Ts rm rt) {n : Fin 4} {i : Nat} {x : Int64} (d : decode cc pc = .ok (.lload_n n, 1)) (q : Nat) (hi : (n : Nat) = i) (hq : L[q]? = some (i, .long x)) (k : ew_W C X nL S (pc + 1) L (.long x :: st)) : ew_W C X nL S pc L st := fun H locs ls hP hS hl => lv_lload_n Z.1 Z.2.1 d hi (lv_at hl q hq) (k H locs ls hP hS hl)
theorem ez_lload (Z : ew_Z C X cc nL own Ts rm rt) {i : Nat} {x : Int64} (d : decode cc pc = .ok (.lload i, 2)) (q : Nat) (hq : L[q]? = some (i, .long x)) (k : ew_W C X nL S (pc + 2) L (.long x :: st)) : ew_W C X nL S pc L st := fun H locs ls hP hS hl => lv_lload Z.1 Z.2.1 d (lv_at hl q hq) (k H locs ls hP hS hl)
theorem ez_lstore_n (Z : ew_Z C X cc nL own Ts rm rt) {n : Fin 4} {i : Nat} {x : Int64} {L' : List (Nat × Value)} (d : decode cc pc = .ok (.lstore_n n, 1)) (hi : (n : Nat) = i) (hn : i + 1 < nL) (hl' : (i, Value.long x) :: L.filter (fun q => !(q.1 == i) && (!(q.1 == i + 1) && !(q.1 + 1 == i && q.2.category == 2))) = L') (k : ew_W C X nL S (pc + 1) L' st) : ew_W C X nL S pc L (.long x :: st) := fun H locs ls hP hS hl => lv_lstore_n Z.1 Z.2.1 d hi hl hn hl' (fun ls' h => k H locs ls' hP hS h)
theorem ez_lstore (Z : ew_Z C X cc nL own Ts rm rt) {i : Nat} {x : Int64} {L' : List (Nat × Value)} (d : decode cc pc = .ok (.lstore i, 2)) (hn : i + 1 < nL) (hl' : (i, Value.long x) :: L.filter (fun q => !(q.1 == i) && (!(q.1 == i + 1) && !(q.1 + 1 == i && q.2.category == 2))) = L') (k : ew_W C X nL S (pc + 2) L' st) : ew_W C X nL S pc L (.long x :: st) := fun H locs ls hP hS hl => lv_lstore Z.1 Z.2.1 d hl hn hl' (fun ls' h => k H locs ls' hP hS h)
theorem ez_aload_n (Z : ew_Z C X cc nL own Ts rm rt) {n : Fin 4} {i : Nat} {x : Nat} (d : decode cc pc = .ok (.aload_n n, 1)) (q : Nat) (hi : (n : Nat) = i) (hq : L[q]? = some (i, .ref x)) (k : ew_W C X nL S (pc + 1) L (.ref x :: st)) : ew_W C X nL S pc L st := fun H locs ls hP hS hl => lv_aload_n Z.1 Z.2.1 d hi (lv_at hl q hq) (k H locs ls hP hS hl)
theorem ez_aload (Z : ew_Z C X cc nL own Ts rm rt) {i : Nat} {x : Nat} (d : decode cc pc = .ok (.aload i, 2)) (q : Nat) (hq : L[q]? = some (i, .ref x)) (k : ew_W C X nL S (pc + 2) L (.ref x :: st)) : ew_W C X nL S pc L st := fun H locs ls hP hS hl => lv_aload Z.1 Z.2.1 d (lv_at hl q hq) (k H locs ls hP hS hl)
theorem ez_astore_n (Z : ew_Z C X cc nL own Ts rm rt) {n : Fin 4} {i : Nat} {x : Nat} {L' : List (Nat × Value)} (d : decode cc pc = .ok (.astore_n n, 1)) (hi : (n : Nat) = i) (hn : i < nL) (hl' : (i, Value.ref x) :: L.filter (fun q => !(q.1 == i) && !(q.1 + 1 == i && q.2.category == 2)) = L') (k : ew_W C X nL S (pc + 1) L' st) : ew_W C X nL S pc L (.ref x :: st) := fun H locs ls hP hS hl => lv_astore_n Z.1 Z.2.1 d hi hl hn hl' (fun ls' h => k H locs ls' hP hS h)
theorem ez_astore (Z : ew_Z C X cc nL own Ts rm rt) {i : Nat} {x : Nat} {L' : List (Nat × Value)} (d : decode cc pc = .ok (.astore i, 2)) (hn : i < nL) (hl' : (i, Value.ref x) :: L.filter (fun q => !(q.1 == i) && !(q.1 + 1 == i && q.2.category == 2)) = L') (k : ew_W C X nL S (pc + 2) L' st) : ew_W C X nL S pc L (.ref x :: st) := fun H locs ls hP hS hl => lv_astore Z.1 Z.2.1 d hl hn hl' (fun ls' h => k H locs ls' hP hS h)
theorem ez_iinc (Z : ew_Z C X cc nL own Ts rm rt) {i : Nat} {n : Int} {x v : Int32} {L' : List (Nat × Value)} (d : decode cc pc = .ok (.iinc i n, 3)) (q : Nat) (hq : L[q]? = some (i, .int x)) (hv : x + Int32.ofInt n = v) (hn : i < nL) (hl' : (i, Value.int v) :: L.filter (fun q => !(q.1 == i) && !(q.1 + 1 == i && q.2.category == 2)) = L') (k : ew_W C X nL S (pc + 3) L' st) : ew_W C X nL S pc L st := fun H locs ls hP hS hl => lv_iinc Z.1 Z.2.1 d hl hq hv hn hl' (fun ls' h => k H locs ls' hP hS h)
theorem ez_iadd (Z : ew_Z C X cc nL own Ts rm rt) {x y : Int32} (d : decode cc pc = .ok (.iadd, 1))  (k : ew_W C X nL S (pc + 1) L (.int (x + y) :: st)) : ew_W C X nL S pc L (.int y :: .int x :: st) := fun H locs ls hP hS hl => lv_iadd Z.1 Z.2.1 d (k H locs ls hP hS hl)
theorem ez_isub (Z : ew_Z C X cc nL own Ts rm rt) {x y : Int32} (d : decode cc pc = .ok (.isub, 1))  (k : ew_W C X nL S (pc + 1) L (.int (x - y) :: st)) : ew_W C X nL S pc L (.int y :: .int x :: st) := fun H locs ls hP hS hl => lv_isub Z.1 Z.2.1 d (k H locs ls hP hS hl)
theorem ez_imul (Z : ew_Z C X cc nL own Ts rm rt) {x y : Int32} (d : decode cc pc = .ok (.imul, 1))  (k : ew_W C X nL S (pc + 1) L (.int (x * y) :: st)) : ew_W C X nL S pc L (.int y :: .int x :: st) := fun H locs ls hP hS hl => lv_imul Z.1 Z.2.1 d (k H locs ls hP hS hl)
theorem ez_iand (Z : ew_Z C X cc nL own Ts rm rt) {x y : Int32} (d : decode cc pc = .ok (.iand, 1))  (k : ew_W C X nL S (pc + 1) L (.int (x &&& y) :: st)) : ew_W C X nL S pc L (.int y :: .int x :: st) := fun H locs ls hP hS hl => lv_iand Z.1 Z.2.1 d (k H locs ls hP hS hl)
theorem ez_ior (Z : ew_Z C X cc nL own Ts rm rt) {x y : Int32} (d : decode cc pc = .ok (.ior, 1))  (k : ew_W C X nL S (pc + 1) L (.int (x ||| y) :: st)) : ew_W C X nL S pc L (.int y :: .int x :: st) := fun H locs ls hP hS hl => lv_ior Z.1 Z.2.1 d (k H locs ls hP hS hl)
theorem ez_ixor (Z : ew_Z C X cc nL own Ts rm rt) {x y : Int32} (d : decode cc pc = .ok (.ixor, 1))  (k : ew_W C X nL S (pc + 1) L (.int (x ^^^ y) :: st)) : ew_W C X nL S pc L (.int y :: .int x :: st) := fun H locs ls hP hS hl => lv_ixor Z.1 Z.2.1 d (k H locs ls hP hS hl)
theorem ez_ishl (Z : ew_Z C X cc nL own Ts rm rt) {x y : Int32} (d : decode cc pc = .ok (.ishl, 1))  (k : ew_W C X nL S (pc + 1) L (.int (x <<< (y &&& 31)) :: st)) : ew_W C X nL S pc L (.int y :: .int x :: st) := fun H locs ls hP hS hl => lv_ishl Z.1 Z.2.1 d (k H locs ls hP hS hl)
theorem ez_ishr (Z : ew_Z C X cc nL own Ts rm rt) {x y : Int32} (d : decode cc pc = .ok (.ishr, 1))  (k : ew_W C X nL S (pc + 1) L (.int (x >>> (y &&& 31)) :: st)) : ew_W C X nL S pc L (.int y :: .int x :: st) := fun H locs ls hP hS hl => lv_ishr Z.1 Z.2.1 d (k H locs ls hP hS hl)
theorem ez_ladd (Z : ew_Z C X cc nL own Ts rm rt) {x y : Int64} (d : decode cc pc = .ok (.ladd, 1))  (k : ew_W C X nL S (pc + 1) L (.long (x + y) :: st)) : ew_W C X nL S pc L (.long y :: .long x :: st) := fun H locs ls hP hS hl => lv_ladd Z.1 Z.2.1 d (k H locs ls hP hS hl)
theorem ez_lsub (Z : ew_Z C X cc nL own Ts rm rt) {x y : Int64} (d : decode cc pc = .ok (.lsub, 1))  (k : ew_W C X nL S (pc + 1) L (.long (x - y) :: st)) : ew_W C X nL S pc L (.long y :: .long x :: st) := fun H locs ls hP hS hl => lv_lsub Z.1 Z.2.1 d (k H locs ls hP hS hl)
theorem ez_lmul (Z : ew_Z C X cc nL own Ts rm rt) {x y : Int64} (d : decode cc pc = .ok (.lmul, 1))  (k : ew_W C X nL S (pc + 1) L (.long (x * y) :: st)) : ew_W C X nL S pc L (.long y :: .long x :: st) := fun H locs ls hP hS hl => lv_lmul Z.1 Z.2.1 d (k H locs ls hP hS hl)
theorem ez_idiv (Z : ew_Z C X cc nL own Ts rm rt) {x y : Int32} (d : decode cc pc = .ok (.idiv, 1)) (hne : ¬ y = 0) (k : ew_W C X nL S (pc + 1) L (.int (x / y) :: st)) : ew_W C X nL S pc L (.int y :: .int x :: st) := fun H locs ls hP hS hl => lv_idiv Z.1 Z.2.1 d hne (k H locs ls hP hS hl)
theorem ez_irem (Z : ew_Z C X cc nL own Ts rm rt) {x y : Int32} (d : decode cc pc = .ok (.irem, 1)) (hne : ¬ y = 0) (k : ew_W C X nL S (pc + 1) L (.int (x - x / y * y) :: st)) : ew_W C X nL S pc L (.int y :: .int x :: st) := fun H locs ls hP hS hl => lv_irem Z.1 Z.2.1 d hne (k H locs ls hP hS hl)
theorem ez_ldiv (Z : ew_Z C X cc nL own Ts rm rt) {x y : Int64} (d : decode cc pc = .ok (.ldiv, 1)) (hne : ¬ y = 0) (k : ew_W C X nL S (pc + 1) L (.long (x / y) :: st)) : ew_W C X nL S pc L (.long y :: .long x :: st) := fun H locs ls hP hS hl => lv_ldiv Z.1 Z.2.1 d hne (k H locs ls hP hS hl)
theorem ez_lrem (Z : ew_Z C X cc nL own Ts rm rt) {x y : Int64} (d : decode cc pc = .ok (.lrem, 1)) (hne : ¬ y = 0) (k : ew_W C X nL S (pc + 1) L (.long (x - x / y * y) :: st)) : ew_W C X nL S pc L (.long y :: .long x :: st) := fun H locs ls hP hS hl => lv_lrem Z.1 Z.2.1 d hne (k H locs ls hP hS hl)
theorem ez_ineg (Z : ew_Z C X cc nL own Ts rm rt) {x : Int32} (d : decode cc pc = .ok (.ineg, 1))  (k : ew_W C X nL S (pc + 1) L (.int (-x) :: st)) : ew_W C X nL S pc L (.int x :: st) := fun H locs ls hP hS hl => lv_ineg Z.1 Z.2.1 d (k H locs ls hP hS hl)
theorem ez_lneg (Z : ew_Z C X cc nL own Ts rm rt) {x : Int64} (d : decode cc pc = .ok (.lneg, 1))  (k : ew_W C X nL S (pc + 1) L (.long (-x) :: st)) : ew_W C X nL S pc L (.long x :: st) := fun H locs ls hP hS hl => lv_lneg Z.1 Z.2.1 d (k H locs ls hP hS hl)
theorem ez_iushr (Z : ew_Z C X cc nL own Ts rm rt) {x y : Int32} (d : decode cc pc = .ok (.iushr, 1))  (k : ew_W C X nL S (pc + 1) L (.int ((x.toUInt32 >>> (y.toUInt32 &&& Int32.toUInt32 31)).toInt32) :: st)) : ew_W C X nL S pc L (.int y :: .int x :: st) := fun H locs ls hP hS hl => lv_iushr Z.1 Z.2.1 d rfl (k H locs ls hP hS hl)
theorem ez_i2l (Z : ew_Z C X cc nL own Ts rm rt) {x : Int32} (d : decode cc pc = .ok (.i2l, 1))  (k : ew_W C X nL S (pc + 1) L (.long x.toInt64 :: st)) : ew_W C X nL S pc L (.int x :: st) := fun H locs ls hP hS hl => lv_i2l Z.1 Z.2.1 d rfl (k H locs ls hP hS hl)
theorem ez_l2i (Z : ew_Z C X cc nL own Ts rm rt) {x : Int64} (d : decode cc pc = .ok (.l2i, 1))  (k : ew_W C X nL S (pc + 1) L (.int x.toInt32 :: st)) : ew_W C X nL S pc L (.long x :: st) := fun H locs ls hP hS hl => lv_l2i Z.1 Z.2.1 d rfl (k H locs ls hP hS hl)
theorem ez_i2c (Z : ew_Z C X cc nL own Ts rm rt) {x : Int32} (d : decode cc pc = .ok (.i2c, 1))  (k : ew_W C X nL S (pc + 1) L (.int (x.toUInt32 % 65536).toInt32 :: st)) : ew_W C X nL S pc L (.int x :: st) := fun H locs ls hP hS hl => lv_i2c Z.1 Z.2.1 d rfl (k H locs ls hP hS hl)
theorem ez_lcmp (Z : ew_Z C X cc nL own Ts rm rt) {x y : Int64} (d : decode cc pc = .ok (.lcmp, 1))  (k : ew_W C X nL S (pc + 1) L (.int (lg_cmp x y) :: st)) : ew_W C X nL S pc L (.long y :: .long x :: st) := fun H locs ls hP hS hl => W.lcmp Z.1 Z.2.1 d (k H locs ls hP hS hl)
theorem ez_dup (Z : ew_Z C X cc nL own Ts rm rt) {va : Value} (d : decode cc pc = .ok (.dup, 1)) (hva : va.category = 1) (k : ew_W C X nL S (pc + 1) L (va :: va :: st)) : ew_W C X nL S pc L (va :: st) := fun H locs ls hP hS hl => lv_dup Z.1 Z.2.1 d hva (k H locs ls hP hS hl)
theorem ez_pop (Z : ew_Z C X cc nL own Ts rm rt) {va : Value} (d : decode cc pc = .ok (.pop, 1)) (hva : va.category = 1) (k : ew_W C X nL S (pc + 1) L (st)) : ew_W C X nL S pc L (va :: st) := fun H locs ls hP hS hl => lv_pop Z.1 Z.2.1 d hva (k H locs ls hP hS hl)
theorem ez_dup_x1 (Z : ew_Z C X cc nL own Ts rm rt) {va vb : Value} (d : decode cc pc = .ok (.dup_x1, 1)) (hva : va.category = 1) (hvb : vb.category = 1) (k : ew_W C X nL S (pc + 1) L (va :: vb :: va :: st)) : ew_W C X nL S pc L (va :: vb :: st) := fun H locs ls hP hS hl => lv_dup_x1 Z.1 Z.2.1 d hva hvb (k H locs ls hP hS hl)
theorem ez_dup2_11 (Z : ew_Z C X cc nL own Ts rm rt) {va vb : Value} (d : decode cc pc = .ok (.dup2, 1)) (hva : va.category = 1) (hvb : vb.category = 1) (k : ew_W C X nL S (pc + 1) L (va :: vb :: va :: vb :: st)) : ew_W C X nL S pc L (va :: vb :: st) := fun H locs ls hP hS hl => lv_dup2_11 Z.1 Z.2.1 d hva hvb (k H locs ls hP hS hl)
theorem ez_goto (Z : ew_Z C X cc nL own Ts rm rt) {off : Int} {tgt : Nat} (d : decode cc pc = .ok (.goto off, 3)) (ht : (pc : Int) + off = (tgt : Int)) (k : ew_W C X nL S tgt L st) : ew_W C X nL S pc L st := fun H locs ls hP hS hl => lv_goto Z.1 Z.2.1 d ht (k H locs ls hP hS hl)
theorem ez_icmp_eq (Z : ew_Z C X cc nL own Ts rm rt) {x y : Int32} {off : Int} {tgt : Nat} (d : decode cc pc = .ok (.if_icmp .eq off, 3)) (ht : (pc : Int) + off = (tgt : Int)) (kt : x = y → ew_W C X nL S tgt L st) (kf : ¬ x = y → ew_W C X nL S (pc + 3) L st) : ew_W C X nL S pc L (.int y :: .int x :: st) := fun H locs ls hP hS hl => lv_icmp_eq Z.1 Z.2.1 d ht (fun h => kt h H locs ls hP hS hl) (fun h => kf h H locs ls hP hS hl)
theorem ez_if_eq (Z : ew_Z C X cc nL own Ts rm rt) {x : Int32} {off : Int} {tgt : Nat} (d : decode cc pc = .ok (.ifCond .eq off, 3)) (ht : (pc : Int) + off = (tgt : Int)) (kt : x = 0 → ew_W C X nL S tgt L st) (kf : ¬ x = 0 → ew_W C X nL S (pc + 3) L st) : ew_W C X nL S pc L (.int x :: st) := fun H locs ls hP hS hl => lv_if_eq Z.1 Z.2.1 d ht (fun h => kt h H locs ls hP hS hl) (fun h => kf h H locs ls hP hS hl)
theorem ez_icmp_ne (Z : ew_Z C X cc nL own Ts rm rt) {x y : Int32} {off : Int} {tgt : Nat} (d : decode cc pc = .ok (.if_icmp .ne off, 3)) (ht : (pc : Int) + off = (tgt : Int)) (kt : ¬ x = y → ew_W C X nL S tgt L st) (kf : x = y → ew_W C X nL S (pc + 3) L st) : ew_W C X nL S pc L (.int y :: .int x :: st) := fun H locs ls hP hS hl => lv_icmp_ne Z.1 Z.2.1 d ht (fun h => kt h H locs ls hP hS hl) (fun h => kf h H locs ls hP hS hl)
theorem ez_if_ne (Z : ew_Z C X cc nL own Ts rm rt) {x : Int32} {off : Int} {tgt : Nat} (d : decode cc pc = .ok (.ifCond .ne off, 3)) (ht : (pc : Int) + off = (tgt : Int)) (kt : ¬ x = 0 → ew_W C X nL S tgt L st) (kf : x = 0 → ew_W C X nL S (pc + 3) L st) : ew_W C X nL S pc L (.int x :: st) := fun H locs ls hP hS hl => lv_if_ne Z.1 Z.2.1 d ht (fun h => kt h H locs ls hP hS hl) (fun h => kf h H locs ls hP hS hl)
theorem ez_icmp_lt (Z : ew_Z C X cc nL own Ts rm rt) {x y : Int32} {off : Int} {tgt : Nat} (d : decode cc pc = .ok (.if_icmp .lt off, 3)) (ht : (pc : Int) + off = (tgt : Int)) (kt : x < y → ew_W C X nL S tgt L st) (kf : ¬ x < y → ew_W C X nL S (pc + 3) L st) : ew_W C X nL S pc L (.int y :: .int x :: st) := fun H locs ls hP hS hl => lv_icmp_lt Z.1 Z.2.1 d ht (fun h => kt h H locs ls hP hS hl) (fun h => kf h H locs ls hP hS hl)
theorem ez_if_lt (Z : ew_Z C X cc nL own Ts rm rt) {x : Int32} {off : Int} {tgt : Nat} (d : decode cc pc = .ok (.ifCond .lt off, 3)) (ht : (pc : Int) + off = (tgt : Int)) (kt : x < 0 → ew_W C X nL S tgt L st) (kf : ¬ x < 0 → ew_W C X nL S (pc + 3) L st) : ew_W C X nL S pc L (.int x :: st) := fun H locs ls hP hS hl => lv_if_lt Z.1 Z.2.1 d ht (fun h => kt h H locs ls hP hS hl) (fun h => kf h H locs ls hP hS hl)
theorem ez_icmp_ge (Z : ew_Z C X cc nL own Ts rm rt) {x y : Int32} {off : Int} {tgt : Nat} (d : decode cc pc = .ok (.if_icmp .ge off, 3)) (ht : (pc : Int) + off = (tgt : Int)) (kt : y ≤ x → ew_W C X nL S tgt L st) (kf : ¬ y ≤ x → ew_W C X nL S (pc + 3) L st) : ew_W C X nL S pc L (.int y :: .int x :: st) := fun H locs ls hP hS hl => lv_icmp_ge Z.1 Z.2.1 d ht (fun h => kt h H locs ls hP hS hl) (fun h => kf h H locs ls hP hS hl)
theorem ez_if_ge (Z : ew_Z C X cc nL own Ts rm rt) {x : Int32} {off : Int} {tgt : Nat} (d : decode cc pc = .ok (.ifCond .ge off, 3)) (ht : (pc : Int) + off = (tgt : Int)) (kt : 0 ≤ x → ew_W C X nL S tgt L st) (kf : ¬ 0 ≤ x → ew_W C X nL S (pc + 3) L st) : ew_W C X nL S pc L (.int x :: st) := fun H locs ls hP hS hl => lv_if_ge Z.1 Z.2.1 d ht (fun h => kt h H locs ls hP hS hl) (fun h => kf h H locs ls hP hS hl)
theorem ez_icmp_gt (Z : ew_Z C X cc nL own Ts rm rt) {x y : Int32} {off : Int} {tgt : Nat} (d : decode cc pc = .ok (.if_icmp .gt off, 3)) (ht : (pc : Int) + off = (tgt : Int)) (kt : y < x → ew_W C X nL S tgt L st) (kf : ¬ y < x → ew_W C X nL S (pc + 3) L st) : ew_W C X nL S pc L (.int y :: .int x :: st) := fun H locs ls hP hS hl => lv_icmp_gt Z.1 Z.2.1 d ht (fun h => kt h H locs ls hP hS hl) (fun h => kf h H locs ls hP hS hl)
theorem ez_if_gt (Z : ew_Z C X cc nL own Ts rm rt) {x : Int32} {off : Int} {tgt : Nat} (d : decode cc pc = .ok (.ifCond .gt off, 3)) (ht : (pc : Int) + off = (tgt : Int)) (kt : 0 < x → ew_W C X nL S tgt L st) (kf : ¬ 0 < x → ew_W C X nL S (pc + 3) L st) : ew_W C X nL S pc L (.int x :: st) := fun H locs ls hP hS hl => lv_if_gt Z.1 Z.2.1 d ht (fun h => kt h H locs ls hP hS hl) (fun h => kf h H locs ls hP hS hl)
theorem ez_icmp_le (Z : ew_Z C X cc nL own Ts rm rt) {x y : Int32} {off : Int} {tgt : Nat} (d : decode cc pc = .ok (.if_icmp .le off, 3)) (ht : (pc : Int) + off = (tgt : Int)) (kt : x ≤ y → ew_W C X nL S tgt L st) (kf : ¬ x ≤ y → ew_W C X nL S (pc + 3) L st) : ew_W C X nL S pc L (.int y :: .int x :: st) := fun H locs ls hP hS hl => lv_icmp_le Z.1 Z.2.1 d ht (fun h => kt h H locs ls hP hS hl) (fun h => kf h H locs ls hP hS hl)
theorem ez_if_le (Z : ew_Z C X cc nL own Ts rm rt) {x : Int32} {off : Int} {tgt : Nat} (d : decode cc pc = .ok (.ifCond .le off, 3)) (ht : (pc : Int) + off = (tgt : Int)) (kt : x ≤ 0 → ew_W C X nL S tgt L st) (kf : ¬ x ≤ 0 → ew_W C X nL S (pc + 3) L st) : ew_W C X nL S pc L (.int x :: st) := fun H locs ls hP hS hl => lv_if_le Z.1 Z.2.1 d ht (fun h => kt h H locs ls hP hS hl) (fun h => kf h H locs ls hP hS hl)
theorem ez_ldc (Z : ew_Z C X cc nL own Ts rm rt) {index : Nat} {v : Int32} (hc : Jvm.Cond.constant own index v ∈ Ts) (d : decode cc pc = .ok (.ldc index, 2)) (k : ew_W C X nL S (pc + 2) L (.int v :: st)) : ew_W C X nL S pc L st := fun H locs ls hP hS hl => lv_ldc Z.1 Z.2.1 Z.2.2.2.1 (Z.2.2.2.2.1 _ hc) d (k H locs ls hP hS hl)
theorem ez_ldcw (Z : ew_Z C X cc nL own Ts rm rt) {index : Nat} {v : Int32} (hc : Jvm.Cond.constant own index v ∈ Ts) (d : decode cc pc = .ok (.ldc_w index, 3)) (k : ew_W C X nL S (pc + 3) L (.int v :: st)) : ew_W C X nL S pc L st := fun H locs ls hP hS hl => lv_ldcw Z.1 Z.2.1 Z.2.2.2.1 (Z.2.2.2.2.1 _ hc) d (k H locs ls hP hS hl)
theorem ez_ldc2 (Z : ew_Z C X cc nL own Ts rm rt) {index : Nat} {v : Int64} (hc : Jvm.Cond.constantLong own index v ∈ Ts) (d : decode cc pc = .ok (.ldc2_w index, 3)) (k : ew_W C X nL S (pc + 3) L (.long v :: st)) : ew_W C X nL S pc L st := fun H locs ls hP hS hl => lv_ldc2 Z.1 Z.2.1 Z.2.2.2.1 (Z.2.2.2.2.1 _ hc) d (k H locs ls hP hS hl)
theorem ez_ldcs (Z : ew_Z C X cc nL RX0 Ts rm rt) (d : decode cc pc = .ok (.ldc 52, 2)) (k : ew_W C X nL S (pc + 2) L (.ref X.2.2.2.2.2.1 :: st)) : ew_W C X nL S pc L st := fun H locs ls hP hS hl => va_ldcS Z.1 Z.2.1 Z.2.2.2.1 Z.2.2.2.2.2.2.2.2.2.2.2.1 d (k H locs ls hP hS hl)
theorem ez_sub (L' : List (Nat × Value)) (ks : List Nat) (h : lv_pick L ks = L') (k : ew_W C X nL S pc L' st) : ew_W C X nL S pc L st := fun H locs ls hP hS hl => k H locs ls hP hS (lv_sub hl ks h)
/-- a field is read -/
theorem ez_get (Z : ew_Z C X cc nL own Ts rm rt) {r ci k N index : Nat} {T : u_T} {fs : List Value} {nm ds : String} {v : Value} (hr : r < ew_NR) (hob : ew_ct X S r = .inr (ci, fs)) (hc : vwCl[ci]? = some (own, T, N)) (hin : ∀ w ∈ u_ws own T N, w ∈ Ts) (hk : k < N) (hT : T k = (own, nm, ds, (T k).2.2.2)) (hlink : Cond.fieldLink own index own nm ds ∈ Ts) (hv : fs[k]? = some v) (d : decode cc pc = .ok (.getfield index, 3))
    (kk : ew_W C X nL S (pc + 3) L (v :: st)) : ew_W C X nL S pc L (.ref (X.2.1 r) :: st) := by
  intro H locs ls hP hS hl
  have t1 : (T k).1 = own := by rw [hT]
  have t2 : (T k).2.1 = nm := by rw [hT]
  have t3 : (T k).2.2.1 = ds := by rw [hT]
  exact va_get (D := X.1) (ci := ci) (v := v) (C := own) (T := T) (N := N) (ref := own) (index := index) Z.1 Z.2.1 Z.2.2.2.2.1 hin Z.2.2.2.1 Z.2.2.2.2.2.1 hP r (by rw [ew_cs_get hr, hob]) hc k hk (by rw [t2, t3]; exact Z.2.2.2.2.1 _ hlink) (by rw [t1]; exact fun _ h => h) hv d (kk H locs ls hP hS hl)
/-- a field is written -/
theorem ez_put (Z : ew_Z C X cc nL own Ts rm rt) {b j ci k N index : Nat} {G : ew_G} {E : ew_M → ew_S} {M M' : ew_M} {T : u_T} {ty0 : Nat → FieldType} {fs : List Value} {nm ds : String} {ty : FieldType} {v : Value} (hE : ew_GE X b G E) (hj : j < ew_gn G) (hj0 : j < G.1.1) (hob : G.2.1 M.1 M.2.2 j = (ci, fs)) (hob' : G.2.1 M'.1 M'.2.2 j = (ci, fs.set k v))
    (ho : ∀ i, i < G.1.1 → i ≠ j → G.2.1 M'.1 M'.2.2 i = G.2.1 M.1 M.2.2 i) (hA : M'.2.1 = M.2.1) (hW : G.1.2.2 = 0 ∨ M'.2.2 = M.2.2)
    (hc : vwCl[ci]? = some (own, T, N)) (hin : ∀ w ∈ u_ws own T N, w ∈ Ts) (hty : ∀ k, k < N → parseFieldDescriptor (T k).2.2.1 = some (ty0 k)) (hnm : ∀ a, a < N → ∀ b, b < N → a ≠ b → (T a).2.1 ≠ (T b).2.1) (hk : k < N) (hT : T k = (own, nm, ds, false)) (hd : parseFieldDescriptor ds = some ty) (hn : narrow ty v = v) (hfit : fits ty v = true) (hlen : k < fs.length) (hlink : Cond.fieldLink own index own nm ds ∈ Ts) (d : decode cc pc = .ok (.putfield index, 3))
    (kk : ew_W C X nL (E M') (pc + 3) L st) : ew_W C X nL (E M) pc L (v :: .ref (X.2.1 (b + j)) :: st) := by
  intro H locs ls hP hS hl
  have t1 : (T k).1 = own := by rw [hT]
  have t2 : (T k).2.1 = nm := by rw [hT]
  have t3 : (T k).2.2.1 = ds := by rw [hT]
  have t4 : (T k).2.2.2 = false := by rw [hT]
  have hnr : b + j < ew_NR := by have := hE.2.2; omega
  have g1 : ew_ct X (E M) (b + j) = .inr (ci, fs) := by rw [hE.1 M j hj, ew_gc, if_pos hj0, hob]
  have e1 : ew_gc X.2.2.2.1 X.2.2.2.2.1 G M' j = .inr (ci, fs.set k v) := by rw [ew_gc, if_pos hj0, hob']
  have e2 : (ew_cs X (E M)).set (b + j) (X.2.1 (b + j), .inr (ci, fs.set k v)) = ew_cs X (E M') := by
    refine ew_cs_set hE hj e1 (fun i hi hij => ?_)
    simp only [ew_gc]
    by_cases h0 : i < G.1.1
    · rw [if_pos h0, if_pos h0, ho i h0 hij]
    · rw [if_neg h0, if_neg h0, hA]
      by_cases h1 : i < G.1.1 + G.1.2.1
      · rw [if_pos h1, if_pos h1]
      · rw [if_neg h1, if_neg h1]
        rcases hW with h | h
        · simp only [ew_gn] at hi
          omega
        · rw [h]
  refine va_put (D := X.1) (ci := ci) (v := v) (ty := ty) (C := own) (T := T) (N := N) (ref := own) (index := index) Z.1 Z.2.1 Z.2.2.2.2.1 hin ty0 hty hnm Z.2.2.2.1 Z.2.2.2.2.2.1 hP (ew_D Z.2.2.2.2.2.2.2.2.2.1 _) hS (b + j) (by rw [ew_cs_get hnr, g1]) hc k hk (by rw [t2, t3]; exact Z.2.2.2.2.1 _ hlink) (by rw [t1]; exact fun _ h => h) t4 (by rw [t3]; exact hd) hn hfit hlen d (fun H1 locs1 hP1 hD1 hS1 => ?_)
  rw [e2] at hP1
  exact kk H1 locs1 ls hP1 hS1 hl
/-- an int array is read -/
theorem ez_iald (Z : ew_Z C X cc nL own Ts rm rt) {b a n : Nat} {G : ew_G} {E : ew_M → ew_S} {M : ew_M} {i v : Int32} (hE : ew_GE X b G E) (j : Nat) (hj : j = G.1.1 + a) (ha : a < G.1.2.1) (hn : G.2.2 j = n) (hv : M.2.1 a i.toNatClampNeg = v) (hin : vp_in i n) (d : decode cc pc = .ok (.iaload, 1))
    (kk : ew_W C X nL (E M) (pc + 1) L (.int v :: st)) : ew_W C X nL (E M) pc L (.int i :: .ref (X.2.1 (b + j)) :: st) := by
  intro H locs ls hP hS hl
  subst hj
  have hjn : G.1.1 + a < ew_gn G := by simp only [ew_gn]; omega
  have hnr : b + (G.1.1 + a) < ew_NR := by have := hE.2.2; omega
  have g1 : ew_ct X (E M) (b + (G.1.1 + a)) = .inl (X.2.2.2.1, n, .inl (M.2.1 a)) := by
    rw [hE.1 M _ hjn, ew_gc, if_neg (by omega), if_pos (by omega), hn, show G.1.1 + a - G.1.1 = a by omega]
  subst hv
  exact va_iald (D := X.1) Z.1 Z.2.1 Z.2.2.2.2.2.1 hP (b + (G.1.1 + a)) 0 (cA := X.2.2.2.1) (n := n) (f := M.2.1 a) (by rw [ew_cs_get hnr, g1]) rfl hin d (kk H locs ls hP hS hl)
/-- a long array is read -/
theorem ez_lald (Z : ew_Z C X cc nL own Ts rm rt) {b a n : Nat} {G : ew_G} {E : ew_M → ew_S} {M : ew_M} {i : Int32} {v : Int64} (hE : ew_GE X b G E) (j : Nat) (hj : j = G.1.1 + G.1.2.1 + a) (ha : a < G.1.2.2) (hn : G.2.2 j = n) (hv : M.2.2 a i.toNatClampNeg = v) (hin : vp_in i n) (d : decode cc pc = .ok (.laload, 1))
    (kk : ew_W C X nL (E M) (pc + 1) L (.long v :: st)) : ew_W C X nL (E M) pc L (.int i :: .ref (X.2.1 (b + j)) :: st) := by
  intro H locs ls hP hS hl
  subst hj
  have hjn : G.1.1 + G.1.2.1 + a < ew_gn G := by simp only [ew_gn]; omega
  have hnr : b + (G.1.1 + G.1.2.1 + a) < ew_NR := by have := hE.2.2; omega
  have g1 : ew_ct X (E M) (b + (G.1.1 + G.1.2.1 + a)) = .inl (X.2.2.2.2.1, n, .inr (.inl (M.2.2 a))) := by
    rw [hE.1 M _ hjn, ew_gc, if_neg (by omega), if_neg (by omega), hn, show G.1.1 + G.1.2.1 + a - G.1.1 - G.1.2.1 = a by omega]
  subst hv
  exact va_lald (D := X.1) Z.1 Z.2.1 Z.2.2.2.2.2.1 hP (b + (G.1.1 + G.1.2.1 + a)) 1 (cA := X.2.2.2.2.1) (n := n) (f := M.2.2 a) (by rw [ew_cs_get hnr, g1]) rfl hin d (kk H locs ls hP hS hl)
/-- an int array is written -/
theorem ez_iast (Z : ew_Z C X cc nL own Ts rm rt) {b a n : Nat} {G : ew_G} {E : ew_M → ew_S} {M M' : ew_M} {i x : Int32} (hE : ew_GE X b G E) (j : Nat) (hj : j = G.1.1 + a) (ha : a < G.1.2.1) (hn : G.2.2 j = n) (hM : ew_sA M a i.toNatClampNeg x = M') (hin : vp_in i n) (d : decode cc pc = .ok (.iastore, 1))
    (kk : ew_W C X nL (E M') (pc + 1) L st) : ew_W C X nL (E M) pc L (.int x :: .int i :: .ref (X.2.1 (b + j)) :: st) := by
  intro H locs ls hP hS hl
  subst hj
  have hjn : G.1.1 + a < ew_gn G := by simp only [ew_gn]; omega
  have hnr : b + (G.1.1 + a) < ew_NR := by have := hE.2.2; omega
  have g1 : ew_ct X (E M) (b + (G.1.1 + a)) = .inl (X.2.2.2.1, n, .inl (M.2.1 a)) := by
    rw [hE.1 M _ hjn, ew_gc, if_neg (by omega), if_pos (by omega), hn, show G.1.1 + a - G.1.1 = a by omega]
  subst hM
  have e1 : ew_gc X.2.2.2.1 X.2.2.2.2.1 G (ew_sA M a i.toNatClampNeg x) (G.1.1 + a) = .inl (X.2.2.2.1, n, .inl (upd (M.2.1 a) i.toNatClampNeg x)) := by
    rw [ew_gc, if_neg (by omega), if_pos (by omega), hn, show G.1.1 + a - G.1.1 = a by omega]
    simp only [ew_sA, if_true]
  have e2 := ew_cs_set hE (M := M) hjn e1 (fun k hk hkj => by
    simp only [ew_gc, ew_sA]
    by_cases h0 : k < G.1.1
    · rw [if_pos h0, if_pos h0]
    · rw [if_neg h0, if_neg h0]
      by_cases h1 : k < G.1.1 + G.1.2.1
      · rw [if_pos h1, if_pos h1, if_neg (by omega)]
      · rw [if_neg h1, if_neg h1])
  refine va_iast (D := X.1) Z.1 Z.2.1 Z.2.2.2.2.2.1 hP (ew_D Z.2.2.2.2.2.2.2.2.2.1 _) hS (b + (G.1.1 + a)) 0 (cA := X.2.2.2.1) (n := n) (f := M.2.1 a) (by rw [ew_cs_get hnr, g1]) rfl hin d (fun H1 locs1 hP1 hD1 hS1 => ?_)
  rw [e2] at hP1
  exact kk H1 locs1 ls hP1 hS1 hl
/-- a long array is written -/
theorem ez_last (Z : ew_Z C X cc nL own Ts rm rt) {b a n : Nat} {G : ew_G} {E : ew_M → ew_S} {M M' : ew_M} {i : Int32} {x : Int64} (hE : ew_GE X b G E) (j : Nat) (hj : j = G.1.1 + G.1.2.1 + a) (ha : a < G.1.2.2) (hn : G.2.2 j = n) (hob : ∀ (w w' : Nat → Nat → Int64) (i : Nat), G.2.1 M.1 w i = G.2.1 M.1 w' i) (hM : ew_sW M a i.toNatClampNeg x = M') (hin : vp_in i n) (d : decode cc pc = .ok (.lastore, 1))
    (kk : ew_W C X nL (E M') (pc + 1) L st) : ew_W C X nL (E M) pc L (.long x :: .int i :: .ref (X.2.1 (b + j)) :: st) := by
  intro H locs ls hP hS hl
  subst hj
  have hjn : G.1.1 + G.1.2.1 + a < ew_gn G := by simp only [ew_gn]; omega
  have hnr : b + (G.1.1 + G.1.2.1 + a) < ew_NR := by have := hE.2.2; omega
  have g1 : ew_ct X (E M) (b + (G.1.1 + G.1.2.1 + a)) = .inl (X.2.2.2.2.1, n, .inr (.inl (M.2.2 a))) := by
    rw [hE.1 M _ hjn, ew_gc, if_neg (by omega), if_neg (by omega), hn, show G.1.1 + G.1.2.1 + a - G.1.1 - G.1.2.1 = a by omega]
  subst hM
  have e1 : ew_gc X.2.2.2.1 X.2.2.2.2.1 G (ew_sW M a i.toNatClampNeg x) (G.1.1 + G.1.2.1 + a) = .inl (X.2.2.2.2.1, n, .inr (.inl (vp_updL (M.2.2 a) i.toNatClampNeg x))) := by
    rw [ew_gc, if_neg (by omega), if_neg (by omega), hn, show G.1.1 + G.1.2.1 + a - G.1.1 - G.1.2.1 = a by omega]
    simp only [ew_sW, if_true]
  have e2 := ew_cs_set hE (M := M) hjn e1 (fun k hk hkj => by
    simp only [ew_gc, ew_sW]
    by_cases h0 : k < G.1.1
    · rw [if_pos h0, if_pos h0, hob _ M.2.2]
    · rw [if_neg h0, if_neg h0]
      by_cases h1 : k < G.1.1 + G.1.2.1
      · rw [if_pos h1, if_pos h1]
      · rw [if_neg h1, if_neg h1, if_neg (by omega)])
  refine va_last (D := X.1) Z.1 Z.2.1 Z.2.2.2.2.2.1 hP (ew_D Z.2.2.2.2.2.2.2.2.2.1 _) hS (b + (G.1.1 + G.1.2.1 + a)) 1 (cA := X.2.2.2.2.1) (n := n) (f := M.2.2 a) (by rw [ew_cs_get hnr, g1]) rfl hin d (fun H1 locs1 hP1 hD1 hS1 => ?_)
  rw [e2] at hP1
  exact kk H1 locs1 ls hP1 hS1 hl
/-- a whole int array is copied over another -/
theorem ez_copyi (Z : ew_Z C X cc nL own Ts rm rt) {b a n b2 a2 index : Nat} {G G2 : ew_G} {E E2 : ew_M → ew_S} {M M' M2 : ew_M} {cn : Int32} (hE : ew_GE X b G E) (hE2 : ew_GE X b2 G2 E2) (hEE : E M = E2 M2) (j j2 : Nat) (hj : j = G.1.1 + a) (ha : a < G.1.2.1) (hn : G.2.2 j = n) (hj2 : j2 = G2.1.1 + a2) (ha2 : a2 < G2.1.2.1) (hn2 : G2.2.2 j2 = n) (hc : cn.toNatClampNeg = n) (hc0 : ¬ cn < 0)
    (hM : (M.1, (fun k => if k = a then M2.2.1 a2 else M.2.1 k), M.2.2) = M') (hlink : Cond.methodLink own index arraycopyName ∈ Ts) (hnat : Cond.native arraycopyName ∈ Ts) (hstat : Cond.static arraycopyName ∈ Ts) (hini : Cond.initialized "java/lang/System" ∈ Ts) (hf : 1 ≤ rm.frames) (hlo : (st.map fun v => v.category).sum + (nativeFrameWords "java/lang/System" "arraycopy" 5 + 11) ≤ rm.locals) (d : decode cc pc = .ok (.invokestatic index, 3))
    (kk : ew_W C X nL (E M') (pc + 3) L st) : ew_W C X nL (E M) pc L (.int cn :: .int 0 :: .ref (X.2.1 (b + j)) :: .int 0 :: .ref (X.2.1 (b2 + j2)) :: st) := by
  intro H locs ls hP hS hl
  subst hj
  subst hj2
  have hjn : G.1.1 + a < ew_gn G := by simp only [ew_gn]; omega
  have hjn2 : G2.1.1 + a2 < ew_gn G2 := by simp only [ew_gn]; omega
  have hnr : b + (G.1.1 + a) < ew_NR := by have := hE.2.2; omega
  have hnr2 : b2 + (G2.1.1 + a2) < ew_NR := by have := hE2.2.2; omega
  have g1 : ew_ct X (E M) (b + (G.1.1 + a)) = .inl (X.2.2.2.1, n, .inl (M.2.1 a)) := by
    rw [hE.1 M _ hjn, ew_gc, if_neg (by omega), if_pos (by omega), hn, show G.1.1 + a - G.1.1 = a by omega]
  have g2 : ew_ct X (E M) (b2 + (G2.1.1 + a2)) = .inl (X.2.2.2.1, n, .inl (M2.2.1 a2)) := by
    rw [hEE, hE2.1 M2 _ hjn2, ew_gc, if_neg (by omega), if_pos (by omega), hn2, show G2.1.1 + a2 - G2.1.1 = a2 by omega]
  subst hM
  have e1 : ew_gc X.2.2.2.1 X.2.2.2.2.1 G (M.1, (fun k => if k = a then M2.2.1 a2 else M.2.1 k), M.2.2) (G.1.1 + a) = .inl (X.2.2.2.1, n, .inl (M2.2.1 a2)) := by
    rw [ew_gc, if_neg (by omega), if_pos (by omega), hn, show G.1.1 + a - G.1.1 = a by omega]
    simp only [if_true]
  have e2 := ew_cs_set hE (M := M) hjn e1 (fun k hk hkj => by
    simp only [ew_gc]
    by_cases h0 : k < G.1.1
    · rw [if_pos h0, if_pos h0]
    · rw [if_neg h0, if_neg h0]
      by_cases h1 : k < G.1.1 + G.1.2.1
      · rw [if_pos h1, if_pos h1, if_neg (by omega)]
      · rw [if_neg h1, if_neg h1])
  have q0 : (0 : Int32).toNatClampNeg = 0 := by decide
  refine va_copyi (D := X.1) Z.1 Z.2.1 (by rw [Z.2.2.1]; exact hl.1.symm) Z.2.2.2.1 (Z.2.2.2.2.1 _ hlink) (Z.2.2.2.2.1 _ hnat) (Z.2.2.2.2.1 _ hstat) (Z.2.2.2.2.1 _ hini) Z.2.2.2.2.2.1 hP (ew_D Z.2.2.2.2.2.2.2.2.2.1 _) hS (b2 + (G2.1.1 + a2)) (b + (G.1.1 + a)) 0 0 (c0 := X.2.2.2.1) (c1 := X.2.2.2.1) (n0 := n) (n1 := n) (f := M2.2.1 a2) (g := M.2.1 a) (ty := .int) (by rw [ew_cs_get hnr2, g2]) (by rw [ew_cs_get hnr, g1]) rfl rfl rfl (by decide) (by decide) hc0 (by rw [q0, hc]; omega) (by rw [q0, hc]; omega) (fun _ _ => rfl) (by rw [Z.2.2.2.2.2.2.2.2.1]; exact hf) (by rw [Z.2.2.2.2.2.2.2.2.1]; exact hlo) d (fun H1 locs1 hP1 hD1 hS1 => ?_)
  rw [q0, hc] at hP1
  have hP2 : va_P X.1 vwCl ((ew_cs X (E M)).set (b + (G.1.1 + a)) (X.2.1 (b + (G.1.1 + a)), .inl (X.2.2.2.1, n, .inl (M2.2.1 a2)))) H1 := by
    intro k q hk
    by_cases hkp : k = b + (G.1.1 + a)
    · subst hkp
      have hlen : b + (G.1.1 + a) < (ew_cs X (E M)).length := by simp [ew_cs]; omega
      have h0 := hP1 (b + (G.1.1 + a)) _ (List.getElem?_set_self hlen)
      rw [List.getElem?_set_self hlen] at hk
      cases hk
      have h1 : H1[X.2.1 (b + (G.1.1 + a))]? = some (vp_cell X.2.2.2.1 (n, .inl (va_cpy (M2.2.1 a2) (M.2.1 a) 0 0 n))) := h0
      show H1[X.2.1 (b + (G.1.1 + a))]? = some (vp_cell X.2.2.2.1 (n, .inl (M2.2.1 a2)))
      rw [h1]
      exact congrArg some (ew_cell_eq (fun j hj => by simp only [va_cpy]; rw [if_pos ⟨by omega, by omega⟩]; simp))
    · rw [List.getElem?_set_ne (Ne.symm hkp)] at hk
      exact hP1 k q (by rw [List.getElem?_set_ne (Ne.symm hkp)]; exact hk)
  rw [e2] at hP2
  exact kk H1 locs1 ls hP2 hS1 hl
/-- a whole long array is copied over another -/
theorem ez_copyl (Z : ew_Z C X cc nL own Ts rm rt) {b a n b2 a2 index : Nat} {G G2 : ew_G} {E E2 : ew_M → ew_S} {M M' M2 : ew_M} {cn : Int32} (hE : ew_GE X b G E) (hE2 : ew_GE X b2 G2 E2) (hEE : E M = E2 M2) (j j2 : Nat) (hj : j = G.1.1 + G.1.2.1 + a) (ha : a < G.1.2.2) (hn : G.2.2 j = n) (hj2 : j2 = G2.1.1 + G2.1.2.1 + a2) (ha2 : a2 < G2.1.2.2) (hn2 : G2.2.2 j2 = n) (hob : ∀ (w w' : Nat → Nat → Int64) (i : Nat), G.2.1 M.1 w i = G.2.1 M.1 w' i) (hc : cn.toNatClampNeg = n) (hc0 : ¬ cn < 0)
    (hM : (M.1, M.2.1, (fun k => if k = a then M2.2.2 a2 else M.2.2 k)) = M') (hlink : Cond.methodLink own index arraycopyName ∈ Ts) (hnat : Cond.native arraycopyName ∈ Ts) (hstat : Cond.static arraycopyName ∈ Ts) (hini : Cond.initialized "java/lang/System" ∈ Ts) (hf : 1 ≤ rm.frames) (hlo : (st.map fun v => v.category).sum + (nativeFrameWords "java/lang/System" "arraycopy" 5 + 11) ≤ rm.locals) (d : decode cc pc = .ok (.invokestatic index, 3))
    (kk : ew_W C X nL (E M') (pc + 3) L st) : ew_W C X nL (E M) pc L (.int cn :: .int 0 :: .ref (X.2.1 (b + j)) :: .int 0 :: .ref (X.2.1 (b2 + j2)) :: st) := by
  intro H locs ls hP hS hl
  subst hj
  subst hj2
  have hjn : G.1.1 + G.1.2.1 + a < ew_gn G := by simp only [ew_gn]; omega
  have hjn2 : G2.1.1 + G2.1.2.1 + a2 < ew_gn G2 := by simp only [ew_gn]; omega
  have hnr : b + (G.1.1 + G.1.2.1 + a) < ew_NR := by have := hE.2.2; omega
  have hnr2 : b2 + (G2.1.1 + G2.1.2.1 + a2) < ew_NR := by have := hE2.2.2; omega
  have g1 : ew_ct X (E M) (b + (G.1.1 + G.1.2.1 + a)) = .inl (X.2.2.2.2.1, n, .inr (.inl (M.2.2 a))) := by
    rw [hE.1 M _ hjn, ew_gc, if_neg (by omega), if_neg (by omega), hn, show G.1.1 + G.1.2.1 + a - G.1.1 - G.1.2.1 = a by omega]
  have g2 : ew_ct X (E M) (b2 + (G2.1.1 + G2.1.2.1 + a2)) = .inl (X.2.2.2.2.1, n, .inr (.inl (M2.2.2 a2))) := by
    rw [hEE, hE2.1 M2 _ hjn2, ew_gc, if_neg (by omega), if_neg (by omega), hn2, show G2.1.1 + G2.1.2.1 + a2 - G2.1.1 - G2.1.2.1 = a2 by omega]
  subst hM
  have e1 : ew_gc X.2.2.2.1 X.2.2.2.2.1 G (M.1, M.2.1, (fun k => if k = a then M2.2.2 a2 else M.2.2 k)) (G.1.1 + G.1.2.1 + a) = .inl (X.2.2.2.2.1, n, .inr (.inl (M2.2.2 a2))) := by
    rw [ew_gc, if_neg (by omega), if_neg (by omega), hn, show G.1.1 + G.1.2.1 + a - G.1.1 - G.1.2.1 = a by omega]
    simp only [if_true]
  have e2 := ew_cs_set hE (M := M) hjn e1 (fun k hk hkj => by
    simp only [ew_gc]
    by_cases h0 : k < G.1.1
    · rw [if_pos h0, if_pos h0, hob _ M.2.2]
    · rw [if_neg h0, if_neg h0]
      by_cases h1 : k < G.1.1 + G.1.2.1
      · rw [if_pos h1, if_pos h1]
      · rw [if_neg h1, if_neg h1, if_neg (by omega)])
  have q0 : (0 : Int32).toNatClampNeg = 0 := by decide
  refine va_copyl (D := X.1) Z.1 Z.2.1 (by rw [Z.2.2.1]; exact hl.1.symm) Z.2.2.2.1 (Z.2.2.2.2.1 _ hlink) (Z.2.2.2.2.1 _ hnat) (Z.2.2.2.2.1 _ hstat) (Z.2.2.2.2.1 _ hini) Z.2.2.2.2.2.1 hP (ew_D Z.2.2.2.2.2.2.2.2.2.1 _) hS (b2 + (G2.1.1 + G2.1.2.1 + a2)) (b + (G.1.1 + G.1.2.1 + a)) 1 1 (c0 := X.2.2.2.2.1) (c1 := X.2.2.2.2.1) (n0 := n) (n1 := n) (f := M2.2.2 a2) (g := M.2.2 a) (ty := .long) (by rw [ew_cs_get hnr2, g2]) (by rw [ew_cs_get hnr, g1]) rfl rfl rfl (by decide) (by decide) hc0 (by rw [q0, hc]; omega) (by rw [q0, hc]; omega) (fun _ _ => rfl) (by rw [Z.2.2.2.2.2.2.2.2.1]; exact hf) (by rw [Z.2.2.2.2.2.2.2.2.1]; exact hlo) d (fun H1 locs1 hP1 hD1 hS1 => ?_)
  rw [q0, hc] at hP1
  have hP2 : va_P X.1 vwCl ((ew_cs X (E M)).set (b + (G.1.1 + G.1.2.1 + a)) (X.2.1 (b + (G.1.1 + G.1.2.1 + a)), .inl (X.2.2.2.2.1, n, .inr (.inl (M2.2.2 a2))))) H1 := by
    intro k q hk
    by_cases hkp : k = b + (G.1.1 + G.1.2.1 + a)
    · subst hkp
      have hlen : b + (G.1.1 + G.1.2.1 + a) < (ew_cs X (E M)).length := by simp [ew_cs]; omega
      have h0 := hP1 (b + (G.1.1 + G.1.2.1 + a)) _ (List.getElem?_set_self hlen)
      rw [List.getElem?_set_self hlen] at hk
      cases hk
      have h1 : H1[X.2.1 (b + (G.1.1 + G.1.2.1 + a))]? = some (vp_cell X.2.2.2.2.1 (n, .inr (.inl (va_cpy (M2.2.2 a2) (M.2.2 a) 0 0 n)))) := h0
      show H1[X.2.1 (b + (G.1.1 + G.1.2.1 + a))]? = some (vp_cell X.2.2.2.2.1 (n, .inr (.inl (M2.2.2 a2))))
      rw [h1]
      exact congrArg some (ew_cell_eqL (fun j hj => by simp only [va_cpy]; rw [if_pos ⟨by omega, by omega⟩]; simp))
    · rw [List.getElem?_set_ne (Ne.symm hkp)] at hk
      exact hP1 k q (by rw [List.getElem?_set_ne (Ne.symm hkp)]; exact hk)
  rw [e2] at hP2
  exact kk H1 locs1 ls hP2 hS1 hl
/-- ends -/
theorem ez_iret (Z : ew_Z C X cc nL own Ts rm (some .int)) {T : Type} {Qp : Int32 → T → Prop} {F : T → ew_S} (hR : C.2.2.2.2.2.2.2.2.2.2 = MQ C.2.2.2.2.2.2.2.1 (va_Qi Qp (fun u => ew_wd X (F u)) X.2.2.1) C.2.2.2.2.2.2.1 C.2.2.2.2.1 0 0 X.2.2.1) (u : T) {v : Int32} (hq : Qp v u) (hu : F u = S) (d : decode cc pc = .ok (.ireturn, 1)) : ew_W C X nL S pc L [.int v] := by
  intro H locs ls hP hS hl
  rw [hR]
  subst hu
  exact W.iret (hlocks := Z.2.2.2.2.2.2.1) Z.1 Z.2.1 Z.2.2.2.2.2.2.2.1 (fun t ht hW => ⟨⟨v, u, rfl, hq, ⟨by rw [ht]; exact hP, va_K.moved hW.alike Z.2.2.2.2.2.1, Z.2.2.2.2.2.2.2.2.2.2.warm ht hW hS⟩⟩, hS.F ht⟩) hS.2.2 d
theorem ez_zret (Z : ew_Z C X cc nL own Ts rm (some .boolean)) {T : Type} {Qp : Int32 → T → Prop} {F : T → ew_S} (hR : C.2.2.2.2.2.2.2.2.2.2 = MQ C.2.2.2.2.2.2.2.1 (va_Qi Qp (fun u => ew_wd X (F u)) X.2.2.1) C.2.2.2.2.2.2.1 C.2.2.2.2.1 0 0 X.2.2.1) (u : T) {v : Int32} (hn : narrow .boolean (.int v) = .int v) (hq : Qp v u) (hu : F u = S) (d : decode cc pc = .ok (.ireturn, 1)) : ew_W C X nL S pc L [.int v] := by
  intro H locs ls hP hS hl
  rw [hR]
  subst hu
  exact W.zret (hlocks := Z.2.2.2.2.2.2.1) Z.1 Z.2.1 Z.2.2.2.2.2.2.2.1 hn (fun t ht hW => ⟨⟨v, u, rfl, hq, ⟨by rw [ht]; exact hP, va_K.moved hW.alike Z.2.2.2.2.2.1, Z.2.2.2.2.2.2.2.2.2.2.warm ht hW hS⟩⟩, hS.F ht⟩) hS.2.2 d
theorem ez_lret (Z : ew_Z C X cc nL own Ts rm (some .long)) {T : Type} {Qp : Int64 → T → Prop} {F : T → ew_S} (hR : C.2.2.2.2.2.2.2.2.2.2 = MQ C.2.2.2.2.2.2.2.1 (va_Ql Qp (fun u => ew_wd X (F u)) X.2.2.1) C.2.2.2.2.2.2.1 C.2.2.2.2.1 0 0 X.2.2.1) (u : T) {v : Int64} (hq : Qp v u) (hu : F u = S) (d : decode cc pc = .ok (.lreturn, 1)) : ew_W C X nL S pc L [.long v] := by
  intro H locs ls hP hS hl
  rw [hR]
  subst hu
  exact W.lret (hlocks := Z.2.2.2.2.2.2.1) Z.1 Z.2.1 Z.2.2.2.2.2.2.2.1 (fun t ht hW => ⟨⟨v, u, rfl, hq, ⟨by rw [ht]; exact hP, va_K.moved hW.alike Z.2.2.2.2.2.1, Z.2.2.2.2.2.2.2.2.2.2.warm ht hW hS⟩⟩, hS.F ht⟩) hS.2.2 d
theorem ez_vret (Z : ew_Z C X cc nL own Ts rm none) {T : Type} {Qp : T → Prop} {F : T → ew_S} (hR : C.2.2.2.2.2.2.2.2.2.2 = MQ C.2.2.2.2.2.2.2.1 (va_Qv Qp (fun u => ew_wd X (F u)) X.2.2.1) C.2.2.2.2.2.2.1 C.2.2.2.2.1 0 0 X.2.2.1) (u : T) (hq : Qp u) (hu : F u = S) (d : decode cc pc = .ok (.return_, 1)) : ew_W C X nL S pc L [] := by
  intro H locs ls hP hS hl
  rw [hR]
  subst hu
  exact W.vret (hlocks := Z.2.2.2.2.2.2.1) Z.1 Z.2.1 Z.2.2.2.2.2.2.2.1 (fun t ht hW => ⟨⟨u, rfl, hq, ⟨by rw [ht]; exact hP, va_K.moved hW.alike Z.2.2.2.2.2.1, Z.2.2.2.2.2.2.2.2.2.2.warm ht hW hS⟩⟩, hS.F ht⟩) hS.2.2 d
/-- a call's start -/
theorem ew_blind {av : List Value} : FrameBlind (va_Pc av (ew_wd X S)) := fun a U g mk q => by
  obtain ⟨q0, q1, q2, q3⟩ := q
  exact ⟨q0, q1, va_K.moved (u := U) (U := U.calling g mk a) (Vm.Alike.refl U.vm) q2, q3.1.same rfl rfl, vk_R.same rfl q3.2.1, (q3.2.2.1.moved (Vm.Alike.refl U.vm)), (q3.2.2.2.moved (Vm.Alike.refl U.vm))⟩
theorem ew_pre (Z : ew_Z C X cc nL own Ts rm rt) {H : Heap} {locs : List Loc} {av : List Value} (hP : va_P X.1 vwCl (ew_cs X S) H) (hS : va_S X.2.2.1 C.2.2.2.2.1.heap H locs) : ∀ U : State, U.heap = H → C.2.2.2.2.1.WarmedH U.vm → va_Pc av (ew_wd X S) av.toArray U :=
  fun U hU hW => ⟨rfl, by rw [hU]; exact hP, va_K.moved hW.alike Z.2.2.2.2.2.1, Z.2.2.2.2.2.2.2.2.2.2.warm hU hW hS⟩
theorem ew_free (Z : ew_Z C X cc nL own Ts rm rt) : ∀ q, X.2.2.1 q → X.2.2.1 q := fun _ h => h
theorem ez_callVi (Z : ew_Z C X cc nL own Ts rm rt) {T : Type} {Qp : Int32 → T → Prop} {F : T → ew_S} {y : MethodName} {ws ws' : List Cond} {rmc : Room} {bytes : ByteArray} {maxL index n : Nat} {ret : Option FieldType} {Cn : String} {Tt : u_T} {N ci r : Nat} {As st0 : List Value}
    (hM : Met C.2.1 y ws rmc (va_Pc (.ref (X.2.1 r) :: As) (ew_wd X S)) (va_Qi Qp (fun u => ew_wd X (F u)) X.2.2.1) 0 0 X.2.2.1) (hg : GoodIn Ts (wsV own index Cn y ws)) (hw : ws = Cond.code y bytes maxL ret :: ws') (hrc : rmc.cells = 0) (hrs : rmc.slots = 0) (hd : y.cls = Cn ∧ y.cls ≠ "java/lang/invoke/MethodHandle" ∧ y.cls ≠ "java/lang/invoke/VarHandle" ∧ (parseMethodDescriptor y.desc).map (fun d => d.parameters.length) = some n) (hf : Nat.ble (rmc.frames + 1) rm.frames = true) (hlo : Nat.ble (8 + (maxL + 11) + rmc.locals) rm.locals = true)
    (hr : r < ew_NR) (hob : ∃ fs, ew_ct X S r = .inr (ci, fs)) (hc : vwCl[ci]? = some (Cn, Tt, N)) (hn : As.length = n) (hst : st0 = As.reverse ++ .ref (X.2.1 r) :: st) (hcat : Nat.ble (st.map fun v => v.category).sum 8 = true) (d : decode cc pc = .ok (.invokevirtual index, 3))
    (kk : ∀ (v : Int32) (u : T), Qp v u → ew_W C X nL (F u) (pc + 3) L (.int v :: st)) : ew_W C X nL S pc L st0 := by
  intro H locs ls hP hS hl
  subst hst
  obtain ⟨fs, hob⟩ := hob
  have hR := Z.2.2.2.2.2.2.2.2.1
  refine va_calli (va_runV (As := As) (rest := st) ⟨Z.1, Z.2.1, Z.2.2.1, Z.2.2.2.1, Z.2.2.2.2.1⟩ hM (cwV n Z.2.2.2.2.1 hg hw hrc hrs hd ⟨by rw [hR]; exact Nat.le_of_ble_eq_true hf, by rw [hR]; exact Nat.le_of_ble_eq_true hlo⟩) ⟨ew_blind, va_recv (tys := [(X.2.2.2.1, .int), (X.2.2.2.2.1, .long)]) Z.2.2.2.2.2.1 hP hc (q0 := r) (fs := fs) (by rw [ew_cs_get hr, hob]), ew_pre Z hP hS⟩ rfl hn hl.1 rfl (lv_room (Nat.le_of_ble_eq_true hcat)) d ⟨Nat.zero_le _, Nat.zero_le _⟩) hS (fun q _ h => h) (fun q h => h) (fun v u t H1 locs1 ht hvm hw hB hz1 hk1 hS1 => kk v u hw H1 locs1 ls (by rw [← ht]; exact hB.1) hS1 hl)
theorem ez_callVl (Z : ew_Z C X cc nL own Ts rm rt) {T : Type} {Qp : Int64 → T → Prop} {F : T → ew_S} {y : MethodName} {ws ws' : List Cond} {rmc : Room} {bytes : ByteArray} {maxL index n : Nat} {ret : Option FieldType} {Cn : String} {Tt : u_T} {N ci r : Nat} {As st0 : List Value}
    (hM : Met C.2.1 y ws rmc (va_Pc (.ref (X.2.1 r) :: As) (ew_wd X S)) (va_Ql Qp (fun u => ew_wd X (F u)) X.2.2.1) 0 0 X.2.2.1) (hg : GoodIn Ts (wsV own index Cn y ws)) (hw : ws = Cond.code y bytes maxL ret :: ws') (hrc : rmc.cells = 0) (hrs : rmc.slots = 0) (hd : y.cls = Cn ∧ y.cls ≠ "java/lang/invoke/MethodHandle" ∧ y.cls ≠ "java/lang/invoke/VarHandle" ∧ (parseMethodDescriptor y.desc).map (fun d => d.parameters.length) = some n) (hf : Nat.ble (rmc.frames + 1) rm.frames = true) (hlo : Nat.ble (8 + (maxL + 11) + rmc.locals) rm.locals = true)
    (hr : r < ew_NR) (hob : ∃ fs, ew_ct X S r = .inr (ci, fs)) (hc : vwCl[ci]? = some (Cn, Tt, N)) (hn : As.length = n) (hst : st0 = As.reverse ++ .ref (X.2.1 r) :: st) (hcat : Nat.ble (st.map fun v => v.category).sum 8 = true) (d : decode cc pc = .ok (.invokevirtual index, 3))
    (kk : ∀ (v : Int64) (u : T), Qp v u → ew_W C X nL (F u) (pc + 3) L (.long v :: st)) : ew_W C X nL S pc L st0 := by
  intro H locs ls hP hS hl
  subst hst
  obtain ⟨fs, hob⟩ := hob
  have hR := Z.2.2.2.2.2.2.2.2.1
  refine va_calll (va_runV (As := As) (rest := st) ⟨Z.1, Z.2.1, Z.2.2.1, Z.2.2.2.1, Z.2.2.2.2.1⟩ hM (cwV n Z.2.2.2.2.1 hg hw hrc hrs hd ⟨by rw [hR]; exact Nat.le_of_ble_eq_true hf, by rw [hR]; exact Nat.le_of_ble_eq_true hlo⟩) ⟨ew_blind, va_recv (tys := [(X.2.2.2.1, .int), (X.2.2.2.2.1, .long)]) Z.2.2.2.2.2.1 hP hc (q0 := r) (fs := fs) (by rw [ew_cs_get hr, hob]), ew_pre Z hP hS⟩ rfl hn hl.1 rfl (lv_room (Nat.le_of_ble_eq_true hcat)) d ⟨Nat.zero_le _, Nat.zero_le _⟩) hS (fun q _ h => h) (fun q h => h) (fun v u t H1 locs1 ht hvm hw hB hz1 hk1 hS1 => kk v u hw H1 locs1 ls (by rw [← ht]; exact hB.1) hS1 hl)
theorem ez_callVv (Z : ew_Z C X cc nL own Ts rm rt) {T : Type} {Qp : T → Prop} {F : T → ew_S} {y : MethodName} {ws ws' : List Cond} {rmc : Room} {bytes : ByteArray} {maxL index n : Nat} {ret : Option FieldType} {Cn : String} {Tt : u_T} {N ci r : Nat} {As st0 : List Value}
    (hM : Met C.2.1 y ws rmc (va_Pc (.ref (X.2.1 r) :: As) (ew_wd X S)) (va_Qv Qp (fun u => ew_wd X (F u)) X.2.2.1) 0 0 X.2.2.1) (hg : GoodIn Ts (wsV own index Cn y ws)) (hw : ws = Cond.code y bytes maxL ret :: ws') (hrc : rmc.cells = 0) (hrs : rmc.slots = 0) (hd : y.cls = Cn ∧ y.cls ≠ "java/lang/invoke/MethodHandle" ∧ y.cls ≠ "java/lang/invoke/VarHandle" ∧ (parseMethodDescriptor y.desc).map (fun d => d.parameters.length) = some n) (hf : Nat.ble (rmc.frames + 1) rm.frames = true) (hlo : Nat.ble (8 + (maxL + 11) + rmc.locals) rm.locals = true)
    (hr : r < ew_NR) (hob : ∃ fs, ew_ct X S r = .inr (ci, fs)) (hc : vwCl[ci]? = some (Cn, Tt, N)) (hn : As.length = n) (hst : st0 = As.reverse ++ .ref (X.2.1 r) :: st) (hcat : Nat.ble (st.map fun v => v.category).sum 8 = true) (d : decode cc pc = .ok (.invokevirtual index, 3))
    (kk : ∀ (u : T), Qp u → ew_W C X nL (F u) (pc + 3) L st) : ew_W C X nL S pc L st0 := by
  intro H locs ls hP hS hl
  subst hst
  obtain ⟨fs, hob⟩ := hob
  have hR := Z.2.2.2.2.2.2.2.2.1
  refine va_callv (va_runV (As := As) (rest := st) ⟨Z.1, Z.2.1, Z.2.2.1, Z.2.2.2.1, Z.2.2.2.2.1⟩ hM (cwV n Z.2.2.2.2.1 hg hw hrc hrs hd ⟨by rw [hR]; exact Nat.le_of_ble_eq_true hf, by rw [hR]; exact Nat.le_of_ble_eq_true hlo⟩) ⟨ew_blind, va_recv (tys := [(X.2.2.2.1, .int), (X.2.2.2.2.1, .long)]) Z.2.2.2.2.2.1 hP hc (q0 := r) (fs := fs) (by rw [ew_cs_get hr, hob]), ew_pre Z hP hS⟩ rfl hn hl.1 rfl (lv_room (Nat.le_of_ble_eq_true hcat)) d ⟨Nat.zero_le _, Nat.zero_le _⟩) hS (fun q _ h => h) (fun q h => h) (fun u t H1 locs1 ht hvm hw hB hz1 hk1 hS1 => kk u hw H1 locs1 ls (by rw [← ht]; exact hB.1) hS1 hl)
theorem ez_callSi (Z : ew_Z C X cc nL own Ts rm rt) {T : Type} {Qp : Int32 → T → Prop} {F : T → ew_S} {y : MethodName} {ws ws' : List Cond} {rmc : Room} {bytes : ByteArray} {maxL index n : Nat} {ret : Option FieldType} {As st0 : List Value}
    (hM : Met C.2.1 y ws rmc (va_Pc As (ew_wd X S)) (va_Qi Qp (fun u => ew_wd X (F u)) X.2.2.1) 0 0 X.2.2.1) (hg : GoodIn Ts (va_wsS own index y ws)) (hw : ws = Cond.code y bytes maxL ret :: ws') (hrc : rmc.cells = 0) (hrs : rmc.slots = 0) (hd : y.cls ≠ "java/lang/invoke/MethodHandle" ∧ y.cls ≠ "java/lang/invoke/VarHandle" ∧ (parseMethodDescriptor y.desc).map (fun d => d.parameters.length) = some n) (hf : Nat.ble (rmc.frames + 1) rm.frames = true) (hlo : Nat.ble (8 + (maxL + 11) + rmc.locals) rm.locals = true)
    (hn : As.length = n) (hst : st0 = As.reverse ++ st) (hcat : Nat.ble (st.map fun v => v.category).sum 8 = true) (d : decode cc pc = .ok (.invokestatic index, 3))
    (kk : ∀ (v : Int32) (u : T), Qp v u → ew_W C X nL (F u) (pc + 3) L (.int v :: st)) : ew_W C X nL S pc L st0 := by
  intro H locs ls hP hS hl
  subst hst
  have hR := Z.2.2.2.2.2.2.2.2.1
  refine va_calli (va_runS (As := As) (rest := st) ⟨Z.1, Z.2.1, Z.2.2.1, Z.2.2.2.1, Z.2.2.2.2.1⟩ hM (va_cwS n Z.2.2.2.2.1 hg hw hrc hrs hd ⟨by rw [hR]; exact Nat.le_of_ble_eq_true hf, by rw [hR]; exact Nat.le_of_ble_eq_true hlo⟩) ⟨ew_blind, ew_pre Z hP hS⟩ rfl hn hl.1 rfl (lv_room (Nat.le_of_ble_eq_true hcat)) d ⟨Nat.zero_le _, Nat.zero_le _⟩) hS (fun q _ h => h) (fun q h => h) (fun v u t H1 locs1 ht hvm hw hB hz1 hk1 hS1 => kk v u hw H1 locs1 ls (by rw [← ht]; exact hB.1) hS1 hl)
theorem ez_callSl (Z : ew_Z C X cc nL own Ts rm rt) {T : Type} {Qp : Int64 → T → Prop} {F : T → ew_S} {y : MethodName} {ws ws' : List Cond} {rmc : Room} {bytes : ByteArray} {maxL index n : Nat} {ret : Option FieldType} {As st0 : List Value}
    (hM : Met C.2.1 y ws rmc (va_Pc As (ew_wd X S)) (va_Ql Qp (fun u => ew_wd X (F u)) X.2.2.1) 0 0 X.2.2.1) (hg : GoodIn Ts (va_wsS own index y ws)) (hw : ws = Cond.code y bytes maxL ret :: ws') (hrc : rmc.cells = 0) (hrs : rmc.slots = 0) (hd : y.cls ≠ "java/lang/invoke/MethodHandle" ∧ y.cls ≠ "java/lang/invoke/VarHandle" ∧ (parseMethodDescriptor y.desc).map (fun d => d.parameters.length) = some n) (hf : Nat.ble (rmc.frames + 1) rm.frames = true) (hlo : Nat.ble (8 + (maxL + 11) + rmc.locals) rm.locals = true)
    (hn : As.length = n) (hst : st0 = As.reverse ++ st) (hcat : Nat.ble (st.map fun v => v.category).sum 8 = true) (d : decode cc pc = .ok (.invokestatic index, 3))
    (kk : ∀ (v : Int64) (u : T), Qp v u → ew_W C X nL (F u) (pc + 3) L (.long v :: st)) : ew_W C X nL S pc L st0 := by
  intro H locs ls hP hS hl
  subst hst
  have hR := Z.2.2.2.2.2.2.2.2.1
  refine va_calll (va_runS (As := As) (rest := st) ⟨Z.1, Z.2.1, Z.2.2.1, Z.2.2.2.1, Z.2.2.2.2.1⟩ hM (va_cwS n Z.2.2.2.2.1 hg hw hrc hrs hd ⟨by rw [hR]; exact Nat.le_of_ble_eq_true hf, by rw [hR]; exact Nat.le_of_ble_eq_true hlo⟩) ⟨ew_blind, ew_pre Z hP hS⟩ rfl hn hl.1 rfl (lv_room (Nat.le_of_ble_eq_true hcat)) d ⟨Nat.zero_le _, Nat.zero_le _⟩) hS (fun q _ h => h) (fun q h => h) (fun v u t H1 locs1 ht hvm hw hB hz1 hk1 hS1 => kk v u hw H1 locs1 ls (by rw [← ht]; exact hB.1) hS1 hl)
theorem ez_callSv (Z : ew_Z C X cc nL own Ts rm rt) {T : Type} {Qp : T → Prop} {F : T → ew_S} {y : MethodName} {ws ws' : List Cond} {rmc : Room} {bytes : ByteArray} {maxL index n : Nat} {ret : Option FieldType} {As st0 : List Value}
    (hM : Met C.2.1 y ws rmc (va_Pc As (ew_wd X S)) (va_Qv Qp (fun u => ew_wd X (F u)) X.2.2.1) 0 0 X.2.2.1) (hg : GoodIn Ts (va_wsS own index y ws)) (hw : ws = Cond.code y bytes maxL ret :: ws') (hrc : rmc.cells = 0) (hrs : rmc.slots = 0) (hd : y.cls ≠ "java/lang/invoke/MethodHandle" ∧ y.cls ≠ "java/lang/invoke/VarHandle" ∧ (parseMethodDescriptor y.desc).map (fun d => d.parameters.length) = some n) (hf : Nat.ble (rmc.frames + 1) rm.frames = true) (hlo : Nat.ble (8 + (maxL + 11) + rmc.locals) rm.locals = true)
    (hn : As.length = n) (hst : st0 = As.reverse ++ st) (hcat : Nat.ble (st.map fun v => v.category).sum 8 = true) (d : decode cc pc = .ok (.invokestatic index, 3))
    (kk : ∀ (u : T), Qp u → ew_W C X nL (F u) (pc + 3) L st) : ew_W C X nL S pc L st0 := by
  intro H locs ls hP hS hl
  subst hst
  have hR := Z.2.2.2.2.2.2.2.2.1
  refine va_callv (va_runS (As := As) (rest := st) ⟨Z.1, Z.2.1, Z.2.2.1, Z.2.2.2.1, Z.2.2.2.2.1⟩ hM (va_cwS n Z.2.2.2.2.1 hg hw hrc hrs hd ⟨by rw [hR]; exact Nat.le_of_ble_eq_true hf, by rw [hR]; exact Nat.le_of_ble_eq_true hlo⟩) ⟨ew_blind, ew_pre Z hP hS⟩ rfl hn hl.1 rfl (lv_room (Nat.le_of_ble_eq_true hcat)) d ⟨Nat.zero_le _, Nat.zero_le _⟩) hS (fun q _ h => h) (fun q h => h) (fun u t H1 locs1 ht hvm hw hB hz1 hk1 hS1 => kk u hw H1 locs1 ls (by rw [← ht]; exact hB.1) hS1 hl)
theorem ez_callNi (Z : ew_Z C X cc nL RX3 Ts rm rt) {T : Type} {Qp : Int32 → T → Prop} {F : T → ew_S} {ws ws' : List Cond} {rmc : Room} {bytes : ByteArray} {maxL n : Nat} {ret : Option FieldType} {As st0 : List Value}
    (hM : Met C.2.1 yX4_isNoLaw ws rmc (va_Pc As (ew_wd X S)) (va_Qi Qp (fun u => ew_wd X (F u)) X.2.2.1) 0 0 X.2.2.1) (hg : GoodIn Ts ws) (hini : Cond.initialized RX4 ∈ Ts) (hsta : Cond.static yX4_isNoLaw ∈ Ts) (hw : ws = Cond.code yX4_isNoLaw bytes maxL ret :: ws') (hrc : rmc.cells = 0) (hrs : rmc.slots = 0) (hd : yX4_isNoLaw.cls ≠ "java/lang/invoke/MethodHandle" ∧ yX4_isNoLaw.cls ≠ "java/lang/invoke/VarHandle" ∧ (parseMethodDescriptor yX4_isNoLaw.desc).map (fun d => d.parameters.length) = some n) (hf : Nat.ble (rmc.frames + 1) rm.frames = true) (hlo : Nat.ble (8 + (maxL + 11) + rmc.locals) rm.locals = true)
    (hn : As.length = n) (hst : st0 = As.reverse ++ st) (hcat : Nat.ble (st.map fun v => v.category).sum 8 = true) (d : decode cc pc = .ok (.invokestatic 107, 3))
    (kk : ∀ (v : Int32) (u : T), Qp v u → ew_W C X nL (F u) (pc + 3) L (.int v :: st)) : ew_W C X nL S pc L st0 := by
  intro H locs ls hP hS hl
  subst hst
  have hR := Z.2.2.2.2.2.2.2.2.1
  refine va_calli (va_runSN (As := As) (rest := st) ⟨Z.1, Z.2.1, Z.2.2.1, Z.2.2.2.1, Z.2.2.2.2.1⟩ hM ⟨va_cnB n Z.2.2.2.2.1 hg hw hrc hrs Z.2.2.2.2.2.2.2.2.2.2.1 (Z.2.2.2.2.1 _ hini) hd ⟨by rw [hR]; exact Nat.le_of_ble_eq_true hf, by rw [hR]; exact Nat.le_of_ble_eq_true hlo⟩, Z.2.2.2.2.1 _ hsta, trivial⟩ ⟨ew_blind, ew_pre Z hP hS⟩ rfl hn hl.1 rfl (lv_room (Nat.le_of_ble_eq_true hcat)) d ⟨Nat.zero_le _, Nat.zero_le _⟩) hS (fun q _ h => h) (fun q h => h) (fun v u t H1 locs1 ht hvm hw hB hz1 hk1 hS1 => kk v u hw H1 locs1 ls (by rw [← ht]; exact hB.1) hS1 hl)
theorem ez_topi {x : Int32} (k : ∀ y : Int32, y = x → ew_W C X nL S pc L (.int y :: st)) : ew_W C X nL S pc L (.int x :: st) := k x rfl
theorem ez_topl {x : Int64} (k : ∀ y : Int64, y = x → ew_W C X nL S pc L (.long y :: st)) : ew_W C X nL S pc L (.long x :: st) := k x rfl
theorem ez_nm {E : ew_M → ew_S} {M : ew_M} (k : ∀ N : ew_M, N = M → ew_W C X nL (E N) pc L st) : ew_W C X nL (E M) pc L st := k M rfl
theorem ez_nt {x v : Int32} (h : ¬ x = v) : ¬ x.toInt = v.toInt := fun e => h (Int32.toInt_inj.mp e)
theorem ez_tabI (Z : ew_Z C X cc nL own Ts rm rt) {dflt lo hi : Int} {offs : Array Int} {len : Nat} {x : Int32} {off : Int} {tgt : Nat} (d : decode cc pc = .ok (.tableswitch dflt lo hi offs, len)) (v : Int32) (hx : x = v) (h1 : ¬ v.toInt < lo) (h2 : ¬ hi < v.toInt) (ho : offs[(v.toInt - lo).toNat]? = some off) (ht : (pc : Int) + off = (tgt : Int)) (k : ew_W C X nL S tgt L st) : ew_W C X nL S pc L (.int x :: st) := by
  subst hx
  exact fun H locs ls hP hS hl => lv_tableIn Z.1 Z.2.1 d h1 h2 ho ht (k H locs ls hP hS hl)
theorem ez_tabO (Z : ew_Z C X cc nL own Ts rm rt) {dflt lo hi : Int} {offs : Array Int} {len : Nat} {x : Int32} {tgt : Nat} (d : decode cc pc = .ok (.tableswitch dflt lo hi offs, len)) (h : x.toInt < lo ∨ hi < x.toInt) (ht : (pc : Int) + dflt = (tgt : Int)) (k : ew_W C X nL S tgt L st) : ew_W C X nL S pc L (.int x :: st) := fun H locs ls hP hS hl => lv_tableOut Z.1 Z.2.1 d h ht (k H locs ls hP hS hl)
theorem ez_lkpI (Z : ew_Z C X cc nL own Ts rm rt) {dflt : Int} {ps : Array (Int × Int)} {len : Nat} {x : Int32} {off : Int} {tgt : Nat} (d : decode cc pc = .ok (.lookupswitch dflt ps, len)) (v : Int32) (hx : x = v) (hp : (ps.toList.zip (ps.toList.drop 1)).all (fun (a, next) => a.1 < next.1) = true) (ho : Op.lookupswitch.offset ps.toList dflt v.toInt = off) (ht : (pc : Int) + off = (tgt : Int)) (k : ew_W C X nL S tgt L st) : ew_W C X nL S pc L (.int x :: st) := by
  subst hx
  exact fun H locs ls hP hS hl => lv_lookup Z.1 Z.2.1 d hp ho ht (k H locs ls hP hS hl)
theorem ez_lkpO (Z : ew_Z C X cc nL own Ts rm rt) {dflt : Int} {ps : Array (Int × Int)} {len : Nat} {x : Int32} {tgt : Nat} (d : decode cc pc = .ok (.lookupswitch dflt ps, len)) (hp : (ps.toList.zip (ps.toList.drop 1)).all (fun (a, next) => a.1 < next.1) = true) (ho : Op.lookupswitch.offset ps.toList dflt x.toInt = dflt) (ht : (pc : Int) + dflt = (tgt : Int)) (k : ew_W C X nL S tgt L st) : ew_W C X nL S pc L (.int x :: st) := fun H locs ls hP hS hl => lv_lookup Z.1 Z.2.1 d hp ho ht (k H locs ls hP hS hl)
theorem ew_rT {b : Nat} {E : ew_M → ew_S} (hE : ew_GE X b (ew_GT X.2.1 b) E) : b < ew_NR := by have := hE.2.2; simp only [ew_gn, ew_GT] at this; omega
theorem ew_oT {b : Nat} {E : ew_M → ew_S} (hE : ew_GE X b (ew_GT X.2.1 b) E) (M : ew_M) : ∃ fs, ew_ct X (E M) b = .inr (3, fs) := ⟨_, (hE.1 M 0 (by decide : 0 < 14)).trans rfl⟩
theorem ew_oL {E : ew_M → ew_S} (hE : ew_GE X 42 (ew_GL X.2.1) E) (M : ew_M) : ∃ fs, ew_ct X (E M) 42 = .inr (0, fs) := ⟨_, (hE.1 M 0 (by decide : 0 < 3)).trans rfl⟩
theorem ew_oR {E : ew_M → ew_S} (hE : ew_GE X 45 (ew_GR X.2.1) E) (M : ew_M) : ∃ fs, ew_ct X (E M) 45 = .inr (2, fs) := ⟨_, (hE.1 M 0 (by decide : 0 < 1)).trans rfl⟩
theorem ew_oX0 {E : ew_M → ew_S} (hE : ew_GE X 46 (ew_GX X.2.1) E) (M : ew_M) : ∃ fs, ew_ct X (E M) 46 = .inr (4, fs) := ⟨_, (hE.1 M 0 (by decide : 0 < 4)).trans rfl⟩
theorem ew_oX1 {E : ew_M → ew_S} (hE : ew_GE X 46 (ew_GX X.2.1) E) (M : ew_M) : ∃ fs, ew_ct X (E M) 47 = .inr (1, fs) := ⟨_, (hE.1 M 1 (by decide : 1 < 4)).trans rfl⟩
theorem ew_oM {E : ew_M → ew_S} (hE : ew_GE X 50 (ew_GM X.2.1) E) (M : ew_M) : ∃ fs, ew_ct X (E M) 50 = .inr (5, fs) := ⟨_, (hE.1 M 0 (by decide : 0 < 40)).trans rfl⟩
theorem ez_cs {S' : ew_S} (h : ew_cs X S = ew_cs X S') (k : ew_W C X nL S' pc L st) : ew_W C X nL S pc L st := fun H locs ls hP hS hl => k H locs ls (h ▸ hP) hS hl
theorem ew_csT {b : Nat} {E : ew_M → ew_S} (hE : ew_GE X b (ew_GT X.2.1 b) E) {M M' : ew_M} (hI : ∀ i, i < 5 → M.1 i = M'.1 i) (hA : ∀ a, a < 12 → M.2.1 a = M'.2.1 a) (hW : M.2.2 0 = M'.2.2 0) : ew_cs X (E M) = ew_cs X (E M') := by
  refine List.map_congr_left (fun r hr => ?_)
  have hr : r < ew_NR := List.mem_range.mp hr
  by_cases h : r < b ∨ b + 14 ≤ r
  · rw [hE.2.1 M M' r hr h]
  · have e1 : r = b + (r - b) := by omega
    have h1 := hE.1 M (r - b) (show r - b < 14 by omega)
    have h2 := hE.1 M' (r - b) (show r - b < 14 by omega)
    rw [← e1] at h1 h2
    rw [h1, h2]
    have e2 : ew_gc X.2.2.2.1 X.2.2.2.2.1 (ew_GT X.2.1 b) M (r - b) = ew_gc X.2.2.2.1 X.2.2.2.2.1 (ew_GT X.2.1 b) M' (r - b) := by
      have hO : (ew_GT X.2.1 b).2.1 M.1 M.2.2 (r - b) = (ew_GT X.2.1 b).2.1 M'.1 M'.2.2 (r - b) := by
        simp only [ew_GT, hI 0 (by decide), hI 1 (by decide), hI 2 (by decide), hI 3 (by decide), hI 4 (by decide)]
      have hn : (ew_GT X.2.1 b).1.1 = 1 := rfl
      have hn2 : (ew_GT X.2.1 b).1.2.1 = 12 := rfl
      simp only [ew_gc]
      by_cases h0 : r - b < (ew_GT X.2.1 b).1.1
      · rw [if_pos h0, if_pos h0, hO]
      · rw [if_neg h0, if_neg h0]
        by_cases h9 : r - b < (ew_GT X.2.1 b).1.1 + (ew_GT X.2.1 b).1.2.1
        · rw [if_pos h9, if_pos h9, hA (r - b - (ew_GT X.2.1 b).1.1) (by rw [hn] at *; rw [hn2] at h9; omega)]
        · rw [if_neg h9, if_neg h9, show r - b - (ew_GT X.2.1 b).1.1 - (ew_GT X.2.1 b).1.2.1 = 0 by rw [hn, hn2]; omega, hW]
    rw [e2]
theorem ez_min (Z : ew_Z C X cc nL own Ts rm rt) {index : Nat} {x y : Int32} (hlink : Cond.methodLink own index Lib.Math.min.name ∈ Ts) (hstat : Cond.static Lib.Math.min.name ∈ Ts) (hini : Cond.initialized "java/lang/Math" ∈ Ts) (hcode : Cond.code Lib.Math.min.name Lib.Math.min.code 2 (some .int) ∈ Ts) (hf : Nat.ble 1 rm.frames = true) (hlo : Nat.ble ((st.map fun v => v.category).sum + 13) rm.locals = true) (d : decode cc pc = .ok (.invokestatic index, 3)) (k : ew_W C X nL S (pc + 3) L (.int (if y < x then y else x) :: st)) : ew_W C X nL S pc L (.int y :: .int x :: st) := fun H locs ls hP hS hl => va_mmin Z.1 Z.2.1 (by rw [Z.2.2.1]; exact hl.1.symm) Z.2.2.2.1 (Z.2.2.2.2.1 _ hlink) (Z.2.2.2.2.1 _ hstat) (Z.2.2.2.2.1 _ hini) (Z.2.2.2.2.1 _ hcode) (by rw [Z.2.2.2.2.2.2.2.2.1]; exact Nat.le_of_ble_eq_true hf) (by rw [Z.2.2.2.2.2.2.2.2.1]; exact Nat.le_of_ble_eq_true hlo) (Nat.zero_le _) (Nat.zero_le _) d (k H locs ls hP hS hl)
theorem ez_labs (Z : ew_Z C X cc nL own Ts rm rt) {index : Nat} {x : Int64} (hlink : Cond.methodLink own index Lib.MathLoose.abs_long.x ∈ Ts) (hstat : Cond.static Lib.MathLoose.abs_long.x ∈ Ts) (hini : Cond.initialized "java/lang/Math" ∈ Ts) (hcode : Cond.code Lib.MathLoose.abs_long.x Lib.MathLoose.abs_long.code 2 (some .long) ∈ Ts) (hf : Nat.ble 1 rm.frames = true) (hlo : Nat.ble ((st.map fun v => v.category).sum + 13) rm.locals = true) (d : decode cc pc = .ok (.invokestatic index, 3)) (k : ew_W C X nL S (pc + 3) L (.long (if 0 < x then x else -x) :: st)) : ew_W C X nL S pc L (.long x :: st) := fun H locs ls hP hS hl => va_mabs_long Z.1 Z.2.1 (by rw [Z.2.2.1]; exact hl.1.symm) Z.2.2.2.1 (Z.2.2.2.2.1 _ hlink) (Z.2.2.2.2.1 _ hstat) (Z.2.2.2.2.1 _ hini) (Z.2.2.2.2.1 _ hcode) (by rw [Z.2.2.2.2.2.2.2.2.1]; exact Nat.le_of_ble_eq_true hf) (by rw [Z.2.2.2.2.2.2.2.2.1]; exact Nat.le_of_ble_eq_true hlo) (Nat.zero_le _) (Nat.zero_le _) d (k H locs ls hP hS hl)

end EWR
/-- the parts of the state -/
theorem ew_geT0 {X : ew_X} {s2 s3 s4 s5 s6 s7 : ew_M} : ew_GE X 0 (ew_GT X.2.1 0) (fun M => ((M, s2, s3, s4, s5, s6), s7)) := by
  refine ⟨fun M j hj => ?_, fun M M' r hb hr => ?_, (by decide : 0 + 14 ≤ ew_NR)⟩
  · have hj : j < 14 := hj
    have e : 0 + j - 0 = j := by omega
    have e0 : 0 + j = j := by omega
    simp only [ew_ct, e, e0]
    repeat (first | rw [if_pos (by omega)] | rw [if_neg (by omega)])
  · have hb : r < 90 := hb
    have hr : r < 0 ∨ 0 + 14 ≤ r := hr
    simp only [ew_ct]
    repeat' split
    all_goals first | rfl | (exfalso; omega)
theorem ew_geT1 {X : ew_X} {s1 s3 s4 s5 s6 s7 : ew_M} : ew_GE X 14 (ew_GT X.2.1 14) (fun M => ((s1, M, s3, s4, s5, s6), s7)) := by
  refine ⟨fun M j hj => ?_, fun M M' r hb hr => ?_, (by decide : 14 + 14 ≤ ew_NR)⟩
  · have hj : j < 14 := hj
    have e : 14 + j - 14 = j := by omega
    have e0 : 0 + j = j := by omega
    simp only [ew_ct, e, e0]
    repeat (first | rw [if_pos (by omega)] | rw [if_neg (by omega)])
  · have hb : r < 90 := hb
    have hr : r < 14 ∨ 14 + 14 ≤ r := hr
    simp only [ew_ct]
    repeat' split
    all_goals first | rfl | (exfalso; omega)
theorem ew_geT2 {X : ew_X} {s1 s2 s4 s5 s6 s7 : ew_M} : ew_GE X 28 (ew_GT X.2.1 28) (fun M => ((s1, s2, M, s4, s5, s6), s7)) := by
  refine ⟨fun M j hj => ?_, fun M M' r hb hr => ?_, (by decide : 28 + 14 ≤ ew_NR)⟩
  · have hj : j < 14 := hj
    have e : 28 + j - 28 = j := by omega
    have e0 : 0 + j = j := by omega
    simp only [ew_ct, e, e0]
    repeat (first | rw [if_pos (by omega)] | rw [if_neg (by omega)])
  · have hb : r < 90 := hb
    have hr : r < 28 ∨ 28 + 14 ≤ r := hr
    simp only [ew_ct]
    repeat' split
    all_goals first | rfl | (exfalso; omega)
theorem ew_geL {X : ew_X} {s1 s2 s3 s5 s6 s7 : ew_M} : ew_GE X 42 (ew_GL X.2.1) (fun M => ((s1, s2, s3, M, s5, s6), s7)) := by
  refine ⟨fun M j hj => ?_, fun M M' r hb hr => ?_, (by decide : 42 + 3 ≤ ew_NR)⟩
  · have hj : j < 3 := hj
    have e : 42 + j - 42 = j := by omega
    have e0 : 0 + j = j := by omega
    simp only [ew_ct, e, e0]
    repeat (first | rw [if_pos (by omega)] | rw [if_neg (by omega)])
  · have hb : r < 90 := hb
    have hr : r < 42 ∨ 42 + 3 ≤ r := hr
    simp only [ew_ct]
    repeat' split
    all_goals first | rfl | (exfalso; omega)
theorem ew_geR {X : ew_X} {s1 s2 s3 s4 s6 s7 : ew_M} : ew_GE X 45 (ew_GR X.2.1) (fun M => ((s1, s2, s3, s4, M, s6), s7)) := by
  refine ⟨fun M j hj => ?_, fun M M' r hb hr => ?_, (by decide : 45 + 1 ≤ ew_NR)⟩
  · have hj : j < 1 := hj
    have e : 45 + j - 45 = j := by omega
    have e0 : 0 + j = j := by omega
    simp only [ew_ct, e, e0]
    repeat (first | rw [if_pos (by omega)] | rw [if_neg (by omega)])
  · have hb : r < 90 := hb
    have hr : r < 45 ∨ 45 + 1 ≤ r := hr
    simp only [ew_ct]
    repeat' split
    all_goals first | rfl | (exfalso; omega)
theorem ew_geX {X : ew_X} {s1 s2 s3 s4 s5 s7 : ew_M} : ew_GE X 46 (ew_GX X.2.1) (fun M => ((s1, s2, s3, s4, s5, M), s7)) := by
  refine ⟨fun M j hj => ?_, fun M M' r hb hr => ?_, (by decide : 46 + 4 ≤ ew_NR)⟩
  · have hj : j < 4 := hj
    have e : 46 + j - 46 = j := by omega
    have e0 : 0 + j = j := by omega
    simp only [ew_ct, e, e0]
    repeat (first | rw [if_pos (by omega)] | rw [if_neg (by omega)])
  · have hb : r < 90 := hb
    have hr : r < 46 ∨ 46 + 4 ≤ r := hr
    simp only [ew_ct]
    repeat' split
    all_goals first | rfl | (exfalso; omega)
theorem ew_geM {X : ew_X} {s1 s2 s3 s4 s5 s6 : ew_M} : ew_GE X 50 (ew_GM X.2.1) (fun M => ((s1, s2, s3, s4, s5, s6), M)) := by
  refine ⟨fun M j hj => ?_, fun M M' r hb hr => ?_, (by decide : 50 + 40 ≤ ew_NR)⟩
  · have hj : j < 40 := hj
    have e : 50 + j - 50 = j := by omega
    have e0 : 0 + j = j := by omega
    simp only [ew_ct, e, e0]
    repeat (first | rw [if_pos (by omega)] | rw [if_neg (by omega)])
  · have hb : r < 90 := hb
    have hr : r < 50 ∨ 50 + 40 ≤ r := hr
    simp only [ew_ct]
    repeat' split
    all_goals first | rfl | (exfalso; omega)
/-- from the cells at a method's entry to its contract -/
theorem ew_met {y : MethodName} {ws ws' : List Cond} {rm : Room} {cc : ByteArray} {maxL : Nat} {ret : Option FieldType} {own : String} (X : ew_X) (l : Launch) (hX : ew_Ap X) {As : List Value} {L0 : List (Nat × Value)} {S : ew_S} {Qc : Array Value → State → Outcome → State → Prop} (hy : plainName y.cls = true) (ho : y.cls = own) (hw : ws = Cond.code y cc maxL ret :: ws') (hA : Nat.ble (lg_sl As).length maxL = true) (hL : lv_args 0 As = L0)
    (body : ∀ C : ew_C, C.2.1 = l → ew_Z C X cc maxL own ws rm ret → C.2.2.2.2.2.2.2.2.2.2 = MQ C.2.2.2.2.2.2.2.1 Qc C.2.2.2.2.2.2.1 C.2.2.2.2.1 0 0 X.2.2.1 → ew_W C X maxL S 0 L0 []) : Met l y ws rm (va_Pc As (ew_wd X S)) Qc 0 0 X.2.2.1 := by
  refine Met.ofW (cc := cc) (maxL := maxL) (ret := ret) hy hw ?_
  intro p e s m args below meth c s₁ B hml hv
  obtain ⟨rfl, hP, hK, hE⟩ := hv
  have hl := lv_entry As (n := maxL) (Nat.le_of_ble_eq_true hA)
  rw [lg_entry_eq]
  rw [hL] at hl
  exact body (p, l, e, rm, s, m, As.toArray, below, meth, c, MQ below Qc As.toArray s 0 0 X.2.2.1) rfl ⟨B.exec, B.bytes, hml, by rw [← ho]; exact findClass_of_methodNamed B.named, atoms_spec (ws := ws) B.pre, hK, B.notSynchronized, B.returns, rfl, hX, hE⟩ rfl s.heap [] _ hP va_S.rf hl
