/-! what the Statement gives of the start: the text's cells, the nest mate, the static of String -/
theorem lw_ex {s : State} {b : Nat} {A : Nat → Prop} {D : va_G} {cI cJ : Nat} (hts : ∀ w ∈ lw_tbl, w.before #[Value.ref b] s = true) (hgv : (Jvm.Cond.and given_1 narrow_1).before #[Value.ref b] s = true) (hnA : ∀ a : Nat, a < s.heap.size → ¬ A a) : ∃ tx by0 : Nat, ∀ ad : Nat → Nat, ew_Ex (D, ad, A, cI, cJ, tx, by0) s := by
  have hs := flat_of_before _ hgv
  obtain ⟨adK, adV, hS, hev⟩ := vk_Sof (args := #[Value.ref b]) (s := s) (N := 1) (tm := fun _ => Term.string "EndsWhenRead$Letters" 52) (len := [7]) (byt := [[98, 108, 116, 101, 119, 103, 115]]) (A := A)
    (fun i hi => by obtain rfl : i = 0 := by omega
                    decide)
    (fun i hi => by obtain rfl : i = 0 := by omega
                    exact hs _ (by decide +kernel))
    (fun i hi => by obtain rfl : i = 0 := by omega
                    exact hs _ (by decide +kernel))
    (fun i hi => by obtain rfl : i = 0 := by omega
                    exact hs _ (by decide +kernel))
    (fun i hi => by obtain rfl : i = 0 := by omega
                    exact hs _ (by decide +kernel))
    (fun i hi j hj => by
      obtain rfl : i = 0 := by omega
      have hj : j < 7 := hj
      rcases (show j = 0 ∨ j = 1 ∨ j = 2 ∨ j = 3 ∨ j = 4 ∨ j = 5 ∨ j = 6 by omega) with rfl | rfl | rfl | rfl | rfl | rfl | rfl <;> exact hs _ (by decide +kernel))
    (fun i j hi hj h => absurd (show i = j by omega) h) hnA
  refine ⟨adK 0, adV 0, fun ad => ⟨va_Nw.of rfl (hts _ (List.mem_of_getElem? (i := 434) (by decide +kernel))), vk_R.of (hts _ (List.mem_of_getElem? (i := 282) (by decide +kernel))) (hev 0 (by decide)), ⟨fun i hi => ?_, fun i j hi hj _ => by omega⟩, va_Zof (hts _ (List.mem_of_getElem? (i := 296) (by decide +kernel))) (hts _ (List.mem_of_getElem? (i := 77) (by decide +kernel))) (va_eqi (args := #[Value.ref b]) (hs _ (by decide +kernel))) hnA⟩⟩
  obtain rfl : i = 0 := by omega
  exact hS.1 0 (by decide)
