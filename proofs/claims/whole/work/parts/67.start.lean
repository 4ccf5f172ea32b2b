-- ===== the start of the law =====
theorem tw1 {w : Cond} (h : w ∈ tables_1_1) : w ∈ lw_tbl := List.mem_append_right _ (List.mem_append_left _ h)
theorem tw2 {w : Cond} (h : w ∈ tables_1_2) : w ∈ lw_tbl := List.mem_append_right _ (List.mem_append_right _ (List.mem_append_left _ h))
theorem tw3 {w : Cond} (h : w ∈ tables_1_3) : w ∈ lw_tbl := List.mem_append_right _ (List.mem_append_right _ (List.mem_append_right _ (List.mem_append_left _ h)))
theorem tw4 {w : Cond} (h : w ∈ tables_1_4) : w ∈ lw_tbl := List.mem_append_right _ (List.mem_append_right _ (List.mem_append_right _ (List.mem_append_right _ (List.mem_append_left _ h))))
theorem tw5 {w : Cond} (h : w ∈ tables_1_5) : w ∈ lw_tbl := List.mem_append_right _ (List.mem_append_right _ (List.mem_append_right _ (List.mem_append_right _ (List.mem_append_right _ (List.mem_append_left _ h)))))
theorem tw6 {w : Cond} (h : w ∈ tables_1_6) : w ∈ lw_tbl := List.mem_append_right _ (List.mem_append_right _ (List.mem_append_right _ (List.mem_append_right _ (List.mem_append_right _ (List.mem_append_right _ (h))))))
set_option maxHeartbeats 4000000 in
set_option maxRecDepth 100000 in
theorem ex_start {args : Array Value} {s : State} (hts : ∀ w ∈ lw_tbl, w.before args s = true) (hgv : (Jvm.Cond.and given_1 narrow_1).before args s = true) : ∃ xa : Xa, Ex s.heap.size xa s s.heap := by
  have hs := flat_of_before _ hgv
  have hA : ∀ a : Nat, a < s.heap.size → ¬ exA s.heap.size a := fun a h z => absurd h (Nat.not_lt.mpr z)
  obtain ⟨t1, ht1, hT1⟩ := va_Tof (args := args) (s := s) (tm := .static "SignalsSighted$Train" "KIND_ABOVE" "[I") (ty := .int) (N := 6) (f := fun j => .int (kindAbove j)) (A := exA s.heap.size) (by decide) (hs _ (List.mem_of_getElem? (i := 20) rfl)) (va_eqt (hs _ (List.mem_of_getElem? (i := 21) rfl))) (fun j hj => by
    rcases (show j = 0 ∨ j = 1 ∨ j = 2 ∨ j = 3 ∨ j = 4 ∨ j = 5 by omega) with rfl | rfl | rfl | rfl | rfl | rfl
    · exact va_eqt (hs _ (List.mem_of_getElem? (i := 22) rfl))
    · exact va_eqt (hs _ (List.mem_of_getElem? (i := 23) rfl))
    · exact va_eqt (hs _ (List.mem_of_getElem? (i := 24) rfl))
    · exact va_eqt (hs _ (List.mem_of_getElem? (i := 25) rfl))
    · exact va_eqt (hs _ (List.mem_of_getElem? (i := 26) rfl))
    · exact va_eqt (hs _ (List.mem_of_getElem? (i := 27) rfl))) hA
  obtain ⟨t2, ht2, hT2⟩ := va_Tof (args := args) (s := s) (tm := .static "SignalsSighted$Letters" "NUMBERS_OF" "[I") (ty := .int) (N := 7) (f := fun j => .int (numbersOfT j)) (A := exA s.heap.size) (by decide) (hs _ (List.mem_of_getElem? (i := 10) rfl)) (va_eqt (hs _ (List.mem_of_getElem? (i := 11) rfl))) (fun j hj => by
    rcases (show j = 0 ∨ j = 1 ∨ j = 2 ∨ j = 3 ∨ j = 4 ∨ j = 5 ∨ j = 6 by omega) with rfl | rfl | rfl | rfl | rfl | rfl | rfl
    · exact va_eqt (hs _ (List.mem_of_getElem? (i := 12) rfl))
    · exact va_eqt (hs _ (List.mem_of_getElem? (i := 13) rfl))
    · exact va_eqt (hs _ (List.mem_of_getElem? (i := 14) rfl))
    · exact va_eqt (hs _ (List.mem_of_getElem? (i := 15) rfl))
    · exact va_eqt (hs _ (List.mem_of_getElem? (i := 16) rfl))
    · exact va_eqt (hs _ (List.mem_of_getElem? (i := 17) rfl))
    · exact va_eqt (hs _ (List.mem_of_getElem? (i := 18) rfl))) hA
  obtain ⟨adK, adV, hSt, hev⟩ := vk_Sof (args := args) (s := s) (N := 7) (tm := fun i => .string "SignalsSighted$Letters" (txIL.getD i 0)) (len := txLen) (byt := txByt) (A := exA s.heap.size) (fun i hi => by
    rcases (show i = 0 ∨ i = 1 ∨ i = 2 ∨ i = 3 ∨ i = 4 ∨ i = 5 ∨ i = 6 by omega) with rfl | rfl | rfl | rfl | rfl | rfl | rfl <;> decide) (fun i hi => by
    rcases (show i = 0 ∨ i = 1 ∨ i = 2 ∨ i = 3 ∨ i = 4 ∨ i = 5 ∨ i = 6 by omega) with rfl | rfl | rfl | rfl | rfl | rfl | rfl
    · exact hs _ (List.mem_of_getElem? (i := 44) rfl)
    · exact hs _ (List.mem_of_getElem? (i := 54) rfl)
    · exact hs _ (List.mem_of_getElem? (i := 65) rfl)
    · exact hs _ (List.mem_of_getElem? (i := 75) rfl)
    · exact hs _ (List.mem_of_getElem? (i := 87) rfl)
    · exact hs _ (List.mem_of_getElem? (i := 99) rfl)
    · exact hs _ (List.mem_of_getElem? (i := 113) rfl)) (fun i hi => by
    rcases (show i = 0 ∨ i = 1 ∨ i = 2 ∨ i = 3 ∨ i = 4 ∨ i = 5 ∨ i = 6 by omega) with rfl | rfl | rfl | rfl | rfl | rfl | rfl
    · exact hs _ (List.mem_of_getElem? (i := 45) rfl)
    · exact hs _ (List.mem_of_getElem? (i := 55) rfl)
    · exact hs _ (List.mem_of_getElem? (i := 66) rfl)
    · exact hs _ (List.mem_of_getElem? (i := 76) rfl)
    · exact hs _ (List.mem_of_getElem? (i := 88) rfl)
    · exact hs _ (List.mem_of_getElem? (i := 100) rfl)
    · exact hs _ (List.mem_of_getElem? (i := 114) rfl)) (fun i hi => by
    rcases (show i = 0 ∨ i = 1 ∨ i = 2 ∨ i = 3 ∨ i = 4 ∨ i = 5 ∨ i = 6 by omega) with rfl | rfl | rfl | rfl | rfl | rfl | rfl
    · exact hs _ (List.mem_of_getElem? (i := 46) rfl)
    · exact hs _ (List.mem_of_getElem? (i := 56) rfl)
    · exact hs _ (List.mem_of_getElem? (i := 67) rfl)
    · exact hs _ (List.mem_of_getElem? (i := 77) rfl)
    · exact hs _ (List.mem_of_getElem? (i := 89) rfl)
    · exact hs _ (List.mem_of_getElem? (i := 101) rfl)
    · exact hs _ (List.mem_of_getElem? (i := 115) rfl)) (fun i hi => by
    rcases (show i = 0 ∨ i = 1 ∨ i = 2 ∨ i = 3 ∨ i = 4 ∨ i = 5 ∨ i = 6 by omega) with rfl | rfl | rfl | rfl | rfl | rfl | rfl
    · exact hs _ (List.mem_of_getElem? (i := 47) rfl)
    · exact hs _ (List.mem_of_getElem? (i := 57) rfl)
    · exact hs _ (List.mem_of_getElem? (i := 68) rfl)
    · exact hs _ (List.mem_of_getElem? (i := 78) rfl)
    · exact hs _ (List.mem_of_getElem? (i := 90) rfl)
    · exact hs _ (List.mem_of_getElem? (i := 102) rfl)
    · exact hs _ (List.mem_of_getElem? (i := 116) rfl)) (fun i hi => by
    rcases (show i = 0 ∨ i = 1 ∨ i = 2 ∨ i = 3 ∨ i = 4 ∨ i = 5 ∨ i = 6 by omega) with rfl | rfl | rfl | rfl | rfl | rfl | rfl
    · intro j hj
      have hj : j < 6 := hj
      rcases (show j = 0 ∨ j = 1 ∨ j = 2 ∨ j = 3 ∨ j = 4 ∨ j = 5 by omega) with rfl | rfl | rfl | rfl | rfl | rfl
      · exact hs _ (List.mem_of_getElem? (i := 48) rfl)
      · exact hs _ (List.mem_of_getElem? (i := 49) rfl)
      · exact hs _ (List.mem_of_getElem? (i := 50) rfl)
      · exact hs _ (List.mem_of_getElem? (i := 51) rfl)
      · exact hs _ (List.mem_of_getElem? (i := 52) rfl)
      · exact hs _ (List.mem_of_getElem? (i := 53) rfl)
    · intro j hj
      have hj : j < 6 := hj
      rcases (show j = 0 ∨ j = 1 ∨ j = 2 ∨ j = 3 ∨ j = 4 ∨ j = 5 by omega) with rfl | rfl | rfl | rfl | rfl | rfl
      · exact hs _ (List.mem_of_getElem? (i := 58) rfl)
      · exact hs _ (List.mem_of_getElem? (i := 59) rfl)
      · exact hs _ (List.mem_of_getElem? (i := 60) rfl)
      · exact hs _ (List.mem_of_getElem? (i := 61) rfl)
      · exact hs _ (List.mem_of_getElem? (i := 62) rfl)
      · exact hs _ (List.mem_of_getElem? (i := 63) rfl)
    · intro j hj
      have hj : j < 4 := hj
      rcases (show j = 0 ∨ j = 1 ∨ j = 2 ∨ j = 3 by omega) with rfl | rfl | rfl | rfl
      · exact hs _ (List.mem_of_getElem? (i := 69) rfl)
      · exact hs _ (List.mem_of_getElem? (i := 70) rfl)
      · exact hs _ (List.mem_of_getElem? (i := 71) rfl)
      · exact hs _ (List.mem_of_getElem? (i := 72) rfl)
    · intro j hj
      have hj : j < 5 := hj
      rcases (show j = 0 ∨ j = 1 ∨ j = 2 ∨ j = 3 ∨ j = 4 by omega) with rfl | rfl | rfl | rfl | rfl
      · exact hs _ (List.mem_of_getElem? (i := 79) rfl)
      · exact hs _ (List.mem_of_getElem? (i := 80) rfl)
      · exact hs _ (List.mem_of_getElem? (i := 81) rfl)
      · exact hs _ (List.mem_of_getElem? (i := 82) rfl)
      · exact hs _ (List.mem_of_getElem? (i := 83) rfl)
    · intro j hj
      have hj : j < 4 := hj
      rcases (show j = 0 ∨ j = 1 ∨ j = 2 ∨ j = 3 by omega) with rfl | rfl | rfl | rfl
      · exact hs _ (List.mem_of_getElem? (i := 91) rfl)
      · exact hs _ (List.mem_of_getElem? (i := 92) rfl)
      · exact hs _ (List.mem_of_getElem? (i := 93) rfl)
      · exact hs _ (List.mem_of_getElem? (i := 94) rfl)
    · intro j hj
      have hj : j < 5 := hj
      rcases (show j = 0 ∨ j = 1 ∨ j = 2 ∨ j = 3 ∨ j = 4 by omega) with rfl | rfl | rfl | rfl | rfl
      · exact hs _ (List.mem_of_getElem? (i := 103) rfl)
      · exact hs _ (List.mem_of_getElem? (i := 104) rfl)
      · exact hs _ (List.mem_of_getElem? (i := 105) rfl)
      · exact hs _ (List.mem_of_getElem? (i := 106) rfl)
      · exact hs _ (List.mem_of_getElem? (i := 107) rfl)
    · intro j hj
      have hj : j < 5 := hj
      rcases (show j = 0 ∨ j = 1 ∨ j = 2 ∨ j = 3 ∨ j = 4 by omega) with rfl | rfl | rfl | rfl | rfl
      · exact hs _ (List.mem_of_getElem? (i := 117) rfl)
      · exact hs _ (List.mem_of_getElem? (i := 118) rfl)
      · exact hs _ (List.mem_of_getElem? (i := 119) rfl)
      · exact hs _ (List.mem_of_getElem? (i := 120) rfl)
      · exact hs _ (List.mem_of_getElem? (i := 121) rfl)) (fun i j hi hj hij => by
    rcases (show i = 0 ∨ i = 1 ∨ i = 2 ∨ i = 3 ∨ i = 4 ∨ i = 5 ∨ i = 6 by omega) with rfl | rfl | rfl | rfl | rfl | rfl | rfl
    · rcases (show j = 0 ∨ j = 1 ∨ j = 2 ∨ j = 3 ∨ j = 4 ∨ j = 5 ∨ j = 6 by omega) with rfl | rfl | rfl | rfl | rfl | rfl | rfl
      · exact absurd rfl hij
      · exact Or.inl (hs _ (List.mem_of_getElem? (i := 64) rfl))
      · exact Or.inl (hs _ (List.mem_of_getElem? (i := 73) rfl))
      · exact Or.inl (hs _ (List.mem_of_getElem? (i := 84) rfl))
      · exact Or.inl (hs _ (List.mem_of_getElem? (i := 95) rfl))
      · exact Or.inl (hs _ (List.mem_of_getElem? (i := 108) rfl))
      · exact Or.inl (hs _ (List.mem_of_getElem? (i := 122) rfl))
    · rcases (show j = 0 ∨ j = 1 ∨ j = 2 ∨ j = 3 ∨ j = 4 ∨ j = 5 ∨ j = 6 by omega) with rfl | rfl | rfl | rfl | rfl | rfl | rfl
      · exact Or.inr (hs _ (List.mem_of_getElem? (i := 64) rfl))
      · exact absurd rfl hij
      · exact Or.inl (hs _ (List.mem_of_getElem? (i := 74) rfl))
      · exact Or.inl (hs _ (List.mem_of_getElem? (i := 85) rfl))
      · exact Or.inl (hs _ (List.mem_of_getElem? (i := 96) rfl))
      · exact Or.inl (hs _ (List.mem_of_getElem? (i := 109) rfl))
      · exact Or.inl (hs _ (List.mem_of_getElem? (i := 123) rfl))
    · rcases (show j = 0 ∨ j = 1 ∨ j = 2 ∨ j = 3 ∨ j = 4 ∨ j = 5 ∨ j = 6 by omega) with rfl | rfl | rfl | rfl | rfl | rfl | rfl
      · exact Or.inr (hs _ (List.mem_of_getElem? (i := 73) rfl))
      · exact Or.inr (hs _ (List.mem_of_getElem? (i := 74) rfl))
      · exact absurd rfl hij
      · exact Or.inl (hs _ (List.mem_of_getElem? (i := 86) rfl))
      · exact Or.inl (hs _ (List.mem_of_getElem? (i := 97) rfl))
      · exact Or.inl (hs _ (List.mem_of_getElem? (i := 110) rfl))
      · exact Or.inl (hs _ (List.mem_of_getElem? (i := 124) rfl))
    · rcases (show j = 0 ∨ j = 1 ∨ j = 2 ∨ j = 3 ∨ j = 4 ∨ j = 5 ∨ j = 6 by omega) with rfl | rfl | rfl | rfl | rfl | rfl | rfl
      · exact Or.inr (hs _ (List.mem_of_getElem? (i := 84) rfl))
      · exact Or.inr (hs _ (List.mem_of_getElem? (i := 85) rfl))
      · exact Or.inr (hs _ (List.mem_of_getElem? (i := 86) rfl))
      · exact absurd rfl hij
      · exact Or.inl (hs _ (List.mem_of_getElem? (i := 98) rfl))
      · exact Or.inl (hs _ (List.mem_of_getElem? (i := 111) rfl))
      · exact Or.inl (hs _ (List.mem_of_getElem? (i := 125) rfl))
    · rcases (show j = 0 ∨ j = 1 ∨ j = 2 ∨ j = 3 ∨ j = 4 ∨ j = 5 ∨ j = 6 by omega) with rfl | rfl | rfl | rfl | rfl | rfl | rfl
      · exact Or.inr (hs _ (List.mem_of_getElem? (i := 95) rfl))
      · exact Or.inr (hs _ (List.mem_of_getElem? (i := 96) rfl))
      · exact Or.inr (hs _ (List.mem_of_getElem? (i := 97) rfl))
      · exact Or.inr (hs _ (List.mem_of_getElem? (i := 98) rfl))
      · exact absurd rfl hij
      · exact Or.inl (hs _ (List.mem_of_getElem? (i := 112) rfl))
      · exact Or.inl (hs _ (List.mem_of_getElem? (i := 126) rfl))
    · rcases (show j = 0 ∨ j = 1 ∨ j = 2 ∨ j = 3 ∨ j = 4 ∨ j = 5 ∨ j = 6 by omega) with rfl | rfl | rfl | rfl | rfl | rfl | rfl
      · exact Or.inr (hs _ (List.mem_of_getElem? (i := 108) rfl))
      · exact Or.inr (hs _ (List.mem_of_getElem? (i := 109) rfl))
      · exact Or.inr (hs _ (List.mem_of_getElem? (i := 110) rfl))
      · exact Or.inr (hs _ (List.mem_of_getElem? (i := 111) rfl))
      · exact Or.inr (hs _ (List.mem_of_getElem? (i := 112) rfl))
      · exact absurd rfl hij
      · exact Or.inl (hs _ (List.mem_of_getElem? (i := 127) rfl))
    · rcases (show j = 0 ∨ j = 1 ∨ j = 2 ∨ j = 3 ∨ j = 4 ∨ j = 5 ∨ j = 6 by omega) with rfl | rfl | rfl | rfl | rfl | rfl | rfl
      · exact Or.inr (hs _ (List.mem_of_getElem? (i := 122) rfl))
      · exact Or.inr (hs _ (List.mem_of_getElem? (i := 123) rfl))
      · exact Or.inr (hs _ (List.mem_of_getElem? (i := 124) rfl))
      · exact Or.inr (hs _ (List.mem_of_getElem? (i := 125) rfl))
      · exact Or.inr (hs _ (List.mem_of_getElem? (i := 126) rfl))
      · exact Or.inr (hs _ (List.mem_of_getElem? (i := 127) rfl))
      · exact absurd rfl hij) hA
  refine ⟨(t1, t2, adK, adV), ⟨va_Zof (hts _ (tw4 (List.mem_of_getElem? (i := 106) rfl))) (hts _ (tw1 (List.mem_of_getElem? (i := 4) rfl))) ht1 hA, hT1, va_Zof (hts _ (tw2 (List.mem_of_getElem? (i := 122) rfl))) (hts _ (tw1 (List.mem_of_getElem? (i := 5) rfl))) ht2 hA, hT2, va_Zof (hts _ (tw2 (List.mem_of_getElem? (i := 70) rfl))) (hts _ (tw1 (List.mem_of_getElem? (i := 9) rfl))) (va_eqi (hs _ (List.mem_of_getElem? (i := 4) rfl))) hA, va_Zqof (hts _ (tw2 (List.mem_of_getElem? (i := 86) rfl))) (hts _ (tw1 (List.mem_of_getElem? (i := 11) rfl))) (hs _ (List.mem_of_getElem? (i := 5) rfl)) hA, hSt⟩, fun i hi => ?_⟩
  rcases (show i = 0 ∨ i = 1 ∨ i = 2 ∨ i = 3 ∨ i = 4 ∨ i = 5 ∨ i = 6 by omega) with rfl | rfl | rfl | rfl | rfl | rfl | rfl
  · exact ⟨vk_R.of (A := args) (hts _ (tw2 (List.mem_of_getElem? (i := 54) rfl))) (hev 0 hi), vk_R.of (A := args) (hts _ (tw6 (List.mem_of_getElem? (i := 147) rfl))) (va_eqR (hs _ (List.mem_of_getElem? (i := 138) rfl)) (hev 0 hi))⟩
  · exact ⟨vk_R.of (A := args) (hts _ (tw2 (List.mem_of_getElem? (i := 55) rfl))) (hev 1 hi), vk_R.of (A := args) (hts _ (tw6 (List.mem_of_getElem? (i := 148) rfl))) (va_eqR (hs _ (List.mem_of_getElem? (i := 156) rfl)) (hev 1 hi))⟩
  · exact ⟨vk_R.of (A := args) (hts _ (tw2 (List.mem_of_getElem? (i := 56) rfl))) (hev 2 hi), vk_R.of (A := args) (hts _ (tw6 (List.mem_of_getElem? (i := 149) rfl))) (va_eqR (hs _ (List.mem_of_getElem? (i := 173) rfl)) (hev 2 hi))⟩
  · exact ⟨vk_R.of (A := args) (hts _ (tw2 (List.mem_of_getElem? (i := 57) rfl))) (hev 3 hi), vk_R.of (A := args) (hts _ (tw6 (List.mem_of_getElem? (i := 150) rfl))) (va_eqR (hs _ (List.mem_of_getElem? (i := 192) rfl)) (hev 3 hi))⟩
  · exact ⟨vk_R.of (A := args) (hts _ (tw2 (List.mem_of_getElem? (i := 58) rfl))) (hev 4 hi), vk_R.of (A := args) (hts _ (tw6 (List.mem_of_getElem? (i := 151) rfl))) (va_eqR (hs _ (List.mem_of_getElem? (i := 211) rfl)) (hev 4 hi))⟩
  · exact ⟨vk_R.of (A := args) (hts _ (tw2 (List.mem_of_getElem? (i := 59) rfl))) (hev 5 hi), vk_R.of (A := args) (hts _ (tw6 (List.mem_of_getElem? (i := 152) rfl))) (va_eqR (hs _ (List.mem_of_getElem? (i := 232) rfl)) (hev 5 hi))⟩
  · exact ⟨vk_R.of (A := args) (hts _ (tw2 (List.mem_of_getElem? (i := 60) rfl))) (hev 6 hi), vk_R.of (A := args) (hts _ (tw6 (List.mem_of_getElem? (i := 153) rfl))) (va_eqR (hs _ (List.mem_of_getElem? (i := 254) rfl)) (hev 6 hi))⟩
theorem kn_start0 {args : Array Value} {s : State} (hts : ∀ w ∈ lw_tbl, w.before args s = true) : ∃ (D : va_G) (cy : Nat → ClassId), va_K D classes (tysG cy) s := by
  have htg : ∀ w ∈ wsG, w.before args s = true := fun w hw => hts w (wg_in w hw)
  obtain ⟨c0, i0, k0⟩ := u_known (C := RX0) (T := TX0) (N := 7) (n := 7) htg fiX0_in (htg _ q1_141)
  obtain ⟨c1, i1, k1⟩ := u_known (C := RX1) (T := TX1) (N := 13) (n := 13) htg fiX1_in (htg _ q1_25)
  obtain ⟨c2, i2, k2⟩ := u_known (C := RX2) (T := TX2) (N := 4) (n := 4) htg fiX2_in (htg _ q1_173)
  obtain ⟨c3, i3, k3⟩ := u_known (C := RX3) (T := TX3) (N := 4) (n := 4) htg fiX3_in (htg _ q1_33)
  obtain ⟨c4, i4, k4⟩ := u_known (C := RX4) (T := TX4) (N := 4) (n := 4) htg fiX4_in (htg _ q1_194)
  obtain ⟨c5, i5, k5⟩ := u_known (C := RX5) (T := TX5) (N := 4) (n := 4) htg fiX5_in (htg _ q1_56)
  obtain ⟨c6, i6, k6⟩ := u_known (C := RX6) (T := TX6) (N := 9) (n := 9) htg fiX6_in (htg _ q1_17)
  obtain ⟨c7, i7, k7⟩ := u_known (C := RX7) (T := TX7) (N := 37) (n := 37) htg fiX7_in (htg _ q4_155)
  obtain ⟨a0, e0, m0, f0, g0, h0⟩ := Cond.arrayClass_spec (htg _ q1_54)
  obtain ⟨a1, e1, m1, f1, g1, h1⟩ := Cond.arrayClass_spec (htg _ q1_218)
  obtain ⟨a2, e2, m2, f2, g2, h2⟩ := Cond.arrayClass_spec (htg _ q1_55)
  obtain ⟨a3, e3, m3, f3, g3, h3⟩ := Cond.arrayClass_spec (htg _ q1_191)
  obtain ⟨m4, a4, e4, f4, -, g4, h4, n4⟩ := Cond.arrayOver_spec (hts _ (tw1 (List.mem_of_getElem? (i := 31) rfl)))
  obtain ⟨m5, a5, e5, f5, -, g5, h5, n5⟩ := Cond.arrayOver_spec (hts _ (tw1 (List.mem_of_getElem? (i := 171) rfl)))
  refine ⟨(fun k => if k = 0 then c0 else if k = 1 then c1 else if k = 2 then c2 else if k = 3 then c3 else if k = 4 then c4 else if k = 5 then c5 else if k = 6 then c6 else c7, fun k => if k = 0 then i0 else if k = 1 then i1 else if k = 2 then i2 else if k = 3 then i3 else if k = 4 then i4 else if k = 5 then i5 else if k = 6 then i6 else i7), fun k => if k = 0 then a0 else if k = 1 then a1 else if k = 2 then a2 else if k = 3 then a3 else if k = 4 then a4 else a5, ?_, ?_⟩
  · intro k q hq
    match k, hq with
    | 0, hq => cases hq; exact k0
    | 1, hq => cases hq; exact k1
    | 2, hq => cases hq; exact k2
    | 3, hq => cases hq; exact k3
    | 4, hq => cases hq; exact k4
    | 5, hq => cases hq; exact k5
    | 6, hq => cases hq; exact k6
    | 7, hq => cases hq; exact k7
    | k + 8, hq => simp [classes] at hq
  · intro k q hq
    match k, hq with
    | 0, hq => cases hq; exact ⟨fun n z => ⟨fun k h => (by cases h), e0, g0, m0, h0⟩, f0⟩
    | 1, hq => cases hq; exact ⟨fun n z => ⟨fun k h => (by cases h), e1, g1, m1, h1⟩, f1⟩
    | 2, hq => cases hq; exact ⟨fun n z => ⟨fun k h => (by cases h), e2, g2, m2, h2⟩, f2⟩
    | 3, hq => cases hq; exact ⟨fun n z => ⟨fun k h => (by cases h), e3, g3, m3, h3⟩, f3⟩
    | 4, hq => cases hq; exact ⟨fun n z => ⟨fun k h => (by cases h), e4, g4, m4, h4⟩, e4, m4, g4, h4, f4, n4⟩
    | 5, hq => cases hq; exact ⟨fun n z => ⟨fun k h => (by cases h), e5, g5, m5, h5⟩, e5, m5, g5, h5, f5, n5⟩
    | k + 6, hq => simp [tysG] at hq
theorem nx_start {args : Array Value} {s : State} (hts : ∀ w ∈ lw_tbl, w.before args s = true) : NX s := ⟨va_AO.of (hts _ (tw1 (List.mem_of_getElem? (i := 31) rfl))), va_AO.of (hts _ (tw1 (List.mem_of_getElem? (i := 171) rfl))), va_Nw.of rfl (hts _ (tw1 (List.mem_of_getElem? (i := 34) rfl))), va_Nw.of rfl (hts _ (tw1 (List.mem_of_getElem? (i := 57) rfl))), va_Nw.of rfl (hts _ (tw1 (List.mem_of_getElem? (i := 142) rfl))), va_Nw.of rfl (hts _ (tw1 (List.mem_of_getElem? (i := 174) rfl))), va_Nw.of rfl (hts _ (tw1 (List.mem_of_getElem? (i := 193) rfl))), va_Nw.of rfl (hts _ (tw1 (List.mem_of_getElem? (i := 195) rfl))), va_Nw.of rfl (hts _ (tw1 (List.mem_of_getElem? (i := 200) rfl)))⟩
theorem dL_law_0 : decode cL_law 0 = .ok (.new 7, 3) := by decide +kernel
theorem dL_law_3 : decode cL_law 3 = .ok (.dup, 1) := by decide +kernel
theorem dL_law_4 : decode cL_law 4 = .ok (.invokespecial 9, 3) := by decide +kernel
theorem dL_law_7 : decode cL_law 7 = .ok (.astore_n 1, 1) := by decide +kernel
theorem dL_law_8 : decode cL_law 8 = .ok (.new 10, 3) := by decide +kernel
theorem dL_law_11 : decode cL_law 11 = .ok (.dup, 1) := by decide +kernel
theorem dL_law_12 : decode cL_law 12 = .ok (.invokespecial 12, 3) := by decide +kernel
theorem dL_law_15 : decode cL_law 15 = .ok (.astore_n 2, 1) := by decide +kernel
theorem dL_law_16 : decode cL_law 16 = .ok (.iconst 0, 1) := by decide +kernel
theorem dL_law_17 : decode cL_law 17 = .ok (.istore_n 3, 1) := by decide +kernel
set_option maxHeartbeats 4000000 in
set_option maxRecDepth 100000 in
theorem whole_start {p : Program} {e : Env} {s : State} {m : MethodId} {below : List Frame} {meth : Method} {c : Code} (l : Launch) (hflags : l.flags = flags0) {b L : Nat} {xs : Nat → Int32} (hL : L ≤ 2560) (C0 : lw_At p s m meth c b L xs) : W p l e room_1 s m #[Value.ref b] below meth c s.heap [] 0 0 (lw_Z below #[Value.ref b] s) (entryFrame m ([Value.ref b] : List Value).toArray 4) := by
  obtain ⟨hx, hb, hr, hml, hown, hts, hX, hbl, hlocks, hgv⟩ := id C0
  obtain ⟨xa, hE⟩ := ex_start hts hgv
  obtain ⟨D, cy, hK⟩ := kn_start0 hts
  have hN : NX s := nx_start hts
  have C : CC p s m #[Value.ref b] meth c code RL 4 ret D cy (fun q => s.heap.size ≤ q) false s.heap.size xa := ⟨hx, hb, hml, hown, fun w hw => hts w (wg_in w hw), hK, hE, fun _ h => h, Nat.le_refl _, fun _ _ h => h, hlocks, hr⟩
  have hP : va_P D classes [] s.heap := fun k q h => by simp at h
  have hD : va_D (fun q : Nat => s.heap.size ≤ q) [] := ⟨fun i j p q h => by simp at h, fun k q h => by simp at h⟩
  rw [lg_entry_eq]
  refine (?_ : UU p l e room_1 s m #[Value.ref b] below meth c 4 D (fun q => s.heap.size ≤ q) (lw_Z below #[Value.ref b] s) 0 0 0 [(0, .ref b)] [] []) s.heap [] _ hP hD va_S.rf (lv_entry [.ref b] (Nat.le_of_ble_eq_true rfl))
  refine uu_new C fiX6 (ci := 6) rfl q1_16 q1_17 q1_1 (fs := [.null, .null, .null, .int 0, .null, .null, .null, .null, .null]) (by decide) (Nat.le_of_ble_eq_true rfl) (Nat.le_of_ble_eq_true rfl) dL_law_0 (fun z1 => ?_)
  refine uu_dup C dL_law_3 rfl ?_
  refine uu_initP C hN (kn_X6 (xa := xa)) rfl q1_20 q1_1 q1_19 q1_18 ⟨by decide +kernel, by decide +kernel, by decide +kernel⟩ (pre := []) rfl rfl (Nat.le_of_ble_eq_true rfl) ⟨Nat.le_of_ble_eq_true rfl, Nat.le_of_ble_eq_true rfl⟩ ⟨Nat.le_of_ble_eq_true rfl, Nat.le_of_ble_eq_true rfl⟩ dL_law_4 (fun xd hxd => ?_)
  subst hxd
  refine uu_astore_n C dL_law_7 rfl (by decide) (L' := [(1, .ref (xd 0 0)), (0, .ref b)]) rfl ?_
  refine uu_new C fiX7 (ci := 7) rfl q4_154 q4_155 q1_8 (fs := [.int 0, .null, .int 0, .null, .null, .null, .int 0, .null, .null, .int 0, .null, .null, .null, .null, .int 0, .int 0, .null, .null, .null, .null, .int 0, .null, .null, .null, .int 0, .int 0, .null, .null, .null, .null, .null, .null, .null, .int 0, .null, .null, .int 0]) (by decide) (Nat.le_of_ble_eq_true rfl) (Nat.le_of_ble_eq_true rfl) dL_law_8 (fun z2 => ?_)
  refine uu_dup C dL_law_11 rfl ?_
  refine uu_initP C hN (kn_X7 (xa := xa)) rfl q4_158 q1_8 q4_157 q4_156 ⟨by decide +kernel, by decide +kernel, by decide +kernel⟩ (pre := (xC cy xd (fun _ => 0) (fun _ _ => 0) trI (fun _ => 0) (fun _ _ => 0) lnI lnR (fun _ => trI) (fun _ => 0) (fun _ _ => 0) (fun _ _ => 0) lnI lnR (fun _ => trI) (fun _ => 0) (fun _ _ => 0) lnI lnR (fun _ => trI) (fun _ => 0) (fun _ _ => 0) (fun _ => shI) (fun _ _ => 0) (fun _ => trI))) rfl rfl (Nat.le_of_ble_eq_true rfl) ⟨Nat.le_of_ble_eq_true rfl, Nat.le_of_ble_eq_true rfl⟩ ⟨Nat.le_of_ble_eq_true rfl, Nat.le_of_ble_eq_true rfl⟩ dL_law_12 (fun ad had => ?_)
  subst had
  refine uu_astore_n C dL_law_15 rfl (by decide) (L' := [(2, .ref (ad 0)), (1, .ref (xd 0 0)), (0, .ref b)]) rfl ?_
  refine uu_iconst C (v := 0) dL_law_16 (by decide) ?_
  refine uu_istore_n C dL_law_17 rfl (by decide) (L' := [(3, .int 0), (2, .ref (ad 0)), (1, .ref (xd 0 0)), (0, .ref b)]) rfl ?_
  exact law_loop C hX hbl hL L 0 _ _ _ _ _ _ _ _ _ _ _ _ _ _ _ _ _ _ _ _ _ _ _ _ _ _ _ INV_0 (by omega) (by omega)
