theorem cod1 : cod (-1) := by simp [cod]
theorem cod2 : cod (-2) := by simp [cod]
theorem cod3 : cod (-3) := by simp [cod]
theorem cod4 : cod (-4) := by simp [cod]
theorem cod6 : cod (-6) := by simp [cod]
section PC9
variable {N : Nat} {A : AS} {s : S1} {a t : S2} {p : S1} {q : S2} {sc : S1} {ar : S2}
theorem chg_need (h : LA A s a t p q) (g : MA A sc ar) (hw : WF A) (hu : UQ A) {v : Int} (hv : -2147483648 ≤ v ∧ v < 2147483648) : CHG N A sc ar s a t p q ((f_X1_setNeed N s (iI v)).bind fun r => some (r.1, r.2, a, t, p, q)) (f_X7_need N sc ar (iI v)) := by
  unfold f_X1_setNeed f_X7_need
  simp only [x7_no cod4, x7_no cod6, Option.bind_some]
  by_cases h1 : 0 ≤ v
  · have e1 : (0 : Int32) ≤ iI v := by rw [iI_0le hv.1 hv.2]; exact h1
    simp only [if_pos e1]
    by_cases h2 : v ≤ 99
    · have e2 : iI v ≤ (99 : Int32) := le_iI (b := 99) h2 hv.1 (by omega)
      simp only [if_pos e2]
      obtain ⟨⟨l00, l01, l02, l03, l04, l05⟩, l1, l2, l3, l4, l5, l6, l7⟩ := h
      obtain ⟨⟨m00, m01, m02, m03, m04, m05⟩, m1, m2, m3, m4, m5⟩ := g
      obtain ⟨w0, w1, w2, w3, w4, w5⟩ := hw
      rw [l04, m04]
      refine Or.inl ⟨_, aU A 14 0 v, _, _, _, _, _, _, _, rfl, rfl, ?_, ⟨⟨?_, ?_, ?_, ?_, ?_, ?_⟩, ?_, ?_, ?_, ?_, ?_, ?_, ?_⟩, ⟨⟨?_, ?_, ?_, ?_, ?_, ?_⟩, ?_, ?_, ?_, ?_, ?_⟩, ⟨?_, ?_, ?_, ?_, ?_, ?_⟩, ?_, ?_, fun _ _ => rfl⟩
      all_goals first
        | (rw [iI_0le (by omega) (by omega)]; omega)
        | (simp (disch := decide) only [aU_row, aU_eq, ud_ne, ud_eq]; first | done | assumption)
        | (simp (disch := decide) only [aU_row, aU_eq]; omega)
        | (unfold UQ; simp (disch := decide) only [aU_row]; exact hu)
        | (intro j hj; exact ud_ne (by omega))
        | assumption
    · have e2 : ¬ iI v ≤ (99 : Int32) := nle_iI (a := v) (b := 99) (by omega) (by omega) hv.2
      simp only [if_neg e2]
      exact Or.inr ⟨-6, cod6, rfl, rfl⟩
  · have e1 : ¬ (0 : Int32) ≤ iI v := by rw [iI_0le hv.1 hv.2]; exact h1
    simp only [if_neg e1]
    exact Or.inr ⟨-4, cod4, rfl, rfl⟩
theorem chg_bridge (h : LA A s a t p q) (g : MA A sc ar) (hw : WF A) (hu : UQ A) {c lo hi : Int} (hc : -2147483648 ≤ c ∧ c < 2147483648) (hl : -2147483648 ≤ lo ∧ lo < 2147483648) (hh : -2147483648 ≤ hi ∧ hi < 2147483648) : CHG N A sc ar s a t p q ((f_X1_addBridge N s a (iI c) (iI lo) (iI hi)).bind fun r => some (r.1, r.2.1, r.2.2, t, p, q)) (f_X7_bridge N sc ar (iI c) (iI lo) (iI hi)) := by
  have w0 := hw.1
  have es := h.1.2.1
  have em := g.1.2.1
  unfold f_X1_addBridge f_X7_bridge
  rw [x1_hasCell h hw hc.1 hc.2, x7_isCell g hw hc.1 hc.2]
  simp only [x7_no cod1, x7_no cod3, x7_no cod4, x7_no cod6, Option.bind_some]
  by_cases hin : 0 ≤ c ∧ c < A 0 0
  · rw [bI_t hin]
    simp only [if_neg one_ne]
    by_cases h1 : lo < 0
    · have e1 : iI lo < 0 := by rw [iI_lt0 hl.1 hl.2]; exact h1
      simp only [if_pos e1]
      exact Or.inr ⟨-4, cod4, rfl, rfl⟩
    have e1 : ¬ iI lo < 0 := by rw [iI_lt0 hl.1 hl.2]; exact h1
    by_cases h2 : 0 ≤ hi
    · have e2 : 0 ≤ iI hi := by rw [iI_0le hh.1 hh.2]; exact h2
      simp only [if_neg e1, if_pos e2]
      by_cases h3 : 60 < lo
      · have e3 : 60 < iI lo := lt_iI (a := 60) h3 (by omega) hl.2
        simp only [if_pos e3]
        exact Or.inr ⟨-6, cod6, rfl, rfl⟩
      have e3 : ¬ 60 < iI lo := nlt_iI (a := 60) (by omega) (by omega) (by omega)
      by_cases h4 : 60 < hi
      · have e4 : 60 < iI hi := lt_iI (a := 60) h4 (by omega) hh.2
        simp only [if_neg e3, if_pos e4]
        exact Or.inr ⟨-6, cod6, rfl, rfl⟩
      have e4 : ¬ 60 < iI hi := nlt_iI (a := 60) (by omega) (by omega) (by omega)
      simp only [if_neg e3, if_neg e4]
      by_cases h5 : A 2 0 < 4
      · have e5 : s 2 < 4 := by rw [es]; exact lt_iI (b := 4) h5 (by omega) (by omega)
        have e6 : ¬ sc 2 = 4 := by rw [em]; show ¬ iI (A 2 0) = iI 4; rw [iI_eq (by omega) (by omega) (by omega) (by omega)]; omega
        simp only [if_pos e5, if_neg e6]
        by_cases h6 : lo ≤ hi
        · have e7 : iI lo ≤ iI hi := le_iI h6 (by omega) (by omega)
          simp only [if_pos e7, es, em, if_neg (ob_int (z := A 2 0) (n := 4) (by omega) (by omega) (by omega)), ix_iI (show 0 ≤ A 2 0 by omega) (show A 2 0 < 2147483648 by omega), iI_1s, Option.bind_some]
          have er : iI (A 2 0 + 1) - 1 = iI (A 2 0) := by
            show iI (A 2 0 + 1) - iI 1 = _
            rw [iI_sub]; congr 1; omega
          rw [er]
          obtain ⟨b, hb⟩ : ∃ b : Nat, (b : Int) = A 2 0 := ⟨(A 2 0).toNat, by omega⟩
          have hbt : (A 2 0).toNat = b := by omega
          obtain ⟨⟨l00, l01, l02, l03, l04, l05⟩, l1, l2, l3, l4, l5, l6, l7⟩ := h
          obtain ⟨⟨m00, m01, m02, m03, m04, m05⟩, m1, m2, m3, m4, m5⟩ := g
          obtain ⟨-, w1, w2, w3, w4, w5⟩ := hw
          rw [hbt]
          refine Or.inl ⟨_, aU (aU (aU (aU A 3 b c) 4 b lo) 5 b hi) 2 0 (A 2 0 + 1), _, _, _, _, _, _, _, rfl, rfl, ?_, ⟨⟨?_, ?_, ?_, ?_, ?_, ?_⟩, ?_, ?_, ?_, ?_, ?_, ?_, ?_⟩, ⟨⟨?_, ?_, ?_, ?_, ?_, ?_⟩, ?_, ?_, ?_, ?_, ?_⟩, ⟨?_, ?_, ?_, ?_, ?_, ?_⟩, ?_, ?_, ?_⟩
          all_goals first
            | (rw [iI_0le (by omega) (by omega)]; omega)
            | (simp (disch := decide) only [aU_row, aU_eq, ud_ne, ud_eq, vu_ne]; first | done | assumption | omega)
            | (unfold UQ; simp (disch := decide) only [aU_row]; exact hu)
            | (intro j hj; exact ud_ne (by omega))
            | (intro j hj; rw [vu_ne (by omega), vu_ne (by omega), vu_ne (by omega)])
            | (simp (disch := decide) only [aU_row, aU_eq, vu_ne, vu_eq]
               intro i hi
               by_cases e : i = b
               · rw [e]; simp only [ud_eq, aU_eq, and_self]; try omega
               · simp only [ud_ne e, aU_ne e]; first | exact l3 i (by omega) | exact m2 i (by omega) | exact w2 i (by omega))
            | assumption
        · have e7 : ¬ iI lo ≤ iI hi := nle_iI (by omega) (by omega) (by omega)
          simp only [if_neg e7]
          exact Or.inr ⟨-3, cod3, rfl, rfl⟩
      · have e5 : ¬ s 2 < 4 := by rw [es]; exact nlt_iI (b := 4) (by omega) (by omega) (by omega)
        have e6 : sc 2 = 4 := by rw [em]; show iI (A 2 0) = iI 4; rw [show A 2 0 = 4 by omega]
        simp only [if_neg e5, if_pos e6]
        exact Or.inr ⟨-6, cod6, rfl, rfl⟩
    · have e2 : ¬ 0 ≤ iI hi := by rw [iI_0le hh.1 hh.2]; exact h2
      simp only [if_neg e1, if_neg e2]
      exact Or.inr ⟨-4, cod4, rfl, rfl⟩
  · rw [bI_f hin]
    exact Or.inr ⟨-1, cod1, rfl, rfl⟩
theorem chg_train (h : LA A s a t p q) (g : MA A sc ar) (hw : WF A) (hu : UQ A) {k f sl w : Int} (hk : -2147483648 ≤ k ∧ k < 2147483648) (hf : -2147483648 ≤ f ∧ f < 2147483648) (hs : -2147483648 ≤ sl ∧ sl < 2147483648) (hww : -2147483648 ≤ w ∧ w < 2147483648) : CHG N A sc ar s a t p q ((f_X1_addTrain N s t (iI k) (iI f) (iI sl) (iI w)).bind fun r => some (r.1, r.2.1, a, r.2.2, p, q)) (f_X7_train N sc ar (iI k) (iI f) (iI sl) (iI w)) := by
  have w0 := hw.1
  have es := h.1.2.2.2.1
  have em := g.1.2.2.2.1
  unfold f_X1_addTrain f_X7_train
  have i1 : f_X7_in N (iI k) 0 5 = some (bI (0 ≤ k ∧ k ≤ 5)) := x7_in (b := 0) (c := 5) hk.1 hk.2 (by omega) (by omega) (by omega) (by omega)
  have i2 : f_X7_in N (iI w) 0 1 = some (bI (0 ≤ w ∧ w ≤ 1)) := x7_in (b := 0) (c := 1) hww.1 hww.2 (by omega) (by omega) (by omega) (by omega)
  rw [i1, i2]
  simp only [x7_no cod2, x7_no cod4, x7_no cod6, Option.bind_some]
  by_cases h1 : 0 ≤ k ∧ k ≤ 5
  · rw [bI_t h1]
    have e1 : ¬ iI k < 0 := by rw [iI_lt0 hk.1 hk.2]; omega
    have e2 : ¬ 6 ≤ iI k := nle_iI (a := 6) (by omega) (by omega) (by omega)
    simp only [if_neg one_ne, if_neg e1, if_neg e2]
    by_cases h2 : 0 ≤ w ∧ w ≤ 1
    · rw [bI_t h2]
      have e3 : ¬ iI w < 0 := by rw [iI_lt0 hww.1 hww.2]; omega
      have e4 : iI w ≤ 1 := le_iI (b := 1) (by omega) (by omega) (by omega)
      simp only [if_neg one_ne, if_neg e3, if_pos e4]
      by_cases h3 : f < 0
      · have e5 : iI f < 0 := by rw [iI_lt0 hf.1 hf.2]; exact h3
        simp only [if_pos e5]
        exact Or.inr ⟨-4, cod4, rfl, rfl⟩
      have e5 : ¬ iI f < 0 := by rw [iI_lt0 hf.1 hf.2]; exact h3
      simp only [if_neg e5]
      by_cases h4 : 1 ≤ sl
      · have e6 : 1 ≤ iI sl := le_iI (a := 1) h4 (by omega) hs.2
        simp only [if_pos e6]
        by_cases h5 : 9 < f
        · have e7 : 9 < iI f := lt_iI (a := 9) h5 (by omega) hf.2
          simp only [if_pos e7]
          exact Or.inr ⟨-6, cod6, rfl, rfl⟩
        have e7 : ¬ 9 < iI f := nlt_iI (a := 9) (by omega) (by omega) (by omega)
        simp only [if_neg e7]
        by_cases h6 : 9 < sl
        · have e8 : 9 < iI sl := lt_iI (a := 9) h6 (by omega) hs.2
          simp only [if_pos e8]
          exact Or.inr ⟨-6, cod6, rfl, rfl⟩
        have e8 : ¬ 9 < iI sl := nlt_iI (a := 9) (by omega) (by omega) (by omega)
        simp only [if_neg e8]
        by_cases h7 : A 9 0 < 4
        · have e9 : s 9 < 4 := by rw [es]; exact lt_iI (b := 4) h7 (by omega) (by omega)
          have e10 : ¬ sc 9 = 4 := by rw [em]; show ¬ iI (A 9 0) = iI 4; rw [iI_eq (by omega) (by omega) (by omega) (by omega)]; omega
          simp only [if_pos e9, if_neg e10]
          simp only [es, em, if_neg (ob_int (z := A 9 0) (n := 4) (by omega) (by omega) (by omega)), ix_iI (show 0 ≤ A 9 0 by omega) (show A 9 0 < 2147483648 by omega), iI_1s, Option.bind_some]
          have er : iI (A 9 0 + 1) - 1 = iI (A 9 0) := by
            show iI (A 9 0 + 1) - iI 1 = _
            rw [iI_sub]; congr 1; omega
          rw [er]
          obtain ⟨b, hb⟩ : ∃ b : Nat, (b : Int) = A 9 0 := ⟨(A 9 0).toNat, by omega⟩
          have hbt : (A 9 0).toNat = b := by omega
          obtain ⟨⟨l00, l01, l02, l03, l04, l05⟩, l1, l2, l3, l4, l5, l6, l7⟩ := h
          obtain ⟨⟨m00, m01, m02, m03, m04, m05⟩, m1, m2, m3, m4, m5⟩ := g
          obtain ⟨-, w1, w2, w3, w4, w5⟩ := hw
          rw [hbt]
          refine Or.inl ⟨_, aU (aU (aU (aU (aU A 10 b k) 11 b f) 12 b sl) 13 b w) 9 0 (A 9 0 + 1), _, _, _, _, _, _, _, rfl, rfl, ?_, ⟨⟨?_, ?_, ?_, ?_, ?_, ?_⟩, ?_, ?_, ?_, ?_, ?_, ?_, ?_⟩, ⟨⟨?_, ?_, ?_, ?_, ?_, ?_⟩, ?_, ?_, ?_, ?_, ?_⟩, ⟨?_, ?_, ?_, ?_, ?_, ?_⟩, ?_, ?_, ?_⟩
          all_goals first
            | (rw [iI_0le (by omega) (by omega)]; omega)
            | (simp (disch := decide) only [aU_row, aU_eq, ud_ne, ud_eq, vu_ne]; first | done | assumption | omega)
            | (unfold UQ; simp (disch := decide) only [aU_row]; exact hu)
            | (intro j hj; exact ud_ne (by omega))
            | (intro j hj; rw [vu_ne (by omega), vu_ne (by omega), vu_ne (by omega), vu_ne (by omega)])
            | (simp (disch := decide) only [aU_row, aU_eq, vu_ne, vu_eq]
               intro i hi
               by_cases e : i = b
               · rw [e]; simp (disch := decide) only [ud_ne, ud_eq, aU_eq, vu_eq, and_self]; try omega
               · simp only [ud_ne e, aU_ne e, vu_ne e]; first | exact l5 i (by omega) | exact m4 i (by omega) | exact w4 i (by omega))
            | assumption
        · have e9 : ¬ s 9 < 4 := by rw [es]; exact nlt_iI (b := 4) (by omega) (by omega) (by omega)
          have e10 : sc 9 = 4 := by rw [em]; show iI (A 9 0) = iI 4; rw [show A 9 0 = 4 by omega]
          simp only [if_neg e9, if_pos e10]
          exact Or.inr ⟨-6, cod6, rfl, rfl⟩
      · have e6 : ¬ 1 ≤ iI sl := nle_iI (a := 1) (by omega) (by omega) (by omega)
        simp only [if_neg e6]
        exact Or.inr ⟨-4, cod4, rfl, rfl⟩
    · rw [bI_f h2]
      refine Or.inr ⟨-2, cod2, ?_, rfl⟩
      by_cases h3 : w < 0
      · have e3 : iI w < 0 := by rw [iI_lt0 hww.1 hww.2]; omega
        simp only [if_pos e3, Option.bind_some]
      · have e3 : ¬ iI w < 0 := by rw [iI_lt0 hww.1 hww.2]; omega
        have e4 : ¬ iI w ≤ 1 := nle_iI (b := 1) (by omega) (by omega) (by omega)
        simp only [if_neg e3, if_neg e4, Option.bind_some]
  · rw [bI_f h1]
    refine Or.inr ⟨-2, cod2, ?_, rfl⟩
    by_cases h3 : k < 0
    · have e3 : iI k < 0 := by rw [iI_lt0 hk.1 hk.2]; omega
      simp only [if_pos e3, Option.bind_some]
    · have e3 : ¬ iI k < 0 := by rw [iI_lt0 hk.1 hk.2]; omega
      have e4 : 6 ≤ iI k := le_iI (a := 6) (by omega) (by omega) (by omega)
      simp only [if_neg e3, if_pos e4, Option.bind_some]
/-- the post at a cell -/
theorem x1_postAt (hN : 100 ≤ N) (h : LA A s a t p q) (hw : WF A) {c : Int} (hc : 0 ≤ c ∧ c < A 0 0) : (∃ i : Nat, (i : Int) < A 6 0 ∧ A 7 i = c ∧ f_X1_postAt N s a (iI c) = some (iI i)) ∨ ((∀ i : Nat, (i : Int) < A 6 0 → A 7 i ≠ c) ∧ f_X1_postAt N s a (iI c) = some (-9)) := by
  have w0 := hw.1
  have e6 := h.1.2.2.1
  unfold f_X1_postAt
  have go := lp_any (F := fun n i => f_X1_postAt_L2 N s a (iI c) (fun _ => some (-9)) n (iI (i : Int))) (fin := some (-9)) (r := fun i => some (iI (i : Int))) (P := fun i => A 7 i = c) (n := (A 6 0).toNat)
    (by
      intro k
      rw [f_X1_postAt_L2, e6, if_pos (le_iI (by omega) (by omega) (by omega))])
    (by
      intro k i hi
      have wp := hw.2.2.2.1 i (by omega)
      have e : f_X1_postAt_L2 N s a (iI c) (fun _ => some (-9)) (k + 1) (iI (i : Int)) = if A 7 i = c then some (iI (i : Int)) else f_X1_postAt_L2 N s a (iI c) (fun _ => some (-9)) k (iI ((i + 1 : Nat) : Int)) := by
        rw [f_X1_postAt_L2, e6, if_neg (nle_iI (by omega) (by omega) (by omega)), if_neg (ob_nat (by omega) (by omega)), ix_nat (by omega), (h.2.2.2.2.1 i (by omega)).1, iteeq (by omega) (by omega) (by omega) (by omega), iI_succ]
      exact ⟨fun hp => by rw [e, if_pos hp], fun hp => by rw [e, if_neg hp]⟩)
    N 0 (by omega) (by omega)
  rcases go with ⟨j, -, j2, j3, -, e⟩ | ⟨j1, e⟩
  · exact Or.inl ⟨j, by omega, j3, e⟩
  · exact Or.inr ⟨fun i hi => j1 i (by omega) (by omega), e⟩
theorem x7_postOn (hN : 100 ≤ N) (g : MA A sc ar) (hw : WF A) {c : Int} (hc : 0 ≤ c ∧ c < A 0 0) : (∃ i : Nat, (i : Int) < A 6 0 ∧ A 7 i = c ∧ f_X7_postOn N sc ar (iI c) = some (iI i)) ∨ ((∀ i : Nat, (i : Int) < A 6 0 → A 7 i ≠ c) ∧ f_X7_postOn N sc ar (iI c) = some (-1)) := by
  have w0 := hw.1
  have e6 := g.1.2.2.1
  have key : ∀ (k i : Nat) (v : Int32), (i : Int) ≤ A 6 0 → A 6 0 < i + k → ((∃ j : Nat, j < i ∧ A 7 j = c ∧ v = iI j) ∨ ((∀ j : Nat, j < i → A 7 j ≠ c) ∧ v = -1)) → ((∃ j : Nat, (j : Int) < A 6 0 ∧ A 7 j = c ∧ f_X7_postOn_L4 N sc ar (iI c) (fun x => some x) k v (iI (i : Int)) = some (iI j)) ∨ ((∀ j : Nat, (j : Int) < A 6 0 → A 7 j ≠ c) ∧ f_X7_postOn_L4 N sc ar (iI c) (fun x => some x) k v (iI (i : Int)) = some (-1))) := by
    intro k
    induction k with
    | zero => intro i v h1 h2; omega
    | succ k ih =>
      intro i v h1 h2 hv
      by_cases hi : (i : Int) < A 6 0
      · have wp := hw.2.2.2.1 i hi
        rw [f_X7_postOn_L4, e6, if_neg (nle_iI (by omega) (by omega) (by omega)), if_neg (ob_nat (by omega) (by omega)), ix_nat (by omega), (g.2.2.2.1 i hi).1, iteeq (by omega) (by omega) (by omega) (by omega), iI_succ]
        refine ih (i + 1) _ (by omega) (by omega) ?_
        by_cases he : A 7 i = c
        · rw [if_pos he]; exact Or.inl ⟨i, by omega, he, rfl⟩
        · rw [if_neg he]
          rcases hv with ⟨j, x, y, z⟩ | ⟨x, y⟩
          · exact Or.inl ⟨j, by omega, y, z⟩
          · refine Or.inr ⟨?_, y⟩
            intro j hj
            by_cases e : j = i
            · rw [e]; exact he
            · exact x j (by omega)
      · rw [f_X7_postOn_L4, e6, if_pos (le_iI (by omega) (by omega) (by omega))]
        rcases hv with ⟨j, x, y, z⟩ | ⟨x, y⟩
        · exact Or.inl ⟨j, by omega, y, by rw [z]⟩
        · exact Or.inr ⟨fun j hj => x j (by omega), by rw [y]⟩
  exact key N 0 (-1) (by omega) (by omega) (Or.inr ⟨fun j hj => absurd hj (by omega), rfl⟩)
theorem chg_post (hN : 100 ≤ N) (h : LA A s a t p q) (g : MA A sc ar) (hw : WF A) (hu : UQ A) {c v : Int} (hc : -2147483648 ≤ c ∧ c < 2147483648) (hv : -2147483648 ≤ v ∧ v < 2147483648) : CHG N A sc ar s a t p q ((f_X1_addPost N s a (iI c) (iI v)).bind fun r => some (r.1, r.2.1, r.2.2, t, p, q)) (f_X7_post N sc ar (iI c) (iI v)) := by
  have w0 := hw.1
  have es := h.1.2.2.1
  have em := g.1.2.2.1
  unfold f_X1_addPost f_X7_post
  rw [x1_hasCell h hw hc.1 hc.2, x7_isCell g hw hc.1 hc.2]
  simp only [x7_no cod1, x7_no cod3, x7_no cod4, x7_no cod6, Option.bind_some]
  by_cases hin : 0 ≤ c ∧ c < A 0 0
  · rw [bI_t hin]
    simp only [if_neg one_ne]
    by_cases h2 : 0 ≤ v
    · have e2 : 0 ≤ iI v := by rw [iI_0le hv.1 hv.2]; exact h2
      simp only [if_pos e2]
      by_cases h3 : 15 < v
      · have e3 : 15 < iI v := lt_iI (a := 15) h3 (by omega) hv.2
        simp only [if_pos e3]
        exact Or.inr ⟨-6, cod6, rfl, rfl⟩
      have e3 : ¬ 15 < iI v := nlt_iI (a := 15) (by omega) (by omega) (by omega)
      simp only [if_neg e3]
      by_cases h5 : A 6 0 < 5
      · have e5 : s 6 < 5 := by rw [es]; exact lt_iI (b := 5) h5 (by omega) (by omega)
        have e6 : ¬ sc 6 = 5 := by rw [em]; show ¬ iI (A 6 0) = iI 5; rw [iI_eq (by omega) (by omega) (by omega) (by omega)]; omega
        simp only [if_pos e5, if_neg e6]
        rcases x1_postAt hN h hw hin with ⟨i, i1, i2, i3⟩ | ⟨i1, i3⟩
        · rcases x7_postOn hN g hw hin with ⟨j, j1, j2, j3⟩ | ⟨j1, -⟩
          · have e7 : ¬ iI (i : Int) = (-9 : Int32) := by show ¬ iI (i : Int) = iI (-9); rw [iI_eq (by omega) (by omega) (by omega) (by omega)]; omega
            have e8 : ¬ iI (j : Int) < 0 := by rw [iI_lt0 (by omega) (by omega)]; omega
            rw [i3, j3]
            simp only [Option.bind_some, if_neg e7, if_neg e8]
            exact Or.inr ⟨-3, cod3, rfl, rfl⟩
          · exact absurd i2 (j1 i i1)
        · rcases x7_postOn hN g hw hin with ⟨j, j1, j2, j3⟩ | ⟨j1, j3⟩
          · exact absurd j2 (i1 j j1)
          rw [i3, j3]
          simp only [Option.bind_some, if_pos (show (-1 : Int32) < 0 by decide), es, em, if_neg (ob_int (z := A 6 0) (n := 5) (by omega) (by omega) (by omega)), ix_iI (show 0 ≤ A 6 0 by omega) (show A 6 0 < 2147483648 by omega), iI_1s]
          have er : iI (A 6 0 + 1) - 1 = iI (A 6 0) := by
            show iI (A 6 0 + 1) - iI 1 = _
            rw [iI_sub]; congr 1; omega
          rw [er]
          obtain ⟨b, hb⟩ : ∃ b : Nat, (b : Int) = A 6 0 := ⟨(A 6 0).toNat, by omega⟩
          have hbt : (A 6 0).toNat = b := by omega
          obtain ⟨⟨l00, l01, l02, l03, l04, l05⟩, l1, l2, l3, l4, l5, l6, l7⟩ := h
          obtain ⟨⟨m00, m01, m02, m03, m04, m05⟩, m1, m2, m3, m4, m5⟩ := g
          obtain ⟨-, w1, w2, w3, w4, w5⟩ := hw
          rw [hbt]
          refine Or.inl ⟨_, aU (aU (aU A 7 b c) 8 b v) 6 0 (A 6 0 + 1), _, _, _, _, _, _, _, rfl, rfl, ?_, ⟨⟨?_, ?_, ?_, ?_, ?_, ?_⟩, ?_, ?_, ?_, ?_, ?_, ?_, ?_⟩, ⟨⟨?_, ?_, ?_, ?_, ?_, ?_⟩, ?_, ?_, ?_, ?_, ?_⟩, ⟨?_, ?_, ?_, ?_, ?_, ?_⟩, ?_, ?_, ?_⟩
          all_goals first
            | (rw [iI_0le (by omega) (by omega)]; omega)
            | (simp (disch := decide) only [aU_row, aU_eq, ud_ne, ud_eq, vu_ne]; first | done | assumption | omega)
            | (intro j hj; exact ud_ne (by omega))
            | (intro j hj; rw [vu_ne (by omega), vu_ne (by omega)])
            | (simp (disch := decide) only [aU_row, aU_eq, vu_ne, vu_eq]
               intro i hi
               by_cases e : i = b
               · rw [e]; simp only [ud_eq, aU_eq, and_self]; try omega
               · simp only [ud_ne e, aU_ne e]; first | exact l4 i (by omega) | exact m3 i (by omega) | exact w3 i (by omega))
            | assumption
            | (unfold UQ
               simp (disch := decide) only [aU_row, aU_eq]
               intro i j hi hj he
               by_cases x : i = b
               · by_cases y : j = b
                 · omega
                 · rw [x, aU_eq, aU_ne y] at he; exact absurd he.symm (i1 j (by omega))
               · by_cases y : j = b
                 · rw [y, aU_eq, aU_ne x] at he; exact absurd he (i1 i (by omega))
                 · rw [aU_ne x, aU_ne y] at he; exact hu i j (by omega) (by omega) he)
      · have e5 : ¬ s 6 < 5 := by rw [es]; exact nlt_iI (b := 5) (by omega) (by omega) (by omega)
        have e6 : sc 6 = 5 := by rw [em]; show iI (A 6 0) = iI 5; rw [show A 6 0 = 5 by omega]
        simp only [if_neg e5, if_pos e6]
        exact Or.inr ⟨-6, cod6, rfl, rfl⟩
    · have e2 : ¬ 0 ≤ iI v := by rw [iI_0le hv.1 hv.2]; exact h2
      simp only [if_neg e2]
      exact Or.inr ⟨-4, cod4, rfl, rfl⟩
  · rw [bI_f hin]
    exact Or.inr ⟨-1, cod1, rfl, rfl⟩
theorem chg_sets (hN : 100 ≤ N) (h : LA A s a t p q) (g : MA A sc ar) (hw : WF A) (hu : UQ A) {z c v : Int} (hz : -2147483648 ≤ z ∧ z < 2147483648) (hc : -2147483648 ≤ c ∧ c < 2147483648) (hv : -2147483648 ≤ v ∧ v < 2147483648) : CHG N A sc ar s a t p q ((f_X1_setPost N s a (iI z) (iI c) (iI v)).bind fun r => some (r.1, s, r.2, t, p, q)) ((f_X7_sets N sc ar (iI z) (iI c) (iI v)).bind fun r => some (r.1, sc, r.2)) := by
  have w0 := hw.1
  unfold f_X1_setPost f_X7_sets
  rw [x1_hasCell h hw hc.1 hc.2, x7_isCell g hw hc.1 hc.2, x1_hasPost h hw hz.1 hz.2, x7_isPost g hw hz.1 hz.2]
  simp only [x7_no cod1, x7_no cod3, x7_no cod4, x7_no cod6, Option.bind_some]
  by_cases hpo : 0 ≤ z ∧ z < A 6 0
  · rw [bI_t hpo]
    simp only [if_neg one_ne]
    by_cases hin : 0 ≤ c ∧ c < A 0 0
    · rw [bI_t hin]
      simp only [if_neg one_ne]
      by_cases h2 : 0 ≤ v
      · have e2 : 0 ≤ iI v := by rw [iI_0le hv.1 hv.2]; exact h2
        simp only [if_pos e2]
        by_cases h3 : v ≤ 15
        · have e3 : iI v ≤ 15 := le_iI (b := 15) h3 (by omega) (by omega)
          simp only [if_pos e3]
          obtain ⟨b, hb⟩ : ∃ b : Nat, (b : Int) = z := ⟨z.toNat, by omega⟩
          subst hb
          have hob : ¬ oob (iI (b : Int)) 5 := ob_nat (by omega) (by omega)
          have wp := hw.2.2.2.1 b (by omega)
          have done : (∀ j : Nat, (j : Int) < A 6 0 → j ≠ b → A 7 j ≠ c) → CHG N A sc ar s a t p q (some (100 * iI (A 7 b) + iI (A 8 b), s, va_up (va_up a 7 (upd (a 7) b (iI c))) 8 (upd (a 8) b (iI v)), t, p, q)) (some (100 * iI (A 7 b) + iI (A 8 b), sc, va_up (va_up ar 7 (upd (ar 7) b (iI c))) 8 (upd (ar 8) b (iI v)))) := by
            intro i1
            obtain ⟨⟨l00, l01, l02, l03, l04, l05⟩, l1, l2, l3, l4, l5, l6, l7⟩ := h
            obtain ⟨⟨m00, m01, m02, m03, m04, m05⟩, m1, m2, m3, m4, m5⟩ := g
            obtain ⟨-, w1, w2, w3, w4, w5⟩ := hw
            refine Or.inl ⟨_, aU (aU A 7 b c) 8 b v, _, _, _, _, _, _, _, rfl, rfl, ?_, ⟨⟨?_, ?_, ?_, ?_, ?_, ?_⟩, ?_, ?_, ?_, ?_, ?_, ?_, ?_⟩, ⟨⟨?_, ?_, ?_, ?_, ?_, ?_⟩, ?_, ?_, ?_, ?_, ?_⟩, ⟨?_, ?_, ?_, ?_, ?_, ?_⟩, ?_, fun _ _ => rfl, ?_⟩
            all_goals first
              | (show 0 ≤ iI 100 * iI (A 7 b) + iI (A 8 b); rw [iI_mul, iI_add, iI_0le (by omega) (by omega)]; omega)
              | (simp (disch := decide) only [aU_row, aU_eq, ud_ne, ud_eq, vu_ne]; first | done | assumption | omega)
              | (intro j hj; rw [vu_ne (by omega), vu_ne (by omega)])
              | (simp (disch := decide) only [aU_row, aU_eq, vu_ne, vu_eq]
                 intro i hi
                 by_cases e : i = b
                 · rw [e]; simp only [ud_eq, aU_eq, and_self]; try omega
                 · simp only [ud_ne e, aU_ne e]; first | exact l4 i (by omega) | exact m3 i (by omega) | exact w3 i (by omega))
              | assumption
              | (unfold UQ
                 simp (disch := decide) only [aU_row, aU_eq]
                 intro i j hi hj he
                 by_cases x : i = b
                 · by_cases y : j = b
                   · omega
                   · rw [x, aU_eq, aU_ne y] at he; exact absurd he.symm (i1 j (by omega) y)
                 · by_cases y : j = b
                   · rw [y, aU_eq, aU_ne x] at he; exact absurd he (i1 i (by omega) x)
                   · rw [aU_ne x, aU_ne y] at he; exact hu i j (by omega) (by omega) he)
          have ea := h.2.2.2.2.1 b (by omega)
          have eb := g.2.2.2.1 b (by omega)
          rcases x1_postAt hN h hw hin with ⟨i, i1, i2, i3⟩ | ⟨i1, i3⟩
          · rcases x7_postOn hN g hw hin with ⟨j, j1, j2, j3⟩ | ⟨j1, -⟩
            · have hij : i = j := hu i j i1 j1 (by omega)
              subst hij
              have e7 : ¬ iI (i : Int) = (-9 : Int32) := by show ¬ iI (i : Int) = iI (-9); rw [iI_eq (by omega) (by omega) (by omega) (by omega)]; omega
              have e8 : ¬ iI (i : Int) < 0 := by rw [iI_lt0 (by omega) (by omega)]; omega
              rw [i3, j3]
              simp only [Option.bind_some, if_neg e7, if_neg e8]
              by_cases hib : i = b
              · subst hib
                simp only [if_true, if_neg hob, ix_nat (show i < 2147483648 by omega), ea.1, ea.2, eb.1, eb.2, Option.bind_some]
                exact done (fun j hj hn he => hn (hu j i hj i1 (by omega)))
              · have e9 : ¬ iI (i : Int) = iI (b : Int) := by rw [iI_eq (by omega) (by omega) (by omega) (by omega)]; omega
                simp only [if_neg e9, Option.bind_some]
                exact Or.inr ⟨-3, cod3, rfl, rfl⟩
            · exact absurd i2 (j1 i i1)
          · rcases x7_postOn hN g hw hin with ⟨j, j1, j2, j3⟩ | ⟨j1, j3⟩
            · exact absurd j2 (i1 j j1)
            rw [i3, j3]
            simp only [Option.bind_some, if_pos (show (-1 : Int32) < 0 by decide), if_neg hob, ix_nat (show b < 2147483648 by omega), ea.1, ea.2, eb.1, eb.2]
            exact done (fun j hj _ => i1 j hj)
        · have e3 : ¬ iI v ≤ 15 := nle_iI (b := 15) (by omega) (by omega) (by omega)
          simp only [if_neg e3]
          exact Or.inr ⟨-6, cod6, rfl, rfl⟩
      · have e2 : ¬ 0 ≤ iI v := by rw [iI_0le hv.1 hv.2]; exact h2
        simp only [if_neg e2]
        exact Or.inr ⟨-4, cod4, rfl, rfl⟩
    · rw [bI_f hin]
      exact Or.inr ⟨-1, cod1, rfl, rfl⟩
  · rw [bI_f hpo]
    exact Or.inr ⟨-1, cod1, rfl, rfl⟩
end PC9
