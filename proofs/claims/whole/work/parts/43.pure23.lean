-- ===== whatIs, letter, count =====
section PC23
variable {N : Nat} {A : AS} {s : S1} {a t : S2} {p : S1} {q : S2} {sc : S1} {ar : S2} {aX : S2} {sH : S2} {rH la : S3} {uH : S2}
theorem x6_kinds (hN : 100 ≤ N) (h : LA A s a t p q) (hw : WF A) {k j : Nat} (hj : (j : Int) < A 9 0) {sz : Int} (hsz : 0 ≤ sz ∧ sz ≤ 20) (a3 : sH k 1 = iI sz) (a6 : ∀ i : Nat, i < 20 → rH k i = la 32 (20 * k + i)) {u : S1} (hu : TR u (A 10 j) (A 11 j) (A 12 j) (A 13 j)) : ∃ u', f_X6_kindsThatFit N u s a sH rH k = some (bitsF (fun kd => fitP A la k j sz kd (A 11 j)) 6, u') := by
  unfold f_X6_kindsThatFit
  obtain ⟨u', -, e⟩ := lp_inv (R := Int32 × S1) (F := fun m i v => f_X6_kindsThatFit_L4 N s a sH rH k (fun x2_4 t4 => some (x2_4, t4)) m (bitsF (fun kd => fitP A la k j sz kd (A 11 j)) i) (iI (i : Int)) v) (I := fun i v => v 1 = iI (A 11 j) ∧ v 2 = iI (A 12 j) ∧ v 3 = iI (A 13 j)) (kx := fun v => some (bitsF (fun kd => fitP A la k j sz kd (A 11 j)) 6, v)) (n := 6)
    (by
      intro m v _
      rw [f_X6_kindsThatFit_L4, if_pos (by show iI 6 ≤ iI ((6 : Nat) : Int); exact le_iI (by omega) (by omega) (by omega))])
    (by
      intro m i v hi hI
      have hT : TR (upd v 0 (iI (i : Int))) i (A 11 j) (A 12 j) (A 13 j) := ⟨⟨ud_eq _ _ _, by rw [ud_ne (by decide)]; exact hI.1, by rw [ud_ne (by decide)]; exact hI.2.1, by rw [ud_ne (by decide)]; exact hI.2.2⟩, by omega, hu.2.2⟩
      refine ⟨upd v 0 (iI (i : Int)), ⟨by rw [ud_ne (by decide)]; exact hI.1, by rw [ud_ne (by decide)]; exact hI.2.1, by rw [ud_ne (by decide)]; exact hI.2.2⟩, ?_⟩
      rw [f_X6_kindsThatFit_L4, if_neg (by show ¬ iI 6 ≤ iI (i : Int); exact nle_iI (by omega) (by omega) (by omega)), x6_fit hN h hw hsz a3 a6 hT, Option.bind_some, bI_ite, iI_succ, bitsF])
    N 0 u (by omega) (by omega) ⟨hu.1.2.1, hu.1.2.2.1, hu.1.2.2.2⟩
  exact ⟨u', e⟩
theorem x6_figures (hN : 100 ≤ N) (h : LA A s a t p q) (hw : WF A) {k j : Nat} (hj : (j : Int) < A 9 0) {sz : Int} (hsz : 0 ≤ sz ∧ sz ≤ 20) (a3 : sH k 1 = iI sz) (a6 : ∀ i : Nat, i < 20 → rH k i = la 32 (20 * k + i)) {u : S1} (hu : TR u (A 10 j) (A 11 j) (A 12 j) (A 13 j)) : ∃ u', f_X6_figuresThatFit N u s a sH rH k = some (bitsF (fun fg => fitP A la k j sz (A 10 j) fg) 10, u') := by
  unfold f_X6_figuresThatFit
  obtain ⟨u', -, e⟩ := lp_inv (R := Int32 × S1) (F := fun m i v => f_X6_figuresThatFit_L4 N s a sH rH k (fun x2_4 t4 => some (x2_4, t4)) m (bitsF (fun fg => fitP A la k j sz (A 10 j) fg) i) (iI (i : Int)) v) (I := fun i v => v 0 = iI (A 10 j) ∧ v 2 = iI (A 12 j) ∧ v 3 = iI (A 13 j)) (kx := fun v => some (bitsF (fun fg => fitP A la k j sz (A 10 j) fg) 10, v)) (n := 10)
    (by
      intro m v _
      rw [f_X6_figuresThatFit_L4, if_pos (by show iI 9 < iI ((10 : Nat) : Int); exact lt_iI (by omega) (by omega) (by omega))])
    (by
      intro m i v hi hI
      have hT : TR (upd v 1 (iI (i : Int))) (A 10 j) i (A 12 j) (A 13 j) := ⟨⟨by rw [ud_ne (by decide)]; exact hI.1, ud_eq _ _ _, by rw [ud_ne (by decide)]; exact hI.2.1, by rw [ud_ne (by decide)]; exact hI.2.2⟩, hu.2.1, by omega, hu.2.2.2⟩
      refine ⟨upd v 1 (iI (i : Int)), ⟨by rw [ud_ne (by decide)]; exact hI.1, by rw [ud_ne (by decide)]; exact hI.2.1, by rw [ud_ne (by decide)]; exact hI.2.2⟩, ?_⟩
      rw [f_X6_figuresThatFit_L4, if_neg (by show ¬ iI 9 < iI (i : Int); exact nlt_iI (by omega) (by omega) (by omega)), x6_fit hN h hw hsz a3 a6 hT, Option.bind_some, bI_ite, iI_succ, bitsF])
    N 0 u (by omega) (by omega) ⟨hu.1.1, hu.1.2.2.1, hu.1.2.2.2⟩
  exact ⟨u', e⟩
theorem x7_what0 {β : Type} (hN : 100 ≤ N) (g : MA A sc ar) (hw : WF A) {k j : Nat} (hk4 : k < 4) (hj : (j : Int) < A 9 0) {sz : Int} (hsz : 0 ≤ sz ∧ sz ≤ 20) (a4 : ar 31 k = iI sz) {kx : Int32 → Option β} : f_X7_whatIs_L67 N sc ar la (iI k) (iI j) 0 kx N 0 0 = kx (bitsF (fun kd => fitP A la k j sz kd (A 11 j)) 6) := by
  have w0 := hw.1
  have o2 : ¬ oob (iI (j : Int)) 4 := ob_nat (by omega) (by omega)
  exact lp_all (F := fun m i => f_X7_whatIs_L67 N sc ar la (iI k) (iI j) 0 kx m (bitsF (fun kd => fitP A la k j sz kd (A 11 j)) i) (iI (i : Int))) (n := 6)
    (by
      intro m
      rw [f_X7_whatIs_L67, if_pos (show (if (0 : Int32) = 0 then (6 : Int32) else 10) ≤ iI ((6 : Nat) : Int) by decide)])
    (by
      intro m i hi
      rw [f_X7_whatIs_L67, if_neg (show ¬ (if (0 : Int32) = 0 then (6 : Int32) else 10) ≤ iI (i : Int) from nle_iI (a := 6) (by omega) (by omega) (by omega)), if_pos rfl, if_pos rfl, if_neg o2, ix_nat (by omega), (g.2.2.2.2.1 j hj).2.1, Option.bind_some, Option.bind_some, x7_fit hN g hw hk4 hj hsz a4 (by omega), Option.bind_some, bI_ite, iI_succ, bitsF]
      by_cases c : fitP A la k j sz i (A 11 j)
      · rw [cI_t c, cI_t c]
      · rw [cI_f c, cI_f c, Int32.or_zero])
    N 0 (by omega) (by omega)
theorem x7_what1 {β : Type} (hN : 100 ≤ N) (g : MA A sc ar) (hw : WF A) {k j : Nat} (hk4 : k < 4) (hj : (j : Int) < A 9 0) {sz : Int} (hsz : 0 ≤ sz ∧ sz ≤ 20) (a4 : ar 31 k = iI sz) {kx : Int32 → Option β} : f_X7_whatIs_L67 N sc ar la (iI k) (iI j) 1 kx N 0 0 = kx (bitsF (fun fg => fitP A la k j sz (A 10 j) fg) 10) := by
  have w0 := hw.1
  have wt := hw.2.2.2.2.1 j hj
  have o2 : ¬ oob (iI (j : Int)) 4 := ob_nat (by omega) (by omega)
  exact lp_all (F := fun m i => f_X7_whatIs_L67 N sc ar la (iI k) (iI j) 1 kx m (bitsF (fun fg => fitP A la k j sz (A 10 j) fg) i) (iI (i : Int))) (n := 10)
    (by
      intro m
      rw [f_X7_whatIs_L67, if_pos (show (if (1 : Int32) = 0 then (6 : Int32) else 10) ≤ iI ((10 : Nat) : Int) by decide)])
    (by
      intro m i hi
      rw [f_X7_whatIs_L67, if_neg (show ¬ (if (1 : Int32) = 0 then (6 : Int32) else 10) ≤ iI (i : Int) from nle_iI (a := 10) (by omega) (by omega) (by omega)), if_neg one_ne, if_neg one_ne, if_neg o2, ix_nat (by omega), (g.2.2.2.2.1 j hj).1, Option.bind_some, Option.bind_some, x7_fit hN g hw hk4 hj hsz a4 (by omega), Option.bind_some, bI_ite, iI_succ, bitsF]
      by_cases c : fitP A la k j sz (A 10 j) i
      · rw [cI_t c, cI_t c]
      · rw [cI_f c, cI_f c, Int32.or_zero])
    N 0 (by omega) (by omega)
theorem q_whatIs (hN : 100 ≤ N) (h : LA A s a t p q) (g : MA A sc ar) (hw : WF A) (hs : SH sH rH uH ar la) {uG : S1} {x y z : Int} (h1 : -2147483648 ≤ x ∧ x < 2147483648) (h2 : -2147483648 ≤ y ∧ y < 2147483648) (h3 : -2147483648 ≤ z ∧ z < 2147483648) : (∃ r u', f_X6_whatIs N aX uG s a t sH rH (iI x) (iI y) (iI z) = some (r, aX, u') ∧ f_X7_whatIs N sc ar la (iI x) (iI y) (iI z) = some (r, ar)) ∨ (∃ c, cod c ∧ f_X6_whatIs N aX uG s a t sH rH (iI x) (iI y) (iI z) = some (c, rfA aX c, uG) ∧ f_X7_whatIs N sc ar la (iI x) (iI y) (iI z) = some (c, noA ar c)) := by
  have w0 := hw.1
  have i2 : f_X7_in N (iI z) 0 1 = some (bI (0 ≤ z ∧ z ≤ 1)) := x7_in (b := 0) (c := 1) h3.1 h3.2 (by omega) (by omega) (by omega) (by omega)
  unfold f_X6_whatIs f_X7_whatIs
  rw [x6_hasShelf h1.1 h1.2, x7_isShelf h1.1 h1.2, x1_hasTrain h hw h2.1 h2.2, x7_isTrain g hw h2.1 h2.2, i2]
  simp only [x6_refused cod1, x7_no cod1, x6_refused cod2, x7_no cod2, Option.bind_some]
  by_cases c1 : 0 ≤ x ∧ x < 4
  · rw [bI_t c1]
    by_cases c2 : 0 ≤ y ∧ y < A 9 0
    · rw [bI_t c2]
      obtain ⟨k, rfl⟩ : ∃ b : Nat, x = (b : Int) := ⟨x.toNat, by omega⟩
      obtain ⟨j, rfl⟩ : ∃ b : Nat, y = (b : Int) := ⟨y.toNat, by omega⟩
      have hk : k < 4 := by omega
      have o1 : ¬ oob (iI (k : Int)) 4 := ob_nat (by omega) (by omega)
      have o2 : ¬ oob (iI (j : Int)) 4 := ob_nat (by omega) (by omega)
      by_cases c3 : 0 ≤ z ∧ z ≤ 1
      · rw [bI_t c3]
        have hT := TR_of h hw c2.2
        have hT' : TR (upd (upd (upd (upd uG 0 (t j 0)) 1 (t j 1)) 2 (t j 2)) 3 (t j 3)) (A 10 j) (A 11 j) (A 12 j) (A 13 j) := ⟨⟨by simp (disch := decide) only [ud_ne, ud_eq]; exact hT.1.1, by simp (disch := decide) only [ud_ne, ud_eq]; exact hT.1.2.1, by simp (disch := decide) only [ud_ne, ud_eq]; exact hT.1.2.2.1, by simp (disch := decide) only [ud_eq]; exact hT.1.2.2.2⟩, hT.2⟩
        obtain ⟨so, sz, ⟨a1, a2, a3, a4⟩, a5, a6, a7⟩ := hs k hk
        clear a7
        have hsz : 0 ≤ sz ∧ sz ≤ 20 := by clear a6; omega
        simp only [if_neg one_ne, if_neg o1, if_neg o2, ix_nat (show k < 2147483648 by omega), ix_nat (show j < 2147483648 by omega), f_X4_faultOfSort, f_X5_copyFrom, a1, a2, Option.bind_some]
        rcases (show so = -1 ∨ so = 1 ∨ so = 2 ∨ so = 0 by clear a6; omega) with rfl | rfl | rfl | rfl
        · rcases (show z = 0 ∨ z = 1 by omega) with rfl | rfl
          · exact Or.inl ⟨-11, _, rfl, rfl⟩
          · exact Or.inl ⟨-11, _, rfl, rfl⟩
        · rcases (show z = 0 ∨ z = 1 by omega) with rfl | rfl
          · exact Or.inl ⟨-12, _, rfl, rfl⟩
          · exact Or.inl ⟨-12, _, rfl, rfl⟩
        · rcases (show z = 0 ∨ z = 1 by omega) with rfl | rfl
          · exact Or.inl ⟨-12, _, rfl, rfl⟩
          · exact Or.inl ⟨-12, _, rfl, rfl⟩
        · have a6' := a6 (Or.inl rfl)
          clear a6
          simp only [if_neg (show ¬ iI 0 = -1 by decide), if_pos (show iI 0 = 0 from rfl), if_pos (show 0 ≤ iI 0 by decide), if_pos (show (0 : Int32) ≤ 0 by decide), Option.bind_some]
          rcases (show z = 0 ∨ z = 1 by omega) with rfl | rfl
          · obtain ⟨u', e⟩ := x6_kinds hN h hw c2.2 hsz a3 a6' hT'
            rw [e]
            have := x7_what0 (la := la) hN g hw hk c2.2 hsz a4 (kx := fun x4_14 => some (x4_14, ar))
            have e' : f_X7_whatIs_L67 N sc ar la (iI k) (iI j) (iI 0) (fun x4_14 => some (x4_14, ar)) N 0 0 = _ := this
            rw [e']
            exact Or.inl ⟨_, u', rfl, rfl⟩
          · obtain ⟨u', e⟩ := x6_figures hN h hw c2.2 hsz a3 a6' hT'
            rw [e]
            have := x7_what1 (la := la) hN g hw hk c2.2 hsz a4 (kx := fun x4_14 => some (x4_14, ar))
            have e' : f_X7_whatIs_L67 N sc ar la (iI k) (iI j) (iI 1) (fun x4_14 => some (x4_14, ar)) N 0 0 = _ := this
            rw [e']
            exact Or.inl ⟨_, u', rfl, rfl⟩
      · rw [bI_f c3]
        have e1 : ¬ iI z = 0 := by rw [iI_eq0 (by omega) (by omega)]; omega
        have e2 : ¬ iI z = 1 := by show ¬ iI z = iI 1; rw [iI_eq (by omega) (by omega) (by omega) (by omega)]; omega
        simp only [if_neg one_ne, if_neg e1, if_neg e2]
        exact Or.inr ⟨-2, cod2, rfl, rfl⟩
    · rw [bI_f c2]
      exact Or.inr ⟨-1, cod1, rfl, rfl⟩
  · rw [bI_f c1]
    exact Or.inr ⟨-1, cod1, rfl, rfl⟩
end PC23
