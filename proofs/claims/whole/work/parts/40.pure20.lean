-- ===== taken, judge, whatIs =====
theorem x5_isOf {N : Nat} (hN : 100 ≤ N) {u : S1} {kd w : Int} (hk : 0 ≤ kd ∧ kd ≤ 5) (hw : 0 ≤ w ∧ w ≤ 5) (e0 : u 0 = iI kd) : ∃ b : Int32, f_X5_isOf N u (iI w) = some b ∧ f_X7_isUnder N (iI kd) (iI w) = some b := by
  obtain ⟨n, rfl⟩ : ∃ n, N = n + 8 := ⟨N - 8, by omega⟩
  unfold f_X5_isOf
  rw [e0]
  rcases (show kd = 0 ∨ kd = 1 ∨ kd = 2 ∨ kd = 3 ∨ kd = 4 ∨ kd = 5 by omega) with rfl | rfl | rfl | rfl | rfl | rfl <;> rcases (show w = 0 ∨ w = 1 ∨ w = 2 ∨ w = 3 ∨ w = 4 ∨ w = 5 by omega) with rfl | rfl | rfl | rfl | rfl | rfl <;> first | exact ⟨1, rfl, rfl⟩ | exact ⟨0, rfl, rfl⟩
theorem i32_64 (x : Int32) : x.toInt64.toInt32 = x := Int32.toInt32_toInt64 x
section PC20
variable {N : Nat} {A : AS} {s : S1} {a t : S2} {p : S1} {q : S2} {sc : S1} {ar : S2} {aX : S2} {sH : S2} {rH la : S3} {uH : S2}
theorem q_taken (hN : 100 ≤ N) (hs : SH sH rH uH ar la) {x y : Int} (h1 : -2147483648 ≤ x ∧ x < 2147483648) (h2 : -2147483648 ≤ y ∧ y < 2147483648) : QRY id aX ar (f_X6_taken N aX sH uH (iI x) (iI y)) (f_X7_taken N ar la (iI x) (iI y)) := by
  have i2 : f_X7_in N (iI y) 0 5 = some (bI (0 ≤ y ∧ y ≤ 5)) := x7_in (b := 0) (c := 5) h2.1 h2.2 (by omega) (by omega) (by omega) (by omega)
  unfold f_X6_taken f_X7_taken
  rw [x6_hasShelf h1.1 h1.2, x7_isShelf h1.1 h1.2, i2]
  simp only [x6_refused cod1, x7_no cod1, x6_refused cod2, x7_no cod2, Option.bind_some]
  by_cases c1 : 0 ≤ x ∧ x < 4
  · rw [bI_t c1]
    obtain ⟨k, rfl⟩ : ∃ b : Nat, x = (b : Int) := ⟨x.toNat, by omega⟩
    have hk : k < 4 := by omega
    by_cases c2 : 0 ≤ y ∧ y ≤ 5
    · rw [bI_t c2]
      have o1 : ¬ oob (iI (k : Int)) 4 := ob_nat (by omega) (by omega)
      have e1 : 20 * iI (k : Int) = iI ((20 * k : Nat) : Int) := by
        show iI 20 * iI (k : Int) = _
        rw [iI_mul]; rfl
      have o3 : ¬ oob (iI ((20 * k : Nat) : Int)) 80 := ob_nat (by omega) (by omega)
      have o4 : ¬ oob (iI ((20 * k + 1 : Nat) : Int)) 80 := ob_nat (by omega) (by omega)
      have l1 : ¬ iI y < 0 := by rw [iI_lt0 (by omega) (by omega)]; omega
      have l2 : iI y < 6 := lt_iI (b := 6) (by omega) (by omega) (by omega)
      simp only [if_neg one_ne, if_neg o1, ix_nat (show k < 2147483648 by omega), if_neg l1, if_pos l2, e1, iI_succ, if_neg o3, if_neg o4, ix_nat (show 20 * k < 2147483648 by omega), ix_nat (show 20 * k + 1 < 2147483648 by omega)]
      obtain ⟨so, sz, ⟨a1, a2, a3, a4⟩, a5, a6, a7⟩ := hs k hk
      simp only [a1, a2]
      clear a6
      rcases (show so = -1 ∨ so = 2 ∨ (so = 0 ∨ so = 1) by clear a7; omega) with rfl | rfl | hso
      · exact Or.inl ⟨-11, rfl, rfl⟩
      · obtain ⟨kd, fg, b1, b2, b3, b4, b5⟩ := a7 rfl
        obtain ⟨b, d1, d2⟩ := x5_isOf (N := N) hN (u := uH k) (kd := kd) (w := y) (by omega) (by omega) b2
        rw [b4, b5, i32_64, i32_64, d1, d2, x5_eye b2 b3 (by omega), x7_eyeBy (by omega)]
        simp only [Option.bind_some, if_neg (show ¬ iI 2 = -1 by decide), if_pos (show iI 2 = 2 from rfl), if_pos (show 0 ≤ iI 2 by decide)]
        by_cases hb : b = 0
        · simp only [if_pos hb, Option.bind_some]; exact Or.inl ⟨_, rfl, rfl⟩
        · simp only [if_neg hb, Option.bind_some]; exact Or.inl ⟨_, rfl, rfl⟩
      · have n1 : ¬ iI so = -1 := by show ¬ iI so = iI (-1); rw [iI_eq (by omega) (by omega) (by omega) (by omega)]; omega
        have n2 : ¬ iI so = 2 := by show ¬ iI so = iI 2; rw [iI_eq (by omega) (by omega) (by omega) (by omega)]; omega
        have n3 : 0 ≤ iI so := by rw [iI_0le (by omega) (by omega)]; omega
        simp only [if_neg n1, if_neg n2, if_pos n3, Option.bind_some]
        exact Or.inl ⟨_, rfl, rfl⟩
    · rw [bI_f c2]
      by_cases c3 : y < 0
      · simp only [if_neg one_ne, if_pos (show iI y < 0 by rw [iI_lt0 (by omega) (by omega)]; omega)]
        exact Or.inr ⟨-2, cod2, rfl, rfl⟩
      · simp only [if_neg one_ne, if_neg (show ¬ iI y < 0 by rw [iI_lt0 (by omega) (by omega)]; omega), if_neg (show ¬ iI y < 6 from nlt_iI (b := 6) (by omega) (by omega) (by omega))]
        exact Or.inr ⟨-2, cod2, rfl, rfl⟩
  · rw [bI_f c1]
    exact Or.inr ⟨-1, cod1, rfl, rfl⟩
theorem q_judge (hN : 100 ≤ N) (h : LA A s a t p q) (g : MA A sc ar) (hw : WF A) (hg : sc 25 = 0) (hs : SH sH rH uH ar la) {x y : Int} (h1 : -2147483648 ≤ x ∧ x < 2147483648) (h2 : -2147483648 ≤ y ∧ y < 2147483648) : QRY id aX ar (f_X6_judge N aX s a t sH rH (iI x) (iI y)) (f_X7_judge N sc ar la (iI x) (iI y)) := by
  have w0 := hw.1
  unfold f_X6_judge f_X7_judge
  rw [x6_hasShelf h1.1 h1.2, x7_isShelf h1.1 h1.2, x1_hasTrain h hw h2.1 h2.2, x7_isTrain g hw h2.1 h2.2]
  simp only [x6_refused cod1, x7_no cod1, Option.bind_some]
  by_cases c1 : 0 ≤ x ∧ x < 4
  · rw [bI_t c1]
    by_cases c2 : 0 ≤ y ∧ y < A 9 0
    · rw [bI_t c2]
      obtain ⟨k, rfl⟩ : ∃ b : Nat, x = (b : Int) := ⟨x.toNat, by omega⟩
      obtain ⟨j, rfl⟩ : ∃ b : Nat, y = (b : Int) := ⟨y.toNat, by omega⟩
      have hk : k < 4 := by omega
      have o1 : ¬ oob (iI (k : Int)) 4 := ob_nat (by omega) (by omega)
      have o2 : ¬ oob (iI (j : Int)) 4 := ob_nat (by omega) (by omega)
      obtain ⟨so, sz, ⟨a1, a2, a3, a4⟩, a5, a6, a7⟩ := hs k hk
      simp only [if_neg one_ne, if_neg o1, ix_nat (show k < 2147483648 by omega), f_X4_faultOfSort, a1, a2]
      clear a7
      rcases (show so = -1 ∨ so = 0 ∨ so = 2 ∨ so = 1 by clear a6; omega) with rfl | rfl | rfl | rfl
      · exact Or.inl ⟨-11, rfl, rfl⟩
      · exact Or.inl ⟨-12, rfl, rfl⟩
      · exact Or.inl ⟨-12, rfl, rfl⟩
      · have a6' := a6 (Or.inr rfl)
        clear a6
        simp only [if_neg (show ¬ iI 1 = -1 by decide), if_pos (show iI 1 = 1 from rfl), if_pos (show 0 ≤ iI 1 by decide), if_pos (show (0 : Int32) ≤ 0 by decide), Option.bind_some]
        obtain ⟨all, ea, hm⟩ := x1_all (N := N) h hw
        obtain ⟨n, rfl⟩ : ∃ n : Nat, sz = (n : Int) := ⟨sz.toNat, by omega⟩
        have go := lp_two (F := fun m i => f_X6_judge_L49 N aX s a t sH rH (iI j) k (fun _ => some (-9, aX)) m (iI (i : Int))) (G := fun m i => f_X7_judge_L48 N sc ar la (iI k) (iI j) (fun _ => some (-9, ar)) m (iI (i : Int))) (fin := some (-9, aX)) (fin' := some (-9, ar)) (r := fun i => some (iI (i : Int), aX)) (r' := fun i => some (iI (i : Int), ar)) (P := fun i => ¬ (i : Int) < A 6 0 ∨ ¬ lg_cmp (iI (wP A mT j i)).toInt64 (la 32 (20 * k + i)) = 0) (n := n)
          (by
            intro m
            rw [f_X6_judge_L49, a3, if_pos (le_iI (by omega) (by omega) (by omega))])
          (by
            intro m i hi
            have hi20 : i < 20 := by omega
            rw [f_X6_judge_L49, a3, if_neg (nle_iI (by omega) (by omega) (by omega)), x1_hasPost h hw (by omega) (by omega), Option.bind_some, bI_ite]
            by_cases hp : (i : Int) < A 6 0
            · rw [cI_t ⟨by omega, hp⟩, if_neg o2, ix_nat (by omega), ea, Option.bind_some, x1_wP hN h hw hm hp c2.2, Option.bind_some, if_neg (ob_nat (by omega) (by omega)), ix_nat (by omega), a6' i hi20, iI_succ]
              exact ⟨fun z => if_neg (by rcases z with z | z; exact absurd hp z; exact z), fun z => if_pos (Classical.not_not.mp (fun y => z (Or.inr y)))⟩
            · rw [cI_f (fun z => hp z.2)]
              exact ⟨fun _ => rfl, fun z => absurd (Or.inl hp) z⟩)
          (by
            intro m
            rw [f_X7_judge_L48, if_neg o1, ix_nat (by omega), a4, if_pos (le_iI (by omega) (by omega) (by omega))])
          (by
            intro m i hi
            have hi20 : i < 20 := by omega
            have e1 : 20 * iI (k : Int) + iI (i : Int) = iI ((20 * k + i : Nat) : Int) := by
              show iI 20 * iI (k : Int) + iI (i : Int) = _
              rw [iI_mul, iI_add]; rfl
            rw [f_X7_judge_L48, if_neg o1, ix_nat (by omega), a4, if_neg (nle_iI (by omega) (by omega) (by omega)), g.1.2.2.1]
            by_cases hp : (i : Int) < A 6 0
            · rw [if_neg (nle_iI (by omega) (by omega) (by omega)), x7_warnedOf hN g hw hg c2.2 hp, Option.bind_some, e1, if_neg (ob_nat (by omega) (by omega)), ix_nat (by omega), iI_succ]
              exact ⟨fun z => if_neg (by rcases z with z | z; exact absurd hp z; exact z), fun z => if_pos (Classical.not_not.mp (fun y => z (Or.inr y)))⟩
            · rw [if_pos (le_iI (by omega) (by omega) (by omega))]
              exact ⟨fun _ => rfl, fun z => absurd (Or.inl hp) z⟩)
          N N (by omega) (by omega)
        rcases go with ⟨i, -, -, e1, e2⟩ | ⟨-, e1, e2⟩
        · exact Or.inl ⟨_, e1, e2⟩
        · exact Or.inl ⟨_, e1, e2⟩
    · rw [bI_f c2]
      exact Or.inr ⟨-1, cod1, rfl, rfl⟩
  · rw [bI_f c1]
    exact Or.inr ⟨-1, cod1, rfl, rfl⟩
/-- the row on a shelf is what a train of that kind would need -/
def fitP (A : AS) (la : S3) (k j : Nat) (sz : Int) (kd fg : Int) : Prop := ∀ c : Nat, (c : Int) < A 0 0 → (c : Int) < sz → lg_cmp (iI (timA (A 1) (A 0 0) (BD A mT c) kd fg (A 12 j) (A 13 j) c)).toInt64 (la 32 (20 * k + c)) = 0
theorem x6_fit (hN : 100 ≤ N) (h : LA A s a t p q) (hw : WF A) {k j : Nat} {sz : Int} (hsz : 0 ≤ sz ∧ sz ≤ 20) (a3 : sH k 1 = iI sz) (a6 : ∀ i : Nat, i < 20 → rH k i = la 32 (20 * k + i)) {u : S1} {kd fg : Int} (hu : TR u kd fg (A 12 j) (A 13 j)) : f_X6_timesFit N u s a sH rH k = some (bI (fitP A la k j sz kd fg)) := by
  have w0 := hw.1
  obtain ⟨all, ea, hm⟩ := x1_all (N := N) h hw
  obtain ⟨⟨u0, u1, u2, u3⟩, hk, hf, hsl, hww⟩ := hu
  unfold f_X6_timesFit
  obtain ⟨n, hn⟩ : ∃ n : Nat, n = min sz.toNat (A 0 0).toNat := ⟨_, rfl⟩
  have go := lp_any (F := fun m i => f_X6_timesFit_L2 N u s a sH rH k (fun _ => some 1) m (iI (i : Int))) (fin := some 1) (r := fun _ => some 0) (P := fun c => ¬ lg_cmp (iI (timA (A 1) (A 0 0) (BD A mT c) kd fg (A 12 j) (A 13 j) c)).toInt64 (la 32 (20 * k + c)) = 0) (n := n)
    (by
      intro m
      rw [f_X6_timesFit_L2, a3, h.1.1]
      by_cases c : sz ≤ n
      · rw [if_pos (le_iI c (by omega) (by omega))]
      · rw [if_neg (nle_iI (by omega) (by omega) (by omega)), if_pos (le_iI (by omega) (by omega) (by omega))])
    (by
      intro m i hi
      rw [f_X6_timesFit_L2, a3, h.1.1, if_neg (nle_iI (by omega) (by omega) (by omega)), if_neg (nle_iI (by omega) (by omega) (by omega)), ea, Option.bind_some, x1_timeIn hN h hw hm u0 u1 u2 u3 hk hsl hww (by omega), Option.bind_some, if_neg (ob_nat (by omega) (by omega)), ix_nat (by omega), a6 i (by omega), iI_succ]
      exact ⟨fun z => if_neg z, fun z => if_pos (Classical.not_not.mp z)⟩)
    N 0 (by omega) (by omega)
  rcases go with ⟨i, -, i2, i3, -, e⟩ | ⟨i1, e⟩
  · refine (show _ = _ from e).trans ?_
    rw [bI_f]
    exact fun z => i3 (z i (by omega) (by omega))
  · refine (show _ = _ from e).trans ?_
    rw [bI_t]
    intro c d1 d2
    exact Classical.not_not.mp (i1 c (by omega) (by omega))
theorem x7_fit (hN : 100 ≤ N) (g : MA A sc ar) (hw : WF A) {k j : Nat} (hk4 : k < 4) (hj : (j : Int) < A 9 0) {sz : Int} (hsz : 0 ≤ sz ∧ sz ≤ 20) (a4 : ar 31 k = iI sz) {kd fg : Int} (hk : 0 ≤ kd ∧ kd ≤ 5) : f_X7_areTimes N sc ar la (iI k) (iI j) (iI kd) (iI fg) = some (bI (fitP A la k j sz kd fg)) := by
  have w0 := hw.1
  have o1 : ¬ oob (iI (k : Int)) 4 := ob_nat (by omega) (by omega)
  have o2 : ¬ oob (iI (j : Int)) 4 := ob_nat (by omega) (by omega)
  have wt := hw.2.2.2.2.1 j hj
  have et := g.2.2.2.2.1 j hj
  unfold f_X7_areTimes
  obtain ⟨n, hn⟩ : ∃ n : Nat, n = min sz.toNat (A 0 0).toNat := ⟨_, rfl⟩
  have go := lp_any (F := fun m i => f_X7_areTimes_L3 N sc ar la (iI k) (iI j) (iI kd) (iI fg) (fun _ => some 1) m (iI (i : Int))) (fin := some 1) (r := fun _ => some 0) (P := fun c => ¬ lg_cmp (iI (timA (A 1) (A 0 0) (BD A mT c) kd fg (A 12 j) (A 13 j) c)).toInt64 (la 32 (20 * k + c)) = 0) (n := n)
    (by
      intro m
      rw [f_X7_areTimes_L3, g.1.1, if_neg o1, ix_nat (by omega), a4]
      by_cases c : A 0 0 ≤ n
      · rw [if_pos (le_iI c (by omega) (by omega))]
      · rw [if_neg (nle_iI (by omega) (by omega) (by omega)), if_pos (le_iI (by omega) (by omega) (by omega))])
    (by
      intro m i hi
      have e1 : 20 * iI (k : Int) + iI (i : Int) = iI ((20 * k + i : Nat) : Int) := by
        show iI 20 * iI (k : Int) + iI (i : Int) = _
        rw [iI_mul, iI_add]; rfl
      rw [f_X7_areTimes_L3, g.1.1, if_neg o1, if_neg o2, if_neg o2, ix_nat (show k < 2147483648 by omega), ix_nat (show j < 2147483648 by omega), a4, et.2.2.1, et.2.2.2, if_neg (nle_iI (by omega) (by omega) (by omega)), if_neg (nle_iI (by omega) (by omega) (by omega)), x7_timeBy hN g hw hk (by omega) (by omega) (by omega), Option.bind_some, e1, if_neg (ob_nat (by omega) (by omega)), ix_nat (by omega), iI_succ]
      exact ⟨fun z => if_neg z, fun z => if_pos (Classical.not_not.mp z)⟩)
    N 0 (by omega) (by omega)
  rcases go with ⟨i, -, i2, i3, -, e⟩ | ⟨i1, e⟩
  · refine (show _ = _ from e).trans ?_
    rw [bI_f]
    exact fun z => i3 (z i (by omega) (by omega))
  · refine (show _ = _ from e).trans ?_
    rw [bI_t]
    intro c d1 d2
    exact Classical.not_not.mp (i1 c (by omega) (by omega))
end PC20
