-- ===== places and shelves =====
def SH (sH : S2) (rH : S3) (uH ar : S2) (la : S3) : Prop := ∀ k : Nat, k < 4 → ∃ so sz : Int, (sH k 0 = iI so ∧ ar 30 k = iI so ∧ sH k 1 = iI sz ∧ ar 31 k = iI sz) ∧ (-1 ≤ so ∧ so ≤ 2 ∧ 0 ≤ sz ∧ sz ≤ 20) ∧ (so = 0 ∨ so = 1 → ∀ i : Nat, i < 20 → rH k i = la 32 (20 * k + i)) ∧ (so = 2 → ∃ kd fg : Int, (0 ≤ kd ∧ kd ≤ 5 ∧ 0 ≤ fg ∧ fg ≤ 9) ∧ uH k 0 = iI kd ∧ uH k 1 = iI fg ∧ la 32 (20 * k) = (iI kd).toInt64 ∧ la 32 (20 * k + 1) = (iI fg).toInt64)
theorem SH_cg {sH : S2} {rH : S3} {uH ar ar' : S2} {la : S3} (h : SH sH rH uH ar la) (h1 : ar' 30 = ar 30) (h2 : ar' 31 = ar 31) : SH sH rH uH ar' la := by
  unfold SH at h ⊢
  rw [h1, h2]
  exact h
theorem x6_hasShelf {N : Nat} {z : Int} (h1 : -2147483648 ≤ z) (h2 : z < 2147483648) : f_X6_hasShelf N (iI z) = some (bI (0 ≤ z ∧ z < 4)) := by
  unfold f_X6_hasShelf
  show some (if iI z < iI 0 then (0 : Int32) else if iI 4 ≤ iI z then 0 else 1) = _
  rw [itelt (by omega) (by omega) (by omega) (by omega), itele (by omega) (by omega) (by omega) (by omega), ← bI_dec]
  congr 1
  repeat' split
  all_goals first | rfl | (exfalso; omega)
theorem x7_isShelf {N : Nat} {z : Int} (h1 : -2147483648 ≤ z) (h2 : z < 2147483648) : f_X7_isShelf N (iI z) = some (bI (0 ≤ z ∧ z < 4)) := by
  unfold f_X7_isShelf
  have : f_X7_in N (iI z) 0 3 = some (bI (0 ≤ z ∧ z ≤ 3)) := x7_in (b := 0) (c := 3) h1 h2 (by omega) (by omega) (by omega) (by omega)
  rw [this, Option.bind_some, bI_g]
  exact congrArg some (bI_iff (by omega))
theorem vl_eq (f : Nat → Int64) (k : Nat) (v : Int64) : vp_updL f k v k = v := by simp [vp_updL]
theorem vl_ne {f : Nat → Int64} {k j : Nat} {v : Int64} (h : j ≠ k) : vp_updL f k v j = f j := by simp [vp_updL, h]
theorem x4_become {N : Nat} (hN : 100 ≤ N) {hs : S1} {hr : Nat → Int64} {x n : Int32} : f_X4_becomeRow N hs hr x n = some (upd (upd hs 0 x) 1 n, fun i => if i < 20 then 0 else hr i) := by
  unfold f_X4_becomeRow
  have go := lp_all (F := fun k i => f_X4_becomeRow_L12 N (upd (upd hs 0 x) 1 n) (fun t1 => some (upd (upd hs 0 x) 1 n, t1)) k (iI (i : Int)) (fun j => if j < i then 0 else hr j)) (fin := some (upd (upd hs 0 x) 1 n, fun i => if i < 20 then 0 else hr i)) (n := 20)
    (by
      intro k
      rw [f_X4_becomeRow_L12, if_pos (by show iI 20 ≤ iI ((20 : Nat) : Int); exact le_iI (by omega) (by omega) (by omega))])
    (by
      intro k i hi
      rw [f_X4_becomeRow_L12, if_neg (by show ¬ iI 20 ≤ iI (i : Int); exact nle_iI (by omega) (by omega) (by omega)), if_neg (ob_nat (by omega) (by omega)), ix_nat (by omega), iI_succ]
      congr 1
      funext j
      by_cases e : j = i
      · subst e; rw [vl_eq, if_pos (by omega)]
      · rw [vl_ne e]
        by_cases c : j < i
        · rw [if_pos c, if_pos (by omega)]
        · rw [if_neg c, if_neg (by omega)])
    N 0 (by omega) (by omega)
  refine Eq.trans ?_ go
  show _ = f_X4_becomeRow_L12 N _ _ N 0 (fun j => if j < 0 then 0 else hr j)
  congr 1
theorem x7_empties {N : Nat} (hN : 100 ≤ N) {ar : S2} {la : S3} {k : Nat} (hk : k < 4) {x n : Int32} : f_X7_empties N ar la (iI k) x n = some (va_up (va_up ar 30 (upd (ar 30) k x)) 31 (upd (ar 31) k n), va_up la 32 (fun i => if 20 * k ≤ i ∧ i < 20 * k + 20 then 0 else la 32 i)) := by
  unfold f_X7_empties
  have hob : ¬ oob (iI (k : Int)) 4 := ob_nat (by omega) (by omega)
  rw [if_neg hob, if_neg hob, ix_nat (by omega)]
  have go := lp_all (F := fun m i => f_X7_empties_L17 N (va_up (va_up ar 30 (upd (ar 30) k x)) 31 (upd (ar 31) k n)) (iI k) (fun t1 => some (va_up (va_up ar 30 (upd (ar 30) k x)) 31 (upd (ar 31) k n), t1)) m (iI (i : Int)) (va_up la 32 (fun j => if 20 * k ≤ j ∧ j < 20 * k + i then 0 else la 32 j))) (fin := some (va_up (va_up ar 30 (upd (ar 30) k x)) 31 (upd (ar 31) k n), va_up la 32 (fun i => if 20 * k ≤ i ∧ i < 20 * k + 20 then 0 else la 32 i))) (n := 20)
    (by
      intro m
      rw [f_X7_empties_L17, if_pos (by show iI 20 ≤ iI ((20 : Nat) : Int); exact le_iI (by omega) (by omega) (by omega))])
    (by
      intro m i hi
      have e1 : (20 : Int32) * iI (k : Int) + iI (i : Int) = iI ((20 * k + i : Nat) : Int) := by
        show iI 20 * iI (k : Int) + iI (i : Int) = _
        rw [iI_mul, iI_add]; rfl
      rw [f_X7_empties_L17, if_neg (by show ¬ iI 20 ≤ iI (i : Int); exact nle_iI (by omega) (by omega) (by omega)), e1, if_neg (ob_nat (by omega) (by omega)), ix_nat (by omega), iI_succ, vu_eq, vu_vu]
      congr 2
      funext j
      by_cases e : j = 20 * k + i
      · subst e; rw [vl_eq, if_pos (by omega)]
      · rw [vl_ne e]
        by_cases c : 20 * k ≤ j ∧ j < 20 * k + i
        · rw [if_pos c, if_pos (by omega)]
        · rw [if_neg c, if_neg (by omega)])
    N 0 (by omega) (by omega)
  refine Eq.trans ?_ go
  have e0 : va_up la 32 (fun j => if 20 * k ≤ j ∧ j < 20 * k + 0 then 0 else la 32 j) = la := by
    funext r
    by_cases hr : r = 32
    · subst hr; rw [vu_eq]; funext j; rw [if_neg (by omega)]
    · rw [vu_ne hr]
  show _ = f_X7_empties_L17 N _ _ _ N 0 (va_up la 32 (fun j => if 20 * k ≤ j ∧ j < 20 * k + 0 then 0 else la 32 j))
  rw [e0]
section PC18
variable {N : Nat} {A : AS} {s : S1} {a t : S2} {p : S1} {q : S2} {sc : S1} {ar : S2} {aX : S2} {sH : S2} {rH la : S3} {uH : S2}
theorem x3_has (h : LA A s a t p q) (hw : WF A) {z : Int} (h1 : -2147483648 ≤ z) (h2 : z < 2147483648) : f_X3_has N p (iI z) = some (bI (0 ≤ z ∧ z < A 15 0)) := by
  have w0 := hw.1
  unfold f_X3_has
  rw [h.1.2.2.2.2.2, iI_z, itelt (by omega) (by omega) (by omega) (by omega), itele (by omega) (by omega) (by omega) (by omega), ← iI_z, ← bI_dec]
  congr 1
  repeat' split
  all_goals first | rfl | (exfalso; omega)
theorem x7_isName (g : MA A sc ar) (hw : WF A) {z : Int} (h1 : -2147483648 ≤ z) (h2 : z < 2147483648) : f_X7_in N (iI z) 0 (sc 15 - 1) = some (bI (0 ≤ z ∧ z < A 15 0)) := by
  have w0 := hw.1
  rw [g.1.2.2.2.2.2]
  show f_X7_in N (iI z) (iI 0) (iI (A 15 0) - iI 1) = _
  rw [iI_sub, x7_in h1 h2 (by omega) (by omega) (by omega) (by omega)]
  exact congrArg some (bI_iff (by omega))
theorem q_placeAt (h : LA A s a t p q) (g : MA A sc ar) (hw : WF A) {z : Int} (hz : -2147483648 ≤ z ∧ z < 2147483648) : QRY id aX ar (f_X6_placeAt N aX p q (iI z)) (f_X7_placeAt N sc ar (iI z)) := by
  have w0 := hw.1
  unfold f_X6_placeAt f_X7_placeAt
  rw [x3_has h hw hz.1 hz.2, x7_isName g hw hz.1 hz.2]
  simp only [x6_refused cod1, x7_no cod1, Option.bind_some]
  by_cases hin : 0 ≤ z ∧ z < A 15 0
  · rw [bI_t hin]
    obtain ⟨k, rfl⟩ : ∃ b : Nat, z = (b : Int) := ⟨z.toNat, by omega⟩
    simp only [if_neg one_ne, if_neg (ob_nat (i := k) (n := 8) (by omega) (by omega)), ix_nat (show k < 2147483648 by omega), Option.bind_some]
    rw [(h.2.2.2.2.2.2.1 k hin.2).1, (g.2.2.2.2.2 k hin.2).1]
    exact Or.inl ⟨_, rfl, rfl⟩
  · rw [bI_f hin]
    exact Or.inr ⟨-1, cod1, rfl, rfl⟩
theorem q_name (h : LA A s a t p q) (g : MA A sc ar) (hw : WF A) {z y : Int} (hz : -2147483648 ≤ z ∧ z < 2147483648) (hy : -2147483648 ≤ y ∧ y < 2147483648) : QRY id aX ar (f_X6_name N aX p q (iI z) (iI y)) (f_X7_name N sc ar (iI z) (iI y)) := by
  have w0 := hw.1
  unfold f_X6_name f_X7_name
  rw [x3_has h hw hz.1 hz.2, x7_isName g hw hz.1 hz.2]
  simp only [x6_refused cod1, x7_no cod1, Option.bind_some]
  by_cases hin : 0 ≤ z ∧ z < A 15 0
  · rw [bI_t hin]
    obtain ⟨k, rfl⟩ : ∃ b : Nat, z = (b : Int) := ⟨z.toNat, by omega⟩
    have hob : ¬ oob (iI (k : Int)) 8 := ob_nat (by omega) (by omega)
    have hl := h.2.2.2.2.2.2.1 k hin.2
    have hg := g.2.2.2.2.2 k hin.2
    have hwn := hw.2.2.2.2.2 k hin.2
    have i2 : f_X7_in N (iI y) (-1) (iI (A 17 k) - 1) = some (bI (-1 ≤ y ∧ y ≤ A 17 k - 1)) := by
      show f_X7_in N (iI y) (iI (-1)) (iI (A 17 k) - iI 1) = _
      rw [iI_sub, x7_in (by omega) (by omega) (by omega) (by omega) (by omega) (by omega)]
    simp only [if_neg one_ne, if_neg hob, ix_nat (show k < 2147483648 by omega), hl.2.1, hg.2.1, i2, Option.bind_some]
    by_cases c1 : y < -1
    · rw [bI_f (show ¬ (-1 ≤ y ∧ y ≤ A 17 k - 1) by omega)]
      simp only [if_pos (show iI y < -1 from lt_iI (b := -1) c1 (by omega) (by omega))]
      exact Or.inr ⟨-1, cod1, rfl, rfl⟩
    simp only [if_neg (show ¬ iI y < -1 from nlt_iI (b := -1) (by omega) (by omega) (by omega))]
    by_cases c2 : y < A 17 k
    · rw [bI_t (show (-1 ≤ y ∧ y ≤ A 17 k - 1) by omega)]
      simp only [if_pos (show iI y < iI (A 17 k) from lt_iI c2 (by omega) (by omega)), if_neg one_ne]
      by_cases c3 : y = -1
      · subst c3
        simp only [if_pos (show iI (-1) = -1 from rfl), if_neg (show ¬ 0 ≤ iI (-1) by decide), Option.bind_some]
        exact Or.inl ⟨_, rfl, rfl⟩
      · obtain ⟨j, rfl⟩ : ∃ b : Nat, y = (b : Int) := ⟨y.toNat, by omega⟩
        have e1 : iI (k : Int) * 7 + iI (j : Int) = iI ((7 * k + j : Nat) : Int) := by
          show iI (k : Int) * iI 7 + iI (j : Int) = _
          rw [iI_mul, iI_add]; congr 1; omega
        have e2 : 7 * iI (k : Int) + iI (j : Int) = iI ((7 * k + j : Nat) : Int) := by
          show iI 7 * iI (k : Int) + iI (j : Int) = _
          rw [iI_mul, iI_add]; rfl
        have o2 : ¬ oob (iI ((7 * k + j : Nat) : Int)) 56 := ob_nat (by omega) (by omega)
        simp only [if_neg (show ¬ iI (j : Int) = -1 by show ¬ iI (j : Int) = iI (-1); rw [iI_eq (by omega) (by omega) (by omega) (by omega)]; omega), if_pos (show 0 ≤ iI (j : Int) by rw [iI_0le (by omega) (by omega)]; omega), f_X3_letterOf, e1, e2, if_neg o2, ix_nat (show 7 * k + j < 2147483648 by omega), Option.bind_some]
        rw [hl.2.2 j (by omega), hg.2.2 j (by omega)]
        exact Or.inl ⟨_, rfl, rfl⟩
    · rw [bI_f (show ¬ (-1 ≤ y ∧ y ≤ A 17 k - 1) by omega)]
      simp only [if_neg (show ¬ iI y < iI (A 17 k) from nlt_iI (by omega) (by omega) (by omega))]
      exact Or.inr ⟨-1, cod1, rfl, rfl⟩
  · rw [bI_f hin]
    exact Or.inr ⟨-1, cod1, rfl, rfl⟩
theorem SH_row (hs : SH sH rH uH ar la) {k : Nat} (hk : k < 4) {so sz : Int} (h1 : -1 ≤ so ∧ so ≤ 1) (h2 : 0 ≤ sz ∧ sz ≤ 20) : SH (va_up sH k (upd (upd (sH k) 0 (iI so)) 1 (iI sz))) (va_up rH k (fun i => if i < 20 then 0 else rH k i)) uH (va_up (va_up ar 30 (upd (ar 30) k (iI so))) 31 (upd (ar 31) k (iI sz))) (va_up la 32 (fun i => if 20 * k ≤ i ∧ i < 20 * k + 20 then 0 else la 32 i)) := by
  intro j hj
  by_cases e : j = k
  · subst e
    refine ⟨so, sz, ⟨?_, ?_, ?_, ?_⟩, by omega, ?_, fun e => absurd e (by omega)⟩
    · rw [vu_eq, ud_ne (by decide), ud_eq]
    · rw [vu_ne (by decide), vu_eq, ud_eq]
    · rw [vu_eq, ud_eq]
    · rw [vu_eq, ud_eq]
    · intro _ i hi
      rw [vu_eq, vu_eq, if_pos hi, if_pos (by omega)]
  · have key : ∀ i, i < 20 → ¬ (20 * k ≤ 20 * j + i ∧ 20 * j + i < 20 * k + 20) := by intro i hi; omega
    obtain ⟨so', sz', ⟨a1, a2, a3, a4⟩, a5, a6, a7⟩ := hs j hj
    refine ⟨so', sz', ⟨?_, ?_, ?_, ?_⟩, a5, ?_, ?_⟩
    · rw [vu_ne e]; exact a1
    · rw [vu_ne (by decide), vu_eq, ud_ne e]; exact a2
    · rw [vu_ne e]; exact a3
    · rw [vu_eq, ud_ne e]; exact a4
    · intro h i hi
      rw [vu_ne e, vu_eq, if_neg (key i hi)]
      exact a6 h i hi
    · intro h
      obtain ⟨kd, fg, b1, b2, b3, b4, b5⟩ := a7 h
      refine ⟨kd, fg, b1, b2, b3, ?_, ?_⟩
      · rw [vu_eq, if_neg (show ¬ (20 * k ≤ 20 * j ∧ 20 * j < 20 * k + 20) from key 0 (by decide))]; exact b4
      · rw [vu_eq, if_neg (key 1 (by decide))]; exact b5
theorem c_shelf (hN : 100 ≤ N) (hs : SH sH rH uH ar la) {x y z : Int} (h1 : -2147483648 ≤ x ∧ x < 2147483648) (h2 : -2147483648 ≤ y ∧ y < 2147483648) (h3 : -2147483648 ≤ z ∧ z < 2147483648) : (∃ r ar' sH' rH' la', f_X6_shelf N aX sH rH (iI x) (iI y) (iI z) = some (r, aX, sH', rH') ∧ f_X7_shelf N ar la (iI x) (iI y) (iI z) = some (r, ar', la') ∧ SH sH' rH' uH ar' la' ∧ (∀ j, j ≠ 30 → j ≠ 31 → ar' j = ar j)) ∨ (∃ c, cod c ∧ f_X6_shelf N aX sH rH (iI x) (iI y) (iI z) = some (c, rfA aX c, sH, rH) ∧ f_X7_shelf N ar la (iI x) (iI y) (iI z) = some (c, noA ar c, la)) := by
  have i2 : f_X7_in N (iI y) (-1) 1 = some (bI (-1 ≤ y ∧ y ≤ 1)) := x7_in (b := -1) (c := 1) h2.1 h2.2 (by omega) (by omega) (by omega) (by omega)
  unfold f_X6_shelf f_X7_shelf
  rw [x6_hasShelf h1.1 h1.2, x7_isShelf h1.1 h1.2, i2]
  simp only [x6_refused cod1, x7_no cod1, x6_refused cod2, x7_no cod2, x6_refused cod6, x7_no cod6, Option.bind_some]
  by_cases c1 : 0 ≤ x ∧ x < 4
  · rw [bI_t c1]
    obtain ⟨k, rfl⟩ : ∃ b : Nat, x = (b : Int) := ⟨x.toNat, by omega⟩
    have hob : ¬ oob (iI (k : Int)) 4 := ob_nat (by omega) (by omega)
    simp only [if_neg one_ne, if_neg hob, ix_nat (show k < 2147483648 by omega), x4_become hN, x7_empties hN (show k < 4 by omega), Option.bind_some]
    by_cases c2 : -1 ≤ y ∧ y ≤ 1
    · rw [bI_t c2]
      simp only [if_neg one_ne]
      rcases (show y = -1 ∨ y = 0 ∨ y = 1 by omega) with rfl | rfl | rfl
      · exact Or.inl ⟨1, _, _, _, _, rfl, rfl, SH_row hs (by omega) (so := -1) (sz := 0) (by omega) (by omega), fun j j1 j2 => by rw [vu_ne j2, vu_ne j1]⟩
      · simp only [if_neg (show ¬ iI 0 = -1 by decide), if_pos (show iI 0 = 0 from rfl), if_neg (show ¬ iI 0 < 0 by decide), if_pos (show 0 ≤ iI 0 by decide)]
        by_cases c3 : z ≤ 20
        · simp only [if_pos (show iI z ≤ 20 from le_iI (b := 20) c3 (by omega) (by omega))]
          by_cases c4 : 0 ≤ z
          · simp only [if_pos (show 0 ≤ iI z by rw [iI_0le (by omega) (by omega)]; exact c4)]
            exact Or.inl ⟨1, _, _, _, _, rfl, rfl, SH_row hs (by omega) (so := 0) (by omega) (by omega), fun j j1 j2 => by rw [vu_ne j2, vu_ne j1]⟩
          · simp only [if_neg (show ¬ 0 ≤ iI z by rw [iI_0le (by omega) (by omega)]; exact c4)]
            exact Or.inl ⟨-14, _, _, _, _, rfl, rfl, hs, fun _ _ _ => rfl⟩
        · simp only [if_neg (show ¬ iI z ≤ 20 from nle_iI (b := 20) (by omega) (by omega) (by omega))]
          exact Or.inr ⟨-6, cod6, rfl, rfl⟩
      · simp only [if_neg (show ¬ iI 1 = -1 by decide), if_neg (show ¬ iI 1 = 0 by decide), if_pos (show iI 1 = 1 from rfl), if_neg (show ¬ iI 1 < 0 by decide), if_pos (show 0 ≤ iI 1 by decide)]
        by_cases c3 : z ≤ 20
        · simp only [if_pos (show iI z ≤ 20 from le_iI (b := 20) c3 (by omega) (by omega))]
          by_cases c4 : 0 ≤ z
          · simp only [if_pos (show 0 ≤ iI z by rw [iI_0le (by omega) (by omega)]; exact c4)]
            exact Or.inl ⟨1, _, _, _, _, rfl, rfl, SH_row hs (by omega) (so := 1) (by omega) (by omega), fun j j1 j2 => by rw [vu_ne j2, vu_ne j1]⟩
          · simp only [if_neg (show ¬ 0 ≤ iI z by rw [iI_0le (by omega) (by omega)]; exact c4)]
            exact Or.inl ⟨-14, _, _, _, _, rfl, rfl, hs, fun _ _ _ => rfl⟩
        · simp only [if_neg (show ¬ iI z ≤ 20 from nle_iI (b := 20) (by omega) (by omega) (by omega))]
          exact Or.inr ⟨-6, cod6, rfl, rfl⟩
    · rw [bI_f c2]
      have e0 : ¬ iI y = -1 := by show ¬ iI y = iI (-1); rw [iI_eq (by omega) (by omega) (by omega) (by omega)]; omega
      have e1 : ¬ iI y = 0 := by rw [iI_eq0 (by omega) (by omega)]; omega
      have e2 : ¬ iI y = 1 := by show ¬ iI y = iI 1; rw [iI_eq (by omega) (by omega) (by omega) (by omega)]; omega
      simp only [if_neg e0, if_neg e1, if_neg e2]
      exact Or.inr ⟨-2, cod2, rfl, rfl⟩
  · rw [bI_f c1]
    exact Or.inr ⟨-1, cod1, rfl, rfl⟩
theorem c_lay (hN : 100 ≤ N) (h : LA A s a t p q) (g : MA A sc ar) (hw : WF A) (hs : SH sH rH uH ar la) {x y : Int} (h1 : -2147483648 ≤ x ∧ x < 2147483648) (h2 : -2147483648 ≤ y ∧ y < 2147483648) : (∃ r ar' sH' uH' la', f_X6_lay N aX s t sH uH (iI x) (iI y) = some (r, aX, sH', uH') ∧ f_X7_lay N sc ar la (iI x) (iI y) = some (r, ar', la') ∧ SH sH' rH uH' ar' la' ∧ (∀ j, j ≠ 30 → j ≠ 31 → ar' j = ar j)) ∨ (∃ c, cod c ∧ f_X6_lay N aX s t sH uH (iI x) (iI y) = some (c, rfA aX c, sH, uH) ∧ f_X7_lay N sc ar la (iI x) (iI y) = some (c, noA ar c, la)) := by
  have w0 := hw.1
  unfold f_X6_lay f_X7_lay
  rw [x6_hasShelf h1.1 h1.2, x7_isShelf h1.1 h1.2, x1_hasTrain h hw h2.1 h2.2, x7_isTrain g hw h2.1 h2.2]
  simp only [x6_refused cod1, x7_no cod1, Option.bind_some]
  by_cases c1 : 0 ≤ x ∧ x < 4
  · rw [bI_t c1]
    by_cases c2 : 0 ≤ y ∧ y < A 9 0
    · rw [bI_t c2]
      obtain ⟨k, rfl⟩ : ∃ b : Nat, x = (b : Int) := ⟨x.toNat, by omega⟩
      obtain ⟨j, rfl⟩ : ∃ b : Nat, y = (b : Int) := ⟨y.toNat, by omega⟩
      have hk : k < 4 := by omega
      have o1 : ¬ oob (iI (k : Int)) 4 := ob_nat (by omega) (by omega)
      have o2 : ¬ oob (iI (j : Int)) 4 := ob_nat (by omega) (by omega)
      have e1 : 20 * iI (k : Int) = iI ((20 * k : Nat) : Int) := by
        show iI 20 * iI (k : Int) = _
        rw [iI_mul]; rfl
      have o3 : ¬ oob (iI ((20 * k : Nat) : Int)) 80 := ob_nat (by omega) (by omega)
      have o4 : ¬ oob (iI ((20 * k + 1 : Nat) : Int)) 80 := ob_nat (by omega) (by omega)
      obtain ⟨⟨u0, u1, u2, u3⟩, hk5, hf9, -⟩ := TR_of h hw c2.2
      have et := g.2.2.2.2.1 j c2.2
      simp only [if_neg one_ne, if_neg o1, if_neg o2, ix_nat (show k < 2147483648 by omega), ix_nat (show j < 2147483648 by omega), f_X4_takeTrain, f_X5_copyFrom, x7_empties hN hk, Option.bind_some, e1, iI_succ, if_neg o3, if_neg o4, ix_nat (show 20 * k < 2147483648 by omega), ix_nat (show 20 * k + 1 < 2147483648 by omega), vu_eq, vu_vu]
      refine Or.inl ⟨1, _, _, _, _, rfl, rfl, ?_, fun j j1 j2 => by rw [vu_ne j2, vu_ne j1]⟩
      intro i hi
      by_cases e : i = k
      · subst e
        refine ⟨2, 0, ⟨?_, ?_, ?_, ?_⟩, by omega, fun z => absurd z (by omega), fun _ => ⟨A 10 j, A 11 j, by omega, ?_, ?_, ?_, ?_⟩⟩
        · rw [vu_eq, ud_ne (by decide), ud_eq]; rfl
        · rw [vu_ne (by decide), vu_eq, ud_eq]; rfl
        · rw [vu_eq, ud_eq]; rfl
        · rw [vu_eq, ud_eq]; rfl
        · rw [vu_eq, ud_ne (by decide), ud_ne (by decide), ud_ne (by decide), ud_eq]; exact u0
        · rw [vu_eq, ud_ne (by decide), ud_ne (by decide), ud_eq]; exact u1
        · rw [vu_eq, vl_ne (by omega), vl_eq, vu_ne (by decide), vu_ne (by decide), et.1]
        · rw [vu_eq, vl_eq, vu_ne (by decide), vu_ne (by decide), et.2.1]
      · have key : ∀ l, l < 20 → ¬ (20 * k ≤ 20 * i + l ∧ 20 * i + l < 20 * k + 20) := by intro l hl; omega
        have key2 : ∀ l, l < 20 → 20 * i + l ≠ 20 * k + 1 ∧ 20 * i + l ≠ 20 * k := by intro l hl; omega
        obtain ⟨so', sz', ⟨a1, a2, a3, a4⟩, a5, a6, a7⟩ := hs i hi
        refine ⟨so', sz', ⟨?_, ?_, ?_, ?_⟩, a5, ?_, ?_⟩
        · rw [vu_ne e]; exact a1
        · rw [vu_ne (by decide), vu_eq, ud_ne e]; exact a2
        · rw [vu_ne e]; exact a3
        · rw [vu_eq, ud_ne e]; exact a4
        · intro hz l hl
          rw [vu_eq, vl_ne (key2 l hl).1, vl_ne (key2 l hl).2, if_neg (key l hl)]
          exact a6 hz l hl
        · intro hz
          obtain ⟨kd, fg, b1, b2, b3, b4, b5⟩ := a7 hz
          refine ⟨kd, fg, b1, by rw [vu_ne e]; exact b2, by rw [vu_ne e]; exact b3, ?_, ?_⟩
          · rw [vu_eq, vl_ne (show 20 * i ≠ 20 * k + 1 from (key2 0 (by decide)).1), vl_ne (show 20 * i ≠ 20 * k from (key2 0 (by decide)).2), if_neg (show ¬ (20 * k ≤ 20 * i ∧ 20 * i < 20 * k + 20) from key 0 (by decide))]; exact b4
          · rw [vu_eq, vl_ne (key2 1 (by decide)).1, vl_ne (key2 1 (by decide)).2, if_neg (key 1 (by decide))]; exact b5
    · rw [bI_f c2]
      exact Or.inr ⟨-1, cod1, rfl, rfl⟩
  · rw [bI_f c1]
    exact Or.inr ⟨-1, cod1, rfl, rfl⟩
/-- why a place isn't there -/
theorem x_place (hs : SH sH rH uH ar la) {k : Nat} (hk : k < 4) {y : Int} (h2 : -2147483648 ≤ y ∧ y < 2147483648) : (∃ c : Int32, ¬ 0 ≤ c ∧ f_X4_faultOfPlace N (sH k) (iI y) = some c ∧ f_X7_barred N ar (iI k) (iI y) = some c) ∨ ((0 ≤ y ∧ y < 20) ∧ (ar 30 k = sH k 0) ∧ (∀ i : Nat, i < 20 → rH k i = la 32 (20 * k + i)) ∧ f_X4_faultOfPlace N (sH k) (iI y) = some 0 ∧ f_X7_barred N ar (iI k) (iI y) = some 0) := by
  obtain ⟨so, sz, ⟨a1, a2, a3, a4⟩, a5, a6, a7⟩ := hs k hk
  have hob : ¬ oob (iI (k : Int)) 4 := ob_nat (by omega) (by omega)
  have i2 : f_X7_in N (iI y) 0 (iI sz - 1) = some (bI (0 ≤ y ∧ y ≤ sz - 1)) := by
    show f_X7_in N (iI y) (iI 0) (iI sz - iI 1) = _
    rw [iI_sub, x7_in h2.1 h2.2 (by omega) (by omega) (by omega) (by omega)]
  unfold f_X4_faultOfPlace f_X7_barred
  simp only [if_neg hob, ix_nat (show k < 2147483648 by omega), a1, a2, a3, a4, i2, Option.bind_some]
  rcases (show so = -1 ∨ so = 2 ∨ (so = 0 ∨ so = 1) by omega) with rfl | rfl | hso
  · exact Or.inl ⟨-11, by decide, rfl, rfl⟩
  · exact Or.inl ⟨-12, by decide, rfl, rfl⟩
  · have e1 : ¬ iI so = -1 := by show ¬ iI so = iI (-1); rw [iI_eq (by omega) (by omega) (by omega) (by omega)]; omega
    have e2 : ¬ iI so = 2 := by show ¬ iI so = iI 2; rw [iI_eq (by omega) (by omega) (by omega) (by omega)]; omega
    have e3 : 0 ≤ iI so := by rw [iI_0le (by omega) (by omega)]; omega
    simp only [if_neg e1, if_neg e2, if_pos e3]
    by_cases c1 : 0 ≤ y ∧ y ≤ sz - 1
    · rw [bI_t c1]
      simp only [if_neg one_ne, if_neg (show ¬ iI y < 0 by rw [iI_lt0 (by omega) (by omega)]; omega), if_neg (show ¬ iI sz ≤ iI y from nle_iI (by omega) (by omega) (by omega))]
      exact Or.inr ⟨by omega, trivial, a6 hso, trivial, trivial⟩
    · rw [bI_f c1]
      by_cases c2 : y < 0
      · simp only [if_pos (show iI y < 0 by rw [iI_lt0 (by omega) (by omega)]; omega)]
        exact Or.inl ⟨-13, by decide, rfl, rfl⟩
      · simp only [if_neg (show ¬ iI y < 0 by rw [iI_lt0 (by omega) (by omega)]; omega), if_pos (show iI sz ≤ iI y from le_iI (by omega) (by omega) (by omega))]
        exact Or.inl ⟨-13, by decide, rfl, rfl⟩
end PC18
