theorem mul_bd {a b : Int} (h1 : 0 ≤ a) (h2 : a ≤ 200) (h3 : 0 ≤ b) (h4 : b ≤ 24) : 0 ≤ a * b ∧ a * b ≤ 4800 := by
  refine ⟨Int.mul_nonneg h1 h3, ?_⟩
  have := Int.mul_le_mul h2 h4 h3 (by omega)
  omega
theorem iI_1s (c : Int) : iI c + 1 = iI (c + 1) := by
  show iI c + iI 1 = _
  rw [iI_add]
section PC3
variable {N : Nat} {A : AS} {s : S1} {a t : S2} {p : S1} {q : S2}
theorem x1_clr1 (h : LA A s a t p q) (hw : WF A) {there : Int32} {l r lt rt : Int} (hl : 0 ≤ l) (hr : r < A 0 0) (hlt : 0 ≤ lt ∧ lt ≤ 200) (hrt : 0 ≤ rt ∧ rt ≤ 200) {kx : Unit → Option Int32} : ∀ (n : Nat) (c : Int), l < c → c ≤ r → r < c + n → f_X1_isClear_L69 N s a there (iI l) (iI r) (iI (r - l)) (iI lt) (iI rt) kx n (iI c) = @ite _ (∀ c' : Int, c ≤ c' → c' < r → A 1 c'.toNat * (r - l) < lnA l r lt rt c') (Classical.propDecidable _) (kx ()) (some 0) := by
  obtain ⟨-, eg, -⟩ := h
  obtain ⟨⟨w3, w4, -⟩, wg, -⟩ := hw
  intro n
  induction n with
  | zero => intro c h1 h2 h3; omega
  | succ n ih =>
    intro c h1 h2 h3
    rw [f_X1_isClear_L69]
    simp (disch := omega) only [iI_le]
    by_cases hc : r ≤ c
    · rw [if_pos hc, cI_t]
      intro c' x1 x2; omega
    · have g1 := wg c.toNat (by omega)
      rw [if_neg hc, if_neg (ob_int (by omega) (by omega) (by omega)), ix_iI (by omega) (by omega), eg _ (by omega), iI_1s, ih (c + 1) (by omega) (by omega) (by omega)]
      simp only [iI_sub, iI_mul, iI_add]
      have b1 := mul_bd (a := A 1 c.toNat) (b := r - l) (by omega) (by omega) (by omega) (by omega)
      have b2 := mul_bd (a := lt) (b := r - c) (by omega) (by omega) (by omega) (by omega)
      have b3 := mul_bd (a := rt) (b := c - l) (by omega) (by omega) (by omega) (by omega)
      simp (disch := omega) only [iI_lt]
      by_cases hg : A 1 c.toNat * (r - l) < lt * (r - c) + rt * (c - l)
      · rw [if_pos hg]
        by_cases hx : ∀ c' : Int, c + 1 ≤ c' → c' < r → A 1 c'.toNat * (r - l) < lnA l r lt rt c'
        · rw [cI_t hx, cI_t]
          intro c' x1 x2
          by_cases e : c' = c
          · subst e; exact hg
          · exact hx c' (by omega) x2
        · rw [cI_f hx, cI_f]
          exact fun z => hx (fun c' x1 x2 => z c' (by omega) x2)
      · rw [if_neg hg, cI_f]
        exact fun z => hg (z c (by omega) (by omega))
theorem x1_clr2 (h : LA A s a t p q) (hw : WF A) {there : Int32} {m : Nat → Prop} (hm : MK there m (A 2 0)) {l r lt rt : Int} (hl : 0 ≤ l) (hlr : l < r) (hr : r < A 0 0) (hlt : 0 ≤ lt ∧ lt ≤ 200) (hrt : 0 ≤ rt ∧ rt ≤ 200) {kx : Unit → Option Int32} : ∀ (n i : Nat), (i : Int) ≤ A 2 0 → A 2 0 < i + n → f_X1_isClear_L117 N s a there (iI l) (iI r) (iI (r - l)) (iI lt) (iI rt) kx n (iI i) = @ite _ (∀ j : Nat, i ≤ j → (j : Int) < A 2 0 → m j → l < A 3 j → A 3 j < r → ¬ (A 4 j * (r - l) ≤ lnA l r lt rt (A 3 j) ∧ lnA l r lt rt (A 3 j) ≤ A 5 j * (r - l))) (Classical.propDecidable _) (kx ()) (some 0) := by
  obtain ⟨⟨-, e2, -⟩, -, -, eb, -⟩ := h
  obtain ⟨⟨w3, w4, w1, w2, -⟩, -, wb, -⟩ := hw
  intro n
  induction n with
  | zero => intro i h1 h2; omega
  | succ n ih =>
    intro i h1 h2
    rw [f_X1_isClear_L117]
    simp (disch := omega) only [e2, iI_le]
    by_cases hc : A 2 0 ≤ (i : Int)
    · rw [if_pos hc, cI_t]
      intro j x1 x2; omega
    · have hi : (i : Int) < A 2 0 := by omega
      have wi := wb i hi
      have go : ∀ (b : Prop), (b ↔ (m i → l < A 3 i → A 3 i < r → ¬ (A 4 i * (r - l) ≤ lnA l r lt rt (A 3 i) ∧ lnA l r lt rt (A 3 i) ≤ A 5 i * (r - l)))) → ∀ o : Option Int32, ((b → o = f_X1_isClear_L117 N s a there (iI l) (iI r) (iI (r - l)) (iI lt) (iI rt) kx n (iI ((i + 1 : Nat) : Int))) ∧ (¬ b → o = some 0)) → o = @ite _ (∀ j : Nat, i ≤ j → (j : Int) < A 2 0 → m j → l < A 3 j → A 3 j < r → ¬ (A 4 j * (r - l) ≤ lnA l r lt rt (A 3 j) ∧ lnA l r lt rt (A 3 j) ≤ A 5 j * (r - l))) (Classical.propDecidable _) (kx ()) (some 0) := by
        intro b hb o ho
        by_cases hbb : b
        · rw [ho.1 hbb, ih (i + 1) (by omega) (by omega)]
          by_cases hx : ∀ j : Nat, i + 1 ≤ j → (j : Int) < A 2 0 → m j → l < A 3 j → A 3 j < r → ¬ (A 4 j * (r - l) ≤ lnA l r lt rt (A 3 j) ∧ lnA l r lt rt (A 3 j) ≤ A 5 j * (r - l))
          · rw [cI_t hx, cI_t]
            intro j x1
            rcases Nat.eq_or_lt_of_le x1 with rfl | x1
            · exact fun _ => hb.mp hbb
            · exact hx j x1
          · rw [cI_f hx, cI_f]
            exact fun z => hx (fun j x1 => z j (by omega))
        · rw [ho.2 hbb, cI_f]
          exact fun z => hbb (hb.mpr (z i (Nat.le_refl i) hi))
      have hob : ¬ oob (iI (i : Int)) 4 := ob_nat (by omega) (by omega)
      rw [if_neg hc]
      simp only [if_neg hob, ix_nat (show i < 2147483648 by omega), (eb i hi).1, (eb i hi).2.1, (eb i hi).2.2, iI_succ, iI_sub, iI_mul, iI_add]
      refine go _ Iff.rfl _ ⟨?_, ?_⟩
      · intro hb
        by_cases hmi : m i
        · rw [if_pos ((hm i hi).mpr hmi)]
          simp (disch := omega) only [iI_le]
          by_cases c1 : A 3 i ≤ l
          · rw [if_pos c1]
          · rw [if_neg c1]
            by_cases c2 : r ≤ A 3 i
            · rw [if_pos c2]
            · rw [if_neg c2]
              have b1 := mul_bd (a := A 4 i) (b := r - l) (by omega) (by omega) (by omega) (by omega)
              have b4 := mul_bd (a := A 5 i) (b := r - l) (by omega) (by omega) (by omega) (by omega)
              have b2 := mul_bd (a := lt) (b := r - A 3 i) (by omega) (by omega) (by omega) (by omega)
              have b3 := mul_bd (a := rt) (b := A 3 i - l) (by omega) (by omega) (by omega) (by omega)
              simp (disch := omega) only [iI_lt]
              have hb2 := hb hmi (by omega) (by omega)
              unfold lnA at hb2
              by_cases c3 : lt * (r - A 3 i) + rt * (A 3 i - l) < A 4 i * (r - l)
              · rw [if_pos c3]
              · rw [if_neg c3, if_pos]
                omega
        · rw [if_neg (fun z => hmi ((hm i hi).mp z))]
      · intro hb
        simp only [Classical.not_imp, Classical.not_not] at hb
        obtain ⟨hmi, c1, c2, hb2⟩ := hb
        unfold lnA at hb2
        rw [if_pos ((hm i hi).mpr hmi)]
        simp (disch := omega) only [iI_le]
        have b1 := mul_bd (a := A 4 i) (b := r - l) (by omega) (by omega) (by omega) (by omega)
        have b4 := mul_bd (a := A 5 i) (b := r - l) (by omega) (by omega) (by omega) (by omega)
        have b2 := mul_bd (a := lt) (b := r - A 3 i) (by omega) (by omega) (by omega) (by omega)
        have b3 := mul_bd (a := rt) (b := A 3 i - l) (by omega) (by omega) (by omega) (by omega)
        simp (disch := omega) only [iI_lt]
        rw [if_neg (by omega), if_neg (by omega), if_neg (by omega), if_neg (by omega)]
theorem x1_clr (hN : 100 ≤ N) (h : LA A s a t p q) (hw : WF A) {there : Int32} {m : Nat → Prop} (hm : MK there m (A 2 0)) {l r lt rt : Int} (hl : 0 ≤ l) (hlr : l < r) (hr : r < A 0 0) (hlt : 0 ≤ lt ∧ lt ≤ 200) (hrt : 0 ≤ rt ∧ rt ≤ 200) : f_X1_isClear_L69 N s a there (iI l) (iI r) (iI (r - l)) (iI lt) (iI rt) (fun _ => f_X1_isClear_L117 N s a there (iI l) (iI r) (iI (r - l)) (iI lt) (iI rt) (fun _ => some 1) N 0) N (iI (l + 1)) = some (bI (clrA (A 1) (BR A m) l r lt rt)) := by
  have w := hw.1
  rw [x1_clr1 h hw hl hr hlt hrt N (l + 1) (by omega) (by omega) (by omega)]
  have e := x1_clr2 (N := N) h hw hm hl hlr hr hlt hrt (kx := fun _ => some 1) N 0 (by omega) (by omega)
  by_cases h1 : ∀ c' : Int, l + 1 ≤ c' → c' < r → A 1 c'.toNat * (r - l) < lnA l r lt rt c'
  · rw [cI_t h1]
    show f_X1_isClear_L117 N s a there (iI l) (iI r) (iI (r - l)) (iI lt) (iI rt) (fun _ => some 1) N (iI ((0 : Nat) : Int)) = _
    rw [e]
    by_cases h2 : ∀ j : Nat, 0 ≤ j → (j : Int) < A 2 0 → m j → l < A 3 j → A 3 j < r → ¬ (A 4 j * (r - l) ≤ lnA l r lt rt (A 3 j) ∧ lnA l r lt rt (A 3 j) ≤ A 5 j * (r - l))
    · rw [cI_t h2, bI_t]
      intro c x1 x2
      refine ⟨h1 c (by omega) x2, ?_⟩
      rintro lo hi ⟨i, y1, y2, y3, y4, y5⟩
      subst y3; subst y4; subst y5
      exact h2 i (Nat.zero_le _) y1 y2 x1 x2
    · rw [cI_f h2, bI_f]
      intro z
      exact h2 (fun j _ y1 y2 y3 y4 => (z (A 3 j) y3 y4).2 _ _ ⟨j, y1, y2, rfl, rfl, rfl⟩)
  · rw [cI_f h1, bI_f]
    exact fun z => h1 (fun c x1 x2 => (z c (by omega) x2).1)
theorem x1_isClear (hN : 100 ≤ N) (h : LA A s a t p q) (hw : WF A) {there : Int32} {m : Nat → Prop} (hm : MK there m (A 2 0)) {x hx y hy : Int} (hx0 : 0 ≤ x ∧ x < A 0 0) (hy0 : 0 ≤ y ∧ y < A 0 0) (hne : x ≠ y) (h1 : 0 ≤ hx ∧ hx ≤ 100) (h2 : 0 ≤ hy ∧ hy ≤ 100) : f_X1_isClear N s a (iI x) (iI hx) (iI y) (iI hy) there = some (bI (clearA (A 1) (BR A m) x hx y hy)) := by
  have w := hw.1
  have g1 := hw.2.1 x.toNat (by omega)
  have g2 := hw.2.1 y.toNat (by omega)
  unfold f_X1_isClear
  simp (disch := omega) only [iI_lt, iI_le]
  by_cases hlt : x < y
  · rw [if_neg (show ¬ y < x by omega), if_pos hlt, if_neg (show ¬ y ≤ x by omega), if_neg (show ¬ y ≤ x by omega)]
    rw [if_neg (ob_int (by omega) (by omega) (by omega)), if_neg (ob_int (by omega) (by omega) (by omega)), ix_iI (by omega) (by omega), ix_iI (by omega) (by omega), h.2.1 _ (by omega), h.2.1 _ (by omega), iI_add, iI_add, iI_sub]
    show f_X1_isClear_L69 N s a there (iI x) (iI y) _ _ _ _ N (iI x + iI 1) = _
    rw [iI_add]
    refine (x1_clr hN h hw hm (by omega) (by omega) (by omega) (by omega) (by omega)).trans ?_
    congr 1
    refine bI_iff ⟨fun z => ⟨fun _ => z, fun y => absurd y (by omega)⟩, fun z => z.1 hlt⟩
  · rw [if_pos (show y < x by omega), if_neg hlt, if_pos (show y ≤ x by omega), if_pos (show y ≤ x by omega)]
    rw [if_neg (ob_int (by omega) (by omega) (by omega)), if_neg (ob_int (by omega) (by omega) (by omega)), ix_iI (by omega) (by omega), ix_iI (by omega) (by omega), h.2.1 _ (by omega), h.2.1 _ (by omega), iI_add, iI_add, iI_sub]
    show f_X1_isClear_L69 N s a there (iI y) (iI x) _ _ _ _ N (iI y + iI 1) = _
    rw [iI_add]
    refine (x1_clr hN h hw hm (by omega) (by omega) (by omega) (by omega) (by omega)).trans ?_
    congr 1
    refine bI_iff ⟨fun z => ⟨fun y => absurd y (by omega), fun _ => z⟩, fun z => z.2 (by omega)⟩
end PC3
