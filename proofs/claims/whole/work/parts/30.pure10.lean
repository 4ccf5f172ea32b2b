-- ===== bridges and posts that go =====
abbrev R3 (r : Nat) : Prop := r = 3 ∨ r = 4 ∨ r = 5
abbrev R7 (r : Nat) : Prop := r = 7 ∨ r = 8
def sh3 (a : S2) (b e : Nat) : S2 := fun r i => if R3 r ∧ b ≤ i ∧ i < e then a r (i + 1) else a r i
def sh7 (a : S2) (b e : Nat) : S2 := fun r i => if R7 r ∧ b ≤ i ∧ i < e then a r (i + 1) else a r i
theorem sh3_0 (a : S2) (b : Nat) : sh3 a b b = a := by
  funext r i
  unfold sh3
  rw [if_neg (by omega)]
theorem sh7_0 (a : S2) (b : Nat) : sh7 a b b = a := by
  funext r i
  unfold sh7
  rw [if_neg (by omega)]
theorem sh3_s {a : S2} {b j : Nat} (h : b ≤ j) : va_up (va_up (va_up (sh3 a b j) 3 (upd (sh3 a b j 3) j (sh3 a b j 3 (j + 1)))) 4 (upd (sh3 a b j 4) j (sh3 a b j 4 (j + 1)))) 5 (upd (sh3 a b j 5) j (sh3 a b j 5 (j + 1))) = sh3 a b (j + 1) := by
  funext r i
  have key : ∀ r, R3 r → upd (sh3 a b j r) j (sh3 a b j r (j + 1)) i = sh3 a b (j + 1) r i := by
    intro r hr
    by_cases e : i = j
    · rw [e, ud_eq]
      unfold sh3
      rw [if_neg (by omega), if_pos ⟨hr, h, by omega⟩]
    · rw [ud_ne e]
      unfold sh3
      by_cases c : R3 r ∧ b ≤ i ∧ i < j
      · rw [if_pos c, if_pos ⟨hr, c.2.1, by omega⟩]
      · rw [if_neg c, if_neg (fun z => c ⟨hr, z.2.1, by omega⟩)]
  by_cases h5 : r = 5
  · subst h5; rw [vu_eq]; exact key 5 (by decide)
  rw [vu_ne h5]
  by_cases h4 : r = 4
  · subst h4; rw [vu_eq]; exact key 4 (by decide)
  rw [vu_ne h4]
  by_cases h3 : r = 3
  · subst h3; rw [vu_eq]; exact key 3 (by decide)
  rw [vu_ne h3]
  unfold sh3
  rw [if_neg (fun z => by rcases z.1 with z | z | z <;> omega), if_neg (fun z => by rcases z.1 with z | z | z <;> omega)]
theorem sh7_s {a : S2} {b j : Nat} (h : b ≤ j) : va_up (va_up (sh7 a b j) 7 (upd (sh7 a b j 7) j (sh7 a b j 7 (j + 1)))) 8 (upd (sh7 a b j 8) j (sh7 a b j 8 (j + 1))) = sh7 a b (j + 1) := by
  funext r i
  have key : ∀ r, R7 r → upd (sh7 a b j r) j (sh7 a b j r (j + 1)) i = sh7 a b (j + 1) r i := by
    intro r hr
    by_cases e : i = j
    · rw [e, ud_eq]
      unfold sh7
      rw [if_neg (by omega), if_pos ⟨hr, h, by omega⟩]
    · rw [ud_ne e]
      unfold sh7
      by_cases c : R7 r ∧ b ≤ i ∧ i < j
      · rw [if_pos c, if_pos ⟨hr, c.2.1, by omega⟩]
      · rw [if_neg c, if_neg (fun z => c ⟨hr, z.2.1, by omega⟩)]
  by_cases h4 : r = 8
  · subst h4; rw [vu_eq]; exact key 8 (by decide)
  rw [vu_ne h4]
  by_cases h3 : r = 7
  · subst h3; rw [vu_eq]; exact key 7 (by decide)
  rw [vu_ne h3]
  unfold sh7
  rw [if_neg (fun z => by rcases z.1 with z | z <;> omega), if_neg (fun z => by rcases z.1 with z | z <;> omega)]
theorem iI_s1 (n : Nat) (h : 1 ≤ n) : iI (n : Int) - 1 = iI ((n - 1 : Nat) : Int) := by
  show iI (n : Int) - iI 1 = _
  rw [iI_sub]; congr 1; omega
section PC10
variable {N : Nat} {s : S1} {a : S2} {sc : S1} {ar : S2}
theorem x1_removeBridge (hN : 100 ≤ N) {n b : Nat} (hn : n ≤ 4) (hb : b < n) (e2 : s 2 = iI n) : f_X1_removeBridge N s a (iI b) = some (upd s 2 (iI ((n - 1 : Nat) : Int)), sh3 a b (n - 1)) := by
  unfold f_X1_removeBridge
  have go := lp_all (F := fun k i => f_X1_removeBridge_L2 N s (fun t1 => some (upd s 2 (s 2 - 1), t1)) k (iI ((b + i : Nat) : Int)) (sh3 a b (b + i))) (n := n - 1 - b) (fin := some (upd s 2 (iI ((n - 1 : Nat) : Int)), sh3 a b (n - 1)))
    (by
      intro k
      rw [f_X1_removeBridge_L2, iI_succ, e2, if_pos (le_iI (by omega) (by omega) (by omega)), iI_s1 n (by omega), show b + (n - 1 - b) = n - 1 by omega])
    (by
      intro k i hi
      rw [f_X1_removeBridge_L2, iI_succ, e2, if_neg (nle_iI (by omega) (by omega) (by omega))]
      have o1 : ¬ oob (iI ((b + i : Nat) : Int)) 4 := ob_nat (by omega) (by omega)
      have o2 : ¬ oob (iI ((b + i + 1 : Nat) : Int)) 4 := ob_nat (by omega) (by omega)
      simp only [if_neg o1, if_neg o2, ix_nat (show b + i < 2147483648 by omega), ix_nat (show b + i + 1 < 2147483648 by omega)]
      rw [sh3_s (by omega)]
      rfl)
    N 0 (by omega) (by omega)
  rw [Nat.add_zero, sh3_0] at go
  exact go
theorem x1_removePost (hN : 100 ≤ N) {n b : Nat} (hn : n ≤ 5) (hb : b < n) (e2 : s 6 = iI n) : f_X1_removePost N s a (iI b) = some (upd s 6 (iI ((n - 1 : Nat) : Int)), sh7 a b (n - 1)) := by
  unfold f_X1_removePost
  have go := lp_all (F := fun k i => f_X1_removePost_L2 N s (fun t1 => some (upd s 6 (s 6 - 1), t1)) k (iI ((b + i : Nat) : Int)) (sh7 a b (b + i))) (n := n - 1 - b) (fin := some (upd s 6 (iI ((n - 1 : Nat) : Int)), sh7 a b (n - 1)))
    (by
      intro k
      rw [f_X1_removePost_L2, iI_succ, e2, if_pos (le_iI (by omega) (by omega) (by omega)), iI_s1 n (by omega), show b + (n - 1 - b) = n - 1 by omega])
    (by
      intro k i hi
      rw [f_X1_removePost_L2, iI_succ, e2, if_neg (nle_iI (by omega) (by omega) (by omega))]
      have o1 : ¬ oob (iI ((b + i : Nat) : Int)) 5 := ob_nat (by omega) (by omega)
      have o2 : ¬ oob (iI ((b + i + 1 : Nat) : Int)) 5 := ob_nat (by omega) (by omega)
      simp only [if_neg o1, if_neg o2, ix_nat (show b + i < 2147483648 by omega), ix_nat (show b + i + 1 < 2147483648 by omega)]
      rw [sh7_s (by omega)]
      rfl)
    N 0 (by omega) (by omega)
  rw [Nat.add_zero, sh7_0] at go
  exact go
theorem x7_fells_loop {β : Type} (hN : 100 ≤ N) {n b : Nat} (hn : n ≤ 4) (hb : b < n) {kx : S2 → Option β} (e2 : sc 2 = iI ((n - 1 : Nat) : Int)) : f_X7_fells_L26 N sc kx N (iI b) ar = kx (sh3 ar b (n - 1)) := by
  have go := lp_all (F := fun k i => f_X7_fells_L26 N sc kx k (iI ((b + i : Nat) : Int)) (sh3 ar b (b + i))) (n := n - 1 - b) (fin := kx (sh3 ar b (n - 1)))
    (by
      intro k
      rw [f_X7_fells_L26, e2, if_pos (le_iI (by omega) (by omega) (by omega)), show b + (n - 1 - b) = n - 1 by omega])
    (by
      intro k i hi
      rw [f_X7_fells_L26, iI_succ, e2, if_neg (nle_iI (by omega) (by omega) (by omega))]
      have o1 : ¬ oob (iI ((b + i : Nat) : Int)) 4 := ob_nat (by omega) (by omega)
      have o2 : ¬ oob (iI ((b + i + 1 : Nat) : Int)) 4 := ob_nat (by omega) (by omega)
      simp only [if_neg o1, if_neg o2, ix_nat (show b + i < 2147483648 by omega), ix_nat (show b + i + 1 < 2147483648 by omega)]
      rw [sh3_s (by omega)]
      rfl)
    N 0 (by omega) (by omega)
  rw [Nat.add_zero, sh3_0] at go
  exact go
end PC10
/-- the line without bridge b -/
def delA (A : AS) (b : Nat) : AS := fun k i => if k = 2 ∧ i = 0 then A 2 0 - 1 else if R3 k ∧ b ≤ i then A k (i + 1) else A k i
theorem delA_row {A : AS} {b k : Nat} (h2 : k ≠ 2) (h3 : ¬ R3 k) : delA A b k = A k := by
  funext i
  unfold delA
  rw [if_neg (fun z => h2 z.1), if_neg (fun z => h3 z.1)]
theorem delA_2 {A : AS} {b : Nat} : delA A b 2 0 = A 2 0 - 1 := by simp [delA]
theorem delA_3 {A : AS} {b k i : Nat} (h : R3 k) : delA A b k i = A k (if b ≤ i then i + 1 else i) := by
  unfold delA
  rw [if_neg (fun z => by rcases h with y | y | y <;> omega)]
  by_cases c : b ≤ i
  · rw [if_pos ⟨h, c⟩, if_pos c]
  · rw [if_neg (fun z => c z.2), if_neg c]
theorem sh3_3 {a : S2} {b e r i : Nat} (h : R3 r) (hi : i < e) : sh3 a b e r i = a r (if b ≤ i then i + 1 else i) := by
  unfold sh3
  by_cases c : b ≤ i
  · rw [if_pos ⟨h, c, hi⟩, if_pos c]
  · rw [if_neg (fun z => c z.2.1), if_neg c]
theorem sh3_row {a : S2} {b e r : Nat} (h : ¬ R3 r) : sh3 a b e r = a r := by
  funext i
  unfold sh3
  rw [if_neg (fun z => h z.1)]
theorem WF_del {A : AS} (hw : WF A) {b : Nat} (hb : (b : Int) < A 2 0) : WF (delA A b) := by
  obtain ⟨w0, w1, w2, w3, w4, w5⟩ := hw
  refine ⟨?_, ?_, ?_, ?_, ?_, ?_⟩
  · simp (disch := decide) only [delA_row, delA_2]; omega
  · simp (disch := decide) only [delA_row]; exact w1
  · simp (disch := decide) only [delA_row, delA_2, delA_3]
    intro i hi
    exact w2 _ (by split <;> omega)
  · simp (disch := decide) only [delA_row]; exact w3
  · simp (disch := decide) only [delA_row]; exact w4
  · simp (disch := decide) only [delA_row]; exact w5
theorem UQ_del {A : AS} (hu : UQ A) {b : Nat} : UQ (delA A b) := by
  unfold UQ
  simp (disch := decide) only [delA_row]
  exact hu
theorem MA_del {A : AS} (hw : WF A) {sc : S1} {ar : S2} (g : MA A sc ar) {b n : Nat} (hb : b < n) (hn : (n : Int) = A 2 0) : MA (delA A b) (upd sc 2 (iI ((n - 1 : Nat) : Int))) (sh3 ar b (n - 1)) := by
  obtain ⟨⟨m00, m01, m02, m03, m04, m05⟩, m1, m2, m3, m4, m5⟩ := g
  refine ⟨⟨?_, ?_, ?_, ?_, ?_, ?_⟩, ?_, ?_, ?_, ?_, ?_⟩
  · simp (disch := decide) only [delA_row, ud_ne]; exact m00
  · rw [ud_eq, delA_2]; congr 1; omega
  · simp (disch := decide) only [delA_row, ud_ne]; exact m02
  · simp (disch := decide) only [delA_row, ud_ne]; exact m03
  · simp (disch := decide) only [delA_row, ud_ne]; exact m04
  · simp (disch := decide) only [delA_row, ud_ne]; exact m05
  · simp (disch := decide) only [delA_row, sh3_row]; exact m1
  · simp (disch := decide) only [delA_2, delA_3]
    intro i hi
    simp only [sh3_3 (show R3 3 by decide) (show i < n - 1 by omega), sh3_3 (show R3 4 by decide) (show i < n - 1 by omega), sh3_3 (show R3 5 by decide) (show i < n - 1 by omega)]
    exact m2 _ (by split <;> omega)
  · simp (disch := decide) only [delA_row, sh3_row]; exact m3
  · simp (disch := decide) only [delA_row, sh3_row]; exact m4
  · simp (disch := decide) only [delA_row, sh3_row]; exact m5
theorem LA_del {A : AS} (hw : WF A) {s : S1} {a t : S2} {p : S1} {q : S2} (g : LA A s a t p q) {b n : Nat} (hb : b < n) (hn : (n : Int) = A 2 0) : LA (delA A b) (upd s 2 (iI ((n - 1 : Nat) : Int))) (sh3 a b (n - 1)) t p q := by
  obtain ⟨⟨m00, m01, m02, m03, m04, m05⟩, m1, m1b, m2, m3, m4, m5, m6⟩ := g
  refine ⟨⟨?_, ?_, ?_, ?_, ?_, ?_⟩, ?_, ?_, ?_, ?_, ?_, ?_, m6⟩
  · simp (disch := decide) only [delA_row, ud_ne]; exact m00
  · rw [ud_eq, delA_2]; congr 1; omega
  · simp (disch := decide) only [delA_row, ud_ne]; exact m02
  · simp (disch := decide) only [delA_row, ud_ne]; exact m03
  · simp (disch := decide) only [delA_row, ud_ne]; exact m04
  · simp (disch := decide) only [delA_row, ud_ne]; exact m05
  · simp (disch := decide) only [delA_row, sh3_row]; exact m1
  · simp (disch := decide) only [delA_row, sh3_row]; exact m1b
  · simp (disch := decide) only [delA_2, delA_3]
    intro i hi
    simp only [sh3_3 (show R3 3 by decide) (show i < n - 1 by omega), sh3_3 (show R3 4 by decide) (show i < n - 1 by omega), sh3_3 (show R3 5 by decide) (show i < n - 1 by omega)]
    exact m2 _ (by split <;> omega)
  · simp (disch := decide) only [delA_row, sh3_row]; exact m3
  · simp (disch := decide) only [delA_row]; exact m4
  · simp (disch := decide) only [delA_row]; exact m5
theorem x7_fells_yes {N : Nat} {A : AS} {sc : S1} {ar : S2} (hN : 100 ≤ N) (g : MA A sc ar) (hw : WF A) {b n : Nat} (hb : b < n) (hn : (n : Int) = A 2 0) : f_X7_fells N sc ar (iI b) = some (iI ((n - 1 : Nat) : Int), upd sc 2 (iI ((n - 1 : Nat) : Int)), sh3 ar b (n - 1)) := by
  have w0 := hw.1
  have e2 : sc 2 = iI (n : Int) := by rw [hn]; exact g.1.2.1
  unfold f_X7_fells
  rw [x7_isBridge g hw (by omega) (by omega), bI_t (by omega), Option.bind_some, if_neg one_ne, e2, iI_s1 n (by omega), x7_fells_loop hN (n := n) (by omega) hb (ud_eq _ _ _)]
theorem chg_fells {N : Nat} {A : AS} {s : S1} {a t : S2} {p : S1} {q : S2} {sc : S1} {ar : S2} (hN : 100 ≤ N) (h : LA A s a t p q) (g : MA A sc ar) (hw : WF A) (hu : UQ A) {aX : S2} {z : Int} (hz : -2147483648 ≤ z ∧ z < 2147483648) : (∃ r A' s' a' sc' ar', f_X6_fells N aX s a (iI z) = some (r, aX, s', a') ∧ f_X7_fells N sc ar (iI z) = some (r, sc', ar') ∧ LA A' s' a' t p q ∧ MA A' sc' ar' ∧ WF A' ∧ UQ A' ∧ frS sc sc' ∧ frA ar ar') ∨ (∃ c, cod c ∧ f_X6_fells N aX s a (iI z) = some (c, rfA aX c, s, a) ∧ f_X7_fells N sc ar (iI z) = some (c, sc, noA ar c)) := by
  have w0 := hw.1
  by_cases hin : 0 ≤ z ∧ z < A 2 0
  · obtain ⟨b, rfl⟩ : ∃ b : Nat, z = (b : Int) := ⟨z.toNat, by omega⟩
    obtain ⟨n, hn⟩ : ∃ n : Nat, (n : Int) = A 2 0 := ⟨(A 2 0).toNat, by omega⟩
    have e2 : s 2 = iI (n : Int) := by rw [hn]; exact h.1.2.1
    refine Or.inl ⟨_, delA A b, _, _, _, _, ?_, x7_fells_yes hN g hw (by omega) hn, LA_del hw h (by omega) hn, MA_del hw g (by omega) hn, WF_del hw (by omega), UQ_del hu, ?_, ?_⟩
    · unfold f_X6_fells
      rw [x1_hasBridge h hw hz.1 hz.2, bI_t hin, Option.bind_some, if_neg one_ne, x1_removeBridge hN (by omega) (by omega) e2, Option.bind_some]
      simp only [ud_eq]
    · intro j hj; exact ud_ne (by omega)
    · intro j hj; exact sh3_row (fun z => by rcases z with z | z | z <;> omega)
  · refine Or.inr ⟨-1, cod1, ?_, ?_⟩
    · unfold f_X6_fells
      rw [x1_hasBridge h hw hz.1 hz.2, bI_f hin, Option.bind_some, if_pos rfl, x6_refused cod1]
      rfl
    · unfold f_X7_fells
      rw [x7_isBridge g hw hz.1 hz.2, bI_f hin, Option.bind_some, if_pos rfl, x7_no cod1]
      rfl
