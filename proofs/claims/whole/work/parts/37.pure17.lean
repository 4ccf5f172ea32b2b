-- ===== shadow, steepest, alike =====
theorem MK_but {b n : Nat} (hn : n ≤ 4) (hb : b < n) : MK ((((1 : Int32) <<< (iI (n : Int) &&& 31)) - 1) &&& (((1 : Int32) <<< (iI (b : Int) &&& 31)) ^^^ -1)) (fun i => i ≠ b) (n : Int) := by
  intro i hi
  have hi' : i < n := by omega
  rcases (show n = 1 ∨ n = 2 ∨ n = 3 ∨ n = 4 by omega) with rfl | rfl | rfl | rfl
  · rcases (show i = 0 by omega) with rfl; rcases (show b = 0 by omega) with rfl; decide
  · rcases (show i = 0 ∨ i = 1 by omega) with rfl | rfl <;> rcases (show b = 0 ∨ b = 1 by omega) with rfl | rfl <;> decide
  · rcases (show i = 0 ∨ i = 1 ∨ i = 2 by omega) with rfl | rfl | rfl <;> rcases (show b = 0 ∨ b = 1 ∨ b = 2 by omega) with rfl | rfl | rfl <;> decide
  · rcases (show i = 0 ∨ i = 1 ∨ i = 2 ∨ i = 3 by omega) with rfl | rfl | rfl | rfl <;> rcases (show b = 0 ∨ b = 1 ∨ b = 2 ∨ b = 3 by omega) with rfl | rfl | rfl | rfl <;> decide
theorem MG_but {b n : Nat} (hn : n ≤ 4) (hb : b < n) : MG ((1 : Int32) <<< (iI (b : Int) &&& 31)) (fun i => i ≠ b) (n : Int) := by
  intro i hi
  have hi' : i < 4 := by omega
  rcases (show i = 0 ∨ i = 1 ∨ i = 2 ∨ i = 3 by omega) with rfl | rfl | rfl | rfl <;> rcases (show b = 0 ∨ b = 1 ∨ b = 2 ∨ b = 3 by omega) with rfl | rfl | rfl | rfl <;> decide
theorem bI_eq {P Q : Prop} : bI P = bI Q ↔ (P ↔ Q) := by
  by_cases h : P <;> by_cases h' : Q
  · rw [bI_t h, bI_t h']; simp [h, h']
  · rw [bI_t h, bI_f h']; simp [h, h']
  · rw [bI_f h, bI_t h']; simp [h, h']
  · rw [bI_f h, bI_f h']; simp [h, h']
def ALK (A : AS) (n x y : Nat) : Prop := ∀ k : Nat, k < n → A 1 (x + k) - A 1 x = A 1 (y + k) - A 1 y ∧ (BD A mT ((x + k : Nat) : Int) ↔ BD A mT ((y + k : Nat) : Int))
theorem ALK_sym {A : AS} {n x y : Nat} (h : ALK A n x y) : ALK A n y x := fun k hk => ⟨(h k hk).1.symm, (h k hk).2.symm⟩
noncomputable def fstF (P : Nat → Prop) : Nat → Int32
  | 0 => -9
  | n + 1 => if fstF P n = -9 then @ite _ (P n) (Classical.propDecidable _) (iI n) (fstF P n) else fstF P n
theorem fstF_ex (P : Nat → Prop) : ∀ n : Nat, n < 1000 → (∃ j, j < n ∧ P j ∧ (∀ j', j' < j → ¬ P j') ∧ fstF P n = iI j) ∨ ((∀ j, j < n → ¬ P j) ∧ fstF P n = -9) := by
  intro n
  induction n with
  | zero => intro _; exact Or.inr ⟨fun j hj => absurd hj (Nat.not_lt_zero _), rfl⟩
  | succ n ih =>
    intro hn
    rw [fstF]
    rcases ih (by omega) with ⟨j, j1, j2, j3, j4⟩ | ⟨j1, j2⟩
    · have n9 : ¬ iI (j : Int) = -9 := by show ¬ iI (j : Int) = iI (-9); rw [iI_eq (by omega) (by omega) (by omega) (by omega)]; omega
      rw [j4, if_neg n9]
      exact Or.inl ⟨j, by omega, j2, j3, rfl⟩
    · rw [j2, if_pos rfl]
      by_cases hp : P n
      · rw [cI_t hp]
        exact Or.inl ⟨n, by omega, hp, j1, rfl⟩
      · rw [cI_f hp]
        refine Or.inr ⟨?_, rfl⟩
        intro j hj
        by_cases e : j = n
        · rw [e]; exact hp
        · exact j1 j (by omega)
section PC17
variable {N : Nat} {A : AS} {s : S1} {a t : S2} {p : S1} {q : S2} {sc : S1} {ar : S2} {aX : S2}
theorem x1_all' (h : LA A s a t p q) : f_X1_allBridges N s = some (((1 : Int32) <<< (iI (A 2 0) &&& 31)) - 1) := by
  unfold f_X1_allBridges
  rw [h.1.2.1]
theorem q_shadow (hN : 100 ≤ N) (h : LA A s a t p q) (g : MA A sc ar) (hw : WF A) (hg : sc 25 = 0) {x y z : Int} (h1 : -2147483648 ≤ x ∧ x < 2147483648) (h2 : -2147483648 ≤ y ∧ y < 2147483648) (h3 : -2147483648 ≤ z ∧ z < 2147483648) : (∃ r, f_X6_shadow N aX s a t (iI x) (iI y) (iI z) = some (r, aX) ∧ f_X7_shadow N sc ar (iI x) (iI y) (iI z) = some (r, sc, ar)) ∨ (∃ c, cod c ∧ f_X6_shadow N aX s a t (iI x) (iI y) (iI z) = some (c, rfA aX c) ∧ f_X7_shadow N sc ar (iI x) (iI y) (iI z) = some (c, sc, noA ar c)) := by
  have w0 := hw.1
  unfold f_X6_shadow f_X7_shadow
  rw [x1_hasBridge h hw h1.1 h1.2, x7_isBridge g hw h1.1 h1.2, x1_hasTrain h hw h2.1 h2.2, x7_isTrain g hw h2.1 h2.2, x1_hasPost h hw h3.1 h3.2, x7_isPost g hw h3.1 h3.2]
  simp only [x6_refused cod1, x7_no cod1, Option.bind_some]
  by_cases c1 : 0 ≤ x ∧ x < A 2 0
  · rw [bI_t c1]
    by_cases c2 : 0 ≤ y ∧ y < A 9 0
    · rw [bI_t c2]
      by_cases c3 : 0 ≤ z ∧ z < A 6 0
      · rw [bI_t c3]
        obtain ⟨b, rfl⟩ : ∃ b : Nat, x = (b : Int) := ⟨x.toNat, by omega⟩
        obtain ⟨j, rfl⟩ : ∃ b : Nat, y = (b : Int) := ⟨y.toNat, by omega⟩
        obtain ⟨i, rfl⟩ : ∃ b : Nat, z = (b : Int) := ⟨z.toNat, by omega⟩
        obtain ⟨n, hn⟩ : ∃ n : Nat, (n : Int) = A 2 0 := ⟨(A 2 0).toNat, by omega⟩
        have hot : ¬ oob (iI (j : Int)) 4 := ob_nat (by omega) (by omega)
        simp only [if_neg one_ne, if_neg hot, ix_nat (show j < 2147483648 by omega), x1_all' h, Option.bind_some]
        have hK : MK (((1 : Int32) <<< (iI (A 2 0) &&& 31)) - 1) mT (A 2 0) := MK_all (by omega)
        have hB : MK ((((1 : Int32) <<< (iI (A 2 0) &&& 31)) - 1) &&& (((1 : Int32) <<< (iI (b : Int) &&& 31)) ^^^ -1)) (fun i => i ≠ b) (A 2 0) := by rw [← hn]; exact MK_but (by omega) (by omega)
        have hG : MG ((1 : Int32) <<< (iI (b : Int) &&& 31)) (fun i => i ≠ b) (A 2 0) := by rw [← hn]; exact MG_but (n := n) (by omega) (by omega)
        have hgm : MG (sc 25) mT (A 2 0) := by rw [hg]; exact MG_0 (by omega)
        refine Or.inl ⟨bitsF (fun c => seesA (A 1) (BR A (fun i => i ≠ b)) (eyeA (A 10 j) (A 11 j)) (A 13 j) (A 7 i) (A 8 i) c ∧ ¬ seesA (A 1) (BR A mT) (eyeA (A 10 j) (A 11 j)) (A 13 j) (A 7 i) (A 8 i) c) (A 0 0).toNat, ?_, ?_⟩
        · exact lp_all (F := fun k c => f_X6_shadow_L65 N aX s a t (iI b) (iI i) (((1 : Int32) <<< (iI (A 2 0) &&& 31)) - 1) j (fun x6_14 => some (x6_14, aX)) k (bitsF (fun c => seesA (A 1) (BR A (fun i => i ≠ b)) (eyeA (A 10 j) (A 11 j)) (A 13 j) (A 7 i) (A 8 i) c ∧ ¬ seesA (A 1) (BR A mT) (eyeA (A 10 j) (A 11 j)) (A 13 j) (A 7 i) (A 8 i) c) c) (iI (c : Int))) (n := (A 0 0).toNat)
            (by
              intro k
              rw [f_X6_shadow_L65, h.1.1, if_pos (le_iI (by omega) (by omega) (by omega))])
            (by
              intro k c hc
              rw [f_X6_shadow_L65, h.1.1, if_neg (nle_iI (by omega) (by omega) (by omega)), x1_seesPost hN h hw hB (TR_of h hw c2.2) c3.2 (by omega), Option.bind_some, bI_ite, x1_seesPost hN h hw hK (TR_of h hw c2.2) c3.2 (by omega), Option.bind_some, bI_ite, iI_succ, bitsF]
              by_cases p1 : seesA (A 1) (BR A (fun i => i ≠ b)) (eyeA (A 10 j) (A 11 j)) (A 13 j) (A 7 i) (A 8 i) c
              · rw [cI_t p1, Option.bind_some]
                by_cases p2 : seesA (A 1) (BR A mT) (eyeA (A 10 j) (A 11 j)) (A 13 j) (A 7 i) (A 8 i) c
                · rw [cI_t p2, cI_f (fun z => z.2 p2)]
                · rw [cI_f p2, cI_t ⟨p1, p2⟩]
              · rw [cI_f p1, Option.bind_some, cI_f (fun z => p1 z.1)])
            N 0 (by omega) (by omega)
        · have hsc : ∀ v, MA A (upd sc 25 v) ar := fun v => MA_cg g (fun j hj => ud_ne (by omega)) (fun _ _ => rfl)
          have hb : upd (upd sc 25 ((1 : Int32) <<< (iI (b : Int) &&& 31))) 25 0 = sc := by rw [ud_ud, ← hg, ud_self]
          exact lp_all (F := fun k c => f_X7_shadow_L36 N ar (iI b) (iI j) (iI i) (fun x4_12 t12 => some (x4_12, t12, ar)) k (bitsF (fun c => seesA (A 1) (BR A (fun i => i ≠ b)) (eyeA (A 10 j) (A 11 j)) (A 13 j) (A 7 i) (A 8 i) c ∧ ¬ seesA (A 1) (BR A mT) (eyeA (A 10 j) (A 11 j)) (A 13 j) (A 7 i) (A 8 i) c) c) (iI (c : Int)) sc) (n := (A 0 0).toNat)
            (by
              intro k
              rw [f_X7_shadow_L36, g.1.1, if_pos (le_iI (by omega) (by omega) (by omega))])
            (by
              intro k c hc
              rw [f_X7_shadow_L36, g.1.1, if_neg (nle_iI (by omega) (by omega) (by omega)), hb, x7_isSeen hN (hsc _) hw (by rw [ud_eq]; exact hG) c2.2 c3.2 (by omega), Option.bind_some, bI_ite, x7_isSeen hN g hw hgm c2.2 c3.2 (by omega), Option.bind_some, bI_ite, iI_succ, bitsF]
              by_cases p1 : seesA (A 1) (BR A (fun i => i ≠ b)) (eyeA (A 10 j) (A 11 j)) (A 13 j) (A 7 i) (A 8 i) c
              · rw [cI_t p1, Option.bind_some]
                by_cases p2 : seesA (A 1) (BR A mT) (eyeA (A 10 j) (A 11 j)) (A 13 j) (A 7 i) (A 8 i) c
                · rw [cI_t p2, cI_f (fun z => z.2 p2), Int32.or_zero]
                · rw [cI_f p2, cI_t ⟨p1, p2⟩]
              · rw [cI_f p1, Option.bind_some, cI_f (fun z => p1 z.1), Int32.or_zero])
            N 0 (by omega) (by omega)
      · rw [bI_f c3]
        exact Or.inr ⟨-1, cod1, rfl, rfl⟩
    · rw [bI_f c2]
      exact Or.inr ⟨-1, cod1, rfl, rfl⟩
  · rw [bI_f c1]
    exact Or.inr ⟨-1, cod1, rfl, rfl⟩
theorem x1_areAlike (hN : 100 ≤ N) (h : LA A s a t p q) (hw : WF A) {n x y : Nat} (hn : 1 ≤ n) (hx : ((x + n : Nat) : Int) ≤ A 0 0) (hy : ((y + n : Nat) : Int) ≤ A 0 0) : f_X1_areAlike N s a (iI x) (iI y) (iI n) = some (bI (ALK A n x y)) := by
  have w0 := hw.1
  obtain ⟨all, ea, hm⟩ := x1_all (N := N) h hw
  unfold f_X1_areAlike
  have gx0 := hw.2.1 x (by omega)
  have gy0 := hw.2.1 y (by omega)
  rw [ea, Option.bind_some, if_neg (ob_nat (by omega) (by omega)), if_neg (ob_nat (by omega) (by omega)), ix_nat (by omega), ix_nat (by omega), h.2.1 x (by omega), h.2.1 y (by omega), iI_sub]
  have go := lp_any (F := fun k i => f_X1_areAlike_L24 N s a (iI x) (iI y) (iI n) all (iI (A 1 y - A 1 x)) (fun _ => some 1) k (iI (i : Int))) (fin := some 1) (r := fun _ => some 0) (P := fun k => ¬ (A 1 (x + k) - A 1 x = A 1 (y + k) - A 1 y ∧ (BD A mT ((x + k : Nat) : Int) ↔ BD A mT ((y + k : Nat) : Int)))) (n := n)
    (by
      intro k
      rw [f_X1_areAlike_L24, if_pos (le_iI (by omega) (by omega) (by omega))])
    (by
      intro k i hi
      have g1 := hw.2.1 (x + i) (by omega)
      have g2 := hw.2.1 (y + i) (by omega)
      have ex : iI (x : Int) + iI (i : Int) = iI ((x + i : Nat) : Int) := by rw [iI_add]; rfl
      have ey : iI (y : Int) + iI (i : Int) = iI ((y + i : Nat) : Int) := by rw [iI_add]; rfl
      have e : f_X1_areAlike_L24 N s a (iI x) (iI y) (iI n) all (iI (A 1 y - A 1 x)) (fun _ => some 1) (k + 1) (iI (i : Int)) = @ite _ (A 1 (x + i) - A 1 x = A 1 (y + i) - A 1 y ∧ (BD A mT ((x + i : Nat) : Int) ↔ BD A mT ((y + i : Nat) : Int))) (Classical.propDecidable _) (f_X1_areAlike_L24 N s a (iI x) (iI y) (iI n) all (iI (A 1 y - A 1 x)) (fun _ => some 1) k (iI ((i + 1 : Nat) : Int))) (some 0) := by
        rw [f_X1_areAlike_L24, if_neg (nle_iI (by omega) (by omega) (by omega)), ex, ey, if_neg (ob_nat (by omega) (by omega)), if_neg (ob_nat (by omega) (by omega)), ix_nat (by omega), ix_nat (by omega), h.2.1 (x + i) (by omega), h.2.1 (y + i) (by omega), iI_sub, x1_isBridged hN h hw hm (by omega), Option.bind_some, x1_isBridged hN h hw hm (by omega), Option.bind_some, iteeq (by omega) (by omega) (by omega) (by omega), iI_succ]
        by_cases c1 : A 1 (y + i) - A 1 (x + i) = A 1 y - A 1 x
        · rw [if_pos c1]
          by_cases c2 : (BD A mT ((x + i : Nat) : Int) ↔ BD A mT ((y + i : Nat) : Int))
          · rw [if_pos (bI_eq.mpr c2), cI_t ⟨by omega, c2⟩]
          · rw [if_neg (fun z => c2 (bI_eq.mp z)), cI_f (fun z => c2 z.2)]
        · rw [if_neg c1, cI_f (fun z => c1 (by have := z.1; omega))]
      exact ⟨fun hp => by rw [e, cI_f hp], fun hp => by rw [e, cI_t (Classical.not_not.mp hp)]⟩)
    N 0 (by omega) (by omega)
  rcases go with ⟨j, -, j2, j3, -, e⟩ | ⟨j1, e⟩
  · refine (show _ = _ from e).trans ?_
    rw [bI_f]
    exact fun z => j3 (z j j2)
  · refine (show _ = _ from e).trans ?_
    rw [bI_t]
    exact fun k hk => Classical.not_not.mp (j1 k (by omega) hk)
theorem x7_areAlike (hN : 100 ≤ N) (h : MA A sc ar) (hw : WF A) {n x y : Nat} (hn : 1 ≤ n) (hx : ((x + n : Nat) : Int) ≤ A 0 0) (hy : ((y + n : Nat) : Int) ≤ A 0 0) : f_X7_areAlike N sc ar (iI x) (iI y) (iI n) = some (bI (ALK A n x y)) := by
  have w0 := hw.1
  unfold f_X7_areAlike
  have gx0 := hw.2.1 x (by omega)
  have gy0 := hw.2.1 y (by omega)
  have go := lp_any (F := fun k i => f_X7_areAlike_L3 N sc ar (iI x) (iI y) (iI n) (fun _ => some 1) k (iI (i : Int))) (fin := some 1) (r := fun _ => some 0) (P := fun k => ¬ (A 1 (x + k) - A 1 x = A 1 (y + k) - A 1 y ∧ (BD A mT ((x + k : Nat) : Int) ↔ BD A mT ((y + k : Nat) : Int)))) (n := n)
    (by
      intro k
      rw [f_X7_areAlike_L3, if_pos (le_iI (by omega) (by omega) (by omega))])
    (by
      intro k i hi
      have g1 := hw.2.1 (x + i) (by omega)
      have g2 := hw.2.1 (y + i) (by omega)
      have ex : iI (x : Int) + iI (i : Int) = iI ((x + i : Nat) : Int) := by rw [iI_add]; rfl
      have ey : iI (y : Int) + iI (i : Int) = iI ((y + i : Nat) : Int) := by rw [iI_add]; rfl
      have e : f_X7_areAlike_L3 N sc ar (iI x) (iI y) (iI n) (fun _ => some 1) (k + 1) (iI (i : Int)) = @ite _ (A 1 (x + i) - A 1 x = A 1 (y + i) - A 1 y ∧ (BD A mT ((x + i : Nat) : Int) ↔ BD A mT ((y + i : Nat) : Int))) (Classical.propDecidable _) (f_X7_areAlike_L3 N sc ar (iI x) (iI y) (iI n) (fun _ => some 1) k (iI ((i + 1 : Nat) : Int))) (some 0) := by
        rw [f_X7_areAlike_L3, if_neg (nle_iI (by omega) (by omega) (by omega)), ex, ey, if_neg (ob_nat (by omega) (by omega)), if_neg (ob_nat (by omega) (by omega)), if_neg (ob_nat (by omega) (by omega)), if_neg (ob_nat (by omega) (by omega)), ix_nat (show x < 2147483648 by omega), ix_nat (show y < 2147483648 by omega), ix_nat (show x + i < 2147483648 by omega), ix_nat (show y + i < 2147483648 by omega), h.2.1 x (by omega), h.2.1 y (by omega), h.2.1 (x + i) (by omega), h.2.1 (y + i) (by omega), iI_sub, iI_sub, x7_isBridged hN h hw (by omega), Option.bind_some, x7_isBridged hN h hw (by omega), Option.bind_some, iteeq (by omega) (by omega) (by omega) (by omega), iI_succ]
        by_cases c1 : A 1 (x + i) - A 1 x = A 1 (y + i) - A 1 y
        · rw [if_pos c1]
          by_cases c2 : (BD A mT ((x + i : Nat) : Int) ↔ BD A mT ((y + i : Nat) : Int))
          · rw [if_pos (bI_eq.mpr c2), cI_t ⟨by omega, c2⟩]
          · rw [if_neg (fun z => c2 (bI_eq.mp z)), cI_f (fun z => c2 z.2)]
        · rw [if_neg c1, cI_f (fun z => c1 z.1)]
      exact ⟨fun hp => by rw [e, cI_f hp], fun hp => by rw [e, cI_t (Classical.not_not.mp hp)]⟩)
    N 0 (by omega) (by omega)
  rcases go with ⟨j, -, j2, j3, -, e⟩ | ⟨j1, e⟩
  · refine (show _ = _ from e).trans ?_
    rw [bI_f]
    exact fun z => j3 (z j j2)
  · refine (show _ = _ from e).trans ?_
    rw [bI_t]
    exact fun k hk => Classical.not_not.mp (j1 k (by omega) hk)
theorem x1_isRepeated (hN : 100 ≤ N) (h : LA A s a t p q) (hw : WF A) {n x f e : Nat} (hn : 1 ≤ n) (hx : ((x + n : Nat) : Int) ≤ A 0 0) (he : ((e + n : Nat) : Int) ≤ A 0 0 + 1) (hf : f ≤ e) : f_X1_isRepeated N s a (iI x) (iI f) (iI e) (iI n) = some (bI (∃ c : Nat, f ≤ c ∧ c < e ∧ ALK A n x c)) := by
  have w0 := hw.1
  unfold f_X1_isRepeated
  have go := lp_any (F := fun k i => f_X1_isRepeated_L3 N s a (iI x) (iI e) (iI n) (fun _ => some 0) k (iI (i : Int))) (fin := some 0) (r := fun _ => some 1) (P := fun c => ALK A n x c) (n := e)
    (by
      intro k
      rw [f_X1_isRepeated_L3, if_pos (le_iI (by omega) (by omega) (by omega))])
    (by
      intro k i hi
      have e' : f_X1_isRepeated_L3 N s a (iI x) (iI e) (iI n) (fun _ => some 0) (k + 1) (iI (i : Int)) = @ite _ (ALK A n x i) (Classical.propDecidable _) (some 1) (f_X1_isRepeated_L3 N s a (iI x) (iI e) (iI n) (fun _ => some 0) k (iI ((i + 1 : Nat) : Int))) := by
        rw [f_X1_isRepeated_L3, if_neg (nle_iI (by omega) (by omega) (by omega)), x1_areAlike hN h hw hn hx (by omega), Option.bind_some, bI_ite, iI_succ]
      exact ⟨fun hp => by rw [e', cI_t hp], fun hp => by rw [e', cI_f hp]⟩)
    N f (by omega) (by omega)
  rcases go with ⟨j, j1, j2, j3, -, e'⟩ | ⟨j1, e'⟩
  · refine (show _ = _ from e').trans ?_
    rw [bI_t ⟨j, j1, j2, j3⟩]
  · refine (show _ = _ from e').trans ?_
    rw [bI_f]
    rintro ⟨c, c1, c2, c3⟩
    exact j1 c c1 c2 c3
theorem x1_unlike (hN : 100 ≤ N) (h : LA A s a t p q) (hw : WF A) {n m : Nat} (hn : 1 ≤ n) (hm : ((m + n : Nat) : Int) = A 0 0 + 1) : f_X1_unlikeStretches N s a (iI n) = some (iI (sumF (fun c => @ite _ (∃ c' : Nat, 0 ≤ c' ∧ c' < c ∧ ALK A n c c') (Classical.propDecidable _) 0 1) m)) := by
  have w0 := hw.1
  unfold f_X1_unlikeStretches
  exact lp_all (F := fun k i => f_X1_unlikeStretches_L4 N s a (iI n) (fun x => some x) k (iI (sumF (fun c => @ite _ (∃ c' : Nat, 0 ≤ c' ∧ c' < c ∧ ALK A n c c') (Classical.propDecidable _) 0 1) i)) (iI (i : Int))) (n := m)
    (by
      intro k
      rw [f_X1_unlikeStretches_L4, h.1.1, iI_add, if_pos (lt_iI (by omega) (by omega) (by omega))])
    (by
      intro k i hi
      have := x1_isRepeated hN h hw (n := n) (x := i) (f := 0) (e := i) hn (by omega) (by omega) (by omega)
      have e0 : f_X1_isRepeated N s a (iI i) 0 (iI i) (iI n) = _ := this
      rw [f_X1_unlikeStretches_L4, h.1.1, iI_add, if_neg (nlt_iI (by omega) (by omega) (by omega)), e0, Option.bind_some, bI_ite, iI_succ, iI_1s, sumF]
      by_cases c : ∃ c' : Nat, 0 ≤ c' ∧ c' < i ∧ ALK A n i c'
      · rw [cI_t c, cI_t c, Int.add_zero]
      · rw [cI_f c, cI_f c])
    N 0 (by omega) (by omega)
theorem x1_firstRep (hN : 100 ≤ N) (h : LA A s a t p q) (hw : WF A) {n m : Nat} (hn : 1 ≤ n) (hm : ((m + n : Nat) : Int) = A 0 0 + 1) : (∃ c : Nat, c < m ∧ (∃ c' : Nat, c + 1 ≤ c' ∧ c' < m ∧ ALK A n c c') ∧ (∀ d : Nat, d < c → ¬ ∃ c' : Nat, d + 1 ≤ c' ∧ c' < m ∧ ALK A n d c') ∧ f_X1_firstRepeated N s a (iI n) = some (iI c)) ∨ ((∀ d : Nat, d < m → ¬ ∃ c' : Nat, d + 1 ≤ c' ∧ c' < m ∧ ALK A n d c') ∧ f_X1_firstRepeated N s a (iI n) = some (-9)) := by
  have w0 := hw.1
  unfold f_X1_firstRepeated
  have go := lp_any (F := fun k i => f_X1_firstRepeated_L2 N s a (iI n) (fun _ => some (-9)) k (iI (i : Int))) (fin := some (-9)) (r := fun i => some (iI (i : Int))) (P := fun c => ∃ c' : Nat, c + 1 ≤ c' ∧ c' < m ∧ ALK A n c c') (n := m)
    (by
      intro k
      rw [f_X1_firstRepeated_L2, h.1.1, iI_add, if_pos (lt_iI (by omega) (by omega) (by omega))])
    (by
      intro k i hi
      have em : iI (A 0 0) - iI (n : Int) + 1 = iI (m : Int) := by rw [iI_sub, iI_1s]; congr 1; omega
      have e' : f_X1_firstRepeated_L2 N s a (iI n) (fun _ => some (-9)) (k + 1) (iI (i : Int)) = @ite _ (∃ c' : Nat, i + 1 ≤ c' ∧ c' < m ∧ ALK A n i c') (Classical.propDecidable _) (some (iI (i : Int))) (f_X1_firstRepeated_L2 N s a (iI n) (fun _ => some (-9)) k (iI ((i + 1 : Nat) : Int))) := by
        rw [f_X1_firstRepeated_L2, h.1.1, iI_add, if_neg (nlt_iI (by omega) (by omega) (by omega)), em, iI_succ, x1_isRepeated hN h hw (n := n) (x := i) (f := i + 1) (e := m) hn (by omega) (by omega) (by omega), Option.bind_some, bI_ite]
      exact ⟨fun hp => by rw [e', cI_t hp], fun hp => by rw [e', cI_f hp]⟩)
    N 0 (by omega) (by omega)
  rcases go with ⟨j, j1, j2, j3, j4, e'⟩ | ⟨j1, e'⟩
  · exact Or.inl ⟨j, j2, j3, fun d hd => j4 d (by omega) hd, e'⟩
  · exact Or.inr ⟨fun d hd => j1 d (by omega) hd, e'⟩
theorem x7_alike_in {β : Type} (hN : 100 ≤ N) (g : MA A sc ar) (hw : WF A) {n m x : Nat} (hn : 1 ≤ n) (hm : ((m + n : Nat) : Int) = A 0 0 + 1) (hx : x < m) {v2 v3 v4 : Int32} {kx : Int32 → Int32 → Option β} : f_X7_alike_L78 N sc ar (iI n) v2 v3 v4 (iI x) kx N 1 0 0 = kx (bI (¬ ∃ o : Nat, o < m ∧ o < x ∧ ALK A n x o)) (bI (∃ o : Nat, o < m ∧ o ≠ x ∧ ALK A n x o)) := by
  have w0 := hw.1
  have go := lp_all (F := fun k i => f_X7_alike_L78 N sc ar (iI n) v2 v3 v4 (iI x) kx k (bI (¬ ∃ o : Nat, o < i ∧ o < x ∧ ALK A n x o)) (bI (∃ o : Nat, o < i ∧ o ≠ x ∧ ALK A n x o)) (iI (i : Int))) (fin := kx (bI (¬ ∃ o : Nat, o < m ∧ o < x ∧ ALK A n x o)) (bI (∃ o : Nat, o < m ∧ o ≠ x ∧ ALK A n x o))) (n := m)
    (by
      intro k
      rw [f_X7_alike_L78, g.1.1, iI_add, if_pos (lt_iI (by omega) (by omega) (by omega))])
    (by
      intro k i hi
      have ej : (if iI (i : Int) = iI (x : Int) then some (0 : Int32) else ((f_X7_areAlike N sc ar (iI x) (iI i) (iI n)).bind fun r5 => some (if r5 = 0 then 0 else 1))) = some (bI (i ≠ x ∧ ALK A n x i)) := by
        rw [iteeq (by omega) (by omega) (by omega) (by omega)]
        by_cases c : i = x
        · rw [if_pos (by omega), bI_f (fun z => z.1 c)]
        · rw [if_neg (by omega), x7_areAlike hN g hw hn (by omega) (by omega), Option.bind_some, bI_n]
          exact congrArg some (bI_iff ⟨fun z => ⟨c, z⟩, fun z => z.2⟩)
      rw [f_X7_alike_L78, g.1.1, iI_add, if_neg (nlt_iI (by omega) (by omega) (by omega)), ej, Option.bind_some, iI_succ]
      congr 1
      · rw [itelt (by omega) (by omega) (by omega) (by omega), bI_ite, bI_ite]
        by_cases c1 : ∃ o : Nat, o < i ∧ o < x ∧ ALK A n x o
        · rw [cI_f (fun z => z c1), bI_f (fun z => z (by obtain ⟨o, o1, o2⟩ := c1; exact ⟨o, by omega, o2⟩))]
        · rw [cI_t c1]
          by_cases c2 : i ≠ x ∧ ALK A n x i
          · rw [cI_t c2]
            by_cases c3 : i < x
            · rw [if_pos (by omega), bI_f (fun z => z ⟨i, by omega, c3, c2.2⟩)]
            · rw [if_neg (by omega), bI_t]
              rintro ⟨o, o1, o2, o3⟩
              exact c1 ⟨o, by omega, o2, o3⟩
          · rw [cI_f c2, bI_t]
            rintro ⟨o, o1, o2, o3⟩
            by_cases e : o = i
            · subst e; exact c2 ⟨by omega, o3⟩
            · exact c1 ⟨o, by omega, o2, o3⟩
      · rw [bI_ite, bI_ite]
        by_cases c1 : ∃ o : Nat, o < i ∧ o ≠ x ∧ ALK A n x o
        · rw [cI_t c1, bI_t]
          obtain ⟨o, o1, o2⟩ := c1
          exact ⟨o, by omega, o2⟩
        · rw [cI_f c1]
          by_cases c2 : i ≠ x ∧ ALK A n x i
          · rw [cI_t c2, bI_t ⟨i, by omega, c2⟩]
          · rw [cI_f c2, bI_f]
            rintro ⟨o, o1, o2⟩
            by_cases e : o = i
            · subst e; exact c2 o2
            · exact c1 ⟨o, by omega, o2⟩)
    N 0 (by omega) (by omega)
  refine Eq.trans ?_ go
  have z1 : bI (¬ ∃ o : Nat, o < 0 ∧ o < x ∧ ALK A n x o) = 1 := bI_t (by rintro ⟨o, o1, -⟩; omega)
  have z2 : bI (∃ o : Nat, o < 0 ∧ o ≠ x ∧ ALK A n x o) = 0 := bI_f (by rintro ⟨o, o1, -⟩; omega)
  show _ = f_X7_alike_L78 N sc ar (iI n) v2 v3 v4 (iI x) kx N (bI (¬ ∃ o : Nat, o < 0 ∧ o < x ∧ ALK A n x o)) (bI (∃ o : Nat, o < 0 ∧ o ≠ x ∧ ALK A n x o)) 0
  rw [z1, z2]
theorem x7_alike_out {β : Type} (hN : 100 ≤ N) (g : MA A sc ar) (hw : WF A) {n m : Nat} (hn : 1 ≤ n) (hm : ((m + n : Nat) : Int) = A 0 0 + 1) {v2 : Int32} {kx : Int32 → Int32 → Option β} : f_X7_alike_L58 N sc ar (iI n) v2 kx N 0 (-9) 0 = kx (iI (sumF (fun c => @ite _ (∃ c' : Nat, 0 ≤ c' ∧ c' < c ∧ ALK A n c c') (Classical.propDecidable _) 0 1) m)) (fstF (fun c => ∃ o : Nat, o < m ∧ o ≠ c ∧ ALK A n c o) m) := by
  have w0 := hw.1
  exact lp_all (F := fun k i => f_X7_alike_L58 N sc ar (iI n) v2 kx k (iI (sumF (fun c => @ite _ (∃ c' : Nat, 0 ≤ c' ∧ c' < c ∧ ALK A n c c') (Classical.propDecidable _) 0 1) i)) (fstF (fun c => ∃ o : Nat, o < m ∧ o ≠ c ∧ ALK A n c o) i) (iI (i : Int))) (n := m)
    (by
      intro k
      rw [f_X7_alike_L58, g.1.1, iI_add, if_pos (lt_iI (by omega) (by omega) (by omega))])
    (by
      intro k i hi
      rw [f_X7_alike_L58, g.1.1, iI_add, if_neg (nlt_iI (by omega) (by omega) (by omega)), x7_alike_in hN g hw hn hm hi, bI_ite, bI_ite, iI_succ, sumF, fstF]
      congr 1
      by_cases c : ∃ c' : Nat, 0 ≤ c' ∧ c' < i ∧ ALK A n i c'
      · rw [cI_t c, cI_f (fun z => z (by obtain ⟨o, o1, o2, o3⟩ := c; exact ⟨o, by omega, o2, o3⟩)), iI_z, iI_add]
      · rw [cI_f c, cI_t, iI_1s]
        rintro ⟨o, o1, o2, o3⟩
        exact c ⟨o, by omega, o2, o3⟩)
    N 0 (by omega) (by omega)
theorem q_alike (hN : 100 ≤ N) (h : LA A s a t p q) (g : MA A sc ar) (hw : WF A) {x y : Int} (h1 : -2147483648 ≤ x ∧ x < 2147483648) (h2 : -2147483648 ≤ y ∧ y < 2147483648) : QRY id aX ar (f_X6_alike N aX s a (iI x) (iI y)) (f_X7_alike N sc ar (iI x) (iI y)) := by
  have w0 := hw.1
  have i2 : f_X7_in N (iI y) 0 1 = some (bI (0 ≤ y ∧ y ≤ 1)) := x7_in (b := 0) (c := 1) h2.1 h2.2 (by omega) (by omega) (by omega) (by omega)
  unfold f_X6_alike f_X7_alike
  rw [i2]
  simp only [x6_refused cod2, x7_no cod2, x6_refused cod4, x7_no cod4, x6_refused cod6, x7_no cod6, Option.bind_some, h.1.1, g.1.1]
  by_cases c1 : 1 ≤ x
  · simp only [if_pos (show 1 ≤ iI x from le_iI (a := 1) c1 (by omega) (by omega))]
    by_cases c2 : 8 < x
    · simp only [if_pos (show 8 < iI x from lt_iI (a := 8) c2 (by omega) (by omega))]
      exact Or.inr ⟨-6, cod6, rfl, rfl⟩
    simp only [if_neg (show ¬ 8 < iI x from nlt_iI (a := 8) (by omega) (by omega) (by omega))]
    by_cases c3 : x ≤ A 0 0
    · simp only [if_pos (show iI x ≤ iI (A 0 0) from le_iI c3 (by omega) (by omega))]
      obtain ⟨n, rfl⟩ : ∃ n : Nat, x = (n : Int) := ⟨x.toNat, by omega⟩
      obtain ⟨m, hm⟩ : ∃ m : Nat, ((m + n : Nat) : Int) = A 0 0 + 1 := ⟨(A 0 0 + 1 - n).toNat, by omega⟩
      by_cases c4 : 0 ≤ y ∧ y ≤ 1
      · rw [bI_t c4]
        simp only [if_neg one_ne]
        rw [x7_alike_out hN g hw (by omega) hm, x1_unlike hN h hw (by omega) hm, Option.bind_some]
        rcases (show y = 0 ∨ y = 1 by omega) with rfl | rfl
        · exact Or.inl ⟨_, rfl, rfl⟩
        · refine Or.inl ⟨fstF (fun c => ∃ o : Nat, o < m ∧ o ≠ c ∧ ALK A n c o) m, ?_, rfl⟩
          show ((f_X1_firstRepeated N s a (iI n)).bind fun r4 => some (r4, aX)) = _
          rcases fstF_ex (fun c => ∃ o : Nat, o < m ∧ o ≠ c ∧ ALK A n c o) m (by omega) with ⟨j, j1, ⟨o, o1, o2, o3⟩, j3, j4⟩ | ⟨j1, j2⟩
          · rw [j4]
            have hoj : j < o := by
              rcases Nat.lt_or_ge j o with c | c
              · exact c
              · exact absurd ⟨j, j1, fun e => o2 e.symm, ALK_sym o3⟩ (j3 o (by omega))
            rcases x1_firstRep hN h hw (n := n) (m := m) (by omega) hm with ⟨c, d1, ⟨c', d2, d3, d4⟩, d5, d6⟩ | ⟨d1, -⟩
            · rw [d6]
              have : c = j := by
                rcases Nat.lt_trichotomy c j with e | e | e
                · exact absurd ⟨c', d3, by omega, d4⟩ (j3 c e)
                · exact e
                · exact absurd ⟨o, hoj, o1, o3⟩ (d5 j e)
              rw [this]
              rfl
            · exact absurd ⟨o, hoj, o1, o3⟩ (d1 j j1)
          · rw [j2]
            rcases x1_firstRep hN h hw (n := n) (m := m) (by omega) hm with ⟨c, d1, ⟨c', d2, d3, d4⟩, d5, d6⟩ | ⟨d1, d2⟩
            · exact absurd ⟨c', d3, by omega, d4⟩ (j1 c d1)
            · rw [d2]; rfl
      · rw [bI_f c4]
        have e0 : ¬ iI y = 0 := by rw [iI_eq0 (by omega) (by omega)]; omega
        have e1 : ¬ iI y = 1 := by show ¬ iI y = iI 1; rw [iI_eq (by omega) (by omega) (by omega) (by omega)]; omega
        simp only [if_neg e0, if_neg e1]
        exact Or.inr ⟨-2, cod2, rfl, rfl⟩
    · simp only [if_neg (show ¬ iI x ≤ iI (A 0 0) from nle_iI (by omega) (by omega) (by omega))]
      exact Or.inr ⟨-6, cod6, rfl, rfl⟩
  · simp only [if_neg (show ¬ 1 ≤ iI x from nle_iI (a := 1) (by omega) (by omega) (by omega))]
    exact Or.inr ⟨-4, cod4, rfl, rfl⟩
def stp (d : Nat → Int) : Nat → Int × Int
  | 0 => (0, -1)
  | i + 1 => if d i ≤ (stp d i).2 then stp d i else ((i : Int), d i)
theorem stp_bd {d : Nat → Int} {n : Nat} (h : ∀ i, i < n → 0 ≤ d i ∧ d i ≤ 100) : -1 ≤ (stp d n).2 ∧ (stp d n).2 ≤ 100 := by
  induction n with
  | zero => show -1 ≤ (-1 : Int) ∧ (-1 : Int) ≤ 100; decide
  | succ n ih =>
    have h1 := ih (fun i hi => h i (by omega))
    have h2 := h n (by omega)
    rw [stp]
    by_cases c : d n ≤ (stp d n).2
    · rw [if_pos c]; exact h1
    · rw [if_neg c]; dsimp only; omega
theorem q_steepest (hN : 100 ≤ N) (h : LA A s a t p q) (g : MA A sc ar) (hw : WF A) {x : Int} (h1 : -2147483648 ≤ x ∧ x < 2147483648) : QRY id aX ar (f_X6_steepest N aX s a (iI x)) (f_X7_steepest N sc ar (iI x)) := by
  have w0 := hw.1
  unfold f_X6_steepest f_X7_steepest
  simp only [x6_refused cod4, x7_no cod4, x6_refused cod6, x7_no cod6, Option.bind_some, h.1.1, g.1.1]
  by_cases c1 : 2 ≤ x
  · simp only [if_pos (show 2 ≤ iI x from le_iI (a := 2) c1 (by omega) (by omega))]
    by_cases c2 : 8 < x
    · simp only [if_pos (show 8 < iI x from lt_iI (a := 8) c2 (by omega) (by omega))]
      exact Or.inr ⟨-6, cod6, rfl, rfl⟩
    simp only [if_neg (show ¬ 8 < iI x from nlt_iI (a := 8) (by omega) (by omega) (by omega))]
    by_cases c3 : x ≤ A 0 0
    · simp only [if_pos (show iI x ≤ iI (A 0 0) from le_iI c3 (by omega) (by omega))]
      obtain ⟨n, rfl⟩ : ∃ n : Nat, x = (n : Int) := ⟨x.toNat, by omega⟩
      obtain ⟨m, hm⟩ : ∃ m : Nat, ((m + n : Nat) : Int) = A 0 0 + 1 := ⟨(A 0 0 + 1 - n).toNat, by omega⟩
      have hd : ∀ i, i < m → 0 ≤ dst (A 1 (i + n - 1)) (A 1 i) ∧ dst (A 1 (i + n - 1)) (A 1 i) ≤ 100 := by
        intro i hi
        have g1 := hw.2.1 (i + n - 1) (by omega)
        have g2 := hw.2.1 i (by omega)
        have := dst_bd (x := A 1 (i + n - 1)) (y := A 1 i) (n := 31) (by omega) (by omega)
        omega
      refine Or.inl ⟨iI (stp (fun i => dst (A 1 (i + n - 1)) (A 1 i)) m).1, ?_, ?_⟩
      · exact lp_all (F := fun k i => f_X6_steepest_L43 N aX s a (iI n) (fun x2_4 => some (x2_4, aX)) k (iI (stp (fun i => dst (A 1 (i + n - 1)) (A 1 i)) i).1) (iI (stp (fun i => dst (A 1 (i + n - 1)) (A 1 i)) i).2) (iI (i : Int))) (n := m)
          (by
            intro k
            rw [f_X6_steepest_L43, h.1.1, iI_add, if_pos (lt_iI (by omega) (by omega) (by omega))])
          (by
            intro k i hi
            have g1 := hw.2.1 (i + n - 1) (by omega)
            have g2 := hw.2.1 i (by omega)
            have hb := stp_bd (d := fun i => dst (A 1 (i + n - 1)) (A 1 i)) (n := i) (fun j hj => hd j (by omega))
            have hdi := hd i hi
            have ei : iI ((i : Int) + n) - 1 = iI ((i + n - 1 : Nat) : Int) := by
              show iI _ - iI 1 = _
              rw [iI_sub]; congr 1; omega
            rw [f_X6_steepest_L43, h.1.1, iI_add, if_neg (nlt_iI (by omega) (by omega) (by omega)), ei, if_neg (ob_nat (by omega) (by omega)), if_neg (ob_nat (by omega) (by omega)), ix_nat (by omega), ix_nat (by omega), h.2.1 _ (by omega), h.2.1 _ (by omega), dst_I (by omega) (by omega), itele (by omega) (by omega) (by omega) (by omega), itele (by omega) (by omega) (by omega) (by omega), iI_succ, stp]
            by_cases c : dst (A 1 (i + n - 1)) (A 1 i) ≤ (stp (fun i => dst (A 1 (i + n - 1)) (A 1 i)) i).2
            · rw [if_pos c, if_pos c, if_pos c]
            · rw [if_neg c, if_neg c, if_neg c])
          N 0 (by omega) (by omega)
      · exact lp_all (F := fun k i => f_X7_steepest_L40 N sc ar (iI n) (fun x2_4 => some (x2_4, ar)) k (iI (stp (fun i => dst (A 1 (i + n - 1)) (A 1 i)) i).1) (iI (stp (fun i => dst (A 1 (i + n - 1)) (A 1 i)) i).2) (iI (i : Int))) (n := m)
          (by
            intro k
            rw [f_X7_steepest_L40, g.1.1, iI_add, if_pos (lt_iI (by omega) (by omega) (by omega))])
          (by
            intro k i hi
            have g1 := hw.2.1 (i + n - 1) (by omega)
            have g2 := hw.2.1 i (by omega)
            have hb := stp_bd (d := fun i => dst (A 1 (i + n - 1)) (A 1 i)) (n := i) (fun j hj => hd j (by omega))
            have hdi := hd i hi
            have ei : iI ((i : Int) + n) - 1 = iI ((i + n - 1 : Nat) : Int) := by
              show iI _ - iI 1 = _
              rw [iI_sub]; congr 1; omega
            rw [f_X7_steepest_L40, g.1.1, iI_add, if_neg (nlt_iI (by omega) (by omega) (by omega)), ei, if_neg (ob_nat (by omega) (by omega)), if_neg (ob_nat (by omega) (by omega)), ix_nat (by omega), ix_nat (by omega), g.2.1 _ (by omega), g.2.1 _ (by omega), dst_I (by omega) (by omega), itele (by omega) (by omega) (by omega) (by omega), itelt (by omega) (by omega) (by omega) (by omega), iI_succ, stp]
            by_cases c : dst (A 1 (i + n - 1)) (A 1 i) ≤ (stp (fun i => dst (A 1 (i + n - 1)) (A 1 i)) i).2
            · rw [if_pos c, if_neg (by omega), if_pos c]
            · rw [if_neg c, if_pos (by omega), if_neg c])
          N 0 (by omega) (by omega)
    · simp only [if_neg (show ¬ iI x ≤ iI (A 0 0) from nle_iI (by omega) (by omega) (by omega))]
      exact Or.inr ⟨-6, cod6, rfl, rfl⟩
  · simp only [if_neg (show ¬ 2 ≤ iI x from nle_iI (a := 2) (by omega) (by omega) (by omega))]
    exact Or.inr ⟨-4, cod4, rfl, rfl⟩
end PC17
