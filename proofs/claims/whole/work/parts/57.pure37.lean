-- ===== moved =====
section PC37
variable {N : Nat} {A : AS} {s : S1} {a t : S2} {p : S1} {q : S2} {sc : S1} {ar : S2} {aX ma : S2}
theorem x7_moves (hN : 10000000 ≤ N) (g : MA A sc ar) (hw : WF A) (hg : sc 25 = 0) {o : Nat → Nat} {n P : Nat} (hn : (n : Int) = A 0 0) (hP : (P : Int) = A 6 0) (ho : ∀ j, j < P → o j < P) (hin : ∀ j k, j < P → k < P → o j = o k → j = k) (hrk : ∀ j, j < P → rkF (A 7) P (o j) = (j : Int)) (hor : ∀ p, p < P → o (rkF (A 7) P p).toNat = p) : ∃ v ar', f_X7_moves N sc ar = some (v, ar') ∧ (∀ r, r ≠ 26 → r ≠ 27 → r ≠ 28 → r ≠ 29 → ar' r = ar r) ∧ BST A P (VAL (gdA A) o n P) v ar' := by
  have hN1 : 100 ≤ N := by omega
  have w0 := hw.1
  obtain ⟨a1, e1, f1, g1⟩ := x7_where (N := N) hN1 g hw hg hn hP
  have ga1 : MA A sc a1 := MA_cg g (fun _ _ => rfl) (fun r hr => f1 r (by omega))
  obtain ⟨a2, e2, f2, g2⟩ := x7_lines (N := N) hN1 ga1 hw hP ho hrk hor
  have hM : MST A o n P sc a2 := by
    refine ⟨⟨by omega, by omega, by rw [g.1.1, hn], by rw [g.1.2.2.1, hP]⟩, fun p hp => ⟨by rw [f2 26 (by decide)]; exact g1 p hp, ?_, ?_⟩, g2⟩
    · rw [f2 7 (by decide), f1 7 (by decide)]; exact (g.2.2.2.1 p (by omega)).1
    · have := hw.2.2.2.1 p (by omega); omega
  have hW : WW P n + 2 ≤ N - 1 := by
    have h1 := WW_le (r := P) (d := n) (by omega)
    have h2 : 25 ^ P ≤ 25 ^ 5 := Nat.pow_le_pow_right (by decide) (by omega)
    have h3 : 25 ^ 5 = 9765625 := by decide
    omega
  obtain ⟨N', rfl⟩ : ∃ z, N = z + 1 := ⟨N - 1, by omega⟩
  obtain ⟨m2, v, ar', b1, b2, b3, b4, b5⟩ := x7_dfs (N := N' + 1) (A := A) (sc := sc) (o := o) (n := n) (P := P) (kx := fun x1_24 t24 => some (x1_24, t24)) hN1 ho hin P 0 (by omega) n 0 N' 2 (N' + 1) (-9) a2 (fun _ => 0) (fun _ => False) (by omega) hM (fun j hj => absurd hj (by omega)) (fun j hj => absurd hj (by omega)) (fun h => absurd h (by omega)) (Or.inl ⟨rfl, fun _ h => h⟩) (fun _ h => absurd h (by simp)) (by omega) (by omega)
  refine ⟨v, ar', ?_, ?_, ?_⟩
  · unfold f_X7_moves
    rw [e1, Option.bind_some, e2, Option.bind_some, mv_18, if_neg one_ne]
    refine Eq.trans b2 ?_
    unfold bkF
    obtain ⟨m2, rfl⟩ : ∃ z, m2 = z + 1 := ⟨m2 - 1, by omega⟩
    rw [if_pos rfl, mv_18, if_pos rfl]
  · intro r h1 h2 h3 h4
    rw [b4 r h3 h4, f2 r h2, f1 r h1]
  · refine BST_iff b5 (fun pl => ?_)
    constructor
    · rintro (z | z)
      · exact absurd z (by simp)
      · exact z.1
    · intro z
      exact Or.inr ⟨z, fun j hj => absurd hj (by omega), fun _ => Nat.zero_le _⟩
theorem q_moved (hN : 10000000 ≤ N) (h : LA A s a t p q) (g : MA A sc ar) (hw : WF A) (hu : UQ A) (hg : sc 25 = 0) {z : Int} (hz : -2147483648 ≤ z ∧ z < 2147483648) : (∃ r ma' ar', f_X6_moved N aX ma s a t (iI z) = some (r, aX, ma') ∧ f_X7_moved N sc ar (iI z) = some (r, ar') ∧ MA A sc ar' ∧ (∀ j, j ≠ 26 → j ≠ 27 → j ≠ 28 → j ≠ 29 → ar' j = ar j)) ∨ (∃ c, cod c ∧ f_X6_moved N aX ma s a t (iI z) = some (c, rfA aX c, ma) ∧ f_X7_moved N sc ar (iI z) = some (c, noA ar c)) := by
  have hN1 : 100 ≤ N := by omega
  have w0 := hw.1
  have em1 : (-1 : Int32) = iI (-1) := by decide
  obtain ⟨n, hn⟩ : ∃ n : Nat, (n : Int) = A 0 0 := ⟨(A 0 0).toNat, by omega⟩
  obtain ⟨P, hP⟩ : ∃ P : Nat, (P : Int) = A 6 0 := ⟨(A 6 0).toNat, by omega⟩
  obtain ⟨o, ho, hin, hrk, hor⟩ := ord_ex (a := A 7) (P := P) (fun i j hi hj e => hu i j (by omega) (by omega) e)
  have e6 : sc 6 - 1 = iI ((P : Int) - 1) := by rw [g.1.2.2.1, hP]; exact iI_sub _ 1
  have i2 : f_X7_in N (iI z) (-1) (sc 6 - 1) = some (bI (-1 ≤ z ∧ z ≤ (P : Int) - 1)) := by
    rw [e6, em1]
    exact x7_in hz.1 hz.2 (by omega) (by omega) (by omega) (by omega)
  have ez : iI z = -1 ↔ z = -1 := by rw [em1, iI_eq (by omega) (by omega) (by omega) (by omega)]
  unfold f_X6_moved f_X7_moved
  rw [i2, x1_hasPost h hw hz.1 hz.2]
  simp only [Option.bind_some]
  by_cases hr : -1 ≤ z ∧ z ≤ (P : Int) - 1
  · rw [bI_t hr]
    simp only [if_neg one_ne]
    obtain ⟨v, ar', m1, m2, m3⟩ := x7_moves (N := N) hN g hw hg hn hP ho hin hrk hor
    rw [m1]
    simp only [Option.bind_some]
    have g' : MA A sc ar' := MA_cg g (fun _ _ => rfl) (fun r hr => m2 r (by omega) (by omega) (by omega) (by omega))
    obtain ⟨x1, x2⟩ := x2_answer (N := N) (ma := ma) hN1 h hw hn hP ho hin hrk hor
    rcases m3 with ⟨q1, q2⟩ | ⟨b, q1, q2, q3, q4⟩
    · obtain ⟨ma', e1⟩ := x1 q2 (iI z)
      refine Or.inl ⟨-9, ma', ar', ?_, ?_, g', m2⟩
      · by_cases c : z = -1
        · rw [if_pos (ez.2 c), e1]; rfl
        · rw [if_neg (fun w => c (ez.1 w)), bI_t (by omega), if_neg one_ne, e1]; rfl
      · rw [q1, if_pos rfl, Option.bind_some, ite_self]; rfl
    · obtain ⟨y1, y2⟩ := x2 b ⟨q1, q4⟩
      have sb := SM_lt (hw := hw) hn hP q1
      by_cases c : z = -1
      · subst c
        obtain ⟨ma', e1⟩ := y1
        refine Or.inl ⟨v, ma', ar', ?_, ?_, g', m2⟩
        · rw [if_pos (ez.2 rfl), ← em1, e1, q2]; rfl
        · rw [if_pos (by rw [iI_lt0 (by omega) (by omega)]; omega)]; rfl
      · obtain ⟨k, rfl⟩ : ∃ k : Nat, z = (k : Int) := ⟨z.toNat, by omega⟩
        obtain ⟨ma', e1⟩ := y2 k (by omega)
        have nv : ¬ v = -9 := by rw [q2, show (-9 : Int32) = iI (-9) by decide, iI_eq (by omega) (by omega) (by omega) (by omega)]; omega
        refine Or.inl ⟨iI (b k), ma', ar', ?_, ?_, g', m2⟩
        · rw [if_neg (fun w => c (ez.1 w)), bI_t (by omega), if_neg one_ne, e1]; rfl
        · rw [if_neg (by rw [iI_lt0 (by omega) (by omega)]; omega), if_neg nv, if_neg (ob_nat (show k < 5 by omega) (by omega)), ix_nat (by omega), q3 k (by omega)]; rfl
  · rw [bI_f hr, bI_f (by omega)]
    simp only [if_true, x7_no cod1, x6_refused cod1, Option.bind_some, if_neg (fun w => (show ¬ z = -1 by omega) (ez.1 w))]
    exact Or.inr ⟨-1, cod1, rfl, rfl⟩
end PC37
