-- ===== keeping and bringing back =====
theorem lp_inv {R σ : Type} {F : Nat → Nat → σ → Option R} {I : Nat → σ → Prop} {kx : σ → Option R} {n : Nat} (he : ∀ k s, I n s → F (k + 1) n s = kx s) (hs : ∀ k i s, i < n → I i s → ∃ s', I (i + 1) s' ∧ F (k + 1) i s = F k (i + 1) s') : ∀ k i s, i ≤ n → n < i + k → I i s → ∃ s', I n s' ∧ F k i s = kx s' := by
  intro k
  induction k with
  | zero => intro i s h1 h2; omega
  | succ k ih =>
    intro i s h1 h2 hI
    by_cases h : i = n
    · subst h; exact ⟨s, hI, he k s hI⟩
    · obtain ⟨s', a, b⟩ := hs k i s (by omega) hI
      obtain ⟨s2, c, d⟩ := ih (i + 1) s' (by omega) (by omega) a
      exact ⟨s2, c, b.trans d⟩
def KP (sc : S1) (ar : S2) (K : Nat → Int32) : Prop := (∀ i, i < 24 → K i = ar 1 i) ∧ (∀ i, i < 4 → K (24 + i) = ar 3 i ∧ K (28 + i) = ar 4 i ∧ K (32 + i) = ar 5 i ∧ K (36 + i) = ar 10 i ∧ K (40 + i) = ar 11 i ∧ K (44 + i) = ar 12 i ∧ K (48 + i) = ar 13 i) ∧ (∀ i, i < 5 → K (52 + i) = ar 7 i ∧ K (57 + i) = ar 8 i) ∧ (∀ i, i < 56 → K (62 + i) = ar 16 i) ∧ (∀ i, i < 8 → K (118 + i) = ar 17 i ∧ K (126 + i) = ar 18 i) ∧ (K 134 = sc 0 ∧ K 135 = sc 2 ∧ K 136 = sc 6 ∧ K 137 = sc 9 ∧ K 138 = sc 14 ∧ K 139 = sc 15)
def KZ23 (sc : S1) (t5 : S2) : Option S2 := (if oob (134 : Int32) 150 then none else (if oob (135 : Int32) 150 then none else (if oob (136 : Int32) 150 then none else (if oob (137 : Int32) 150 then none else (if oob (138 : Int32) 150 then none else (if oob (139 : Int32) 150 then none else (some (va_up (va_up (va_up (va_up (va_up (va_up t5 23 (upd (t5 23) (ix 134) (sc 0))) 23 (upd (upd (t5 23) (ix 134) (sc 0)) (ix 135) (sc 2))) 23 (upd (upd (upd (t5 23) (ix 134) (sc 0)) (ix 135) (sc 2)) (ix 136) (sc 6))) 23 (upd (upd (upd (upd (t5 23) (ix 134) (sc 0)) (ix 135) (sc 2)) (ix 136) (sc 6)) (ix 137) (sc 9))) 23 (upd (upd (upd (upd (upd (t5 23) (ix 134) (sc 0)) (ix 135) (sc 2)) (ix 136) (sc 6)) (ix 137) (sc 9)) (ix 138) (sc 14))) 23 (upd (upd (upd (upd (upd (upd (t5 23) (ix 134) (sc 0)) (ix 135) (sc 2)) (ix 136) (sc 6)) (ix 137) (sc 9)) (ix 138) (sc 14)) (ix 139) (sc 15))))))))))
theorem keeps_23 {N : Nat} (hN : 100 ≤ N) {sc : S1} {ar : S2} : ∃ K : Nat → Int32, f_X7_keeps_23 N sc ar = some (va_up ar 23 K) ∧ KP sc ar K := by
  unfold f_X7_keeps_23
  have b0 : va_up ar 23 (ar 23) = ar := vu_self ar 23
  obtain ⟨K1, i1, e1⟩ := lp_inv (R := S2) (F := fun k i K => f_X7_keeps_23_L2 N sc (fun t1 => (f_X7_keeps_23_L25 N sc (fun t2 => (f_X7_keeps_23_L122 N sc (fun t3 => (f_X7_keeps_23_L159 N sc (fun t4 => (f_X7_keeps_23_L185 N sc (fun t5 => KZ23 sc t5) N 0 t4)) N 0 t3)) N 0 t2)) N 0 t1)) k (iI (i : Int)) (va_up ar 23 K)) (I := fun i K => ∀ j, j < i → K j = ar 1 j) (kx := fun K => f_X7_keeps_23_L25 N sc (fun t2 => (f_X7_keeps_23_L122 N sc (fun t3 => (f_X7_keeps_23_L159 N sc (fun t4 => (f_X7_keeps_23_L185 N sc (fun t5 => KZ23 sc t5) N 0 t4)) N 0 t3)) N 0 t2)) N 0 (va_up ar 23 K)) (n := 24)
    (by
      intro k K _
      rw [f_X7_keeps_23_L2, if_pos (by show iI 24 ≤ iI ((24 : Nat) : Int); exact le_iI (by omega) (by omega) (by omega))])
    (by
      intro k i K hi hI
      refine ⟨upd K i (ar 1 i), ?_, ?_⟩
      · intro j hj
        by_cases e : j = i
        · rw [e, ud_eq]
        · rw [ud_ne e]; exact hI j (by omega)
      · rw [f_X7_keeps_23_L2, if_neg (by show ¬ iI 24 ≤ iI (i : Int); exact nle_iI (by omega) (by omega) (by omega)), if_neg (ob_nat (by omega) (by omega)), if_neg (ob_nat (by omega) (by omega)), ix_nat (by omega), iI_succ, vu_eq, vu_vu, vu_ne (by decide)])
    N 0 (ar 23) (by omega) (by omega) (fun j hj => absurd hj (by omega))
  rw [b0] at e1
  have e1' : f_X7_keeps_23_L2 N sc _ N 0 ar = _ := e1
  obtain ⟨K2, i2, e2⟩ := lp_inv (R := S2) (F := fun k i K => f_X7_keeps_23_L25 N sc (fun t2 => (f_X7_keeps_23_L122 N sc (fun t3 => (f_X7_keeps_23_L159 N sc (fun t4 => (f_X7_keeps_23_L185 N sc (fun t5 => KZ23 sc t5) N 0 t4)) N 0 t3)) N 0 t2)) k (iI (i : Int)) (va_up ar 23 K)) (I := fun i K => (∀ j, j < 24 → K j = ar 1 j) ∧ ∀ j, j < i → K (24 + j) = ar 3 j ∧ K (28 + j) = ar 4 j ∧ K (32 + j) = ar 5 j ∧ K (36 + j) = ar 10 j ∧ K (40 + j) = ar 11 j ∧ K (44 + j) = ar 12 j ∧ K (48 + j) = ar 13 j) (kx := fun K => f_X7_keeps_23_L122 N sc (fun t3 => (f_X7_keeps_23_L159 N sc (fun t4 => (f_X7_keeps_23_L185 N sc (fun t5 => KZ23 sc t5) N 0 t4)) N 0 t3)) N 0 (va_up ar 23 K)) (n := 4)
    (by
      intro k K _
      rw [f_X7_keeps_23_L25, if_pos (by show iI 4 ≤ iI ((4 : Nat) : Int); exact le_iI (by omega) (by omega) (by omega))])
    (by
      intro k i K hi hI
      have o1 : ¬ oob (iI (i : Int)) 4 := ob_nat (by omega) (by omega)
      refine ⟨upd (upd (upd (upd (upd (upd (upd K (24 + i) (ar 3 i)) (28 + i) (ar 4 i)) (32 + i) (ar 5 i)) (36 + i) (ar 10 i)) (40 + i) (ar 11 i)) (44 + i) (ar 12 i)) (48 + i) (ar 13 i), ⟨?_, ?_⟩, ?_⟩
      · intro j hj
        simp (disch := omega) only [ud_ne]; exact hI.1 j hj
      · intro j hj
        by_cases e : j = i
        · subst e; simp (disch := omega) only [ud_ne, ud_eq, and_self]
        · simp (disch := omega) only [ud_ne]; exact hI.2 j (by omega)
      · rw [f_X7_keeps_23_L25, if_neg (by show ¬ iI 4 ≤ iI (i : Int); exact nle_iI (by omega) (by omega) (by omega))]
        have a1 : (24 : Int32) + iI (i : Int) = iI ((24 + i : Nat) : Int) := by show iI 24 + iI (i : Int) = _; rw [iI_add]; rfl
        have a2 : (28 : Int32) + iI (i : Int) = iI ((28 + i : Nat) : Int) := by show iI 28 + iI (i : Int) = _; rw [iI_add]; rfl
        have a3 : (32 : Int32) + iI (i : Int) = iI ((32 + i : Nat) : Int) := by show iI 32 + iI (i : Int) = _; rw [iI_add]; rfl
        have a4 : (36 : Int32) + iI (i : Int) = iI ((36 + i : Nat) : Int) := by show iI 36 + iI (i : Int) = _; rw [iI_add]; rfl
        have a5 : (40 : Int32) + iI (i : Int) = iI ((40 + i : Nat) : Int) := by show iI 40 + iI (i : Int) = _; rw [iI_add]; rfl
        have a6 : (44 : Int32) + iI (i : Int) = iI ((44 + i : Nat) : Int) := by show iI 44 + iI (i : Int) = _; rw [iI_add]; rfl
        have a7 : (48 : Int32) + iI (i : Int) = iI ((48 + i : Nat) : Int) := by show iI 48 + iI (i : Int) = _; rw [iI_add]; rfl
        simp only [a1, a2, a3, a4, a5, a6, a7, if_neg o1, if_neg (ob_nat (i := 24 + i) (n := 150) (by omega) (by omega)), if_neg (ob_nat (i := 28 + i) (n := 150) (by omega) (by omega)), if_neg (ob_nat (i := 32 + i) (n := 150) (by omega) (by omega)), if_neg (ob_nat (i := 36 + i) (n := 150) (by omega) (by omega)), if_neg (ob_nat (i := 40 + i) (n := 150) (by omega) (by omega)), if_neg (ob_nat (i := 44 + i) (n := 150) (by omega) (by omega)), if_neg (ob_nat (i := 48 + i) (n := 150) (by omega) (by omega)), ix_nat (show i < 2147483648 by omega), ix_nat (show 24 + i < 2147483648 by omega), ix_nat (show 28 + i < 2147483648 by omega), ix_nat (show 32 + i < 2147483648 by omega), ix_nat (show 36 + i < 2147483648 by omega), ix_nat (show 40 + i < 2147483648 by omega), ix_nat (show 44 + i < 2147483648 by omega), ix_nat (show 48 + i < 2147483648 by omega), iI_succ, vu_eq, vu_vu, vu_ne (show (3 : Nat) ≠ 23 by decide), vu_ne (show (4 : Nat) ≠ 23 by decide), vu_ne (show (5 : Nat) ≠ 23 by decide), vu_ne (show (10 : Nat) ≠ 23 by decide), vu_ne (show (11 : Nat) ≠ 23 by decide), vu_ne (show (12 : Nat) ≠ 23 by decide), vu_ne (show (13 : Nat) ≠ 23 by decide)])
    N 0 K1 (by omega) (by omega) ⟨i1, fun j hj => absurd hj (by omega)⟩
  have e2' : f_X7_keeps_23_L25 N sc _ N 0 (va_up ar 23 K1) = _ := e2
  obtain ⟨K3, i3, e3⟩ := lp_inv (R := S2) (F := fun k i K => f_X7_keeps_23_L122 N sc (fun t3 => (f_X7_keeps_23_L159 N sc (fun t4 => (f_X7_keeps_23_L185 N sc (fun t5 => KZ23 sc t5) N 0 t4)) N 0 t3)) k (iI (i : Int)) (va_up ar 23 K)) (I := fun i K => (∀ j, j < 52 → K j = K2 j) ∧ ∀ j, j < i → K (52 + j) = ar 7 j ∧ K (57 + j) = ar 8 j) (kx := fun K => f_X7_keeps_23_L159 N sc (fun t4 => (f_X7_keeps_23_L185 N sc (fun t5 => KZ23 sc t5) N 0 t4)) N 0 (va_up ar 23 K)) (n := 5)
    (by
      intro k K _
      rw [f_X7_keeps_23_L122, if_pos (by show iI 5 ≤ iI ((5 : Nat) : Int); exact le_iI (by omega) (by omega) (by omega))])
    (by
      intro k i K hi hI
      have o1 : ¬ oob (iI (i : Int)) 5 := ob_nat (by omega) (by omega)
      refine ⟨upd (upd K (52 + i) (ar 7 i)) (57 + i) (ar 8 i), ⟨?_, ?_⟩, ?_⟩
      · intro j hj
        simp (disch := omega) only [ud_ne]; exact hI.1 j hj
      · intro j hj
        by_cases e : j = i
        · subst e; simp (disch := omega) only [ud_ne, ud_eq, and_self]
        · simp (disch := omega) only [ud_ne]; exact hI.2 j (by omega)
      · rw [f_X7_keeps_23_L122, if_neg (by show ¬ iI 5 ≤ iI (i : Int); exact nle_iI (by omega) (by omega) (by omega))]
        have a1 : (52 : Int32) + iI (i : Int) = iI ((52 + i : Nat) : Int) := by show iI 52 + iI (i : Int) = _; rw [iI_add]; rfl
        have a2 : (57 : Int32) + iI (i : Int) = iI ((57 + i : Nat) : Int) := by show iI 57 + iI (i : Int) = _; rw [iI_add]; rfl
        simp only [a1, a2, if_neg o1, if_neg (ob_nat (i := 52 + i) (n := 150) (by omega) (by omega)), if_neg (ob_nat (i := 57 + i) (n := 150) (by omega) (by omega)), ix_nat (show i < 2147483648 by omega), ix_nat (show 52 + i < 2147483648 by omega), ix_nat (show 57 + i < 2147483648 by omega), iI_succ, vu_eq, vu_vu, vu_ne (show (7 : Nat) ≠ 23 by decide), vu_ne (show (8 : Nat) ≠ 23 by decide)])
    N 0 K2 (by omega) (by omega) ⟨fun _ _ => rfl, fun j hj => absurd hj (by omega)⟩
  have e3' : f_X7_keeps_23_L122 N sc _ N 0 (va_up ar 23 K2) = _ := e3
  obtain ⟨K4, i4, e4⟩ := lp_inv (R := S2) (F := fun k i K => f_X7_keeps_23_L159 N sc (fun t4 => (f_X7_keeps_23_L185 N sc (fun t5 => KZ23 sc t5) N 0 t4)) k (iI (i : Int)) (va_up ar 23 K)) (I := fun i K => (∀ j, j < 62 → K j = K3 j) ∧ ∀ j, j < i → K (62 + j) = ar 16 j) (kx := fun K => f_X7_keeps_23_L185 N sc (fun t5 => KZ23 sc t5) N 0 (va_up ar 23 K)) (n := 56)
    (by
      intro k K _
      rw [f_X7_keeps_23_L159, if_pos (by show iI 56 ≤ iI ((56 : Nat) : Int); exact le_iI (by omega) (by omega) (by omega))])
    (by
      intro k i K hi hI
      have o1 : ¬ oob (iI (i : Int)) 56 := ob_nat (by omega) (by omega)
      refine ⟨upd K (62 + i) (ar 16 i), ⟨?_, ?_⟩, ?_⟩
      · intro j hj
        rw [ud_ne (by omega)]; exact hI.1 j hj
      · intro j hj
        by_cases e : j = i
        · subst e; rw [ud_eq]
        · rw [ud_ne (by omega)]; exact hI.2 j (by omega)
      · rw [f_X7_keeps_23_L159, if_neg (by show ¬ iI 56 ≤ iI (i : Int); exact nle_iI (by omega) (by omega) (by omega))]
        have a1 : (62 : Int32) + iI (i : Int) = iI ((62 + i : Nat) : Int) := by show iI 62 + iI (i : Int) = _; rw [iI_add]; rfl
        simp only [a1, if_neg o1, if_neg (ob_nat (i := 62 + i) (n := 150) (by omega) (by omega)), ix_nat (show i < 2147483648 by omega), ix_nat (show 62 + i < 2147483648 by omega), iI_succ, vu_eq, vu_vu, vu_ne (show (16 : Nat) ≠ 23 by decide)])
    N 0 K3 (by omega) (by omega) ⟨fun _ _ => rfl, fun j hj => absurd hj (by omega)⟩
  have e4' : f_X7_keeps_23_L159 N sc _ N 0 (va_up ar 23 K3) = _ := e4
  obtain ⟨K5, i5, e5⟩ := lp_inv (R := S2) (F := fun k i K => f_X7_keeps_23_L185 N sc (fun t5 => KZ23 sc t5) k (iI (i : Int)) (va_up ar 23 K)) (I := fun i K => (∀ j, j < 118 → K j = K4 j) ∧ ∀ j, j < i → K (118 + j) = ar 17 j ∧ K (126 + j) = ar 18 j) (kx := fun K => KZ23 sc (va_up ar 23 K)) (n := 8)
    (by
      intro k K _
      rw [f_X7_keeps_23_L185, if_pos (by show iI 8 ≤ iI ((8 : Nat) : Int); exact le_iI (by omega) (by omega) (by omega))])
    (by
      intro k i K hi hI
      have o1 : ¬ oob (iI (i : Int)) 8 := ob_nat (by omega) (by omega)
      refine ⟨upd (upd K (118 + i) (ar 17 i)) (126 + i) (ar 18 i), ⟨?_, ?_⟩, ?_⟩
      · intro j hj
        simp (disch := omega) only [ud_ne]; exact hI.1 j hj
      · intro j hj
        by_cases e : j = i
        · subst e; simp (disch := omega) only [ud_ne, ud_eq, and_self]
        · simp (disch := omega) only [ud_ne]; exact hI.2 j (by omega)
      · rw [f_X7_keeps_23_L185, if_neg (by show ¬ iI 8 ≤ iI (i : Int); exact nle_iI (by omega) (by omega) (by omega))]
        have a1 : (118 : Int32) + iI (i : Int) = iI ((118 + i : Nat) : Int) := by show iI 118 + iI (i : Int) = _; rw [iI_add]; rfl
        have a2 : (126 : Int32) + iI (i : Int) = iI ((126 + i : Nat) : Int) := by show iI 126 + iI (i : Int) = _; rw [iI_add]; rfl
        simp only [a1, a2, if_neg o1, if_neg (ob_nat (i := 118 + i) (n := 150) (by omega) (by omega)), if_neg (ob_nat (i := 126 + i) (n := 150) (by omega) (by omega)), ix_nat (show i < 2147483648 by omega), ix_nat (show 118 + i < 2147483648 by omega), ix_nat (show 126 + i < 2147483648 by omega), iI_succ, vu_eq, vu_vu, vu_ne (show (17 : Nat) ≠ 23 by decide), vu_ne (show (18 : Nat) ≠ 23 by decide)])
    N 0 K4 (by omega) (by omega) ⟨fun _ _ => rfl, fun j hj => absurd hj (by omega)⟩
  have e5' : f_X7_keeps_23_L185 N sc _ N 0 (va_up ar 23 K4) = _ := e5
  refine ⟨upd (upd (upd (upd (upd (upd K5 134 (sc 0)) 135 (sc 2)) 136 (sc 6)) 137 (sc 9)) 138 (sc 14)) 139 (sc 15), ?_, ?_⟩
  · refine (show _ = _ from e1').trans ((show _ = _ from e2').trans ((show _ = _ from e3').trans ((show _ = _ from e4').trans ((show _ = _ from e5').trans ?_))))
    unfold KZ23
    simp only [if_neg (show ¬ oob (134 : Int32) 150 by decide), if_neg (show ¬ oob (135 : Int32) 150 by decide), if_neg (show ¬ oob (136 : Int32) 150 by decide), if_neg (show ¬ oob (137 : Int32) 150 by decide), if_neg (show ¬ oob (138 : Int32) 150 by decide), if_neg (show ¬ oob (139 : Int32) 150 by decide), vu_eq, vu_vu]
    rfl
  · refine ⟨?_, ?_, ?_, ?_, ?_, ?_⟩
    · intro j hj
      simp (disch := omega) only [ud_ne]
      rw [i5.1 j (by omega), i4.1 j (by omega), i3.1 j (by omega)]
      exact i2.1 j hj
    · intro j hj
      simp (disch := omega) only [ud_ne]
      rw [i5.1 _ (by omega), i5.1 _ (by omega), i5.1 _ (by omega), i5.1 _ (by omega), i5.1 _ (by omega), i5.1 _ (by omega), i5.1 _ (by omega), i4.1 _ (by omega), i4.1 _ (by omega), i4.1 _ (by omega), i4.1 _ (by omega), i4.1 _ (by omega), i4.1 _ (by omega), i4.1 _ (by omega), i3.1 _ (by omega), i3.1 _ (by omega), i3.1 _ (by omega), i3.1 _ (by omega), i3.1 _ (by omega), i3.1 _ (by omega), i3.1 _ (by omega)]
      exact i2.2 j hj
    · intro j hj
      simp (disch := omega) only [ud_ne]
      rw [i5.1 _ (by omega), i5.1 _ (by omega), i4.1 _ (by omega), i4.1 _ (by omega)]
      exact i3.2 j hj
    · intro j hj
      simp (disch := omega) only [ud_ne]
      rw [i5.1 _ (by omega)]
      exact i4.2 j hj
    · intro j hj
      simp (disch := omega) only [ud_ne]
      exact i5.2 j hj
    · simp (disch := decide) only [ud_ne, ud_eq, and_self]
def KZ22 (sc : S1) (t5 : S2) : Option S2 := (if oob (134 : Int32) 150 then none else (if oob (135 : Int32) 150 then none else (if oob (136 : Int32) 150 then none else (if oob (137 : Int32) 150 then none else (if oob (138 : Int32) 150 then none else (if oob (139 : Int32) 150 then none else (some (va_up (va_up (va_up (va_up (va_up (va_up t5 22 (upd (t5 22) (ix 134) (sc 0))) 22 (upd (upd (t5 22) (ix 134) (sc 0)) (ix 135) (sc 2))) 22 (upd (upd (upd (t5 22) (ix 134) (sc 0)) (ix 135) (sc 2)) (ix 136) (sc 6))) 22 (upd (upd (upd (upd (t5 22) (ix 134) (sc 0)) (ix 135) (sc 2)) (ix 136) (sc 6)) (ix 137) (sc 9))) 22 (upd (upd (upd (upd (upd (t5 22) (ix 134) (sc 0)) (ix 135) (sc 2)) (ix 136) (sc 6)) (ix 137) (sc 9)) (ix 138) (sc 14))) 22 (upd (upd (upd (upd (upd (upd (t5 22) (ix 134) (sc 0)) (ix 135) (sc 2)) (ix 136) (sc 6)) (ix 137) (sc 9)) (ix 138) (sc 14)) (ix 139) (sc 15))))))))))
theorem keeps_22 {N : Nat} (hN : 100 ≤ N) {sc : S1} {ar : S2} : ∃ K : Nat → Int32, f_X7_keeps_22 N sc ar = some (va_up ar 22 K) ∧ KP sc ar K := by
  unfold f_X7_keeps_22
  have b0 : va_up ar 22 (ar 22) = ar := vu_self ar 22
  obtain ⟨K1, i1, e1⟩ := lp_inv (R := S2) (F := fun k i K => f_X7_keeps_22_L2 N sc (fun t1 => (f_X7_keeps_22_L25 N sc (fun t2 => (f_X7_keeps_22_L122 N sc (fun t3 => (f_X7_keeps_22_L159 N sc (fun t4 => (f_X7_keeps_22_L185 N sc (fun t5 => KZ22 sc t5) N 0 t4)) N 0 t3)) N 0 t2)) N 0 t1)) k (iI (i : Int)) (va_up ar 22 K)) (I := fun i K => ∀ j, j < i → K j = ar 1 j) (kx := fun K => f_X7_keeps_22_L25 N sc (fun t2 => (f_X7_keeps_22_L122 N sc (fun t3 => (f_X7_keeps_22_L159 N sc (fun t4 => (f_X7_keeps_22_L185 N sc (fun t5 => KZ22 sc t5) N 0 t4)) N 0 t3)) N 0 t2)) N 0 (va_up ar 22 K)) (n := 24)
    (by
      intro k K _
      rw [f_X7_keeps_22_L2, if_pos (by show iI 24 ≤ iI ((24 : Nat) : Int); exact le_iI (by omega) (by omega) (by omega))])
    (by
      intro k i K hi hI
      refine ⟨upd K i (ar 1 i), ?_, ?_⟩
      · intro j hj
        by_cases e : j = i
        · rw [e, ud_eq]
        · rw [ud_ne e]; exact hI j (by omega)
      · rw [f_X7_keeps_22_L2, if_neg (by show ¬ iI 24 ≤ iI (i : Int); exact nle_iI (by omega) (by omega) (by omega)), if_neg (ob_nat (by omega) (by omega)), if_neg (ob_nat (by omega) (by omega)), ix_nat (by omega), iI_succ, vu_eq, vu_vu, vu_ne (by decide)])
    N 0 (ar 22) (by omega) (by omega) (fun j hj => absurd hj (by omega))
  rw [b0] at e1
  have e1' : f_X7_keeps_22_L2 N sc _ N 0 ar = _ := e1
  obtain ⟨K2, i2, e2⟩ := lp_inv (R := S2) (F := fun k i K => f_X7_keeps_22_L25 N sc (fun t2 => (f_X7_keeps_22_L122 N sc (fun t3 => (f_X7_keeps_22_L159 N sc (fun t4 => (f_X7_keeps_22_L185 N sc (fun t5 => KZ22 sc t5) N 0 t4)) N 0 t3)) N 0 t2)) k (iI (i : Int)) (va_up ar 22 K)) (I := fun i K => (∀ j, j < 24 → K j = ar 1 j) ∧ ∀ j, j < i → K (24 + j) = ar 3 j ∧ K (28 + j) = ar 4 j ∧ K (32 + j) = ar 5 j ∧ K (36 + j) = ar 10 j ∧ K (40 + j) = ar 11 j ∧ K (44 + j) = ar 12 j ∧ K (48 + j) = ar 13 j) (kx := fun K => f_X7_keeps_22_L122 N sc (fun t3 => (f_X7_keeps_22_L159 N sc (fun t4 => (f_X7_keeps_22_L185 N sc (fun t5 => KZ22 sc t5) N 0 t4)) N 0 t3)) N 0 (va_up ar 22 K)) (n := 4)
    (by
      intro k K _
      rw [f_X7_keeps_22_L25, if_pos (by show iI 4 ≤ iI ((4 : Nat) : Int); exact le_iI (by omega) (by omega) (by omega))])
    (by
      intro k i K hi hI
      have o1 : ¬ oob (iI (i : Int)) 4 := ob_nat (by omega) (by omega)
      refine ⟨upd (upd (upd (upd (upd (upd (upd K (24 + i) (ar 3 i)) (28 + i) (ar 4 i)) (32 + i) (ar 5 i)) (36 + i) (ar 10 i)) (40 + i) (ar 11 i)) (44 + i) (ar 12 i)) (48 + i) (ar 13 i), ⟨?_, ?_⟩, ?_⟩
      · intro j hj
        simp (disch := omega) only [ud_ne]; exact hI.1 j hj
      · intro j hj
        by_cases e : j = i
        · subst e; simp (disch := omega) only [ud_ne, ud_eq, and_self]
        · simp (disch := omega) only [ud_ne]; exact hI.2 j (by omega)
      · rw [f_X7_keeps_22_L25, if_neg (by show ¬ iI 4 ≤ iI (i : Int); exact nle_iI (by omega) (by omega) (by omega))]
        have a1 : (24 : Int32) + iI (i : Int) = iI ((24 + i : Nat) : Int) := by show iI 24 + iI (i : Int) = _; rw [iI_add]; rfl
        have a2 : (28 : Int32) + iI (i : Int) = iI ((28 + i : Nat) : Int) := by show iI 28 + iI (i : Int) = _; rw [iI_add]; rfl
        have a3 : (32 : Int32) + iI (i : Int) = iI ((32 + i : Nat) : Int) := by show iI 32 + iI (i : Int) = _; rw [iI_add]; rfl
        have a4 : (36 : Int32) + iI (i : Int) = iI ((36 + i : Nat) : Int) := by show iI 36 + iI (i : Int) = _; rw [iI_add]; rfl
        have a5 : (40 : Int32) + iI (i : Int) = iI ((40 + i : Nat) : Int) := by show iI 40 + iI (i : Int) = _; rw [iI_add]; rfl
        have a6 : (44 : Int32) + iI (i : Int) = iI ((44 + i : Nat) : Int) := by show iI 44 + iI (i : Int) = _; rw [iI_add]; rfl
        have a7 : (48 : Int32) + iI (i : Int) = iI ((48 + i : Nat) : Int) := by show iI 48 + iI (i : Int) = _; rw [iI_add]; rfl
        simp only [a1, a2, a3, a4, a5, a6, a7, if_neg o1, if_neg (ob_nat (i := 24 + i) (n := 150) (by omega) (by omega)), if_neg (ob_nat (i := 28 + i) (n := 150) (by omega) (by omega)), if_neg (ob_nat (i := 32 + i) (n := 150) (by omega) (by omega)), if_neg (ob_nat (i := 36 + i) (n := 150) (by omega) (by omega)), if_neg (ob_nat (i := 40 + i) (n := 150) (by omega) (by omega)), if_neg (ob_nat (i := 44 + i) (n := 150) (by omega) (by omega)), if_neg (ob_nat (i := 48 + i) (n := 150) (by omega) (by omega)), ix_nat (show i < 2147483648 by omega), ix_nat (show 24 + i < 2147483648 by omega), ix_nat (show 28 + i < 2147483648 by omega), ix_nat (show 32 + i < 2147483648 by omega), ix_nat (show 36 + i < 2147483648 by omega), ix_nat (show 40 + i < 2147483648 by omega), ix_nat (show 44 + i < 2147483648 by omega), ix_nat (show 48 + i < 2147483648 by omega), iI_succ, vu_eq, vu_vu, vu_ne (show (3 : Nat) ≠ 22 by decide), vu_ne (show (4 : Nat) ≠ 22 by decide), vu_ne (show (5 : Nat) ≠ 22 by decide), vu_ne (show (10 : Nat) ≠ 22 by decide), vu_ne (show (11 : Nat) ≠ 22 by decide), vu_ne (show (12 : Nat) ≠ 22 by decide), vu_ne (show (13 : Nat) ≠ 22 by decide)])
    N 0 K1 (by omega) (by omega) ⟨i1, fun j hj => absurd hj (by omega)⟩
  have e2' : f_X7_keeps_22_L25 N sc _ N 0 (va_up ar 22 K1) = _ := e2
  obtain ⟨K3, i3, e3⟩ := lp_inv (R := S2) (F := fun k i K => f_X7_keeps_22_L122 N sc (fun t3 => (f_X7_keeps_22_L159 N sc (fun t4 => (f_X7_keeps_22_L185 N sc (fun t5 => KZ22 sc t5) N 0 t4)) N 0 t3)) k (iI (i : Int)) (va_up ar 22 K)) (I := fun i K => (∀ j, j < 52 → K j = K2 j) ∧ ∀ j, j < i → K (52 + j) = ar 7 j ∧ K (57 + j) = ar 8 j) (kx := fun K => f_X7_keeps_22_L159 N sc (fun t4 => (f_X7_keeps_22_L185 N sc (fun t5 => KZ22 sc t5) N 0 t4)) N 0 (va_up ar 22 K)) (n := 5)
    (by
      intro k K _
      rw [f_X7_keeps_22_L122, if_pos (by show iI 5 ≤ iI ((5 : Nat) : Int); exact le_iI (by omega) (by omega) (by omega))])
    (by
      intro k i K hi hI
      have o1 : ¬ oob (iI (i : Int)) 5 := ob_nat (by omega) (by omega)
      refine ⟨upd (upd K (52 + i) (ar 7 i)) (57 + i) (ar 8 i), ⟨?_, ?_⟩, ?_⟩
      · intro j hj
        simp (disch := omega) only [ud_ne]; exact hI.1 j hj
      · intro j hj
        by_cases e : j = i
        · subst e; simp (disch := omega) only [ud_ne, ud_eq, and_self]
        · simp (disch := omega) only [ud_ne]; exact hI.2 j (by omega)
      · rw [f_X7_keeps_22_L122, if_neg (by show ¬ iI 5 ≤ iI (i : Int); exact nle_iI (by omega) (by omega) (by omega))]
        have a1 : (52 : Int32) + iI (i : Int) = iI ((52 + i : Nat) : Int) := by show iI 52 + iI (i : Int) = _; rw [iI_add]; rfl
        have a2 : (57 : Int32) + iI (i : Int) = iI ((57 + i : Nat) : Int) := by show iI 57 + iI (i : Int) = _; rw [iI_add]; rfl
        simp only [a1, a2, if_neg o1, if_neg (ob_nat (i := 52 + i) (n := 150) (by omega) (by omega)), if_neg (ob_nat (i := 57 + i) (n := 150) (by omega) (by omega)), ix_nat (show i < 2147483648 by omega), ix_nat (show 52 + i < 2147483648 by omega), ix_nat (show 57 + i < 2147483648 by omega), iI_succ, vu_eq, vu_vu, vu_ne (show (7 : Nat) ≠ 22 by decide), vu_ne (show (8 : Nat) ≠ 22 by decide)])
    N 0 K2 (by omega) (by omega) ⟨fun _ _ => rfl, fun j hj => absurd hj (by omega)⟩
  have e3' : f_X7_keeps_22_L122 N sc _ N 0 (va_up ar 22 K2) = _ := e3
  obtain ⟨K4, i4, e4⟩ := lp_inv (R := S2) (F := fun k i K => f_X7_keeps_22_L159 N sc (fun t4 => (f_X7_keeps_22_L185 N sc (fun t5 => KZ22 sc t5) N 0 t4)) k (iI (i : Int)) (va_up ar 22 K)) (I := fun i K => (∀ j, j < 62 → K j = K3 j) ∧ ∀ j, j < i → K (62 + j) = ar 16 j) (kx := fun K => f_X7_keeps_22_L185 N sc (fun t5 => KZ22 sc t5) N 0 (va_up ar 22 K)) (n := 56)
    (by
      intro k K _
      rw [f_X7_keeps_22_L159, if_pos (by show iI 56 ≤ iI ((56 : Nat) : Int); exact le_iI (by omega) (by omega) (by omega))])
    (by
      intro k i K hi hI
      have o1 : ¬ oob (iI (i : Int)) 56 := ob_nat (by omega) (by omega)
      refine ⟨upd K (62 + i) (ar 16 i), ⟨?_, ?_⟩, ?_⟩
      · intro j hj
        rw [ud_ne (by omega)]; exact hI.1 j hj
      · intro j hj
        by_cases e : j = i
        · subst e; rw [ud_eq]
        · rw [ud_ne (by omega)]; exact hI.2 j (by omega)
      · rw [f_X7_keeps_22_L159, if_neg (by show ¬ iI 56 ≤ iI (i : Int); exact nle_iI (by omega) (by omega) (by omega))]
        have a1 : (62 : Int32) + iI (i : Int) = iI ((62 + i : Nat) : Int) := by show iI 62 + iI (i : Int) = _; rw [iI_add]; rfl
        simp only [a1, if_neg o1, if_neg (ob_nat (i := 62 + i) (n := 150) (by omega) (by omega)), ix_nat (show i < 2147483648 by omega), ix_nat (show 62 + i < 2147483648 by omega), iI_succ, vu_eq, vu_vu, vu_ne (show (16 : Nat) ≠ 22 by decide)])
    N 0 K3 (by omega) (by omega) ⟨fun _ _ => rfl, fun j hj => absurd hj (by omega)⟩
  have e4' : f_X7_keeps_22_L159 N sc _ N 0 (va_up ar 22 K3) = _ := e4
  obtain ⟨K5, i5, e5⟩ := lp_inv (R := S2) (F := fun k i K => f_X7_keeps_22_L185 N sc (fun t5 => KZ22 sc t5) k (iI (i : Int)) (va_up ar 22 K)) (I := fun i K => (∀ j, j < 118 → K j = K4 j) ∧ ∀ j, j < i → K (118 + j) = ar 17 j ∧ K (126 + j) = ar 18 j) (kx := fun K => KZ22 sc (va_up ar 22 K)) (n := 8)
    (by
      intro k K _
      rw [f_X7_keeps_22_L185, if_pos (by show iI 8 ≤ iI ((8 : Nat) : Int); exact le_iI (by omega) (by omega) (by omega))])
    (by
      intro k i K hi hI
      have o1 : ¬ oob (iI (i : Int)) 8 := ob_nat (by omega) (by omega)
      refine ⟨upd (upd K (118 + i) (ar 17 i)) (126 + i) (ar 18 i), ⟨?_, ?_⟩, ?_⟩
      · intro j hj
        simp (disch := omega) only [ud_ne]; exact hI.1 j hj
      · intro j hj
        by_cases e : j = i
        · subst e; simp (disch := omega) only [ud_ne, ud_eq, and_self]
        · simp (disch := omega) only [ud_ne]; exact hI.2 j (by omega)
      · rw [f_X7_keeps_22_L185, if_neg (by show ¬ iI 8 ≤ iI (i : Int); exact nle_iI (by omega) (by omega) (by omega))]
        have a1 : (118 : Int32) + iI (i : Int) = iI ((118 + i : Nat) : Int) := by show iI 118 + iI (i : Int) = _; rw [iI_add]; rfl
        have a2 : (126 : Int32) + iI (i : Int) = iI ((126 + i : Nat) : Int) := by show iI 126 + iI (i : Int) = _; rw [iI_add]; rfl
        simp only [a1, a2, if_neg o1, if_neg (ob_nat (i := 118 + i) (n := 150) (by omega) (by omega)), if_neg (ob_nat (i := 126 + i) (n := 150) (by omega) (by omega)), ix_nat (show i < 2147483648 by omega), ix_nat (show 118 + i < 2147483648 by omega), ix_nat (show 126 + i < 2147483648 by omega), iI_succ, vu_eq, vu_vu, vu_ne (show (17 : Nat) ≠ 22 by decide), vu_ne (show (18 : Nat) ≠ 22 by decide)])
    N 0 K4 (by omega) (by omega) ⟨fun _ _ => rfl, fun j hj => absurd hj (by omega)⟩
  have e5' : f_X7_keeps_22_L185 N sc _ N 0 (va_up ar 22 K4) = _ := e5
  refine ⟨upd (upd (upd (upd (upd (upd K5 134 (sc 0)) 135 (sc 2)) 136 (sc 6)) 137 (sc 9)) 138 (sc 14)) 139 (sc 15), ?_, ?_⟩
  · refine (show _ = _ from e1').trans ((show _ = _ from e2').trans ((show _ = _ from e3').trans ((show _ = _ from e4').trans ((show _ = _ from e5').trans ?_))))
    unfold KZ22
    simp only [if_neg (show ¬ oob (134 : Int32) 150 by decide), if_neg (show ¬ oob (135 : Int32) 150 by decide), if_neg (show ¬ oob (136 : Int32) 150 by decide), if_neg (show ¬ oob (137 : Int32) 150 by decide), if_neg (show ¬ oob (138 : Int32) 150 by decide), if_neg (show ¬ oob (139 : Int32) 150 by decide), vu_eq, vu_vu]
    rfl
  · refine ⟨?_, ?_, ?_, ?_, ?_, ?_⟩
    · intro j hj
      simp (disch := omega) only [ud_ne]
      rw [i5.1 j (by omega), i4.1 j (by omega), i3.1 j (by omega)]
      exact i2.1 j hj
    · intro j hj
      simp (disch := omega) only [ud_ne]
      rw [i5.1 _ (by omega), i5.1 _ (by omega), i5.1 _ (by omega), i5.1 _ (by omega), i5.1 _ (by omega), i5.1 _ (by omega), i5.1 _ (by omega), i4.1 _ (by omega), i4.1 _ (by omega), i4.1 _ (by omega), i4.1 _ (by omega), i4.1 _ (by omega), i4.1 _ (by omega), i4.1 _ (by omega), i3.1 _ (by omega), i3.1 _ (by omega), i3.1 _ (by omega), i3.1 _ (by omega), i3.1 _ (by omega), i3.1 _ (by omega), i3.1 _ (by omega)]
      exact i2.2 j hj
    · intro j hj
      simp (disch := omega) only [ud_ne]
      rw [i5.1 _ (by omega), i5.1 _ (by omega), i4.1 _ (by omega), i4.1 _ (by omega)]
      exact i3.2 j hj
    · intro j hj
      simp (disch := omega) only [ud_ne]
      rw [i5.1 _ (by omega)]
      exact i4.2 j hj
    · intro j hj
      simp (disch := omega) only [ud_ne]
      exact i5.2 j hj
    · simp (disch := decide) only [ud_ne, ud_eq, and_self]
