def AZ23 (sc : S1) (t5 : S2) : Option (S1 × S2) := (if oob (134 : Int32) 150 then none else (if oob (135 : Int32) 150 then none else (if oob (136 : Int32) 150 then none else (if oob (137 : Int32) 150 then none else (if oob (138 : Int32) 150 then none else (if oob (139 : Int32) 150 then none else (some ((upd (upd (upd (upd (upd (upd sc 0 ((t5 23) (ix 134))) 2 ((t5 23) (ix 135))) 6 ((t5 23) (ix 136))) 9 ((t5 23) (ix 137))) 14 ((t5 23) (ix 138))) 15 ((t5 23) (ix 139))), t5)))))))) 
theorem again_23 {N : Nat} (hN : 100 ≤ N) {sc : S1} {ar : S2} : ∃ sc' ar', f_X7_again_23 N sc ar = some (sc', ar') ∧ KP sc' ar' (ar 23) ∧ frS sc sc' ∧ frA ar ar' := by
  unfold f_X7_again_23
  obtain ⟨a1, i1, e1⟩ := lp_inv (R := S1 × S2) (F := fun k i K => f_X7_again_23_L2 N sc (fun t1 => (f_X7_again_23_L25 N sc (fun t2 => (f_X7_again_23_L122 N sc (fun t3 => (f_X7_again_23_L159 N sc (fun t4 => (f_X7_again_23_L185 N sc (fun t5 => AZ23 sc t5) N 0 t4)) N 0 t3)) N 0 t2)) N 0 t1)) k (iI (i : Int)) K) (I := fun i K => (∀ j, j < i → ar 23 j = K 1 j) ∧ ∀ r, r ≠ 1 → K r = ar r) (kx := fun K => f_X7_again_23_L25 N sc (fun t2 => (f_X7_again_23_L122 N sc (fun t3 => (f_X7_again_23_L159 N sc (fun t4 => (f_X7_again_23_L185 N sc (fun t5 => AZ23 sc t5) N 0 t4)) N 0 t3)) N 0 t2)) N 0 K) (n := 24)
    (by
      intro k K _
      rw [f_X7_again_23_L2, if_pos (by show iI 24 ≤ iI ((24 : Nat) : Int); exact le_iI (by omega) (by omega) (by omega))])
    (by
      intro k i K hi hI
      refine ⟨va_up K 1 (upd (K 1) i (K 23 i)), ⟨?_, ?_⟩, ?_⟩
      · intro j hj
        rw [vu_eq]
        by_cases e : j = i
        · rw [e, ud_eq, hI.2 23 (by decide)]
        · rw [ud_ne e]; exact hI.1 j (by omega)
      · intro r hr
        rw [vu_ne hr]; exact hI.2 r hr
      · rw [f_X7_again_23_L2, if_neg (by show ¬ iI 24 ≤ iI (i : Int); exact nle_iI (by omega) (by omega) (by omega)), if_neg (ob_nat (by omega) (by omega)), if_neg (ob_nat (by omega) (by omega)), ix_nat (by omega), iI_succ])
    N 0 ar (by omega) (by omega) ⟨fun j hj => absurd hj (by omega), fun _ _ => rfl⟩
  have e1' : f_X7_again_23_L2 N sc _ N 0 ar = _ := e1
  obtain ⟨a2, i2, e2⟩ := lp_inv (R := S1 × S2) (F := fun k i K => f_X7_again_23_L25 N sc (fun t2 => (f_X7_again_23_L122 N sc (fun t3 => (f_X7_again_23_L159 N sc (fun t4 => (f_X7_again_23_L185 N sc (fun t5 => AZ23 sc t5) N 0 t4)) N 0 t3)) N 0 t2)) k (iI (i : Int)) K) (I := fun i K => (∀ j, j < i → a1 23 (24 + j) = K 3 j ∧ a1 23 (28 + j) = K 4 j ∧ a1 23 (32 + j) = K 5 j ∧ a1 23 (36 + j) = K 10 j ∧ a1 23 (40 + j) = K 11 j ∧ a1 23 (44 + j) = K 12 j ∧ a1 23 (48 + j) = K 13 j) ∧ ∀ r, r ≠ 3 → r ≠ 4 → r ≠ 5 → r ≠ 10 → r ≠ 11 → r ≠ 12 → r ≠ 13 → K r = a1 r) (kx := fun K => f_X7_again_23_L122 N sc (fun t3 => (f_X7_again_23_L159 N sc (fun t4 => (f_X7_again_23_L185 N sc (fun t5 => AZ23 sc t5) N 0 t4)) N 0 t3)) N 0 K) (n := 4)
    (by
      intro k K _
      rw [f_X7_again_23_L25, if_pos (by show iI 4 ≤ iI ((4 : Nat) : Int); exact le_iI (by omega) (by omega) (by omega))])
    (by
      intro k i K hi hI
      have o1 : ¬ oob (iI (i : Int)) 4 := ob_nat (by omega) (by omega)
      have hK : K 23 = a1 23 := hI.2 23 (by decide) (by decide) (by decide) (by decide) (by decide) (by decide) (by decide)
      refine ⟨va_up (va_up (va_up (va_up (va_up (va_up (va_up K 3 (upd (K 3) i (K 23 (24 + i)))) 4 (upd (K 4) i (K 23 (28 + i)))) 5 (upd (K 5) i (K 23 (32 + i)))) 10 (upd (K 10) i (K 23 (36 + i)))) 11 (upd (K 11) i (K 23 (40 + i)))) 12 (upd (K 12) i (K 23 (44 + i)))) 13 (upd (K 13) i (K 23 (48 + i))), ⟨?_, ?_⟩, ?_⟩
      · intro j hj
        simp (disch := decide) only [vu_ne, vu_eq]
        by_cases e : j = i
        · subst e; simp only [ud_eq, hK, and_self]
        · simp only [ud_ne e]; exact hI.1 j (by omega)
      · intro r r1 r2 r3 r4 r5 r6 r7
        rw [vu_ne r7, vu_ne r6, vu_ne r5, vu_ne r4, vu_ne r3, vu_ne r2, vu_ne r1]; exact hI.2 r r1 r2 r3 r4 r5 r6 r7
      · rw [f_X7_again_23_L25, if_neg (by show ¬ iI 4 ≤ iI (i : Int); exact nle_iI (by omega) (by omega) (by omega))]
        have a1 : (24 : Int32) + iI (i : Int) = iI ((24 + i : Nat) : Int) := by show iI 24 + iI (i : Int) = _; rw [iI_add]; rfl
        have a2 : (28 : Int32) + iI (i : Int) = iI ((28 + i : Nat) : Int) := by show iI 28 + iI (i : Int) = _; rw [iI_add]; rfl
        have a3 : (32 : Int32) + iI (i : Int) = iI ((32 + i : Nat) : Int) := by show iI 32 + iI (i : Int) = _; rw [iI_add]; rfl
        have a4 : (36 : Int32) + iI (i : Int) = iI ((36 + i : Nat) : Int) := by show iI 36 + iI (i : Int) = _; rw [iI_add]; rfl
        have a5 : (40 : Int32) + iI (i : Int) = iI ((40 + i : Nat) : Int) := by show iI 40 + iI (i : Int) = _; rw [iI_add]; rfl
        have a6 : (44 : Int32) + iI (i : Int) = iI ((44 + i : Nat) : Int) := by show iI 44 + iI (i : Int) = _; rw [iI_add]; rfl
        have a7 : (48 : Int32) + iI (i : Int) = iI ((48 + i : Nat) : Int) := by show iI 48 + iI (i : Int) = _; rw [iI_add]; rfl
        simp only [a1, a2, a3, a4, a5, a6, a7, if_neg o1, if_neg (ob_nat (i := 24 + i) (n := 150) (by omega) (by omega)), if_neg (ob_nat (i := 28 + i) (n := 150) (by omega) (by omega)), if_neg (ob_nat (i := 32 + i) (n := 150) (by omega) (by omega)), if_neg (ob_nat (i := 36 + i) (n := 150) (by omega) (by omega)), if_neg (ob_nat (i := 40 + i) (n := 150) (by omega) (by omega)), if_neg (ob_nat (i := 44 + i) (n := 150) (by omega) (by omega)), if_neg (ob_nat (i := 48 + i) (n := 150) (by omega) (by omega)), ix_nat (show i < 2147483648 by omega), ix_nat (show 24 + i < 2147483648 by omega), ix_nat (show 28 + i < 2147483648 by omega), ix_nat (show 32 + i < 2147483648 by omega), ix_nat (show 36 + i < 2147483648 by omega), ix_nat (show 40 + i < 2147483648 by omega), ix_nat (show 44 + i < 2147483648 by omega), ix_nat (show 48 + i < 2147483648 by omega), iI_succ])
    N 0 a1 (by omega) (by omega) ⟨fun j hj => absurd hj (by omega), fun _ _ _ _ _ _ _ _ => rfl⟩
  have e2' : f_X7_again_23_L25 N sc _ N 0 a1 = _ := e2
  obtain ⟨a3, i3, e3⟩ := lp_inv (R := S1 × S2) (F := fun k i K => f_X7_again_23_L122 N sc (fun t3 => (f_X7_again_23_L159 N sc (fun t4 => (f_X7_again_23_L185 N sc (fun t5 => AZ23 sc t5) N 0 t4)) N 0 t3)) k (iI (i : Int)) K) (I := fun i K => (∀ j, j < i → a2 23 (52 + j) = K 7 j ∧ a2 23 (57 + j) = K 8 j) ∧ ∀ r, r ≠ 7 → r ≠ 8 → K r = a2 r) (kx := fun K => f_X7_again_23_L159 N sc (fun t4 => (f_X7_again_23_L185 N sc (fun t5 => AZ23 sc t5) N 0 t4)) N 0 K) (n := 5)
    (by
      intro k K _
      rw [f_X7_again_23_L122, if_pos (by show iI 5 ≤ iI ((5 : Nat) : Int); exact le_iI (by omega) (by omega) (by omega))])
    (by
      intro k i K hi hI
      have o1 : ¬ oob (iI (i : Int)) 5 := ob_nat (by omega) (by omega)
      have hK : K 23 = a2 23 := hI.2 23 (by decide) (by decide)
      refine ⟨va_up (va_up K 7 (upd (K 7) i (K 23 (52 + i)))) 8 (upd (K 8) i (K 23 (57 + i))), ⟨?_, ?_⟩, ?_⟩
      · intro j hj
        simp (disch := decide) only [vu_ne, vu_eq]
        by_cases e : j = i
        · subst e; simp only [ud_eq, hK, and_self]
        · simp only [ud_ne e]; exact hI.1 j (by omega)
      · intro r r1 r2
        rw [vu_ne r2, vu_ne r1]; exact hI.2 r r1 r2
      · rw [f_X7_again_23_L122, if_neg (by show ¬ iI 5 ≤ iI (i : Int); exact nle_iI (by omega) (by omega) (by omega))]
        have a1 : (52 : Int32) + iI (i : Int) = iI ((52 + i : Nat) : Int) := by show iI 52 + iI (i : Int) = _; rw [iI_add]; rfl
        have a2 : (57 : Int32) + iI (i : Int) = iI ((57 + i : Nat) : Int) := by show iI 57 + iI (i : Int) = _; rw [iI_add]; rfl
        simp only [a1, a2, if_neg o1, if_neg (ob_nat (i := 52 + i) (n := 150) (by omega) (by omega)), if_neg (ob_nat (i := 57 + i) (n := 150) (by omega) (by omega)), ix_nat (show i < 2147483648 by omega), ix_nat (show 52 + i < 2147483648 by omega), ix_nat (show 57 + i < 2147483648 by omega), iI_succ])
    N 0 a2 (by omega) (by omega) ⟨fun j hj => absurd hj (by omega), fun _ _ _ => rfl⟩
  have e3' : f_X7_again_23_L122 N sc _ N 0 a2 = _ := e3
  obtain ⟨a4, i4, e4⟩ := lp_inv (R := S1 × S2) (F := fun k i K => f_X7_again_23_L159 N sc (fun t4 => (f_X7_again_23_L185 N sc (fun t5 => AZ23 sc t5) N 0 t4)) k (iI (i : Int)) K) (I := fun i K => (∀ j, j < i → a3 23 (62 + j) = K 16 j) ∧ ∀ r, r ≠ 16 → K r = a3 r) (kx := fun K => f_X7_again_23_L185 N sc (fun t5 => AZ23 sc t5) N 0 K) (n := 56)
    (by
      intro k K _
      rw [f_X7_again_23_L159, if_pos (by show iI 56 ≤ iI ((56 : Nat) : Int); exact le_iI (by omega) (by omega) (by omega))])
    (by
      intro k i K hi hI
      have o1 : ¬ oob (iI (i : Int)) 56 := ob_nat (by omega) (by omega)
      have hK : K 23 = a3 23 := hI.2 23 (by decide)
      refine ⟨va_up K 16 (upd (K 16) i (K 23 (62 + i))), ⟨?_, ?_⟩, ?_⟩
      · intro j hj
        rw [vu_eq]
        by_cases e : j = i
        · subst e; rw [ud_eq, hK]
        · rw [ud_ne e]; exact hI.1 j (by omega)
      · intro r r1
        rw [vu_ne r1]; exact hI.2 r r1
      · rw [f_X7_again_23_L159, if_neg (by show ¬ iI 56 ≤ iI (i : Int); exact nle_iI (by omega) (by omega) (by omega))]
        have a1 : (62 : Int32) + iI (i : Int) = iI ((62 + i : Nat) : Int) := by show iI 62 + iI (i : Int) = _; rw [iI_add]; rfl
        simp only [a1, if_neg o1, if_neg (ob_nat (i := 62 + i) (n := 150) (by omega) (by omega)), ix_nat (show i < 2147483648 by omega), ix_nat (show 62 + i < 2147483648 by omega), iI_succ])
    N 0 a3 (by omega) (by omega) ⟨fun j hj => absurd hj (by omega), fun _ _ => rfl⟩
  have e4' : f_X7_again_23_L159 N sc _ N 0 a3 = _ := e4
  obtain ⟨a5, i5, e5⟩ := lp_inv (R := S1 × S2) (F := fun k i K => f_X7_again_23_L185 N sc (fun t5 => AZ23 sc t5) k (iI (i : Int)) K) (I := fun i K => (∀ j, j < i → a4 23 (118 + j) = K 17 j ∧ a4 23 (126 + j) = K 18 j) ∧ ∀ r, r ≠ 17 → r ≠ 18 → K r = a4 r) (kx := fun K => AZ23 sc K) (n := 8)
    (by
      intro k K _
      rw [f_X7_again_23_L185, if_pos (by show iI 8 ≤ iI ((8 : Nat) : Int); exact le_iI (by omega) (by omega) (by omega))])
    (by
      intro k i K hi hI
      have o1 : ¬ oob (iI (i : Int)) 8 := ob_nat (by omega) (by omega)
      have hK : K 23 = a4 23 := hI.2 23 (by decide) (by decide)
      refine ⟨va_up (va_up K 17 (upd (K 17) i (K 23 (118 + i)))) 18 (upd (K 18) i (K 23 (126 + i))), ⟨?_, ?_⟩, ?_⟩
      · intro j hj
        simp (disch := decide) only [vu_ne, vu_eq]
        by_cases e : j = i
        · subst e; simp only [ud_eq, hK, and_self]
        · simp only [ud_ne e]; exact hI.1 j (by omega)
      · intro r r1 r2
        rw [vu_ne r2, vu_ne r1]; exact hI.2 r r1 r2
      · rw [f_X7_again_23_L185, if_neg (by show ¬ iI 8 ≤ iI (i : Int); exact nle_iI (by omega) (by omega) (by omega))]
        have a1 : (118 : Int32) + iI (i : Int) = iI ((118 + i : Nat) : Int) := by show iI 118 + iI (i : Int) = _; rw [iI_add]; rfl
        have a2 : (126 : Int32) + iI (i : Int) = iI ((126 + i : Nat) : Int) := by show iI 126 + iI (i : Int) = _; rw [iI_add]; rfl
        simp only [a1, a2, if_neg o1, if_neg (ob_nat (i := 118 + i) (n := 150) (by omega) (by omega)), if_neg (ob_nat (i := 126 + i) (n := 150) (by omega) (by omega)), ix_nat (show i < 2147483648 by omega), ix_nat (show 118 + i < 2147483648 by omega), ix_nat (show 126 + i < 2147483648 by omega), iI_succ])
    N 0 a4 (by omega) (by omega) ⟨fun j hj => absurd hj (by omega), fun _ _ _ => rfl⟩
  have e5' : f_X7_again_23_L185 N sc _ N 0 a4 = _ := e5
  have k1 : a1 23 = ar 23 := i1.2 23 (by decide)
  have k2 : a2 23 = ar 23 := by rw [i2.2 23 (by decide) (by decide) (by decide) (by decide) (by decide) (by decide) (by decide), k1]
  have k3 : a3 23 = ar 23 := by rw [i3.2 23 (by decide) (by decide), k2]
  have k4 : a4 23 = ar 23 := by rw [i4.2 23 (by decide), k3]
  have k5 : a5 23 = ar 23 := by rw [i5.2 23 (by decide) (by decide), k4]
  refine ⟨upd (upd (upd (upd (upd (upd sc 0 (ar 23 134)) 2 (ar 23 135)) 6 (ar 23 136)) 9 (ar 23 137)) 14 (ar 23 138)) 15 (ar 23 139), a5, (show _ = _ from e1').trans ((show _ = _ from e2').trans ((show _ = _ from e3').trans ((show _ = _ from e4').trans ((show _ = _ from e5').trans ?_)))), ⟨?_, ?_, ?_, ?_, ?_, ?_⟩, ?_, ?_⟩
  · unfold AZ23
    simp only [if_neg (show ¬ oob (134 : Int32) 150 by decide), if_neg (show ¬ oob (135 : Int32) 150 by decide), if_neg (show ¬ oob (136 : Int32) 150 by decide), if_neg (show ¬ oob (137 : Int32) 150 by decide), if_neg (show ¬ oob (138 : Int32) 150 by decide), if_neg (show ¬ oob (139 : Int32) 150 by decide), k5]
    rfl
  · intro j hj
    rw [i5.2 1 (by decide) (by decide), i4.2 1 (by decide), i3.2 1 (by decide) (by decide), i2.2 1 (by decide) (by decide) (by decide) (by decide) (by decide) (by decide) (by decide)]
    exact i1.1 j hj
  · intro j hj
    rw [i5.2 3 (by decide) (by decide), i4.2 3 (by decide), i3.2 3 (by decide) (by decide), i5.2 4 (by decide) (by decide), i4.2 4 (by decide), i3.2 4 (by decide) (by decide), i5.2 5 (by decide) (by decide), i4.2 5 (by decide), i3.2 5 (by decide) (by decide), i5.2 10 (by decide) (by decide), i4.2 10 (by decide), i3.2 10 (by decide) (by decide), i5.2 11 (by decide) (by decide), i4.2 11 (by decide), i3.2 11 (by decide) (by decide), i5.2 12 (by decide) (by decide), i4.2 12 (by decide), i3.2 12 (by decide) (by decide), i5.2 13 (by decide) (by decide), i4.2 13 (by decide), i3.2 13 (by decide) (by decide)]
    have := i2.1 j hj
    rw [k1] at this
    exact this
  · intro j hj
    rw [i5.2 7 (by decide) (by decide), i4.2 7 (by decide), i5.2 8 (by decide) (by decide), i4.2 8 (by decide)]
    have := i3.1 j hj
    rw [k2] at this
    exact this
  · intro j hj
    rw [i5.2 16 (by decide) (by decide)]
    have := i4.1 j hj
    rw [k3] at this
    exact this
  · intro j hj
    have := i5.1 j hj
    rw [k4] at this
    exact this
  · simp (disch := decide) only [ud_ne, ud_eq, and_self]
  · intro j hj
    rw [ud_ne (by omega), ud_ne (by omega), ud_ne (by omega), ud_ne (by omega), ud_ne (by omega), ud_ne (by omega)]
  · intro r hr
    rw [i5.2 r (by omega) (by omega), i4.2 r (by omega), i3.2 r (by omega) (by omega), i2.2 r (by omega) (by omega) (by omega) (by omega) (by omega) (by omega) (by omega), i1.2 r (by omega)]
def AZ22 (sc : S1) (t5 : S2) : Option (S1 × S2) := (if oob (134 : Int32) 150 then none else (if oob (135 : Int32) 150 then none else (if oob (136 : Int32) 150 then none else (if oob (137 : Int32) 150 then none else (if oob (138 : Int32) 150 then none else (if oob (139 : Int32) 150 then none else (some ((upd (upd (upd (upd (upd (upd sc 0 ((t5 22) (ix 134))) 2 ((t5 22) (ix 135))) 6 ((t5 22) (ix 136))) 9 ((t5 22) (ix 137))) 14 ((t5 22) (ix 138))) 15 ((t5 22) (ix 139))), t5)))))))) 
theorem again_22 {N : Nat} (hN : 100 ≤ N) {sc : S1} {ar : S2} : ∃ sc' ar', f_X7_again_22 N sc ar = some (sc', ar') ∧ KP sc' ar' (ar 22) ∧ frS sc sc' ∧ frA ar ar' := by
  unfold f_X7_again_22
  obtain ⟨a1, i1, e1⟩ := lp_inv (R := S1 × S2) (F := fun k i K => f_X7_again_22_L2 N sc (fun t1 => (f_X7_again_22_L25 N sc (fun t2 => (f_X7_again_22_L122 N sc (fun t3 => (f_X7_again_22_L159 N sc (fun t4 => (f_X7_again_22_L185 N sc (fun t5 => AZ22 sc t5) N 0 t4)) N 0 t3)) N 0 t2)) N 0 t1)) k (iI (i : Int)) K) (I := fun i K => (∀ j, j < i → ar 22 j = K 1 j) ∧ ∀ r, r ≠ 1 → K r = ar r) (kx := fun K => f_X7_again_22_L25 N sc (fun t2 => (f_X7_again_22_L122 N sc (fun t3 => (f_X7_again_22_L159 N sc (fun t4 => (f_X7_again_22_L185 N sc (fun t5 => AZ22 sc t5) N 0 t4)) N 0 t3)) N 0 t2)) N 0 K) (n := 24)
    (by
      intro k K _
      rw [f_X7_again_22_L2, if_pos (by show iI 24 ≤ iI ((24 : Nat) : Int); exact le_iI (by omega) (by omega) (by omega))])
    (by
      intro k i K hi hI
      refine ⟨va_up K 1 (upd (K 1) i (K 22 i)), ⟨?_, ?_⟩, ?_⟩
      · intro j hj
        rw [vu_eq]
        by_cases e : j = i
        · rw [e, ud_eq, hI.2 22 (by decide)]
        · rw [ud_ne e]; exact hI.1 j (by omega)
      · intro r hr
        rw [vu_ne hr]; exact hI.2 r hr
      · rw [f_X7_again_22_L2, if_neg (by show ¬ iI 24 ≤ iI (i : Int); exact nle_iI (by omega) (by omega) (by omega)), if_neg (ob_nat (by omega) (by omega)), if_neg (ob_nat (by omega) (by omega)), ix_nat (by omega), iI_succ])
    N 0 ar (by omega) (by omega) ⟨fun j hj => absurd hj (by omega), fun _ _ => rfl⟩
  have e1' : f_X7_again_22_L2 N sc _ N 0 ar = _ := e1
  obtain ⟨a2, i2, e2⟩ := lp_inv (R := S1 × S2) (F := fun k i K => f_X7_again_22_L25 N sc (fun t2 => (f_X7_again_22_L122 N sc (fun t3 => (f_X7_again_22_L159 N sc (fun t4 => (f_X7_again_22_L185 N sc (fun t5 => AZ22 sc t5) N 0 t4)) N 0 t3)) N 0 t2)) k (iI (i : Int)) K) (I := fun i K => (∀ j, j < i → a1 22 (24 + j) = K 3 j ∧ a1 22 (28 + j) = K 4 j ∧ a1 22 (32 + j) = K 5 j ∧ a1 22 (36 + j) = K 10 j ∧ a1 22 (40 + j) = K 11 j ∧ a1 22 (44 + j) = K 12 j ∧ a1 22 (48 + j) = K 13 j) ∧ ∀ r, r ≠ 3 → r ≠ 4 → r ≠ 5 → r ≠ 10 → r ≠ 11 → r ≠ 12 → r ≠ 13 → K r = a1 r) (kx := fun K => f_X7_again_22_L122 N sc (fun t3 => (f_X7_again_22_L159 N sc (fun t4 => (f_X7_again_22_L185 N sc (fun t5 => AZ22 sc t5) N 0 t4)) N 0 t3)) N 0 K) (n := 4)
    (by
      intro k K _
      rw [f_X7_again_22_L25, if_pos (by show iI 4 ≤ iI ((4 : Nat) : Int); exact le_iI (by omega) (by omega) (by omega))])
    (by
      intro k i K hi hI
      have o1 : ¬ oob (iI (i : Int)) 4 := ob_nat (by omega) (by omega)
      have hK : K 22 = a1 22 := hI.2 22 (by decide) (by decide) (by decide) (by decide) (by decide) (by decide) (by decide)
      refine ⟨va_up (va_up (va_up (va_up (va_up (va_up (va_up K 3 (upd (K 3) i (K 22 (24 + i)))) 4 (upd (K 4) i (K 22 (28 + i)))) 5 (upd (K 5) i (K 22 (32 + i)))) 10 (upd (K 10) i (K 22 (36 + i)))) 11 (upd (K 11) i (K 22 (40 + i)))) 12 (upd (K 12) i (K 22 (44 + i)))) 13 (upd (K 13) i (K 22 (48 + i))), ⟨?_, ?_⟩, ?_⟩
      · intro j hj
        simp (disch := decide) only [vu_ne, vu_eq]
        by_cases e : j = i
        · subst e; simp only [ud_eq, hK, and_self]
        · simp only [ud_ne e]; exact hI.1 j (by omega)
      · intro r r1 r2 r3 r4 r5 r6 r7
        rw [vu_ne r7, vu_ne r6, vu_ne r5, vu_ne r4, vu_ne r3, vu_ne r2, vu_ne r1]; exact hI.2 r r1 r2 r3 r4 r5 r6 r7
      · rw [f_X7_again_22_L25, if_neg (by show ¬ iI 4 ≤ iI (i : Int); exact nle_iI (by omega) (by omega) (by omega))]
        have a1 : (24 : Int32) + iI (i : Int) = iI ((24 + i : Nat) : Int) := by show iI 24 + iI (i : Int) = _; rw [iI_add]; rfl
        have a2 : (28 : Int32) + iI (i : Int) = iI ((28 + i : Nat) : Int) := by show iI 28 + iI (i : Int) = _; rw [iI_add]; rfl
        have a3 : (32 : Int32) + iI (i : Int) = iI ((32 + i : Nat) : Int) := by show iI 32 + iI (i : Int) = _; rw [iI_add]; rfl
        have a4 : (36 : Int32) + iI (i : Int) = iI ((36 + i : Nat) : Int) := by show iI 36 + iI (i : Int) = _; rw [iI_add]; rfl
        have a5 : (40 : Int32) + iI (i : Int) = iI ((40 + i : Nat) : Int) := by show iI 40 + iI (i : Int) = _; rw [iI_add]; rfl
        have a6 : (44 : Int32) + iI (i : Int) = iI ((44 + i : Nat) : Int) := by show iI 44 + iI (i : Int) = _; rw [iI_add]; rfl
        have a7 : (48 : Int32) + iI (i : Int) = iI ((48 + i : Nat) : Int) := by show iI 48 + iI (i : Int) = _; rw [iI_add]; rfl
        simp only [a1, a2, a3, a4, a5, a6, a7, if_neg o1, if_neg (ob_nat (i := 24 + i) (n := 150) (by omega) (by omega)), if_neg (ob_nat (i := 28 + i) (n := 150) (by omega) (by omega)), if_neg (ob_nat (i := 32 + i) (n := 150) (by omega) (by omega)), if_neg (ob_nat (i := 36 + i) (n := 150) (by omega) (by omega)), if_neg (ob_nat (i := 40 + i) (n := 150) (by omega) (by omega)), if_neg (ob_nat (i := 44 + i) (n := 150) (by omega) (by omega)), if_neg (ob_nat (i := 48 + i) (n := 150) (by omega) (by omega)), ix_nat (show i < 2147483648 by omega), ix_nat (show 24 + i < 2147483648 by omega), ix_nat (show 28 + i < 2147483648 by omega), ix_nat (show 32 + i < 2147483648 by omega), ix_nat (show 36 + i < 2147483648 by omega), ix_nat (show 40 + i < 2147483648 by omega), ix_nat (show 44 + i < 2147483648 by omega), ix_nat (show 48 + i < 2147483648 by omega), iI_succ])
    N 0 a1 (by omega) (by omega) ⟨fun j hj => absurd hj (by omega), fun _ _ _ _ _ _ _ _ => rfl⟩
  have e2' : f_X7_again_22_L25 N sc _ N 0 a1 = _ := e2
  obtain ⟨a3, i3, e3⟩ := lp_inv (R := S1 × S2) (F := fun k i K => f_X7_again_22_L122 N sc (fun t3 => (f_X7_again_22_L159 N sc (fun t4 => (f_X7_again_22_L185 N sc (fun t5 => AZ22 sc t5) N 0 t4)) N 0 t3)) k (iI (i : Int)) K) (I := fun i K => (∀ j, j < i → a2 22 (52 + j) = K 7 j ∧ a2 22 (57 + j) = K 8 j) ∧ ∀ r, r ≠ 7 → r ≠ 8 → K r = a2 r) (kx := fun K => f_X7_again_22_L159 N sc (fun t4 => (f_X7_again_22_L185 N sc (fun t5 => AZ22 sc t5) N 0 t4)) N 0 K) (n := 5)
    (by
      intro k K _
      rw [f_X7_again_22_L122, if_pos (by show iI 5 ≤ iI ((5 : Nat) : Int); exact le_iI (by omega) (by omega) (by omega))])
    (by
      intro k i K hi hI
      have o1 : ¬ oob (iI (i : Int)) 5 := ob_nat (by omega) (by omega)
      have hK : K 22 = a2 22 := hI.2 22 (by decide) (by decide)
      refine ⟨va_up (va_up K 7 (upd (K 7) i (K 22 (52 + i)))) 8 (upd (K 8) i (K 22 (57 + i))), ⟨?_, ?_⟩, ?_⟩
      · intro j hj
        simp (disch := decide) only [vu_ne, vu_eq]
        by_cases e : j = i
        · subst e; simp only [ud_eq, hK, and_self]
        · simp only [ud_ne e]; exact hI.1 j (by omega)
      · intro r r1 r2
        rw [vu_ne r2, vu_ne r1]; exact hI.2 r r1 r2
      · rw [f_X7_again_22_L122, if_neg (by show ¬ iI 5 ≤ iI (i : Int); exact nle_iI (by omega) (by omega) (by omega))]
        have a1 : (52 : Int32) + iI (i : Int) = iI ((52 + i : Nat) : Int) := by show iI 52 + iI (i : Int) = _; rw [iI_add]; rfl
        have a2 : (57 : Int32) + iI (i : Int) = iI ((57 + i : Nat) : Int) := by show iI 57 + iI (i : Int) = _; rw [iI_add]; rfl
        simp only [a1, a2, if_neg o1, if_neg (ob_nat (i := 52 + i) (n := 150) (by omega) (by omega)), if_neg (ob_nat (i := 57 + i) (n := 150) (by omega) (by omega)), ix_nat (show i < 2147483648 by omega), ix_nat (show 52 + i < 2147483648 by omega), ix_nat (show 57 + i < 2147483648 by omega), iI_succ])
    N 0 a2 (by omega) (by omega) ⟨fun j hj => absurd hj (by omega), fun _ _ _ => rfl⟩
  have e3' : f_X7_again_22_L122 N sc _ N 0 a2 = _ := e3
  obtain ⟨a4, i4, e4⟩ := lp_inv (R := S1 × S2) (F := fun k i K => f_X7_again_22_L159 N sc (fun t4 => (f_X7_again_22_L185 N sc (fun t5 => AZ22 sc t5) N 0 t4)) k (iI (i : Int)) K) (I := fun i K => (∀ j, j < i → a3 22 (62 + j) = K 16 j) ∧ ∀ r, r ≠ 16 → K r = a3 r) (kx := fun K => f_X7_again_22_L185 N sc (fun t5 => AZ22 sc t5) N 0 K) (n := 56)
    (by
      intro k K _
      rw [f_X7_again_22_L159, if_pos (by show iI 56 ≤ iI ((56 : Nat) : Int); exact le_iI (by omega) (by omega) (by omega))])
    (by
      intro k i K hi hI
      have o1 : ¬ oob (iI (i : Int)) 56 := ob_nat (by omega) (by omega)
      have hK : K 22 = a3 22 := hI.2 22 (by decide)
      refine ⟨va_up K 16 (upd (K 16) i (K 22 (62 + i))), ⟨?_, ?_⟩, ?_⟩
      · intro j hj
        rw [vu_eq]
        by_cases e : j = i
        · subst e; rw [ud_eq, hK]
        · rw [ud_ne e]; exact hI.1 j (by omega)
      · intro r r1
        rw [vu_ne r1]; exact hI.2 r r1
      · rw [f_X7_again_22_L159, if_neg (by show ¬ iI 56 ≤ iI (i : Int); exact nle_iI (by omega) (by omega) (by omega))]
        have a1 : (62 : Int32) + iI (i : Int) = iI ((62 + i : Nat) : Int) := by show iI 62 + iI (i : Int) = _; rw [iI_add]; rfl
        simp only [a1, if_neg o1, if_neg (ob_nat (i := 62 + i) (n := 150) (by omega) (by omega)), ix_nat (show i < 2147483648 by omega), ix_nat (show 62 + i < 2147483648 by omega), iI_succ])
    N 0 a3 (by omega) (by omega) ⟨fun j hj => absurd hj (by omega), fun _ _ => rfl⟩
  have e4' : f_X7_again_22_L159 N sc _ N 0 a3 = _ := e4
  obtain ⟨a5, i5, e5⟩ := lp_inv (R := S1 × S2) (F := fun k i K => f_X7_again_22_L185 N sc (fun t5 => AZ22 sc t5) k (iI (i : Int)) K) (I := fun i K => (∀ j, j < i → a4 22 (118 + j) = K 17 j ∧ a4 22 (126 + j) = K 18 j) ∧ ∀ r, r ≠ 17 → r ≠ 18 → K r = a4 r) (kx := fun K => AZ22 sc K) (n := 8)
    (by
      intro k K _
      rw [f_X7_again_22_L185, if_pos (by show iI 8 ≤ iI ((8 : Nat) : Int); exact le_iI (by omega) (by omega) (by omega))])
    (by
      intro k i K hi hI
      have o1 : ¬ oob (iI (i : Int)) 8 := ob_nat (by omega) (by omega)
      have hK : K 22 = a4 22 := hI.2 22 (by decide) (by decide)
      refine ⟨va_up (va_up K 17 (upd (K 17) i (K 22 (118 + i)))) 18 (upd (K 18) i (K 22 (126 + i))), ⟨?_, ?_⟩, ?_⟩
      · intro j hj
        simp (disch := decide) only [vu_ne, vu_eq]
        by_cases e : j = i
        · subst e; simp only [ud_eq, hK, and_self]
        · simp only [ud_ne e]; exact hI.1 j (by omega)
      · intro r r1 r2
        rw [vu_ne r2, vu_ne r1]; exact hI.2 r r1 r2
      · rw [f_X7_again_22_L185, if_neg (by show ¬ iI 8 ≤ iI (i : Int); exact nle_iI (by omega) (by omega) (by omega))]
        have a1 : (118 : Int32) + iI (i : Int) = iI ((118 + i : Nat) : Int) := by show iI 118 + iI (i : Int) = _; rw [iI_add]; rfl
        have a2 : (126 : Int32) + iI (i : Int) = iI ((126 + i : Nat) : Int) := by show iI 126 + iI (i : Int) = _; rw [iI_add]; rfl
        simp only [a1, a2, if_neg o1, if_neg (ob_nat (i := 118 + i) (n := 150) (by omega) (by omega)), if_neg (ob_nat (i := 126 + i) (n := 150) (by omega) (by omega)), ix_nat (show i < 2147483648 by omega), ix_nat (show 118 + i < 2147483648 by omega), ix_nat (show 126 + i < 2147483648 by omega), iI_succ])
    N 0 a4 (by omega) (by omega) ⟨fun j hj => absurd hj (by omega), fun _ _ _ => rfl⟩
  have e5' : f_X7_again_22_L185 N sc _ N 0 a4 = _ := e5
  have k1 : a1 22 = ar 22 := i1.2 22 (by decide)
  have k2 : a2 22 = ar 22 := by rw [i2.2 22 (by decide) (by decide) (by decide) (by decide) (by decide) (by decide) (by decide), k1]
  have k3 : a3 22 = ar 22 := by rw [i3.2 22 (by decide) (by decide), k2]
  have k4 : a4 22 = ar 22 := by rw [i4.2 22 (by decide), k3]
  have k5 : a5 22 = ar 22 := by rw [i5.2 22 (by decide) (by decide), k4]
  refine ⟨upd (upd (upd (upd (upd (upd sc 0 (ar 22 134)) 2 (ar 22 135)) 6 (ar 22 136)) 9 (ar 22 137)) 14 (ar 22 138)) 15 (ar 22 139), a5, (show _ = _ from e1').trans ((show _ = _ from e2').trans ((show _ = _ from e3').trans ((show _ = _ from e4').trans ((show _ = _ from e5').trans ?_)))), ⟨?_, ?_, ?_, ?_, ?_, ?_⟩, ?_, ?_⟩
  · unfold AZ22
    simp only [if_neg (show ¬ oob (134 : Int32) 150 by decide), if_neg (show ¬ oob (135 : Int32) 150 by decide), if_neg (show ¬ oob (136 : Int32) 150 by decide), if_neg (show ¬ oob (137 : Int32) 150 by decide), if_neg (show ¬ oob (138 : Int32) 150 by decide), if_neg (show ¬ oob (139 : Int32) 150 by decide), k5]
    rfl
  · intro j hj
    rw [i5.2 1 (by decide) (by decide), i4.2 1 (by decide), i3.2 1 (by decide) (by decide), i2.2 1 (by decide) (by decide) (by decide) (by decide) (by decide) (by decide) (by decide)]
    exact i1.1 j hj
  · intro j hj
    rw [i5.2 3 (by decide) (by decide), i4.2 3 (by decide), i3.2 3 (by decide) (by decide), i5.2 4 (by decide) (by decide), i4.2 4 (by decide), i3.2 4 (by decide) (by decide), i5.2 5 (by decide) (by decide), i4.2 5 (by decide), i3.2 5 (by decide) (by decide), i5.2 10 (by decide) (by decide), i4.2 10 (by decide), i3.2 10 (by decide) (by decide), i5.2 11 (by decide) (by decide), i4.2 11 (by decide), i3.2 11 (by decide) (by decide), i5.2 12 (by decide) (by decide), i4.2 12 (by decide), i3.2 12 (by decide) (by decide), i5.2 13 (by decide) (by decide), i4.2 13 (by decide), i3.2 13 (by decide) (by decide)]
    have := i2.1 j hj
    rw [k1] at this
    exact this
  · intro j hj
    rw [i5.2 7 (by decide) (by decide), i4.2 7 (by decide), i5.2 8 (by decide) (by decide), i4.2 8 (by decide)]
    have := i3.1 j hj
    rw [k2] at this
    exact this
  · intro j hj
    rw [i5.2 16 (by decide) (by decide)]
    have := i4.1 j hj
    rw [k3] at this
    exact this
  · intro j hj
    have := i5.1 j hj
    rw [k4] at this
    exact this
  · simp (disch := decide) only [ud_ne, ud_eq, and_self]
  · intro j hj
    rw [ud_ne (by omega), ud_ne (by omega), ud_ne (by omega), ud_ne (by omega), ud_ne (by omega), ud_ne (by omega)]
  · intro r hr
    rw [i5.2 r (by omega) (by omega), i4.2 r (by omega), i3.2 r (by omega) (by omega), i2.2 r (by omega) (by omega) (by omega) (by omega) (by omega) (by omega) (by omega), i1.2 r (by omega)]
theorem MA_KP {A : AS} (hw : WF A) {sc sc' : S1} {ar ar' : S2} {K : Nat → Int32} (g : MA A sc ar) (h : KP sc ar K) (h' : KP sc' ar' K) : MA A sc' ar' := by
  obtain ⟨⟨m00, m01, m02, m03, m04, m05⟩, m1, m2, m3, m4, m5⟩ := g
  obtain ⟨a1, a2, a3, a4, a5, a6⟩ := h
  obtain ⟨b1, b2, b3, b4, b5, b6⟩ := h'
  obtain ⟨w0, w1, w2, w3, w4, w5⟩ := hw
  refine ⟨⟨?_, ?_, ?_, ?_, ?_, ?_⟩, ?_, ?_, ?_, ?_, ?_⟩
  · rw [← b6.1, a6.1]; exact m00
  · rw [← b6.2.1, a6.2.1]; exact m01
  · rw [← b6.2.2.1, a6.2.2.1]; exact m02
  · rw [← b6.2.2.2.1, a6.2.2.2.1]; exact m03
  · rw [← b6.2.2.2.2.1, a6.2.2.2.2.1]; exact m04
  · rw [← b6.2.2.2.2.2, a6.2.2.2.2.2]; exact m05
  · intro c hc
    rw [← b1 c (by omega), a1 c (by omega)]; exact m1 c hc
  · intro i hi
    have x := a2 i (by omega)
    have y := b2 i (by omega)
    rw [← y.1, ← y.2.1, ← y.2.2.1, x.1, x.2.1, x.2.2.1]; exact m2 i hi
  · intro i hi
    have x := a3 i (by omega)
    have y := b3 i (by omega)
    rw [← y.1, ← y.2, x.1, x.2]; exact m3 i hi
  · intro i hi
    have x := a2 i (by omega)
    have y := b2 i (by omega)
    rw [← y.2.2.2.1, ← y.2.2.2.2.1, ← y.2.2.2.2.2.1, ← y.2.2.2.2.2.2, x.2.2.2.1, x.2.2.2.2.1, x.2.2.2.2.2.1, x.2.2.2.2.2.2]; exact m4 i hi
  · intro i hi
    have x := a5 i (by omega)
    have y := b5 i (by omega)
    have z := w5 i hi
    rw [← y.1, ← y.2, x.1, x.2]
    refine ⟨(m5 i hi).1, (m5 i hi).2.1, ?_⟩
    intro j hj
    rw [← b4 (7 * i + j) (by omega), a4 (7 * i + j) (by omega)]
    exact (m5 i hi).2.2 j hj
