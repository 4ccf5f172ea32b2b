-- ===== letter, count, copies, image, on =====
set_option maxRecDepth 100000 in
theorem nar_all : ∀ n : Fin 256, vp_nar .char (((iI (n.val : Int)).toUInt32 % 65536).toInt32) = iI (n.val : Int) := by decide
theorem nar_c {c : Int} (h : 0 ≤ c ∧ c ≤ 255) : vp_nar .char (((iI c).toUInt32 % 65536).toInt32) = iI c := by
  have := nar_all ⟨c.toNat, by omega⟩
  rw [show ((c.toNat : Nat) : Int) = c by omega] at this
  exact this
def LT (es : S1) (ea : S2) (sc : S1) (ar : S2) (n : Nat) : Prop := (n ≤ 120 ∧ es 0 = iI n ∧ sc 20 = iI n) ∧ ∀ i : Nat, i < n → ∃ c : Int, (0 ≤ c ∧ c ≤ 255) ∧ ea 2 i = iI c ∧ ar 19 i = iI c
section PC24
variable {N : Nat} {A : AS} {s : S1} {a t : S2} {p : S1} {q : S2} {sc : S1} {ar : S2} {aX : S2} {es : S1} {ea : S2}
theorem c_letter {n : Nat} (hl : LT es ea sc ar n) {z : Int} (hz : -2147483648 ≤ z ∧ z < 2147483648) : (∃ r es' ea' sc' ar', f_X6_letter N aX es ea (iI z) = some (r, aX, es', ea') ∧ f_X7_letter N sc ar (iI z) = some (r, sc', ar') ∧ LT es' ea' sc' ar' (n + 1) ∧ (∀ j, j ≠ 20 → sc' j = sc j) ∧ (∀ j, j ≠ 19 → ar' j = ar j)) ∨ (∃ c, cod c ∧ f_X6_letter N aX es ea (iI z) = some (c, rfA aX c, es, ea) ∧ f_X7_letter N sc ar (iI z) = some (c, sc, noA ar c)) := by
  obtain ⟨⟨h1, h2, h3⟩, h4⟩ := hl
  unfold f_X6_letter f_X0_add f_X7_letter
  simp only [x7_no cod4, x7_no cod6, Option.bind_some, h2, h3]
  by_cases c1 : 0 ≤ z
  · have e1 : 0 ≤ iI z := by rw [iI_0le hz.1 hz.2]; exact c1
    simp only [if_pos e1]
    by_cases c2 : 255 < z
    · simp only [if_pos (show 255 < iI z from lt_iI (a := 255) c2 (by omega) (by omega)), Option.bind_some, x6_counted_no cod6]
      exact Or.inr ⟨-6, cod6, rfl, rfl⟩
    simp only [if_neg (show ¬ 255 < iI z from nlt_iI (a := 255) (by omega) (by omega) (by omega))]
    by_cases c3 : n = 120
    · subst c3
      simp only [if_neg (show ¬ iI ((120 : Nat) : Int) < 120 by decide), if_pos (show iI ((120 : Nat) : Int) = 120 from rfl), Option.bind_some, x6_counted_no cod6]
      exact Or.inr ⟨-6, cod6, rfl, rfl⟩
    · have o1 : ¬ oob (iI (n : Int)) 120 := ob_nat (by omega) (by omega)
      have e2 : iI (n : Int) < 120 := lt_iI (b := 120) (by omega) (by omega) (by omega)
      have e3 : ¬ iI (n : Int) = 120 := by show ¬ iI (n : Int) = iI 120; rw [iI_eq (by omega) (by omega) (by omega) (by omega)]; omega
      have e4 : 0 ≤ iI ((n + 1 : Nat) : Int) := by rw [iI_0le (by omega) (by omega)]; omega
      simp only [if_pos e2, if_neg e3, if_neg o1, ix_nat (show n < 2147483648 by omega), iI_succ, Option.bind_some, x6_counted_yes e4, nar_c (show 0 ≤ z ∧ z ≤ 255 by omega)]
      refine Or.inl ⟨_, _, _, _, _, rfl, rfl, ⟨⟨by omega, ud_eq _ _ _, ud_eq _ _ _⟩, ?_⟩, fun j hj => ud_ne hj, fun j hj => vu_ne hj⟩
      intro i hi
      rw [vu_eq, vu_eq]
      by_cases e : i = n
      · subst e; exact ⟨z, by omega, ud_eq _ _ _, ud_eq _ _ _⟩
      · rw [ud_ne e, ud_ne e]; exact h4 i (by omega)
  · have e1 : ¬ 0 ≤ iI z := by rw [iI_0le hz.1 hz.2]; exact c1
    simp only [if_neg e1, Option.bind_some, x6_counted_no cod4]
    exact Or.inr ⟨-4, cod4, rfl, rfl⟩
theorem q_count (hN : 100 ≤ N) (h : LA A s a t p q) (g : MA A sc ar) (hw : WF A) (hg : sc 25 = 0) {n : Nat} (hl : LT es ea sc ar n) (hR : RFs aX ar) {z : Int} (hz : -2147483648 ≤ z ∧ z < 2147483648) : ∃ r, f_X6_count N aX es s a t p (iI z) = some r ∧ f_X7_count N sc ar (iI z) = some r := by
  obtain ⟨all, ea', hm⟩ := x1_all (N := N) h hw
  have i2 : f_X7_in N (iI z) 11 16 = some (bI (11 ≤ z ∧ z ≤ 16)) := x7_in (b := 11) (c := 16) hz.1 hz.2 (by omega) (by omega) (by omega) (by omega)
  obtain ⟨⟨l00, l01, l02, l03, l04, l05⟩, -⟩ := id h
  obtain ⟨⟨m00, m01, m02, m03, m04, m05⟩, -⟩ := id g
  unfold f_X6_count f_X7_count
  rw [i2, ea', x7_keptMany hN g hw hg]
  simp only [Option.bind_some, x1_keptPairs hN h hw hm, l00, l01, l02, l03, l04, l05, m00, m01, m02, m03, m04, m05, hl.1.2.1, hl.1.2.2]
  by_cases c1 : 11 ≤ z ∧ z ≤ 16
  · rw [bI_t c1]
    have n0 : ¬ iI z = 0 := by rw [iI_eq0 (by omega) (by omega)]; omega
    have n1 : ¬ iI z = 1 := by show ¬ iI z = iI 1; rw [iI_eq (by omega) (by omega) (by omega) (by omega)]; omega
    have n2 : ¬ iI z = 2 := by show ¬ iI z = iI 2; rw [iI_eq (by omega) (by omega) (by omega) (by omega)]; omega
    have n3 : ¬ iI z = 3 := by show ¬ iI z = iI 3; rw [iI_eq (by omega) (by omega) (by omega) (by omega)]; omega
    have n4 : ¬ iI z = 4 := by show ¬ iI z = iI 4; rw [iI_eq (by omega) (by omega) (by omega) (by omega)]; omega
    have n5 : ¬ iI z = 5 := by show ¬ iI z = iI 5; rw [iI_eq (by omega) (by omega) (by omega) (by omega)]; omega
    have n6 : ¬ iI z = 6 := by show ¬ iI z = iI 6; rw [iI_eq (by omega) (by omega) (by omega) (by omega)]; omega
    have n7 : ¬ iI z = 7 := by show ¬ iI z = iI 7; rw [iI_eq (by omega) (by omega) (by omega) (by omega)]; omega
    obtain ⟨k, hk⟩ : ∃ k : Nat, (k : Int) = z - 10 := ⟨(z - 10).toNat, by omega⟩
    have e1 : iI z - 10 = iI (k : Int) := by show iI z - iI 10 = _; rw [iI_sub, hk]
    have o1 : ¬ oob (iI (k : Int)) 7 := ob_nat (by omega) (by omega)
    simp only [if_neg one_ne, if_neg n0, if_neg n1, if_neg n2, if_neg n3, if_neg n4, if_neg n5, if_neg n6, if_neg n7, if_neg (show ¬ iI z ≤ 10 from nle_iI (b := 10) (by omega) (by omega) (by omega)), if_neg (show ¬ 16 < iI z from nlt_iI (a := 16) (by omega) (by omega) (by omega)), e1, if_neg o1, ix_nat (show k < 2147483648 by omega), Option.bind_some]
    exact ⟨_, rfl, by rw [hR k (by omega)]⟩
  · rw [bI_f c1]
    have key : ∀ o : Option Int32, (if iI z ≤ 10 then o else (if 16 < iI z then o else (if oob (iI z - 10) 7 then none else some (aX 8 (ix (iI z - 10)))))) = o := by
      intro o
      by_cases c2 : z ≤ 10
      · rw [if_pos (show iI z ≤ 10 from le_iI (b := 10) c2 (by omega) (by omega))]
      · rw [if_neg (show ¬ iI z ≤ 10 from nle_iI (b := 10) (by omega) (by omega) (by omega)), if_pos (show 16 < iI z from lt_iI (a := 16) (by omega) (by omega) (by omega))]
    rw [key]
    simp only [if_true, Option.bind_some]
    repeat' (split; exact ⟨_, rfl, rfl⟩)
    exact ⟨_, rfl, rfl⟩
/-- a copy of a line is that line -/
theorem x1_copyFrom (hN : 100 ≤ N) {s2 : S1} {a2 t2 : S2} {p2 : S1} {q2 : S2} (h : LA A s2 a2 t2 p2 q2) (hw : WF A) : ∃ s' a' t' p' q', f_X1_copyFrom N s a t p q s2 a2 t2 p2 q2 = some (s', a', t', p', q') ∧ LA A s' a' t' p' q' := by
  have w0 := hw.1
  obtain ⟨⟨l00, l01, l02, l03, l04, l05⟩, l1, l1b, l2, l3, l4, l5, l6⟩ := h
  have b24 : ¬ cpb 24 24 0 0 24 := by decide
  have b4 : ¬ cpb 4 4 0 0 4 := by decide
  have b5 : ¬ cpb 5 5 0 0 5 := by decide
  have b8 : ¬ cpb 8 8 0 0 8 := by decide
  have b56 : ¬ (cpb 56 56 0 0 56 ∨ cpc (q2 3) 0 56) := by
    rintro (c | c)
    · exact absurd c (by decide)
    · apply c
      intro i hi
      show fits .char (.int (q2 3 (0 + i))) = true
      rw [Nat.zero_add]
      exact l6 i hi
  have cp : ∀ (f g : Nat → Int32) (n i : Nat), i < n → va_cpy f g 0 0 n i = f i := by
    intro f g n i hi
    unfold va_cpy
    rw [if_pos (by omega), Nat.zero_add, Nat.sub_zero]
  unfold f_X1_copyFrom f_X3_copyFrom
  simp only [if_neg b24, if_neg b4, if_neg b5, if_neg b8, if_neg b56, Option.bind_some]
  obtain ⟨t', i1, e1⟩ := lp_inv (R := S1 × S2 × S2 × S1 × S2) (F := fun k i v => f_X1_copyFrom_L119 N (upd (upd (upd (upd s 0 (s2 0)) 2 (s2 2)) 6 (s2 6)) 9 (s2 9)) (va_up (va_up (va_up (va_up (va_up (va_up a 1 (va_cpy (a2 1) (a 1) (ix (0 : Int32)) (ix (0 : Int32)) (ix (24 : Int32)))) 3 (va_cpy (a2 3) (a 3) (ix (0 : Int32)) (ix (0 : Int32)) (ix (4 : Int32)))) 4 (va_cpy (a2 4) (a 4) (ix (0 : Int32)) (ix (0 : Int32)) (ix (4 : Int32)))) 5 (va_cpy (a2 5) (a 5) (ix (0 : Int32)) (ix (0 : Int32)) (ix (4 : Int32)))) 7 (va_cpy (a2 7) (a 7) (ix (0 : Int32)) (ix (0 : Int32)) (ix (5 : Int32)))) 8 (va_cpy (a2 8) (a 8) (ix (0 : Int32)) (ix (0 : Int32)) (ix (5 : Int32)))) p q s2 a2 t2 p2 q2 (fun t4 => some ((upd (upd (upd (upd (upd s 0 (s2 0)) 2 (s2 2)) 6 (s2 6)) 9 (s2 9)) 11 (s2 11)), (va_up (va_up (va_up (va_up (va_up (va_up a 1 (va_cpy (a2 1) (a 1) (ix (0 : Int32)) (ix (0 : Int32)) (ix (24 : Int32)))) 3 (va_cpy (a2 3) (a 3) (ix (0 : Int32)) (ix (0 : Int32)) (ix (4 : Int32)))) 4 (va_cpy (a2 4) (a 4) (ix (0 : Int32)) (ix (0 : Int32)) (ix (4 : Int32)))) 5 (va_cpy (a2 5) (a 5) (ix (0 : Int32)) (ix (0 : Int32)) (ix (4 : Int32)))) 7 (va_cpy (a2 7) (a 7) (ix (0 : Int32)) (ix (0 : Int32)) (ix (5 : Int32)))) 8 (va_cpy (a2 8) (a 8) (ix (0 : Int32)) (ix (0 : Int32)) (ix (5 : Int32)))), t4, (upd p 0 (p2 0)), (va_up (va_up (va_up q 1 (va_cpy (q2 1) (q 1) (ix (0 : Int32)) (ix (0 : Int32)) (ix (8 : Int32)))) 2 (va_cpy (q2 2) (q 2) (ix (0 : Int32)) (ix (0 : Int32)) (ix (8 : Int32)))) 3 (va_cpy (q2 3) (q 3) (ix (0 : Int32)) (ix (0 : Int32)) (ix (56 : Int32)))))) k (iI (i : Int)) v) (I := fun i v => ∀ j, j < i → v j 0 = t2 j 0 ∧ v j 1 = t2 j 1 ∧ v j 2 = t2 j 2 ∧ v j 3 = t2 j 3) (kx := fun t4 => some ((upd (upd (upd (upd (upd s 0 (s2 0)) 2 (s2 2)) 6 (s2 6)) 9 (s2 9)) 11 (s2 11)), (va_up (va_up (va_up (va_up (va_up (va_up a 1 (va_cpy (a2 1) (a 1) (ix (0 : Int32)) (ix (0 : Int32)) (ix (24 : Int32)))) 3 (va_cpy (a2 3) (a 3) (ix (0 : Int32)) (ix (0 : Int32)) (ix (4 : Int32)))) 4 (va_cpy (a2 4) (a 4) (ix (0 : Int32)) (ix (0 : Int32)) (ix (4 : Int32)))) 5 (va_cpy (a2 5) (a 5) (ix (0 : Int32)) (ix (0 : Int32)) (ix (4 : Int32)))) 7 (va_cpy (a2 7) (a 7) (ix (0 : Int32)) (ix (0 : Int32)) (ix (5 : Int32)))) 8 (va_cpy (a2 8) (a 8) (ix (0 : Int32)) (ix (0 : Int32)) (ix (5 : Int32)))), t4, (upd p 0 (p2 0)), (va_up (va_up (va_up q 1 (va_cpy (q2 1) (q 1) (ix (0 : Int32)) (ix (0 : Int32)) (ix (8 : Int32)))) 2 (va_cpy (q2 2) (q 2) (ix (0 : Int32)) (ix (0 : Int32)) (ix (8 : Int32)))) 3 (va_cpy (q2 3) (q 3) (ix (0 : Int32)) (ix (0 : Int32)) (ix (56 : Int32)))))) (n := 4)
    (by
      intro k v _
      rw [f_X1_copyFrom_L119, if_pos (by show iI 4 ≤ iI ((4 : Nat) : Int); exact le_iI (by omega) (by omega) (by omega))])
    (by
      intro k i v hi hI
      have o1 : ¬ oob (iI (i : Int)) 4 := ob_nat (by omega) (by omega)
      refine ⟨va_up v i (upd (upd (upd (upd (v i) 0 (t2 i 0)) 1 (t2 i 1)) 2 (t2 i 2)) 3 (t2 i 3)), ?_, ?_⟩
      · intro j hj
        by_cases e : j = i
        · subst e; rw [vu_eq]; simp (disch := decide) only [ud_ne, ud_eq, and_self]
        · rw [vu_ne e]; exact hI j (by omega)
      · rw [f_X1_copyFrom_L119, if_neg (by show ¬ iI 4 ≤ iI (i : Int); exact nle_iI (by omega) (by omega) (by omega)), if_neg o1, if_neg o1, ix_nat (by omega), iI_succ]
        rfl)
    N 0 t (by omega) (by omega) (fun j hj => absurd hj (by omega))
  refine ⟨_, _, t', _, _, e1, ⟨?_, ?_, ?_, ?_, ?_, ?_⟩, ?_, ?_, ?_, ?_, ?_, ?_, ?_⟩
  · simp (disch := decide) only [ud_ne, ud_eq]; exact l00
  · simp (disch := decide) only [ud_ne, ud_eq]; exact l01
  · simp (disch := decide) only [ud_ne, ud_eq]; exact l02
  · simp (disch := decide) only [ud_ne, ud_eq]; exact l03
  · simp (disch := decide) only [ud_ne, ud_eq]; exact l04
  · simp (disch := decide) only [ud_ne, ud_eq]; exact l05
  · intro c hc
    simp (disch := decide) only [vu_ne, vu_eq]
    exact (cp _ _ 24 c (by omega)).trans (l1 c hc)
  · intro c hc hc2
    simp (disch := decide) only [vu_ne, vu_eq]
    exact (cp _ _ 24 c (by omega)).trans (l1b c hc hc2)
  · intro i hi
    simp (disch := decide) only [vu_ne, vu_eq]
    exact ⟨(cp _ _ 4 i (by omega)).trans (l2 i hi).1, (cp _ _ 4 i (by omega)).trans (l2 i hi).2.1, (cp _ _ 4 i (by omega)).trans (l2 i hi).2.2⟩
  · intro i hi
    simp (disch := decide) only [vu_ne, vu_eq]
    exact ⟨(cp _ _ 5 i (by omega)).trans (l3 i hi).1, (cp _ _ 5 i (by omega)).trans (l3 i hi).2⟩
  · intro i hi
    have := i1 i (by omega)
    rw [this.1, this.2.1, this.2.2.1, this.2.2.2]
    exact l4 i hi
  · intro i hi
    have w5 := hw.2.2.2.2.2 i hi
    simp (disch := decide) only [vu_ne, vu_eq]
    refine ⟨(cp _ _ 8 i (by omega)).trans (l5 i hi).1, (cp _ _ 8 i (by omega)).trans (l5 i hi).2.1, ?_⟩
    intro j hj
    exact (cp _ _ 56 _ (by omega)).trans ((l5 i hi).2.2 j hj)
  · intro i hi
    simp (disch := decide) only [vu_eq]
    have e : va_cpy (q2 3) (q 3) (ix (0 : Int32)) (ix (0 : Int32)) (ix (56 : Int32)) i = q2 3 i := cp _ _ 56 i hi
    rw [e]
    exact l6 i hi
end PC24
