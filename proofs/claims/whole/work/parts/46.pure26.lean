-- ===== parts of a whole: mean, down =====
def iL (z : Int) : Int64 := Int64.ofInt z
theorem iL_ti {a : Int} (h1 : -2147483648 ≤ a) (h2 : a < 2147483648) : (iL a).toInt = a := Int64.toInt_ofInt_of_le (by omega) (by omega)
theorem iL_eq {a b : Int} (h1 : -2147483648 ≤ a) (h2 : a < 2147483648) (h3 : -2147483648 ≤ b) (h4 : b < 2147483648) : (iL a = iL b) ↔ a = b := by rw [← Int64.toInt_inj, iL_ti h1 h2, iL_ti h3 h4]
theorem iL_add (a b : Int) : iL a + iL b = iL (a + b) := (Int64.ofInt_add a b).symm
theorem iL_sub (a b : Int) : iL a - iL b = iL (a - b) := (Int64.ofInt_sub a b).symm
theorem iL_mul (a b : Int) : iL a * iL b = iL (a * b) := (Int64.ofInt_mul a b).symm
theorem iI_iL {a : Int} (h1 : -2147483648 ≤ a) (h2 : a < 2147483648) : (iI a).toInt64 = iL a := by rw [← Int64.toInt_inj, Int32.toInt_toInt64, iI_ti h1 h2, iL_ti h1 h2]
theorem iL_z : (0 : Int64) = iL 0 := Eq.trans (Int64.ofInt_toInt 0).symm rfl
theorem iL_o : (1 : Int64) = iL 1 := Eq.trans (Int64.ofInt_toInt 1).symm rfl
theorem iL_div {a b : Int} (h1 : 0 ≤ a) (h2 : a < 2147483648) (h3 : 0 < b) (h4 : b < 2147483648) : iL a / iL b = iL (a / b) := by
  have q1 : 0 ≤ a / b := Int.ediv_nonneg h1 (by omega)
  have q2 : a / b ≤ a := Int.ediv_le_self b h1
  rw [← Int64.toInt_inj, Int64.toInt_div, iL_ti (by omega) h2, iL_ti (by omega) h4, iL_ti (by omega) (by omega), Int.tdiv_eq_ediv_of_nonneg h1]
  apply Int.bmod_eq_of_le <;> omega
theorem md_I {a b : Nat} (h2 : a < 2147483648) (h3 : 0 < b) (h4 : b < 2147483648) : iI (a : Int) - iI (a : Int) / iI (b : Int) * iI (b : Int) = iI ((a % b : Nat) : Int) := by
  rw [iI_div (by omega) (by omega) (by omega) (by omega), iI_mul, iI_sub]
  congr 1
  have := Int.emod_add_mul_ediv (a : Int) (b : Int)
  rw [Int.natCast_emod, Int.mul_comm]
  omega
theorem md_L {a b : Nat} (h2 : a < 2147483648) (h3 : 0 < b) (h4 : b < 2147483648) : iL (a : Int) - iL (a : Int) / iL (b : Int) * iL (b : Int) = iL ((a % b : Nat) : Int) := by
  rw [iL_div (by omega) (by omega) (by omega) (by omega), iL_mul, iL_sub]
  congr 1
  have := Int.emod_add_mul_ediv (a : Int) (b : Int)
  rw [Int.natCast_emod, Int.mul_comm]
  omega
theorem gcd_st (a b : Nat) : Nat.gcd a b = Nat.gcd b (a % b) := by rw [Nat.gcd_comm a b, Nat.gcd_rec b a, Nat.gcd_comm]
theorem half_md {b r : Nat} (h : r < b) (h0 : 0 < r) : 2 * (b % r) < b := by
  have h1 := Nat.mod_lt b h0
  by_cases c : 2 * r ≤ b
  · omega
  · rw [Nat.mod_eq_sub_mod (by omega), Nat.mod_eq_of_lt (by omega)]; omega
section PC26
variable {N : Nat} {A : AS} {s : S1} {a t : S2} {p : S1} {q : S2} {sc : S1} {ar : S2} {aX : S2}
theorem gcd_6 {β : Type} {kx : Int32 → Option β} : ∀ (k a b c n : Nat), b < 2 ^ k → a < 2147483648 → b < 2147483648 → c + 2 * k < 1000 → 2 * k < n → f_X6_commonDivisor_L7 N kx n (iI a) (iI b) (iI c) = kx (iI (Nat.gcd a b)) := by
  intro k
  induction k with
  | zero =>
    intro a b c n h1 h2 h3 h4 h5
    obtain ⟨m, rfl⟩ : ∃ m, n = m + 1 := ⟨n - 1, by omega⟩
    rw [f_X6_commonDivisor_L7, if_neg (show ¬ 1000 ≤ iI (c : Int) from nle_iI (a := 1000) (by omega) (by omega) (by omega)), if_pos (by rw [iI_eq0 (by omega) (by omega)]; omega), show b = 0 by omega, Nat.gcd_zero_right]
  | succ k ih =>
    intro a b c n h1 h2 h3 h4 h5
    obtain ⟨m, rfl⟩ : ∃ m, n = m + 1 := ⟨n - 1, by omega⟩
    rw [f_X6_commonDivisor_L7, if_neg (show ¬ 1000 ≤ iI (c : Int) from nle_iI (a := 1000) (by omega) (by omega) (by omega))]
    by_cases z : b = 0
    · rw [if_pos (by rw [iI_eq0 (by omega) (by omega)]; omega), z, Nat.gcd_zero_right]
    have nz : ¬ iI (b : Int) = 0 := by rw [iI_eq0 (by omega) (by omega)]; omega
    rw [if_neg nz, if_neg nz, md_I h2 (by omega) h3, iI_succ, gcd_st a b]
    have hr := Nat.mod_lt a (show 0 < b by omega)
    generalize a % b = r at hr ⊢
    obtain ⟨m, rfl⟩ : ∃ m', m = m' + 1 := ⟨m - 1, by omega⟩
    rw [f_X6_commonDivisor_L7, if_neg (show ¬ 1000 ≤ iI ((c + 1 : Nat) : Int) from nle_iI (a := 1000) (by omega) (by omega) (by omega))]
    by_cases z2 : r = 0
    · rw [if_pos (by rw [iI_eq0 (by omega) (by omega)]; omega), z2, Nat.gcd_zero_right]
    have nz2 : ¬ iI (r : Int) = 0 := by rw [iI_eq0 (by omega) (by omega)]; omega
    have hh := half_md hr (by omega)
    rw [if_neg nz2, if_neg nz2, md_I h3 (by omega) (by omega), iI_succ, gcd_st b r]
    rw [Nat.pow_succ] at h1
    exact ih r (b % r) (c + 1 + 1) m (by omega) (by omega) (by omega) (by omega) (by omega)
theorem gcd_7 {β : Type} {kx : Int64 → Option β} : ∀ (k a b n : Nat), b < 2 ^ k → a < 2147483648 → b < 2147483648 → 2 * k < n → f_X7_divisor_L6 N kx n (iL a) (iL b) = kx (iL (Nat.gcd a b)) := by
  intro k
  induction k with
  | zero =>
    intro a b n h1 h2 h3 h5
    obtain ⟨m, rfl⟩ : ∃ m, n = m + 1 := ⟨n - 1, by omega⟩
    rw [f_X7_divisor_L6, if_pos (by rw [lg_cmp_eq, iL_z, iL_eq (by omega) (by omega) (by omega) (by omega)]; omega), show b = 0 by omega, Nat.gcd_zero_right]
  | succ k ih =>
    intro a b n h1 h2 h3 h5
    obtain ⟨m, rfl⟩ : ∃ m, n = m + 1 := ⟨n - 1, by omega⟩
    rw [f_X7_divisor_L6]
    by_cases z : b = 0
    · rw [if_pos (by rw [lg_cmp_eq, iL_z, iL_eq (by omega) (by omega) (by omega) (by omega)]; omega), z, Nat.gcd_zero_right]
    have nz : ¬ iL (b : Int) = 0 := by rw [iL_z, iL_eq (by omega) (by omega) (by omega) (by omega)]; omega
    rw [if_neg (fun z => nz ((lg_cmp_eq _ _).1 z)), if_neg nz, md_L h2 (by omega) h3, gcd_st a b]
    have hr := Nat.mod_lt a (show 0 < b by omega)
    generalize a % b = r at hr ⊢
    obtain ⟨m, rfl⟩ : ∃ m', m = m' + 1 := ⟨m - 1, by omega⟩
    rw [f_X7_divisor_L6]
    by_cases z2 : r = 0
    · rw [if_pos (by rw [lg_cmp_eq, iL_z, iL_eq (by omega) (by omega) (by omega) (by omega)]; omega), z2, Nat.gcd_zero_right]
    have nz2 : ¬ iL (r : Int) = 0 := by rw [iL_z, iL_eq (by omega) (by omega) (by omega) (by omega)]; omega
    have hh := half_md hr (by omega)
    rw [if_neg (fun z => nz2 ((lg_cmp_eq _ _).1 z)), if_neg nz2, md_L h3 (by omega) (by omega), gcd_st b r]
    rw [Nat.pow_succ] at h1
    exact ih r (b % r) m (by omega) (by omega) (by omega) (by omega)
/-- the part of a whole, both told in lowest terms -/
theorem part_both (hN : 100 ≤ N) {x y : Nat} (hx : x < 2147483648) (hy : 0 < y) (hy2 : y < 2147483648) {w : Int} (hw : w = 0 ∨ w = 1) : ∃ r, f_X6_partOf N (iI x) (iI y) (iI w) = some r ∧ f_X7_part N (iL x) (iL y) (iI w) = some r := by
  have gp : 0 < Nat.gcd x y := Nat.gcd_pos_of_pos_right x hy
  have g2 : Nat.gcd x y ≤ y := Nat.gcd_le_right x hy
  have e1 : f_X6_commonDivisor N (iI x) (iI y) = some (iI (Nat.gcd x y)) := gcd_6 31 x y 0 N (by omega) hx hy2 (by omega) (by omega)
  have e2 : f_X7_divisor N (iL x) (iL y) = some (iL (Nat.gcd x y)) := gcd_7 31 x y N (by omega) hx hy2 (by omega)
  have ng : ¬ iI (Nat.gcd x y : Int) = 0 := by rw [iI_eq0 (by omega) (by omega)]; omega
  have nl : ¬ iL (Nat.gcd x y : Int) = 0 := by rw [iL_z, iL_eq (by omega) (by omega) (by omega) (by omega)]; omega
  have ny : ¬ iI (y : Int) = 0 := by rw [iI_eq0 (by omega) (by omega)]; omega
  unfold f_X6_partOf f_X7_part
  rw [e1, e2]
  simp only [Option.bind_some, if_neg ng, if_neg nl, if_neg ny]
  by_cases c : x = 0
  · subst c
    rw [if_pos (show iI ((0 : Nat) : Int) = 0 from rfl), Nat.gcd_zero_left]
    rcases hw with rfl | rfl
    · refine ⟨_, rfl, ?_⟩
      rw [if_pos (show iI 0 = 0 from rfl), if_pos (show iI 0 = 0 from rfl), iL_div (by omega) (by omega) (by omega) (by omega), Int.natCast_zero, Int.zero_ediv, iL_z]
    · refine ⟨_, rfl, ?_⟩
      rw [if_neg (show ¬ iI 1 = 0 by decide), if_neg (show ¬ iI 1 = 0 by decide), iL_div (by omega) (by omega) (by omega) (by omega), Int.ediv_self (by omega), iL_o]
  · have nx : ¬ iI (x : Int) = 0 := by rw [iI_eq0 (by omega) (by omega)]; omega
    rw [if_neg nx]
    have q1 : (0 : Int) ≤ (x : Int) / (Nat.gcd x y : Int) := Int.ediv_nonneg (by omega) (by omega)
    have q2 : (x : Int) / (Nat.gcd x y : Int) ≤ x := Int.ediv_le_self _ (by omega)
    have q3 : (0 : Int) ≤ (y : Int) / (Nat.gcd x y : Int) := Int.ediv_nonneg (by omega) (by omega)
    have q4 : (y : Int) / (Nat.gcd x y : Int) ≤ y := Int.ediv_le_self _ (by omega)
    rcases hw with rfl | rfl
    · rw [if_pos (show iI 0 = 0 from rfl), if_pos (show iI 0 = 0 from rfl), iL_div (by omega) (by omega) (by omega) (by omega), iI_div (by omega) (by omega) (by omega) (by omega), iI_iL (by omega) (by omega)]
      exact ⟨_, rfl, rfl⟩
    · rw [if_neg (show ¬ iI 1 = 0 by decide), if_neg (show ¬ iI 1 = 0 by decide), iL_div (by omega) (by omega) (by omega) (by omega), iI_div (by omega) (by omega) (by omega) (by omega), iI_iL (by omega) (by omega)]
      exact ⟨_, rfl, rfl⟩
theorem part_0 (hN : 100 ≤ N) {x : Nat} (hx : x < 2147483648) {w : Int} (hw : w = 0 ∨ w = 1) : f_X6_partOf N (iI x) (iI 0) (iI w) = some (iI w).toInt64 := by
  have e1 : f_X6_commonDivisor N (iI x) (iI 0) = some (iI (Nat.gcd x 0)) := gcd_6 31 x 0 0 N (by omega) hx (by omega) (by omega) (by omega)
  unfold f_X6_partOf
  rw [e1, Option.bind_some, if_pos (show iI 0 = 0 from rfl), ite_self]
  rcases hw with rfl | rfl
  · rw [if_pos (show iI 0 = 0 from rfl), iI_iL (by omega) (by omega), iL_z]
  · rw [if_neg (show ¬ iI 1 = 0 by decide), iI_iL (by omega) (by omega), iL_o]
theorem allA_bd (hw : WF A) : 0 ≤ allA A mT ∧ allA A mT ≤ 38400 := by
  have w0 := hw.1
  have := sumF_bd (f := fun i => allRow A mT i (A 9 0).toNat) (n := (A 6 0).toNat) (b := 7680) (fun i _ => by
    have := allRow_bd hw (m := mT) i (A 9 0).toNat (by omega)
    refine ⟨this.1, Int.le_trans this.2 ?_⟩
    omega)
  unfold allA
  refine ⟨this.1, Int.le_trans this.2 ?_⟩
  omega
theorem q_mean (hN : 100 ≤ N) (h : LA A s a t p q) (g : MA A sc ar) (hw : WF A) (hg : sc 25 = 0) {z : Int} (hz : -2147483648 ≤ z ∧ z < 2147483648) : QRY (fun c => (4000000000000000000 : Int64) - c.toInt64) aX ar (f_X6_mean N aX s a t (iI z)) (f_X7_mean N sc ar (iI z)) := by
  have w0 := hw.1
  have bd := allA_bd hw
  have i2 : f_X7_in N (iI z) 0 1 = some (bI (0 ≤ z ∧ z ≤ 1)) := x7_in (b := 0) (c := 1) hz.1 hz.2 (by omega) (by omega) (by omega) (by omega)
  unfold f_X6_mean f_X7_mean
  rw [i2]
  by_cases c1 : 0 ≤ z ∧ z ≤ 1
  · have cz : z = 0 ∨ z = 1 := by omega
    have e6 : f_X6_mean N aX s a t (iI z) = ((f_X1_allWarnings N s a t).bind fun r1 => ((f_X6_partOf N r1 ((s 6) * (s 9)) (iI z)).bind fun r2 => (some (r2, aX)))) := by
      unfold f_X6_mean
      rcases cz with rfl | rfl
      · rw [if_pos (show iI 0 = 0 from rfl)]
      · rw [if_neg (show ¬ iI 1 = 0 by decide), if_pos (show iI 1 = 1 from rfl)]
    have e6' := e6
    unfold f_X6_mean at e6'
    rw [e6', bI_t c1, x1_allWarnings hN h hw, x7_warnedAll hN g hw hg, h.1.2.2.1, h.1.2.2.2.1, g.1.2.2.1, g.1.2.2.2.1, iI_mul]
    simp only [Option.bind_some, if_neg one_ne]
    obtain ⟨x, hx⟩ : ∃ x : Nat, allA A mT = (x : Int) := ⟨(allA A mT).toNat, by omega⟩
    have hb : 0 ≤ A 6 0 * A 9 0 ∧ A 6 0 * A 9 0 ≤ 20 := by
      refine ⟨Int.mul_nonneg (by omega) (by omega), ?_⟩
      have h1 : A 6 0 * A 9 0 ≤ 5 * A 9 0 := Int.mul_le_mul_of_nonneg_right (by omega) (by omega)
      omega
    obtain ⟨y, hy⟩ : ∃ y : Nat, A 6 0 * A 9 0 = (y : Int) := ⟨(A 6 0 * A 9 0).toNat, by omega⟩
    rw [hx, hy]
    by_cases c : y = 0
    · subst c
      rw [if_pos (show iI ((0 : Nat) : Int) = 0 from rfl), show iI ((0 : Nat) : Int) = iI 0 from rfl, part_0 hN (by omega) cz]
      exact Or.inl ⟨_, rfl, rfl⟩
    · rw [if_neg (by rw [iI_eq0 (by omega) (by omega)]; omega), iI_iL (by omega) (by omega), iI_iL (by omega) (by omega)]
      obtain ⟨r, r1, r2⟩ := part_both (N := N) hN (x := x) (y := y) (by omega) (by omega) (by omega) cz
      rw [r1, r2]
      exact Or.inl ⟨_, rfl, rfl⟩
  · have n0 : ¬ iI z = 0 := by rw [iI_eq0 (by omega) (by omega)]; omega
    have n1 : ¬ iI z = 1 := by show ¬ iI z = iI 1; rw [iI_eq (by omega) (by omega) (by omega) (by omega)]; omega
    rw [if_neg n0, if_neg n1, bI_f c1]
    simp only [Option.bind_some, if_true]
    refine Or.inr ⟨-2, cod2, ?_, ?_⟩
    · rw [x6_refusedLong cod2]; rfl
    · rw [x7_far cod2]; rfl
end PC26
