-- ===== down =====
def prF (f : Nat → Int) : Nat → Int
  | 0 => 1
  | n + 1 => prF f n * f n
theorem prF_cg {f g : Nat → Int} {n : Nat} (h : ∀ i, i < n → f i = g i) : prF f n = prF g n := by
  induction n with
  | zero => rfl
  | succ n ih => rw [prF, prF, ih (fun i hi => h i (by omega)), h n (by omega)]
theorem prF_bd {f : Nat → Int} {n : Nat} {b : Nat} (h : ∀ i, i < n → 0 ≤ f i ∧ f i ≤ b) : 0 ≤ prF f n ∧ prF f n ≤ ((b ^ n : Nat) : Int) := by
  induction n with
  | zero => simp [prF]
  | succ n ih =>
    have h1 := ih (fun i hi => h i (by omega))
    have h2 := h n (by omega)
    rw [prF, Nat.pow_succ, Int.natCast_mul]
    exact ⟨Int.mul_nonneg h1.1 h2.1, Int.mul_le_mul h1.2 h2.2 h2.1 (by omega)⟩
theorem sumF_l (f : Nat → Int) (n : Nat) : sumF f (n + 1) = f 0 + sumF (fun i => f (i + 1)) n := by
  induction n with
  | zero => simp [sumF]
  | succ n ih => rw [sumF, ih, sumF]; omega
theorem sumF_rev (f : Nat → Int) (n : Nat) : sumF f n = sumF (fun i => f (n - 1 - i)) n := by
  induction n generalizing f with
  | zero => rfl
  | succ n ih =>
    rw [sumF_l, sumF, ih (fun i => f (i + 1)), Int.add_comm]
    congr 1
    · apply sumF_cg
      intro i hi
      show f (n - 1 - i + 1) = f (n + 1 - 1 - i)
      congr 1; omega
    · show f 0 = f (n + 1 - 1 - n)
      congr 1; omega
def popF (k : Nat) : Nat → Nat
  | 0 => 0
  | n + 1 => popF k n + (if k.testBit n then 1 else 0)
theorem pop_pr (x : Int) (k n : Nat) : x ^ popF k n = prF (fun i => if k.testBit i then x else 1) n := by
  induction n with
  | zero => rw [popF, prF, Int.pow_zero]
  | succ n ih =>
    rw [popF, prF, ← ih]
    split
    · rw [Int.pow_succ]
    · rw [Nat.add_zero, Int.mul_one]
theorem bc_all : ∀ b : Fin 5, ∀ k : Fin 16, k.val < 2 ^ b.val → f_J6_bitCount_0f7a4 0 (iI (k.val : Int)) = some (iI (popF k.val b.val : Int)) := by decide
theorem mk_all : ∀ k : Fin 16, ∀ i : Fin 4, (((iI (k.val : Int) >>> (iI (i.val : Int) &&& 31)) &&& 1) = 1) = (k.val.testBit i.val = true) := by
  intro k i
  apply propext
  revert k i
  decide
theorem sh_all : ∀ b : Fin 5, (1 : Int32) <<< (iI (b.val : Int) &&& 31) = iI ((2 ^ b.val : Nat) : Int) := by decide
theorem sh_b {b : Nat} (h : b ≤ 4) : (1 : Int32) <<< (iI (b : Int) &&& 31) = iI ((2 ^ b : Nat) : Int) := sh_all ⟨b, by omega⟩
theorem cm_all : ∀ b : Fin 5, ∀ k : Fin 16, ∀ i : Fin 4, k.val < 2 ^ b.val → i.val < b.val → (2 ^ b.val - 1 - k.val).testBit i.val = !k.val.testBit i.val := by decide
section PC27
variable {N : Nat} {A : AS} {s : S1} {a t : S2} {p : S1} {q : S2} {sc : S1} {ar : S2} {aX : S2}
theorem x6_power (hN : 100 ≤ N) {x : Int} {n : Nat} (hn : n ≤ 10) : f_X6_power N (iI x) (iI n) = some (iI (x ^ n)) := by
  unfold f_X6_power
  have z := lp_all (F := fun k i => f_X6_power_L4 N (iI x) (iI n) (fun x2_1 => some x2_1) k (iI (x ^ i)) (iI (i : Int))) (n := n)
    (by
      intro k
      rw [f_X6_power_L4, if_pos (le_iI (by omega) (by omega) (by omega))])
    (by
      intro k i hi
      rw [f_X6_power_L4, if_neg (nle_iI (by omega) (by omega) (by omega)), iI_mul, iI_succ, Int.pow_succ])
    N 0 (by omega) (by omega)
  rw [Int.pow_zero] at z
  exact z
theorem x7_pow {β : Type} (hN : 100 ≤ N) {x : Int} (hx : 0 ≤ x ∧ x ≤ 20) {v2 : Int32} {v4 : Int64} {n : Nat} (hn : n ≤ 10) {kx : Int64 → Option β} : f_X7_down_L63 N sc ar (iI x) v2 (iI n) v4 kx N 1 0 = kx (iL (x ^ n)) := by
  rw [iL_o]
  have z := lp_all (F := fun k i => f_X7_down_L63 N sc ar (iI x) v2 (iI n) v4 kx k (iL (x ^ i)) (iI (i : Int))) (n := n)
    (by
      intro k
      rw [f_X7_down_L63, if_pos (le_iI (by omega) (by omega) (by omega))])
    (by
      intro k i hi
      rw [f_X7_down_L63, if_neg (nle_iI (by omega) (by omega) (by omega)), iI_iL (by omega) (by omega), iL_mul, iI_succ, Int.pow_succ])
    N 0 (by omega) (by omega)
  rw [Int.pow_zero] at z
  exact z
noncomputable def wayC (A : AS) (x : Int) (b k : Nat) : Int := @ite _ (safeA A (fun i => k.testBit i = true)) (Classical.propDecidable _) (prF (fun i => if k.testBit i then x - 1 else 1) b) 0
noncomputable def wayM (A : AS) (x : Int) (b k : Nat) : Int := @ite _ (safeA A (fun i => ¬ k.testBit i = true)) (Classical.propDecidable _) (prF (fun i => if k.testBit i then 1 else x - 1) b) 0
theorem BR_mk {m m' : Nat → Prop} (h : ∀ i : Nat, (i : Int) < A 2 0 → (m i ↔ m' i)) : BR A m = BR A m' := by
  funext c lo hi
  apply propext
  constructor
  · rintro ⟨i, h1, h2, h3⟩; exact ⟨i, h1, (h i h1).1 h2, h3⟩
  · rintro ⟨i, h1, h2, h3⟩; exact ⟨i, h1, (h i h1).2 h2, h3⟩
theorem BD_BR {m : Nat → Prop} : BD A m = fun c => ∃ lo hi, BR A m c lo hi := by
  funext c
  apply propext
  constructor
  · rintro ⟨i, h1, h2, h3⟩; exact ⟨_, _, i, h1, h2, h3, rfl, rfl⟩
  · rintro ⟨lo, hi, i, h1, h2, h3, -, -⟩; exact ⟨i, h1, h2, h3⟩
theorem safeA_mk {m m' : Nat → Prop} (h : ∀ i : Nat, (i : Int) < A 2 0 → (m i ↔ m' i)) : safeA A m ↔ safeA A m' := by
  unfold safeA wP wA
  rw [BD_BR, BD_BR, BR_mk h]
theorem way_sum {x : Int} {b : Nat} (hb : b ≤ 4) (hb2 : (b : Int) = A 2 0) : sumF (wayC A x b) (2 ^ b) = sumF (wayM A x b) (2 ^ b) := by
  rw [sumF_rev]
  apply sumF_cg
  intro k hk
  have hp : 2 ^ b ≤ 2 ^ 4 := Nat.pow_le_pow_right (by decide) hb
  have hc : ∀ i : Nat, i < b → (2 ^ b - 1 - k).testBit i = !k.testBit i := fun i hi => cm_all ⟨b, by omega⟩ ⟨k, by omega⟩ ⟨i, by omega⟩ hk hi
  have e1 : safeA A (fun i => (2 ^ b - 1 - k).testBit i = true) ↔ safeA A (fun i => ¬ k.testBit i = true) := safeA_mk (fun i hi => by
    show (2 ^ b - 1 - k).testBit i = true ↔ ¬ k.testBit i = true
    rw [hc i (by omega)]
    cases k.testBit i <;> simp)
  have e2 : prF (fun i => if (2 ^ b - 1 - k).testBit i then x - 1 else 1) b = prF (fun i => if k.testBit i then 1 else x - 1) b := prF_cg (fun i hi => by
    show (if (2 ^ b - 1 - k).testBit i then x - 1 else 1) = if k.testBit i then 1 else x - 1
    rw [hc i hi]
    cases k.testBit i <;> simp)
  show wayC A x b (2 ^ b - 1 - k) = wayM A x b k
  unfold wayC wayM
  rw [e2]
  by_cases c : safeA A (fun i => ¬ k.testBit i = true)
  · rw [cI_t c, cI_t (e1.2 c)]
  · rw [cI_f c, cI_f (fun z => c (e1.1 z))]
theorem wayC_bd {x : Int} (hx : 2 ≤ x ∧ x ≤ 20) {b k : Nat} (hb : b ≤ 4) : 0 ≤ wayC A x b k ∧ wayC A x b k ≤ 160000 := by
  have h1 := prF_bd (f := fun i => if k.testBit i then x - 1 else 1) (n := b) (b := 20) (fun i _ => by
    show 0 ≤ (if k.testBit i then x - 1 else 1) ∧ (if k.testBit i then x - 1 else 1) ≤ ((20 : Nat) : Int)
    split <;> omega)
  have h2 : 20 ^ b ≤ 20 ^ 4 := Nat.pow_le_pow_right (by decide) hb
  unfold wayC
  by_cases c : safeA A (fun i => k.testBit i = true)
  · rw [cI_t c]; omega
  · rw [cI_f c]; omega
theorem x6_safeWays (hN : 100 ≤ N) (h : LA A s a t p q) (hw : WF A) {x : Int} {b : Nat} (hb2 : (b : Int) = A 2 0) : f_X6_safeWays N s a t (iI x) = some (iI (sumF (wayC A x b) (2 ^ b))) := by
  have w0 := hw.1
  have hb : b ≤ 4 := by omega
  have hp : 2 ^ b ≤ 2 ^ 4 := Nat.pow_le_pow_right (by decide) hb
  have hp1 : 1 ≤ 2 ^ b := Nat.pos_of_ne_zero (by simp)
  unfold f_X6_safeWays
  rw [x1_all' h, ← hb2, sh_b hb, Option.bind_some]
  have e0 : iI ((2 ^ b : Nat) : Int) - 1 = iI ((2 ^ b : Nat) - 1 : Int) := iI_sub _ 1
  rw [e0]
  exact lp_all (F := fun n k => f_X6_safeWays_L13 N s a t (iI x) (iI ((2 ^ b : Nat) - 1 : Int)) (fun x2_7 => some x2_7) n (iI (sumF (wayC A x b) k)) (iI (k : Int))) (n := 2 ^ b)
    (by
      intro k
      rw [f_X6_safeWays_L13, if_pos (lt_iI (by omega) (by omega) (by omega))])
    (by
      intro n k hk
      rw [f_X6_safeWays_L13, if_neg (nlt_iI (by omega) (by omega) (by omega))]
      have hm : MK (iI (k : Int)) (fun i => k.testBit i = true) (A 2 0) := by
        intro i hi
        rw [mk_all ⟨k, by omega⟩ ⟨i, by omega⟩]
      rw [x1_isSafe hN h hw hm, Option.bind_some]
      have e5 : f_J6_bitCount_0f7a4 N (iI (k : Int)) = some (iI (popF k b : Int)) := bc_all ⟨b, by omega⟩ ⟨k, by omega⟩ hk
      have hpop : ∀ n, popF k n ≤ n := by
        intro n
        induction n with
        | zero => exact Nat.le_refl 0
        | succ n ih => rw [popF]; split <;> omega
      have hpb := hpop b
      have e6 : iI x - 1 = iI (x - 1) := iI_sub x 1
      rw [e5, Option.bind_some, e6, x6_power hN (by omega), Option.bind_some, iI_succ, pop_pr, sumF]
      by_cases c : safeA A (fun i => k.testBit i = true)
      · rw [bI_t c, if_neg one_ne, Option.bind_some, iI_add]
        congr 2
        unfold wayC
        rw [cI_t c]
      · rw [bI_f c, if_pos rfl, Option.bind_some]
        have e7 : wayC A x b k = 0 := by unfold wayC; rw [cI_f c]
        rw [e7, Int.add_zero])
    N 0 (by omega) (by omega)
/-- some bridges felled from the top: B is A with the bridges from j up thinned to those that m keeps -/
def THN (A B : AS) (m : Nat → Prop) (j : Nat) : Prop := ((j : Int) ≤ B 2 0 ∧ B 2 0 ≤ A 2 0 ∧ ∀ k, k ≠ 2 → ¬ R3 k → B k = A k) ∧ (∀ i : Nat, i < j → B 3 i = A 3 i ∧ B 4 i = A 4 i ∧ B 5 i = A 5 i) ∧ ∀ c lo hi : Int, (∃ i : Nat, j ≤ i ∧ (i : Int) < B 2 0 ∧ B 3 i = c ∧ B 4 i = lo ∧ B 5 i = hi) ↔ (∃ i : Nat, j ≤ i ∧ (i : Int) < A 2 0 ∧ m i ∧ A 3 i = c ∧ A 4 i = lo ∧ A 5 i = hi)
theorem THN_0 {m : Nat → Prop} {j : Nat} (h : (j : Int) = A 2 0) : THN A A m j := by
  refine ⟨⟨by omega, by omega, fun _ _ _ => rfl⟩, fun _ _ => ⟨rfl, rfl, rfl⟩, ?_⟩
  intro c lo hi
  constructor
  · rintro ⟨i, h1, h2, -⟩; omega
  · rintro ⟨i, h1, h2, -⟩; omega
theorem THN_keep {B : AS} {m : Nat → Prop} {j : Nat} (h : THN A B m (j + 1)) (hm : m j) : THN A B m j := by
  obtain ⟨⟨a1, a2, a3⟩, a4, a5⟩ := h
  refine ⟨⟨by omega, a2, a3⟩, fun i hi => a4 i (by omega), ?_⟩
  intro c lo hi
  have h4 := a4 j (by omega)
  constructor
  · rintro ⟨i, h1, h2, h3⟩
    rcases Nat.eq_or_lt_of_le h1 with e | e
    · subst e
      rw [h4.1, h4.2.1, h4.2.2] at h3
      exact ⟨j, h1, by omega, hm, h3⟩
    · obtain ⟨i', x1, x2⟩ := (a5 c lo hi).1 ⟨i, e, h2, h3⟩
      exact ⟨i', by omega, x2⟩
  · rintro ⟨i, h1, h2, h3, h5⟩
    rcases Nat.eq_or_lt_of_le h1 with e | e
    · subst e
      exact ⟨j, h1, by omega, by rw [h4.1, h4.2.1, h4.2.2]; exact h5⟩
    · obtain ⟨i', x1, x2⟩ := (a5 c lo hi).2 ⟨i, e, h2, h3, h5⟩
      exact ⟨i', by omega, x2⟩
theorem THN_fell {B : AS} {m : Nat → Prop} {j : Nat} (h : THN A B m (j + 1)) (hm : ¬ m j) : THN A (delA B j) m j := by
  obtain ⟨⟨a1, a2, a3⟩, a4, a5⟩ := h
  refine ⟨⟨by rw [delA_2]; omega, by rw [delA_2]; omega, fun k hk hk3 => by rw [delA_row hk hk3]; exact a3 k hk hk3⟩, ?_, ?_⟩
  · intro i hi
    simp (disch := decide) only [delA_3]
    rw [if_neg (by omega)]; exact a4 i (by omega)
  · intro c lo hi
    simp (disch := decide) only [delA_3, delA_2]
    constructor
    · rintro ⟨i, h1, h2, h3⟩
      rw [if_pos h1] at h3
      obtain ⟨i', x1, x2⟩ := (a5 c lo hi).1 ⟨i + 1, by omega, by omega, h3⟩
      exact ⟨i', by omega, x2⟩
    · rintro ⟨i, h1, h2, h3, h5⟩
      have ne : i ≠ j := fun e => hm (e ▸ h3)
      obtain ⟨i', x1, x2, x3⟩ := (a5 c lo hi).2 ⟨i, by omega, h2, h3, h5⟩
      refine ⟨i' - 1, by omega, by omega, ?_⟩
      rw [if_pos (by omega), show i' - 1 + 1 = i' by omega]
      exact x3
theorem THN_safe {B : AS} {m : Nat → Prop} (h : THN A B m 0) : safeA B mT ↔ safeA A m := by
  obtain ⟨⟨a1, a2, a3⟩, a4, a5⟩ := h
  have e : BR B mT = BR A m := by
    funext c lo hi
    apply propext
    have := a5 c lo hi
    constructor
    · rintro ⟨i, h1, -, h3⟩
      obtain ⟨i', -, x⟩ := this.1 ⟨i, by omega, h1, h3⟩
      exact ⟨i', x⟩
    · rintro ⟨i, h1, h2, h3⟩
      obtain ⟨i', -, x, y⟩ := this.2 ⟨i, by omega, h1, h2, h3⟩
      exact ⟨i', x, trivial, y⟩
  unfold safeA wP wA
  rw [BD_BR, BD_BR, e]
  simp only [a3 0 (by decide) (by decide), a3 1 (by decide) (by decide), a3 6 (by decide) (by decide), a3 7 (by decide) (by decide), a3 8 (by decide) (by decide), a3 9 (by decide) (by decide), a3 10 (by decide) (by decide), a3 11 (by decide) (by decide), a3 12 (by decide) (by decide), a3 13 (by decide) (by decide), a3 14 (by decide) (by decide)]
theorem x7_thin {β : Type} (hN : 100 ≤ N) {x : Int} (hx : 2 ≤ x ∧ x ≤ 20) {v2 v3 : Int32} {v4 v6 : Int64} {k b : Nat} (hk : k < 16) (hb4 : b ≤ 4) {kx : Int64 → S1 → S2 → Option β} {A : AS} {f : Nat → Int} (hf : f = fun i => if k.testBit i then 1 else x - 1) : ∀ (j n : Nat) (B : AS) (sc : S1) (ar : S2) (y : Int), j ≤ b → j < n → THN A B (fun i => ¬ k.testBit i = true) j → MA B sc ar → WF B → y * prF f j = prF f b → ∃ B' sc' ar', f_X7_down_L101 N (iI x) v2 v3 v4 v6 (iI k) kx n (iL y) (iI ((j : Int) - 1)) sc ar = kx (iL (prF f b)) sc' ar' ∧ THN A B' (fun i => ¬ k.testBit i = true) 0 ∧ MA B' sc' ar' ∧ WF B' ∧ frS sc sc' ∧ frA ar ar' := by
  intro j
  induction j with
  | zero =>
    intro n B sc ar y h1 h2 h3 h4 h5 h6
    obtain ⟨n, rfl⟩ : ∃ m, n = m + 1 := ⟨n - 1, by omega⟩
    rw [f_X7_down_L101, if_pos (by rw [iI_lt0 (by omega) (by omega)]; omega)]
    rw [prF, Int.mul_one] at h6
    rw [h6]
    exact ⟨B, sc, ar, rfl, h3, h4, h5, fun _ _ => rfl, fun _ _ => rfl⟩
  | succ j ih =>
    intro n B sc ar y h1 h2 h3 h4 h5 h6
    obtain ⟨n, rfl⟩ : ∃ m, n = m + 1 := ⟨n - 1, by omega⟩
    have ej : iI (((j + 1 : Nat) : Int) - 1) = iI (j : Int) := by congr 1; omega
    have ej2 : iI (j : Int) + (-1) = iI ((j : Int) - 1) := by rw [show (-1 : Int32) = iI (-1) by decide, iI_add]; rfl
    have ex : (iI x - 1).toInt64 = iL (x - 1) := by
      have : iI x - 1 = iI (x - 1) := iI_sub x 1
      rw [this, iI_iL (by omega) (by omega)]
    have hB := h3.1
    have wB := h5.1
    rw [f_X7_down_L101, ej, if_neg (by rw [iI_lt0 (by omega) (by omega)]; omega)]
    unfold f_X7_has
    simp only [Option.bind_some]
    have eb := mk_all ⟨k, hk⟩ ⟨j, by omega⟩
    simp only at eb
    simp only [eb, ej2, ex]
    rw [prF] at h6
    by_cases c : k.testBit j = true
    · have fj : f j = 1 := by rw [hf]; simp [c]
      rw [if_pos c, if_neg one_ne, if_neg one_ne]
      obtain ⟨nb, hnb⟩ : ∃ nb : Nat, (nb : Int) = B 2 0 := ⟨(B 2 0).toNat, by omega⟩
      rw [x7_fells_yes hN h4 h5 (b := j) (n := nb) (by omega) hnb]
      simp only [Option.bind_some]
      rw [iL_o, iL_mul, Int.mul_one]
      rw [fj, Int.mul_one] at h6
      obtain ⟨B', sc', ar', y1, y2, y3, y4, y5, y6⟩ := ih n (delA B j) _ _ y (by omega) (by omega) (THN_fell h3 (fun z => z c)) (MA_del h5 h4 (by omega) hnb) (WF_del h5 (by omega)) h6
      refine ⟨B', sc', ar', y1, y2, y3, y4, ?_, ?_⟩
      · intro i hi; rw [y5 i hi, ud_ne (by omega)]
      · intro i hi; rw [y6 i hi, sh3_row (fun z => by rcases z with z | z | z <;> omega)]
    · have fj : f j = x - 1 := by rw [hf]; simp [c]
      rw [if_neg c, if_pos rfl, if_pos rfl]
      simp only [Option.bind_some]
      rw [iL_mul]
      rw [fj, Int.mul_comm (prF f j), ← Int.mul_assoc] at h6
      exact ih n B sc ar (y * (x - 1)) (by omega) (by omega) (THN_keep h3 c) h4 h5 h6
theorem x7_ways {β : Type} (hN : 100 ≤ N) (hw : WF A) {x : Int} (hx : 2 ≤ x ∧ x ≤ 20) {v2 : Int32} {v6 : Int64} {b : Nat} (hb2 : (b : Int) = A 2 0) {K : Nat → Int32} {sc0 : S1} {ar0 : S2} (g0 : MA A sc0 ar0) (k0 : KP sc0 ar0 K) {kx : Int64 → S1 → S2 → Option β} : ∀ (r n k : Nat) (sc : S1) (ar : S2), k + r = 2 ^ b → r < n → MA A sc ar → sc 25 = 0 → ar 23 = K → ∃ sc' ar', f_X7_down_L85 N (iI x) v2 (iI b) v6 kx n (iL (sumF (wayM A x b) k)) (iI k) sc ar = kx (iL (sumF (wayM A x b) (2 ^ b))) sc' ar' ∧ MA A sc' ar' ∧ frS sc sc' ∧ frA ar ar' := by
  have w0 := hw.1
  have hb : b ≤ 4 := by omega
  have hp : 2 ^ b ≤ 2 ^ 4 := Nat.pow_le_pow_right (by decide) hb
  intro r
  induction r with
  | zero =>
    intro n k sc ar h1 h2 h3 h4 h5
    obtain ⟨n, rfl⟩ : ∃ m, n = m + 1 := ⟨n - 1, by omega⟩
    rw [f_X7_down_L85, sh_b hb, if_pos (le_iI (by omega) (by omega) (by omega)), ← h1, Nat.add_zero]
    exact ⟨sc, ar, rfl, h3, fun _ _ => rfl, fun _ _ => rfl⟩
  | succ r ih =>
    intro n k sc ar h1 h2 h3 h4 h5
    obtain ⟨n, rfl⟩ : ∃ m, n = m + 1 := ⟨n - 1, by omega⟩
    rw [f_X7_down_L85, sh_b hb, if_neg (nle_iI (by omega) (by omega) (by omega)), iL_o]
    have eb : iI (b : Int) - 1 = iI ((b : Int) - 1) := iI_sub (b : Int) 1
    rw [eb]
    obtain ⟨B, sc1, ar1, y1, y2, y3, y4, y5, y6⟩ := x7_thin (N := N) hN hx (v2 := v2) (v3 := iI b) (v4 := iL (sumF (wayM A x b) k)) (v6 := v6) (k := k) (b := b) (by omega) hb (kx := (fun x9_10 t10 t11 => ((f_X7_isSafe N t10 t11).bind fun r12 => ((f_X7_again_23 N t10 t11).bind fun r15 => (f_X7_down_L85 N (iI x) v2 (iI b) v6 kx n (iL (sumF (wayM A x b) k) + (if r12 = 0 then (0 : Int64) else x9_10)) (iI k + 1) r15.1 r15.2))))) (A := A) rfl b N A sc ar 1 (Nat.le_refl _) (by omega) (THN_0 hb2) h3 hw (Int.one_mul _)
    rw [y1]
    have hg1 : sc1 25 = 0 := by rw [y5 25 (by decide)]; exact h4
    obtain ⟨sc2, ar2, e2, k2, f1, f2⟩ := again_23 (N := N) hN (sc := sc1) (ar := ar1)
    have r3 : ar1 23 = K := by rw [y6 23 (by decide)]; exact h5
    rw [r3] at k2
    have g2 := MA_KP hw g0 k0 k2
    rw [x7_isSafe hN y3 y4 hg1, e2]
    simp only [Option.bind_some]
    have e7 : iL (sumF (wayM A x b) k) + (if bI (safeA B mT) = 0 then (0 : Int64) else iL (prF (fun i => if k.testBit i then 1 else x - 1) b)) = iL (sumF (wayM A x b) (k + 1)) := by
      rw [sumF, ← iL_add]
      congr 1
      unfold wayM
      rw [bI_iff (THN_safe y2)]
      by_cases c : safeA A (fun i => ¬ k.testBit i = true)
      · rw [bI_t c, if_neg one_ne, cI_t c]
      · rw [bI_f c, if_pos rfl, cI_f c, iL_z]
    rw [e7, iI_succ]
    obtain ⟨sc', ar', z1, z2, z3, z4⟩ := ih n (k + 1) sc2 ar2 (by omega) (by omega) g2 (by rw [f1 25 (by decide)]; exact hg1) (by rw [f2 23 (by decide)]; exact r3)
    refine ⟨sc', ar', z1, z2, ?_, ?_⟩
    · intro i hi; rw [z3 i hi, f1 i hi, y5 i hi]
    · intro i hi; rw [z4 i hi, f2 i hi, y6 i hi]
theorem q_down (hN : 100 ≤ N) (h : LA A s a t p q) (g : MA A sc ar) (hw : WF A) (hg : sc 25 = 0) {x y : Int} (h1 : -2147483648 ≤ x ∧ x < 2147483648) (h2 : -2147483648 ≤ y ∧ y < 2147483648) : (∃ r sc' ar', f_X6_down N aX s a t (iI x) (iI y) = some (r, aX) ∧ f_X7_down N sc ar (iI x) (iI y) = some (r, sc', ar') ∧ MA A sc' ar' ∧ frS sc sc' ∧ frB ar ar') ∨ (∃ c, cod c ∧ f_X6_down N aX s a t (iI x) (iI y) = some ((4000000000000000000 : Int64) - c.toInt64, rfA aX c) ∧ f_X7_down N sc ar (iI x) (iI y) = some ((4000000000000000000 : Int64) - c.toInt64, sc, noA ar c)) := by
  have w0 := hw.1
  have i2 : f_X7_in N (iI y) 0 1 = some (bI (0 ≤ y ∧ y ≤ 1)) := x7_in (b := 0) (c := 1) h2.1 h2.2 (by omega) (by omega) (by omega) (by omega)
  unfold f_X6_down f_X7_down
  rw [i2]
  by_cases c1 : 2 ≤ x
  · have e1 : 2 ≤ iI x := le_iI (a := 2) c1 (by omega) (by omega)
    simp only [if_pos e1]
    by_cases c2 : x ≤ 20
    · have e2 : iI x ≤ 20 := le_iI (b := 20) c2 (by omega) (by omega)
      simp only [if_pos e2]
      by_cases c3 : 0 ≤ y ∧ y ≤ 1
      · have cz : y = 0 ∨ y = 1 := by omega
        obtain ⟨b, hb2⟩ : ∃ b : Nat, (b : Int) = A 2 0 := ⟨(A 2 0).toNat, by omega⟩
        have hb : b ≤ 4 := by omega
        have hp : 2 ^ b ≤ 2 ^ 4 := Nat.pow_le_pow_right (by decide) hb
        have e6 : ∀ (o : Option (Int64 × S2)) (o' : Option (Int64 × S2)), (if iI y = 0 then o else if iI y = 1 then o else o') = o := by
          intro o o'
          rcases cz with rfl | rfl
          · rw [if_pos (show iI 0 = 0 from rfl)]
          · rw [if_neg (show ¬ iI 1 = 0 by decide), if_pos (show iI 1 = 1 from rfl)]
        rw [e6, h.1.2.1, g.1.2.1, ← hb2, x6_safeWays hN h hw hb2, x6_power hN (by omega), bI_t c3]
        obtain ⟨K, ek, kk⟩ := keeps_23 (N := N) hN (sc := sc) (ar := ar)
        have g2 : MA A sc (va_up ar 23 K) := MA_cg g (fun _ _ => rfl) (fun j hj => vu_ne (by omega))
        rw [ek]
        simp only [Option.bind_some, if_neg one_ne]
        rw [x7_pow hN (by omega) (by omega)]
        obtain ⟨sc', ar', z1, z2, z3, z4⟩ := x7_ways (N := N) hN hw (x := x) (by omega) (v2 := iI y) (v6 := iL (x ^ b)) hb2 g kk (kx := (fun x4_16 t16 t17 => ((f_X7_part N x4_16 (iL (x ^ b)) (iI y)).bind fun r18 => (some (r18, t16, t17))))) (2 ^ b) N 0 sc (va_up ar 23 K) (by omega) (by omega) g2 hg (vu_eq _ _ _)
        have z1' := z1
        rw [sumF, ← iL_z, show iI ((0 : Nat) : Int) = 0 from rfl] at z1'
        rw [z1', ← way_sum hb hb2]
        have bd := sumF_bd (f := wayC A x b) (n := 2 ^ b) (b := 160000) (fun i _ => wayC_bd (by omega) hb)
        obtain ⟨W, hW⟩ : ∃ W : Nat, sumF (wayC A x b) (2 ^ b) = (W : Int) := ⟨(sumF (wayC A x b) (2 ^ b)).toNat, by omega⟩
        obtain ⟨xn, hxn⟩ : ∃ xn : Nat, x = (xn : Int) := ⟨x.toNat, by omega⟩
        have hT : x ^ b = ((xn ^ b : Nat) : Int) := by rw [hxn, Int.natCast_pow]
        have hT1 : 0 < xn ^ b := Nat.pow_pos (by omega)
        have hT2 : xn ^ b ≤ 20 ^ b := Nat.pow_le_pow_left (by omega) b
        have hT3 : 20 ^ b ≤ 20 ^ 4 := Nat.pow_le_pow_right (by decide) hb
        rw [hW, hT]
        obtain ⟨r, r1, r2⟩ := part_both (N := N) hN (x := W) (y := xn ^ b) (by omega) (by omega) (by omega) cz
        rw [r1, r2]
        refine Or.inl ⟨r, sc', ar', rfl, rfl, z2, z3, ?_⟩
        intro j hj hj2
        rw [z4 j hj, vu_ne hj2]
      · have e3 : ¬ iI y = 0 := by rw [iI_eq0 h2.1 h2.2]; omega
        have e4 : ¬ iI y = 1 := by show ¬ iI y = iI 1; rw [iI_eq (by omega) (by omega) (by omega) (by omega)]; omega
        rw [bI_f c3]
        simp only [Option.bind_some, if_true, if_neg e3, if_neg e4]
        exact Or.inr ⟨-2, cod2, by rw [x6_refusedLong cod2]; rfl, by rw [x7_far cod2]; rfl⟩
    · have e2 : ¬ iI x ≤ 20 := nle_iI (b := 20) (by omega) (by omega) (by omega)
      simp only [if_neg e2]
      exact Or.inr ⟨-6, cod6, by rw [x6_refusedLong cod6]; rfl, by rw [x7_far cod6]; rfl⟩
  · have e1 : ¬ 2 ≤ iI x := nle_iI (a := 2) (by omega) (by omega) (by omega)
    simp only [if_neg e1]
    exact Or.inr ⟨-4, cod4, by rw [x6_refusedLong cod4]; rfl, by rw [x7_far cod4]; rfl⟩
end PC27
