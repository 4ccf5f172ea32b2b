-- ===== image, on, freed, lots =====
def frB (ar ar' : S2) : Prop := ∀ j, 18 < j → j ≠ 23 → ar' j = ar j
def IMG (sX : S1) (sc : S1) (ar : S2) (sK : S1) (aK tK : S2) (pK : S1) (qK : S2) : Prop := (sX 3 = 0 ∧ sc 24 = 0) ∨ (sX 3 = 1 ∧ sc 24 = 1 ∧ ∃ A' sc0 ar0, WF A' ∧ UQ A' ∧ LA A' sK aK tK pK qK ∧ MA A' sc0 ar0 ∧ KP sc0 ar0 (ar 22))
theorem KP_cg {sc sc' : S1} {ar ar' : S2} {K : Nat → Int32} (h : KP sc ar K) (hs : ∀ j, j ≤ 18 → sc' j = sc j) (ha : ∀ j, j ≤ 18 → ar' j = ar j) : KP sc' ar' K := by
  unfold KP at h ⊢
  simp only [hs 0 (by decide), hs 2 (by decide), hs 6 (by decide), hs 9 (by decide), hs 14 (by decide), hs 15 (by decide), ha 1 (by decide), ha 3 (by decide), ha 4 (by decide), ha 5 (by decide), ha 7 (by decide), ha 8 (by decide), ha 10 (by decide), ha 11 (by decide), ha 12 (by decide), ha 13 (by decide), ha 16 (by decide), ha 17 (by decide), ha 18 (by decide)]
  exact h
theorem iI_div {a b : Int} (h1 : 0 ≤ a) (h2 : a < 2147483648) (h3 : 0 < b) (h4 : b < 2147483648) : iI a / iI b = iI (a / b) := by
  have q1 : 0 ≤ a / b := Int.ediv_nonneg h1 (by omega)
  have q2 : a / b ≤ a := Int.ediv_le_self b h1
  rw [← Int32.toInt_inj, Int32.toInt_div, iI_ti (by omega) h2, iI_ti (by omega) h4, iI_ti (by omega) (by omega), Int.tdiv_eq_ediv_of_nonneg h1]
  apply Int.bmod_eq_of_le <;> omega
theorem and_nn (z : Int32) : 0 ≤ (z &&& 2147483647).toInt := by
  show 0 ≤ (z.toBitVec &&& 2147483647#32).toInt
  rw [BitVec.toInt_eq_msb_cond, BitVec.msb_and, show (2147483647#32).msb = false by decide, Bool.and_false, if_neg (by decide)]
  exact Int.natCast_nonneg _
/-- a ground by lot lies in 0..30 -/
theorem dg_x {u : Int} (h0 : 0 ≤ u) (h1 : u < 2147483648) : (iI u / 256) - (iI u / 256) / 31 * 31 = iI (u / 256 - u / 256 / 31 * 31) := by
  have q1 : iI u / 256 = iI (u / 256) := iI_div (b := 256) h0 h1 (by decide) (by decide)
  have q2 : iI (u / 256) / 31 = iI (u / 256 / 31) := iI_div (b := 31) (by omega) (by omega) (by decide) (by decide)
  have q3 : iI (u / 256 / 31) * 31 = iI (u / 256 / 31 * 31) := iI_mul _ 31
  rw [q1, q2, q3, iI_sub]
theorem dg_ex (z : Int32) : ∃ v : Int, (0 ≤ v ∧ v ≤ 30) ∧ ((z &&& 2147483647) / 256) - ((z &&& 2147483647) / 256) / 31 * 31 = iI v := by
  have h0 := and_nn z
  have h1 := (iI_rng (z &&& 2147483647)).2
  have h2 := dg_x h0 h1
  rw [iI_toInt] at h2
  refine ⟨_, ?_, h2⟩
  omega
section PC25
variable {N : Nat} {A : AS} {s : S1} {a t : S2} {p : S1} {q : S2} {sc : S1} {ar : S2} {aX : S2} {sX : S1} {sK : S1} {aK tK : S2} {pK : S1} {qK : S2}
theorem c_image (hN : 100 ≤ N) (h : LA A s a t p q) (g : MA A sc ar) (hw : WF A) (hu : UQ A) : ∃ r s' a' t' p' q' ar', f_X6_image N sX s a t p q sK aK tK pK qK = some (r, upd sX 3 1, s', a', t', p', q') ∧ f_X7_image N sc ar = some (r, upd sc 24 1, ar') ∧ MA A (upd sc 24 1) ar' ∧ IMG (upd sX 3 1) (upd sc 24 1) ar' s' a' t' p' q' ∧ (∀ j, j ≠ 22 → ar' j = ar j) := by
  obtain ⟨s', a', t', p', q', e1, h'⟩ := x1_copyFrom (N := N) (s := sK) (a := aK) (t := tK) (p := pK) (q := qK) hN h hw
  have g1 : MA A (upd sc 24 1) ar := MA_cg g (fun j hj => ud_ne (by omega)) (fun _ _ => rfl)
  obtain ⟨K, e2, k2⟩ := keeps_22 (N := N) hN (sc := upd sc 24 1) (ar := ar)
  have g2 : MA A (upd sc 24 1) (va_up ar 22 K) := MA_cg g1 (fun _ _ => rfl) (fun j hj => vu_ne (by omega))
  refine ⟨s 6, s', a', t', p', q', va_up ar 22 K, ?_, ?_, g2, Or.inr ⟨ud_eq _ _ _, ud_eq _ _ _, A, upd sc 24 1, ar, hw, hu, h', g1, ?_⟩, fun j hj => vu_ne hj⟩
  · unfold f_X6_image
    rw [e1]; rfl
  · unfold f_X7_image
    rw [e2, g.1.2.2.1, h.1.2.2.1]; rfl
  · rw [vu_eq]; exact k2
theorem c_on (hN : 100 ≤ N) (h : LA A s a t p q) (g : MA A sc ar) (hw : WF A) (hu : UQ A) (hi : IMG sX sc ar sK aK tK pK qK) : (∃ r A' s' a' t' p' q' sc' ar', f_X6_on N sX aX s a t p q sK aK tK pK qK = some (r, aX, s', a', t', p', q') ∧ f_X7_on N sc ar = some (r, sc', ar') ∧ LA A' s' a' t' p' q' ∧ MA A' sc' ar' ∧ WF A' ∧ UQ A' ∧ frS sc sc' ∧ frA ar ar') ∨ (∃ c, cod c ∧ f_X6_on N sX aX s a t p q sK aK tK pK qK = some (c, rfA aX c, s, a, t, p, q) ∧ f_X7_on N sc ar = some (c, sc, noA ar c)) := by
  rcases hi with ⟨i1, i2⟩ | ⟨i1, i2, A', sc0, ar0, w', u', l', g', k'⟩
  · refine Or.inr ⟨-3, cod3, ?_, ?_⟩
    · unfold f_X6_on
      rw [i1, if_pos rfl, x6_refused cod3]; rfl
    · unfold f_X7_on
      rw [i2, if_pos rfl, x7_no cod3]; rfl
  · obtain ⟨s', a', t', p', q', e1, h'⟩ := x1_copyFrom (N := N) (s := s) (a := a) (t := t) (p := p) (q := q) hN l' w'
    obtain ⟨sc', ar', e2, k2, f1, f2⟩ := again_22 (N := N) hN (sc := sc) (ar := ar)
    have g2 := MA_KP w' g' k' k2
    refine Or.inl ⟨s' 6, A', s', a', t', p', q', sc', ar', ?_, ?_, h', g2, w', u', f1, f2⟩
    · unfold f_X6_on
      rw [i1, if_neg one_ne, e1]; rfl
    · unfold f_X7_on
      rw [i2, if_neg one_ne, e2, h'.1.2.2.1, ← g2.1.2.2.1]; rfl
theorem BR_del {b : Nat} (hb : (b : Int) < A 2 0) : BR (delA A b) mT = BR A (fun i => i ≠ b) := by
  funext c lo hi
  apply propext
  unfold BR
  simp (disch := decide) only [delA_2, delA_3]
  constructor
  · rintro ⟨i, h1, -, h2⟩
    exact ⟨_, by split <;> omega, by split <;> omega, h2⟩
  · rintro ⟨i, h1, h3, h2⟩
    by_cases c1 : b ≤ i
    · refine ⟨i - 1, by omega, trivial, ?_⟩
      rw [if_pos (by omega), show i - 1 + 1 = i by omega]; exact h2
    · refine ⟨i, by omega, trivial, ?_⟩
      rw [if_neg (by omega)]; exact h2
theorem BD_del {b : Nat} (hb : (b : Int) < A 2 0) : BD (delA A b) mT = BD A (fun i => i ≠ b) := by
  funext c
  apply propext
  unfold BD
  simp (disch := decide) only [delA_2, delA_3]
  constructor
  · rintro ⟨i, h1, -, h2⟩
    exact ⟨_, by split <;> omega, by split <;> omega, h2⟩
  · rintro ⟨i, h1, h3, h2⟩
    by_cases c1 : b ≤ i
    · refine ⟨i - 1, by omega, trivial, ?_⟩
      rw [if_pos (by omega), show i - 1 + 1 = i by omega]; exact h2
    · refine ⟨i, by omega, trivial, ?_⟩
      rw [if_neg (by omega)]; exact h2
theorem keptA_del {b : Nat} (hb : (b : Int) < A 2 0) : keptA (delA A b) mT = keptA A (fun i => i ≠ b) := by
  unfold keptA keptRow wP wA
  rw [BR_del hb, BD_del hb]
  simp (disch := decide) only [delA_row]
theorem q_freed (hN : 100 ≤ N) (h : LA A s a t p q) (g : MA A sc ar) (hw : WF A) (hg : sc 25 = 0) {z : Int} (hz : -2147483648 ≤ z ∧ z < 2147483648) : (∃ r sc' ar', f_X6_freed N aX s a t (iI z) = some (r, aX) ∧ f_X7_freed N sc ar (iI z) = some (r, sc', ar') ∧ MA A sc' ar' ∧ frS sc sc' ∧ frB ar ar') ∨ (∃ c, cod c ∧ f_X6_freed N aX s a t (iI z) = some ((4000000000000000000 : Int64) - c.toInt64, rfA aX c) ∧ f_X7_freed N sc ar (iI z) = some ((4000000000000000000 : Int64) - c.toInt64, sc, noA ar c)) := by
  have w0 := hw.1
  unfold f_X6_freed f_X7_freed
  rw [x1_hasBridge h hw hz.1 hz.2, x7_isBridge g hw hz.1 hz.2]
  simp only [Option.bind_some]
  by_cases hin : 0 ≤ z ∧ z < A 2 0
  · rw [bI_t hin]
    simp only [if_neg one_ne]
    obtain ⟨b, rfl⟩ : ∃ b : Nat, z = (b : Int) := ⟨z.toNat, by omega⟩
    obtain ⟨n, hn⟩ : ∃ n : Nat, (n : Int) = A 2 0 := ⟨(A 2 0).toNat, by omega⟩
    obtain ⟨K, e2, k2⟩ := keeps_23 (N := N) hN (sc := sc) (ar := ar)
    have g2 : MA A sc (va_up ar 23 K) := MA_cg g (fun _ _ => rfl) (fun j hj => vu_ne (by omega))
    have g3 := MA_del hw g2 (b := b) (n := n) (by omega) hn
    have hg3 : (upd sc 2 (iI ((n - 1 : Nat) : Int))) 25 = 0 := by rw [ud_ne (by decide)]; exact hg
    obtain ⟨sc', ar', e4, k4, f1, f2⟩ := again_23 (N := N) hN (sc := upd sc 2 (iI ((n - 1 : Nat) : Int))) (ar := sh3 (va_up ar 23 K) b (n - 1))
    have r3 : sh3 (va_up ar 23 K) b (n - 1) 23 = K := by rw [sh3_row (by decide), vu_eq]
    rw [r3] at k4
    have g5 := MA_KP hw g k2 k4
    have hm1 : MK ((((1 : Int32) <<< (iI (A 2 0) &&& 31)) - 1)) mT (A 2 0) := MK_all (by omega)
    have hm2 := MK_but (b := b) (n := n) (by omega) (by omega)
    rw [hn] at hm2
    rw [x1_all' h]
    simp only [Option.bind_some]
    rw [x1_keptPairs hN h hw hm1, x1_keptPairs hN h hw hm2, x7_keptMany hN g hw hg, e2]
    simp only [Option.bind_some]
    rw [x7_fells_yes hN g2 hw (by omega) hn]
    simp only [Option.bind_some]
    rw [x7_keptMany hN g3 (WF_del hw (by omega)) hg3, e4, keptA_del (by omega)]
    refine Or.inl ⟨_, sc', ar', rfl, rfl, g5, ?_, ?_⟩
    · intro j hj; rw [f1 j hj, ud_ne (by omega)]
    · intro j hj hj2
      rw [f2 j hj, sh3_row (fun z => by rcases z with z | z | z <;> omega), vu_ne hj2]
  · rw [bI_f hin]
    simp only [if_true]
    refine Or.inr ⟨-1, cod1, ?_, ?_⟩
    · rw [x6_refusedLong cod1]; rfl
    · rw [x7_far cod1]; rfl
/-- ground drawn by lot on both sides -/
theorem gr_set (h : LA A s a t p q) (g : MA A sc ar) (hw : WF A) (hu : UQ A) {i : Nat} (hi : (i : Int) < A 0 0) {v : Int} (hv : 0 ≤ v ∧ v ≤ 30) : LA (aU A 1 i v) s (va_up a 1 (upd (a 1) i (iI v))) t p q ∧ MA (aU A 1 i v) sc (va_up ar 1 (upd (ar 1) i (iI v))) ∧ WF (aU A 1 i v) ∧ UQ (aU A 1 i v) := by
  obtain ⟨l0, l1, l2, l3, l4, l5, l6, l7⟩ := h
  obtain ⟨m0, m1, m2, m3, m4, m5⟩ := g
  obtain ⟨w0, w1, w2, w3, w4, w5⟩ := hw
  refine ⟨⟨?_, ?_, ?_, ?_, ?_, ?_, ?_, ?_⟩, ⟨?_, ?_, ?_, ?_, ?_, ?_⟩, ⟨?_, ?_, ?_, ?_, ?_, ?_⟩, ?_⟩
  · simp (disch := decide) only [aU_row, vu_ne]; exact l0
  · simp (disch := decide) only [aU_row, vu_eq]
    intro j hj
    by_cases e : j = i
    · rw [e, ud_eq, aU_eq]
    · rw [ud_ne e, aU_ne e]; exact l1 j hj
  · simp (disch := decide) only [aU_row, vu_eq]
    intro j hj hj2
    rw [ud_ne (by omega)]; exact l2 j hj hj2
  · simp (disch := decide) only [aU_row, vu_ne]; exact l3
  · simp (disch := decide) only [aU_row, vu_ne]; exact l4
  · simp (disch := decide) only [aU_row, vu_ne]; exact l5
  · simp (disch := decide) only [aU_row, vu_ne]; exact l6
  · exact l7
  · simp (disch := decide) only [aU_row, vu_ne]; exact m0
  · simp (disch := decide) only [aU_row, vu_eq]
    intro j hj
    by_cases e : j = i
    · rw [e, ud_eq, aU_eq]
    · rw [ud_ne e, aU_ne e]; exact m1 j hj
  · simp (disch := decide) only [aU_row, vu_ne]; exact m2
  · simp (disch := decide) only [aU_row, vu_ne]; exact m3
  · simp (disch := decide) only [aU_row, vu_ne]; exact m4
  · simp (disch := decide) only [aU_row, vu_ne]; exact m5
  · simp (disch := decide) only [aU_row]; exact w0
  · simp (disch := decide) only [aU_row]
    intro j hj
    by_cases e : j = i
    · rw [e, aU_eq]; omega
    · rw [aU_ne e]; exact w1 j hj
  · simp (disch := decide) only [aU_row]; exact w2
  · simp (disch := decide) only [aU_row]; exact w3
  · simp (disch := decide) only [aU_row]; exact w4
  · simp (disch := decide) only [aU_row]; exact w5
  · unfold UQ; simp (disch := decide) only [aU_row]; exact hu
theorem dr_both {β γ : Type} {v1 v3 v5 v6 : Int32} {kx : Int32 → S2 → Option β} {ky : Int32 → S2 → Option γ} {m : Nat} : ∀ (k1 k2 i : Nat) (A : AS) (a ar : S2) (z : Int32), LA A s a t p q → MA A sc ar → WF A → UQ A → A 0 0 = m → i ≤ m → m < i + k1 → m < i + k2 → ∃ A' a' ar' z', f_X1_drawGround_L4 N s kx k1 z (iI i) a = kx z' a' ∧ f_X7_lots_L67 N sc v1 v3 v5 v6 ky k2 z (iI i) ar = ky z' ar' ∧ LA A' s a' t p q ∧ MA A' sc ar' ∧ WF A' ∧ UQ A' ∧ frA ar ar' := by
  intro k1
  induction k1 with
  | zero => intro k2 i A a ar z h g hw hu e1 e2 e3; omega
  | succ k1 ih =>
    intro k2 i A a ar z h g hw hu e1 e2 e3 e4
    have w0 := hw.1
    cases k2 with
    | zero => omega
    | succ k2 =>
      rw [f_X1_drawGround_L4, f_X7_lots_L67, h.1.1, g.1.1, e1]
      by_cases c : i = m
      · subst c
        rw [if_pos (le_iI (by omega) (by omega) (by omega)), if_pos (le_iI (by omega) (by omega) (by omega))]
        exact ⟨A, a, ar, z, rfl, rfl, h, g, hw, hu, fun _ _ => rfl⟩
      · rw [if_neg (nle_iI (by omega) (by omega) (by omega)), if_neg (nle_iI (by omega) (by omega) (by omega))]
        rw [if_neg (show ¬ (256 : Int32) = 0 by decide), if_neg (show ¬ (31 : Int32) = 0 by decide), if_neg (show ¬ (256 : Int32) = 0 by decide), if_neg (show ¬ (31 : Int32) = 0 by decide), if_neg (ob_nat (show i < 24 by omega) (by omega)), if_neg (ob_nat (show i < 24 by omega) (by omega)), ix_nat (by omega), iI_succ]
        obtain ⟨v, hv, ev⟩ := dg_ex (z * 1664525 + 1013904223)
        rw [ev]
        obtain ⟨h', g', w', u'⟩ := gr_set h g hw hu (i := i) (by omega) hv
        obtain ⟨A', a', ar', z', x1, x2, x3, x4, x5, x6, x7⟩ := ih k2 (i + 1) _ _ _ (z * 1664525 + 1013904223) h' g' w' u' (by rw [aU_row (by decide)]; exact e1) (by omega) (by omega) (by omega)
        refine ⟨A', a', ar', z', x1, x2, x3, x4, x5, x6, ?_⟩
        intro j hj
        rw [x7 j hj, vu_ne (by omega)]
theorem lots_both (hN : 100 ≤ N) (hg : sc 25 = 0) {sL : S1} {aL tL : S2} {pL : S1} {qL : S2} {β γ : Type} {n : Nat} (hn : n ≤ 20) {w : Int} (hw01 : w = 0 ∨ w = 1) {kx : Int32 → S2 → Option β} {ky : Int32 → S2 → Option γ} : ∀ (k1 k2 i : Nat) (A : AS) (a ar : S2) (z x : Int32), LA A s a t p q → MA A sc ar → WF A → UQ A → i ≤ n → n < i + k1 → n < i + k2 → ∃ A' a' ar' x', f_X6_lots_L61 N aX s t p q sL aL tL pL qL (iI n) (iI w) kx k1 z x (iI i) a = kx x' a' ∧ f_X7_lots_L58 N sc (iI n) (iI w) ky k2 z x (iI i) ar = ky x' ar' ∧ LA A' s a' t p q ∧ MA A' sc ar' ∧ WF A' ∧ UQ A' ∧ frA ar ar' := by
  intro k1
  induction k1 with
  | zero => intro k2 i A a ar z x h g hw hu e1 e2 e3; omega
  | succ k1 ih =>
    intro k2 i A a ar z x h g hw hu e1 e2 e3
    have w0 := hw.1
    cases k2 with
    | zero => omega
    | succ k2 =>
      rw [f_X6_lots_L61, f_X7_lots_L58]
      by_cases c : i = n
      · subst c
        rw [if_pos (le_iI (by omega) (by omega) (by omega)), if_pos (le_iI (by omega) (by omega) (by omega))]
        exact ⟨A, a, ar, x, rfl, rfl, h, g, hw, hu, fun _ _ => rfl⟩
      · rw [if_neg (nle_iI (by omega) (by omega) (by omega)), if_neg (nle_iI (by omega) (by omega) (by omega))]
        unfold f_X1_drawGround
        obtain ⟨m, hm⟩ : ∃ m : Nat, A 0 0 = (m : Int) := ⟨(A 0 0).toNat, by omega⟩
        obtain ⟨A1, a1, ar1, z1, x1, x2, x3, x4, x5, x6, x7⟩ := dr_both (N := N) (v1 := iI n) (v3 := iI w) (v5 := x) (v6 := iI i) (kx := fun x2_1 t1 => (some (x2_1, t1))) (ky := (fun x4_3 t3 => (Option.bind ((if iI w = (1 : Int32) then ((f_X7_warnedAll N sc t3).bind fun r9 => (some r9)) else ((f_X7_isSafe N sc t3).bind fun r6 => (some (if r6 = 0 then (0 : Int32) else 1)))) : Option (Int32)) fun j4 => (f_X7_lots_L58 N sc (iI n) (iI w) ky k2 x4_3 (x + j4) (iI i + 1) t3)))) (m := m) N N 0 A a ar z h g hw hu hm (by omega) (by omega) (by omega)
        have x1' : f_X1_drawGround_L4 N s (fun x2_1 t1 => (some (x2_1, t1))) N z 0 a = some (z1, a1) := x1
        have x2' := x2
        rw [show iI ((0 : Nat) : Int) = 0 from rfl] at x2'
        rw [x1', x2']
        obtain ⟨all, ea, hm1⟩ := x1_all (N := N) x3 x5
        simp only [Option.bind_some]
        rw [ea, x7_warnedAll hN x4 x5 hg, x7_isSafe hN x4 x5 hg, x1_allWarnings hN x3 x5]
        simp only [Option.bind_some]
        rw [x1_isSafe hN x3 x5 hm1]
        simp only [Option.bind_some, x6_oneIf, bI_n, iI_succ]
        rcases hw01 with rfl | rfl
        · rw [if_pos (show iI 0 = 0 from rfl), if_neg (show ¬ iI 0 = 1 by decide)]
          simp only [Option.bind_some]
          obtain ⟨A', a', ar', x', y1, y2, y3, y4, y5, y6, y7⟩ := ih k2 (i + 1) A1 a1 ar1 z1 (x + bI (safeA A1 mT)) x3 x4 x5 x6 (by omega) (by omega) (by omega)
          refine ⟨A', a', ar', x', y1, y2, y3, y4, y5, y6, fun j hj => ?_⟩
          rw [y7 j hj, x7 j hj]
        · rw [if_neg (show ¬ iI 1 = 0 by decide), if_pos (show iI 1 = 1 from rfl)]
          simp only [Option.bind_some]
          obtain ⟨A', a', ar', x', y1, y2, y3, y4, y5, y6, y7⟩ := ih k2 (i + 1) A1 a1 ar1 z1 (x + iI (allA A1 mT)) x3 x4 x5 x6 (by omega) (by omega) (by omega)
          refine ⟨A', a', ar', x', y1, y2, y3, y4, y5, y6, fun j hj => ?_⟩
          rw [y7 j hj, x7 j hj]
theorem q_lots (hN : 100 ≤ N) (h : LA A s a t p q) (g : MA A sc ar) (hw : WF A) (hu : UQ A) (hg : sc 25 = 0) {x z y : Int} (h1 : -2147483648 ≤ x ∧ x < 2147483648) (h3 : -2147483648 ≤ y ∧ y < 2147483648) : (∃ r s' a' t' p' q' sc' ar', f_X6_lots N aX sK aK tK pK qK s a t p q (iI x) (iI z) (iI y) = some (r, aX, s', a', t', p', q') ∧ f_X7_lots N sc ar (iI x) (iI z) (iI y) = some (r, sc', ar') ∧ MA A sc' ar' ∧ frS sc sc' ∧ frB ar ar') ∨ (∃ c, cod c ∧ f_X6_lots N aX sK aK tK pK qK s a t p q (iI x) (iI z) (iI y) = some (c, rfA aX c, sK, aK, tK, pK, qK) ∧ f_X7_lots N sc ar (iI x) (iI z) (iI y) = some (c, sc, noA ar c)) := by
  unfold f_X6_lots f_X7_lots
  have i2 : f_X7_in N (iI y) 0 1 = some (bI (0 ≤ y ∧ y ≤ 1)) := x7_in (b := 0) (c := 1) h3.1 h3.2 (by omega) (by omega) (by omega) (by omega)
  rw [i2]
  by_cases c1 : 1 ≤ x
  · have e1 : 1 ≤ iI x := le_iI (a := 1) c1 (by omega) (by omega)
    simp only [if_pos e1]
    by_cases c2 : x ≤ 20
    · have e2 : iI x ≤ 20 := le_iI (b := 20) c2 (by omega) (by omega)
      simp only [if_pos e2]
      by_cases c3 : 0 ≤ y ∧ y ≤ 1
      · obtain ⟨n, rfl⟩ : ∃ n : Nat, x = (n : Int) := ⟨x.toNat, by omega⟩
        obtain ⟨s1, a1, t1, p1, q1, ec, hc⟩ := x1_copyFrom (N := N) (s := sK) (a := aK) (t := tK) (p := pK) (q := qK) hN h hw
        obtain ⟨K, ek, kk⟩ := keeps_23 (N := N) hN (sc := sc) (ar := ar)
        have g2 : MA A sc (va_up ar 23 K) := MA_cg g (fun _ _ => rfl) (fun j hj => vu_ne (by omega))
        rw [bI_t c3, ec, ek]
        simp only [Option.bind_some, if_neg one_ne]
        obtain ⟨A', a', ar', x', y1, y2, y3, y4, y5, y6, y7⟩ := lots_both (N := N) (aX := aX) (s := s1) (t := t1) (p := p1) (q := q1) (sc := sc) hN hg (sL := s) (aL := a) (tL := t) (pL := p) (qL := q) (n := n) (by omega) (w := y) (by omega) (kx := (fun x5_9 t9 => (some (x5_9, aX, s1, t9, t1, p1, q1)))) (ky := (fun x5_10 t10 => ((f_X7_again_23 N sc t10).bind fun r11 => (some (x5_10, r11.1, r11.2))))) N N 0 A a1 (va_up ar 23 K) (iI z) 0 hc g2 hw hu (by omega) (by omega) (by omega)
        rw [show iI ((0 : Nat) : Int) = 0 from rfl] at y1 y2
        obtain ⟨sc', ar'', e4, k4, f1, f2⟩ := again_23 (N := N) hN (sc := sc) (ar := ar')
        have r3 : ar' 23 = K := by rw [y7 23 (by decide), vu_eq]
        rw [r3] at k4
        have g5 := MA_KP hw g kk k4
        refine Or.inl ⟨x', s1, a', t1, p1, q1, sc', ar'', ?_, ?_, g5, f1, ?_⟩
        · rcases (show y = 0 ∨ y = 1 by omega) with rfl | rfl
          · rw [if_pos (show iI 0 = 0 from rfl), y1]
          · rw [if_neg (show ¬ iI 1 = 0 by decide), if_pos (show iI 1 = 1 from rfl), y1]
        · rw [y2, e4]; rfl
        · intro j hj hj2
          rw [f2 j hj, y7 j hj, vu_ne hj2]
      · have e3 : ¬ iI y = 0 := by rw [iI_eq0 h3.1 h3.2]; omega
        have e4 : ¬ iI y = 1 := by show ¬ iI y = iI 1; rw [iI_eq (by omega) (by omega) (by omega) (by omega)]; omega
        rw [bI_f c3]
        simp only [Option.bind_some, if_true, if_neg e3, if_neg e4]
        exact Or.inr ⟨-2, cod2, by rw [x6_refused cod2]; rfl, by rw [x7_no cod2]; rfl⟩
    · have e2 : ¬ iI x ≤ 20 := nle_iI (b := 20) (by omega) (by omega) (by omega)
      simp only [if_neg e2]
      exact Or.inr ⟨-6, cod6, by rw [x6_refused cod6]; rfl, by rw [x7_no cod6]; rfl⟩
  · have e1 : ¬ 1 ≤ iI x := nle_iI (a := 1) (by omega) (by omega) (by omega)
    simp only [if_neg e1]
    exact Or.inr ⟨-4, cod4, by rw [x6_refused cod4]; rfl, by rw [x7_no cod4]; rfl⟩
end PC25
