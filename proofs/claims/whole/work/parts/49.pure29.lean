-- ===== numbers, names, statements =====
def dgP (x : Int) : Prop := 48 ≤ x ∧ x ≤ 57
noncomputable def nmF (L : Nat → Int) (n i : Nat) : Option Nat := @ite _ (chr L n i = 32 ∧ dgP (chr L n (i + 1))) (Classical.propDecidable _) (some (@ite _ (dgP (chr L n (i + 2))) (Classical.propDecidable _) (i + 3) (i + 2))) none
noncomputable def nums (L : Nat → Int) (n : Nat) : Nat → Nat → Option Nat
  | 0, i => some i
  | k + 1, i => (nmF L n i).bind (nums L n k)
noncomputable def run (L : Nat → Int) (n : Nat) : Nat → Nat → Nat
  | 0, _ => 0
  | k + 1, i => @ite _ (97 ≤ chr L n i ∧ chr L n i ≤ 122) (Classical.propDecidable _) (1 + run L n k (i + 1)) 0
noncomputable def nmr (L : Nat → Int) (n i : Nat) : Option Nat := @ite _ (chr L n i = 32 ∧ 0 < run L n 7 (i + 1)) (Classical.propDecidable _) (some (i + 1 + run L n 7 (i + 1))) none
noncomputable def FS (L : Nat → Int) (n i w : Nat) : Option Nat := ((if w = 6 then nmr L n (i + wlen w) else some (i + wlen w)).bind (nums L n (nof w))).bind (fun i3 => if chr L n i3 = 59 then some (i3 + 1) else none)
def SR (L : Nat → Int) (n i i' w : Nat) : Prop := w < 7 ∧ MW L n i w (wlen w) ∧ FS L n i w = some i'
theorem SR_uq {L : Nat → Int} {n i i1 w1 i2 w2 : Nat} (h : SR L n i i1 w1) (g : SR L n i i2 w2) : i1 = i2 ∧ w1 = w2 := by
  have e : w1 = w2 := by
    by_cases c : wlen w1 ≤ wlen w2
    · exact MW_pf h.1 g.1 h.2.1 g.2.1 c
    · exact (MW_pf g.1 h.1 g.2.1 h.2.1 (by omega)).symm
  subst e
  have := h.2.2.symm.trans g.2.2
  exact ⟨Option.some.inj this, rfl⟩
theorem nv_1 (d : Int) : iI d - 48 = iI (d - 48) := iI_sub d 48
theorem nv_2 (d c : Int) : (10 * iI d) + iI c - 48 = iI (10 * d + c - 48) := by
  show iI 10 * iI d + iI c - iI 48 = _
  rw [iI_mul, iI_add, iI_sub]
section PC29
variable {N : Nat} {L : Nat → Int} {n : Nat} {es : S1} {ea : S2} {sc : S1} {ar : S2} {i : Nat}
theorem x7_dg (h : PZ L n es ea sc ar i) {lo hi : Int} (hl : 0 ≤ lo ∧ lo ≤ 255) (hh : 0 ≤ hi ∧ hi ≤ 255) : f_X7_in N (iI (chr L n i)) (iI lo) (iI hi) = some (bI (lo ≤ chr L n i ∧ chr L n i ≤ hi)) := by
  have := PZ_chr h i
  exact x7_in (by omega) (by omega) (by omega) (by omega) (by omega) (by omega)
theorem number_both (hz : PZ L n es ea sc ar i) {k : Nat} (hk : k < 4) : (∃ i' v es' ea' sc' ar', nmF L n i = some i' ∧ (0 ≤ v ∧ v ≤ 99) ∧ f_X0_readNumber N es ea (iI k) = some (1, es', ea') ∧ f_X7_readNumber N sc ar (iI k) = some (1, sc', ar') ∧ PZ L n es' ea' sc' ar' i' ∧ i < i' ∧ ea' 6 = upd (ea 6) k (iI v) ∧ ar' 34 = upd (ar 34) k (iI v) ∧ (∀ j, j ≠ 1 → es' j = es j) ∧ (∀ j, j ≠ 33 → sc' j = sc j) ∧ (∀ j, j ≠ 34 → ar' j = ar j)) ∨ (nmF L n i = none ∧ ∃ es' sc' i', f_X0_readNumber N es ea (iI k) = some (0, es', ea) ∧ f_X7_readNumber N sc ar (iI k) = some (0, sc', ar) ∧ PZ L n es' ea sc' ar i' ∧ (∀ j, j ≠ 33 → sc' j = sc j)) := by
  have hn := hz.1
  have ok : ¬ oob (iI (k : Int)) 4 := ob_nat hk (by omega)
  have exk : ix (iI (k : Int)) = k := ix_nat (by omega)
  unfold f_X0_readNumber f_X7_readNumber
  rcases sign_both (N := N) hz (c := 32) (by omega) with ⟨c1, c2, e6, e7⟩ | ⟨c1, e6, e7⟩
  · have e6' : f_X0_readSign N es ea 32 = some (1, upd es 1 (iI ((i + 1 : Nat) : Int))) := e6
    have e7' : f_X7_takes N sc ar 32 = some (1, upd sc 33 (iI ((i + 1 : Nat) : Int))) := e7
    have z1 := PZ_s hz c2
    rw [e6', e7']
    have b1 := x0_between (N := N) z1 (lo := 48) (hi := 57) (by omega) (by omega)
    have b1' : f_X0_isBetween N (upd es 1 (iI ((i + 1 : Nat) : Int))) ea 48 57 = some (bI (dgP (chr L n (i + 1)))) := b1
    have b2 := x7_dg (N := N) z1 (lo := 48) (hi := 57) (by omega) (by omega)
    have b2' : f_X7_in N (iI (chr L n (i + 1))) 48 57 = some (bI (dgP (chr L n (i + 1)))) := b2
    simp only [Option.bind_some, if_neg one_ne, b1', x7_here z1, b2']
    by_cases d1 : dgP (chr L n (i + 1))
    · have i1 : i + 1 < n := by
        by_cases z : i + 1 < n
        · exact z
        · unfold dgP chr at d1; rw [if_neg z] at d1; omega
      have ec1 : chr L n (i + 1) = L (i + 1) := by unfold chr; rw [if_pos i1]
      have dd1 := d1
      unfold dgP at dd1
      rw [bI_t d1]
      simp only [if_neg one_ne, ud_eq, if_neg (ob_nat (show i + 1 < 120 by omega) (by omega)), ix_nat (show i + 1 < 2147483648 by omega), iI_succ, if_neg ok, exk]
      have z2a := PZ_s z1 i1
      rw [ud_ud, ud_ud] at z2a
      have z2 : PZ L n (upd es 1 (iI ((i + 1 + 1 : Nat) : Int))) ea (upd sc 33 (iI ((i + 1 + 1 : Nat) : Int))) (va_up ar 34 (upd (ar 34) k (iI (chr L n (i + 1)) - 48))) (i + 1 + 1) := PZ_to z2a z2a.1.2 rfl z2a.2.1.2.1 rfl rfl z2a.2.1.2.2.2 (vu_ne (by decide))
      have b3 := x0_between (N := N) z2 (lo := 48) (hi := 57) (by omega) (by omega)
      have b3' : f_X0_isBetween N (upd es 1 (iI ((i + 1 + 1 : Nat) : Int))) ea 48 57 = some (bI (dgP (chr L n (i + 2)))) := b3
      have b4 := x7_dg (N := N) z2 (lo := 48) (hi := 57) (by omega) (by omega)
      have b4' : f_X7_in N (iI (chr L n (i + 2))) 48 57 = some (bI (dgP (chr L n (i + 2)))) := b4
      have b5 : f_X7_here N (upd sc 33 (iI ((i + 1 + 1 : Nat) : Int))) (va_up ar 34 (upd (ar 34) k (iI (chr L n (i + 1)) - 48))) = some (iI (chr L n (i + 2))) := x7_here z2
      simp only [ud_ud, b3', b5, b4', Option.bind_some, (hz.2.2 (i + 1) i1).2.1, vu_vu]
      by_cases d2 : dgP (chr L n (i + 2))
      · have i2 : i + 1 + 1 < n := by
          by_cases z : i + 2 < n
          · exact z
          · unfold dgP chr at d2; rw [if_neg z] at d2; omega
        have ec2 : chr L n (i + 2) = L (i + 2) := by unfold chr; rw [if_pos i2]
        have dd2 := d2
        unfold dgP at dd2
        rw [bI_t d2]
        simp only [if_neg one_ne, if_neg (ob_nat (show i + 1 + 1 < 120 by omega) (by omega)), ix_nat (show i + 1 + 1 < 2147483648 by omega), Option.bind_some, ud_eq, nv_1, ud_ud, (hz.2.2 (i + 1 + 1) i2).2.1]
        rw [ec2, ec1, show L (i + 2) = L (i + 1 + 1) from rfl, nv_2]
        refine Or.inl ⟨i + 3, 10 * (L (i + 1) - 48) + L (i + 1 + 1) - 48, _, _, _, _, ?_, ?_, rfl, rfl, ?_, by omega, vu_eq _ _ _, vu_eq _ _ _, fun j hj => ud_ne hj, fun j hj => ud_ne hj, fun j hj => vu_ne hj⟩
        · unfold nmF; rw [cI_t ⟨c1, d1⟩, cI_t d2]
        · rw [ec1] at dd1; rw [ec2] at dd2; have : L (i + 2) = L (i + 1 + 1) := rfl; omega
        · exact PZ_to hz (by omega) (ud_ne (by decide)) (by rw [ud_eq]) (vu_ne (by decide)) (ud_ne (by decide)) (by rw [ud_eq]) (vu_ne (by decide))
      · rw [bI_f d2]
        simp only [if_true, Option.bind_some]
        rw [ec1, nv_1]
        refine Or.inl ⟨i + 2, L (i + 1) - 48, _, _, _, _, ?_, ?_, rfl, rfl, ?_, by omega, vu_eq _ _ _, vu_eq _ _ _, fun j hj => ud_ne hj, fun j hj => ud_ne hj, fun j hj => vu_ne hj⟩
        · unfold nmF; rw [cI_t ⟨c1, d1⟩, cI_f d2]
        · rw [ec1] at dd1; omega
        · exact PZ_to hz (by omega) (ud_ne (by decide)) (by rw [ud_eq]) (vu_ne (by decide)) (ud_ne (by decide)) (by rw [ud_eq]) (vu_ne (by decide))
    · rw [bI_f d1]
      simp only [if_true]
      refine Or.inr ⟨?_, _, _, _, rfl, rfl, z1, fun j hj => ud_ne hj⟩
      unfold nmF; rw [cI_f (fun z => d1 z.2)]
  · have e6' : f_X0_readSign N es ea 32 = some (0, es) := e6
    have e7' : f_X7_takes N sc ar 32 = some (0, sc) := e7
    rw [e6', e7']
    simp only [Option.bind_some, if_true]
    refine Or.inr ⟨?_, _, _, _, rfl, rfl, hz, fun _ _ => rfl⟩
    unfold nmF; rw [cI_f (fun z => c1 z.1)]
def NMQ (ea ar : S2) (k : Nat) : Prop := ∀ j : Nat, j < k → ∃ v : Int, (0 ≤ v ∧ v ≤ 99) ∧ ea 6 j = iI v ∧ ar 34 j = iI v
theorem nums_both {w : Nat} (hw : w < 7) {kx : S1 → S2 → Option (Int32 × S1 × S2)} {ky : S1 → S2 → Option (Int32 × S1 × S2)} : ∀ (r k n1 n2 i : Nat) (es : S1) (ea : S2) (sc : S1) (ar : S2), k + r = nof w → r < n1 → r < n2 → es 3 = iI w → PZ L n es ea sc ar i → NMQ ea ar k → (∃ i' es' ea' sc' ar', nums L n r i = some i' ∧ f_X0_readStatement_L29 N kx n1 (iI k) es ea = kx es' ea' ∧ f_X7_statement_L29 N (iI w) ky n2 (iI k) sc ar = ky sc' ar' ∧ PZ L n es' ea' sc' ar' i' ∧ i ≤ i' ∧ NMQ ea' ar' (nof w) ∧ (∀ j, j ≠ 1 → es' j = es j) ∧ (∀ j, j ≠ 33 → sc' j = sc j) ∧ (∀ j, j ≠ 34 → ar' j = ar j)) ∨ (nums L n r i = none ∧ ∃ es' ea' sc' ar' i', f_X0_readStatement_L29 N kx n1 (iI k) es ea = some (0, es', ea') ∧ f_X7_statement_L29 N (iI w) ky n2 (iI k) sc ar = some (-9, sc', ar') ∧ PZ L n es' ea' sc' ar' i' ∧ (∀ j, j ≠ 33 → sc' j = sc j) ∧ (∀ j, j ≠ 34 → ar' j = ar j)) := by
  have hl := wlen_all ⟨w, hw⟩
  simp only at hl
  have e5 : f_X7_numbersOf N (iI (w : Int)) = some (iI (nof w : Int)) := hl.2.2.2.2.2.1
  intro r
  induction r with
  | zero =>
    intro k n1 n2 i es ea sc ar h1 h2 h3 h4 hz hq
    obtain ⟨n1, rfl⟩ : ∃ z, n1 = z + 1 := ⟨n1 - 1, by omega⟩
    obtain ⟨n2, rfl⟩ : ∃ z, n2 = z + 1 := ⟨n2 - 1, by omega⟩
    refine Or.inl ⟨i, es, ea, sc, ar, rfl, ?_, ?_, hz, Nat.le_refl _, by rw [← h1]; exact hq, fun _ _ => rfl, fun _ _ => rfl, fun _ _ => rfl⟩
    · rw [f_X0_readStatement_L29, h4, if_neg (ob_nat hw (by omega)), ix_nat (by omega), hl.2.2.2.2.2.2.1, if_pos (le_iI (by omega) (by omega) (by omega))]
    · rw [f_X7_statement_L29, e5, Option.bind_some, if_pos (le_iI (by omega) (by omega) (by omega))]
  | succ r ih =>
    intro k n1 n2 i es ea sc ar h1 h2 h3 h4 hz hq
    obtain ⟨n1, rfl⟩ : ∃ z, n1 = z + 1 := ⟨n1 - 1, by omega⟩
    obtain ⟨n2, rfl⟩ : ∃ z, n2 = z + 1 := ⟨n2 - 1, by omega⟩
    have e6 : f_X0_readStatement_L29 N kx (n1 + 1) (iI k) es ea = ((f_X0_readNumber N es ea (iI k)).bind fun r2 => (if r2.1 = 0 then (some (0, r2.2.1, r2.2.2)) else (f_X0_readStatement_L29 N kx n1 (iI ((k + 1 : Nat) : Int)) r2.2.1 r2.2.2))) := by
      rw [f_X0_readStatement_L29, h4, if_neg (ob_nat hw (by omega)), ix_nat (by omega), hl.2.2.2.2.2.2.1, if_neg (nle_iI (by omega) (by omega) (by omega)), iI_succ]
    have e7 : f_X7_statement_L29 N (iI w) ky (n2 + 1) (iI k) sc ar = ((f_X7_readNumber N sc ar (iI k)).bind fun r3 => (if r3.1 = 0 then (some (-9, r3.2.1, r3.2.2)) else (f_X7_statement_L29 N (iI w) ky n2 (iI ((k + 1 : Nat) : Int)) r3.2.1 r3.2.2))) := by
      rw [f_X7_statement_L29, e5, Option.bind_some, if_neg (nle_iI (by omega) (by omega) (by omega)), iI_succ]
    rw [e6, e7]
    rcases number_both (N := N) hz (k := k) (by omega) with ⟨i1, v, es1, ea1, sc1, ar1, a0, a1, a2, a3, a4, a5, a6, a7, a8, a9, a10⟩ | ⟨a0, es1, sc1, i1, a2, a3, a4, a9⟩
    · rw [a2, a3]
      simp only [Option.bind_some, if_neg one_ne]
      have hq1 : NMQ ea1 ar1 (k + 1) := by
        intro j hj
        rw [a6, a7]
        by_cases e : j = k
        · subst e; exact ⟨v, a1, ud_eq _ _ _, ud_eq _ _ _⟩
        · rw [ud_ne e, ud_ne e]; exact hq j (by omega)
      rcases ih (k + 1) n1 n2 i1 es1 ea1 sc1 ar1 (by omega) (by omega) (by omega) (by rw [a8 3 (by decide)]; exact h4) a4 hq1 with ⟨i', es', ea', sc', ar', b0, b1, b2, b3, b4, b5, b6, b7, b8⟩ | ⟨b0, es', ea', sc', ar', i', b1, b2, b3, b7, b8⟩
      · refine Or.inl ⟨i', es', ea', sc', ar', ?_, b1, b2, b3, by omega, b5, fun j hj => by rw [b6 j hj, a8 j hj], fun j hj => by rw [b7 j hj, a9 j hj], fun j hj => by rw [b8 j hj, a10 j hj]⟩
        rw [nums, a0]; exact b0
      · refine Or.inr ⟨?_, es', ea', sc', ar', i', b1, b2, b3, fun j hj => by rw [b7 j hj, a9 j hj], fun j hj => by rw [b8 j hj, a10 j hj]⟩
        rw [nums, a0]; exact b0
    · rw [a2, a3]
      simp only [Option.bind_some, if_true]
      refine Or.inr ⟨?_, _, _, _, _, i1, rfl, rfl, a4, a9, fun _ _ => rfl⟩
      rw [nums, a0]; rfl
def NAQ (L : Nat → Int) (n : Nat) (ar : S2) (b k : Nat) : Prop := b + k ≤ n ∧ ∀ j : Nat, j < k → ar 35 j = iI (L (b + j)) ∧ 97 ≤ L (b + j) ∧ L (b + j) ≤ 122
theorem name_loop {β γ : Type} {b : Nat} {kx : S1 → Option β} {ky : S1 → S2 → Option γ} : ∀ (r k n1 n2 : Nat) (es : S1) (sc : S1) (ar : S2), k + r = 7 → r < n1 → r < n2 → PZ L n es ea sc ar (b + k) → sc 36 = iI k → NAQ L n ar b k → ∃ k' es' sc' ar', k' = k + run L n r (b + k) ∧ k' ≤ 7 ∧ f_X0_readName_L21 N ea kx n1 (iI k) es = kx es' ∧ f_X7_reads_L16 N ky n2 sc ar = ky sc' ar' ∧ PZ L n es' ea sc' ar' (b + k') ∧ sc' 36 = iI k' ∧ NAQ L n ar' b k' ∧ (∀ j, j ≠ 1 → es' j = es j) ∧ (∀ j, j ≠ 33 → j ≠ 36 → sc' j = sc j) ∧ (∀ j, j ≠ 35 → ar' j = ar j) := by
  intro r
  induction r with
  | zero =>
    intro k n1 n2 es sc ar h1 h2 h3 hz h4 hq
    obtain ⟨n1, rfl⟩ : ∃ z, n1 = z + 1 := ⟨n1 - 1, by omega⟩
    obtain ⟨n2, rfl⟩ : ∃ z, n2 = z + 1 := ⟨n2 - 1, by omega⟩
    refine ⟨k, es, sc, ar, rfl, by omega, ?_, ?_, hz, h4, hq, fun _ _ => rfl, fun _ _ _ => rfl, fun _ _ => rfl⟩
    · rw [f_X0_readName_L21, if_pos (show (7 : Int32) ≤ iI (k : Int) from le_iI (a := 7) (by omega) (by omega) (by omega))]
    · rw [f_X7_reads_L16, h4, if_pos (show (7 : Int32) ≤ iI (k : Int) from le_iI (a := 7) (by omega) (by omega) (by omega))]
  | succ r ih =>
    intro k n1 n2 es sc ar h1 h2 h3 hz h4 hq
    obtain ⟨n1, rfl⟩ : ∃ z, n1 = z + 1 := ⟨n1 - 1, by omega⟩
    obtain ⟨n2, rfl⟩ : ∃ z, n2 = z + 1 := ⟨n2 - 1, by omega⟩
    have b1 := x0_between (N := N) hz (lo := 97) (hi := 122) (by omega) (by omega)
    have b1' : f_X0_isBetween N es ea 97 122 = some (bI (97 ≤ chr L n (b + k) ∧ chr L n (b + k) ≤ 122)) := b1
    have b2 := x7_dg (N := N) hz (lo := 97) (hi := 122) (by omega) (by omega)
    have b2' : f_X7_in N (iI (chr L n (b + k))) 97 122 = some (bI (97 ≤ chr L n (b + k) ∧ chr L n (b + k) ≤ 122)) := b2
    have e6 : f_X0_readName_L21 N ea kx (n1 + 1) (iI k) es = if bI (97 ≤ chr L n (b + k) ∧ chr L n (b + k) ≤ 122) = 0 then kx es else f_X0_readName_L21 N ea kx n1 (iI ((k + 1 : Nat) : Int)) (upd es 1 (iI ((b + k + 1 : Nat) : Int))) := by
      rw [f_X0_readName_L21, if_neg (show ¬ (7 : Int32) ≤ iI (k : Int) from nle_iI (a := 7) (by omega) (by omega) (by omega)), b1', Option.bind_some, iI_succ, hz.2.1.2.1, iI_succ]
    have e7 : f_X7_reads_L16 N ky (n2 + 1) sc ar = if bI (97 ≤ chr L n (b + k) ∧ chr L n (b + k) ≤ 122) = 0 then ky sc ar else f_X7_reads_L16 N ky n2 (upd (upd sc 36 (iI ((k + 1 : Nat) : Int))) 33 (iI ((b + k + 1 : Nat) : Int))) (va_up ar 35 (upd (ar 35) k (iI (chr L n (b + k))))) := by
      rw [f_X7_reads_L16, h4, if_neg (show ¬ (7 : Int32) ≤ iI (k : Int) from nle_iI (a := 7) (by omega) (by omega) (by omega)), x7_here hz, Option.bind_some, b2', Option.bind_some, Option.bind_some, if_neg (ob_nat (show k < 7 by omega) (by omega)), ix_nat (by omega), iI_succ, hz.2.1.2.2.2, iI_succ]
    rw [e6, e7]
    by_cases c : 97 ≤ chr L n (b + k) ∧ chr L n (b + k) ≤ 122
    · have i1 : b + k < n := by
        by_cases z : b + k < n
        · exact z
        · unfold chr at c; rw [if_neg z] at c; omega
      have ec : chr L n (b + k) = L (b + k) := by unfold chr; rw [if_pos i1]
      rw [bI_t c, if_neg one_ne, if_neg one_ne]
      obtain ⟨k', es', sc', ar', a1, a2, a3, a4, a5, a6, a7, a8, a9, a10⟩ := ih (k + 1) n1 n2 (upd es 1 (iI ((b + k + 1 : Nat) : Int))) (upd (upd sc 36 (iI ((k + 1 : Nat) : Int))) 33 (iI ((b + k + 1 : Nat) : Int))) (va_up ar 35 (upd (ar 35) k (iI (chr L n (b + k))))) (by omega) (by omega) (by omega) (PZ_to hz (by omega) (ud_ne (by decide)) (ud_eq _ _ _) rfl (by rw [ud_ne (by decide), ud_ne (by decide)]) (ud_eq _ _ _) (vu_ne (by decide))) (by rw [ud_ne (by decide), ud_eq]) (by
        refine ⟨by omega, fun j hj => ?_⟩
        rw [vu_eq]
        by_cases e : j = k
        · subst e; rw [ud_eq, ec]; rw [ec] at c; exact ⟨rfl, c.1, c.2⟩
        · rw [ud_ne e]; exact hq.2 j (by omega))
      refine ⟨k', es', sc', ar', ?_, a2, a3, a4, a5, a6, a7, fun j hj => by rw [a8 j hj, ud_ne hj], fun j hj hj2 => by rw [a9 j hj hj2, ud_ne hj, ud_ne hj2], fun j hj => by rw [a10 j hj, vu_ne hj]⟩
      rw [a1, run, cI_t c, ← Nat.add_assoc b k 1]; omega
    · rw [bI_f c, if_pos rfl, if_pos rfl]
      refine ⟨k, es, sc, ar, ?_, by omega, rfl, rfl, hz, h4, hq, fun _ _ => rfl, fun _ _ _ => rfl, fun _ _ => rfl⟩
      rw [run, cI_f c, Nat.add_zero]
theorem name_both (hN : 100 ≤ N) (hz : PZ L n es ea sc ar i) : (∃ i' es' sc' ar' b k, nmr L n i = some i' ∧ f_X0_readName N es ea = some (1, es') ∧ f_X7_reads N sc ar = some (1, sc', ar') ∧ PZ L n es' ea sc' ar' i' ∧ i ≤ i' ∧ (1 ≤ k ∧ k ≤ 7) ∧ es' 3 = es 3 ∧ es' 4 = iI (b : Nat) ∧ es' 5 = iI (k : Nat) ∧ sc' 36 = iI (k : Nat) ∧ NAQ L n ar' b k ∧ (∀ j, j ≠ 33 → j ≠ 36 → sc' j = sc j) ∧ (∀ j, j ≠ 35 → ar' j = ar j)) ∨ (nmr L n i = none ∧ ∃ es' sc' ar' i', f_X0_readName N es ea = some (0, es') ∧ f_X7_reads N sc ar = some (0, sc', ar') ∧ PZ L n es' ea sc' ar' i' ∧ (∀ j, j ≠ 33 → j ≠ 36 → sc' j = sc j) ∧ (∀ j, j ≠ 35 → ar' j = ar j)) := by
  have hn := hz.1
  have hz0 : PZ L n es ea (upd sc 36 0) ar i := PZ_to hz hz.1.2 rfl hz.2.1.2.1 rfl (ud_ne (by decide)) (by rw [ud_ne (by decide)]; exact hz.2.1.2.2.2) rfl
  unfold f_X0_readName f_X7_reads
  rcases sign_both (N := N) hz0 (c := 32) (by omega) with ⟨c1, c2, e6, e7⟩ | ⟨c1, e6, e7⟩
  · have e6' : f_X0_readSign N es ea 32 = some (1, upd es 1 (iI ((i + 1 : Nat) : Int))) := e6
    have e7' : f_X7_takes N (upd sc 36 0) ar 32 = some (1, upd (upd sc 36 0) 33 (iI ((i + 1 : Nat) : Int))) := e7
    have z1 := PZ_s hz0 c2
    rw [e6', e7']
    simp only [Option.bind_some, if_neg one_ne]
    obtain ⟨k', es', sc', ar', a1, a2, a3, a4, a5, a6, a7, a8, a9, a10⟩ := name_loop (N := N) (L := L) (n := n) (ea := ea) (b := i + 1) (kx := (fun t3 => (some ((if ((t3 1) - (t3 4)) ≤ 0 then (0 : Int32) else 1), (upd t3 5 ((t3 1) - (t3 4))))))) (ky := (fun t5 t6 => (some ((if (t5 36) ≤ 0 then (0 : Int32) else 1), t5, t6)))) 7 0 N N (upd (upd es 1 (iI ((i + 1 : Nat) : Int))) 4 ((upd es 1 (iI ((i + 1 : Nat) : Int))) 1)) (upd (upd sc 36 0) 33 (iI ((i + 1 : Nat) : Int))) ar (by omega) (by omega) (by omega) (PZ_to z1 z1.1.2 (ud_ne (by decide)) (by rw [ud_ne (by decide)]; exact z1.2.1.2.1) rfl rfl z1.2.1.2.2.2 rfl) (by rw [ud_ne (by decide), ud_eq]; rfl) ⟨by omega, fun j hj => absurd hj (by omega)⟩
    have a3' : f_X0_readName_L21 N ea (fun t3 => (some ((if ((t3 1) - (t3 4)) ≤ 0 then (0 : Int32) else 1), (upd t3 5 ((t3 1) - (t3 4)))))) N 0 (upd (upd es 1 (iI ((i + 1 : Nat) : Int))) 4 ((upd es 1 (iI ((i + 1 : Nat) : Int))) 1)) = _ := a3
    rw [a3', a4]
    have q1 : es' 4 = iI ((i + 1 : Nat) : Int) := by rw [a8 4 (by decide), ud_eq, ud_eq]
    have q2 : es' 1 - es' 4 = iI (k' : Int) := by
      rw [q1, a5.2.1.2.1, iI_sub]; congr 1; omega
    simp only [q2, a6]
    rw [Nat.zero_add, Nat.add_zero] at a1
    have fr1 : ∀ j, j ≠ 33 → j ≠ 36 → sc' j = sc j := fun j hj hj2 => by rw [a9 j hj hj2, ud_ne hj, ud_ne hj2]
    have hz5 : PZ L n (upd es' 5 (iI (k' : Int))) ea sc' ar' (i + 1 + k') := PZ_to a5 a5.1.2 (ud_ne (by decide)) (by rw [ud_ne (by decide)]; exact a5.2.1.2.1) rfl rfl a5.2.1.2.2.2 rfl
    by_cases c : k' = 0
    · rw [if_pos (show iI (k' : Int) ≤ 0 by rw [iI_le0 (by omega) (by omega)]; omega)]
      refine Or.inr ⟨?_, _, _, _, _, rfl, rfl, hz5, fr1, a10⟩
      unfold nmr; rw [cI_f (fun z => by omega)]
    · rw [if_neg (show ¬ iI (k' : Int) ≤ 0 by rw [iI_le0 (by omega) (by omega)]; omega)]
      refine Or.inl ⟨i + 1 + k', _, _, _, i + 1, k', ?_, rfl, rfl, hz5, by omega, by omega, ?_, by rw [ud_ne (by decide)]; exact q1, ud_eq _ _ _, a6, a7, fr1, a10⟩
      · unfold nmr; rw [cI_t ⟨c1, by omega⟩, ← a1]
      · rw [ud_ne (by decide), a8 3 (by decide), ud_ne (by decide), ud_ne (by decide)]
  · have e6' : f_X0_readSign N es ea 32 = some (0, es) := e6
    have e7' : f_X7_takes N (upd sc 36 0) ar 32 = some (0, upd sc 36 0) := e7
    rw [e6', e7']
    simp only [Option.bind_some, if_true]
    refine Or.inr ⟨?_, _, _, _, _, rfl, rfl, hz0, fun j _ hj => ud_ne hj, fun _ _ => rfl⟩
    unfold nmr; rw [cI_f (fun z => c1 z.1)]
/-- what a statement that was read leaves on both sides -/
def STQ (L : Nat → Int) (n : Nat) (es : S1) (ea : S2) (sc : S1) (ar : S2) (w : Nat) : Prop := es 3 = iI w ∧ NMQ ea ar (nof w) ∧ (w = 6 → ∃ b k : Nat, (1 ≤ k ∧ k ≤ 7) ∧ es 4 = iI b ∧ es 5 = iI k ∧ sc 36 = iI k ∧ NAQ L n ar b k)
theorem state_both (hN : 100 ≤ N) (hz : PZ L n es ea sc ar i) : (∃ i' w es' ea' sc' ar', SR L n i i' w ∧ f_X0_readStatement N es ea = some (1, es', ea') ∧ f_X7_statement N sc ar = some (iI w, sc', ar') ∧ PZ L n es' ea' sc' ar' i' ∧ i < i' ∧ STQ L n es' ea' sc' ar' w ∧ (∀ j, j ≠ 33 → j ≠ 36 → sc' j = sc j) ∧ (∀ j, j ≠ 34 → j ≠ 35 → ar' j = ar j)) ∨ ((∀ i' w, ¬ SR L n i i' w) ∧ ∃ es' ea' sc' ar' i', f_X0_readStatement N es ea = some (0, es', ea') ∧ f_X7_statement N sc ar = some (-9, sc', ar') ∧ PZ L n es' ea' sc' ar' i' ∧ (∀ j, j ≠ 33 → j ≠ 36 → sc' j = sc j) ∧ (∀ j, j ≠ 34 → j ≠ 35 → ar' j = ar j)) := by
  unfold f_X0_readStatement f_X7_statement
  rcases word_both (N := N) hN hz with ⟨w, es1, sc1, hw, hM, a1, a2, a3, a4, a5⟩ | ⟨hno, es1, sc1, i1, a1, a2, a3, a5⟩
  · have hl := wlen_all ⟨w, hw⟩
    simp only at hl
    have n9 : ¬ iI (w : Int) = -9 := by rw [show (-9 : Int32) = iI (-9) by decide, iI_eq (by omega) (by omega) (by omega) (by omega)]; omega
    have e6i : iI (w : Int) = 6 ↔ w = 6 := by
      show iI (w : Int) = iI 6 ↔ _
      rw [iI_eq (by omega) (by omega) (by omega) (by omega)]; omega
    rw [a1, a2]
    simp only [Option.bind_some, if_neg one_ne, if_neg n9, a4]
    -- the numbers and the last sign, from any state
    have tail : ∀ (i2 : Nat) (es2 : S1) (sc2 : S1) (ar2 : S2), FS L n i w = (nums L n (nof w) i2).bind (fun i3 => if chr L n i3 = 59 then some (i3 + 1) else none) → i ≤ i2 → es2 3 = iI w → PZ L n es2 ea sc2 ar2 i2 → (w = 6 → ∃ b k : Nat, (1 ≤ k ∧ k ≤ 7) ∧ es2 4 = iI b ∧ es2 5 = iI k ∧ sc2 36 = iI k ∧ NAQ L n ar2 b k) → (∀ j, j ≠ 33 → j ≠ 36 → sc2 j = sc j) → (∀ j, j ≠ 34 → j ≠ 35 → ar2 j = ar j) → (∃ i' es' ea' sc' ar', SR L n i i' w ∧ f_X0_readStatement_L29 N (fun t3 t4 => ((f_X0_readSign N t3 t4 59).bind fun r5 => (if r5.1 = 0 ∨ r5.1 = 1 then (some (r5.1, r5.2, t4)) else none))) N 0 es2 ea = some (1, es', ea') ∧ f_X7_statement_L29 N (iI w) (fun t4 t5 => ((f_X7_takes N t4 t5 59).bind fun r6 => (some ((if r6.1 = 0 then -9 else iI w), r6.2, t5)))) N 0 sc2 ar2 = some (iI w, sc', ar') ∧ PZ L n es' ea' sc' ar' i' ∧ i < i' ∧ STQ L n es' ea' sc' ar' w ∧ (∀ j, j ≠ 33 → j ≠ 36 → sc' j = sc j) ∧ (∀ j, j ≠ 34 → j ≠ 35 → ar' j = ar j)) ∨ ((∀ i' w, ¬ SR L n i i' w) ∧ ∃ es' ea' sc' ar' i', f_X0_readStatement_L29 N (fun t3 t4 => ((f_X0_readSign N t3 t4 59).bind fun r5 => (if r5.1 = 0 ∨ r5.1 = 1 then (some (r5.1, r5.2, t4)) else none))) N 0 es2 ea = some (0, es', ea') ∧ f_X7_statement_L29 N (iI w) (fun t4 t5 => ((f_X7_takes N t4 t5 59).bind fun r6 => (some ((if r6.1 = 0 then -9 else iI w), r6.2, t5)))) N 0 sc2 ar2 = some (-9, sc', ar') ∧ PZ L n es' ea' sc' ar' i' ∧ (∀ j, j ≠ 33 → j ≠ 36 → sc' j = sc j) ∧ (∀ j, j ≠ 34 → j ≠ 35 → ar' j = ar j)) := by
      intro i2 es2 sc2 ar2 hF hi2 h3 hz2 hnm hs2 ha2
      have noSR : FS L n i w = none → ∀ i' w', ¬ SR L n i i' w' := by
        intro hnone i' w' hS
        have ew : w = w' := by
          by_cases c : wlen w ≤ wlen w'
          · exact MW_pf hw hS.1 hM hS.2.1 c
          · exact (MW_pf hS.1 hw hS.2.1 hM (by omega)).symm
        subst ew
        have := hS.2.2
        rw [hnone] at this
        exact absurd this (by simp)
      rcases nums_both (N := N) (L := L) (n := n) hw (kx := (fun t3 t4 => ((f_X0_readSign N t3 t4 59).bind fun r5 => (if r5.1 = 0 ∨ r5.1 = 1 then (some (r5.1, r5.2, t4)) else none)))) (ky := (fun t4 t5 => ((f_X7_takes N t4 t5 59).bind fun r6 => (some ((if r6.1 = 0 then -9 else iI w), r6.2, t5))))) (nof w) 0 N N i2 es2 ea sc2 ar2 (by omega) (by omega) (by omega) h3 hz2 (fun j hj => absurd hj (by omega)) with ⟨i3, es3, ea3, sc3, ar3, b0, b1, b2, b3, b4, b5, b6, b7, b8⟩ | ⟨b0, es3, ea3, sc3, ar3, i3, b1, b2, b3, b7, b8⟩
      · have b1' : f_X0_readStatement_L29 N (fun t3 t4 => ((f_X0_readSign N t3 t4 59).bind fun r5 => (if r5.1 = 0 ∨ r5.1 = 1 then (some (r5.1, r5.2, t4)) else none))) N 0 es2 ea = _ := b1
        have b2' : f_X7_statement_L29 N (iI w) (fun t4 t5 => ((f_X7_takes N t4 t5 59).bind fun r6 => (some ((if r6.1 = 0 then -9 else iI w), r6.2, t5)))) N 0 sc2 ar2 = _ := b2
        rw [b1', b2']
        have frs : ∀ j, j ≠ 33 → j ≠ 36 → sc3 j = sc j := fun j hj hj2 => by rw [b7 j hj, hs2 j hj hj2]
        have fra : ∀ j, j ≠ 34 → j ≠ 35 → ar3 j = ar j := fun j hj hj2 => by rw [b8 j hj, ha2 j hj hj2]
        rcases sign_both (N := N) b3 (c := 59) (by omega) with ⟨c1, c2, e6, e7⟩ | ⟨c1, e6, e7⟩
        · have e6' : f_X0_readSign N es3 ea3 59 = some (1, upd es3 1 (iI ((i3 + 1 : Nat) : Int))) := e6
          have e7' : f_X7_takes N sc3 ar3 59 = some (1, upd sc3 33 (iI ((i3 + 1 : Nat) : Int))) := e7
          rw [e6', e7']
          simp only [Option.bind_some, if_neg one_ne, or_true, if_true]
          refine Or.inl ⟨i3 + 1, _, _, _, _, ⟨hw, hM, ?_⟩, rfl, rfl, PZ_s b3 c2, by omega, ⟨?_, b5, ?_⟩, fun j hj hj2 => by rw [ud_ne hj]; exact frs j hj hj2, fra⟩
          · rw [hF, b0, Option.bind_some, if_pos c1]
          · rw [ud_ne (by decide), b6 3 (by decide)]; exact h3
          · intro h6
            obtain ⟨b, k, q1, q2, q3, q4, q5⟩ := hnm h6
            refine ⟨b, k, q1, ?_, ?_, ?_, ?_⟩
            · rw [ud_ne (by decide), b6 4 (by decide)]; exact q2
            · rw [ud_ne (by decide), b6 5 (by decide)]; exact q3
            · rw [ud_ne (by decide), b7 36 (by decide)]; exact q4
            · refine ⟨q5.1, ?_⟩
              rw [b8 35 (by decide)]; exact q5.2
        · have e6' : f_X0_readSign N es3 ea3 59 = some (0, es3) := e6
          have e7' : f_X7_takes N sc3 ar3 59 = some (0, sc3) := e7
          rw [e6', e7']
          simp only [Option.bind_some, true_or, if_true]
          refine Or.inr ⟨noSR (by rw [hF, b0, Option.bind_some, if_neg c1]), _, _, _, _, _, rfl, rfl, b3, frs, fra⟩
      · refine Or.inr ⟨noSR (by rw [hF, b0]; rfl), es3, ea3, sc3, ar3, i3, b1, b2, b3, fun j hj hj2 => by rw [b7 j hj, hs2 j hj hj2], fun j hj hj2 => by rw [b8 j hj, ha2 j hj hj2]⟩
    by_cases c6 : w = 6
    · simp only [if_pos (e6i.2 c6)]
      rcases name_both (N := N) hN a3 with ⟨i2, es2, sc2, ar2, b, k, b0, b1, b2, b3, b4, b5, b6, b7, b8, b9, b10, b11, b12⟩ | ⟨b0, es2, sc2, ar2, i2, b1, b2, b3, b11, b12⟩
      · rw [b1, b2]
        simp only [Option.bind_some, if_neg one_ne]
        rcases tail i2 es2 sc2 ar2 (by unfold FS; rw [if_pos c6, b0]; rfl) (by omega) (by rw [b6]; exact a4) b3 (fun _ => ⟨b, k, b5, b7, b8, b9, b10⟩) (fun j hj hj2 => by rw [b11 j hj hj2, a5 j hj]) (fun j hj hj2 => b12 j hj2) with ⟨i', es', ea', sc', ar', q⟩ | q
        · exact Or.inl ⟨i', w, es', ea', sc', ar', q⟩
        · exact Or.inr q
      · rw [b1, b2]
        simp only [Option.bind_some, if_true]
        refine Or.inr ⟨?_, _, _, _, _, _, rfl, rfl, b3, fun j hj hj2 => by rw [b11 j hj hj2, a5 j hj], fun j hj hj2 => b12 j hj2⟩
        intro i' w' hS
        have ew : w = w' := by
          by_cases c : wlen w ≤ wlen w'
          · exact MW_pf hw hS.1 hM hS.2.1 c
          · exact (MW_pf hS.1 hw hS.2.1 hM (by omega)).symm
        subst ew
        have := hS.2.2
        unfold FS at this
        rw [if_pos c6, b0] at this
        exact absurd this (by simp)
    · simp only [if_neg (fun z => c6 (e6i.1 z))]
      rcases tail (i + wlen w) es1 sc1 ar (by unfold FS; rw [if_neg c6]; rfl) (by omega) a4 a3 (fun z => absurd z c6) (fun j hj _ => a5 j hj) (fun _ _ _ => rfl) with ⟨i', es', ea', sc', ar', q⟩ | q
      · exact Or.inl ⟨i', w, es', ea', sc', ar', q⟩
      · exact Or.inr q
  · rw [a1, a2]
    simp only [Option.bind_some, if_true]
    refine Or.inr ⟨fun i' w hS => hno w hS.1 hS.2.1, _, _, _, _, _, rfl, rfl, a3, fun j hj _ => a5 j hj, fun _ _ _ => rfl⟩
end PC29
