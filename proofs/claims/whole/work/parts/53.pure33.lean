-- ===== moved: the class =====
def gdA (A : AS) (p c : Nat) : Prop := keepA A (c : Int) (A 8 p)
def okC (A : AS) (ch : Nat → Int) (p c : Nat) : Prop := gdA A p c ∧ (ch p = -1 ∨ ch p = (c : Int))
def MV (A : AS) (o : Nat → Nat) (n P : Nat) (ma : S2) (ch : Nat → Int) : Prop := (∀ p : Nat, p < P → ∀ c : Nat, c < n → ma 0 (24 * p + c) = bI (gdA A p c)) ∧ (∀ j : Nat, j < P → ma 1 j = iI (o j)) ∧ (∀ p : Nat, p < P → ma 2 p = iI (ch p) ∧ -1 ≤ ch p ∧ ch p < 24)
theorem vb_nar (P : Prop) : vp_nar .boolean (bI P) = bI P := by
  rcases bI_01 P with h | h <;> rw [h] <;> decide
theorem iI_abs {x y : Int} (h1 : 0 ≤ x ∧ x ≤ 100) (h2 : 0 ≤ y ∧ y ≤ 100) : (if 0 ≤ iI x - iI y then iI x - iI y else 0 - (iI x - iI y)) = iI (aD x y) := by
  unfold aD
  rw [iI_sub]
  have : (0 : Int32) - iI (x - y) = iI (0 - (x - y)) := by
    show iI 0 - iI (x - y) = _
    rw [iI_sub]
  rw [this]
  by_cases c : 0 ≤ x - y
  · rw [if_pos c, if_pos (by rw [iI_0le (by omega) (by omega)]; exact c)]
  · rw [if_neg c, if_neg (by rw [iI_0le (by omega) (by omega)]; exact c)]
section PC33
variable {N : Nat} {A : AS} {s : S1} {a t : S2} {p : S1} {q : S2} {o : Nat → Nat} {n P : Nat}
theorem x2_cells {β : Type} (hN : 100 ≤ N) (h : LA A s a t p q) (hw : WF A) (hn : (n : Int) = A 0 0) {j : Nat} (hj : (j : Int) < A 6 0) {kx : S2 → Option β} {ma : S2} : ∃ ma', f_X2_prepare_L66 N s a t (iI j) kx N 0 ma = kx ma' ∧ (∀ c : Nat, c < n → ma' 0 (24 * j + c) = bI (gdA A j c)) ∧ (∀ i, ¬ (24 * j ≤ i ∧ i < 24 * j + n) → ma' 0 i = ma 0 i) ∧ (∀ r, r ≠ 0 → ma' r = ma r) := by
  have w0 := hw.1
  have l0 := h.1.1
  have a8 := (h.2.2.2.2.1 j hj).2
  have w3 := hw.2.2.2.1 j hj
  obtain ⟨ma', ⟨i1, i2, i3⟩, e1⟩ := lp_inv (R := β) (F := fun z c (x : S2) => f_X2_prepare_L66 N s a t (iI j) kx z (iI (c : Int)) x) (I := fun c x => (∀ c' : Nat, c' < c → x 0 (24 * j + c') = bI (gdA A j c')) ∧ (∀ i, ¬ (24 * j ≤ i ∧ i < 24 * j + c) → x 0 i = ma 0 i) ∧ (∀ r, r ≠ 0 → x r = ma r)) (kx := kx) (n := n)
    (by
      intro z x _
      show f_X2_prepare_L66 N s a t (iI j) kx (z + 1) (iI (n : Int)) x = _
      rw [f_X2_prepare_L66, l0, if_pos (le_iI (by omega) (by omega) (by omega))])
    (by
      rintro z c x hc ⟨h1, h2, h3⟩
      have e7 : iI (j : Int) * 24 + iI (c : Int) = iI ((24 * j + c : Nat) : Int) := by
        show iI (j : Int) * iI 24 + iI (c : Int) = _
        rw [iI_mul, iI_add]; congr 1; omega
      refine ⟨va_up x 0 (upd (x 0) (24 * j + c) (bI (gdA A j c))), ⟨?_, ?_, ?_⟩, ?_⟩
      · intro c' hc'
        rw [vu_eq]
        by_cases e : c' = c
        · rw [e, ud_eq]
        · rw [ud_ne (by omega)]; exact h1 c' (by omega)
      · intro i hi
        rw [vu_eq, ud_ne (by omega)]
        exact h2 i (by omega)
      · intro r hr
        rw [vu_ne hr]; exact h3 r hr
      · show f_X2_prepare_L66 N s a t (iI j) kx (z + 1) (iI (c : Int)) x = _
        rw [f_X2_prepare_L66, l0, if_neg (nle_iI (by omega) (by omega) (by omega)), if_neg (ob_nat (show j < 5 by omega) (by omega)), ix_nat (by omega), a8, x1_keepsAll hN h hw (by omega) (by omega), Option.bind_some, e7, if_neg (ob_nat (show 24 * j + c < 120 by omega) (by omega)), ix_nat (by omega), vb_nar, iI_succ]
        rfl)
    N 0 ma (by omega) (by omega) ⟨fun c hc => absurd hc (by omega), fun _ _ => rfl, fun _ _ => rfl⟩
  exact ⟨ma', e1, i1, i2, i3⟩
theorem x2_rank {β : Type} (hN : 100 ≤ N) (h : LA A s a t p q) (hw : WF A) (hP : (P : Int) = A 6 0) {j : Nat} (hj : j < P) {ma : S2} {kx : Int32 → Option β} : f_X2_prepare_L15 N ma s a t (iI j) kx N 0 0 = kx (iI (rkF (A 7) P j)) := by
  have w0 := hw.1
  have l6 := h.1.2.2.1
  have a7 := (h.2.2.2.2.1 j (by omega)).1
  have w3 := hw.2.2.2.1 j (by omega)
  exact lp_all (F := fun z k => f_X2_prepare_L15 N ma s a t (iI j) kx z (iI (sumF (fun q => if A 7 q < A 7 j then 1 else 0) k)) (iI (k : Int))) (n := P)
    (by
      intro z
      rw [f_X2_prepare_L15, l6, if_pos (le_iI (by omega) (by omega) (by omega))]
      rfl)
    (by
      intro z k hk
      have b7 := (h.2.2.2.2.1 k (by omega)).1
      have v3 := hw.2.2.2.1 k (by omega)
      rw [f_X2_prepare_L15, l6, if_neg (nle_iI (by omega) (by omega) (by omega)), if_neg (ob_nat (show k < 5 by omega) (by omega)), if_neg (ob_nat (show j < 5 by omega) (by omega)), ix_nat (by omega), ix_nat (by omega), a7, b7, itele (by omega) (by omega) (by omega) (by omega), iI_succ, sumF]
      congr 1
      by_cases c : A 7 k < A 7 j
      · rw [if_neg (by omega), if_pos c, iI_1s]
      · rw [if_pos (by omega), if_neg c, Int.add_zero])
    N 0 (by omega) (by omega)
theorem x2_prepare (hN : 100 ≤ N) (h : LA A s a t p q) (hw : WF A) (hn : (n : Int) = A 0 0) (hP : (P : Int) = A 6 0) (ho : ∀ j, j < P → o j < P) (hrk : ∀ j, j < P → rkF (A 7) P (o j) = (j : Int)) (hor : ∀ p, p < P → o (rkF (A 7) P p).toNat = p) {ma : S2} : ∃ ma', f_X2_prepare N ma s a t = some ma' ∧ MV A o n P ma' (fun _ => -1) := by
  have w0 := hw.1
  have hn24 : n ≤ 24 := by omega
  have hP5 : P ≤ 5 := by omega
  have l6 := h.1.2.2.1
  obtain ⟨ma', ⟨i1, i2, i3⟩, e1⟩ := lp_inv (R := S2) (F := fun z j (x : S2) => f_X2_prepare_L2 N s a t (fun t5 => some t5) z (iI (j : Int)) x) (I := fun j x => (∀ p : Nat, p < j → ∀ c : Nat, c < n → x 0 (24 * p + c) = bI (gdA A p c)) ∧ (∀ p : Nat, p < j → x 1 (rkF (A 7) P p).toNat = iI p) ∧ (∀ p : Nat, p < j → x 2 p = -1)) (kx := fun x => some x) (n := P)
    (by
      intro z x _
      show f_X2_prepare_L2 N s a t (fun t5 => some t5) (z + 1) (iI (P : Int)) x = _
      rw [f_X2_prepare_L2, l6, if_pos (le_iI (by omega) (by omega) (by omega))])
    (by
      rintro z j x hj ⟨h1, h2, h3⟩
      have rb := rkF_bd (a := A 7) hj
      obtain ⟨y, e2, y1, y2, y3⟩ := x2_cells (N := N) (n := n) hN h hw hn (j := j) (by omega) (kx := (fun t4 => (f_X2_prepare_L2 N s a t (fun t5 => some t5) z (iI ((j + 1 : Nat) : Int)) t4))) (ma := (va_up (va_up x 1 (upd (x 1) (rkF (A 7) P j).toNat (iI j))) 2 (upd (x 2) j (-1))))
      refine ⟨y, ⟨?_, ?_, ?_⟩, ?_⟩
      · intro p hp c hc
        by_cases e : p = j
        · subst e; exact y1 c hc
        · rw [y2 _ (by omega), vu_ne (by decide), vu_ne (by decide)]
          exact h1 p (by omega) c hc
      · intro p hp
        rw [y3 1 (by decide), vu_ne (by decide), vu_eq]
        by_cases e : p = j
        · subst e; exact ud_eq _ _ _
        · rw [ud_ne (fun z => e (by rw [← hor p (by omega), ← hor j hj, z]))]
          exact h2 p (by omega)
      · intro p hp
        rw [y3 2 (by decide), vu_eq]
        by_cases e : p = j
        · subst e; exact ud_eq _ _ _
        · rw [ud_ne e]; exact h3 p (by omega)
      · show f_X2_prepare_L2 N s a t (fun t5 => some t5) (z + 1) (iI (j : Int)) x = _
        rw [f_X2_prepare_L2, l6, if_neg (nle_iI (by omega) (by omega) (by omega)), x2_rank hN h hw hP hj, if_neg (ob_int (show 0 ≤ rkF (A 7) P j by omega) (show rkF (A 7) P j < (5 : Nat) by omega) (by omega)), if_neg (ob_nat (show j < 5 by omega) (by omega)), ix_iI (by omega) (by omega), ix_nat (by omega), iI_succ]
        exact e2)
    N 0 ma (by omega) (by omega) ⟨fun p hp => absurd hp (by omega), fun p hp => absurd hp (by omega), fun p hp => absurd hp (by omega)⟩
  refine ⟨ma', e1, i1, ?_, ?_⟩
  · intro j hj
    have := i2 (o j) (ho j hj)
    rw [hrk j hj] at this
    exact this
  · intro p hp
    show ma' 2 p = iI (-1) ∧ (-1 : Int) ≤ -1 ∧ (-1 : Int) < 24
    exact ⟨by rw [i3 p hp]; decide, by omega, by omega⟩
theorem x2_mayStand {ma : S2} {ch : Nat → Int} (hm : MV A o n P ma ch) (hn : n ≤ 24) (hP : P ≤ 5) {j c : Nat} (hj : j < P) (hc : c < n) : f_X2_mayStand N ma (iI j) (iI c) = some (bI (okC A ch j c)) := by
  have e7 : iI (j : Int) * 24 + iI (c : Int) = iI ((24 * j + c : Nat) : Int) := by
    show iI (j : Int) * iI 24 + iI (c : Int) = _
    rw [iI_mul, iI_add]; congr 1; omega
  have m2 := hm.2.2 j hj
  unfold f_X2_mayStand
  rw [e7, if_neg (ob_nat (show 24 * j + c < 120 by omega) (by omega)), ix_nat (by omega), hm.1 j hj c hc]
  by_cases g : gdA A j c
  · rw [bI_t g, if_neg one_ne, if_neg (ob_nat (show j < 5 by omega) (by omega)), if_neg (ob_nat (show j < 5 by omega) (by omega)), ix_nat (by omega), m2.1]
    have e1 : iI (ch j) = -1 ↔ ch j = -1 := by rw [show (-1 : Int32) = iI (-1) by decide, iI_eq (by omega) (by omega) (by omega) (by omega)]
    have e2 : iI (ch j) = iI (c : Int) ↔ ch j = (c : Int) := iI_eq (by omega) (by omega) (by omega) (by omega)
    by_cases z1 : ch j = -1
    · rw [if_pos (e1.2 z1), bI_t ⟨g, Or.inl z1⟩]; rfl
    · rw [if_neg (fun z => z1 (e1.1 z))]
      by_cases z2 : ch j = (c : Int)
      · rw [if_pos (e2.2 z2), bI_t ⟨g, Or.inr z2⟩]; rfl
      · rw [if_neg (fun z => z2 (e2.1 z)), bI_f (fun z => by rcases z.2 with z | z; exact z1 z; exact z2 z)]; rfl
  · rw [bI_f g, if_pos rfl, bI_f (fun z => g z.1)]; rfl
theorem MV_3 {ma ma' : S2} {ch : Nat → Int} (hm : MV A o n P ma ch) (h0 : ma' 0 = ma 0) (h1 : ma' 1 = ma 1) (h2 : ma' 2 = ma 2) : MV A o n P ma' ch := by
  unfold MV; rw [h0, h1, h2]; exact hm
/-- one post more -/
theorem x2_row {β : Type} (hN : 100 ≤ N) (h : LA A s a t p q) (hw : WF A) (hn : (n : Int) = A 0 0) (hP : (P : Int) = A 6 0) (ho : ∀ j, j < P → o j < P) {ch : Nat → Int} {i : Nat} (hi : i < P) {v2 : Int32} {kx : S2 → Option β} {ma : S2} (hm : MV A o n P ma ch) (h3 : ∀ c, c < n → ma 3 c = iI (RR (okC A ch) o (A 7) i (c + 1))) : ∃ ma', f_X2_leastSum_L59 N s a v2 (iI (o i)) kx N (iI (RR (okC A ch) o (A 7) i 0)) (iI nev) 0 ma = kx ma' ∧ MV A o n P ma' ch ∧ ∀ c, c < n → ma' 3 c = iI (RR (okC A ch) o (A 7) (i + 1) (c + 1)) := by
  have w0 := hw.1
  have l0 := h.1.1
  have hoi := ho i hi
  have a7 := (h.2.2.2.2.1 (o i) (by omega)).1
  have w3 := hw.2.2.2.1 (o i) (by omega)
  obtain ⟨⟨⟨v4, v5⟩, ma'⟩, ⟨i1, i2, i3, i4, i5⟩, e1⟩ := lp_inv (R := β) (F := fun z c (x : (Int32 × Int32) × S2) => f_X2_leastSum_L59 N s a v2 (iI (o i)) kx z x.1.1 x.1.2 (iI (c : Int)) x.2) (I := fun c x => MV A o n P x.2 ch ∧ x.1.1 = iI (RR (okC A ch) o (A 7) i c) ∧ x.1.2 = iI (RR (okC A ch) o (A 7) (i + 1) c) ∧ (∀ c', c' < c → x.2 3 c' = iI (RR (okC A ch) o (A 7) (i + 1) (c' + 1))) ∧ (∀ c', c ≤ c' → c' < n → x.2 3 c' = iI (RR (okC A ch) o (A 7) i (c' + 1)))) (kx := fun x => kx x.2) (n := n)
    (by
      rintro z ⟨⟨v4, v5⟩, x⟩ _
      show f_X2_leastSum_L59 N s a v2 (iI (o i)) kx (z + 1) v4 v5 (iI (n : Int)) x = _
      rw [f_X2_leastSum_L59, l0, if_pos (le_iI (by omega) (by omega) (by omega))])
    (by
      rintro z c ⟨⟨v4, v5⟩, x⟩ hc ⟨h1, h2, h3, h4, h5⟩
      simp only at h1 h2 h3 h4 h5
      have b1 := RR_bd (ok := okC A ch) (o := o) (a := A 7) i c
      have b2 := RR_bd (ok := okC A ch) (o := o) (a := A 7) (i + 1) c
      have b3 := aD_bd (x := c) (y := A 7 (o i)) (by omega) (by omega)
      have en : nev = 1000000 := rfl
      have er : RR (okC A ch) o (A 7) (i + 1) (c + 1) = @ite _ (okC A ch (o i) c) (Classical.propDecidable _) (if RR (okC A ch) o (A 7) i c + aD c (A 7 (o i)) < RR (okC A ch) o (A 7) (i + 1) c then RR (okC A ch) o (A 7) i c + aD c (A 7 (o i)) else RR (okC A ch) o (A 7) (i + 1) c) (RR (okC A ch) o (A 7) (i + 1) c) := rfl
      have hMV : MV A o n P (va_up x 3 (upd (x 3) c (iI (RR (okC A ch) o (A 7) (i + 1) (c + 1))))) ch := MV_3 h1 (vu_ne (by decide)) (vu_ne (by decide)) (vu_ne (by decide))
      refine ⟨((iI (RR (okC A ch) o (A 7) i (c + 1)), iI (RR (okC A ch) o (A 7) (i + 1) (c + 1))), va_up x 3 (upd (x 3) c (iI (RR (okC A ch) o (A 7) (i + 1) (c + 1))))), ⟨hMV, rfl, rfl, ?_, ?_⟩, ?_⟩
      · intro c' hc'
        show va_up x 3 (upd (x 3) c (iI (RR (okC A ch) o (A 7) (i + 1) (c + 1)))) 3 c' = _
        rw [vu_eq]
        by_cases e : c' = c
        · rw [e, ud_eq]
        · rw [ud_ne e]; exact h4 c' (by omega)
      · intro c' hc' hc2
        show va_up x 3 (upd (x 3) c (iI (RR (okC A ch) o (A 7) (i + 1) (c + 1)))) 3 c' = _
        rw [vu_eq, ud_ne (by omega)]; exact h5 c' (by omega) hc2
      · show f_X2_leastSum_L59 N s a v2 (iI (o i)) kx (z + 1) v4 v5 (iI (c : Int)) x = f_X2_leastSum_L59 N s a v2 (iI (o i)) kx z (iI (RR (okC A ch) o (A 7) i (c + 1))) (iI (RR (okC A ch) o (A 7) (i + 1) (c + 1))) (iI ((c + 1 : Nat) : Int)) (va_up x 3 (upd (x 3) c (iI (RR (okC A ch) o (A 7) (i + 1) (c + 1)))))
        rw [f_X2_leastSum_L59, l0, if_neg (nle_iI (by omega) (by omega) (by omega)), x2_mayStand h1 (by omega) (by omega) hoi hc, Option.bind_some, if_neg (ob_nat (show o i < 5 by omega) (by omega)), ix_nat (by omega), a7, iI_abs (by omega) (by omega), h2, h3, iI_add, itelt (by omega) (by omega) (by omega) (by omega), er, ← iI_succ]
        have ob : ¬ oob (iI (c : Int)) 24 := ob_nat (by omega) (by omega)
        by_cases k : okC A ch (o i) c
        · rw [bI_t k, if_neg one_ne, cI_t k, Option.bind_some, if_neg ob, if_neg ob, ix_nat (by omega), h5 c (by omega) hc]
          by_cases k2 : RR (okC A ch) o (A 7) i c + aD c (A 7 (o i)) < RR (okC A ch) o (A 7) (i + 1) c
          · rw [if_pos k2, if_pos k2]
          · rw [if_neg k2, if_neg k2]
        · rw [bI_f k, if_pos rfl, cI_f k, Option.bind_some, if_neg ob, if_neg ob, ix_nat (by omega), h5 c (by omega) hc])
    N 0 ((iI (RR (okC A ch) o (A 7) i 0), iI nev), ma) (by omega) (by omega) ⟨hm, rfl, rfl, fun c hc => absurd hc (by omega), fun c _ hc => h3 c hc⟩
  exact ⟨ma', e1, i1, fun c hc => i4 c hc⟩
theorem x2_leastSum (hN : 100 ≤ N) (h : LA A s a t p q) (hw : WF A) (hn : (n : Int) = A 0 0) (hP : (P : Int) = A 6 0) (ho : ∀ j, j < P → o j < P) {ch : Nat → Int} {ma : S2} (hm : MV A o n P ma ch) : ∃ ma', f_X2_leastSum N ma s a = some (iI (RR (okC A ch) o (A 7) P n), ma') ∧ MV A o n P ma' ch := by
  have w0 := hw.1
  have l0 := h.1.1
  have l6 := h.1.2.2.1
  unfold f_X2_leastSum
  obtain ⟨x1, ⟨a1, a2⟩, e1⟩ := lp_inv (R := Int32 × S2) (F := fun z c (x : S2) => f_X2_leastSum_L2 N s a (fun t1 => (f_X2_leastSum_L25 N s a (fun t8 => (if oob ((s 0) - 1) 24 then none else (some (((t8 3) (ix ((s 0) - 1))), t8)))) N 0 t1)) z (iI (c : Int)) x) (I := fun c x => MV A o n P x ch ∧ ∀ c', c' < c → x 3 c' = 0) (kx := (fun t1 => (f_X2_leastSum_L25 N s a (fun t8 => (if oob ((s 0) - 1) 24 then none else (some (((t8 3) (ix ((s 0) - 1))), t8)))) N 0 t1))) (n := n)
    (by
      intro z x _
      show f_X2_leastSum_L2 N s a _ (z + 1) (iI (n : Int)) x = _
      rw [f_X2_leastSum_L2, l0, if_pos (le_iI (by omega) (by omega) (by omega))])
    (by
      rintro z c x hc ⟨h1, h2⟩
      refine ⟨va_up x 3 (upd (x 3) c 0), ⟨MV_3 h1 (vu_ne (by decide)) (vu_ne (by decide)) (vu_ne (by decide)), ?_⟩, ?_⟩
      · intro c' hc'
        rw [vu_eq]
        by_cases e : c' = c
        · rw [e, ud_eq]
        · rw [ud_ne e]; exact h2 c' (by omega)
      · show f_X2_leastSum_L2 N s a _ (z + 1) (iI (c : Int)) x = _
        rw [f_X2_leastSum_L2, l0, if_neg (nle_iI (by omega) (by omega) (by omega)), if_neg (ob_nat (show c < 24 by omega) (by omega)), ix_nat (by omega), iI_succ, ← l0])
    N 0 ma (by omega) (by omega) ⟨hm, fun c hc => absurd hc (by omega)⟩
  obtain ⟨x2, ⟨b1, b2⟩, e2⟩ := lp_inv (R := Int32 × S2) (F := fun z i (x : S2) => f_X2_leastSum_L25 N s a (fun t8 => (if oob ((s 0) - 1) 24 then none else (some (((t8 3) (ix ((s 0) - 1))), t8)))) z (iI (i : Int)) x) (I := fun i x => MV A o n P x ch ∧ ∀ c, c < n → x 3 c = iI (RR (okC A ch) o (A 7) i (c + 1))) (kx := (fun t8 => (if oob ((s 0) - 1) 24 then none else (some (((t8 3) (ix ((s 0) - 1))), t8))))) (n := P)
    (by
      intro z x _
      show f_X2_leastSum_L25 N s a _ (z + 1) (iI (P : Int)) x = _
      rw [f_X2_leastSum_L25, l6, if_pos (le_iI (by omega) (by omega) (by omega))])
    (by
      rintro z i x hi ⟨h1, h2⟩
      obtain ⟨y, y1, y2, y3⟩ := x2_row (N := N) hN h hw hn hP ho hi (v2 := iI (i : Int)) (kx := (fun t7 => (f_X2_leastSum_L25 N s a (fun t8 => (if oob ((s 0) - 1) 24 then none else (some (((t8 3) (ix ((s 0) - 1))), t8)))) z (iI ((i + 1 : Nat) : Int)) t7))) h1 h2
      refine ⟨y, ⟨y2, y3⟩, ?_⟩
      show f_X2_leastSum_L25 N s a _ (z + 1) (iI (i : Int)) x = _
      have eb : (if iI (i : Int) = 0 then (0 : Int32) else 1000000) = iI (RR (okC A ch) o (A 7) i 0) := by
        cases i with
        | zero => rw [if_pos (show iI ((0 : Nat) : Int) = 0 from rfl)]; rfl
        | succ i => rw [if_neg (by rw [iI_eq0 (by omega) (by omega)]; omega)]; rfl
      rw [f_X2_leastSum_L25, l6, if_neg (nle_iI (by omega) (by omega) (by omega)), if_neg (ob_nat (show i < 5 by omega) (by omega)), ix_nat (by omega), h1.2.1 i hi, iI_succ, eb]
      exact y1)
    N 0 x1 (by omega) (by omega) ⟨a1, fun c hc => a2 c hc⟩
  have e0 : s 0 - 1 = iI ((n - 1 : Nat) : Int) := by
    rw [l0, ← hn]
    show iI (n : Int) - iI 1 = _
    rw [iI_sub]; congr 1; omega
  refine ⟨x2, ?_, b1⟩
  refine e1.trans (e2.trans ?_)
  show (if oob ((s 0) - 1) 24 then none else (some (((x2 3) (ix ((s 0) - 1))), x2))) = _
  rw [e0, if_neg (ob_nat (show n - 1 < 24 by omega) (by omega)), ix_nat (by omega), b2 (n - 1) (by omega), show n - 1 + 1 = n by omega]
end PC33
