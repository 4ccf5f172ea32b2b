-- ===== what stays when cells go: lists of indices =====
def gx (L : List Nat) (i : Nat) : Nat := L.getD i 0
def flt (P : Nat → Bool) (n : Nat) : List Nat := (List.range n).filter P
theorem gx_mem {L : List Nat} {i : Nat} (h : i < L.length) : gx L i ∈ L := by
  unfold gx
  rw [List.getD_eq_getElem?_getD, List.getElem?_eq_getElem h]
  exact List.getElem_mem h
theorem flt_le (P : Nat → Bool) (n : Nat) : (flt P n).length ≤ n := by
  have := List.length_filter_le P (List.range n)
  rw [List.length_range] at this
  exact this
theorem flt_gx {P : Nat → Bool} {n i : Nat} (h : i < (flt P n).length) : gx (flt P n) i < n ∧ P (gx (flt P n) i) = true := by
  have := gx_mem h
  unfold flt at this ⊢
  rw [List.mem_filter, List.mem_range] at this
  exact this
theorem flt_inj {P : Nat → Bool} {n i j : Nat} (hi : i < (flt P n).length) (hj : j < (flt P n).length) (h : gx (flt P n) i = gx (flt P n) j) : i = j := by
  have hn : (flt P n).Pairwise (· < ·) := List.Pairwise.filter _ List.pairwise_lt_range
  rw [List.pairwise_iff_getElem] at hn
  unfold gx at h
  rw [List.getD_eq_getElem?_getD, List.getD_eq_getElem?_getD, List.getElem?_eq_getElem hi, List.getElem?_eq_getElem hj] at h
  have h' : (flt P n)[i] = (flt P n)[j] := h
  rcases Nat.lt_trichotomy i j with c | c | c
  · have := hn i j hi hj c; omega
  · exact c
  · have := hn j i hj hi c; omega
theorem flt_s (P : Nat → Bool) (n : Nat) : flt P (n + 1) = flt P n ++ (if P n = true then [n] else []) := by
  unfold flt
  rw [List.range_succ, List.filter_append, List.filter_cons, List.filter_nil]
theorem gx_al {L U : List Nat} {i : Nat} (h : i < L.length) : gx (L ++ U) i = gx L i := by
  unfold gx
  rw [List.getD_eq_getElem?_getD, List.getD_eq_getElem?_getD, List.getElem?_append_left h]
theorem gx_last {L : List Nat} {b : Nat} : gx (L ++ [b]) L.length = b := by
  unfold gx
  rw [List.getD_eq_getElem?_getD, List.getElem?_append_right (Nat.le_refl _), Nat.sub_self]
  rfl
theorem gx_del {R U : List Nat} {x i : Nat} : gx (R ++ U) i = gx (R ++ x :: U) (if R.length ≤ i then i + 1 else i) := by
  unfold gx
  rw [List.getD_eq_getElem?_getD, List.getD_eq_getElem?_getD]
  by_cases c : R.length ≤ i
  · rw [if_pos c, List.getElem?_append_right c, List.getElem?_append_right (by omega), show i + 1 - R.length = (i - R.length) + 1 by omega, List.getElem?_cons_succ]
  · rw [if_neg c, List.getElem?_append_left (by omega), List.getElem?_append_left (by omega)]
theorem gx_range {n i : Nat} (h : i < n) : gx (List.range n) i = i := by
  unfold gx
  rw [List.getD_eq_getElem?_getD, List.getElem?_range h]
  rfl
def stg (P : Nat → Bool) (n b : Nat) : List Nat := List.range b ++ ((List.range n).drop b).filter P
theorem stg_n (P : Nat → Bool) (n : Nat) : stg P n n = List.range n := by
  unfold stg
  rw [List.drop_of_length_le (by rw [List.length_range]; exact Nat.le_refl _)]
  simp
theorem stg_0 (P : Nat → Bool) (n : Nat) : stg P n 0 = flt P n := by
  unfold stg flt
  simp
theorem stg_s {P : Nat → Bool} {n b : Nat} (h : b < n) : stg P n (b + 1) = List.range b ++ b :: ((List.range n).drop (b + 1)).filter P ∧ stg P n b = List.range b ++ (if P b = true then b :: ((List.range n).drop (b + 1)).filter P else ((List.range n).drop (b + 1)).filter P) := by
  constructor
  · unfold stg
    rw [List.range_succ, List.append_assoc]
    rfl
  · unfold stg
    rw [List.drop_eq_getElem_cons (by rw [List.length_range]; exact h), List.getElem_range, List.filter_cons]
theorem stg_len {P : Nat → Bool} {n b : Nat} (h : b ≤ n) : (stg P n b).length ≤ n := by
  unfold stg
  rw [List.length_append, List.length_range]
  have := List.length_filter_le P ((List.range n).drop b)
  rw [List.length_drop, List.length_range] at this
  omega
-- ===== the class's loops =====
section PC11
variable {N : Nat} {β : Type}
theorem rz_bridges (hN : 100 ≤ N) {ps : S1} {pa : S2} {v2 : Int32} {m : Int} (hm : 0 ≤ m ∧ m ≤ 24) {kx : S1 → S2 → Option β} {a0 : S2} {s0 : S1} {n : Nat} (hn : n ≤ 4) {f3 : Nat → Int} (hf : ∀ i : Nat, i < n → a0 3 i = iI (f3 i) ∧ 0 ≤ f3 i ∧ f3 i < 24) : ∀ (b : Nat) (k : Nat) (s : S1) (a : S2), b ≤ n → b < k → s 2 = iI ((stg (fun i => decide (f3 i < m)) n b).length : Int) → (∀ j, j ≠ 2 → s j = s0 j) → (∀ r, R3 r → ∀ i, i < (stg (fun i => decide (f3 i < m)) n b).length → a r i = a0 r (gx (stg (fun i => decide (f3 i < m)) n b) i)) → (∀ r, ¬ R3 r → a r = a0 r) → ∃ s' a', f_X1_resize_L56 N ps pa (iI m) v2 kx k (iI ((b : Int) - 1)) s a = kx s' a' ∧ s' 2 = iI ((flt (fun i => decide (f3 i < m)) n).length : Int) ∧ (∀ j, j ≠ 2 → s' j = s0 j) ∧ (∀ r, R3 r → ∀ i, i < (flt (fun i => decide (f3 i < m)) n).length → a' r i = a0 r (gx (flt (fun i => decide (f3 i < m)) n) i)) ∧ (∀ r, ¬ R3 r → a' r = a0 r) := by
  intro b
  induction b with
  | zero =>
    intro k s a h1 h2 h3 h4 h5 h6
    obtain ⟨k, rfl⟩ : ∃ k', k = k' + 1 := ⟨k - 1, by omega⟩
    rw [f_X1_resize_L56, if_pos (by show iI (((0 : Nat) : Int) - 1) < iI 0; exact lt_iI (by omega) (by omega) (by omega))]
    rw [stg_0] at h3 h5
    exact ⟨s, a, rfl, h3, h4, h5, h6⟩
  | succ b ih =>
    intro k s a h1 h2 h3 h4 h5 h6
    obtain ⟨k, rfl⟩ : ∃ k', k = k' + 1 := ⟨k - 1, by omega⟩
    obtain ⟨s1, s2⟩ := stg_s (P := fun i => decide (f3 i < m)) (show b < n by omega)
    have sl := stg_len (P := fun i => decide (f3 i < m)) (show b + 1 ≤ n by omega)
    have hfb := hf b (by omega)
    rw [show (((b + 1 : Nat) : Int) - 1) = (b : Int) by omega]
    rw [s1] at h3 h5 sl
    have hgb : gx (List.range b ++ b :: ((List.range n).drop (b + 1)).filter (fun i => decide (f3 i < m))) b = b := by
      have e : List.range b ++ b :: ((List.range n).drop (b + 1)).filter (fun i => decide (f3 i < m)) = List.range (b + 1) ++ ((List.range n).drop (b + 1)).filter (fun i => decide (f3 i < m)) := by
        rw [List.range_succ, List.append_assoc]; rfl
      rw [e, gx_al (by rw [List.length_range]; omega), gx_range (by omega)]
    have hlb : b < (List.range b ++ b :: ((List.range n).drop (b + 1)).filter (fun i => decide (f3 i < m))).length := by
      rw [List.length_append, List.length_range, List.length_cons]; omega
    have h5b := h5 3 (by decide) b hlb
    rw [hgb, hfb.1] at h5b
    have hob : ¬ oob (iI (b : Int)) 4 := ob_nat (by omega) (by omega)
    rw [f_X1_resize_L56, if_neg (by show ¬ iI (b : Int) < iI 0; exact nlt_iI (by omega) (by omega) (by omega)), if_neg hob, ix_nat (by omega), h5b, itelt (by omega) (by omega) (by omega) (by omega)]
    have ev : iI (b : Int) + (-1) = iI ((b : Int) - 1) := by
      show iI (b : Int) + iI (-1) = _
      rw [iI_add]; rfl
    rw [ev]
    by_cases hp : f3 b < m
    · rw [if_pos hp, Option.bind_some]
      rw [if_pos (by simpa using hp)] at s2
      exact ih k s a (by omega) (by omega) (by rw [s2]; exact h3) h4 (by rw [s2]; exact h5) h6
    · rw [if_neg hp, x1_removeBridge hN (by omega) hlb h3, Option.bind_some, Option.bind_some]
      rw [if_neg (by simpa using hp)] at s2
      have hlen : (List.range b ++ b :: ((List.range n).drop (b + 1)).filter (fun i => decide (f3 i < m))).length - 1 = (List.range b ++ ((List.range n).drop (b + 1)).filter (fun i => decide (f3 i < m))).length := by
        rw [List.length_append, List.length_append, List.length_cons]; omega
      rw [hlen]
      refine ih k _ _ (by omega) (by omega) (by rw [s2]; simp only [ud_eq]) (fun j hj => by show upd s 2 _ j = _; rw [ud_ne hj]; exact h4 j hj) ?_ ?_
      · rw [s2]
        intro r hr i hi
        show sh3 a b _ r i = _
        rw [sh3_3 hr hi, h5 r hr _ (by split <;> omega)]
        congr 1
        have := gx_del (R := List.range b) (U := ((List.range n).drop (b + 1)).filter (fun i => decide (f3 i < m))) (x := b) (i := i)
        rw [List.length_range] at this
        exact this.symm
      · intro r hr
        show sh3 a b _ r = _
        rw [sh3_row hr, h6 r hr]
theorem sh7_7 {a : S2} {b e r i : Nat} (h : R7 r) (hi : i < e) : sh7 a b e r i = a r (if b ≤ i then i + 1 else i) := by
  unfold sh7
  by_cases c : b ≤ i
  · rw [if_pos ⟨h, c, hi⟩, if_pos c]
  · rw [if_neg (fun z => c z.2.1), if_neg c]
theorem sh7_row {a : S2} {b e r : Nat} (h : ¬ R7 r) : sh7 a b e r = a r := by
  funext i
  unfold sh7
  rw [if_neg (fun z => h z.1)]
theorem rz_posts (hN : 100 ≤ N) {ps : S1} {pa : S2} {v2 : Int32} {m : Int} (hm : 0 ≤ m ∧ m ≤ 24) {kx : S1 → S2 → Option β} {a0 : S2} {s0 : S1} {n : Nat} (hn : n ≤ 5) {f3 : Nat → Int} (hf : ∀ i : Nat, i < n → a0 7 i = iI (f3 i) ∧ 0 ≤ f3 i ∧ f3 i < 24) : ∀ (b : Nat) (k : Nat) (s : S1) (a : S2), b ≤ n → b < k → s 6 = iI ((stg (fun i => decide (f3 i < m)) n b).length : Int) → (∀ j, j ≠ 6 → s j = s0 j) → (∀ r, R7 r → ∀ i, i < (stg (fun i => decide (f3 i < m)) n b).length → a r i = a0 r (gx (stg (fun i => decide (f3 i < m)) n b) i)) → (∀ r, ¬ R7 r → a r = a0 r) → ∃ s' a', f_X1_resize_L88 N ps pa (iI m) v2 kx k (iI ((b : Int) - 1)) s a = kx s' a' ∧ s' 6 = iI ((flt (fun i => decide (f3 i < m)) n).length : Int) ∧ (∀ j, j ≠ 6 → s' j = s0 j) ∧ (∀ r, R7 r → ∀ i, i < (flt (fun i => decide (f3 i < m)) n).length → a' r i = a0 r (gx (flt (fun i => decide (f3 i < m)) n) i)) ∧ (∀ r, ¬ R7 r → a' r = a0 r) := by
  intro b
  induction b with
  | zero =>
    intro k s a h1 h2 h3 h4 h5 h6
    obtain ⟨k, rfl⟩ : ∃ k', k = k' + 1 := ⟨k - 1, by omega⟩
    rw [f_X1_resize_L88, if_pos (by show iI (((0 : Nat) : Int) - 1) < iI 0; exact lt_iI (by omega) (by omega) (by omega))]
    rw [stg_0] at h3 h5
    exact ⟨s, a, rfl, h3, h4, h5, h6⟩
  | succ b ih =>
    intro k s a h1 h2 h3 h4 h5 h6
    obtain ⟨k, rfl⟩ : ∃ k', k = k' + 1 := ⟨k - 1, by omega⟩
    obtain ⟨s1, s2⟩ := stg_s (P := fun i => decide (f3 i < m)) (show b < n by omega)
    have sl := stg_len (P := fun i => decide (f3 i < m)) (show b + 1 ≤ n by omega)
    have hfb := hf b (by omega)
    rw [show (((b + 1 : Nat) : Int) - 1) = (b : Int) by omega]
    rw [s1] at h3 h5 sl
    have hgb : gx (List.range b ++ b :: ((List.range n).drop (b + 1)).filter (fun i => decide (f3 i < m))) b = b := by
      have e : List.range b ++ b :: ((List.range n).drop (b + 1)).filter (fun i => decide (f3 i < m)) = List.range (b + 1) ++ ((List.range n).drop (b + 1)).filter (fun i => decide (f3 i < m)) := by
        rw [List.range_succ, List.append_assoc]; rfl
      rw [e, gx_al (by rw [List.length_range]; omega), gx_range (by omega)]
    have hlb : b < (List.range b ++ b :: ((List.range n).drop (b + 1)).filter (fun i => decide (f3 i < m))).length := by
      rw [List.length_append, List.length_range, List.length_cons]; omega
    have h5b := h5 7 (by decide) b hlb
    rw [hgb, hfb.1] at h5b
    have hob : ¬ oob (iI (b : Int)) 5 := ob_nat (by omega) (by omega)
    rw [f_X1_resize_L88, if_neg (by show ¬ iI (b : Int) < iI 0; exact nlt_iI (by omega) (by omega) (by omega)), if_neg hob, ix_nat (by omega), h5b, itelt (by omega) (by omega) (by omega) (by omega)]
    have ev : iI (b : Int) + (-1) = iI ((b : Int) - 1) := by
      show iI (b : Int) + iI (-1) = _
      rw [iI_add]; rfl
    rw [ev]
    by_cases hp : f3 b < m
    · rw [if_pos hp, Option.bind_some]
      rw [if_pos (by simpa using hp)] at s2
      exact ih k s a (by omega) (by omega) (by rw [s2]; exact h3) h4 (by rw [s2]; exact h5) h6
    · rw [if_neg hp, x1_removePost hN (by omega) hlb h3, Option.bind_some, Option.bind_some]
      rw [if_neg (by simpa using hp)] at s2
      have hlen : (List.range b ++ b :: ((List.range n).drop (b + 1)).filter (fun i => decide (f3 i < m))).length - 1 = (List.range b ++ ((List.range n).drop (b + 1)).filter (fun i => decide (f3 i < m))).length := by
        rw [List.length_append, List.length_append, List.length_cons]; omega
      rw [hlen]
      refine ih k _ _ (by omega) (by omega) (by rw [s2]; simp only [ud_eq]) (fun j hj => by show upd s 6 _ j = _; rw [ud_ne hj]; exact h4 j hj) ?_ ?_
      · rw [s2]
        intro r hr i hi
        show sh7 a b _ r i = _
        rw [sh7_7 hr hi, h5 r hr _ (by split <;> omega)]
        congr 1
        have := gx_del (R := List.range b) (U := ((List.range n).drop (b + 1)).filter (fun i => decide (f3 i < m))) (x := b) (i := i)
        rw [List.length_range] at this
        exact this.symm
      · intro r hr
        show sh7 a b _ r = _
        rw [sh7_row hr, h6 r hr]
end PC11
