-- ===== places that stay =====
def NI (w l nm w0 l0 nm0 : Nat → Int32) (L : List Nat) (b : Nat) : Prop :=
  (∀ i, i < L.length → w i = w0 (gx L i) ∧ l i = l0 (gx L i) ∧ ∀ j, j < 7 → nm (7 * i + j) = nm0 (7 * gx L i + j)) ∧ (∀ i, b ≤ i → w i = w0 i ∧ l i = l0 i) ∧ (∀ i, 7 * b ≤ i → nm i = nm0 i)
theorem NI_skip {w l nm w0 l0 nm0 : Nat → Int32} {L : List Nat} {b : Nat} (h : NI w l nm w0 l0 nm0 L b) : NI w l nm w0 l0 nm0 L (b + 1) :=
  ⟨h.1, fun i hi => h.2.1 i (by omega), fun i hi => h.2.2 i (by omega)⟩
theorem NI_keep {w l nm w0 l0 nm0 : Nat → Int32} {L : List Nat} {b : Nat} (h : NI w l nm w0 l0 nm0 L b) (hL : L.length ≤ b) : NI (upd w L.length (w b)) (upd l L.length (l b)) (va_cpy nm nm (7 * b) (7 * L.length) 7) w0 l0 nm0 (L ++ [b]) (b + 1) := by
  refine ⟨?_, ?_, ?_⟩
  · intro i hi
    rw [List.length_append, List.length_singleton] at hi
    by_cases e : i = L.length
    · subst e
      rw [gx_last, ud_eq, ud_eq]
      have := h.2.1 b (Nat.le_refl b)
      refine ⟨this.1, this.2, ?_⟩
      intro j hj
      unfold va_cpy
      rw [if_pos (by omega), show 7 * b + (7 * L.length + j - 7 * L.length) = 7 * b + j by omega]
      exact h.2.2 _ (by omega)
    · rw [gx_al (by omega), ud_ne e, ud_ne e]
      have := h.1 i (by omega)
      refine ⟨this.1, this.2.1, ?_⟩
      intro j hj
      unfold va_cpy
      rw [if_neg (by omega)]
      exact this.2.2 j hj
  · intro i hi
    rw [ud_ne (by omega), ud_ne (by omega)]
    exact h.2.1 i (by omega)
  · intro i hi
    unfold va_cpy
    rw [if_neg (by omega)]
    exact h.2.2 i (by omega)
theorem NI_0 (w l nm : Nat → Int32) : NI w l nm w l nm [] 0 := ⟨fun i hi => absurd hi (Nat.not_lt_zero _), fun _ _ => ⟨rfl, rfl⟩, fun _ _ => rfl⟩
section PC12
variable {N : Nat} {β : Type}
theorem x3_drop_loop {ps : S1} {m : Int} (hm : 0 ≤ m ∧ m ≤ 24) {kx : Int32 → S2 → Option β} {w0 l0 nm0 : Nat → Int32} {n : Nat} (hn : n ≤ 8) (e0 : ps 0 = iI n) {f : Nat → Int} (hf : ∀ i : Nat, i < n → w0 i = iI (f i) ∧ 0 ≤ f i ∧ f i < 24) : ∀ (k b : Nat) (pa : S2), b ≤ n → n < b + k → NI (pa 1) (pa 2) (pa 3) w0 l0 nm0 (flt (fun i => decide (f i < m)) b) b → (∀ i, i < 56 → fits .char (.int (pa 3 i)) = true) → ∃ pa', f_X3_dropFrom_L4 N ps (iI m) kx k (iI ((flt (fun i => decide (f i < m)) b).length : Int)) (iI b) pa = kx (iI ((flt (fun i => decide (f i < m)) n).length : Int)) pa' ∧ NI (pa' 1) (pa' 2) (pa' 3) w0 l0 nm0 (flt (fun i => decide (f i < m)) n) n ∧ (∀ i, i < 56 → fits .char (.int (pa' 3 i)) = true) := by
  intro k
  induction k with
  | zero => intro b pa h1 h2; omega
  | succ k ih =>
    intro b pa h1 h2 hI hch
    have hl := flt_le (fun i => decide (f i < m)) b
    by_cases hb : b = n
    · subst hb
      refine ⟨pa, ?_, hI, hch⟩
      rw [f_X3_dropFrom_L4, e0, if_pos (le_iI (by omega) (by omega) (by omega))]
    · have hfb := hf b (by omega)
      have hwb := (hI.2.1 b (Nat.le_refl b)).1
      have o1 : ¬ oob (iI (b : Int)) 8 := ob_nat (by omega) (by omega)
      have o2 : ¬ oob (iI ((flt (fun i => decide (f i < m)) b).length : Int)) 8 := ob_nat (by omega) (by omega)
      rw [f_X3_dropFrom_L4, e0, if_neg (nle_iI (by omega) (by omega) (by omega)), if_neg o1, if_neg o1, if_neg o1, if_neg o2, if_neg o2, ix_nat (show b < 2147483648 by omega), ix_nat (show (flt (fun i => decide (f i < m)) b).length < 2147483648 by omega), hwb, hfb.1, itele (by omega) (by omega) (by omega) (by omega), iI_succ, iI_succ]
      have hs := flt_s (fun i => decide (f i < m)) b
      by_cases hp : m ≤ f b
      · rw [if_pos hp, Option.bind_some]
        rw [if_neg (by simpa using hp), List.append_nil] at hs
        rw [← hs]
        rw [← hs] at hI
        exact ih (b + 1) pa (by omega) (by omega) (NI_skip hI) hch
      · rw [if_neg hp]
        rw [if_pos (by simpa using hp)] at hs
        have e1 : iI (b : Int) * 7 = iI ((7 * b : Nat) : Int) := by
          show iI (b : Int) * iI 7 = _
          rw [iI_mul]; congr 1; omega
        have e2 : iI ((flt (fun i => decide (f i < m)) b).length : Int) * 7 = iI ((7 * (flt (fun i => decide (f i < m)) b).length : Nat) : Int) := by
          show iI _ * iI 7 = _
          rw [iI_mul]; congr 1; omega
        have e3 : ix (7 : Int32) = 7 := rfl
        rw [e1, e2]
        have hc : ¬ (cpb 56 56 (iI ((7 * b : Nat) : Int)) (iI ((7 * (flt (fun i => decide (f i < m)) b).length : Nat) : Int)) 7 ∨ cpc (pa 3) (iI ((7 * b : Nat) : Int)) 7) := by
          rintro ((c | c | c | c | c) | c)
          · rw [iI_lt0 (by omega) (by omega)] at c; omega
          · rw [iI_lt0 (by omega) (by omega)] at c; omega
          · exact absurd c (by decide)
          · rw [ix_nat (by omega), e3] at c; omega
          · rw [ix_nat (by omega), e3] at c; omega
          · apply c
            intro i hi
            rw [ix_nat (by omega)]
            rw [e3] at hi
            exact hch _ (by omega)
        rw [if_neg hc, Option.bind_some, ix_nat (show 7 * b < 2147483648 by omega), ix_nat (show 7 * (flt (fun i => decide (f i < m)) b).length < 2147483648 by omega), e3]
        have hlen : (flt (fun i => decide (f i < m)) b).length + 1 = (flt (fun i => decide (f i < m)) (b + 1)).length := by
          rw [hs, List.length_append]; rfl
        rw [hlen]
        refine ih (b + 1) _ (by omega) (by omega) ?_ ?_
        · rw [hs]
          simp (disch := decide) only [vu_eq, vu_ne]
          rw [← hfb.1, ← hwb]
          exact NI_keep hI hl
        · intro i hi
          simp only [vu_eq]
          unfold va_cpy
          split
          · exact hch _ (by omega)
          · exact hch _ hi
theorem x3_dropFrom (hN : 100 ≤ N) {ps : S1} {pa : S2} {m : Int} (hm : 0 ≤ m ∧ m ≤ 24) {n : Nat} (hn : n ≤ 8) (e0 : ps 0 = iI n) {f : Nat → Int} (hf : ∀ i : Nat, i < n → pa 1 i = iI (f i) ∧ 0 ≤ f i ∧ f i < 24) (hch : ∀ i, i < 56 → fits .char (.int (pa 3 i)) = true) : ∃ pa', f_X3_dropFrom N ps pa (iI m) = some (upd ps 0 (iI ((flt (fun i => decide (f i < m)) n).length : Int)), pa') ∧ NI (pa' 1) (pa' 2) (pa' 3) (pa 1) (pa 2) (pa 3) (flt (fun i => decide (f i < m)) n) n ∧ (∀ i, i < 56 → fits .char (.int (pa' 3 i)) = true) := by
  unfold f_X3_dropFrom
  exact x3_drop_loop hm hn e0 hf N 0 pa (by omega) (by omega) (NI_0 _ _ _) hch
-- ===== the model's cuts =====
def BI (R : Nat → Prop) (a a0 : S2) (L : List Nat) (b : Nat) : Prop := (∀ r, R r → (∀ i, i < L.length → a r i = a0 r (gx L i)) ∧ ∀ i, b ≤ i → a r i = a0 r i) ∧ ∀ r, ¬ R r → a r = a0 r
theorem BI_skip {R : Nat → Prop} {a a0 : S2} {L : List Nat} {b : Nat} (h : BI R a a0 L b) : BI R a a0 L (b + 1) :=
  ⟨fun r hr => ⟨(h.1 r hr).1, fun i hi => (h.1 r hr).2 i (by omega)⟩, h.2⟩
theorem BI_0 {R : Nat → Prop} {a : S2} : BI R a a [] 0 := ⟨fun _ _ => ⟨fun i hi => absurd hi (Nat.not_lt_zero _), fun _ _ => rfl⟩, fun _ _ => rfl⟩
theorem BI_row {a a0 : S2} {R : Nat → Prop} {L : List Nat} {b : Nat} (h : BI R a a0 L b) (hL : L.length ≤ b) {r : Nat} (hr : R r) : (∀ i, i < (L ++ [b]).length → upd (a r) L.length (a r b) i = a0 r (gx (L ++ [b]) i)) ∧ ∀ i, b + 1 ≤ i → upd (a r) L.length (a r b) i = a0 r i := by
  constructor
  · intro i hi
    rw [List.length_append, List.length_singleton] at hi
    by_cases e : i = L.length
    · subst e
      rw [gx_last, ud_eq]
      exact (h.1 r hr).2 b (Nat.le_refl b)
    · rw [gx_al (by omega), ud_ne e]
      exact (h.1 r hr).1 i (by omega)
  · intro i hi
    rw [ud_ne (by omega)]
    exact (h.1 r hr).2 i (by omega)
theorem BI_keep3 {a a0 : S2} {L : List Nat} {b : Nat} (h : BI R3 a a0 L b) (hL : L.length ≤ b) : BI R3 (va_up (va_up (va_up a 3 (upd (a 3) L.length (a 3 b))) 4 (upd (a 4) L.length (a 4 b))) 5 (upd (a 5) L.length (a 5 b))) a0 (L ++ [b]) (b + 1) := by
  refine ⟨?_, ?_⟩
  · rintro r (rfl | rfl | rfl)
    · simp (disch := decide) only [vu_ne, vu_eq]; exact BI_row h hL (by decide)
    · simp (disch := decide) only [vu_ne, vu_eq]; exact BI_row h hL (by decide)
    · simp (disch := decide) only [vu_ne, vu_eq]; exact BI_row h hL (by decide)
  · intro r hr
    rw [vu_ne (fun z => hr (by subst z; decide)), vu_ne (fun z => hr (by subst z; decide)), vu_ne (fun z => hr (by subst z; decide))]
    exact h.2 r hr
theorem BI_keep7 {a a0 : S2} {L : List Nat} {b : Nat} (h : BI R7 a a0 L b) (hL : L.length ≤ b) : BI R7 (va_up (va_up a 7 (upd (a 7) L.length (a 7 b))) 8 (upd (a 8) L.length (a 8 b))) a0 (L ++ [b]) (b + 1) := by
  refine ⟨?_, ?_⟩
  · rintro r (rfl | rfl)
    · simp (disch := decide) only [vu_ne, vu_eq]; exact BI_row h hL (by decide)
    · simp (disch := decide) only [vu_ne, vu_eq]; exact BI_row h hL (by decide)
  · intro r hr
    rw [vu_ne (fun z => hr (by subst z; decide)), vu_ne (fun z => hr (by subst z; decide))]
    exact h.2 r hr
theorem x7_cuts3 {sc : S1} {m : Int} (hm : 0 ≤ m ∧ m ≤ 24) (e0 : sc 0 = iI m) {kx : Int32 → S2 → Option β} {a0 : S2} {n : Nat} (hn : n ≤ 4) (e2 : sc 2 = iI n) {f : Nat → Int} (hf : ∀ i : Nat, i < n → a0 3 i = iI (f i) ∧ 0 ≤ f i ∧ f i < 24) : ∀ (k b : Nat) (a : S2), b ≤ n → n < b + k → BI R3 a a0 (flt (fun i => decide (f i < m)) b) b → ∃ a', f_X7_cuts_L4 N sc kx k (iI ((flt (fun i => decide (f i < m)) b).length : Int)) (iI b) a = kx (iI ((flt (fun i => decide (f i < m)) n).length : Int)) a' ∧ BI R3 a' a0 (flt (fun i => decide (f i < m)) n) n := by
  intro k
  induction k with
  | zero => intro b a h1 h2; omega
  | succ k ih =>
    intro b a h1 h2 hI
    have hl := flt_le (fun i => decide (f i < m)) b
    by_cases hb : b = n
    · subst hb
      refine ⟨a, ?_, hI⟩
      rw [f_X7_cuts_L4, e2, if_pos (le_iI (by omega) (by omega) (by omega))]
    · have hfb := hf b (by omega)
      have hwb := (hI.1 3 (by decide)).2 b (Nat.le_refl b)
      have o1 : ¬ oob (iI (b : Int)) 4 := ob_nat (by omega) (by omega)
      have o2 : ¬ oob (iI ((flt (fun i => decide (f i < m)) b).length : Int)) 4 := ob_nat (by omega) (by omega)
      rw [f_X7_cuts_L4, e2, if_neg (nle_iI (by omega) (by omega) (by omega))]
      simp only [if_neg o1, if_neg o2, ix_nat (show b < 2147483648 by omega), ix_nat (show (flt (fun i => decide (f i < m)) b).length < 2147483648 by omega), e0, iI_succ]
      have hs := flt_s (fun i => decide (f i < m)) b
      by_cases hp : m ≤ f b
      · rw [if_pos (by rw [hwb, hfb.1]; exact le_iI hp (by omega) (by omega)), Option.bind_some]
        rw [if_neg (by simpa using hp), List.append_nil] at hs
        rw [← hs]
        rw [← hs] at hI
        exact ih (b + 1) a (by omega) (by omega) (BI_skip hI)
      · rw [if_neg (by rw [hwb, hfb.1]; exact nle_iI (by omega) (by omega) (by omega)), Option.bind_some]
        rw [if_pos (by simpa using hp)] at hs
        have hlen : (flt (fun i => decide (f i < m)) b).length + 1 = (flt (fun i => decide (f i < m)) (b + 1)).length := by
          rw [hs, List.length_append]; rfl
        rw [hlen]
        refine ih (b + 1) _ (by omega) (by omega) ?_
        rw [hs]
        exact BI_keep3 hI hl
theorem x7_cuts7 {sc : S1} {m : Int} (hm : 0 ≤ m ∧ m ≤ 24) (e0 : sc 0 = iI m) {kx : Int32 → S2 → Option β} {a0 : S2} {n : Nat} (hn : n ≤ 5) (e2 : sc 6 = iI n) {f : Nat → Int} (hf : ∀ i : Nat, i < n → a0 7 i = iI (f i) ∧ 0 ≤ f i ∧ f i < 24) : ∀ (k b : Nat) (a : S2), b ≤ n → n < b + k → BI R7 a a0 (flt (fun i => decide (f i < m)) b) b → ∃ a', f_X7_cuts_L79 N sc kx k (iI ((flt (fun i => decide (f i < m)) b).length : Int)) (iI b) a = kx (iI ((flt (fun i => decide (f i < m)) n).length : Int)) a' ∧ BI R7 a' a0 (flt (fun i => decide (f i < m)) n) n := by
  intro k
  induction k with
  | zero => intro b a h1 h2; omega
  | succ k ih =>
    intro b a h1 h2 hI
    have hl := flt_le (fun i => decide (f i < m)) b
    by_cases hb : b = n
    · subst hb
      refine ⟨a, ?_, hI⟩
      rw [f_X7_cuts_L79, e2, if_pos (le_iI (by omega) (by omega) (by omega))]
    · have hfb := hf b (by omega)
      have hwb := (hI.1 7 (by decide)).2 b (Nat.le_refl b)
      have o1 : ¬ oob (iI (b : Int)) 5 := ob_nat (by omega) (by omega)
      have o2 : ¬ oob (iI ((flt (fun i => decide (f i < m)) b).length : Int)) 5 := ob_nat (by omega) (by omega)
      rw [f_X7_cuts_L79, e2, if_neg (nle_iI (by omega) (by omega) (by omega))]
      simp only [if_neg o1, if_neg o2, ix_nat (show b < 2147483648 by omega), ix_nat (show (flt (fun i => decide (f i < m)) b).length < 2147483648 by omega), e0, iI_succ]
      have hs := flt_s (fun i => decide (f i < m)) b
      by_cases hp : m ≤ f b
      · rw [if_pos (by rw [hwb, hfb.1]; exact le_iI hp (by omega) (by omega)), Option.bind_some]
        rw [if_neg (by simpa using hp), List.append_nil] at hs
        rw [← hs]
        rw [← hs] at hI
        exact ih (b + 1) a (by omega) (by omega) (BI_skip hI)
      · rw [if_neg (by rw [hwb, hfb.1]; exact nle_iI (by omega) (by omega) (by omega)), Option.bind_some]
        rw [if_pos (by simpa using hp)] at hs
        have hlen : (flt (fun i => decide (f i < m)) b).length + 1 = (flt (fun i => decide (f i < m)) (b + 1)).length := by
          rw [hs, List.length_append]; rfl
        rw [hlen]
        refine ih (b + 1) _ (by omega) (by omega) ?_
        rw [hs]
        exact BI_keep7 hI hl
theorem x7_cuts_copy (hN : 100 ≤ N) {sc : S1} {l b : Nat} (hl : l ≤ b) (hb : b < 8) {kx : S2 → Option β} {a : S2} : f_X7_cuts_L165 N sc (iI l) (iI b) kx N 0 a = kx (va_up a 16 (va_cpy (a 16) (a 16) (7 * b) (7 * l) 7)) := by
  have go := lp_all (F := fun k j => f_X7_cuts_L165 N sc (iI l) (iI b) kx k (iI (j : Int)) (va_up a 16 (va_cpy (a 16) (a 16) (7 * b) (7 * l) j))) (n := 7) (fin := kx (va_up a 16 (va_cpy (a 16) (a 16) (7 * b) (7 * l) 7)))
    (by
      intro k
      rw [f_X7_cuts_L165, if_pos (by decide)])
    (by
      intro k j hj
      have e1 : (7 : Int32) * iI (b : Int) + iI (j : Int) = iI ((7 * b + j : Nat) : Int) := by
        show iI 7 * iI (b : Int) + iI (j : Int) = _
        rw [iI_mul, iI_add]; congr 1
      have e2 : (7 : Int32) * iI (l : Int) + iI (j : Int) = iI ((7 * l + j : Nat) : Int) := by
        show iI 7 * iI (l : Int) + iI (j : Int) = _
        rw [iI_mul, iI_add]; congr 1
      rw [f_X7_cuts_L165, if_neg (by show ¬ iI 7 ≤ iI (j : Int); exact nle_iI (by omega) (by omega) (by omega)), e1, e2, if_neg (ob_nat (by omega) (by omega)), if_neg (ob_nat (by omega) (by omega)), ix_nat (by omega), ix_nat (by omega), iI_succ]
      congr 1
      funext r
      by_cases hr : r = 16
      · subst hr
        rw [vu_eq, vu_eq, vu_eq]
        funext i
        by_cases e : i = 7 * l + j
        · subst e
          rw [ud_eq]
          unfold va_cpy
          rw [if_neg (by omega), if_pos (by omega)]
          congr 1
          omega
        · rw [ud_ne e]
          unfold va_cpy
          by_cases c : 7 * l ≤ i ∧ i < 7 * l + j
          · rw [if_pos c, if_pos (by omega)]
          · rw [if_neg c, if_neg (by omega)]
      · rw [vu_ne hr, vu_ne hr, vu_ne hr])
    N 0 (by omega) (by omega)
  have e0 : va_up a 16 (va_cpy (a 16) (a 16) (7 * b) (7 * l) 0) = a := by
    funext r
    by_cases hr : r = 16
    · subst hr
      rw [vu_eq]
      funext i
      unfold va_cpy
      rw [if_neg (by omega)]
    · rw [vu_ne hr]
  rw [e0] at go
  exact go
theorem x7_cutsN (hN : 100 ≤ N) {sc : S1} {m : Int} (hm : 0 ≤ m ∧ m ≤ 24) (e0 : sc 0 = iI m) {kx : Int32 → S2 → Option β} {a0 : S2} {n : Nat} (hn : n ≤ 8) (e2 : sc 15 = iI n) {f : Nat → Int} (hf : ∀ i : Nat, i < n → a0 18 i = iI (f i) ∧ 0 ≤ f i ∧ f i < 24) : ∀ (k b : Nat) (a : S2), b ≤ n → n < b + k → NI (a 18) (a 17) (a 16) (a0 18) (a0 17) (a0 16) (flt (fun i => decide (f i < m)) b) b → (∀ r, r ≠ 16 → r ≠ 17 → r ≠ 18 → a r = a0 r) → ∃ a', f_X7_cuts_L142 N sc kx k (iI ((flt (fun i => decide (f i < m)) b).length : Int)) (iI b) a = kx (iI ((flt (fun i => decide (f i < m)) n).length : Int)) a' ∧ NI (a' 18) (a' 17) (a' 16) (a0 18) (a0 17) (a0 16) (flt (fun i => decide (f i < m)) n) n ∧ (∀ r, r ≠ 16 → r ≠ 17 → r ≠ 18 → a' r = a0 r) := by
  intro k
  induction k with
  | zero => intro b a h1 h2; omega
  | succ k ih =>
    intro b a h1 h2 hI hfr
    have hl := flt_le (fun i => decide (f i < m)) b
    by_cases hb : b = n
    · subst hb
      refine ⟨a, ?_, hI, hfr⟩
      rw [f_X7_cuts_L142, e2, if_pos (le_iI (by omega) (by omega) (by omega))]
    · have hfb := hf b (by omega)
      have hwb := (hI.2.1 b (Nat.le_refl b)).1
      have o1 : ¬ oob (iI (b : Int)) 8 := ob_nat (by omega) (by omega)
      have o2 : ¬ oob (iI ((flt (fun i => decide (f i < m)) b).length : Int)) 8 := ob_nat (by omega) (by omega)
      rw [f_X7_cuts_L142, e2, if_neg (nle_iI (by omega) (by omega) (by omega)), if_neg o1, x7_cuts_copy hN hl (by omega)]
      simp only [if_neg o1, if_neg o2, ix_nat (show b < 2147483648 by omega), ix_nat (show (flt (fun i => decide (f i < m)) b).length < 2147483648 by omega), e0, iI_succ]
      have hs := flt_s (fun i => decide (f i < m)) b
      by_cases hp : m ≤ f b
      · rw [if_pos (by rw [hwb, hfb.1]; exact le_iI hp (by omega) (by omega)), Option.bind_some]
        rw [if_neg (by simpa using hp), List.append_nil] at hs
        rw [← hs]
        rw [← hs] at hI
        exact ih (b + 1) a (by omega) (by omega) (NI_skip hI) hfr
      · rw [if_neg (by rw [hwb, hfb.1]; exact nle_iI (by omega) (by omega) (by omega)), Option.bind_some]
        rw [if_pos (by simpa using hp)] at hs
        have hlen : (flt (fun i => decide (f i < m)) b).length + 1 = (flt (fun i => decide (f i < m)) (b + 1)).length := by
          rw [hs, List.length_append]; rfl
        rw [hlen]
        refine ih (b + 1) _ (by omega) (by omega) ?_ ?_
        · rw [hs]
          simp (disch := decide) only [vu_eq, vu_ne]
          exact NI_keep hI hl
        · intro r r1 r2 r3
          simp only [vu_ne r3, vu_ne r2, vu_ne r1]
          exact hfr r r1 r2 r3
end PC12
