-- ===== a place is told =====
set_option maxRecDepth 100000 in
theorem fits_all : ∀ x : Fin 256, fits .char (.int (iI (x.val : Int))) = true := by decide
theorem fits_c {x : Int} (h : 0 ≤ x ∧ x ≤ 255) : fits .char (.int (iI x)) = true := by
  have := fits_all ⟨x.toNat, by omega⟩
  rw [show ((x.toNat : Nat) : Int) = x by omega] at this
  exact this
def NMD (A : AS) (G : Nat → Int) (k m : Nat) : Prop := A 17 m = k ∧ ∀ j : Nat, j < k → A 16 (7 * m + j) = G j
/-- place m becomes: name G of k letters, at cell c -/
def plA (A : AS) (G : Nat → Int) (k m : Nat) (c : Int) : AS := fun r i => if r = 15 ∧ i = 0 then (if A 15 0 < m + 1 then (m : Int) + 1 else A 15 0) else if r = 17 ∧ i = m then (k : Int) else if r = 18 ∧ i = m then c else if r = 16 ∧ 7 * m ≤ i ∧ i < 7 * m + k then G (i - 7 * m) else A r i
theorem plA_row {A : AS} {G : Nat → Int} {k m : Nat} {c : Int} {r : Nat} (h : r ≠ 15 ∧ r ≠ 16 ∧ r ≠ 17 ∧ r ≠ 18) : plA A G k m c r = A r := by
  funext i
  unfold plA
  rw [if_neg (fun z => h.1 z.1), if_neg (fun z => h.2.2.1 z.1), if_neg (fun z => h.2.2.2 z.1), if_neg (fun z => h.2.1 z.1)]
theorem plA_15 {A : AS} {G : Nat → Int} {k m : Nat} {c : Int} : plA A G k m c 15 0 = if A 15 0 < m + 1 then (m : Int) + 1 else A 15 0 := by
  unfold plA
  rw [if_pos ⟨rfl, rfl⟩]
theorem plA_17 {A : AS} {G : Nat → Int} {k m i : Nat} {c : Int} : plA A G k m c 17 i = if i = m then (k : Int) else A 17 i := by
  simp [plA]
theorem plA_18 {A : AS} {G : Nat → Int} {k m i : Nat} {c : Int} : plA A G k m c 18 i = if i = m then c else A 18 i := by
  simp [plA]
theorem plA_16 {A : AS} {G : Nat → Int} {k m i : Nat} {c : Int} : plA A G k m c 16 i = if 7 * m ≤ i ∧ i < 7 * m + k then G (i - 7 * m) else A 16 i := by
  simp [plA]
theorem WF_pl {A : AS} (hw : WF A) {G : Nat → Int} {k m : Nat} {c : Int} (hk : 1 ≤ k ∧ k ≤ 7) (hm : (m : Int) ≤ A 15 0) (hm8 : m < 8) (hc : 0 ≤ c ∧ c < A 0 0) (hG : ∀ j : Nat, j < k → 97 ≤ G j ∧ G j ≤ 122) : WF (plA A G k m c) := by
  obtain ⟨w0, w1, w2, w3, w4, w5⟩ := hw
  refine ⟨?_, ?_, ?_, ?_, ?_, ?_⟩
  · simp (disch := decide) only [plA_row, plA_15]
    split <;> omega
  · simp (disch := decide) only [plA_row]; exact w1
  · simp (disch := decide) only [plA_row]; exact w2
  · simp (disch := decide) only [plA_row]; exact w3
  · simp (disch := decide) only [plA_row]; exact w4
  · simp (disch := decide) only [plA_row, plA_15, plA_17, plA_18, plA_16]
    intro i hi
    by_cases e : i = m
    · subst e
      rw [if_pos rfl, if_pos rfl]
      refine ⟨hc.1, hc.2, by omega, by omega, ?_⟩
      intro j hj
      rw [if_pos (by omega), show 7 * i + j - 7 * i = j by omega]
      exact hG j (by omega)
    · have hi2 : (i : Int) < A 15 0 := by
        revert hi; split <;> omega
      have w := w5 i hi2
      rw [if_neg e, if_neg e]
      refine ⟨w.1, w.2.1, w.2.2.1, w.2.2.2.1, ?_⟩
      intro j hj
      rw [if_neg (by omega)]
      exact w.2.2.2.2 j hj
section PC30
variable {N : Nat} {A : AS} {s : S1} {a t : S2} {p : S1} {q : S2} {sc : S1} {ar : S2} {G : Nat → Int} {sg : Nat → Int32} {b k : Nat}
theorem x3_isNamed (hN : 100 ≤ N) (h : LA A s a t p q) (hw : WF A) (hk : 1 ≤ k ∧ k ≤ 7) (hb : b + k ≤ 120) (hs : ∀ j : Nat, j < k → sg (b + j) = iI (G j)) (hG : ∀ j : Nat, j < k → 97 ≤ G j ∧ G j ≤ 122) {m : Nat} (hm : (m : Int) < A 15 0) : f_X3_isNamed N sg q (iI m) (iI b) (iI k) = some (bI (NMD A G k m)) := by
  have w0 := hw.1
  have w5 := hw.2.2.2.2.2 m hm
  have l5 := h.2.2.2.2.2.2.1 m hm
  unfold f_X3_isNamed
  rw [if_neg (ob_nat (show m < 8 by omega) (by omega)), ix_nat (by omega), l5.2.1, iteeq (by omega) (by omega) (by omega) (by omega)]
  by_cases c : A 17 m = k
  · rw [if_pos c]
    rcases lp_any (F := fun z j => f_X3_isNamed_L16 N sg q (iI m) (iI b) (iI k) (fun _ => some 1) z (iI (j : Int))) (fin := some 1) (r := fun _ => some 0) (P := fun j => ¬ A 16 (7 * m + j) = G j) (n := k)
      (by
        intro z
        show f_X3_isNamed_L16 N sg q (iI m) (iI b) (iI k) (fun _ => some 1) (z + 1) (iI (k : Int)) = _
        rw [f_X3_isNamed_L16, if_pos (le_iI (by omega) (by omega) (by omega))])
      (by
        intro z j hj
        have hl := l5.2.2 j (by omega)
        have hwl := w5.2.2.2.2 j (by omega)
        have hg := hG j hj
        have e7 : iI (m : Int) * 7 + iI (j : Int) = iI ((7 * m + j : Nat) : Int) := by
          show iI (m : Int) * iI 7 + iI (j : Int) = _
          rw [iI_mul, iI_add]; congr 1; omega
        have st : f_X3_isNamed_L16 N sg q (iI m) (iI b) (iI k) (fun _ => some 1) (z + 1) (iI (j : Int)) = if A 16 (7 * m + j) = G j then f_X3_isNamed_L16 N sg q (iI m) (iI b) (iI k) (fun _ => some 1) z (iI ((j + 1 : Nat) : Int)) else some 0 := by
          rw [f_X3_isNamed_L16, if_neg (nle_iI (by omega) (by omega) (by omega))]
          rw [e7, if_neg (ob_nat (show 7 * m + j < 56 by omega) (by omega)), ix_nat (show 7 * m + j < 2147483648 by omega), iI_add, ← Int.natCast_add, if_neg (ob_nat (show b + j < 120 by omega) (by omega)), ix_nat (by omega), hs j hj, hl, iteeq (by omega) (by omega) (by omega) (by omega), iI_succ]
        constructor
        · intro hp
          show f_X3_isNamed_L16 N sg q (iI m) (iI b) (iI k) (fun _ => some 1) (z + 1) (iI (j : Int)) = _
          rw [st, if_neg hp]
        · intro hp
          show f_X3_isNamed_L16 N sg q (iI m) (iI b) (iI k) (fun _ => some 1) (z + 1) (iI (j : Int)) = _
          rw [st, if_pos (Classical.not_not.1 hp)])
      N 0 (by omega) (by omega) with ⟨j, -, a2, a3, -, a5⟩ | ⟨a1, a2⟩
    · rw [bI_f (fun z => a3 (z.2 j a2))]; exact a5
    · rw [bI_t ⟨c, fun j hj => Classical.not_not.1 (a1 j (by omega) hj)⟩]; exact a2
  · rw [if_neg c, bI_f (fun z => c z.1)]
theorem x7_isNamed {β : Type} (hN : 100 ≤ N) (g : MA A sc ar) (hw : WF A) (hk : 1 ≤ k ∧ k ≤ 7) (h36 : sc 36 = iI k) (hs : ∀ j : Nat, j < k → ar 35 j = iI (G j)) (hG : ∀ j : Nat, j < k → 97 ≤ G j ∧ G j ≤ 122) {m : Nat} (hm : (m : Int) < A 15 0) {kx : Int32 → Option β} : f_X7_named_L31 N sc ar (iI m) kx N (if ar 17 (ix (iI (m : Int))) = sc 36 then 1 else 0) 0 = kx (bI (NMD A G k m)) := by
  have w0 := hw.1
  have w5 := hw.2.2.2.2.2 m hm
  have l5 := g.2.2.2.2.2 m hm
  obtain ⟨N', rfl⟩ : ∃ z, N = z + 2 := ⟨N - 2, by omega⟩
  rw [ix_nat (by omega), l5.2.1, h36, iteeq (by omega) (by omega) (by omega) (by omega)]
  by_cases c : A 17 m = k
  · rw [if_pos c]
    rcases lp_any (F := fun z j => f_X7_named_L31 (N' + 2) sc ar (iI m) kx (z + 1) 1 (iI (j : Int))) (fin := kx 1) (r := fun _ => kx 0) (P := fun j => ¬ A 16 (7 * m + j) = G j) (n := k)
      (by
        intro z
        show f_X7_named_L31 (N' + 2) sc ar (iI m) kx (z + 1 + 1) 1 (iI (k : Int)) = _
        rw [f_X7_named_L31, h36, if_pos (le_iI (by omega) (by omega) (by omega))])
      (by
        intro z j hj
        have hl := l5.2.2 j (by omega)
        have hwl := w5.2.2.2.2 j (by omega)
        have hg := hG j hj
        have e7 : 7 * iI (m : Int) + iI (j : Int) = iI ((7 * m + j : Nat) : Int) := by
          show iI 7 * iI (m : Int) + iI (j : Int) = _
          rw [iI_mul, iI_add]; congr 1
        have st : f_X7_named_L31 (N' + 2) sc ar (iI m) kx (z + 1 + 1) 1 (iI (j : Int)) = f_X7_named_L31 (N' + 2) sc ar (iI m) kx (z + 1) (if A 16 (7 * m + j) = G j then 1 else 0) (iI ((j + 1 : Nat) : Int)) := by
          rw [f_X7_named_L31, h36, if_neg (nle_iI (by omega) (by omega) (by omega)), if_neg one_ne, e7, if_neg (ob_nat (show 7 * m + j < 56 by omega) (by omega)), if_neg (ob_nat (show j < 7 by omega) (by omega)), ix_nat (by omega), ix_nat (by omega), hs j hj, hl, iteeq (by omega) (by omega) (by omega) (by omega), iI_succ]
        constructor
        · intro hp
          show f_X7_named_L31 (N' + 2) sc ar (iI m) kx (z + 1 + 1) 1 (iI (j : Int)) = _
          rw [st, if_neg hp, f_X7_named_L31, if_pos rfl, ite_self]
        · intro hp
          show f_X7_named_L31 (N' + 2) sc ar (iI m) kx (z + 1 + 1) 1 (iI (j : Int)) = _
          rw [st, if_pos (Classical.not_not.1 hp)])
      (N' + 1) 0 (by omega) (by omega) with ⟨j, -, a2, a3, -, a5⟩ | ⟨a1, a2⟩
    · rw [bI_f (fun z => a3 (z.2 j a2))]; exact a5
    · rw [bI_t ⟨c, fun j hj => Classical.not_not.1 (a1 j (by omega) hj)⟩]; exact a2
  · rw [if_neg c, bI_f (fun z => c z.1), f_X7_named_L31, if_pos rfl, ite_self]
theorem find_both (hN : 100 ≤ N) (h : LA A s a t p q) (g : MA A sc ar) (hw : WF A) (hk : 1 ≤ k ∧ k ≤ 7) (hb : b + k ≤ 120) (hs6 : ∀ j : Nat, j < k → sg (b + j) = iI (G j)) (h36 : sc 36 = iI k) (hs : ∀ j : Nat, j < k → ar 35 j = iI (G j)) (hG : ∀ j : Nat, j < k → 97 ≤ G j ∧ G j ≤ 122) : (∃ m : Nat, (m : Int) < A 15 0 ∧ NMD A G k m ∧ f_X3_find N sg p q (iI b) (iI k) = some (iI m) ∧ f_X7_named N sc ar = some (iI m)) ∨ (f_X3_find N sg p q (iI b) (iI k) = some (iI (A 15 0)) ∧ f_X7_named N sc ar = some (iI (A 15 0))) := by
  have w0 := hw.1
  have e15 := g.1.2.2.2.2.2
  have p0 := h.1.2.2.2.2.2
  obtain ⟨n, hn⟩ : ∃ n : Nat, (n : Int) = A 15 0 := ⟨(A 15 0).toNat, by omega⟩
  have go := lp_two (F := fun z j => f_X3_find_L3 N sg p q (iI b) (iI k) (fun _ => some (p 0)) z (iI (j : Int))) (G := fun z j => f_X7_named_L2 N sc ar (fun _ => some (sc 15)) z (iI (j : Int))) (fin := some (iI (A 15 0))) (fin' := some (iI (A 15 0))) (r := fun j => some (iI (j : Int))) (r' := fun j => some (iI (j : Int))) (P := fun j => NMD A G k j) (n := n)
    (by
      intro z
      show f_X3_find_L3 N sg p q (iI b) (iI k) (fun _ => some (p 0)) (z + 1) (iI (n : Int)) = _
      rw [f_X3_find_L3, p0, if_pos (le_iI (by omega) (by omega) (by omega))])
    (by
      intro z j hj
      have st : f_X3_find_L3 N sg p q (iI b) (iI k) (fun _ => some (p 0)) (z + 1) (iI (j : Int)) = if bI (NMD A G k j) = 0 then f_X3_find_L3 N sg p q (iI b) (iI k) (fun _ => some (p 0)) z (iI ((j + 1 : Nat) : Int)) else some (iI (j : Int)) := by
        rw [f_X3_find_L3, p0, if_neg (nle_iI (by omega) (by omega) (by omega)), x3_isNamed hN h hw hk hb hs6 hG (by omega), Option.bind_some, iI_succ]
      constructor
      · intro hp
        show f_X3_find_L3 N sg p q (iI b) (iI k) (fun _ => some (p 0)) (z + 1) (iI (j : Int)) = _
        rw [st, bI_t hp, if_neg one_ne]
      · intro hp
        show f_X3_find_L3 N sg p q (iI b) (iI k) (fun _ => some (p 0)) (z + 1) (iI (j : Int)) = _
        rw [st, bI_f hp, if_pos rfl])
    (by
      intro z
      show f_X7_named_L2 N sc ar (fun _ => some (sc 15)) (z + 1) (iI (n : Int)) = _
      rw [f_X7_named_L2, e15, if_pos (le_iI (by omega) (by omega) (by omega))])
    (by
      intro z j hj
      have st : f_X7_named_L2 N sc ar (fun _ => some (sc 15)) (z + 1) (iI (j : Int)) = if bI (NMD A G k j) = 0 then f_X7_named_L2 N sc ar (fun _ => some (sc 15)) z (iI ((j + 1 : Nat) : Int)) else some (iI (j : Int)) := by
        rw [f_X7_named_L2, if_neg (by rw [e15]; exact nle_iI (by omega) (by omega) (by omega)), if_neg (ob_nat (show j < 8 by omega) (by omega)), x7_isNamed hN g hw hk h36 hs hG (by omega), iI_succ]
      constructor
      · intro hp
        show f_X7_named_L2 N sc ar (fun _ => some (sc 15)) (z + 1) (iI (j : Int)) = _
        rw [st, bI_t hp, if_neg one_ne]
      · intro hp
        show f_X7_named_L2 N sc ar (fun _ => some (sc 15)) (z + 1) (iI (j : Int)) = _
        rw [st, bI_f hp, if_pos rfl])
    N N (by omega) (by omega)
  rcases go with ⟨j, a1, a2, a3, a4⟩ | ⟨-, a3, a4⟩
  · exact Or.inl ⟨j, by omega, a2, a3, a4⟩
  · exact Or.inr ⟨a3, a4⟩
theorem x7_write {β : Type} (hN : 100 ≤ N) (hk : 1 ≤ k ∧ k ≤ 7) (h36 : sc 36 = iI k) (hs : ∀ j : Nat, j < k → ar 35 j = iI (G j)) {m : Nat} (hm : m < 8) {v1 : Int32} {kx : S2 → Option β} : ∃ ar', f_X7_places_L34 N sc v1 (iI m) kx N 0 ar = kx ar' ∧ (∀ r, r ≠ 16 → ar' r = ar r) ∧ ∀ i, ar' 16 i = if 7 * m ≤ i ∧ i < 7 * m + k then iI (G (i - 7 * m)) else ar 16 i := by
  obtain ⟨ar', ⟨i1, i2⟩, e1⟩ := lp_inv (R := β) (F := fun z j (x : S2) => f_X7_places_L34 N sc v1 (iI m) kx z (iI (j : Int)) x) (I := fun j x => (∀ r, r ≠ 16 → x r = ar r) ∧ ∀ i, x 16 i = if 7 * m ≤ i ∧ i < 7 * m + j then iI (G (i - 7 * m)) else ar 16 i) (kx := kx) (n := k)
    (by
      intro z x _
      show f_X7_places_L34 N sc v1 (iI m) kx (z + 1) (iI (k : Int)) x = _
      rw [f_X7_places_L34, h36, if_pos (le_iI (by omega) (by omega) (by omega))])
    (by
      rintro z j x hj ⟨h1, h2⟩
      have e7 : 7 * iI (m : Int) + iI (j : Int) = iI ((7 * m + j : Nat) : Int) := by
        show iI 7 * iI (m : Int) + iI (j : Int) = _
        rw [iI_mul, iI_add]; congr 1
      refine ⟨va_up x 16 (upd (x 16) (7 * m + j) (iI (G j))), ⟨fun r hr => by rw [vu_ne hr]; exact h1 r hr, fun i => ?_⟩, ?_⟩
      · rw [vu_eq]
        by_cases e : i = 7 * m + j
        · rw [e, ud_eq, if_pos (by omega), show 7 * m + j - 7 * m = j by omega]
        · rw [ud_ne e, h2 i]
          by_cases c : 7 * m ≤ i ∧ i < 7 * m + j
          · rw [if_pos c, if_pos (by omega)]
          · rw [if_neg c, if_neg (by omega)]
      · show f_X7_places_L34 N sc v1 (iI m) kx (z + 1) (iI (j : Int)) x = _
        rw [f_X7_places_L34, h36, if_neg (nle_iI (by omega) (by omega) (by omega)), if_neg (ob_nat (show j < 7 by omega) (by omega)), e7, if_neg (ob_nat (show 7 * m + j < 56 by omega) (by omega)), ix_nat (by omega), ix_nat (by omega), h1 35 (by decide), hs j hj, iI_succ])
    N 0 ar (by omega) (by omega) ⟨fun _ _ => rfl, fun i => by rw [if_neg (by omega)]⟩
  exact ⟨ar', e1, i1, i2⟩
theorem chg_place (hN : 100 ≤ N) (h : LA A s a t p q) (g : MA A sc ar) (hw : WF A) (hu : UQ A) {es : S1} {ea : S2} {c : Int} (hc : -2147483648 ≤ c ∧ c < 2147483648) (hk : 1 ≤ k ∧ k ≤ 7) (hb : b + k ≤ 120) (e4 : es 4 = iI b) (e5 : es 5 = iI k) (e6 : ea 6 0 = iI c) (hs6 : ∀ j : Nat, j < k → ea 2 (b + j) = iI (G j)) (h36 : sc 36 = iI k) (hs : ∀ j : Nat, j < k → ar 35 j = iI (G j)) (hG : ∀ j : Nat, j < k → 97 ≤ G j ∧ G j ≤ 122) : CHG N A sc ar s a t p q ((f_X0_sayPlace N es ea s p q).bind fun r8 => (some (r8.1, s, a, t, r8.2.1, r8.2.2))) (f_X7_places N sc ar (iI c)) := by
  have w0 := hw.1
  have o0 : ¬ oob (0 : Int32) 4 := by decide
  have x0 : ix (0 : Int32) = 0 := by decide
  unfold f_X0_sayPlace f_X7_places
  rw [if_neg o0, x0, e6, x1_hasCell h hw hc.1 hc.2, x7_isCell g hw hc.1 hc.2, e4, e5]
  simp only [Option.bind_some, if_neg o0]
  by_cases hin : 0 ≤ c ∧ c < A 0 0
  · rw [bI_t hin]
    simp only [if_neg one_ne]
    have p0 := h.1.2.2.2.2.2
    have e15 := g.1.2.2.2.2.2
    unfold f_X3_tell
    -- one place for both
    have mk : ∀ (m : Nat), (m : Int) ≤ A 15 0 → m < 8 → f_X7_named N sc ar = some (iI m) → ∀ (p' : S1) (q' : S2), LA (plA A G k m c) s a t p' q' → CHG N A sc ar s a t p q (some (iI m, s, a, t, p', q')) ((f_X7_named N sc ar).bind fun r1 => (if r1 = 8 then ((f_X7_no N ar (-6)).bind fun r4 => (some (r4.1, sc, r4.2))) else (f_X7_places_L34 N sc (iI c) r1 (fun t3 => (if oob r1 8 then none else (if oob r1 8 then none else (some (r1, (upd sc 15 (if (sc 15) < (r1 + 1) then (r1 + 1) else (sc 15))), (va_up (va_up t3 17 (upd (t3 17) (ix r1) (sc 36))) 18 (upd (t3 18) (ix r1) (iI c)))))))) N 0 ar))) := by
      intro m hm hm8 hnm p' q' hLA
      rw [hnm, Option.bind_some, if_neg (by show ¬ iI (m : Int) = iI 8; rw [iI_eq (by omega) (by omega) (by omega) (by omega)]; omega)]
      obtain ⟨ar', a1, a2, a3⟩ := x7_write (N := N) (sc := sc) (ar := ar) hN hk h36 hs hm8 (v1 := iI c) (kx := (fun t3 => (if oob (iI (m : Int)) 8 then none else (if oob (iI (m : Int)) 8 then none else (some (iI (m : Int), (upd sc 15 (if (sc 15) < (iI (m : Int) + 1) then (iI (m : Int) + 1) else (sc 15))), (va_up (va_up t3 17 (upd (t3 17) (ix (iI (m : Int))) (sc 36))) 18 (upd (t3 18) (ix (iI (m : Int))) (iI c)))))))))
      rw [a1, if_neg (ob_nat (show m < 8 by omega) (by omega)), if_neg (ob_nat (show m < 8 by omega) (by omega)), ix_nat (by omega), iI_succ, e15, h36, itelt (by omega) (by omega) (by omega) (by omega)]
      refine Or.inl ⟨iI (m : Int), plA A G k m c, s, a, t, p', q', _, _, rfl, rfl, by rw [iI_0le (by omega) (by omega)]; omega, hLA, ?_, WF_pl hw hk hm hm8 hin hG, ?_, ?_, ?_⟩
      · obtain ⟨⟨m00, m01, m02, m03, m04, m05⟩, m1, m2, m3, m4, m5⟩ := g
        refine ⟨⟨?_, ?_, ?_, ?_, ?_, ?_⟩, ?_, ?_, ?_, ?_, ?_⟩
        · simp (disch := decide) only [plA_row, ud_ne]; exact m00
        · simp (disch := decide) only [plA_row, ud_ne]; exact m01
        · simp (disch := decide) only [plA_row, ud_ne]; exact m02
        · simp (disch := decide) only [plA_row, ud_ne]; exact m03
        · simp (disch := decide) only [plA_row, ud_ne]; exact m04
        · rw [ud_eq, plA_15]
          by_cases z : A 15 0 < (m : Int) + 1
          · rw [if_pos z, if_pos (by omega)]; congr 1
          · rw [if_neg z, if_neg (by omega)]
        · simp (disch := decide) only [plA_row, vu_ne, a2]; exact m1
        · simp (disch := decide) only [plA_row, vu_ne, a2]; exact m2
        · simp (disch := decide) only [plA_row, vu_ne, a2]; exact m3
        · simp (disch := decide) only [plA_row, vu_ne, a2]; exact m4
        · intro i hi
          rw [plA_15] at hi
          simp (disch := decide) only [plA_17, plA_18, plA_16, vu_ne, vu_eq, a2]
          by_cases e : i = m
          · subst e
            rw [if_pos rfl, if_pos rfl, ud_eq, ud_eq]
            refine ⟨rfl, rfl, ?_⟩
            intro j hj
            rw [a3, if_pos (by omega), if_pos (by omega)]
          · have hi2 : (i : Int) < A 15 0 := by
              revert hi; split <;> omega
            have w5 := hw.2.2.2.2.2 i hi2
            rw [if_neg e, if_neg e, ud_ne e, ud_ne e]
            refine ⟨(m5 i hi2).1, (m5 i hi2).2.1, ?_⟩
            intro j hj
            rw [a3, if_neg (by omega), if_neg (by omega)]
            exact (m5 i hi2).2.2 j hj
      · unfold UQ; simp (disch := decide) only [plA_row]; exact hu
      · intro j hj; exact ud_ne (by omega)
      · intro j hj; rw [vu_ne (by omega), vu_ne (by omega), a2 j (by omega)]
    obtain ⟨⟨l00, l01, l02, l03, l04, l05⟩, l1, l1b, l2, l3, l4, l5, l6⟩ := id h
    rcases find_both (N := N) hN h g hw hk hb hs6 h36 hs hG with ⟨m, hm, hD, f6, f7⟩ | ⟨f6, f7⟩
    · rw [f6]
      simp only [Option.bind_some]
      rw [p0, if_neg (by rw [iI_eq (by omega) (by omega) (by omega) (by omega)]; omega), if_neg (ob_nat (show m < 8 by omega) (by omega)), ix_nat (by omega)]
      simp only [Option.bind_some]
      refine mk m (by omega) (by omega) f7 _ _ ⟨⟨?_, ?_, ?_, ?_, ?_, ?_⟩, ?_, ?_, ?_, ?_, ?_, ?_, ?_⟩
      · simp (disch := decide) only [plA_row]; exact l00
      · simp (disch := decide) only [plA_row]; exact l01
      · simp (disch := decide) only [plA_row]; exact l02
      · simp (disch := decide) only [plA_row]; exact l03
      · simp (disch := decide) only [plA_row]; exact l04
      · rw [plA_15, if_neg (by omega)]; exact l05
      · simp (disch := decide) only [plA_row]; exact l1
      · simp (disch := decide) only [plA_row]; exact l1b
      · simp (disch := decide) only [plA_row]; exact l2
      · simp (disch := decide) only [plA_row]; exact l3
      · simp (disch := decide) only [plA_row]; exact l4
      · intro i hi
        rw [plA_15, if_neg (by omega)] at hi
        simp (disch := decide) only [plA_17, plA_18, plA_16, vu_ne, vu_eq]
        by_cases e : i = m
        · subst e
          rw [if_pos rfl, if_pos rfl, ud_eq]
          refine ⟨rfl, by rw [(l5 i hi).2.1, hD.1], ?_⟩
          intro j hj
          have hj' : j < k := by omega
          rw [if_pos (by omega), show 7 * i + j - 7 * i = j by omega, ← hD.2 j hj']
          exact (l5 i hi).2.2 j (by rw [hD.1]; omega)
        · have w5 := hw.2.2.2.2.2 i hi
          rw [if_neg e, if_neg e, ud_ne e]
          refine ⟨(l5 i hi).1, (l5 i hi).2.1, ?_⟩
          intro j hj
          rw [if_neg (by omega)]
          exact (l5 i hi).2.2 j hj
      · rw [vu_ne (by decide)]; exact l6
    · rw [f6]
      simp only [Option.bind_some]
      rw [p0, if_pos rfl]
      obtain ⟨m, hm⟩ : ∃ m : Nat, (m : Int) = A 15 0 := ⟨(A 15 0).toNat, by omega⟩
      rw [← hm]
      rw [← hm] at f7
      by_cases c8 : m < 8
      · have e7 : iI (m : Int) * 7 = iI ((7 * m : Nat) : Int) := by
          show iI (m : Int) * iI 7 = _
          rw [iI_mul]; congr 1; omega
        have hcp : ¬ (cpb 120 56 (iI (b : Int)) (iI ((7 * m : Nat) : Int)) (iI (k : Int)) ∨ cpc (ea 2) (iI (b : Int)) (iI (k : Int))) := by
          rintro (z | z)
          · rcases z with z | z | z | z | z
            · rw [iI_lt0 (by omega) (by omega)] at z; omega
            · rw [iI_lt0 (by omega) (by omega)] at z; omega
            · rw [iI_lt0 (by omega) (by omega)] at z; omega
            · rw [ix_nat (by omega), ix_nat (by omega)] at z; omega
            · rw [ix_nat (by omega), ix_nat (by omega)] at z; omega
          · apply z
            intro i hi
            rw [ix_nat (by omega)] at hi
            rw [ix_nat (by omega), hs6 i hi]
            exact fits_c (by have := hG i hi; omega)
        rw [if_pos (show iI (m : Int) < 8 from lt_iI (b := 8) (by omega) (by omega) (by omega)), if_neg (ob_nat (show m < 8 by omega) (by omega)), if_neg (ob_nat (show m < 8 by omega) (by omega)), e7, if_neg hcp, ix_nat (by omega), ix_nat (by omega), ix_nat (by omega), ix_nat (by omega), iI_succ]
        simp only [Option.bind_some]
        refine mk m (by omega) c8 f7 _ _ ⟨⟨?_, ?_, ?_, ?_, ?_, ?_⟩, ?_, ?_, ?_, ?_, ?_, ?_, ?_⟩
        · simp (disch := decide) only [plA_row]; exact l00
        · simp (disch := decide) only [plA_row]; exact l01
        · simp (disch := decide) only [plA_row]; exact l02
        · simp (disch := decide) only [plA_row]; exact l03
        · simp (disch := decide) only [plA_row]; exact l04
        · rw [plA_15, if_pos (by omega), ud_eq]; congr 1
        · simp (disch := decide) only [plA_row]; exact l1
        · simp (disch := decide) only [plA_row]; exact l1b
        · simp (disch := decide) only [plA_row]; exact l2
        · simp (disch := decide) only [plA_row]; exact l3
        · simp (disch := decide) only [plA_row]; exact l4
        · intro i hi
          rw [plA_15, if_pos (by omega)] at hi
          simp (disch := decide) only [plA_17, plA_18, plA_16, vu_ne, vu_eq]
          by_cases e : i = m
          · subst e
            rw [if_pos rfl, if_pos rfl, ud_eq, ud_eq]
            refine ⟨rfl, rfl, ?_⟩
            intro j hj
            unfold va_cpy
            rw [if_pos (by omega), if_pos (by omega), show 7 * i + j - 7 * i = j by omega]
            exact hs6 j (by omega)
          · have hi2 : (i : Int) < A 15 0 := by omega
            have w5 := hw.2.2.2.2.2 i hi2
            rw [if_neg e, if_neg e, ud_ne e, ud_ne e]
            refine ⟨(l5 i hi2).1, (l5 i hi2).2.1, ?_⟩
            intro j hj
            unfold va_cpy
            rw [if_neg (by omega), if_neg (by omega)]
            exact (l5 i hi2).2.2 j hj
        · intro i hi
          rw [vu_ne (by decide), vu_eq]
          unfold va_cpy
          by_cases z : 7 * m ≤ i ∧ i < 7 * m + k
          · rw [if_pos z, hs6 _ (by omega)]
            exact fits_c (by have := hG (i - 7 * m) (by omega); omega)
          · rw [if_neg z]; exact l6 i hi
      · have m8 : m = 8 := by omega
        subst m8
        rw [f7, if_neg (show ¬ iI ((8 : Nat) : Int) < 8 by decide)]
        simp only [Option.bind_some, if_pos (show iI ((8 : Nat) : Int) = 8 from rfl), x7_no cod6]
        exact Or.inr ⟨-6, cod6, rfl, rfl⟩
  · rw [bI_f hin]
    have : ∃ x, f_X7_named N sc ar = some x := by
      rcases find_both (N := N) hN h g hw hk hb hs6 h36 hs hG with ⟨m, -, -, -, f7⟩ | ⟨-, f7⟩
      · exact ⟨_, f7⟩
      · exact ⟨_, f7⟩
    obtain ⟨x, hx⟩ := this
    rw [hx]
    simp only [if_true, Option.bind_some, x7_no cod1]
    exact Or.inr ⟨-1, cod1, rfl, rfl⟩
end PC30
