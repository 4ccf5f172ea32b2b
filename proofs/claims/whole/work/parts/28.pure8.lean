-- ===== changes of the line: both sides =====
theorem iI_ex (x : Int32) : ∃ z : Int, x = iI z ∧ -2147483648 ≤ z ∧ z < 2147483648 := ⟨x.toInt, (iI_toInt x).symm, (iI_rng x).1, (iI_rng x).2⟩
theorem chr_iI {z : Int} (h : 0 ≤ z ∧ z ≤ 65535) : fits .char (.int (iI z)) = true := by
  show (decide (0 ≤ iI z) && decide (iI z ≤ 65535)) = true
  have h1 : 0 ≤ iI z := by rw [iI_0le (by omega) (by omega)]; omega
  have h2 : iI z ≤ 65535 := by
    show iI z ≤ iI 65535
    exact le_iI (by omega) (by omega) (by omega)
  simp [h1, h2]
theorem one_ne : ¬ (1 : Int32) = 0 := by decide
def cod (c : Int32) : Prop := c = -1 ∨ c = -2 ∨ c = -3 ∨ c = -4 ∨ c = -6
def noA (ar : S2) (c : Int32) : S2 := va_up ar 21 (upd (ar 21) (ix (-c)) ((ar 21) (ix (-c)) + 1))
def rfA (aX : S2) (c : Int32) : S2 := va_up aX 8 (upd (aX 8) (ix (-c)) ((aX 8) (ix (-c)) + 1))
theorem x7_no {N : Nat} {ar : S2} {c : Int32} (h : cod c) : f_X7_no N ar c = some (c, noA ar c) := by
  unfold f_X7_no noA
  have hob : ¬ oob (-c) 7 := by rcases h with rfl | rfl | rfl | rfl | rfl <;> decide
  rw [if_neg hob, if_neg hob]
theorem x6_refused {N : Nat} {aX : S2} {c : Int32} (h : cod c) : f_X6_refused N aX c = some (c, rfA aX c) := by
  unfold f_X6_refused rfA
  have h1 : ¬ 0 ≤ c := by rcases h with rfl | rfl | rfl | rfl | rfl <;> decide
  have h2 : ¬ c < -6 := by rcases h with rfl | rfl | rfl | rfl | rfl <;> decide
  have hob : ¬ oob (-c) 7 := by rcases h with rfl | rfl | rfl | rfl | rfl <;> decide
  rw [if_neg h1, if_neg h2, if_neg hob, if_neg hob]
  rfl
theorem x6_counted_no {N : Nat} {aX : S2} {c : Int32} (h : cod c) : f_X6_counted N aX c = some (c, rfA aX c) := by
  unfold f_X6_counted
  have h1 : ¬ 0 ≤ c := by rcases h with rfl | rfl | rfl | rfl | rfl <;> decide
  rw [if_neg h1, x6_refused h]
  rfl
theorem x6_counted_yes {N : Nat} {aX : S2} {c : Int32} (h : 0 ≤ c) : f_X6_counted N aX c = some (c, aX) := by
  unfold f_X6_counted
  rw [if_pos h]
  rfl
def RFs (aX ar : S2) : Prop := ∀ k : Nat, k < 7 → aX 8 k = ar 21 k
theorem vu_eq {α : Type} (f : Nat → α) (k : Nat) (v : α) : va_up f k v k = v := by simp [va_up]
theorem vu_ne {α : Type} {f : Nat → α} {k j : Nat} {v : α} (h : j ≠ k) : va_up f k v j = f j := by simp [va_up, h]
theorem ud_eq (f : Nat → Int32) (k : Nat) (v : Int32) : upd f k v k = v := by simp [upd]
theorem ud_ne {f : Nat → Int32} {k j : Nat} {v : Int32} (h : j ≠ k) : upd f k v j = f j := by simp [upd, h]
theorem RFs_no {aX ar : S2} (h : RFs aX ar) (c : Int32) (hc : cod c) : RFs (rfA aX c) (noA ar c) := by
  intro k hk
  unfold rfA noA
  rw [vu_eq, vu_eq]
  have hb : ix (-c) < 7 := by rcases hc with rfl | rfl | rfl | rfl | rfl <;> decide
  by_cases e : k = ix (-c)
  · rw [← e, ud_eq, ud_eq, h k hk]
  · rw [ud_ne e, ud_ne e, h k hk]
theorem noA_ne {ar : S2} {c : Int32} {j : Nat} (h : j ≠ 21) : noA ar c j = ar j := vu_ne h
def aU (A : AS) (k i : Nat) (v : Int) : AS := fun k' i' => if k' = k ∧ i' = i then v else A k' i'
theorem aU_row {A : AS} {k i : Nat} {v : Int} {k' : Nat} (h : k' ≠ k) : aU A k i v k' = A k' := by funext i'; simp [aU, h]
theorem aU_eq {A : AS} {k i : Nat} {v : Int} : aU A k i v k i = v := by simp [aU]
theorem aU_ne {A : AS} {k i : Nat} {v : Int} {k' i' : Nat} (h : i' ≠ i) : aU A k i v k' i' = A k' i' := by simp [aU, h]
/-- nothing behind the line's fields -/
def frS (sc sc' : S1) : Prop := ∀ j, 18 < j → sc' j = sc j
def frA (ar ar' : S2) : Prop := ∀ j, 18 < j → ar' j = ar j
def UQ (A : AS) : Prop := (∀ i j : Nat, (i : Int) < A 6 0 → (j : Int) < A 6 0 → A 7 i = A 7 j → i = j)
theorem MA_cg {A : AS} {sc sc' : S1} {ar ar' : S2} (h : MA A sc ar) (hs : ∀ j, j ≤ 18 → sc' j = sc j) (ha : ∀ j, j ≤ 18 → ar' j = ar j) : MA A sc' ar' := by
  unfold MA at h ⊢
  simp only [hs 0 (by decide), hs 2 (by decide), hs 6 (by decide), hs 9 (by decide), hs 14 (by decide), hs 15 (by decide), ha 1 (by decide), ha 3 (by decide), ha 4 (by decide), ha 5 (by decide), ha 7 (by decide), ha 8 (by decide), ha 10 (by decide), ha 11 (by decide), ha 12 (by decide), ha 13 (by decide), ha 16 (by decide), ha 17 (by decide), ha 18 (by decide)]
  exact h
/-- a change: both sides make it, or both refuse -/
def CHG (N : Nat) (A : AS) (sc : S1) (ar : S2) (s : S1) (a t : S2) (p : S1) (q : S2) (o1 : Option (Int32 × S1 × S2 × S2 × S1 × S2)) (o7 : Option (Int32 × S1 × S2)) : Prop :=
  (∃ r A' s' a' t' p' q' sc' ar', o1 = some (r, s', a', t', p', q') ∧ o7 = some (r, sc', ar') ∧ 0 ≤ r ∧ LA A' s' a' t' p' q' ∧ MA A' sc' ar' ∧ WF A' ∧ UQ A' ∧ frS sc sc' ∧ frA ar ar') ∨
  (∃ c, cod c ∧ o1 = some (c, s, a, t, p, q) ∧ o7 = some (c, sc, noA ar c))
section PC8
variable {N : Nat} {A : AS} {s : S1} {a t : S2} {p : S1} {q : S2} {sc : S1} {ar : S2}
theorem chg_ground (h : LA A s a t p q) (g : MA A sc ar) (hw : WF A) (hu : UQ A) {c v : Int} (hc : -2147483648 ≤ c ∧ c < 2147483648) (hv : -2147483648 ≤ v ∧ v < 2147483648) : CHG N A sc ar s a t p q ((f_X1_setGround N s a (iI c) (iI v)).bind fun r => some (r.1, s, r.2, t, p, q)) ((f_X7_ground N sc ar (iI c) (iI v)).bind fun r => some (r.1, sc, r.2)) := by
  have w0 := hw.1
  unfold f_X1_setGround f_X7_ground
  rw [x1_hasCell h hw hc.1 hc.2, x7_isCell g hw hc.1 hc.2]
  simp only [x7_no (show cod (-1) by simp [cod]), x7_no (show cod (-4) by simp [cod]), x7_no (show cod (-6) by simp [cod]), Option.bind_some]
  by_cases hin : 0 ≤ c ∧ c < A 0 0
  · rw [bI_t hin]
    simp only [if_neg one_ne]
    have hob : ¬ oob (iI c) 24 := ob_int (by omega) (by omega) (by omega)
    simp only [if_neg hob]
    by_cases h1 : 0 ≤ v
    · have e1 : (0 : Int32) ≤ iI v := by rw [iI_0le hv.1 hv.2]; exact h1
      rw [if_pos e1, if_pos e1]
      by_cases h2 : v ≤ 30
      · have e2 : iI v ≤ (30 : Int32) := le_iI (b := 30) h2 hv.1 (by omega)
        rw [if_pos e2, if_pos e2, ix_iI (by omega) (by omega), h.2.1 _ (by omega), g.2.1 _ (by omega)]
        obtain ⟨l0, l1, l2, l3, l4, l5, l6, l7⟩ := h
        obtain ⟨m0, m1, m2, m3, m4, m5⟩ := g
        obtain ⟨w0, w1, w2, w3, w4, w5⟩ := hw
        have wc := w1 c.toNat (by omega)
        refine Or.inl ⟨_, aU A 1 c.toNat v, _, _, _, _, _, _, _, rfl, rfl, ?_, ⟨?_, ?_, ?_, ?_, ?_, ?_, ?_, ?_⟩, ⟨?_, ?_, ?_, ?_, ?_, ?_⟩, ⟨?_, ?_, ?_, ?_, ?_, ?_⟩, ?_, fun _ _ => rfl, ?_⟩
        · show 0 ≤ iI (A 1 c.toNat)
          rw [iI_0le (by omega) (by omega)]; omega
        · simp (disch := decide) only [aU_row, vu_ne]; exact l0
        · simp (disch := decide) only [aU_row, vu_eq]
          intro i hi
          by_cases e : i = c.toNat
          · rw [e, ud_eq, aU_eq]
          · rw [ud_ne e, aU_ne e]; exact l1 i hi
        · simp (disch := decide) only [aU_row, vu_eq]
          intro i hi hi2
          rw [ud_ne (by omega)]; exact l2 i hi hi2
        · simp (disch := decide) only [aU_row, vu_ne]; exact l3
        · simp (disch := decide) only [aU_row, vu_ne]; exact l4
        · simp (disch := decide) only [aU_row, vu_ne]; exact l5
        · simp (disch := decide) only [aU_row, vu_ne]; exact l6
        · exact l7
        · simp (disch := decide) only [aU_row, vu_ne]; exact m0
        · simp (disch := decide) only [aU_row, vu_eq]
          intro i hi
          by_cases e : i = c.toNat
          · rw [e, ud_eq, aU_eq]
          · rw [ud_ne e, aU_ne e]; exact m1 i hi
        · simp (disch := decide) only [aU_row, vu_ne]; exact m2
        · simp (disch := decide) only [aU_row, vu_ne]; exact m3
        · simp (disch := decide) only [aU_row, vu_ne]; exact m4
        · simp (disch := decide) only [aU_row, vu_ne]; exact m5
        · simp (disch := decide) only [aU_row]; exact w0
        · simp (disch := decide) only [aU_row]
          intro i hi
          by_cases e : i = c.toNat
          · rw [e, aU_eq]; omega
          · rw [aU_ne e]; exact w1 i hi
        · simp (disch := decide) only [aU_row]; exact w2
        · simp (disch := decide) only [aU_row]; exact w3
        · simp (disch := decide) only [aU_row]; exact w4
        · simp (disch := decide) only [aU_row]; exact w5
        · unfold UQ; simp (disch := decide) only [aU_row]; exact hu
        · intro j hj; exact vu_ne (by omega)
      · have e2 : ¬ iI v ≤ (30 : Int32) := nle_iI (a := v) (b := 30) (by omega) (by omega) hv.2
        rw [if_neg e2, if_neg e2]
        exact Or.inr ⟨-6, by simp [cod], rfl, rfl⟩
    · have e1 : ¬ (0 : Int32) ≤ iI v := by rw [iI_0le hv.1 hv.2]; exact h1
      rw [if_neg e1, if_neg e1]
      exact Or.inr ⟨-4, by simp [cod], rfl, rfl⟩
  · rw [bI_f hin]
    exact Or.inr ⟨-1, by simp [cod], rfl, rfl⟩
end PC8
