-- ===== the abstract line: A k i in the model's field numbers =====
abbrev AS : Type := Nat → Nat → Int
def LA (A : AS) (s : S1) (a t : S2) (p : S1) (q : S2) : Prop :=
  (s 0 = iI (A 0 0) ∧ s 2 = iI (A 2 0) ∧ s 6 = iI (A 6 0) ∧ s 9 = iI (A 9 0) ∧ s 11 = iI (A 14 0) ∧ p 0 = iI (A 15 0)) ∧
  (∀ c : Nat, (c : Int) < A 0 0 → a 1 c = iI (A 1 c)) ∧ (∀ c : Nat, A 0 0 ≤ c → c < 24 → a 1 c = iI 10) ∧
  (∀ i : Nat, (i : Int) < A 2 0 → a 3 i = iI (A 3 i) ∧ a 4 i = iI (A 4 i) ∧ a 5 i = iI (A 5 i)) ∧
  (∀ i : Nat, (i : Int) < A 6 0 → a 7 i = iI (A 7 i) ∧ a 8 i = iI (A 8 i)) ∧
  (∀ i : Nat, (i : Int) < A 9 0 → t i 0 = iI (A 10 i) ∧ t i 1 = iI (A 11 i) ∧ t i 2 = iI (A 12 i) ∧ t i 3 = iI (A 13 i)) ∧
  (∀ i : Nat, (i : Int) < A 15 0 → q 1 i = iI (A 18 i) ∧ q 2 i = iI (A 17 i) ∧ ∀ j : Nat, (j : Int) < A 17 i → q 3 (7 * i + j) = iI (A 16 (7 * i + j))) ∧
  (∀ i : Nat, i < 56 → fits .char (.int (q 3 i)) = true)
def MA (A : AS) (sc : S1) (ar : S2) : Prop :=
  (sc 0 = iI (A 0 0) ∧ sc 2 = iI (A 2 0) ∧ sc 6 = iI (A 6 0) ∧ sc 9 = iI (A 9 0) ∧ sc 14 = iI (A 14 0) ∧ sc 15 = iI (A 15 0)) ∧
  (∀ c : Nat, (c : Int) < A 0 0 → ar 1 c = iI (A 1 c)) ∧
  (∀ i : Nat, (i : Int) < A 2 0 → ar 3 i = iI (A 3 i) ∧ ar 4 i = iI (A 4 i) ∧ ar 5 i = iI (A 5 i)) ∧
  (∀ i : Nat, (i : Int) < A 6 0 → ar 7 i = iI (A 7 i) ∧ ar 8 i = iI (A 8 i)) ∧
  (∀ i : Nat, (i : Int) < A 9 0 → ar 10 i = iI (A 10 i) ∧ ar 11 i = iI (A 11 i) ∧ ar 12 i = iI (A 12 i) ∧ ar 13 i = iI (A 13 i)) ∧
  (∀ i : Nat, (i : Int) < A 15 0 → ar 18 i = iI (A 18 i) ∧ ar 17 i = iI (A 17 i) ∧ ∀ j : Nat, (j : Int) < A 17 i → ar 16 (7 * i + j) = iI (A 16 (7 * i + j)))
def WF (A : AS) : Prop :=
  (2 ≤ A 0 0 ∧ A 0 0 ≤ 24 ∧ 0 ≤ A 2 0 ∧ A 2 0 ≤ 4 ∧ 0 ≤ A 6 0 ∧ A 6 0 ≤ 5 ∧ 0 ≤ A 9 0 ∧ A 9 0 ≤ 4 ∧ 0 ≤ A 14 0 ∧ A 14 0 ≤ 99 ∧ 0 ≤ A 15 0 ∧ A 15 0 ≤ 8) ∧
  (∀ c : Nat, (c : Int) < A 0 0 → 0 ≤ A 1 c ∧ A 1 c ≤ 30) ∧
  (∀ i : Nat, (i : Int) < A 2 0 → 0 ≤ A 3 i ∧ A 3 i < A 0 0 ∧ 0 ≤ A 4 i ∧ A 4 i ≤ 60 ∧ 0 ≤ A 5 i ∧ A 5 i ≤ 60) ∧
  (∀ i : Nat, (i : Int) < A 6 0 → 0 ≤ A 7 i ∧ A 7 i < A 0 0 ∧ 0 ≤ A 8 i ∧ A 8 i ≤ 15) ∧
  (∀ i : Nat, (i : Int) < A 9 0 → 0 ≤ A 10 i ∧ A 10 i ≤ 5 ∧ 0 ≤ A 11 i ∧ A 11 i ≤ 9 ∧ 1 ≤ A 12 i ∧ A 12 i ≤ 9 ∧ 0 ≤ A 13 i ∧ A 13 i ≤ 1) ∧
  (∀ i : Nat, (i : Int) < A 15 0 → 0 ≤ A 18 i ∧ A 18 i < A 0 0 ∧ 1 ≤ A 17 i ∧ A 17 i ≤ 7 ∧ ∀ j : Nat, (j : Int) < A 17 i → 97 ≤ A 16 (7 * i + j) ∧ A 16 (7 * i + j) ≤ 122)
-- ===== what is seen, over ground G, bridges B c low high, cells n =====
def lnA (l r lt rt c : Int) : Int := lt * (r - c) + rt * (c - l)
def clrA (G : Nat → Int) (B : Int → Int → Int → Prop) (l r lt rt : Int) : Prop := ∀ c : Int, l < c → c < r → G c.toNat * (r - l) < lnA l r lt rt c ∧ ∀ lo hi : Int, B c lo hi → ¬ (lo * (r - l) ≤ lnA l r lt rt c ∧ lnA l r lt rt c ≤ hi * (r - l))
def clearA (G : Nat → Int) (B : Int → Int → Int → Prop) (x hx y hy : Int) : Prop := (x < y → clrA G B x y (G x.toNat + hx) (G y.toNat + hy)) ∧ (y < x → clrA G B y x (G y.toNat + hy) (G x.toNat + hx))
def BR (A : AS) (m : Nat → Prop) : Int → Int → Int → Prop := fun c lo hi => ∃ i : Nat, (i : Int) < A 2 0 ∧ m i ∧ A 3 i = c ∧ A 4 i = lo ∧ A 5 i = hi
def BD (A : AS) (m : Nat → Prop) : Int → Prop := fun c => ∃ i : Nat, (i : Int) < A 2 0 ∧ m i ∧ A 3 i = c
def eyeA (k f : Int) : Int := if k = 1 then 4 else if k = 2 then 2 else if k = 3 then 5 else if k = 4 then 2 + f else if k = 5 then 0 else 3
def stA (w : Int) : Int := if w = 0 then 1 else -1
def riseA (G : Nat → Int) (n w c : Int) : Int := if 0 ≤ c + stA w ∧ c + stA w < n then (if 0 < G (c + stA w).toNat - G c.toNat then G (c + stA w).toNat - G c.toNat else 0) else 0
noncomputable def timA (G : Nat → Int) (n : Int) (bd : Prop) (k f s w c : Int) : Int :=
  if k = 1 then s + riseA G n w c else if k = 2 then (s + 1) / 2 else if k = 3 then s + riseA G n w c + @ite _ bd (Classical.propDecidable bd) f 0 else if k = 4 then (if 1 < (s + 1) / 2 - 1 then (s + 1) / 2 - 1 else 1) else if k = 5 then 2 * (s + riseA G n w c) else s
/-- the mask's bits are the bridges that are there -/
def MK (there : Int32) (m : Nat → Prop) (b : Int) : Prop := ∀ i : Nat, (i : Int) < b → (((there >>> (iI i &&& 31)) &&& 1) = 1 ↔ m i)
-- ===== the class: small things =====
section PC
variable {N : Nat} {A : AS} {s : S1} {a t : S2} {p : S1} {q : S2}
theorem x1_hasCell (h : LA A s a t p q) (hw : WF A) {z : Int} (h1 : -2147483648 ≤ z) (h2 : z < 2147483648) : f_X1_hasCell N s (iI z) = some (bI (0 ≤ z ∧ z < A 0 0)) := by
  obtain ⟨⟨e0, -⟩, -⟩ := h
  obtain ⟨⟨w1, w2, -⟩, -⟩ := hw
  unfold f_X1_hasCell
  simp (disch := omega) only [e0, iI_0, iI_lt, iI_le]
  rw [← bI_dec]
  congr 1
  repeat' split
  all_goals first | rfl | (exfalso; omega)
theorem x1_hasBridge (h : LA A s a t p q) (hw : WF A) {z : Int} (h1 : -2147483648 ≤ z) (h2 : z < 2147483648) : f_X1_hasBridge N s (iI z) = some (bI (0 ≤ z ∧ z < A 2 0)) := by
  obtain ⟨⟨-, e0, -⟩, -⟩ := h
  obtain ⟨⟨-, -, w1, w2, -⟩, -⟩ := hw
  unfold f_X1_hasBridge
  simp (disch := omega) only [e0, iI_0, iI_lt, iI_le]
  rw [← bI_dec]
  congr 1
  repeat' split
  all_goals first | rfl | (exfalso; omega)
theorem x1_hasPost (h : LA A s a t p q) (hw : WF A) {z : Int} (h1 : -2147483648 ≤ z) (h2 : z < 2147483648) : f_X1_hasPost N s (iI z) = some (bI (0 ≤ z ∧ z < A 6 0)) := by
  obtain ⟨⟨-, -, e0, -⟩, -⟩ := h
  obtain ⟨⟨-, -, -, -, w1, w2, -⟩, -⟩ := hw
  unfold f_X1_hasPost
  simp (disch := omega) only [e0, iI_0, iI_lt, iI_le]
  rw [← bI_dec]
  congr 1
  repeat' split
  all_goals first | rfl | (exfalso; omega)
theorem x1_hasTrain (h : LA A s a t p q) (hw : WF A) {z : Int} (h1 : -2147483648 ≤ z) (h2 : z < 2147483648) : f_X1_hasTrain N s (iI z) = some (bI (0 ≤ z ∧ z < A 9 0)) := by
  obtain ⟨⟨-, -, -, e0, -⟩, -⟩ := h
  obtain ⟨⟨-, -, -, -, -, -, w1, w2, -⟩, -⟩ := hw
  unfold f_X1_hasTrain
  simp (disch := omega) only [e0, iI_0, iI_lt, iI_le]
  rw [← bI_dec]
  congr 1
  repeat' split
  all_goals first | rfl | (exfalso; omega)
theorem x5_eye {u : S1} {k f : Int} (e0 : u 0 = iI k) (e1 : u 1 = iI f) (hk : 0 ≤ k ∧ k ≤ 5) : f_X5_eye N u = some (iI (eyeA k f)) := by
  unfold f_X5_eye eyeA
  rw [e0, e1]
  rcases (show k = 0 ∨ k = 1 ∨ k = 2 ∨ k = 3 ∨ k = 4 ∨ k = 5 by omega) with rfl | rfl | rfl | rfl | rfl | rfl
  · rfl
  · rfl
  · rfl
  · rfl
  · show some (iI 2 + iI f) = _
    rw [iI_add]; rfl
  · rfl
theorem x5_step {u : S1} {w : Int} (e : u 3 = iI w) (hw : 0 ≤ w ∧ w ≤ 1) : f_X5_step N u = some (iI (stA w)) := by
  unfold f_X5_step stA
  rw [e]
  rcases (show w = 0 ∨ w = 1 by omega) with rfl | rfl <;> rfl
end PC
