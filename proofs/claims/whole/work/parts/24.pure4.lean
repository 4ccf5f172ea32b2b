-- ===== loops =====
theorem lp_all {R : Type} {F : Nat → Nat → Option R} {fin : Option R} {n : Nat} (he : ∀ k, F (k + 1) n = fin) (hs : ∀ k i, i < n → F (k + 1) i = F k (i + 1)) : ∀ k i, i ≤ n → n < i + k → F k i = fin := by
  intro k
  induction k with
  | zero => intro i h1 h2; omega
  | succ k ih =>
    intro i h1 h2
    by_cases h : i = n
    · subst h; exact he k
    · rw [hs k i (by omega)]
      exact ih (i + 1) (by omega) (by omega)
theorem lp_any {R : Type} {F : Nat → Nat → Option R} {fin : Option R} {r : Nat → Option R} {P : Nat → Prop} {n : Nat} (he : ∀ k, F (k + 1) n = fin) (hs : ∀ k i, i < n → (P i → F (k + 1) i = r i) ∧ (¬ P i → F (k + 1) i = F k (i + 1))) : ∀ k i, i ≤ n → n < i + k → (∃ j, i ≤ j ∧ j < n ∧ P j ∧ (∀ j', i ≤ j' → j' < j → ¬ P j') ∧ F k i = r j) ∨ ((∀ j, i ≤ j → j < n → ¬ P j) ∧ F k i = fin) := by
  intro k
  induction k with
  | zero => intro i h1 h2; omega
  | succ k ih =>
    intro i h1 h2
    by_cases h : i = n
    · subst h
      exact Or.inr ⟨fun j a b => absurd b (by omega), he k⟩
    · have hi : i < n := by omega
      by_cases hp : P i
      · exact Or.inl ⟨i, Nat.le_refl i, hi, hp, fun j' a b => absurd b (by omega), (hs k i hi).1 hp⟩
      · rw [(hs k i hi).2 hp]
        rcases ih (i + 1) (by omega) (by omega) with ⟨j, a, b, c, d, e⟩ | ⟨a, e⟩
        · refine Or.inl ⟨j, by omega, b, c, ?_, e⟩
          intro j' x y
          rcases Nat.eq_or_lt_of_le x with rfl | x
          · exact hp
          · exact d j' x y
        · refine Or.inr ⟨?_, e⟩
          intro j x y
          rcases Nat.eq_or_lt_of_le x with rfl | x
          · exact hp
          · exact a j x y
def sumF (f : Nat → Int) : Nat → Int
  | 0 => 0
  | n + 1 => sumF f n + f n
theorem sumF_bd {f : Nat → Int} {n : Nat} {b : Int} (h : ∀ i, i < n → 0 ≤ f i ∧ f i ≤ b) : 0 ≤ sumF f n ∧ sumF f n ≤ n * b := by
  induction n with
  | zero => simp [sumF]
  | succ n ih =>
    have h1 := ih (fun i hi => h i (by omega))
    have h2 := h n (by omega)
    rw [sumF]
    have e : ((n + 1 : Nat) : Int) * b = n * b + b := by rw [Int.natCast_add, Int.add_mul]; simp
    rw [e]
    omega
theorem sumF_cg {f g : Nat → Int} {n : Nat} (h : ∀ i, i < n → f i = g i) : sumF f n = sumF g n := by
  induction n with
  | zero => rfl
  | succ n ih => rw [sumF, sumF, ih (fun i hi => h i (by omega)), h n (by omega)]
theorem iI_z : (0 : Int32) = iI 0 := Eq.trans (Int32.ofInt_toInt 0).symm rfl
theorem iI_eq0 {a : Int} (h1 : -2147483648 ≤ a) (h2 : a < 2147483648) : (iI a = 0) ↔ a = 0 := by rw [iI_z, iI_eq h1 h2 (by omega) (by omega)]
theorem iI_lt0 {a : Int} (h1 : -2147483648 ≤ a) (h2 : a < 2147483648) : (iI a < 0) ↔ a < 0 := by rw [iI_z, iI_lt h1 h2 (by omega) (by omega)]
theorem iI_0le {a : Int} (h1 : -2147483648 ≤ a) (h2 : a < 2147483648) : (0 ≤ iI a) ↔ 0 ≤ a := by rw [iI_z, iI_le (by omega) (by omega) h1 h2]
theorem iI_0lt {a : Int} (h1 : -2147483648 ≤ a) (h2 : a < 2147483648) : (0 < iI a) ↔ 0 < a := by rw [iI_z, iI_lt (by omega) (by omega) h1 h2]
theorem iI_le0 {a : Int} (h1 : -2147483648 ≤ a) (h2 : a < 2147483648) : (iI a ≤ 0) ↔ a ≤ 0 := by rw [iI_z, iI_le h1 h2 (by omega) (by omega)]
theorem nle_iI {a b : Int} (h : b < a) (h1 : -2147483648 ≤ b) (h2 : a < 2147483648) : ¬ iI a ≤ iI b := by rw [iI_le (by omega) h2 h1 (by omega)]; omega
theorem le_iI {a b : Int} (h : a ≤ b) (h1 : -2147483648 ≤ a) (h2 : b < 2147483648) : iI a ≤ iI b := by rw [iI_le h1 (by omega) (by omega) h2]; omega
theorem nlt_iI {a b : Int} (h : b ≤ a) (h1 : -2147483648 ≤ b) (h2 : a < 2147483648) : ¬ iI a < iI b := by rw [iI_lt (by omega) h2 h1 (by omega)]; omega
theorem lt_iI {a b : Int} (h : a < b) (h1 : -2147483648 ≤ a) (h2 : b < 2147483648) : iI a < iI b := by rw [iI_lt h1 (by omega) (by omega) h2]; omega
theorem itele {α : Type} {x y : α} {a b : Int} (h1 : -2147483648 ≤ a) (h2 : a < 2147483648) (h3 : -2147483648 ≤ b) (h4 : b < 2147483648) : (if iI a ≤ iI b then x else y) = if a ≤ b then x else y := by simp only [iI_le h1 h2 h3 h4]
theorem itelt {α : Type} {x y : α} {a b : Int} (h1 : -2147483648 ≤ a) (h2 : a < 2147483648) (h3 : -2147483648 ≤ b) (h4 : b < 2147483648) : (if iI a < iI b then x else y) = if a < b then x else y := by simp only [iI_lt h1 h2 h3 h4]
theorem iteeq {α : Type} {x y : α} {a b : Int} (h1 : -2147483648 ≤ a) (h2 : a < 2147483648) (h3 : -2147483648 ≤ b) (h4 : b < 2147483648) : (if iI a = iI b then x else y) = if a = b then x else y := by simp only [iI_eq h1 h2 h3 h4]
theorem iteeq0 {α : Type} {x y : α} {a : Int} (h1 : -2147483648 ≤ a) (h2 : a < 2147483648) : (if iI a = 0 then x else y) = if a = 0 then x else y := by simp only [iI_eq0 h1 h2]
theorem bI_n {P : Prop} : (if bI P = 0 then (0 : Int32) else 1) = bI P := by
  by_cases h : P
  · rw [bI_t h]; rfl
  · rw [bI_f h]; rfl
theorem bI_g {P : Prop} : (if bI P = 0 ∨ bI P = 1 then some (bI P) else none) = some (bI P) := if_pos (bI_01 P)
-- ===== what trains see =====
/-- a train's four numbers -/
def TR (u : S1) (k f sl w : Int) : Prop := (u 0 = iI k ∧ u 1 = iI f ∧ u 2 = iI sl ∧ u 3 = iI w) ∧ (0 ≤ k ∧ k ≤ 5) ∧ (0 ≤ f ∧ f ≤ 9) ∧ (1 ≤ sl ∧ sl ≤ 9) ∧ 0 ≤ w ∧ w ≤ 1
theorem TR_of {A : AS} {s : S1} {a t : S2} {p : S1} {q : S2} (h : LA A s a t p q) (hw : WF A) {i : Nat} (hi : (i : Int) < A 9 0) : TR (t i) (A 10 i) (A 11 i) (A 12 i) (A 13 i) := by
  obtain ⟨-, -, -, -, -, ht, -⟩ := h
  obtain ⟨-, -, -, -, hx, -⟩ := hw
  have := hx i hi
  exact ⟨ht i hi, by omega, by omega, by omega, by omega, by omega⟩
def seesA (G : Nat → Int) (B : Int → Int → Int → Prop) (e w mark h c : Int) : Prop := (w = 0 → c < mark) ∧ (w ≠ 0 → mark < c) ∧ clearA G B c e mark h
def okA (G : Nat → Int) (n : Int) (B : Int → Int → Int → Prop) (e mark h c : Int) : Prop := 0 ≤ c ∧ c < n ∧ clearA G B c e mark h
noncomputable def wrnA (ok : Int → Prop) (tm : Int → Int) (mark st : Int) : Nat → Int → Int
  | 0, _ => 0
  | k + 1, far => @ite _ (ok (mark - far * st)) (Classical.propDecidable _) (tm (mark - far * st) + wrnA ok tm mark st k (far + 1)) 0
noncomputable def fstA (ok : Int → Prop) (mark st : Int) : Nat → Int → Int → Int
  | 0, _, ans => ans
  | k + 1, far, ans => @ite _ (ok (mark - far * st)) (Classical.propDecidable _) (fstA ok mark st k (far + 1) (mark - far * st)) ans
noncomputable def warnG (G : Nat → Int) (n : Int) (B : Int → Int → Int → Prop) (bd : Int → Prop) (k f sl w mark h : Int) : Int :=
  wrnA (okA G n B (eyeA k f) mark h) (fun c => timA G n (bd c) k f sl w c) mark (stA w) 24 1
noncomputable def firstG (G : Nat → Int) (n : Int) (B : Int → Int → Int → Prop) (k f w mark h : Int) : Int :=
  fstA (okA G n B (eyeA k f) mark h) mark (stA w) 24 1 (-9)
theorem eyeA_bd {k f : Int} (h : 0 ≤ f ∧ f ≤ 9) : 0 ≤ eyeA k f ∧ eyeA k f ≤ 11 := by
  unfold eyeA
  repeat' split
  all_goals omega
theorem riseA_bd {G : Nat → Int} {n w c : Int} (hG : ∀ c : Nat, (c : Int) < n → 0 ≤ G c ∧ G c ≤ 30) (hc : 0 ≤ c ∧ c < n) : 0 ≤ riseA G n w c ∧ riseA G n w c ≤ 30 := by
  unfold riseA
  by_cases h : 0 ≤ c + stA w ∧ c + stA w < n
  · rw [if_pos h]
    have h1 := hG (c + stA w).toNat (by omega)
    have h2 := hG c.toNat (by omega)
    split <;> omega
  · rw [if_neg h]; omega
theorem timA_bd {G : Nat → Int} {n k f sl w c : Int} {bd : Prop} (hG : ∀ c : Nat, (c : Int) < n → 0 ≤ G c ∧ G c ≤ 30) (hc : 0 ≤ c ∧ c < n) (hf : 0 ≤ f ∧ f ≤ 9) (hs : 1 ≤ sl ∧ sl ≤ 9) : 0 ≤ timA G n bd k f sl w c ∧ timA G n bd k f sl w c ≤ 80 := by
  have hr := riseA_bd (w := w) hG hc
  have hx : 0 ≤ @ite _ bd (Classical.propDecidable bd) f 0 ∧ @ite _ bd (Classical.propDecidable bd) f 0 ≤ 9 := by
    by_cases h : bd
    · rw [cI_t h]; omega
    · rw [cI_f h]; omega
  unfold timA
  repeat' split
  all_goals omega
theorem wrnA_bd {G : Nat → Int} {n e mark h st k f sl w : Int} {B : Int → Int → Int → Prop} {bd : Int → Prop} (hG : ∀ c : Nat, (c : Int) < n → 0 ≤ G c ∧ G c ≤ 30) (hf : 0 ≤ f ∧ f ≤ 9) (hs : 1 ≤ sl ∧ sl ≤ 9) : ∀ (j : Nat) (far : Int), 0 ≤ wrnA (okA G n B e mark h) (fun c => timA G n (bd c) k f sl w c) mark st j far ∧ wrnA (okA G n B e mark h) (fun c => timA G n (bd c) k f sl w c) mark st j far ≤ 80 * j := by
  intro j
  induction j with
  | zero => intro far; simp [wrnA]
  | succ j ih =>
    intro far
    rw [wrnA]
    by_cases ho : okA G n B e mark h (mark - far * st)
    · rw [cI_t ho]
      have h1 := ih (far + 1)
      have h2 := timA_bd (bd := bd (mark - far * st)) (k := k) (w := w) hG ⟨ho.1, ho.2.1⟩ hf hs
      omega
    · rw [cI_f ho]; omega
theorem warnG_bd {G : Nat → Int} {n mark h k f sl w : Int} {B : Int → Int → Int → Prop} {bd : Int → Prop} (hG : ∀ c : Nat, (c : Int) < n → 0 ≤ G c ∧ G c ≤ 30) (hf : 0 ≤ f ∧ f ≤ 9) (hs : 1 ≤ sl ∧ sl ≤ 9) : 0 ≤ warnG G n B bd k f sl w mark h ∧ warnG G n B bd k f sl w mark h ≤ 1920 := by
  have := wrnA_bd (B := B) (bd := bd) (e := eyeA k f) (mark := mark) (h := h) (st := stA w) (k := k) (w := w) hG hf hs 24 1
  unfold warnG
  omega
theorem okA_out {G : Nat → Int} {n e mark h st far w : Int} {B : Int → Int → Int → Prop} (hst : st = stA w) (hm : 0 ≤ mark ∧ mark < n) (hf : n ≤ far) : ¬ okA G n B e mark h (mark - far * st) := by
  rintro ⟨h1, h2, -⟩
  have : stA w = 1 ∨ stA w = -1 := by unfold stA; split <;> simp
  rcases this with e | e <;> rw [hst, e] at h1 h2 <;> omega
theorem wrnA_out {G : Nat → Int} {n e mark h st far w : Int} {B : Int → Int → Int → Prop} {tm : Int → Int} (hst : st = stA w) (hm : 0 ≤ mark ∧ mark < n) (hf : n ≤ far) (j : Nat) : wrnA (okA G n B e mark h) tm mark st j far = 0 := by
  cases j with
  | zero => rfl
  | succ j => rw [wrnA, cI_f (okA_out hst hm hf)]
theorem fstA_out {G : Nat → Int} {n e mark h st far w ans : Int} {B : Int → Int → Int → Prop} (hst : st = stA w) (hm : 0 ≤ mark ∧ mark < n) (hf : n ≤ far) (j : Nat) : fstA (okA G n B e mark h) mark st j far ans = ans := by
  cases j with
  | zero => rfl
  | succ j => rw [fstA, cI_f (okA_out hst hm hf)]
section PC4
variable {N : Nat} {A : AS} {s : S1} {a t : S2} {p : S1} {q : S2} {there : Int32} {m : Nat → Prop} {u : S1} {k f sl w : Int}
theorem x1_seesPost (hN : 100 ≤ N) (h : LA A s a t p q) (hw : WF A) (hm : MK there m (A 2 0)) (hu : TR u k f sl w) {i : Nat} (hi : (i : Int) < A 6 0) {c : Int} (hc : 0 ≤ c ∧ c < A 0 0) : f_X1_seesPost N u s a (iI i) (iI c) there = some (bI (seesA (A 1) (BR A m) (eyeA k f) w (A 7 i) (A 8 i) c)) := by
  have w0 := hw.1
  have wp := hw.2.2.2.1 i hi
  have ep := h.2.2.2.2.1 i hi
  obtain ⟨⟨u0, u1, u2, u3⟩, hk, hf, hs, hww⟩ := hu
  have hob : ¬ oob (iI (i : Int)) 5 := ob_nat (by omega) (by omega)
  unfold f_X1_seesPost
  simp only [if_neg hob, ix_nat (show i < 2147483648 by omega), ep.1, ep.2, u3, x5_eye u0 u1 hk, Option.bind_some]
  simp (disch := omega) only [iI_eq0, iI_le]
  have he := eyeA_bd (k := k) hf
  have go : A 7 i ≠ c → ((f_X1_isClear N s a (iI c) (iI (eyeA k f)) (iI (A 7 i)) (iI (A 8 i)) there).bind fun r8 => some (if r8 = 0 then 0 else 1)) = some (bI (clearA (A 1) (BR A m) c (eyeA k f) (A 7 i) (A 8 i))) := by
    intro hne
    rw [x1_isClear hN h hw hm hc (by omega) (by omega) (by omega) (by omega), Option.bind_some]
    exact congrArg some bI_n
  by_cases hw0 : w = 0
  · rw [if_pos hw0]
    by_cases hl : A 7 i ≤ c
    · rw [if_pos hl]
      show some (0 : Int32) = _
      rw [bI_f]
      exact fun z => absurd (z.1 hw0) (by omega)
    · rw [if_neg hl]
      simp only [if_neg (show ¬ (1 : Int32) = 0 by decide)]
      rw [go (by omega), Option.bind_some]
      refine bI_g.trans (congrArg some (bI_iff ?_))
      exact ⟨fun z => ⟨fun _ => by omega, fun y => absurd hw0 y, z⟩, fun z => z.2.2⟩
  · rw [if_neg hw0]
    by_cases hl : c ≤ A 7 i
    · rw [if_pos hl]
      show some (0 : Int32) = _
      rw [bI_f]
      exact fun z => absurd (z.2.1 hw0) (by omega)
    · rw [if_neg hl]
      simp only [if_neg (show ¬ (1 : Int32) = 0 by decide)]
      rw [go (by omega), Option.bind_some]
      refine bI_g.trans (congrArg some (bI_iff ?_))
      exact ⟨fun z => ⟨fun y => absurd y hw0, fun _ => by omega, z⟩, fun z => z.2.2⟩
theorem x1_warn_loop (hN : 100 ≤ N) (h : LA A s a t p q) (hw : WF A) (hm : MK there m (A 2 0)) (hu : TR u k f sl w) {mark ht : Int} (hmk : 0 ≤ mark ∧ mark < A 0 0) (hht : 0 ≤ ht ∧ ht ≤ 60) : ∀ (n j : Nat) (far acc : Int), 1 ≤ far → far ≤ A 0 0 → A 0 0 < far + n → A 0 0 ≤ far + j → f_X1_warningFor_L6 N u s a (iI mark) (iI ht) there (fun x => some x) n (iI acc) (iI far) = some (iI (acc + wrnA (okA (A 1) (A 0 0) (BR A m) (eyeA k f) mark ht) (fun c => timA (A 1) (A 0 0) (BD A m c) k f sl w c) mark (stA w) j far)) := by
  have w0 := hw.1
  have e0 := h.1.1
  have hu' := hu
  obtain ⟨⟨u0, u1, u2, u3⟩, hk, hf, hs, hww⟩ := hu
  have hst : stA w = 1 ∨ stA w = -1 := by unfold stA; split <;> simp
  have he := eyeA_bd (k := k) hf
  intro n
  induction n with
  | zero => intro j far acc h1 h2 h3; omega
  | succ n ih =>
    intro j far acc h1 h2 h3 h4
    rw [f_X1_warningFor_L6]
    simp (disch := omega) only [e0, iI_le]
    by_cases hc : A 0 0 ≤ far
    · rw [if_pos hc, wrnA_out rfl hmk hc, Int.add_zero]
    · rw [if_neg hc]
      obtain ⟨j, rfl⟩ : ∃ j', j = j' + 1 := ⟨j - 1, by omega⟩
      have hb : -100 ≤ mark - far * stA w ∧ mark - far * stA w ≤ 100 ∧ mark - far * stA w ≠ mark := by rcases hst with e | e <;> rw [e] <;> omega
      rw [x5_step u3 hww, Option.bind_some, iI_mul, iI_sub, x1_hasCell h hw (by omega) (by omega), Option.bind_some, bI_ite, wrnA]
      by_cases hin : 0 ≤ mark - far * stA w ∧ mark - far * stA w < A 0 0
      · rw [cI_t hin, x5_eye u0 u1 hk, Option.bind_some, x1_isClear hN h hw hm hin hmk (by omega) (by omega) (by omega), Option.bind_some, bI_ite]
        by_cases hcl : clearA (A 1) (BR A m) (mark - far * stA w) (eyeA k f) mark ht
        · rw [cI_t hcl, x1_timeIn hN h hw hm u0 u1 u2 u3 hk hs hww hin, Option.bind_some, iI_add, iI_1s, ih j (far + 1) _ (by omega) (by omega) (by omega) (by omega), cI_t ⟨hin.1, hin.2, hcl⟩, Int.add_assoc]
        · rw [cI_f hcl, cI_f (fun z => hcl z.2.2), Int.add_zero]
      · rw [cI_f hin, cI_f (fun z => hin ⟨z.1, z.2.1⟩), Int.add_zero]
theorem x1_warningFor (hN : 100 ≤ N) (h : LA A s a t p q) (hw : WF A) (hm : MK there m (A 2 0)) (hu : TR u k f sl w) {mark ht : Int} (hmk : 0 ≤ mark ∧ mark < A 0 0) (hht : 0 ≤ ht ∧ ht ≤ 60) : f_X1_warningFor N u s a (iI mark) (iI ht) there = some (iI (warnG (A 1) (A 0 0) (BR A m) (BD A m) k f sl w mark ht)) := by
  have w0 := hw.1
  unfold f_X1_warningFor
  refine (x1_warn_loop hN h hw hm hu hmk hht N 24 1 0 (by omega) (by omega) (by omega) (by omega)).trans ?_
  rw [Int.zero_add]
  rfl
theorem x1_first_loop (hN : 100 ≤ N) (h : LA A s a t p q) (hw : WF A) (hm : MK there m (A 2 0)) (hu : TR u k f sl w) {mark ht : Int} (hmk : 0 ≤ mark ∧ mark < A 0 0) (hht : 0 ≤ ht ∧ ht ≤ 60) : ∀ (n j : Nat) (far acc : Int), 1 ≤ far → far ≤ A 0 0 → A 0 0 < far + n → A 0 0 ≤ far + j → f_X1_firstCell_L7 N u s a (iI mark) (iI ht) there (fun x => some x) n (iI acc) (iI far) = some (iI (fstA (okA (A 1) (A 0 0) (BR A m) (eyeA k f) mark ht) mark (stA w) j far acc)) := by
  have w0 := hw.1
  have e0 := h.1.1
  obtain ⟨⟨u0, u1, u2, u3⟩, hk, hf, hs, hww⟩ := hu
  have hst : stA w = 1 ∨ stA w = -1 := by unfold stA; split <;> simp
  have he := eyeA_bd (k := k) hf
  intro n
  induction n with
  | zero => intro j far acc h1 h2 h3; omega
  | succ n ih =>
    intro j far acc h1 h2 h3 h4
    rw [f_X1_firstCell_L7]
    simp (disch := omega) only [e0, iI_le]
    by_cases hc : A 0 0 ≤ far
    · rw [if_pos hc, fstA_out rfl hmk hc]
    · rw [if_neg hc]
      obtain ⟨j, rfl⟩ : ∃ j', j = j' + 1 := ⟨j - 1, by omega⟩
      have hb : -100 ≤ mark - far * stA w ∧ mark - far * stA w ≤ 100 ∧ mark - far * stA w ≠ mark := by rcases hst with e | e <;> rw [e] <;> omega
      rw [x5_step u3 hww, Option.bind_some, iI_mul, iI_sub, x1_hasCell h hw (by omega) (by omega), Option.bind_some, bI_ite, fstA]
      by_cases hin : 0 ≤ mark - far * stA w ∧ mark - far * stA w < A 0 0
      · rw [cI_t hin, x5_eye u0 u1 hk, Option.bind_some, x1_isClear hN h hw hm hin hmk (by omega) (by omega) (by omega), Option.bind_some, bI_ite]
        by_cases hcl : clearA (A 1) (BR A m) (mark - far * stA w) (eyeA k f) mark ht
        · rw [cI_t hcl, iI_1s, ih j (far + 1) _ (by omega) (by omega) (by omega) (by omega), cI_t ⟨hin.1, hin.2, hcl⟩]
        · rw [cI_f hcl, cI_f (fun z => hcl z.2.2)]
      · rw [cI_f hin, cI_f (fun z => hin ⟨z.1, z.2.1⟩)]
theorem x1_firstCell (hN : 100 ≤ N) (h : LA A s a t p q) (hw : WF A) (hm : MK there m (A 2 0)) (hu : TR u k f sl w) {mark ht : Int} (hmk : 0 ≤ mark ∧ mark < A 0 0) (hht : 0 ≤ ht ∧ ht ≤ 60) : f_X1_firstCell N u s a (iI mark) (iI ht) there = some (iI (firstG (A 1) (A 0 0) (BR A m) k f w mark ht)) := by
  have w0 := hw.1
  unfold f_X1_firstCell
  exact x1_first_loop hN h hw hm hu hmk hht N 24 1 (-9) (by omega) (by omega) (by omega) (by omega)
end PC4
