-- ===== questions with trials =====
noncomputable def rl (P : Nat → Prop) (v : Nat → Int32) : Nat → Int32 → Int32
  | 0, f => f
  | n + 1, f => rl P v n (@ite _ (P n) (Classical.propDecidable _) (v n) f)
theorem rl_ex (P : Nat → Prop) (v : Nat → Int32) : ∀ (n : Nat) (f : Int32), (∃ j, j < n ∧ P j ∧ (∀ j', j' < j → ¬ P j') ∧ rl P v n f = v j) ∨ ((∀ j, j < n → ¬ P j) ∧ rl P v n f = f) := by
  intro n
  induction n with
  | zero => intro f; exact Or.inr ⟨fun j hj => absurd hj (Nat.not_lt_zero _), rfl⟩
  | succ n ih =>
    intro f
    rw [rl]
    rcases ih (@ite _ (P n) (Classical.propDecidable _) (v n) f) with ⟨j, j1, j2, j3, j4⟩ | ⟨j1, j2⟩
    · exact Or.inl ⟨j, by omega, j2, j3, j4⟩
    · by_cases hp : P n
      · rw [cI_t hp] at j2
        rw [cI_t hp]
        exact Or.inl ⟨n, by omega, hp, j1, j2⟩
      · rw [cI_f hp] at j2
        rw [cI_f hp]
        refine Or.inr ⟨?_, j2⟩
        intro j hj
        by_cases e : j = n
        · rw [e]; exact hp
        · exact j1 j (by omega)
theorem vu_vu {α : Type} (f : Nat → α) (k : Nat) (x y : α) : va_up (va_up f k x) k y = va_up f k y := by
  funext j
  by_cases h : j = k
  · subst h; rw [vu_eq, vu_eq]
  · rw [vu_ne h, vu_ne h, vu_ne h]
theorem ud_ud (f : Nat → Int32) (k : Nat) (x y : Int32) : upd (upd f k x) k y = upd f k y := by
  funext j
  by_cases h : j = k
  · subst h; rw [ud_eq, ud_eq]
  · rw [ud_ne h, ud_ne h, ud_ne h]
theorem ud_self (f : Nat → Int32) (k : Nat) : upd f k (f k) = f := by
  funext j
  by_cases h : j = k
  · subst h; rw [ud_eq]
  · rw [ud_ne h]
theorem uu_self (ar : S2) (r i : Nat) : va_up ar r (upd (ar r) i (ar r i)) = ar := by rw [ud_self, vu_self]
theorem uu_uu (ar : S2) (r i : Nat) (x y : Int32) : va_up (va_up ar r (upd (ar r) i x)) r (upd (va_up ar r (upd (ar r) i x) r) i y) = va_up ar r (upd (ar r) i y) := by
  rw [vu_eq, vu_vu, ud_ud]
theorem MA_tall {A : AS} {sc : S1} {ar : S2} (g : MA A sc ar) {i : Nat} {v : Int} : MA (aU A 8 i v) sc (va_up ar 8 (upd (ar 8) i (iI v))) := by
  obtain ⟨m0, m1, m2, m3, m4, m5⟩ := g
  refine ⟨?_, ?_, ?_, ?_, ?_, ?_⟩
  · simp (disch := decide) only [aU_row]; exact m0
  · simp (disch := decide) only [aU_row, vu_ne]; exact m1
  · simp (disch := decide) only [aU_row, vu_ne]; exact m2
  · simp (disch := decide) only [aU_row, vu_ne, vu_eq]
    intro j hj
    by_cases e : j = i
    · rw [e, ud_eq, aU_eq]; rw [e] at hj; exact ⟨(m3 i hj).1, rfl⟩
    · rw [ud_ne e, aU_ne e]; exact m3 j hj
  · simp (disch := decide) only [aU_row, vu_ne]; exact m4
  · simp (disch := decide) only [aU_row, vu_ne]; exact m5
theorem WF_tall {A : AS} (hw : WF A) {i : Nat} {v : Int} (hv : 0 ≤ v ∧ v ≤ 15) : WF (aU A 8 i v) := by
  obtain ⟨m0, m1, m2, m3, m4, m5⟩ := hw
  refine ⟨?_, ?_, ?_, ?_, ?_, ?_⟩
  · simp (disch := decide) only [aU_row]; exact m0
  · simp (disch := decide) only [aU_row]; exact m1
  · simp (disch := decide) only [aU_row]; exact m2
  · simp (disch := decide) only [aU_row]
    intro j hj
    have := m3 j hj
    by_cases e : j = i
    · rw [e, aU_eq]; rw [e] at this; omega
    · rw [aU_ne e]; exact this
  · simp (disch := decide) only [aU_row]; exact m4
  · simp (disch := decide) only [aU_row]; exact m5
theorem keepA_tall {A : AS} {i : Nat} {v mark h : Int} : keepA (aU A 8 i v) mark h ↔ keepA A mark h := by
  unfold keepA wA BR BD
  simp (disch := decide) only [aU_row]
theorem MA_slow {A : AS} {sc : S1} {ar : S2} (g : MA A sc ar) {i : Nat} {v : Int} : MA (aU A 12 i v) sc (va_up ar 12 (upd (ar 12) i (iI v))) := by
  obtain ⟨m0, m1, m2, m3, m4, m5⟩ := g
  refine ⟨?_, ?_, ?_, ?_, ?_, ?_⟩
  · simp (disch := decide) only [aU_row]; exact m0
  · simp (disch := decide) only [aU_row, vu_ne]; exact m1
  · simp (disch := decide) only [aU_row, vu_ne]; exact m2
  · simp (disch := decide) only [aU_row, vu_ne]; exact m3
  · simp (disch := decide) only [aU_row, vu_ne, vu_eq]
    intro j hj
    by_cases e : j = i
    · rw [e, ud_eq, aU_eq]; rw [e] at hj; have := m4 i hj; exact ⟨this.1, this.2.1, rfl, this.2.2.2⟩
    · rw [ud_ne e, aU_ne e]; exact m4 j hj
  · simp (disch := decide) only [aU_row, vu_ne]; exact m5
theorem WF_slow {A : AS} (hw : WF A) {i : Nat} {v : Int} (hv : 1 ≤ v ∧ v ≤ 9) : WF (aU A 12 i v) := by
  obtain ⟨m0, m1, m2, m3, m4, m5⟩ := hw
  refine ⟨?_, ?_, ?_, ?_, ?_, ?_⟩
  · simp (disch := decide) only [aU_row]; exact m0
  · simp (disch := decide) only [aU_row]; exact m1
  · simp (disch := decide) only [aU_row]; exact m2
  · simp (disch := decide) only [aU_row]; exact m3
  · simp (disch := decide) only [aU_row]
    intro j hj
    have := m4 j hj
    by_cases e : j = i
    · rw [e, aU_eq]; rw [e] at this; omega
    · rw [aU_ne e]; exact this
  · simp (disch := decide) only [aU_row]; exact m5
section PC15
variable {N : Nat} {A : AS} {s : S1} {a t : S2} {p : S1} {q : S2} {sc : S1} {ar : S2} {aX : S2}
theorem x7_raised_loop {β : Type} (hN : 100 ≤ N) (g : MA A sc ar) (hw : WF A) (hg : sc 25 = 0) {i : Nat} (hi : (i : Int) < A 6 0) {v2 : Int32} {kx : Int32 → S2 → Option β} : ∀ (b k : Nat) (f x : Int32), b ≤ 16 → b < k → ∃ y, f_X7_raised_L28 N sc (iI i) v2 kx k f (iI ((b : Int) - 1)) (va_up ar 8 (upd (ar 8) i x)) = kx (rl (fun v => keepA A (A 7 i) v) (fun v => iI v) b f) (va_up ar 8 (upd (ar 8) i y)) := by
  have w0 := hw.1
  intro b
  induction b with
  | zero =>
    intro k f x h1 h2
    obtain ⟨k, rfl⟩ : ∃ k', k = k' + 1 := ⟨k - 1, by omega⟩
    refine ⟨x, ?_⟩
    rw [f_X7_raised_L28, if_pos (by show iI (((0 : Nat) : Int) - 1) < iI 0; exact lt_iI (by omega) (by omega) (by omega))]
    rfl
  | succ b ih =>
    intro k f x h1 h2
    obtain ⟨k, rfl⟩ : ∃ k', k = k' + 1 := ⟨k - 1, by omega⟩
    rw [show (((b + 1 : Nat) : Int) - 1) = (b : Int) by omega]
    have ev : iI (b : Int) + (-1) = iI ((b : Int) - 1) := by
      show iI (b : Int) + iI (-1) = _
      rw [iI_add]; rfl
    have hk : f_X7_isKeptByAll N sc (va_up ar 8 (upd (ar 8) i (iI (b : Int)))) (iI i) = some (bI (keepA A (A 7 i) b)) := by
      have := x7_isKeptByAll hN (MA_tall (i := i) (v := (b : Int)) g) (WF_tall (i := i) (v := (b : Int)) hw (by omega)) hg (i := i) (by simp (disch := decide) only [aU_row]; exact hi)
      rw [this]
      refine congrArg some (bI_iff ?_)
      rw [keepA_tall, aU_row (by decide), aU_eq]
    rw [f_X7_raised_L28, if_neg (by show ¬ iI (b : Int) < iI 0; exact nlt_iI (by omega) (by omega) (by omega)), if_neg (ob_nat (by omega) (by omega)), ix_nat (by omega), uu_uu, hk, Option.bind_some, ev, bI_ite]
    have := ih k (@ite _ (keepA A (A 7 i) b) (Classical.propDecidable _) (iI b) f) (iI (b : Int)) (by omega) (by omega)
    exact this
theorem q_raised (hN : 100 ≤ N) (h : LA A s a t p q) (g : MA A sc ar) (hw : WF A) (hg : sc 25 = 0) {z : Int} (hz : -2147483648 ≤ z ∧ z < 2147483648) : QRY id aX ar (f_X6_raised N aX s a t (iI z)) (f_X7_raised N sc ar (iI z)) := by
  have w0 := hw.1
  unfold f_X6_raised f_X7_raised
  rw [x1_hasPost h hw hz.1 hz.2, x7_isPost g hw hz.1 hz.2]
  simp only [x6_refused cod1, x7_no cod1, Option.bind_some]
  by_cases hin : 0 ≤ z ∧ z < A 6 0
  · rw [bI_t hin]
    obtain ⟨i, rfl⟩ : ∃ b : Nat, z = (b : Int) := ⟨z.toNat, by omega⟩
    have hob : ¬ oob (iI (i : Int)) 5 := ob_nat (by omega) (by omega)
    have wp := hw.2.2.2.1 i hin.2
    simp only [if_neg one_ne, if_neg hob, ix_nat (show i < 2147483648 by omega)]
    obtain ⟨y, hy⟩ := x7_raised_loop hN g hw hg hin.2 (v2 := ar 8 i) (kx := fun x3_5 t5 => some (x3_5, va_up t5 8 (upd (t5 8) i (ar 8 i)))) 16 N (-9) (ar 8 i) (by omega) (by omega)
    rw [uu_self] at hy
    have hy' : f_X7_raised_L28 N sc (iI i) (ar 8 i) (fun x3_5 t5 => some (x3_5, va_up t5 8 (upd (t5 8) i (ar 8 i)))) N (-9) 15 ar = _ := hy
    rw [hy', uu_uu, uu_self]
    have go := lp_any (F := fun k j => f_X6_raised_L19 N aX s a t (iI i) (fun _ => some (-9, aX)) k (iI (j : Int))) (fin := some (-9, aX)) (r := fun j => some (iI (j : Int), aX)) (P := fun v => keepA A (A 7 i) v) (n := 16)
      (by
        intro k
        rw [f_X6_raised_L19, if_pos (by show iI 15 < iI ((16 : Nat) : Int); exact lt_iI (by omega) (by omega) (by omega))])
      (by
        intro k j hj
        have e : f_X6_raised_L19 N aX s a t (iI i) (fun _ => some (-9, aX)) (k + 1) (iI (j : Int)) = @ite _ (keepA A (A 7 i) j) (Classical.propDecidable _) (some (iI (j : Int), aX)) (f_X6_raised_L19 N aX s a t (iI i) (fun _ => some (-9, aX)) k (iI ((j + 1 : Nat) : Int))) := by
          rw [f_X6_raised_L19, if_neg (by show ¬ iI 15 < iI (j : Int); exact nlt_iI (by omega) (by omega) (by omega)), if_neg hob, ix_nat (by omega), (h.2.2.2.2.1 i hin.2).1, x1_keepsAll hN h hw (by omega) (by omega), Option.bind_some, bI_ite, iI_succ]
        exact ⟨fun hp => by rw [e, cI_t hp], fun hp => by rw [e, cI_f hp]⟩)
      N 0 (by omega) (by omega)
    refine Or.inl ⟨_, ?_, rfl⟩
    rcases rl_ex (fun v => keepA A (A 7 i) v) (fun v => iI v) 16 (-9) with ⟨j, j1, j2, j3, j4⟩ | ⟨j1, j2⟩
    · rcases go with ⟨j', -, i2, i3, i4, e⟩ | ⟨i1, e⟩
      · rw [j4]
        have : j = j' := by
          rcases Nat.lt_trichotomy j j' with c | c | c
          · exact absurd j2 (i4 j (by omega) c)
          · exact c
          · exact absurd i3 (j3 j' c)
        subst this
        exact e
      · exact absurd j2 (i1 j (by omega) j1)
    · rcases go with ⟨j', -, i2, i3, i4, e⟩ | ⟨i1, e⟩
      · exact absurd i3 (j1 j' i2)
      · rw [j2]; exact e
  · rw [bI_f hin]
    exact Or.inr ⟨-1, cod1, rfl, rfl⟩
/-- the warning of train j, made slower or faster, at post i -/
noncomputable def wS (A : AS) (j i : Nat) (v : Int) : Int := warnG (A 1) (A 0 0) (BR A mT) (BD A mT) (A 10 j) (A 11 j) v (A 13 j) (A 7 i) (A 8 i)
theorem x7_slowest_loop {β : Type} (hN : 100 ≤ N) (g : MA A sc ar) (hw : WF A) (hg : sc 25 = 0) {i j : Nat} (hi : (i : Int) < A 6 0) (hj : (j : Int) < A 9 0) {v3 : Int32} {kx : Int32 → S2 → Option β} : ∀ (b k : Nat) (f x : Int32), b ≤ 9 → b < k → ∃ y, f_X7_slowest_L37 N sc (iI j) (iI i) v3 kx k f (iI (b : Int)) (va_up ar 12 (upd (ar 12) j x)) = kx (rl (fun v => A 14 0 ≤ wS A j i ((v + 1 : Nat) : Int)) (fun v => iI ((v + 1 : Nat) : Int)) b f) (va_up ar 12 (upd (ar 12) j y)) := by
  have w0 := hw.1
  intro b
  induction b with
  | zero =>
    intro k f x h1 h2
    obtain ⟨k, rfl⟩ : ∃ k', k = k' + 1 := ⟨k - 1, by omega⟩
    refine ⟨x, ?_⟩
    rw [f_X7_slowest_L37, if_pos (by show iI ((0 : Nat) : Int) ≤ iI 0; exact le_iI (by omega) (by omega) (by omega))]
    rfl
  | succ b ih =>
    intro k f x h1 h2
    obtain ⟨k, rfl⟩ : ∃ k', k = k' + 1 := ⟨k - 1, by omega⟩
    have ev : iI ((b + 1 : Nat) : Int) + (-1) = iI (b : Int) := by
      show iI ((b + 1 : Nat) : Int) + iI (-1) = _
      rw [iI_add]; congr 1; omega
    have hk : f_X7_isKept N sc (va_up ar 12 (upd (ar 12) j (iI ((b + 1 : Nat) : Int)))) (iI j) (iI i) = some (bI (A 14 0 ≤ wS A j i ((b + 1 : Nat) : Int))) := by
      have := x7_isKept hN (MA_slow (i := j) (v := ((b + 1 : Nat) : Int)) g) (WF_slow (i := j) (v := ((b + 1 : Nat) : Int)) hw (by omega)) hg (t := j) (i := i) (by simp (disch := decide) only [aU_row]; exact hj) (by simp (disch := decide) only [aU_row]; exact hi)
      rw [this]
      refine congrArg some (bI_iff ?_)
      unfold wP wA wS BR BD
      simp (disch := decide) only [aU_row, aU_eq]
    rw [f_X7_slowest_L37, if_neg (by show ¬ iI ((b + 1 : Nat) : Int) ≤ iI 0; exact nle_iI (by omega) (by omega) (by omega)), if_neg (ob_nat (by omega) (by omega)), ix_nat (by omega), uu_uu, hk, Option.bind_some, ev, bI_ite]
    exact ih k (@ite _ (A 14 0 ≤ wS A j i ((b + 1 : Nat) : Int)) (Classical.propDecidable _) (iI ((b + 1 : Nat) : Int)) f) (iI ((b + 1 : Nat) : Int)) (by omega) (by omega)
theorem wS_bd (hw : WF A) {i j : Nat} (hj : (j : Int) < A 9 0) {v : Int} (hv : 1 ≤ v ∧ v ≤ 9) : 0 ≤ wS A j i v ∧ wS A j i v ≤ 1920 := by
  have := hw.2.2.2.2.1 j hj
  exact warnG_bd hw.2.1 (by omega) (by omega)
theorem x6_slowest_loop (hN : 100 ≤ N) (h : LA A s a t p q) (hw : WF A) {i j : Nat} (hi : (i : Int) < A 6 0) (hj : (j : Int) < A 9 0) : ∀ (k v : Nat) (u : S1), 1 ≤ v → v ≤ 10 → 10 < v + k → u 0 = iI (A 10 j) → u 1 = iI (A 11 j) → u 3 = iI (A 13 j) → ∃ u', (∃ v', v ≤ v' ∧ v' < 10 ∧ A 14 0 ≤ wS A j i v' ∧ (∀ x : Nat, v ≤ x → x < v' → ¬ A 14 0 ≤ wS A j i x) ∧ f_X6_slowest_L46 N aX s a t (iI i) (fun t8 => some (-9, aX, t8)) k (iI v) u = some (iI (v' : Nat), aX, u')) ∨ ((∀ x : Nat, v ≤ x → x < 10 → ¬ A 14 0 ≤ wS A j i x) ∧ f_X6_slowest_L46 N aX s a t (iI i) (fun t8 => some (-9, aX, t8)) k (iI v) u = some (-9, aX, u')) := by
  have w0 := hw.1
  obtain ⟨all, ea, hm⟩ := x1_all (N := N) h hw
  intro k
  induction k with
  | zero => intro v u h1 h2 h3; omega
  | succ k ih =>
    intro v u h1 h2 h3 u0 u1 u3
    by_cases hv : v = 10
    · subst hv
      refine ⟨u, Or.inr ⟨fun x a b => absurd b (by omega), ?_⟩⟩
      rw [f_X6_slowest_L46, if_pos (by show iI 9 < iI ((10 : Nat) : Int); exact lt_iI (by omega) (by omega) (by omega))]
    · have wt := hw.2.2.2.2.1 j hj
      have hT : TR (upd u 2 (iI (v : Int))) (A 10 j) (A 11 j) v (A 13 j) := ⟨⟨by rw [ud_ne (by decide)]; exact u0, by rw [ud_ne (by decide)]; exact u1, ud_eq _ _ _, by rw [ud_ne (by decide)]; exact u3⟩, by omega, by omega, by omega, by omega, by omega⟩
      have hb : 0 ≤ wS A j i v ∧ wS A j i v ≤ 1920 := wS_bd hw hj (by omega)
      have e : f_X6_slowest_L46 N aX s a t (iI i) (fun t8 => some (-9, aX, t8)) (k + 1) (iI (v : Int)) u = if wS A j i v < A 14 0 then f_X6_slowest_L46 N aX s a t (iI i) (fun t8 => some (-9, aX, t8)) k (iI ((v + 1 : Nat) : Int)) (upd u 2 (iI (v : Int))) else some (iI (v : Int), aX, upd u 2 (iI (v : Int))) := by
        rw [f_X6_slowest_L46, if_neg (by show ¬ iI 9 < iI (v : Int); exact nlt_iI (by omega) (by omega) (by omega)), ea, Option.bind_some, x1_warningOf hN h hw hm hT hi, Option.bind_some, h.1.2.2.2.2.1, iI_succ]
        exact itelt (by unfold wS at hb; omega) (by unfold wS at hb; omega) (by omega) (by omega)
      rw [e]
      by_cases hc : wS A j i v < A 14 0
      · rw [if_pos hc]
        obtain ⟨u', hu⟩ := ih (v + 1) (upd u 2 (iI (v : Int))) (by omega) (by omega) (by omega) (by rw [ud_ne (by decide)]; exact u0) (by rw [ud_ne (by decide)]; exact u1) (by rw [ud_ne (by decide)]; exact u3)
        refine ⟨u', ?_⟩
        rcases hu with ⟨v', c1, c2, c3, c4, c5⟩ | ⟨c1, c2⟩
        · refine Or.inl ⟨v', by omega, c2, c3, ?_, c5⟩
          intro x x1 x2
          by_cases ex : x = v
          · rw [ex]; omega
          · exact c4 x (by omega) x2
        · refine Or.inr ⟨?_, c2⟩
          intro x x1 x2
          by_cases ex : x = v
          · rw [ex]; omega
          · exact c1 x (by omega) x2
      · rw [if_neg hc]
        exact ⟨_, Or.inl ⟨v, Nat.le_refl v, by omega, by omega, fun x x1 x2 => absurd x2 (by omega), rfl⟩⟩
theorem q_slowest (hN : 100 ≤ N) (h : LA A s a t p q) (g : MA A sc ar) (hw : WF A) (hg : sc 25 = 0) {uG : S1} {x y : Int} (h1 : -2147483648 ≤ x ∧ x < 2147483648) (h2 : -2147483648 ≤ y ∧ y < 2147483648) : (∃ r u', f_X6_slowest N aX uG s a t (iI x) (iI y) = some (r, aX, u') ∧ f_X7_slowest N sc ar (iI x) (iI y) = some (r, ar)) ∨ (∃ c, cod c ∧ f_X6_slowest N aX uG s a t (iI x) (iI y) = some (c, rfA aX c, uG) ∧ f_X7_slowest N sc ar (iI x) (iI y) = some (c, noA ar c)) := by
  have w0 := hw.1
  unfold f_X6_slowest f_X7_slowest
  rw [x1_hasTrain h hw h1.1 h1.2, x7_isTrain g hw h1.1 h1.2, x1_hasPost h hw h2.1 h2.2, x7_isPost g hw h2.1 h2.2]
  simp only [x6_refused cod1, x7_no cod1, Option.bind_some]
  by_cases c1 : 0 ≤ x ∧ x < A 9 0
  · rw [bI_t c1]
    by_cases c2 : 0 ≤ y ∧ y < A 6 0
    · rw [bI_t c2]
      obtain ⟨j, rfl⟩ : ∃ b : Nat, x = (b : Int) := ⟨x.toNat, by omega⟩
      obtain ⟨i, rfl⟩ : ∃ b : Nat, y = (b : Int) := ⟨y.toNat, by omega⟩
      obtain ⟨⟨u0, u1, u2, u3⟩, -⟩ := TR_of h hw c1.2
      have hob : ¬ oob (iI (j : Int)) 4 := ob_nat (by omega) (by omega)
      simp only [if_neg one_ne, if_neg hob, ix_nat (show j < 2147483648 by omega), f_X5_copyFrom, Option.bind_some]
      obtain ⟨z, hz⟩ := x7_slowest_loop hN g hw hg c2.2 c1.2 (v3 := ar 12 j) (kx := fun x4_7 t7 => some (x4_7, va_up t7 12 (upd (t7 12) j (ar 12 j)))) 9 N (-9) (ar 12 j) (by omega) (by omega)
      rw [uu_self] at hz
      have hz' : f_X7_slowest_L37 N sc (iI j) (iI i) (ar 12 j) (fun x4_7 t7 => some (x4_7, va_up t7 12 (upd (t7 12) j (ar 12 j)))) N (-9) 9 ar = _ := hz
      rw [hz', uu_uu, uu_self]
      obtain ⟨u', hu⟩ := x6_slowest_loop (aX := aX) hN h hw c2.2 c1.2 N 1 (upd (upd (upd (upd uG 0 (t j 0)) 1 (t j 1)) 2 (t j 2)) 3 (t j 3)) (by omega) (by omega) (by omega) (by simp (disch := decide) only [ud_ne, ud_eq]; exact u0) (by simp (disch := decide) only [ud_ne, ud_eq]; exact u1) (by simp (disch := decide) only [ud_ne, ud_eq]; exact u3)
      refine Or.inl ⟨_, u', ?_, rfl⟩
      rcases rl_ex (fun v => A 14 0 ≤ wS A j i ((v + 1 : Nat) : Int)) (fun v => iI ((v + 1 : Nat) : Int)) 9 (-9) with ⟨k, j1, j2, j3, j4⟩ | ⟨j1, j2⟩
      · rcases hu with ⟨v', d1, d2, d3, d4, d5⟩ | ⟨d1, d2⟩
        · rw [j4]
          have : v' = k + 1 := by
            rcases Nat.lt_trichotomy v' (k + 1) with c | c | c
            · have := j3 (v' - 1) (by omega)
              rw [show v' - 1 + 1 = v' by omega] at this
              exact absurd d3 this
            · exact c
            · exact absurd j2 (d4 (k + 1) (by omega) c)
          subst this
          exact d5
        · exact absurd j2 (d1 (k + 1) (by omega) (by omega))
      · rcases hu with ⟨v', d1, d2, d3, d4, d5⟩ | ⟨d1, d2⟩
        · have := j1 (v' - 1) (by omega)
          rw [show v' - 1 + 1 = v' by omega] at this
          exact absurd d3 this
        · rw [j2]; exact d2
    · rw [bI_f c2]
      exact Or.inr ⟨-1, cod1, rfl, rfl⟩
  · rw [bI_f c1]
    exact Or.inr ⟨-1, cod1, rfl, rfl⟩
end PC15
