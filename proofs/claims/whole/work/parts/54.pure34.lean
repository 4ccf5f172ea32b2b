-- ===== moved: the class's answer =====
def OPT (A : AS) (o : Nat → Nat) (n P : Nat) (b : Nat → Nat) : Prop := VAL (gdA A) o n P b ∧ ∀ pl, VAL (gdA A) o n P pl → BET (A 7) P b pl
theorem VAL_ok {A : AS} {ch : Nat → Int} {o : Nat → Nat} {n P : Nat} {pl : Nat → Nat} (h : VAL (okC A ch) o n P pl) : VAL (gdA A) o n P pl := ⟨fun p hp => ⟨(h.1 p hp).1, (h.1 p hp).2.1⟩, h.2⟩
section PC34
variable {N : Nat} {A : AS} {s : S1} {a t : S2} {p : S1} {q : S2} {o : Nat → Nat} {n P : Nat}
theorem MV_set {ma : S2} {ch : Nat → Int} (hm : MV A o n P ma ch) {k : Nat} {v : Int} (hv : -1 ≤ v ∧ v < 24) : MV A o n P (va_up ma 2 (upd (ma 2) k (iI v))) (fun p => if p = k then v else ch p) := by
  refine ⟨?_, ?_, ?_⟩
  · rw [vu_ne (by decide)]; exact hm.1
  · rw [vu_ne (by decide)]; exact hm.2.1
  · intro p hp
    rw [vu_eq]
    by_cases e : p = k
    · subst e
      simp only [if_true]
      exact ⟨ud_eq _ _ _, hv.1, hv.2⟩
    · simp only [if_neg e]
      rw [ud_ne e]; exact hm.2.2 p hp
theorem SM_lt {hw : WF A} (hn : (n : Int) = A 0 0) (hP : (P : Int) = A 6 0) {pl : Nat → Nat} (h : VAL (gdA A) o n P pl) : 0 ≤ SM (A 7) P pl ∧ SM (A 7) P pl ≤ 120 := by
  have w0 := hw.1
  have := SM_bd (a := A 7) (P := P) (x := pl) (fun p hp => by have := hw.2.2.2.1 p (by omega); omega) (fun p hp => by have := (h.1 p hp).1; omega)
  omega
theorem x2_first (hN : 100 ≤ N) (h : LA A s a t p q) (hw : WF A) (hn : (n : Int) = A 0 0) (hP : (P : Int) = A 6 0) (ho : ∀ j, j < P → o j < P) (hin : ∀ j k, j < P → k < P → o j = o k → j = k) {b : Nat → Nat} (hb : OPT A o n P b) {k : Nat} (hk : k < P) {ch : Nat → Int} (hc1 : ∀ p, p < k → ch p = b p) (hc2 : ∀ p, k < p → p < P → ch p = -1) : ∀ (d c z : Nat) (ma : S2), c + d = b k → d < z → (∃ v : Int, (-1 ≤ v ∧ v < 24) ∧ MV A o n P ma (fun p => if p = k then v else ch p)) → ∃ ma', f_X2_firstCellBy_L3 N s a (iI k) (iI (SM (A 7) P b)) (fun t2 => some (-1, t2)) z (iI c) ma = some (iI (b k), ma') ∧ MV A o n P ma' (fun p => if p = k then (b k : Int) else ch p) := by
  have w0 := hw.1
  have l0 := h.1.1
  have hbk := (hb.1.1 k hk).1
  have sb := SM_lt (hw := hw) hn hP hb.1
  have en : nev = 1000000 := rfl
  have step : ∀ (c z : Nat) (ma : S2), c < n → (∃ v : Int, (-1 ≤ v ∧ v < 24) ∧ MV A o n P ma (fun p => if p = k then v else ch p)) → ∃ ma', MV A o n P ma' (fun p => if p = k then (c : Int) else ch p) ∧ f_X2_firstCellBy_L3 N s a (iI k) (iI (SM (A 7) P b)) (fun t2 => some (-1, t2)) (z + 1) (iI c) ma = if RR (okC A (fun p => if p = k then (c : Int) else ch p)) o (A 7) P n = SM (A 7) P b then some (iI c, ma') else f_X2_firstCellBy_L3 N s a (iI k) (iI (SM (A 7) P b)) (fun t2 => some (-1, t2)) z (iI ((c + 1 : Nat) : Int)) ma' := by
    rintro c z ma hc ⟨v, hv, hm⟩
    have hm1 := MV_set hm (k := k) (v := (c : Int)) (by omega)
    have e0 : (fun p => if p = k then (c : Int) else (fun p => if p = k then v else ch p) p) = (fun p => if p = k then (c : Int) else ch p) := by
      funext p
      by_cases e : p = k
      · rw [if_pos e, if_pos e]
      · rw [if_neg e, if_neg e]
        show (if p = k then v else ch p) = _
        rw [if_neg e]
    rw [e0] at hm1
    obtain ⟨ma', e1, m1⟩ := x2_leastSum (N := N) hN h hw hn hP ho hm1
    refine ⟨ma', m1, ?_⟩
    have rb := RR_bd (ok := okC A (fun p => if p = k then (c : Int) else ch p)) (o := o) (a := A 7) P n
    rw [f_X2_firstCellBy_L3, l0, if_neg (nle_iI (by omega) (by omega) (by omega)), if_neg (ob_nat (show k < 5 by omega) (by omega)), ix_nat (by omega), e1, Option.bind_some, iteeq (by omega) (by omega) (by omega) (by omega), iI_succ]
  intro d
  induction d with
  | zero =>
    intro c z ma h1 h2 hm
    obtain ⟨z, rfl⟩ : ∃ y, z = y + 1 := ⟨z - 1, by omega⟩
    have ec : c = b k := by omega
    subst ec
    obtain ⟨ma', m1, e1⟩ := step (b k) z ma hbk hm
    refine ⟨ma', ?_, m1⟩
    rw [e1, if_pos]
    obtain ⟨r1, r2⟩ := RR_VAL (ok := okC A (fun p => if p = k then (b k : Int) else ch p)) (o := o) (a := A 7) (n := n) (P := P) ho hin
    have hv : VAL (okC A (fun p => if p = k then (b k : Int) else ch p)) o n P b := by
      refine ⟨fun p hp => ⟨(hb.1.1 p hp).1, (hb.1.1 p hp).2, ?_⟩, hb.1.2⟩
      show (if p = k then (b k : Int) else ch p) = -1 ∨ (if p = k then (b k : Int) else ch p) = b p
      rcases Nat.lt_trichotomy p k with e | e | e
      · rw [if_neg (by omega)]; exact Or.inr (hc1 p e)
      · subst e; rw [if_pos rfl]; exact Or.inr rfl
      · rw [if_neg (by omega)]; exact Or.inl (hc2 p e hp)
    have l1 := r1 b hv
    obtain ⟨pl, v1, v2⟩ := r2 (by omega)
    have := hb.2 pl (VAL_ok v1)
    unfold BET at this
    omega
  | succ d ih =>
    intro c z ma h1 h2 hm
    obtain ⟨z, rfl⟩ : ∃ y, z = y + 1 := ⟨z - 1, by omega⟩
    obtain ⟨ma', m1, e1⟩ := step c z ma (by omega) hm
    have ne : ¬ RR (okC A (fun p => if p = k then (c : Int) else ch p)) o (A 7) P n = SM (A 7) P b := by
      intro e
      obtain ⟨r1, r2⟩ := RR_VAL (ok := okC A (fun p => if p = k then (c : Int) else ch p)) (o := o) (a := A 7) (n := n) (P := P) ho hin
      obtain ⟨pl, v1, v2⟩ := r2 (by omega)
      have hopt := hb.2 pl (VAL_ok v1)
      have key : ∀ p, p ≤ k → (pl p : Int) = if p = k then (c : Int) else b p := by
        intro p hp
        have := (v1.1 p (by omega)).2.2
        have this' : (if p = k then (c : Int) else ch p) = -1 ∨ (if p = k then (c : Int) else ch p) = pl p := this
        by_cases e : p = k
        · rw [if_pos e] at this' ⊢
          omega
        · rw [if_neg e, hc1 p (by omega)] at this'
          rw [if_neg e]
          omega
      have ear : EAR P pl b := by
        refine ⟨k, hk, ?_, ?_⟩
        · have := key k (Nat.le_refl _); rw [if_pos rfl] at this; omega
        · intro p' hp'
          have := key p' (by omega); rw [if_neg (by omega)] at this; omega
      rcases hopt with z | ⟨-, z⟩
      · omega
      · exact z ear
    rw [e1, if_neg ne]
    exact ih (c + 1) z ma' (by omega) (by omega) ⟨(c : Int), by omega, m1⟩
theorem x2_answer (hN : 100 ≤ N) (h : LA A s a t p q) (hw : WF A) (hn : (n : Int) = A 0 0) (hP : (P : Int) = A 6 0) (ho : ∀ j, j < P → o j < P) (hin : ∀ j k, j < P → k < P → o j = o k → j = k) (hrk : ∀ j, j < P → rkF (A 7) P (o j) = (j : Int)) (hor : ∀ p, p < P → o (rkF (A 7) P p).toNat = p) {ma : S2} : ((∀ pl, ¬ VAL (gdA A) o n P pl) → ∀ x : Int32, ∃ ma', f_X2_answer N ma s a t x = some (-9, ma')) ∧ (∀ b, OPT A o n P b → (∃ ma', f_X2_answer N ma s a t (-1) = some (iI (SM (A 7) P b), ma')) ∧ ∀ k : Nat, k < P → ∃ ma', f_X2_answer N ma s a t (iI k) = some (iI (b k), ma')) := by
  have w0 := hw.1
  have en : nev = 1000000 := rfl
  obtain ⟨m1, e1, h1⟩ := x2_prepare (N := N) (ma := ma) hN h hw hn hP ho hrk hor
  obtain ⟨m2, e2, h2⟩ := x2_leastSum (N := N) hN h hw hn hP ho h1
  have rb := RR_bd (ok := okC A (fun _ => -1)) (o := o) (a := A 7) P n
  obtain ⟨r1, r2⟩ := RR_VAL (ok := okC A (fun _ => -1)) (o := o) (a := A 7) (n := n) (P := P) ho hin
  constructor
  · intro hno x
    have : ¬ RR (okC A (fun _ => -1)) o (A 7) P n < nev := by
      intro z
      obtain ⟨pl, v1, -⟩ := r2 z
      exact hno pl (VAL_ok v1)
    refine ⟨m2, ?_⟩
    unfold f_X2_answer
    rw [e1, Option.bind_some, e2, Option.bind_some, if_neg (show ¬ iI (RR (okC A (fun _ => -1)) o (A 7) P n) < 1000000 from nlt_iI (b := 1000000) (by omega) (by omega) (by omega))]
  · intro b hb
    have sb := SM_lt (hw := hw) hn hP hb.1
    have hv : VAL (okC A (fun _ => -1)) o n P b := ⟨fun p hp => ⟨(hb.1.1 p hp).1, (hb.1.1 p hp).2, Or.inl rfl⟩, hb.1.2⟩
    have l1 := r1 b hv
    have eS : RR (okC A (fun _ => -1)) o (A 7) P n = SM (A 7) P b := by
      obtain ⟨pl, v1, v2⟩ := r2 (by omega)
      have := hb.2 pl (VAL_ok v1)
      unfold BET at this
      omega
    have ha : ∀ x : Int32, f_X2_answer N ma s a t x = if 0 ≤ x then (f_X2_answer_L29 N s a t x (iI (SM (A 7) P b)) (fun t4 => (if oob x 5 then none else (some (((t4 2) (ix x)), t4)))) N 0 m2) else (some (iI (SM (A 7) P b), m2)) := by
      intro x
      unfold f_X2_answer
      rw [e1, Option.bind_some, e2, Option.bind_some, eS, if_pos (show iI (SM (A 7) P b) < 1000000 from lt_iI (b := 1000000) (by omega) (by omega) (by omega))]
    constructor
    · exact ⟨m2, by rw [ha, if_neg (by decide)]⟩
    · intro k hk
      have loop : ∀ (d j z : Nat) (x : S2), j + d = k + 1 → d < z → MV A o n P x (fun p => if p < j then (b p : Int) else -1) → ∃ ma', f_X2_answer_L29 N s a t (iI k) (iI (SM (A 7) P b)) (fun t4 => (if oob (iI (k : Int)) 5 then none else (some (((t4 2) (ix (iI (k : Int)))), t4)))) z (iI j) x = some (iI (b k), ma') := by
        intro d
        induction d with
        | zero =>
          intro j z x g1 g2 g3
          obtain ⟨z, rfl⟩ : ∃ y, z = y + 1 := ⟨z - 1, by omega⟩
          refine ⟨x, ?_⟩
          rw [f_X2_answer_L29, if_pos (lt_iI (by omega) (by omega) (by omega)), if_neg (ob_nat (show k < 5 by omega) (by omega)), ix_nat (by omega), (g3.2.2 k hk).1]
          congr 3
          exact if_pos (by omega)
        | succ d ih =>
          intro j z x g1 g2 g3
          obtain ⟨z, rfl⟩ : ∃ y, z = y + 1 := ⟨z - 1, by omega⟩
          have hj : j < P := by omega
          have hbj := (hb.1.1 j hj).1
          obtain ⟨y, y1, y2⟩ := x2_first (N := N) hN h hw hn hP ho hin hb hj (ch := fun p => if p < j then (b p : Int) else -1) (fun p hp => if_pos hp) (fun p hp _ => if_neg (by omega)) (b j) 0 N x (by omega) (by omega) ⟨-1, by omega, by
            have : (fun p => if p = j then (-1 : Int) else (fun p => if p < j then (b p : Int) else -1) p) = (fun p => if p < j then (b p : Int) else -1) := by
              funext p
              by_cases e : p = j
              · rw [if_pos e, if_neg (by omega)]
              · rw [if_neg e]
            rw [this]; exact g3⟩
          have e3 : f_X2_firstCellBy N x s a (iI j) (iI (SM (A 7) P b)) = some (iI (b j), y) := y1
          have y3 := MV_set y2 (k := j) (v := (b j : Int)) (by omega)
          have e4 : (fun p => if p = j then (b j : Int) else (fun p => if p = j then (b j : Int) else (fun p => if p < j then (b p : Int) else -1) p) p) = (fun p => if p < j + 1 then (b p : Int) else -1) := by
            funext p
            by_cases e : p = j
            · rw [if_pos e, if_pos (by omega), e]
            · rw [if_neg e]
              show (if p = j then (b j : Int) else if p < j then (b p : Int) else -1) = _
              rw [if_neg e]
              by_cases e2 : p < j
              · rw [if_pos e2, if_pos (by omega)]
              · rw [if_neg e2, if_neg (by omega)]
          rw [e4] at y3
          obtain ⟨ma', g⟩ := ih (j + 1) z _ (by omega) (by omega) y3
          refine ⟨ma', ?_⟩
          rw [f_X2_answer_L29, if_neg (nlt_iI (by omega) (by omega) (by omega)), e3, Option.bind_some, if_neg (ob_nat (show j < 5 by omega) (by omega)), ix_nat (show j < 2147483648 by omega), iI_succ]
          exact g
      obtain ⟨ma', g⟩ := loop (k + 1) 0 N m2 (by omega) (by omega) (by
        have : (fun p => if p < 0 then (b p : Int) else -1) = (fun _ => -1) := by
          funext p; exact if_neg (by omega)
        rw [this]; exact h2)
      exact ⟨ma', by rw [ha, if_pos (by rw [iI_0le (by omega) (by omega)]; omega)]; exact g⟩
end PC34
