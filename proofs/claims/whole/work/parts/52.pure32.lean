-- ===== ways in which posts may stand: sums, order, least =====
def nev : Int := 1000000
def aD (x y : Int) : Int := if 0 ≤ x - y then x - y else 0 - (x - y)
theorem aD_bd {x y : Int} (h1 : 0 ≤ x ∧ x ≤ 24) (h2 : 0 ≤ y ∧ y ≤ 24) : 0 ≤ aD x y ∧ aD x y ≤ 24 := by unfold aD; split <;> omega
theorem aD_nn (x y : Int) : 0 ≤ aD x y := by unfold aD; split <;> omega
theorem sumF_up {f : Nat → Int} {m n : Nat} {v : Int} (h : m < n) : sumF (fun k => if k = m then v else f k) n = sumF f n - f m + v := by
  induction n with
  | zero => omega
  | succ n ih =>
    rw [sumF, sumF]
    by_cases c : m = n
    · subst c
      rw [if_pos rfl]
      have : sumF (fun k => if k = m then v else f k) m = sumF f m := sumF_cg (fun i hi => if_neg (by omega))
      rw [this]; omega
    · rw [ih (by omega), if_neg (by omega)]; omega
theorem perm_sum : ∀ (n : Nat) (f : Nat → Int) (o : Nat → Nat), (∀ j, j < n → o j < n) → (∀ j k, j < n → k < n → o j = o k → j = k) → sumF (fun j => f (o j)) n = sumF f n := by
  intro n
  induction n with
  | zero => intro f o _ _; rfl
  | succ n ih =>
    intro f o h1 h2
    rw [sumF, sumF]
    by_cases c : o n = n
    · rw [ih f o (fun j hj => by
        have a := h1 j (by omega)
        have b : o j ≠ n := fun e => by have := h2 j n (by omega) (by omega) (e.trans c.symm); omega
        omega) (fun j k hj hk => h2 j k (by omega) (by omega)), c]
    · have hm : o n < n := by have := h1 n (by omega); omega
      have ne : ∀ j, j < n → o j ≠ o n := fun j hj e => by have := h2 j n (by omega) (by omega) e; omega
      have e1 : sumF (fun j => f (o j)) n = sumF (fun j => (fun k => if k = o n then f n else f k) ((fun j => if o j = n then o n else o j) j)) n := sumF_cg (fun j hj => by
        show f (o j) = if (if o j = n then o n else o j) = o n then f n else f (if o j = n then o n else o j)
        by_cases z : o j = n
        · rw [if_pos z, if_pos rfl, z]
        · rw [if_neg z, if_neg (ne j hj)])
      rw [e1, ih (fun k => if k = o n then f n else f k) (fun j => if o j = n then o n else o j) (fun j hj => by
        show (if o j = n then o n else o j) < n
        by_cases z : o j = n
        · rw [if_pos z]; exact hm
        · rw [if_neg z]; have := h1 j (by omega); omega) (fun j k hj hk e => by
        have e' : (if o j = n then o n else o j) = (if o k = n then o n else o k) := e
        by_cases z : o j = n
        · by_cases z2 : o k = n
          · exact h2 j k (by omega) (by omega) (z.trans z2.symm)
          · rw [if_pos z, if_neg z2] at e'
            exact absurd e'.symm (ne k hk)
        · by_cases z2 : o k = n
          · rw [if_neg z, if_pos z2] at e'
            exact absurd e' (ne j hj)
          · rw [if_neg z, if_neg z2] at e'
            exact h2 j k (by omega) (by omega) e'), sumF_up hm]
      omega
theorem surj_n : ∀ (n : Nat) (f : Nat → Nat), (∀ j, j < n → f j < n) → (∀ j k, j < n → k < n → f j = f k → j = k) → ∀ j, j < n → ∃ i, i < n ∧ f i = j := by
  intro n
  induction n with
  | zero => intro f _ _ j hj; omega
  | succ n ih =>
    intro f h1 h2 j hj
    by_cases c0 : j = f n
    · exact ⟨n, by omega, c0.symm⟩
    by_cases c : f n = n
    · obtain ⟨i, a, b⟩ := ih f (fun j hj => by
        have a := h1 j (by omega)
        have b : f j ≠ n := fun e => by have := h2 j n (by omega) (by omega) (e.trans c.symm); omega
        omega) (fun j k hj hk => h2 j k (by omega) (by omega)) j (by omega)
      exact ⟨i, by omega, b⟩
    · have hm : f n < n := by have := h1 n (by omega); omega
      have ne : ∀ j, j < n → f j ≠ f n := fun j hj e => by have := h2 j n (by omega) (by omega) e; omega
      have ih' := ih (fun j => if f j = n then f n else f j) (fun j hj => by
        show (if f j = n then f n else f j) < n
        by_cases z : f j = n
        · rw [if_pos z]; exact hm
        · rw [if_neg z]; have := h1 j (by omega); omega) (fun j k hj hk e => by
        have e' : (if f j = n then f n else f j) = (if f k = n then f n else f k) := e
        by_cases z : f j = n
        · by_cases z2 : f k = n
          · exact h2 j k (by omega) (by omega) (z.trans z2.symm)
          · rw [if_pos z, if_neg z2] at e'
            exact absurd e'.symm (ne k hk)
        · by_cases z2 : f k = n
          · rw [if_neg z, if_pos z2] at e'
            exact absurd e' (ne j hj)
          · rw [if_neg z, if_neg z2] at e'
            exact h2 j k (by omega) (by omega) e')
      by_cases cn : j = n
      · obtain ⟨i, a, b⟩ := ih' (f n) hm
        have b' : (if f i = n then f n else f i) = f n := b
        by_cases z : f i = n
        · exact ⟨i, by omega, z.trans cn.symm⟩
        · rw [if_neg z] at b'
          exact absurd b' (ne i a)
      · obtain ⟨i, a, b⟩ := ih' j (by omega)
        have b' : (if f i = n then f n else f i) = j := b
        by_cases z : f i = n
        · rw [if_pos z] at b'
          exact absurd b'.symm c0
        · rw [if_neg z] at b'
          exact ⟨i, by omega, b'⟩
theorem sumF_lt {f g : Nat → Int} {n p : Nat} (h : ∀ i, i < n → f i ≤ g i) (hp : p < n) (h2 : f p < g p) : sumF f n < sumF g n := by
  have le : ∀ m, m ≤ n → sumF f m ≤ sumF g m := by
    intro m
    induction m with
    | zero => intro _; exact Int.le_refl _
    | succ m ih => intro hm; rw [sumF, sumF]; have := ih (by omega); have := h m (by omega); omega
  induction n with
  | zero => omega
  | succ n ih =>
    rw [sumF, sumF]
    by_cases c : p = n
    · subst c; have := le p (by omega); omega
    · have := ih (fun i hi => h i (by omega)) (by omega) (fun m hm => le m (by omega))
      have := h n (by omega)
      omega
/-- the rank of post p along the line -/
def rkF (a : Nat → Int) (P p : Nat) : Int := sumF (fun q => if a q < a p then 1 else 0) P
theorem rkF_lt {a : Nat → Int} {P p q : Nat} (hp : p < P) (h : a p < a q) : rkF a P p < rkF a P q := by
  unfold rkF
  refine sumF_lt (p := p) (fun i _ => ?_) hp ?_
  · show (if a i < a p then (1 : Int) else 0) ≤ if a i < a q then 1 else 0
    by_cases c : a i < a p
    · rw [if_pos c, if_pos (by omega)]; omega
    · rw [if_neg c]; split <;> omega
  · show (if a p < a p then (1 : Int) else 0) < if a p < a q then 1 else 0
    rw [if_neg (by omega), if_pos h]; omega
theorem rkF_bd {a : Nat → Int} {P p : Nat} (hp : p < P) : 0 ≤ rkF a P p ∧ rkF a P p < P := by
  have h1 := sumF_bd (f := fun q => if a q < a p then (1 : Int) else 0) (n := P) (b := 1) (fun i _ => by
    show 0 ≤ (if a i < a p then (1 : Int) else 0) ∧ (if a i < a p then (1 : Int) else 0) ≤ 1
    split <;> omega)
  have h2 := sumF_lt (f := fun q => if a q < a p then (1 : Int) else 0) (g := fun _ => 1) (n := P) (p := p) (fun i _ => by
    show (if a i < a p then (1 : Int) else 0) ≤ 1
    split <;> omega) hp (by
    show (if a p < a p then (1 : Int) else 0) < 1
    rw [if_neg (by omega)]; omega)
  have h3 : sumF (fun _ => (1 : Int)) P = P := by
    clear h1 h2 hp
    induction P with
    | zero => rfl
    | succ P ih => rw [sumF, ih]; omega
  unfold rkF
  omega
/-- the order along the line: a rank for each post -/
theorem ord_ex {a : Nat → Int} {P : Nat} (hu : ∀ i j, i < P → j < P → a i = a j → i = j) : ∃ o : Nat → Nat, (∀ j, j < P → o j < P) ∧ (∀ j k, j < P → k < P → o j = o k → j = k) ∧ (∀ j, j < P → rkF a P (o j) = (j : Int)) ∧ (∀ p, p < P → o (rkF a P p).toNat = p) := by
  have hin : ∀ j k, j < P → k < P → (rkF a P j).toNat = (rkF a P k).toNat → j = k := by
    intro j k hj hk e
    have b1 := rkF_bd (a := a) hj
    have b2 := rkF_bd (a := a) hk
    rcases Int.lt_trichotomy (a j) (a k) with c | c | c
    · have := rkF_lt (q := k) hj c; omega
    · exact hu j k hj hk c
    · have := rkF_lt (q := j) hk c; omega
  have hs := surj_n P (fun p => (rkF a P p).toNat) (fun j hj => by
    have := rkF_bd (a := a) hj
    show (rkF a P j).toNat < P
    omega) hin
  obtain ⟨o, ho⟩ := Classical.axiomOfChoice (r := fun (j i : Nat) => j < P → i < P ∧ (rkF a P i).toNat = j) (fun j => by
    by_cases c : j < P
    · obtain ⟨i, h1, h2⟩ := hs j c
      exact ⟨i, fun _ => ⟨h1, h2⟩⟩
    · exact ⟨0, fun z => absurd z c⟩)
  refine ⟨o, fun j hj => (ho j hj).1, ?_, ?_, ?_⟩
  · intro j k hj hk e
    rw [← (ho j hj).2, ← (ho k hk).2, e]
  · intro j hj
    have := rkF_bd (a := a) (ho j hj).1
    have := (ho j hj).2
    omega
  · intro p hp
    have b := rkF_bd (a := a) hp
    have := ho (rkF a P p).toNat (by omega)
    exact hin _ _ this.1 hp this.2
noncomputable def Rrow (prev : Nat → Int) (okc : Nat → Prop) (a : Int) : Nat → Int
  | 0 => nev
  | c + 1 => @ite _ (okc c) (Classical.propDecidable _) (if prev c + aD c a < Rrow prev okc a c then prev c + aD c a else Rrow prev okc a c) (Rrow prev okc a c)
noncomputable def RR (ok : Nat → Nat → Prop) (o : Nat → Nat) (a : Nat → Int) : Nat → Nat → Int
  | 0 => fun _ => 0
  | i + 1 => Rrow (RR ok o a i) (ok (o i)) (a (o i))
theorem Rrow_s {prev : Nat → Int} {okc : Nat → Prop} {a : Int} {c : Nat} : Rrow prev okc a (c + 1) ≤ Rrow prev okc a c := by
  rw [Rrow]
  by_cases h : okc c
  · rw [cI_t h]; split <;> omega
  · rw [cI_f h]; exact Int.le_refl _
theorem Rrow_mono {prev : Nat → Int} {okc : Nat → Prop} {a : Int} {c d : Nat} : Rrow prev okc a (c + d) ≤ Rrow prev okc a c := by
  induction d with
  | zero => exact Int.le_refl _
  | succ d ih => exact Int.le_trans Rrow_s ih
theorem Rrow_ok {prev : Nat → Int} {okc : Nat → Prop} {a : Int} {c : Nat} (h : okc c) : Rrow prev okc a (c + 1) ≤ prev c + aD c a := by
  rw [Rrow, cI_t h]; split <;> omega
theorem Rrow_at {prev : Nat → Int} {okc : Nat → Prop} {a : Int} : ∀ c : Nat, Rrow prev okc a c < nev → ∃ x, x < c ∧ okc x ∧ Rrow prev okc a c = prev x + aD x a := by
  intro c
  induction c with
  | zero => intro h; rw [Rrow] at h; omega
  | succ c ih =>
    intro h
    rw [Rrow] at h ⊢
    by_cases k : okc c
    · rw [cI_t k] at h ⊢
      by_cases z : prev c + aD c a < Rrow prev okc a c
      · rw [if_pos z]; exact ⟨c, by omega, k, rfl⟩
      · rw [if_neg z] at h ⊢
        obtain ⟨x, h1, h2, h3⟩ := ih h
        exact ⟨x, by omega, h2, h3⟩
    · rw [cI_f k] at h ⊢
      obtain ⟨x, h1, h2, h3⟩ := ih h
      exact ⟨x, by omega, h2, h3⟩
theorem RR_bd {ok : Nat → Nat → Prop} {o : Nat → Nat} {a : Nat → Int} : ∀ i c, 0 ≤ RR ok o a i c ∧ RR ok o a i c ≤ nev := by
  intro i
  induction i with
  | zero => intro c; show (0 : Int) ≤ 0 ∧ (0 : Int) ≤ nev; unfold nev; omega
  | succ i ih =>
    intro c
    show 0 ≤ Rrow (RR ok o a i) (ok (o i)) (a (o i)) c ∧ Rrow (RR ok o a i) (ok (o i)) (a (o i)) c ≤ nev
    induction c with
    | zero => rw [Rrow]; unfold nev; omega
    | succ c ihc =>
      refine ⟨?_, Int.le_trans Rrow_s ihc.2⟩
      rw [Rrow]
      by_cases k : ok (o i) c
      · rw [cI_t k]
        have := (ih c).1
        have := aD_nn c (a (o i))
        split <;> omega
      · rw [cI_f k]; exact ihc.1
def INC (o : Nat → Nat) (pl : Nat → Nat) (i : Nat) : Prop := ∀ j, j + 1 < i → pl (o j) < pl (o (j + 1))
theorem INC_lt {o : Nat → Nat} {pl : Nat → Nat} {i : Nat} (h : INC o pl i) : ∀ (d j : Nat), j + d + 1 < i → pl (o j) < pl (o (j + d + 1)) := by
  intro d
  induction d with
  | zero => intro j hj; exact h j hj
  | succ d ih =>
    intro j hj
    have h1 := ih j (by omega)
    have h2 := h (j + d + 1) (by omega)
    have e : j + (d + 1) + 1 = j + d + 1 + 1 := by omega
    rw [e]; omega
theorem RR_lb {ok : Nat → Nat → Prop} {o : Nat → Nat} {a : Nat → Int} {pl : Nat → Nat} : ∀ i c, (∀ j, j < i → pl (o j) < c ∧ ok (o j) (pl (o j))) → INC o pl i → RR ok o a i c ≤ sumF (fun j => aD (pl (o j)) (a (o j))) i := by
  intro i
  induction i with
  | zero => intro c _ _; exact Int.le_refl _
  | succ i ih =>
    intro c h1 h2
    have hi := h1 i (by omega)
    have e : c = pl (o i) + 1 + (c - pl (o i) - 1) := by omega
    have b1 : Rrow (RR ok o a i) (ok (o i)) (a (o i)) c ≤ Rrow (RR ok o a i) (ok (o i)) (a (o i)) (pl (o i) + 1) := by
      have := Rrow_mono (prev := RR ok o a i) (okc := ok (o i)) (a := a (o i)) (c := pl (o i) + 1) (d := c - pl (o i) - 1)
      rw [← e] at this
      exact this
    have b2 := Rrow_ok (prev := RR ok o a i) (okc := ok (o i)) (a := a (o i)) hi.2
    have b3 := ih (pl (o i)) (fun j hj => by
      refine ⟨?_, (h1 j (by omega)).2⟩
      have := INC_lt h2 (i - j - 1) j (by omega)
      rw [show j + (i - j - 1) + 1 = i by omega] at this
      exact this) (fun j hj => h2 j (by omega))
    show Rrow (RR ok o a i) (ok (o i)) (a (o i)) c ≤ _
    rw [sumF]
    omega
theorem RR_at {ok : Nat → Nat → Prop} {o : Nat → Nat} {a : Nat → Int} {P : Nat} (hin : ∀ j k, j < P → k < P → o j = o k → j = k) : ∀ i c, i ≤ P → RR ok o a i c < nev → ∃ pl : Nat → Nat, (∀ j, j < i → pl (o j) < c ∧ ok (o j) (pl (o j))) ∧ INC o pl i ∧ sumF (fun j => aD (pl (o j)) (a (o j))) i = RR ok o a i c := by
  intro i
  induction i with
  | zero => intro c _ _; exact ⟨fun _ => 0, fun j hj => absurd hj (by omega), fun j hj => absurd hj (by omega), rfl⟩
  | succ i ih =>
    intro c hi h
    obtain ⟨x, h1, h2, h3⟩ := Rrow_at (prev := RR ok o a i) (okc := ok (o i)) (a := a (o i)) c h
    have hx : RR ok o a i x < nev := by
      have h' : Rrow (RR ok o a i) (ok (o i)) (a (o i)) c < nev := h
      have := aD_nn x (a (o i))
      omega
    obtain ⟨pl, g1, g2, g3⟩ := ih x (by omega) hx
    have ne : ∀ j, j < i → o j ≠ o i := fun j hj e => by have := hin j i (by omega) (by omega) e; omega
    refine ⟨fun p => if p = o i then x else pl p, ?_, ?_, ?_⟩
    · intro j hj
      show (if o j = o i then x else pl (o j)) < c ∧ ok (o j) (if o j = o i then x else pl (o j))
      by_cases e : j = i
      · subst e; rw [if_pos rfl]; exact ⟨h1, h2⟩
      · rw [if_neg (ne j (by omega))]
        have := g1 j (by omega)
        exact ⟨by omega, this.2⟩
    · intro j hj
      show (if o j = o i then x else pl (o j)) < (if o (j + 1) = o i then x else pl (o (j + 1)))
      rw [if_neg (ne j (by omega))]
      by_cases e : j + 1 = i
      · rw [e, if_pos rfl]; exact (g1 j (by omega)).1
      · rw [if_neg (ne (j + 1) (by omega))]; exact g2 j (by omega)
    · have e : sumF (fun j => aD (if o j = o i then x else pl (o j) : Nat) (a (o j))) i = sumF (fun j => aD (pl (o j)) (a (o j))) i := sumF_cg (fun j hj => by rw [if_neg (ne j hj)])
      show sumF (fun j => aD (if o j = o i then x else pl (o j) : Nat) (a (o j))) (i + 1) = Rrow (RR ok o a i) (ok (o i)) (a (o i)) c
      rw [sumF, e, g3, if_pos rfl, h3]
-- ----- whole ways -----
def VAL (ok : Nat → Nat → Prop) (o : Nat → Nat) (n P : Nat) (pl : Nat → Nat) : Prop := (∀ p, p < P → pl p < n ∧ ok p (pl p)) ∧ INC o pl P
def SM (a : Nat → Int) (P : Nat) (pl : Nat → Nat) : Int := sumF (fun p => aD (pl p) (a p)) P
def EAR (P : Nat) (x y : Nat → Nat) : Prop := ∃ p, p < P ∧ x p < y p ∧ ∀ p', p' < p → x p' = y p'
def BET (a : Nat → Int) (P : Nat) (b pl : Nat → Nat) : Prop := SM a P b < SM a P pl ∨ (SM a P b = SM a P pl ∧ ¬ EAR P pl b)
theorem EAR_self {P : Nat} {x : Nat → Nat} : ¬ EAR P x x := by rintro ⟨p, -, h, -⟩; omega
theorem EAR_trans {P : Nat} {x y z : Nat → Nat} (h : EAR P x y) (g : EAR P y z) : EAR P x z := by
  obtain ⟨p, h1, h2, h3⟩ := h
  obtain ⟨q, g1, g2, g3⟩ := g
  rcases Nat.lt_trichotomy p q with c | c | c
  · exact ⟨p, h1, by rw [← g3 p c]; exact h2, fun p' hp => by rw [h3 p' hp, g3 p' (by omega)]⟩
  · subst c; exact ⟨p, h1, by omega, fun p' hp => by rw [h3 p' hp, g3 p' hp]⟩
  · exact ⟨q, g1, by rw [h3 q c]; exact g2, fun p' hp => by rw [h3 p' (by omega), g3 p' hp]⟩
theorem EAR_cg {P : Nat} {x x' y y' : Nat → Nat} (hx : ∀ p, p < P → x p = x' p) (hy : ∀ p, p < P → y p = y' p) (h : EAR P x y) : EAR P x' y' := by
  obtain ⟨p, h1, h2, h3⟩ := h
  exact ⟨p, h1, by rw [← hx p h1, ← hy p h1]; exact h2, fun p' hp => by rw [← hx p' (by omega), ← hy p' (by omega)]; exact h3 p' hp⟩
theorem SM_cg {a : Nat → Int} {P : Nat} {x x' : Nat → Nat} (hx : ∀ p, p < P → x p = x' p) : SM a P x = SM a P x' := sumF_cg (fun p hp => by rw [hx p hp])
theorem SM_bd {a : Nat → Int} {P : Nat} {x : Nat → Nat} (ha : ∀ p, p < P → 0 ≤ a p ∧ a p ≤ 24) (hx : ∀ p, p < P → x p < 24) : 0 ≤ SM a P x ∧ SM a P x ≤ P * 24 := sumF_bd (fun p hp => aD_bd (by have := hx p hp; omega) (ha p hp))
/-- the least sum by rows is the least of all ways -/
theorem RR_VAL {ok : Nat → Nat → Prop} {o : Nat → Nat} {a : Nat → Int} {n P : Nat} (ho : ∀ j, j < P → o j < P) (hin : ∀ j k, j < P → k < P → o j = o k → j = k) : (∀ pl, VAL ok o n P pl → RR ok o a P n ≤ SM a P pl) ∧ (RR ok o a P n < nev → ∃ pl, VAL ok o n P pl ∧ SM a P pl = RR ok o a P n) := by
  constructor
  · intro pl h
    have := RR_lb (a := a) P n (fun j hj => h.1 (o j) (ho j hj)) h.2
    rw [perm_sum P (fun p => aD (pl p) (a p)) o ho hin] at this
    exact this
  · intro h
    obtain ⟨pl, g1, g2, g3⟩ := RR_at hin P n (Nat.le_refl _) h
    rw [perm_sum P (fun p => aD (pl p) (a p)) o ho hin] at g3
    refine ⟨pl, ⟨fun p hp => ?_, g2⟩, g3⟩
    obtain ⟨j, hj, e⟩ := surj_n P o ho hin p hp
    have := g1 j hj
    rw [e] at this
    exact this
