-- ===== worst, most, nearest, shadow, steepest =====
def wstp (w c : Int32) (st : Int32 × Int32) : Int32 × Int32 := ((if st.2 = -9 then w else (if st.1 ≤ w then st.1 else w)), (if st.2 = -9 then c else (if st.1 ≤ w then st.2 else c)))
noncomputable def wrow (A : AS) (i : Nat) (st : Int32 × Int32) : Nat → Int32 × Int32
  | 0 => st
  | j + 1 => wstp (iI (wP A mT j i)) (10 * iI i + iI j) (wrow A i st j)
noncomputable def wall (A : AS) : Nat → Int32 × Int32
  | 0 => (0, -9)
  | i + 1 => wrow A i (wall A i) (A 9 0).toNat
section PC16
variable {N : Nat} {A : AS} {s : S1} {a t : S2} {p : S1} {q : S2} {sc : S1} {ar : S2} {aX : S2}
theorem x6_worst_row {β : Type} (hN : 100 ≤ N) (h : LA A s a t p q) (hw : WF A) {i : Nat} (hi : (i : Int) < A 6 0) {kx : Int32 → Int32 → Option β} (st : Int32 × Int32) : f_X6_worst_L21 N s a t (iI i) kx N st.1 st.2 0 = kx (wrow A i st (A 9 0).toNat).1 (wrow A i st (A 9 0).toNat).2 := by
  have w0 := hw.1
  have e9 := h.1.2.2.2.1
  obtain ⟨all, ea, hm⟩ := x1_all (N := N) h hw
  exact lp_all (F := fun k j => f_X6_worst_L21 N s a t (iI i) kx k (wrow A i st j).1 (wrow A i st j).2 (iI (j : Int))) (n := (A 9 0).toNat)
    (by
      intro k
      rw [f_X6_worst_L21, e9, if_pos (le_iI (by omega) (by omega) (by omega))])
    (by
      intro k j hj
      rw [f_X6_worst_L21, e9, if_neg (nle_iI (by omega) (by omega) (by omega)), if_neg (ob_nat (by omega) (by omega)), ix_nat (by omega), ea, Option.bind_some, x1_wP hN h hw hm hi (by omega), Option.bind_some, iI_succ]
      rfl)
    N 0 (by omega) (by omega)
theorem x7_worst_row {β : Type} (hN : 100 ≤ N) (g : MA A sc ar) (hw : WF A) (hg : sc 25 = 0) {i : Nat} (hi : (i : Int) < A 6 0) {kx : Int32 → Int32 → Option β} (st : Int32 × Int32) : f_X7_worst_L18 N sc ar (iI i) kx N st.2 st.1 0 = kx (wrow A i st (A 9 0).toNat).2 (wrow A i st (A 9 0).toNat).1 := by
  have w0 := hw.1
  have e9 := g.1.2.2.2.1
  exact lp_all (F := fun k j => f_X7_worst_L18 N sc ar (iI i) kx k (wrow A i st j).2 (wrow A i st j).1 (iI (j : Int))) (n := (A 9 0).toNat)
    (by
      intro k
      rw [f_X7_worst_L18, e9, if_pos (le_iI (by omega) (by omega) (by omega))])
    (by
      intro k j hj
      rw [f_X7_worst_L18, e9, if_neg (nle_iI (by omega) (by omega) (by omega)), x7_warnedOf hN g hw hg (by omega) hi, Option.bind_some, iI_succ]
      rfl)
    N 0 (by omega) (by omega)
theorem q_worst (hN : 100 ≤ N) (h : LA A s a t p q) (g : MA A sc ar) (hw : WF A) (hg : sc 25 = 0) : ∃ r, f_X6_worst N s a t = some r ∧ f_X7_worst N sc ar = some r := by
  have w0 := hw.1
  have e6 := h.1.2.2.1
  have m6 := g.1.2.2.1
  refine ⟨(wall A (A 6 0).toNat).2, ?_, ?_⟩
  · unfold f_X6_worst
    exact lp_all (F := fun k i => f_X6_worst_L7 N s a t (fun x => some x) k (wall A i).1 (wall A i).2 (iI (i : Int))) (n := (A 6 0).toNat)
      (by
        intro k
        rw [f_X6_worst_L7, e6, if_pos (le_iI (by omega) (by omega) (by omega))])
      (by
        intro k i hi
        rw [f_X6_worst_L7, e6, if_neg (nle_iI (by omega) (by omega) (by omega)), x6_worst_row hN h hw (by omega), iI_succ]
        rfl)
      N 0 (by omega) (by omega)
  · unfold f_X7_worst
    exact lp_all (F := fun k i => f_X7_worst_L7 N sc ar (fun x => some x) k (wall A i).2 (wall A i).1 (iI (i : Int))) (n := (A 6 0).toNat)
      (by
        intro k
        rw [f_X7_worst_L7, m6, if_pos (le_iI (by omega) (by omega) (by omega))])
      (by
        intro k i hi
        rw [f_X7_worst_L7, m6, if_neg (nle_iI (by omega) (by omega) (by omega)), x7_worst_row hN g hw hg (by omega), iI_succ]
        rfl)
      N 0 (by omega) (by omega)
theorem x7_most_loop {β : Type} (hN : 100 ≤ N) (g : MA A sc ar) (hw : WF A) (hg : sc 25 = 0) {j : Nat} (hj : (j : Int) < A 9 0) {v2 : Int32} {kx : Int32 → Int32 → Option β} : f_X7_most_L38 N sc ar (iI j) v2 kx N 0 0 0 = kx (iI (mstA (fun c => seenA A (eyeA (A 10 j) (A 11 j)) (A 13 j) c) (A 0 0).toNat : Int)) (bitsF (fun c => seenA A (eyeA (A 10 j) (A 11 j)) (A 13 j) c = 0) (A 0 0).toNat) := by
  have w0 := hw.1
  have e0 := g.1.1
  exact lp_all (F := fun k i => f_X7_most_L38 N sc ar (iI j) v2 kx k (iI (mstA (fun c => seenA A (eyeA (A 10 j) (A 11 j)) (A 13 j) c) i : Int)) (bitsF (fun c => seenA A (eyeA (A 10 j) (A 11 j)) (A 13 j) c = 0) i) (iI (i : Int))) (n := (A 0 0).toNat)
    (by
      intro k
      rw [f_X7_most_L38, e0, if_pos (le_iI (by omega) (by omega) (by omega))])
    (by
      intro k i hi
      have hle := mstA_le (fun c => seenA A (eyeA (A 10 j) (A 11 j)) (A 13 j) c) i
      have b1 := seenA_bd (A := A) (e := eyeA (A 10 j) (A 11 j)) (w := A 13 j) (c := (i : Int))
      have b2 := seenA_bd (A := A) (e := eyeA (A 10 j) (A 11 j)) (w := A 13 j) (c := (mstA (fun c => seenA A (eyeA (A 10 j) (A 11 j)) (A 13 j) c) i : Int))
      rw [f_X7_most_L38, e0, if_neg (nle_iI (by omega) (by omega) (by omega)), x7_seenFrom hN g hw hg hj (by omega), Option.bind_some, x7_seenFrom hN g hw hg hj (by omega), Option.bind_some, Option.bind_some, itele (by omega) (by omega) (by omega) (by omega), iteeq0 (by omega) (by omega), iI_succ, mstA, bitsF]
      congr 1
      · by_cases c : seenA A (eyeA (A 10 j) (A 11 j)) (A 13 j) (i : Int) ≤ seenA A (eyeA (A 10 j) (A 11 j)) (A 13 j) (mstA (fun c => seenA A (eyeA (A 10 j) (A 11 j)) (A 13 j) c) i : Int)
        · rw [if_pos c, if_neg (by omega)]
        · rw [if_neg c, if_pos (by omega)]
      · by_cases c : seenA A (eyeA (A 10 j) (A 11 j)) (A 13 j) (i : Int) = 0
        · rw [if_pos c, cI_t c]
        · rw [if_neg c, cI_f c, Int32.or_zero])
    N 0 (by omega) (by omega)
theorem q_most (hN : 100 ≤ N) (h : LA A s a t p q) (g : MA A sc ar) (hw : WF A) (hg : sc 25 = 0) {x y : Int} (h1 : -2147483648 ≤ x ∧ x < 2147483648) (h2 : -2147483648 ≤ y ∧ y < 2147483648) : QRY id aX ar (f_X6_most N aX s a t (iI x) (iI y)) (f_X7_most N sc ar (iI x) (iI y)) := by
  have w0 := hw.1
  have i2 : f_X7_in N (iI y) 0 1 = some (bI (0 ≤ y ∧ y ≤ 1)) := x7_in (b := 0) (c := 1) h2.1 h2.2 (by omega) (by omega) (by omega) (by omega)
  unfold f_X6_most f_X7_most
  rw [x1_hasTrain h hw h1.1 h1.2, x7_isTrain g hw h1.1 h1.2, i2]
  simp only [x6_refused cod1, x7_no cod1, x6_refused cod2, x7_no cod2, Option.bind_some]
  by_cases c1 : 0 ≤ x ∧ x < A 9 0
  · rw [bI_t c1]
    obtain ⟨j, rfl⟩ : ∃ b : Nat, x = (b : Int) := ⟨x.toNat, by omega⟩
    have hob : ¬ oob (iI (j : Int)) 4 := ob_nat (by omega) (by omega)
    simp only [if_neg one_ne, if_neg hob, ix_nat (show j < 2147483648 by omega), x1_cellOfMost hN h hw (TR_of h hw c1.2), x1_blindCells hN h hw (TR_of h hw c1.2), Option.bind_some]
    rw [x7_most_loop hN g hw hg c1.2]
    by_cases c2 : 0 ≤ y ∧ y ≤ 1
    · rw [bI_t c2]
      rcases (show y = 0 ∨ y = 1 by omega) with rfl | rfl
      · exact Or.inl ⟨_, rfl, rfl⟩
      · exact Or.inl ⟨_, rfl, rfl⟩
    · rw [bI_f c2]
      have e0 : ¬ iI y = 0 := by rw [iI_eq0 (by omega) (by omega)]; omega
      have e1 : ¬ iI y = 1 := by show ¬ iI y = iI 1; rw [iI_eq (by omega) (by omega) (by omega) (by omega)]; omega
      simp only [if_neg e0, if_neg e1]
      exact Or.inr ⟨-2, cod2, rfl, rfl⟩
  · rw [bI_f c1]
    exact Or.inr ⟨-1, cod1, rfl, rfl⟩
/-- how far apart -/
def dst (x y : Int) : Int := if 0 ≤ x - y then x - y else 0 - (x - y)
theorem dst_I {x y : Int} (hx : 0 ≤ x ∧ x < 1000) (hy : 0 ≤ y ∧ y < 1000) : (if 0 ≤ iI x - iI y then iI x - iI y else 0 - (iI x - iI y)) = iI (dst x y) := by
  unfold dst
  rw [iI_sub, iI_z, iI_sub, itele (by omega) (by omega) (by omega) (by omega)]
  split <;> rfl
theorem dst_bd {x y n : Int} (hx : 0 ≤ x ∧ x < n) (hy : 0 ≤ y ∧ y < n) : 0 ≤ dst x y ∧ dst x y < n := by
  unfold dst
  split <;> omega
noncomputable def nrA (P : Nat → Prop) (d : Nat → Int) : Nat → Option Nat
  | 0 => none
  | i + 1 => @ite _ (P i) (Classical.propDecidable _) (match nrA P d i with
    | none => some i
    | some j => if d j ≤ d i then some j else some i) (nrA P d i)
theorem nrA_lt {P : Nat → Prop} {d : Nat → Int} : ∀ {i j : Nat}, nrA P d i = some j → j < i := by
  intro i
  induction i with
  | zero => intro j h; cases h
  | succ i ih =>
    intro j h
    rw [nrA] at h
    by_cases hp : P i
    · rw [cI_t hp] at h
      cases e : nrA P d i with
      | none => rw [e] at h; cases h; omega
      | some j' =>
        rw [e] at h
        have := ih e
        dsimp only at h
        split at h <;> cases h <;> omega
    · rw [cI_f hp] at h
      have := ih h
      omega
def enc : Option Nat → Int32
  | none => -9
  | some j => iI j
def lea (d : Nat → Int) : Option Nat → Int32
  | none => 24
  | some j => iI (d j)
theorem x6_nearest_loop {β : Type} (hN : 100 ≤ N) (h : LA A s a t p q) (hw : WF A) {j : Nat} (hj : (j : Int) < A 9 0) {c : Int} (hc : 0 ≤ c ∧ c < A 0 0) {kx : Int32 → Option β} : f_X6_nearest_L38 N aX s a t (iI j) (iI c) kx N 24 (-9) 0 = kx (enc (nrA (fun i => seesA (A 1) (BR A mT) (eyeA (A 10 j) (A 11 j)) (A 13 j) (A 7 i) (A 8 i) c) (fun i => dst (A 7 i) c) (A 6 0).toNat)) := by
  have w0 := hw.1
  have e6 := h.1.2.2.1
  obtain ⟨all, ea, hm⟩ := x1_all (N := N) h hw
  exact lp_all (F := fun k i => f_X6_nearest_L38 N aX s a t (iI j) (iI c) kx k (lea (fun i => dst (A 7 i) c) (nrA (fun i => seesA (A 1) (BR A mT) (eyeA (A 10 j) (A 11 j)) (A 13 j) (A 7 i) (A 8 i) c) (fun i => dst (A 7 i) c) i)) (enc (nrA (fun i => seesA (A 1) (BR A mT) (eyeA (A 10 j) (A 11 j)) (A 13 j) (A 7 i) (A 8 i) c) (fun i => dst (A 7 i) c) i)) (iI (i : Int))) (n := (A 6 0).toNat)
    (by
      intro k
      rw [f_X6_nearest_L38, e6, if_pos (le_iI (by omega) (by omega) (by omega))])
    (by
      intro k i hi
      have wp := hw.2.2.2.1 i (by omega)
      have hd := dst_bd (x := A 7 i) (y := c) (n := A 0 0) (by omega) (by omega)
      rw [f_X6_nearest_L38, e6, if_neg (nle_iI (by omega) (by omega) (by omega)), if_neg (ob_nat (by omega) (by omega)), if_neg (ob_nat (by omega) (by omega)), ix_nat (show i < 2147483648 by omega), ix_nat (show j < 2147483648 by omega), (h.2.2.2.2.1 i (by omega)).1, dst_I (by omega) (by omega), ea, Option.bind_some, x1_seesPost hN h hw hm (TR_of h hw hj) (by omega) hc, Option.bind_some, bI_ite, bI_ite, iI_succ]
      cases e : nrA (fun i => seesA (A 1) (BR A mT) (eyeA (A 10 j) (A 11 j)) (A 13 j) (A 7 i) (A 8 i) c) (fun i => dst (A 7 i) c) i with
      | none =>
        rw [nrA, e]
        rw [if_neg (show ¬ lea (fun i => dst (A 7 i) c) none ≤ iI (dst (A 7 i) c) from nle_iI (a := 24) (by omega) (by omega) (by omega)), Option.bind_some]
        by_cases hp : seesA (A 1) (BR A mT) (eyeA (A 10 j) (A 11 j)) (A 13 j) (A 7 i) (A 8 i) c
        · rw [cI_t hp, cI_t hp, cI_t hp]; rfl
        · rw [cI_f hp, cI_f hp, cI_f hp]
      | some j' =>
        have hlt := nrA_lt e
        have wp2 := hw.2.2.2.1 j' (by omega)
        have hd2 := dst_bd (x := A 7 j') (y := c) (n := A 0 0) (by omega) (by omega)
        rw [nrA, e]
        by_cases hcm : dst (A 7 j') c ≤ dst (A 7 i) c
        · rw [if_pos (show lea (fun i => dst (A 7 i) c) (some j') ≤ iI (dst (A 7 i) c) from le_iI (a := dst (A 7 j') c) hcm (by omega) (by omega)), Option.bind_some]
          by_cases hp : seesA (A 1) (BR A mT) (eyeA (A 10 j) (A 11 j)) (A 13 j) (A 7 i) (A 8 i) c
          · rw [cI_t hp]; dsimp only; rw [if_pos hcm]
          · rw [cI_f hp]
        · rw [if_neg (show ¬ lea (fun i => dst (A 7 i) c) (some j') ≤ iI (dst (A 7 i) c) from nle_iI (a := dst (A 7 j') c) (by omega) (by omega) (by omega)), Option.bind_some]
          by_cases hp : seesA (A 1) (BR A mT) (eyeA (A 10 j) (A 11 j)) (A 13 j) (A 7 i) (A 8 i) c
          · rw [cI_t hp, cI_t hp, cI_t hp]; dsimp only; rw [if_neg hcm]; rfl
          · rw [cI_f hp, cI_f hp, cI_f hp])
    N 0 (by omega) (by omega)
theorem x7_nearest_loop {β : Type} (hN : 100 ≤ N) (g : MA A sc ar) (hw : WF A) (hg : sc 25 = 0) {j : Nat} (hj : (j : Int) < A 9 0) {c : Int} (hc : 0 ≤ c ∧ c < A 0 0) {kx : Int32 → Option β} : f_X7_nearest_L28 N sc ar (iI j) (iI c) kx N (-9) 0 = kx (enc (nrA (fun i => seesA (A 1) (BR A mT) (eyeA (A 10 j) (A 11 j)) (A 13 j) (A 7 i) (A 8 i) c) (fun i => dst (A 7 i) c) (A 6 0).toNat)) := by
  have w0 := hw.1
  have e6 := g.1.2.2.1
  have hgm : MG (sc 25) mT (A 2 0) := by rw [hg]; exact MG_0 (by omega)
  exact lp_all (F := fun k i => f_X7_nearest_L28 N sc ar (iI j) (iI c) kx k (enc (nrA (fun i => seesA (A 1) (BR A mT) (eyeA (A 10 j) (A 11 j)) (A 13 j) (A 7 i) (A 8 i) c) (fun i => dst (A 7 i) c) i)) (iI (i : Int))) (n := (A 6 0).toNat)
    (by
      intro k
      rw [f_X7_nearest_L28, e6, if_pos (le_iI (by omega) (by omega) (by omega))])
    (by
      intro k i hi
      have wp := hw.2.2.2.1 i (by omega)
      have hd := dst_bd (x := A 7 i) (y := c) (n := A 0 0) (by omega) (by omega)
      rw [f_X7_nearest_L28, e6, if_neg (nle_iI (by omega) (by omega) (by omega)), x7_isSeen hN g hw hgm hj (by omega) hc, Option.bind_some, bI_ite, iI_succ, if_neg (ob_nat (show i < 5 by omega) (by omega)), ix_nat (show i < 2147483648 by omega), (g.2.2.2.1 i (by omega)).1, dst_I (by omega) (by omega), nrA]
      by_cases hp : seesA (A 1) (BR A mT) (eyeA (A 10 j) (A 11 j)) (A 13 j) (A 7 i) (A 8 i) c
      · rw [cI_t hp, cI_t hp]
        cases e : nrA (fun i => seesA (A 1) (BR A mT) (eyeA (A 10 j) (A 11 j)) (A 13 j) (A 7 i) (A 8 i) c) (fun i => dst (A 7 i) c) i with
        | none => rfl
        | some j' =>
          have hlt := nrA_lt e
          have wp2 := hw.2.2.2.1 j' (by omega)
          have hd2 := dst_bd (x := A 7 j') (y := c) (n := A 0 0) (by omega) (by omega)
          have n9 : ¬ iI (j' : Int) = -9 := by show ¬ iI (j' : Int) = iI (-9); rw [iI_eq (by omega) (by omega) (by omega) (by omega)]; omega
          rw [show enc (some j') = iI (j' : Int) from rfl, if_neg n9, if_neg (ob_nat (show j' < 5 by omega) (by omega)), ix_nat (show j' < 2147483648 by omega), (g.2.2.2.1 j' (by omega)).1, dst_I (by omega) (by omega), Option.bind_some, Option.bind_some, itele (by omega) (by omega) (by omega) (by omega)]
          by_cases hcm : dst (A 7 j') c ≤ dst (A 7 i) c
          · rw [if_pos hcm]; dsimp only; rw [if_pos hcm]; rfl
          · rw [if_neg hcm]; dsimp only; rw [if_neg hcm]; rfl
      · rw [cI_f hp, cI_f hp, Option.bind_some])
    N 0 (by omega) (by omega)
theorem q_nearest (hN : 100 ≤ N) (h : LA A s a t p q) (g : MA A sc ar) (hw : WF A) (hg : sc 25 = 0) {x y : Int} (h1 : -2147483648 ≤ x ∧ x < 2147483648) (h2 : -2147483648 ≤ y ∧ y < 2147483648) : QRY id aX ar (f_X6_nearest N aX s a t (iI x) (iI y)) (f_X7_nearest N sc ar (iI x) (iI y)) := by
  have w0 := hw.1
  unfold f_X6_nearest f_X7_nearest
  rw [x1_hasTrain h hw h1.1 h1.2, x7_isTrain g hw h1.1 h1.2, x1_hasCell h hw h2.1 h2.2, x7_isCell g hw h2.1 h2.2]
  simp only [x6_refused cod1, x7_no cod1, Option.bind_some]
  by_cases c1 : 0 ≤ x ∧ x < A 9 0
  · rw [bI_t c1]
    by_cases c2 : 0 ≤ y ∧ y < A 0 0
    · rw [bI_t c2]
      obtain ⟨j, rfl⟩ : ∃ b : Nat, x = (b : Int) := ⟨x.toNat, by omega⟩
      rw [x6_nearest_loop hN h hw c1.2 c2, x7_nearest_loop hN g hw hg c1.2 c2]
      exact Or.inl ⟨_, rfl, rfl⟩
    · rw [bI_f c2]
      exact Or.inr ⟨-1, cod1, rfl, rfl⟩
  · rw [bI_f c1]
    exact Or.inr ⟨-1, cod1, rfl, rfl⟩
end PC16
