-- ===== the class: sums over posts and trains =====
def mT : Nat → Prop := fun _ => True
noncomputable def wA (A : AS) (m : Nat → Prop) (t : Nat) (mark h : Int) : Int := warnG (A 1) (A 0 0) (BR A m) (BD A m) (A 10 t) (A 11 t) (A 12 t) (A 13 t) mark h
noncomputable def wP (A : AS) (m : Nat → Prop) (t i : Nat) : Int := wA A m t (A 7 i) (A 8 i)
def keepA (A : AS) (mark h : Int) : Prop := ∀ t : Nat, (t : Int) < A 9 0 → A 14 0 ≤ wA A mT t mark h
def safeA (A : AS) (m : Nat → Prop) : Prop := ∀ i : Nat, (i : Int) < A 6 0 → ∀ t : Nat, (t : Int) < A 9 0 → A 14 0 ≤ wP A m t i
noncomputable def keptRow (A : AS) (m : Nat → Prop) (i n : Nat) : Int := sumF (fun t => if A 14 0 ≤ wP A m t i then 1 else 0) n
noncomputable def keptA (A : AS) (m : Nat → Prop) : Int := sumF (fun i => keptRow A m i (A 9 0).toNat) (A 6 0).toNat
noncomputable def allRow (A : AS) (m : Nat → Prop) (i n : Nat) : Int := sumF (fun t => wP A m t i) n
noncomputable def allA (A : AS) (m : Nat → Prop) : Int := sumF (fun i => allRow A m i (A 9 0).toNat) (A 6 0).toNat
noncomputable def seenA (A : AS) (e w c : Int) : Int := sumF (fun i => @ite _ (seesA (A 1) (BR A mT) e w (A 7 i) (A 8 i) c) (Classical.propDecidable _) 1 0) (A 6 0).toNat
def mstA (g : Nat → Int) : Nat → Nat
  | 0 => 0
  | n + 1 => if g (mstA g n) < g n then n else mstA g n
noncomputable def bitsF (P : Nat → Prop) : Nat → Int32
  | 0 => 0
  | n + 1 => @ite _ (P n) (Classical.propDecidable _) (bitsF P n ||| ((1 : Int32) <<< (iI n &&& 31))) (bitsF P n)
theorem mstA_le (g : Nat → Int) (n : Nat) : mstA g n ≤ n - 1 := by
  induction n with
  | zero => exact Nat.le_refl 0
  | succ n ih => rw [mstA]; split <;> omega
theorem wA_bd {A : AS} (hw : WF A) {m : Nat → Prop} {t : Nat} (ht : (t : Int) < A 9 0) {mark h : Int} : 0 ≤ wA A m t mark h ∧ wA A m t mark h ≤ 1920 := by
  have hx := hw.2.2.2.2.1 t ht
  exact warnG_bd hw.2.1 (by omega) (by omega)
theorem keptRow_bd {A : AS} {m : Nat → Prop} (i n : Nat) : 0 ≤ keptRow A m i n ∧ keptRow A m i n ≤ n * 1 := sumF_bd (fun t _ => by split <;> omega)
theorem allRow_bd {A : AS} (hw : WF A) {m : Nat → Prop} (i n : Nat) (hn : (n : Int) ≤ A 9 0) : 0 ≤ allRow A m i n ∧ allRow A m i n ≤ n * 1920 := sumF_bd (fun t ht => wA_bd hw (by omega))
theorem seenA_bd {A : AS} {e w c : Int} : 0 ≤ seenA A e w c ∧ seenA A e w c ≤ (A 6 0).toNat * 1 := sumF_bd (fun t _ => by
  by_cases h : seesA (A 1) (BR A mT) e w (A 7 t) (A 8 t) c
  · rw [cI_t h]; omega
  · rw [cI_f h]; omega)
theorem MK_all {b : Int} (h : 0 ≤ b ∧ b ≤ 4) : MK (((1 : Int32) <<< (iI b &&& 31)) - 1) mT b := by
  intro i hi
  refine ⟨fun _ => trivial, fun _ => ?_⟩
  rcases (show b = 1 ∨ b = 2 ∨ b = 3 ∨ b = 4 by omega) with rfl | rfl | rfl | rfl
  · rcases (show i = 0 by omega) with rfl; decide
  · rcases (show i = 0 ∨ i = 1 by omega) with rfl | rfl <;> decide
  · rcases (show i = 0 ∨ i = 1 ∨ i = 2 by omega) with rfl | rfl | rfl <;> decide
  · rcases (show i = 0 ∨ i = 1 ∨ i = 2 ∨ i = 3 by omega) with rfl | rfl | rfl | rfl <;> decide
section PC5
variable {N : Nat} {A : AS} {s : S1} {a t : S2} {p : S1} {q : S2} {there : Int32} {m : Nat → Prop} {u : S1} {k f sl w : Int}
theorem x1_all (h : LA A s a t p q) (hw : WF A) : ∃ all, f_X1_allBridges N s = some all ∧ MK all mT (A 2 0) := by
  obtain ⟨⟨-, e2, -⟩, -⟩ := h
  refine ⟨_, rfl, ?_⟩
  rw [e2]
  exact MK_all (by have := hw.1; omega)
theorem x1_warningOf (hN : 100 ≤ N) (h : LA A s a t p q) (hw : WF A) (hm : MK there m (A 2 0)) (hu : TR u k f sl w) {i : Nat} (hi : (i : Int) < A 6 0) : f_X1_warningOf N u s a (iI i) there = some (iI (warnG (A 1) (A 0 0) (BR A m) (BD A m) k f sl w (A 7 i) (A 8 i))) := by
  have w0 := hw.1
  have wp := hw.2.2.2.1 i hi
  have ep := h.2.2.2.2.1 i hi
  have hob : ¬ oob (iI (i : Int)) 5 := ob_nat (by omega) (by omega)
  unfold f_X1_warningOf
  simp only [if_neg hob, ix_nat (show i < 2147483648 by omega), ep.1, ep.2]
  rw [x1_warningFor hN h hw hm hu (by omega) (by omega), Option.bind_some]
theorem x1_wP (hN : 100 ≤ N) (h : LA A s a t p q) (hw : WF A) (hm : MK there m (A 2 0)) {i j : Nat} (hi : (i : Int) < A 6 0) (hj : (j : Int) < A 9 0) : f_X1_warningOf N (t j) s a (iI i) there = some (iI (wP A m j i)) := x1_warningOf hN h hw hm (TR_of h hw hj) hi
theorem x1_keepsAll (hN : 100 ≤ N) (h : LA A s a t p q) (hw : WF A) {mark ht : Int} (hmk : 0 ≤ mark ∧ mark < A 0 0) (hht : 0 ≤ ht ∧ ht ≤ 60) : f_X1_keepsAll N s a t (iI mark) (iI ht) = some (bI (keepA A mark ht)) := by
  have w0 := hw.1
  obtain ⟨all, ea, hm⟩ := x1_all (N := N) h hw
  have e9 := h.1.2.2.2.1
  have e11 := h.1.2.2.2.2.1
  unfold f_X1_keepsAll
  have go := lp_any (F := fun n i => f_X1_keepsAll_L2 N s a t (iI mark) (iI ht) (fun _ => some 1) n (iI (i : Int))) (fin := some 1) (r := fun _ => some 0) (P := fun i => ¬ A 14 0 ≤ wA A mT i mark ht) (n := (A 9 0).toNat)
    (by
      intro k
      rw [f_X1_keepsAll_L2, e9, if_pos (le_iI (by omega) (by omega) (by omega))])
    (by
      intro k i hi
      have hb := wA_bd (m := mT) (mark := mark) (h := ht) hw (show (i : Int) < A 9 0 by omega)
      have e : f_X1_keepsAll_L2 N s a t (iI mark) (iI ht) (fun _ => some 1) (k + 1) (iI (i : Int)) = if A 14 0 ≤ wA A mT i mark ht then f_X1_keepsAll_L2 N s a t (iI mark) (iI ht) (fun _ => some 1) k (iI ((i + 1 : Nat) : Int)) else some 0 := by
        rw [f_X1_keepsAll_L2, e9, if_neg (nle_iI (by omega) (by omega) (by omega)), if_neg (ob_nat (by omega) (by omega)), ix_nat (by omega), ea, Option.bind_some, x1_warningFor hN h hw hm (TR_of h hw (by omega)) hmk hht, Option.bind_some, e11, iI_succ]
        rw [itele (by omega) (by omega) (by exact Int.le_trans (by omega) hb.1) (by exact Int.lt_of_le_of_lt hb.2 (by omega))]
        rfl
      exact ⟨fun hp => by rw [e, if_neg hp], fun hp => by rw [e, if_pos (Classical.not_not.mp hp)]⟩)
    N 0 (by omega) (by omega)
  rcases go with ⟨j, -, j2, j3, -, e⟩ | ⟨j1, e⟩
  · refine (show _ = _ from e).trans ?_
    rw [bI_f]
    exact fun z => j3 (z j (by omega))
  · refine (show _ = _ from e).trans ?_
    rw [bI_t]
    exact fun t ht' => Classical.not_not.mp (j1 t (by omega) (by omega))
theorem x1_safe_row (hN : 100 ≤ N) (h : LA A s a t p q) (hw : WF A) (hm : MK there m (A 2 0)) {i : Nat} (hi : (i : Int) < A 6 0) {kx : Unit → Option Int32} : f_X1_isSafe_L12 N s a t there (iI i) kx N 0 = @ite _ (∀ t : Nat, (t : Int) < A 9 0 → A 14 0 ≤ wP A m t i) (Classical.propDecidable _) (kx ()) (some 0) := by
  have w0 := hw.1
  have e9 := h.1.2.2.2.1
  have e11 := h.1.2.2.2.2.1
  have go := lp_any (F := fun n j => f_X1_isSafe_L12 N s a t there (iI i) kx n (iI (j : Int))) (fin := kx ()) (r := fun _ => some 0) (P := fun j => ¬ A 14 0 ≤ wP A m j i) (n := (A 9 0).toNat)
    (by
      intro k
      rw [f_X1_isSafe_L12, e9, if_pos (le_iI (by omega) (by omega) (by omega))])
    (by
      intro k j hj
      have hb : 0 ≤ wP A m j i ∧ wP A m j i ≤ 1920 := wA_bd hw (show (j : Int) < A 9 0 by omega)
      have e : f_X1_isSafe_L12 N s a t there (iI i) kx (k + 1) (iI (j : Int)) = if A 14 0 ≤ wP A m j i then f_X1_isSafe_L12 N s a t there (iI i) kx k (iI ((j + 1 : Nat) : Int)) else some 0 := by
        rw [f_X1_isSafe_L12, e9, if_neg (nle_iI (by omega) (by omega) (by omega)), if_neg (ob_nat (by omega) (by omega)), ix_nat (by omega), x1_wP hN h hw hm hi (by omega), Option.bind_some, e11, iI_succ, itele (by omega) (by omega) (by omega) (by omega)]
      exact ⟨fun hp => by rw [e, if_neg hp], fun hp => by rw [e, if_pos (Classical.not_not.mp hp)]⟩)
    N 0 (by omega) (by omega)
  rcases go with ⟨j, -, j2, j3, -, e⟩ | ⟨j1, e⟩
  · refine (show _ = _ from e).trans ?_
    rw [cI_f]
    exact fun z => j3 (z j (by omega))
  · refine (show _ = _ from e).trans ?_
    rw [cI_t]
    exact fun t ht' => Classical.not_not.mp (j1 t (by omega) (by omega))
theorem x1_isSafe (hN : 100 ≤ N) (h : LA A s a t p q) (hw : WF A) (hm : MK there m (A 2 0)) : f_X1_isSafe N s a t there = some (bI (safeA A m)) := by
  have w0 := hw.1
  have e6 := h.1.2.2.1
  unfold f_X1_isSafe
  have go := lp_any (F := fun n i => f_X1_isSafe_L2 N s a t there (fun _ => some 1) n (iI (i : Int))) (fin := some 1) (r := fun _ => some 0) (P := fun i => ¬ ∀ t : Nat, (t : Int) < A 9 0 → A 14 0 ≤ wP A m t i) (n := (A 6 0).toNat)
    (by
      intro k
      rw [f_X1_isSafe_L2, e6, if_pos (le_iI (by omega) (by omega) (by omega))])
    (by
      intro k i hi
      have e : f_X1_isSafe_L2 N s a t there (fun _ => some 1) (k + 1) (iI (i : Int)) = @ite _ (∀ t : Nat, (t : Int) < A 9 0 → A 14 0 ≤ wP A m t i) (Classical.propDecidable _) (f_X1_isSafe_L2 N s a t there (fun _ => some 1) k (iI ((i + 1 : Nat) : Int))) (some 0) := by
        rw [f_X1_isSafe_L2, e6, if_neg (nle_iI (by omega) (by omega) (by omega)), x1_safe_row hN h hw hm (by omega), iI_succ]
      exact ⟨fun hp => by rw [e, cI_f hp], fun hp => by rw [e, cI_t (Classical.not_not.mp hp)]⟩)
    N 0 (by omega) (by omega)
  rcases go with ⟨j, -, j2, j3, -, e⟩ | ⟨j1, e⟩
  · refine (show _ = _ from e).trans ?_
    rw [bI_f]
    exact fun z => j3 (z j (by omega))
  · refine (show _ = _ from e).trans ?_
    rw [bI_t]
    exact fun i hi => Classical.not_not.mp (j1 i (by omega) (by omega))
theorem x1_kept_row {β : Type} (hN : 100 ≤ N) (h : LA A s a t p q) (hw : WF A) (hm : MK there m (A 2 0)) {i : Nat} (hi : (i : Int) < A 6 0) {kx : Int32 → Option β} (acc : Int) : f_X1_keptPairs_L15 N s a t there (iI i) kx N (iI acc) 0 = kx (iI (acc + keptRow A m i (A 9 0).toNat)) := by
  have w0 := hw.1
  have e9 := h.1.2.2.2.1
  have e11 := h.1.2.2.2.2.1
  refine Eq.trans ?_ (lp_all (F := fun n j => f_X1_keptPairs_L15 N s a t there (iI i) kx n (iI (acc + keptRow A m i j)) (iI (j : Int))) (n := (A 9 0).toNat)
    (by
      intro k
      rw [f_X1_keptPairs_L15, e9, if_pos (le_iI (by omega) (by omega) (by omega))])
    (by
      intro k j hj
      have hb : 0 ≤ wP A m j i ∧ wP A m j i ≤ 1920 := wA_bd hw (show (j : Int) < A 9 0 by omega)
      rw [f_X1_keptPairs_L15, e9, if_neg (nle_iI (by omega) (by omega) (by omega)), if_neg (ob_nat (by omega) (by omega)), ix_nat (by omega), x1_wP hN h hw hm hi (by omega), Option.bind_some, e11, iI_succ, itelt (by omega) (by omega) (by omega) (by omega), iI_1s]
      congr 1
      show _ = iI (acc + (keptRow A m i j + if A 14 0 ≤ wP A m j i then 1 else 0))
      by_cases hc : wP A m j i < A 14 0
      · rw [if_pos hc, if_neg (by omega), Int.add_zero]
      · rw [if_neg hc, if_pos (by omega), Int.add_assoc])
    N 0 (by omega) (by omega))
  show _ = f_X1_keptPairs_L15 N s a t there (iI i) kx N (iI (acc + 0)) (iI ((0 : Nat) : Int))
  rw [Int.add_zero]
  rfl
theorem x1_keptPairs (hN : 100 ≤ N) (h : LA A s a t p q) (hw : WF A) (hm : MK there m (A 2 0)) : f_X1_keptPairs N s a t there = some (iI (keptA A m)) := by
  have w0 := hw.1
  have e6 := h.1.2.2.1
  unfold f_X1_keptPairs
  exact lp_all (F := fun n i => f_X1_keptPairs_L4 N s a t there (fun x => some x) n (iI (sumF (fun i => keptRow A m i (A 9 0).toNat) i)) (iI (i : Int))) (n := (A 6 0).toNat)
    (by
      intro k
      rw [f_X1_keptPairs_L4, e6, if_pos (le_iI (by omega) (by omega) (by omega))]
      rfl)
    (by
      intro k i hi
      rw [f_X1_keptPairs_L4, e6, if_neg (nle_iI (by omega) (by omega) (by omega)), x1_kept_row hN h hw hm (by omega), iI_succ]
      rfl)
    N 0 (by omega) (by omega)
theorem x1_all_row {β : Type} (hN : 100 ≤ N) (h : LA A s a t p q) (hw : WF A) {i : Nat} (hi : (i : Int) < A 6 0) {kx : Int32 → Option β} (acc : Int) : f_X1_allWarnings_L14 N s a t (iI i) kx N (iI acc) 0 = kx (iI (acc + allRow A mT i (A 9 0).toNat)) := by
  have w0 := hw.1
  have e9 := h.1.2.2.2.1
  obtain ⟨all, ea, hm⟩ := x1_all (N := N) h hw
  refine Eq.trans ?_ (lp_all (F := fun n j => f_X1_allWarnings_L14 N s a t (iI i) kx n (iI (acc + allRow A mT i j)) (iI (j : Int))) (n := (A 9 0).toNat)
    (by
      intro k
      rw [f_X1_allWarnings_L14, e9, if_pos (le_iI (by omega) (by omega) (by omega))])
    (by
      intro k j hj
      rw [f_X1_allWarnings_L14, e9, if_neg (nle_iI (by omega) (by omega) (by omega)), if_neg (ob_nat (by omega) (by omega)), ix_nat (by omega), ea, Option.bind_some, x1_wP hN h hw hm hi (by omega), Option.bind_some, iI_succ, iI_add]
      congr 2
      show _ = (acc + (allRow A mT i j + _))
      rw [Int.add_assoc])
    N 0 (by omega) (by omega))
  show _ = f_X1_allWarnings_L14 N s a t (iI i) kx N (iI (acc + 0)) (iI ((0 : Nat) : Int))
  rw [Int.add_zero]
  rfl
theorem x1_allWarnings (hN : 100 ≤ N) (h : LA A s a t p q) (hw : WF A) : f_X1_allWarnings N s a t = some (iI (allA A mT)) := by
  have w0 := hw.1
  have e6 := h.1.2.2.1
  unfold f_X1_allWarnings
  exact lp_all (F := fun n i => f_X1_allWarnings_L4 N s a t (fun x => some x) n (iI (sumF (fun i => allRow A mT i (A 9 0).toNat) i)) (iI (i : Int))) (n := (A 6 0).toNat)
    (by
      intro k
      rw [f_X1_allWarnings_L4, e6, if_pos (le_iI (by omega) (by omega) (by omega))]
      rfl)
    (by
      intro k i hi
      rw [f_X1_allWarnings_L4, e6, if_neg (nle_iI (by omega) (by omega) (by omega)), x1_all_row hN h hw (by omega), iI_succ]
      rfl)
    N 0 (by omega) (by omega)
theorem x1_postsSeen (hN : 100 ≤ N) (h : LA A s a t p q) (hw : WF A) (hu : TR u k f sl w) {c : Int} (hc : 0 ≤ c ∧ c < A 0 0) : f_X1_postsSeen N u s a (iI c) = some (iI (seenA A (eyeA k f) w c)) := by
  have w0 := hw.1
  have e6 := h.1.2.2.1
  obtain ⟨all, ea, hm⟩ := x1_all (N := N) h hw
  unfold f_X1_postsSeen
  exact lp_all (F := fun n i => f_X1_postsSeen_L5 N u s a (iI c) (fun x => some x) n (iI (sumF (fun i => @ite _ (seesA (A 1) (BR A mT) (eyeA k f) w (A 7 i) (A 8 i) c) (Classical.propDecidable _) 1 0) i)) (iI (i : Int))) (n := (A 6 0).toNat)
    (by
      intro k
      rw [f_X1_postsSeen_L5, e6, if_pos (le_iI (by omega) (by omega) (by omega))]
      rfl)
    (by
      intro k' i hi
      rw [f_X1_postsSeen_L5, e6, if_neg (nle_iI (by omega) (by omega) (by omega)), ea, Option.bind_some, x1_seesPost hN h hw hm hu (by omega) hc, Option.bind_some, iI_succ, iI_1s, bI_ite, sumF]
      congr 1
      by_cases hx : seesA (A 1) (BR A mT) (eyeA k f) w (A 7 i) (A 8 i) c
      · rw [cI_t hx, cI_t hx]
      · rw [cI_f hx, cI_f hx, Int.add_zero])
    N 0 (by omega) (by omega)
theorem x1_cellOfMost (hN : 100 ≤ N) (h : LA A s a t p q) (hw : WF A) (hu : TR u k f sl w) : f_X1_cellOfMost N u s a = some (iI (mstA (fun c => seenA A (eyeA k f) w c) (A 0 0).toNat : Int)) := by
  have w0 := hw.1
  have e0 := h.1.1
  unfold f_X1_cellOfMost
  exact lp_all (F := fun n i => f_X1_cellOfMost_L7 N u s a (fun x => some x) n (iI (mstA (fun c => seenA A (eyeA k f) w c) i : Int)) (iI (if i = 0 then -1 else seenA A (eyeA k f) w (mstA (fun c => seenA A (eyeA k f) w c) i : Int))) (iI (i : Int))) (n := (A 0 0).toNat)
    (by
      intro k
      rw [f_X1_cellOfMost_L7, e0, if_pos (le_iI (by omega) (by omega) (by omega))])
    (by
      intro k' i hi
      have b1 := seenA_bd (A := A) (e := eyeA k f) (w := w) (c := (i : Int))
      have b2 := seenA_bd (A := A) (e := eyeA k f) (w := w) (c := (mstA (fun c => seenA A (eyeA k f) w c) i : Int))
      rw [f_X1_cellOfMost_L7, e0, if_neg (nle_iI (by omega) (by omega) (by omega)), x1_postsSeen hN h hw hu (by omega), Option.bind_some, iI_succ, itele (by omega) (by omega) (by split <;> omega) (by split <;> omega), itele (by omega) (by omega) (by split <;> omega) (by split <;> omega)]
      rw [if_neg (show ¬ i + 1 = 0 by omega)]
      by_cases hz : i = 0
      · subst hz
        rw [if_pos rfl, if_neg (by omega), if_neg (by omega)]
        have e1 : mstA (fun c => seenA A (eyeA k f) w c) (0 + 1) = 0 := by rw [mstA]; exact if_neg (by show ¬ seenA A (eyeA k f) w ((0 : Nat) : Int) < seenA A (eyeA k f) w ((0 : Nat) : Int); omega)
        rw [e1]
      · rw [if_neg hz, mstA]
        by_cases hc : seenA A (eyeA k f) w (i : Int) ≤ seenA A (eyeA k f) w (mstA (fun c => seenA A (eyeA k f) w c) i : Int)
        · rw [if_pos hc, if_pos hc, if_neg (by omega)]
        · rw [if_neg hc, if_neg hc, if_pos (by omega)])
    N 0 (by omega) (by omega)
theorem x1_blindCells (hN : 100 ≤ N) (h : LA A s a t p q) (hw : WF A) (hu : TR u k f sl w) : f_X1_blindCells N u s a = some (bitsF (fun c => seenA A (eyeA k f) w c = 0) (A 0 0).toNat) := by
  have w0 := hw.1
  have e0 := h.1.1
  unfold f_X1_blindCells
  exact lp_all (F := fun n i => f_X1_blindCells_L4 N u s a (fun x => some x) n (bitsF (fun c => seenA A (eyeA k f) w c = 0) i) (iI (i : Int))) (n := (A 0 0).toNat)
    (by
      intro k
      rw [f_X1_blindCells_L4, e0, if_pos (le_iI (by omega) (by omega) (by omega))])
    (by
      intro k' i hi
      have b1 := seenA_bd (A := A) (e := eyeA k f) (w := w) (c := (i : Int))
      rw [f_X1_blindCells_L4, e0, if_neg (nle_iI (by omega) (by omega) (by omega)), x1_postsSeen hN h hw hu (by omega), Option.bind_some, iI_succ, iteeq0 (by omega) (by omega), bitsF]
      by_cases hc : seenA A (eyeA k f) w (i : Int) = 0
      · rw [if_pos hc, cI_t hc]
      · rw [if_neg hc, cI_f hc])
    N 0 (by omega) (by omega)
end PC5
