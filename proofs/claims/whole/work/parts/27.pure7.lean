-- ===== the model: sums over posts and trains =====
section PM7
variable {N : Nat} {A : AS} {sc : S1} {ar : S2} {m : Nat → Prop}
theorem x7_isKept (hN : 100 ≤ N) (h : MA A sc ar) (hw : WF A) (hg : sc 25 = 0) {t i : Nat} (ht : (t : Int) < A 9 0) (hi : (i : Int) < A 6 0) : f_X7_isKept N sc ar (iI t) (iI i) = some (bI (A 14 0 ≤ wP A mT t i)) := by
  have w0 := hw.1
  have hb : 0 ≤ wP A mT t i ∧ wP A mT t i ≤ 1920 := wA_bd hw ht
  unfold f_X7_isKept
  rw [x7_warnedOf hN h hw hg ht hi, Option.bind_some, h.1.2.2.2.2.1, itelt (by omega) (by omega) (by omega) (by omega), bI_decn]
  exact congrArg some (bI_iff (by omega))
theorem x7_isKeptByAll (hN : 100 ≤ N) (h : MA A sc ar) (hw : WF A) (hg : sc 25 = 0) {i : Nat} (hi : (i : Int) < A 6 0) : f_X7_isKeptByAll N sc ar (iI i) = some (bI (keepA A (A 7 i) (A 8 i))) := by
  have w0 := hw.1
  have e9 := h.1.2.2.2.1
  unfold f_X7_isKeptByAll
  have go := lp_any (F := fun n j => f_X7_isKeptByAll_L2 N sc ar (iI i) (fun _ => some 1) n (iI (j : Int))) (fin := some 1) (r := fun _ => some 0) (P := fun j => ¬ A 14 0 ≤ wP A mT j i) (n := (A 9 0).toNat)
    (by
      intro k
      rw [f_X7_isKeptByAll_L2, e9, if_pos (le_iI (by omega) (by omega) (by omega))])
    (by
      intro k j hj
      have e : f_X7_isKeptByAll_L2 N sc ar (iI i) (fun _ => some 1) (k + 1) (iI (j : Int)) = @ite _ (A 14 0 ≤ wP A mT j i) (Classical.propDecidable _) (f_X7_isKeptByAll_L2 N sc ar (iI i) (fun _ => some 1) k (iI ((j + 1 : Nat) : Int))) (some 0) := by
        rw [f_X7_isKeptByAll_L2, e9, if_neg (nle_iI (by omega) (by omega) (by omega)), x7_isKept hN h hw hg (by omega) hi, Option.bind_some, bI_ite, iI_succ]
      exact ⟨fun hp => by rw [e, cI_f hp], fun hp => by rw [e, cI_t (Classical.not_not.mp hp)]⟩)
    N 0 (by omega) (by omega)
  rcases go with ⟨j, -, j2, j3, -, e⟩ | ⟨j1, e⟩
  · refine (show _ = _ from e).trans ?_
    rw [bI_f]
    exact fun z => j3 (z j (by omega))
  · refine (show _ = _ from e).trans ?_
    rw [bI_t]
    exact fun t ht' => Classical.not_not.mp (j1 t (by omega) (by omega))
theorem x7_isSafe (hN : 100 ≤ N) (h : MA A sc ar) (hw : WF A) (hg : sc 25 = 0) : f_X7_isSafe N sc ar = some (bI (safeA A mT)) := by
  have w0 := hw.1
  have e6 := h.1.2.2.1
  unfold f_X7_isSafe
  have go := lp_any (F := fun n j => f_X7_isSafe_L2 N sc ar (fun _ => some 1) n (iI (j : Int))) (fin := some 1) (r := fun _ => some 0) (P := fun i => ¬ keepA A (A 7 i) (A 8 i)) (n := (A 6 0).toNat)
    (by
      intro k
      rw [f_X7_isSafe_L2, e6, if_pos (le_iI (by omega) (by omega) (by omega))])
    (by
      intro k i hi
      have e : f_X7_isSafe_L2 N sc ar (fun _ => some 1) (k + 1) (iI (i : Int)) = @ite _ (keepA A (A 7 i) (A 8 i)) (Classical.propDecidable _) (f_X7_isSafe_L2 N sc ar (fun _ => some 1) k (iI ((i + 1 : Nat) : Int))) (some 0) := by
        rw [f_X7_isSafe_L2, e6, if_neg (nle_iI (by omega) (by omega) (by omega)), x7_isKeptByAll hN h hw hg (by omega), Option.bind_some, bI_ite, iI_succ]
      exact ⟨fun hp => by rw [e, cI_f hp], fun hp => by rw [e, cI_t (Classical.not_not.mp hp)]⟩)
    N 0 (by omega) (by omega)
  rcases go with ⟨j, -, j2, j3, -, e⟩ | ⟨j1, e⟩
  · refine (show _ = _ from e).trans ?_
    rw [bI_f]
    exact fun z => j3 (z j (by omega))
  · refine (show _ = _ from e).trans ?_
    rw [bI_t]
    exact fun i hi => Classical.not_not.mp (j1 i (by omega) (by omega))
theorem x7_kept_row {β : Type} (hN : 100 ≤ N) (h : MA A sc ar) (hw : WF A) (hg : sc 25 = 0) {i : Nat} (hi : (i : Int) < A 6 0) {kx : Int32 → Option β} (acc : Int) : f_X7_keptMany_L14 N sc ar (iI i) kx N (iI acc) 0 = kx (iI (acc + keptRow A mT i (A 9 0).toNat)) := by
  have w0 := hw.1
  have e9 := h.1.2.2.2.1
  refine Eq.trans ?_ (lp_all (F := fun n j => f_X7_keptMany_L14 N sc ar (iI i) kx n (iI (acc + keptRow A mT i j)) (iI (j : Int))) (n := (A 9 0).toNat)
    (by
      intro k
      rw [f_X7_keptMany_L14, e9, if_pos (le_iI (by omega) (by omega) (by omega))])
    (by
      intro k j hj
      rw [f_X7_keptMany_L14, e9, if_neg (nle_iI (by omega) (by omega) (by omega)), x7_isKept hN h hw hg (by omega) hi, Option.bind_some, bI_ite, iI_succ]
      congr 1
      show _ = iI (acc + (keptRow A mT i j + if A 14 0 ≤ wP A mT j i then 1 else 0))
      by_cases hc : A 14 0 ≤ wP A mT j i
      · rw [cI_t hc, if_pos hc, iI_1s, Int.add_assoc]
      · rw [cI_f hc, if_neg hc, iI_z, iI_add, Int.add_assoc])
    N 0 (by omega) (by omega))
  show _ = f_X7_keptMany_L14 N sc ar (iI i) kx N (iI (acc + 0)) (iI ((0 : Nat) : Int))
  rw [Int.add_zero]
  rfl
theorem x7_keptMany (hN : 100 ≤ N) (h : MA A sc ar) (hw : WF A) (hg : sc 25 = 0) : f_X7_keptMany N sc ar = some (iI (keptA A mT)) := by
  have w0 := hw.1
  have e6 := h.1.2.2.1
  unfold f_X7_keptMany
  exact lp_all (F := fun n i => f_X7_keptMany_L4 N sc ar (fun x => some x) n (iI (sumF (fun i => keptRow A mT i (A 9 0).toNat) i)) (iI (i : Int))) (n := (A 6 0).toNat)
    (by
      intro k
      rw [f_X7_keptMany_L4, e6, if_pos (le_iI (by omega) (by omega) (by omega))]
      rfl)
    (by
      intro k i hi
      rw [f_X7_keptMany_L4, e6, if_neg (nle_iI (by omega) (by omega) (by omega)), x7_kept_row hN h hw hg (by omega), iI_succ]
      rfl)
    N 0 (by omega) (by omega)
theorem x7_all_row {β : Type} (hN : 100 ≤ N) (h : MA A sc ar) (hw : WF A) (hg : sc 25 = 0) {i : Nat} (hi : (i : Int) < A 6 0) {kx : Int32 → Option β} (acc : Int) : f_X7_warnedAll_L14 N sc ar (iI i) kx N (iI acc) 0 = kx (iI (acc + allRow A mT i (A 9 0).toNat)) := by
  have w0 := hw.1
  have e9 := h.1.2.2.2.1
  refine Eq.trans ?_ (lp_all (F := fun n j => f_X7_warnedAll_L14 N sc ar (iI i) kx n (iI (acc + allRow A mT i j)) (iI (j : Int))) (n := (A 9 0).toNat)
    (by
      intro k
      rw [f_X7_warnedAll_L14, e9, if_pos (le_iI (by omega) (by omega) (by omega))])
    (by
      intro k j hj
      rw [f_X7_warnedAll_L14, e9, if_neg (nle_iI (by omega) (by omega) (by omega)), x7_warnedOf hN h hw hg (by omega) hi, Option.bind_some, iI_add, iI_succ]
      congr 2
      show _ = (acc + (allRow A mT i j + _))
      rw [Int.add_assoc])
    N 0 (by omega) (by omega))
  show _ = f_X7_warnedAll_L14 N sc ar (iI i) kx N (iI (acc + 0)) (iI ((0 : Nat) : Int))
  rw [Int.add_zero]
  rfl
theorem x7_warnedAll (hN : 100 ≤ N) (h : MA A sc ar) (hw : WF A) (hg : sc 25 = 0) : f_X7_warnedAll N sc ar = some (iI (allA A mT)) := by
  have w0 := hw.1
  have e6 := h.1.2.2.1
  unfold f_X7_warnedAll
  exact lp_all (F := fun n i => f_X7_warnedAll_L4 N sc ar (fun x => some x) n (iI (sumF (fun i => allRow A mT i (A 9 0).toNat) i)) (iI (i : Int))) (n := (A 6 0).toNat)
    (by
      intro k
      rw [f_X7_warnedAll_L4, e6, if_pos (le_iI (by omega) (by omega) (by omega))]
      rfl)
    (by
      intro k i hi
      rw [f_X7_warnedAll_L4, e6, if_neg (nle_iI (by omega) (by omega) (by omega)), x7_all_row hN h hw hg (by omega), iI_succ]
      rfl)
    N 0 (by omega) (by omega)
theorem x7_seenFrom (hN : 100 ≤ N) (h : MA A sc ar) (hw : WF A) (hg : sc 25 = 0) {t : Nat} (ht : (t : Int) < A 9 0) {c : Int} (hc : 0 ≤ c ∧ c < A 0 0) : f_X7_seenFrom N sc ar (iI t) (iI c) = some (iI (seenA A (eyeA (A 10 t) (A 11 t)) (A 13 t) c)) := by
  have w0 := hw.1
  have e6 := h.1.2.2.1
  have hgm : MG (sc 25) mT (A 2 0) := by rw [hg]; exact MG_0 (by omega)
  unfold f_X7_seenFrom
  exact lp_all (F := fun n i => f_X7_seenFrom_L5 N sc ar (iI t) (iI c) (fun x => some x) n (iI (sumF (fun i => @ite _ (seesA (A 1) (BR A mT) (eyeA (A 10 t) (A 11 t)) (A 13 t) (A 7 i) (A 8 i) c) (Classical.propDecidable _) 1 0) i)) (iI (i : Int))) (n := (A 6 0).toNat)
    (by
      intro k
      rw [f_X7_seenFrom_L5, e6, if_pos (le_iI (by omega) (by omega) (by omega))]
      rfl)
    (by
      intro k' i hi
      rw [f_X7_seenFrom_L5, e6, if_neg (nle_iI (by omega) (by omega) (by omega)), x7_isSeen hN h hw hgm ht (by omega) hc, Option.bind_some, iI_succ, bI_ite, sumF]
      congr 1
      by_cases hx : seesA (A 1) (BR A mT) (eyeA (A 10 t) (A 11 t)) (A 13 t) (A 7 i) (A 8 i) c
      · rw [cI_t hx, cI_t hx, iI_1s]
      · rw [cI_f hx, cI_f hx, iI_z, iI_add])
    N 0 (by omega) (by omega)
end PM7
