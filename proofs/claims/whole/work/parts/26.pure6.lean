-- ===== the model: what trains see =====
/-- the mask of gone bridges leaves m -/
def MG (gone : Int32) (m : Nat → Prop) (b : Int) : Prop := ∀ i : Nat, (i : Int) < b → (((gone >>> (iI i &&& 31)) &&& 1) = 1 ↔ ¬ m i)
theorem MG_0 {b : Int} (h : b ≤ 4) : MG 0 mT b := by
  intro i hi
  refine ⟨fun z => ?_, fun z => absurd trivial z⟩
  exfalso
  rcases (show i = 0 ∨ i = 1 ∨ i = 2 ∨ i = 3 by omega) with rfl | rfl | rfl | rfl <;> exact absurd z (by decide)
theorem x7_in {N : Nat} {a b c : Int} (h1 : -2147483648 ≤ a) (h2 : a < 2147483648) (h3 : -2147483648 ≤ b) (h4 : b < 2147483648) (h5 : -2147483648 ≤ c) (h6 : c < 2147483648) : f_X7_in N (iI a) (iI b) (iI c) = some (bI (b ≤ a ∧ a ≤ c)) := by
  unfold f_X7_in
  rw [itelt h1 h2 h3 h4, itelt h5 h6 h1 h2, ← bI_dec]
  congr 1
  repeat' split
  all_goals first | rfl | (exfalso; omega)
section PM6
variable {N : Nat} {A : AS} {sc : S1} {ar : S2} {m : Nat → Prop}
theorem x7_isCell (h : MA A sc ar) (hw : WF A) {z : Int} (h1 : -2147483648 ≤ z) (h2 : z < 2147483648) : f_X7_isCell N sc (iI z) = some (bI (0 ≤ z ∧ z < A 0 0)) := by
  have w0 := hw.1
  unfold f_X7_isCell
  rw [h.1.1]
  show (f_X7_in N (iI z) (iI 0) (iI (A 0 0) - iI 1)).bind _ = _
  rw [iI_sub, x7_in h1 h2 (by omega) (by omega) (by omega) (by omega), Option.bind_some, bI_g]
  exact congrArg some (bI_iff (by omega))
theorem x7_isBridge (h : MA A sc ar) (hw : WF A) {z : Int} (h1 : -2147483648 ≤ z) (h2 : z < 2147483648) : f_X7_isBridge N sc (iI z) = some (bI (0 ≤ z ∧ z < A 2 0)) := by
  have w0 := hw.1
  unfold f_X7_isBridge
  rw [h.1.2.1]
  show (f_X7_in N (iI z) (iI 0) (iI (A 2 0) - iI 1)).bind _ = _
  rw [iI_sub, x7_in h1 h2 (by omega) (by omega) (by omega) (by omega), Option.bind_some, bI_g]
  exact congrArg some (bI_iff (by omega))
theorem x7_isPost (h : MA A sc ar) (hw : WF A) {z : Int} (h1 : -2147483648 ≤ z) (h2 : z < 2147483648) : f_X7_isPost N sc (iI z) = some (bI (0 ≤ z ∧ z < A 6 0)) := by
  have w0 := hw.1
  unfold f_X7_isPost
  rw [h.1.2.2.1]
  show (f_X7_in N (iI z) (iI 0) (iI (A 6 0) - iI 1)).bind _ = _
  rw [iI_sub, x7_in h1 h2 (by omega) (by omega) (by omega) (by omega), Option.bind_some, bI_g]
  exact congrArg some (bI_iff (by omega))
theorem x7_isTrain (h : MA A sc ar) (hw : WF A) {z : Int} (h1 : -2147483648 ≤ z) (h2 : z < 2147483648) : f_X7_isTrain N sc (iI z) = some (bI (0 ≤ z ∧ z < A 9 0)) := by
  have w0 := hw.1
  unfold f_X7_isTrain
  rw [h.1.2.2.2.1]
  show (f_X7_in N (iI z) (iI 0) (iI (A 9 0) - iI 1)).bind _ = _
  rw [iI_sub, x7_in h1 h2 (by omega) (by omega) (by omega) (by omega), Option.bind_some, bI_g]
  exact congrArg some (bI_iff (by omega))
theorem x7_eyeBy {k f : Int} (hk : 0 ≤ k ∧ k ≤ 5) : f_X7_eyeBy N (iI k) (iI f) = some (iI (eyeA k f)) := by
  unfold f_X7_eyeBy eyeA
  rcases (show k = 0 ∨ k = 1 ∨ k = 2 ∨ k = 3 ∨ k = 4 ∨ k = 5 by omega) with rfl | rfl | rfl | rfl | rfl | rfl
  · rfl
  · rfl
  · rfl
  · rfl
  · show some (iI 2 + iI f) = _
    rw [iI_add]; rfl
  · rfl
theorem x7_eye (h : MA A sc ar) (hw : WF A) {t : Nat} (ht : (t : Int) < A 9 0) : f_X7_eye N ar (iI t) = some (iI (eyeA (A 10 t) (A 11 t))) := by
  have w0 := hw.1
  have wt := hw.2.2.2.2.1 t ht
  have et := h.2.2.2.2.1 t ht
  have hob : ¬ oob (iI (t : Int)) 4 := ob_nat (by omega) (by omega)
  unfold f_X7_eye
  simp only [if_neg hob, ix_nat (show t < 2147483648 by omega), et.1, et.2.1]
  rw [x7_eyeBy (by omega), Option.bind_some]
theorem x7_isBridged (hN : 100 ≤ N) (h : MA A sc ar) (hw : WF A) {c : Int} (hc : 0 ≤ c ∧ c < A 0 0) : f_X7_isBridged N sc ar (iI c) = some (bI (BD A mT c)) := by
  have w0 := hw.1
  have e2 := h.1.2.1
  unfold f_X7_isBridged
  have h0 : (0 : Int32) = bI (∃ j : Nat, j < 0 ∧ A 3 j = c) := by rw [bI_f]; rintro ⟨j, x, -⟩; omega
  have go := lp_all (F := fun n i => f_X7_isBridged_L4 N sc ar (iI c) (fun x2_5 => (if x2_5 = 0 ∨ x2_5 = 1 then (some x2_5) else none)) n (bI (∃ j : Nat, j < i ∧ A 3 j = c)) (iI (i : Int))) (fin := some (bI (BD A mT c))) (n := (A 2 0).toNat)
    (by
      intro k
      rw [f_X7_isBridged_L4, e2, if_pos (le_iI (by omega) (by omega) (by omega)), bI_g]
      refine congrArg some (bI_iff ⟨?_, ?_⟩)
      · rintro ⟨j, x, y⟩; exact ⟨j, by omega, trivial, y⟩
      · rintro ⟨j, x, -, y⟩; exact ⟨j, by omega, y⟩)
    (by
      intro k i hi
      have eb := h.2.2.1 i (by omega)
      have wb := hw.2.2.1 i (by omega)
      rw [f_X7_isBridged_L4, e2, if_neg (nle_iI (by omega) (by omega) (by omega)), bI_ite, if_neg (ob_nat (by omega) (by omega)), ix_nat (by omega), eb.1, iteeq (by omega) (by omega) (by omega) (by omega), iI_succ, bI_dec]
      by_cases hx : ∃ j : Nat, j < i ∧ A 3 j = c
      · rw [cI_t hx, Option.bind_some]
        rw [bI_t (P := ∃ j : Nat, j < i + 1 ∧ A 3 j = c)]
        obtain ⟨j, x, y⟩ := hx
        exact ⟨j, by omega, y⟩
      · rw [cI_f hx, Option.bind_some]
        congr 1
        refine bI_iff ⟨fun z => ⟨i, by omega, z⟩, ?_⟩
        rintro ⟨j, x, y⟩
        rcases Nat.lt_or_ge j i with z | z
        · exact absurd ⟨j, z, y⟩ hx
        · rcases (show j = i by omega) with rfl; exact y)
    N 0 (by omega) (by omega)
  refine Eq.trans ?_ go
  show _ = f_X7_isBridged_L4 N sc ar (iI c) _ N (bI (∃ j : Nat, j < 0 ∧ A 3 j = c)) 0
  rw [← h0]
theorem x7_timeBy (hN : 100 ≤ N) (h : MA A sc ar) (hw : WF A) {k f sl w c : Int} (hk : 0 ≤ k ∧ k ≤ 5) (hs : 1 ≤ sl ∧ sl ≤ 9) (hww : 0 ≤ w ∧ w ≤ 1) (hc : 0 ≤ c ∧ c < A 0 0) : f_X7_timeBy N sc ar (iI k) (iI f) (iI sl) (iI w) (iI c) = some (iI (timA (A 1) (A 0 0) (BD A mT c) k f sl w c)) := by
  have w0 := hw.1
  have hst : stA w = 1 ∨ stA w = -1 := by unfold stA; split <;> simp
  have es : (if iI w = 0 then (1 : Int32) else -1) = iI (stA w) := by
    rw [iteeq0 (by omega) (by omega)]; unfold stA; split <;> rfl
  unfold f_X7_timeBy
  simp only [es, iI_add]
  rw [x7_isCell h hw (by omega) (by omega), Option.bind_some, bI_ite]
  have key : ∀ o : Option Int32, o = some (iI (riseA (A 1) (A 0 0) w c)) → (o.bind fun j4 => (if (2 : Int32) = 0 then none else (if iI k = 1 then (some (iI sl + j4)) else (if iI k = 2 then (some ((iI sl + 1) / 2)) else (if iI k = 3 then ((f_X7_isBridged N sc ar (iI c)).bind fun r7 => (some ((iI sl + j4) + (if r7 = 0 then 0 else iI f)))) else (if iI k = 4 then (some (if 1 < (((iI sl + 1) / 2) - 1) then (((iI sl + 1) / 2) - 1) else 1)) else (if iI k = 5 then (some (2 * (iI sl + j4))) else (some (iI sl))))))))) = some (iI (timA (A 1) (A 0 0) (BD A mT c) k f sl w c)) := by
    intro o ho
    subst ho
    rw [Option.bind_some, x7_isBridged hN h hw hc, Option.bind_some]
    unfold timA
    rcases (show k = 0 ∨ k = 1 ∨ k = 2 ∨ k = 3 ∨ k = 4 ∨ k = 5 by omega) with rfl | rfl | rfl | rfl | rfl | rfl
    · rfl
    · show some (iI sl + iI _) = _
      rw [iI_add]; rfl
    · rcases (show sl = 1 ∨ sl = 2 ∨ sl = 3 ∨ sl = 4 ∨ sl = 5 ∨ sl = 6 ∨ sl = 7 ∨ sl = 8 ∨ sl = 9 by omega) with rfl | rfl | rfl | rfl | rfl | rfl | rfl | rfl | rfl <;> rfl
    · show some (iI sl + iI _ + (if bI _ = 0 then 0 else iI f)) = _
      rw [bI_ite]
      by_cases hb : BD A mT c
      · rw [cI_t hb, cI_t hb, iI_add, iI_add]; rfl
      · rw [cI_f hb, cI_f hb, iI_z, iI_add, iI_add]; rfl
    · rcases (show sl = 1 ∨ sl = 2 ∨ sl = 3 ∨ sl = 4 ∨ sl = 5 ∨ sl = 6 ∨ sl = 7 ∨ sl = 8 ∨ sl = 9 by omega) with rfl | rfl | rfl | rfl | rfl | rfl | rfl | rfl | rfl <;> rfl
    · show some (iI 2 * (iI sl + iI _)) = _
      rw [iI_add, iI_mul]; rfl
  refine key _ ?_
  unfold riseA
  by_cases hin : 0 ≤ c + stA w ∧ c + stA w < A 0 0
  · have g1 := hw.2.1 (c + stA w).toNat (by omega)
    have g2 := hw.2.1 c.toNat (by omega)
    rw [cI_t hin, if_pos hin, if_neg (ob_int (by omega) (by omega) (by omega)), if_neg (ob_int (by omega) (by omega) (by omega))]
    rw [ix_iI (by omega) (by omega), ix_iI (by omega) (by omega), h.2.1 _ (by omega), h.2.1 _ (by omega), iI_sub, iI_z, itelt (by omega) (by omega) (by omega) (by omega)]
    split <;> rfl
  · rw [cI_f hin, if_neg hin]
    rfl
theorem x7_timeOf (hN : 100 ≤ N) (h : MA A sc ar) (hw : WF A) {t : Nat} (ht : (t : Int) < A 9 0) {c : Int} (hc : 0 ≤ c ∧ c < A 0 0) : f_X7_timeOf N sc ar (iI t) (iI c) = some (iI (timA (A 1) (A 0 0) (BD A mT c) (A 10 t) (A 11 t) (A 12 t) (A 13 t) c)) := by
  have w0 := hw.1
  have wt := hw.2.2.2.2.1 t ht
  have et := h.2.2.2.2.1 t ht
  have hob : ¬ oob (iI (t : Int)) 4 := ob_nat (by omega) (by omega)
  unfold f_X7_timeOf
  simp only [if_neg hob, ix_nat (show t < 2147483648 by omega), et.1, et.2.1, et.2.2.1, et.2.2.2]
  rw [x7_timeBy hN h hw (by omega) (by omega) (by omega) hc, Option.bind_some]
theorem x7_isBarred (hN : 100 ≤ N) (h : MA A sc ar) (hw : WF A) (hg : MG (sc 25) m (A 2 0)) {c v d : Int} (hc : 0 ≤ c ∧ c < A 0 0) (hv : -2147483648 ≤ v ∧ v < 2147483648) (hd : 0 ≤ d ∧ d ≤ 24) : f_X7_isBarred N sc ar (iI c) (iI v) (iI d) = some (bI (∃ lo hi, BR A m c lo hi ∧ lo * d ≤ v ∧ v ≤ hi * d)) := by
  have w0 := hw.1
  have e2 := h.1.2.1
  unfold f_X7_isBarred
  have go := lp_any (F := fun n i => f_X7_isBarred_L3 N sc ar (iI c) (iI v) (iI d) (fun _ => some 0) n (iI (i : Int))) (fin := some 0) (r := fun _ => some 1) (P := fun i => m i ∧ A 3 i = c ∧ A 4 i * d ≤ v ∧ v ≤ A 5 i * d) (n := (A 2 0).toNat)
    (by
      intro k
      rw [f_X7_isBarred_L3, e2, if_pos (le_iI (by omega) (by omega) (by omega))])
    (by
      intro k i hi
      have eb := h.2.2.1 i (by omega)
      have wb := hw.2.2.1 i (by omega)
      have hgi := hg i (by omega)
      have hob : ¬ oob (iI (i : Int)) 4 := ob_nat (by omega) (by omega)
      have b1 := mul_bd (a := A 4 i) (b := d) (by omega) (by omega) (by omega) (by omega)
      have b2 := mul_bd (a := A 5 i) (b := d) (by omega) (by omega) (by omega) (by omega)
      have e : f_X7_isBarred_L3 N sc ar (iI c) (iI v) (iI d) (fun _ => some 0) (k + 1) (iI (i : Int)) = @ite _ (m i ∧ A 3 i = c ∧ A 4 i * d ≤ v ∧ v ≤ A 5 i * d) (Classical.propDecidable _) (some 1) (f_X7_isBarred_L3 N sc ar (iI c) (iI v) (iI d) (fun _ => some 0) k (iI ((i + 1 : Nat) : Int))) := by
        rw [f_X7_isBarred_L3, e2, if_neg (nle_iI (by omega) (by omega) (by omega))]
        unfold f_X7_has
        simp only [if_neg hob, ix_nat (show i < 2147483648 by omega), eb.1, eb.2.1, eb.2.2, iI_mul, Option.bind_some, iI_succ]
        rw [x7_in hv.1 hv.2 (by omega) (by omega) (by omega) (by omega), Option.bind_some, bI_ite]
        by_cases hm : m i
        · rw [if_neg (show ¬ ((sc 25) >>> (iI (i : Int) &&& 31)) &&& 1 = 1 from fun z => absurd hm (hgi.mp z)), if_pos rfl, iteeq (by omega) (by omega) (by omega) (by omega)]
          by_cases hc3 : A 3 i = c
          · rw [if_pos hc3]
            by_cases hr : A 4 i * d ≤ v ∧ v ≤ A 5 i * d
            · rw [cI_t hr, cI_t ⟨hm, hc3, hr⟩]
            · rw [cI_f hr, cI_f (fun z => hr z.2.2)]
          · rw [if_neg hc3, cI_f (fun z => hc3 z.2.1)]
        · rw [if_pos (hgi.mpr hm), if_neg (by decide), cI_f (fun z => hm z.1)]
      exact ⟨fun hp => by rw [e, cI_t hp], fun hp => by rw [e, cI_f hp]⟩)
    N 0 (by omega) (by omega)
  rcases go with ⟨j, -, j2, j3, -, e⟩ | ⟨j1, e⟩
  · refine (show _ = _ from e).trans ?_
    rw [bI_t]
    exact ⟨_, _, ⟨j, by omega, j3.1, j3.2.1, rfl, rfl⟩, j3.2.2⟩
  · refine (show _ = _ from e).trans ?_
    rw [bI_f]
    rintro ⟨lo, hi, ⟨i, x1, x2, x3, rfl, rfl⟩, x4⟩
    exact j1 i (by omega) (by omega) ⟨x2, x3, x4⟩
theorem x7_clr (hN : 100 ≤ N) (h : MA A sc ar) (hw : WF A) (hg : MG (sc 25) m (A 2 0)) {x by' one other : Int} {d : Nat} (hd : 1 ≤ d ∧ d ≤ 23) (ho : 0 ≤ one ∧ one ≤ 200) (hoo : 0 ≤ other ∧ other ≤ 200) (hb : by' = 1 ∨ by' = -1) (hx : ∀ k : Int, 1 ≤ k → k < d → 0 ≤ x + by' * k ∧ x + by' * k < A 0 0) : f_X7_isClear_L44 N sc ar (iI x) (iI d) (iI by') (iI one) (iI other) (fun _ => some 1) N 1 = some (bI (∀ k : Nat, 1 ≤ k → k < d → A 1 (x + by' * k).toNat * d < one * (d - k) + other * k ∧ ∀ lo hi : Int, BR A m (x + by' * k) lo hi → ¬ (lo * d ≤ one * (d - k) + other * k ∧ one * (d - k) + other * k ≤ hi * d))) := by
  have w0 := hw.1
  have go := lp_any (F := fun n i => f_X7_isClear_L44 N sc ar (iI x) (iI d) (iI by') (iI one) (iI other) (fun _ => some 1) n (iI ((i + 1 : Nat) : Int))) (fin := some 1) (r := fun _ => some 0) (P := fun i => ¬ (A 1 (x + by' * ((i + 1 : Nat) : Int)).toNat * d < one * (d - ((i + 1 : Nat) : Int)) + other * ((i + 1 : Nat) : Int) ∧ ∀ lo hi : Int, BR A m (x + by' * ((i + 1 : Nat) : Int)) lo hi → ¬ (lo * d ≤ one * (d - ((i + 1 : Nat) : Int)) + other * ((i + 1 : Nat) : Int) ∧ one * (d - ((i + 1 : Nat) : Int)) + other * ((i + 1 : Nat) : Int) ≤ hi * d))) (n := d - 1)
    (by
      intro k
      rw [f_X7_isClear_L44, if_pos (le_iI (by omega) (by omega) (by omega))])
    (by
      intro k i hi
      have hxi := hx ((i + 1 : Nat) : Int) (by omega) (by omega)
      generalize hz : ((i + 1 : Nat) : Int) = z at hxi
      have wg := hw.2.1 (x + by' * z).toNat (by omega)
      have eg := h.2.1 (x + by' * z).toNat (by omega)
      have b1 := mul_bd (a := A 1 (x + by' * z).toNat) (b := (d : Int)) (by omega) (by omega) (by omega) (by omega)
      have b2 := mul_bd (a := one) (b := (d : Int) - z) (by omega) (by omega) (by omega) (by omega)
      have b3 := mul_bd (a := other) (b := z) (by omega) (by omega) (by omega) (by omega)
      have e : f_X7_isClear_L44 N sc ar (iI x) (iI d) (iI by') (iI one) (iI other) (fun _ => some 1) (k + 1) (iI z) = @ite _ (A 1 (x + by' * z).toNat * d < one * (d - z) + other * z ∧ ∀ lo hi : Int, BR A m (x + by' * z) lo hi → ¬ (lo * d ≤ one * (d - z) + other * z ∧ one * (d - z) + other * z ≤ hi * d)) (Classical.propDecidable _) (f_X7_isClear_L44 N sc ar (iI x) (iI d) (iI by') (iI one) (iI other) (fun _ => some 1) k (iI ((i + 1 + 1 : Nat) : Int))) (some 0) := by
        rw [f_X7_isClear_L44, if_neg (nle_iI (by omega) (by omega) (by omega))]
        simp only [iI_mul, iI_add, iI_sub]
        rw [if_neg (ob_int (by omega) (by omega) (by omega)), ix_iI (by omega) (by omega), eg, iI_mul, itele (by omega) (by omega) (by omega) (by omega), x7_isBarred hN h hw hg hxi (by omega) (by omega), Option.bind_some, bI_ite, ← hz, iI_succ]
        by_cases c1 : one * (d - ((i + 1 : Nat) : Int)) + other * ((i + 1 : Nat) : Int) ≤ A 1 (x + by' * ((i + 1 : Nat) : Int)).toNat * d
        · rw [if_pos c1, cI_f (fun y => absurd y.1 (by omega))]
        · rw [if_neg c1]
          by_cases c2 : ∃ lo hi, BR A m (x + by' * ((i + 1 : Nat) : Int)) lo hi ∧ lo * d ≤ one * (d - ((i + 1 : Nat) : Int)) + other * ((i + 1 : Nat) : Int) ∧ one * (d - ((i + 1 : Nat) : Int)) + other * ((i + 1 : Nat) : Int) ≤ hi * d
          · rw [cI_t c2, cI_f]
            intro y
            obtain ⟨lo, hi, c3, c4⟩ := c2
            exact y.2 lo hi c3 c4
          · rw [cI_f c2, cI_t]
            exact ⟨by omega, fun lo hi c3 c4 => c2 ⟨lo, hi, c3, c4⟩⟩
      exact ⟨fun hp => by rw [e, cI_f hp], fun hp => by rw [e, cI_t (Classical.not_not.mp hp)]⟩)
    N 0 (by omega) (by omega)
  rcases go with ⟨j, -, j2, j3, -, e⟩ | ⟨j1, e⟩
  · refine (show _ = _ from e).trans ?_
    rw [bI_f]
    exact fun z => j3 (z (j + 1) (by omega) (by omega))
  · refine (show _ = _ from e).trans ?_
    rw [bI_t]
    intro k k1 k2
    have := Classical.not_not.mp (j1 (k - 1) (by omega) (by omega))
    rw [show k - 1 + 1 = k by omega] at this
    exact this
theorem x7_isClear (hN : 100 ≤ N) (h : MA A sc ar) (hw : WF A) (hg : MG (sc 25) m (A 2 0)) {x hx y hy : Int} (hx0 : 0 ≤ x ∧ x < A 0 0) (hy0 : 0 ≤ y ∧ y < A 0 0) (hne : x ≠ y) (h1 : 0 ≤ hx ∧ hx ≤ 100) (h2 : 0 ≤ hy ∧ hy ≤ 100) : f_X7_isClear N sc ar (iI x) (iI hx) (iI y) (iI hy) = some (bI (clearA (A 1) (BR A m) x hx y hy)) := by
  have w := hw.1
  have g1 := hw.2.1 x.toNat (by omega)
  have g2 := hw.2.1 y.toNat (by omega)
  unfold f_X7_isClear
  rw [if_neg (ob_int (by omega) (by omega) (by omega)), if_neg (ob_int (by omega) (by omega) (by omega)), ix_iI (by omega) (by omega), ix_iI (by omega) (by omega), h.2.1 _ (by omega), h.2.1 _ (by omega), iI_add, iI_add]
  rw [iI_sub, iI_z, iI_sub, itele (by omega) (by omega) (by omega) (by omega), itele (by omega) (by omega) (by omega) (by omega)]
  by_cases hlt : x < y
  · rw [if_pos (show 0 ≤ y - x by omega), if_neg (show ¬ y ≤ x by omega)]
    obtain ⟨d, hd⟩ : ∃ d : Nat, (d : Int) = y - x := ⟨(y - x).toNat, by omega⟩
    rw [← hd]
    refine (x7_clr (by' := 1) hN h hw hg (by omega) (by omega) (by omega) (Or.inl rfl) (fun k k1 k2 => by omega)).trans (congrArg some (bI_iff ?_))
    have hdx : y = x + d := by omega
    subst hdx
    constructor
    · intro z
      refine ⟨fun _ => ?_, fun y => absurd y (by omega)⟩
      intro c c1 c2
      have := z (c - x).toNat (by omega) (by omega)
      have e1 : (((c - x).toNat : Nat) : Int) = c - x := by omega
      rw [e1] at this
      have e2 : x + 1 * (c - x) = c := by omega
      rw [e2] at this
      unfold lnA
      rw [show x + (d : Int) - c = d - (c - x) by omega, show x + (d : Int) - x = d by omega]
      exact this
    · intro z k k1 k2
      have := z.1 (by omega) (x + k) (by omega) (by omega)
      unfold lnA at this
      rw [show x + (d : Int) - (x + k) = d - k by omega, show x + (d : Int) - x = d by omega, show x + (k : Int) - x = k by omega] at this
      rw [show x + 1 * (k : Int) = x + k by omega]
      exact this
  · rw [if_neg (show ¬ 0 ≤ y - x by omega), if_pos (show y ≤ x by omega)]
    obtain ⟨d, hd⟩ : ∃ d : Nat, (d : Int) = 0 - (y - x) := ⟨(0 - (y - x)).toNat, by omega⟩
    rw [← hd]
    refine (x7_clr (by' := -1) hN h hw hg (by omega) (by omega) (by omega) (Or.inr rfl) (fun k k1 k2 => by omega)).trans (congrArg some (bI_iff ?_))
    have hdx : x = y + d := by omega
    subst hdx
    constructor
    · intro z
      refine ⟨fun y => absurd y (by omega), fun _ => ?_⟩
      intro c c1 c2
      have := z (y + d - c).toNat (by omega) (by omega)
      have e1 : (((y + d - c).toNat : Nat) : Int) = y + d - c := by omega
      rw [e1] at this
      have e2 : y + d + -1 * (y + d - c) = c := by omega
      rw [e2, show (d : Int) - (y + d - c) = c - y by omega, Int.add_comm (_ * (c - y))] at this
      unfold lnA
      rw [show y + (d : Int) - y = d by omega]
      exact this
    · intro z k k1 k2
      have := z.2 (by omega) (y + d - k) (by omega) (by omega)
      unfold lnA at this
      rw [show y + (d : Int) - (y + d - k) = k by omega, show y + (d : Int) - y = d by omega, show y + (d : Int) - k - y = d - k by omega, Int.add_comm (_ * (k : Int))] at this
      rw [show y + d + -1 * (k : Int) = y + d - k by omega]
      exact this
theorem x7_isSeen (hN : 100 ≤ N) (h : MA A sc ar) (hw : WF A) (hg : MG (sc 25) m (A 2 0)) {t i : Nat} (ht : (t : Int) < A 9 0) (hi : (i : Int) < A 6 0) {c : Int} (hc : 0 ≤ c ∧ c < A 0 0) : f_X7_isSeen N sc ar (iI t) (iI i) (iI c) = some (bI (seesA (A 1) (BR A m) (eyeA (A 10 t) (A 11 t)) (A 13 t) (A 7 i) (A 8 i) c)) := by
  have w0 := hw.1
  have wp := hw.2.2.2.1 i hi
  have ep := h.2.2.2.1 i hi
  have wt := hw.2.2.2.2.1 t ht
  have et := h.2.2.2.2.1 t ht
  have hob : ¬ oob (iI (i : Int)) 5 := ob_nat (by omega) (by omega)
  have hot : ¬ oob (iI (t : Int)) 4 := ob_nat (by omega) (by omega)
  have he := eyeA_bd (k := A 10 t) (f := A 11 t) (by omega)
  unfold f_X7_isSeen
  simp only [if_neg hob, if_neg hot, ix_nat (show i < 2147483648 by omega), ix_nat (show t < 2147483648 by omega), ep.1, ep.2, et.2.2.2, x7_eye h hw ht, Option.bind_some]
  rw [iteeq0 (by omega) (by omega), itele (by omega) (by omega) (by omega) (by omega), itele (by omega) (by omega) (by omega) (by omega)]
  have go : A 7 i ≠ c → ((f_X7_isClear N sc ar (iI c) (iI (eyeA (A 10 t) (A 11 t))) (iI (A 7 i)) (iI (A 8 i))).bind fun r8 => some (if r8 = 0 then 0 else 1)) = some (bI (clearA (A 1) (BR A m) c (eyeA (A 10 t) (A 11 t)) (A 7 i) (A 8 i))) := by
    intro hne
    rw [x7_isClear hN h hw hg hc (by omega) (by omega) (by omega) (by omega), Option.bind_some]
    exact congrArg some bI_n
  by_cases hw0 : A 13 t = 0
  · rw [if_pos hw0]
    by_cases hl : A 7 i ≤ c
    · rw [if_pos hl]
      show some (0 : Int32) = _
      rw [bI_f]
      exact fun z => absurd (z.1 hw0) (by omega)
    · rw [if_neg hl]
      simp only [Option.bind_some, if_neg (show ¬ (1 : Int32) = 0 by decide)]
      rw [go (by omega), Option.bind_some]
      refine bI_g.trans (congrArg some (bI_iff ?_))
      exact ⟨fun z => ⟨fun _ => by omega, fun y => absurd hw0 y, z⟩, fun z => z.2.2⟩
  · rw [if_neg hw0]
    by_cases hl : c ≤ A 7 i
    · rw [if_pos hl]
      show some (0 : Int32) = _
      rw [bI_f]
      exact fun z => absurd (z.2.1 hw0) (by omega)
    · rw [if_neg hl]
      simp only [Option.bind_some, if_neg (show ¬ (1 : Int32) = 0 by decide)]
      rw [go (by omega), Option.bind_some]
      refine bI_g.trans (congrArg some (bI_iff ?_))
      exact ⟨fun z => ⟨fun y => absurd y hw0, fun _ => by omega, z⟩, fun z => z.2.2⟩
theorem x7_warn_loop {β : Type} (hN : 100 ≤ N) (h : MA A sc ar) (hw : WF A) (hg : sc 25 = 0) {t i : Nat} (ht : (t : Int) < A 9 0) (hi : (i : Int) < A 6 0) {kx : Int32 → Option β} : ∀ (n j : Nat) (far acc : Int), 1 ≤ far → far ≤ A 0 0 → A 0 0 < far + n → A 0 0 ≤ far + j → f_X7_warnedOf_L28 N sc ar (iI t) (iI i) (iI (-(stA (A 13 t)))) kx n (iI acc) (iI (A 7 i - far * stA (A 13 t))) = kx (iI (acc + wrnA (okA (A 1) (A 0 0) (BR A mT) (eyeA (A 10 t) (A 11 t)) (A 7 i) (A 8 i)) (fun c => timA (A 1) (A 0 0) (BD A mT c) (A 10 t) (A 11 t) (A 12 t) (A 13 t) c) (A 7 i) (stA (A 13 t)) j far)) := by
  have w0 := hw.1
  have wp := hw.2.2.2.1 i hi
  have hgm : MG (sc 25) mT (A 2 0) := by rw [hg]; exact MG_0 (by omega)
  have hst : (A 13 t = 0 ∧ stA (A 13 t) = 1) ∨ (A 13 t ≠ 0 ∧ stA (A 13 t) = -1) := by unfold stA; split <;> simp [*]
  intro n
  induction n with
  | zero => intro j far acc h1 h2 h3; omega
  | succ n ih =>
    intro j far acc h1 h2 h3 h4
    have hb : -100 ≤ A 7 i - far * stA (A 13 t) ∧ A 7 i - far * stA (A 13 t) ≤ 100 := by rcases hst with ⟨-, e⟩ | ⟨-, e⟩ <;> rw [e] <;> omega
    rw [f_X7_warnedOf_L28, x7_isCell h hw (by omega) (by omega), Option.bind_some, bI_ite]
    by_cases hin : 0 ≤ A 7 i - far * stA (A 13 t) ∧ A 7 i - far * stA (A 13 t) < A 0 0
    · have hfar : far < A 0 0 := by
        rcases Int.lt_or_le far (A 0 0) with z | z
        · exact z
        · rcases hst with ⟨-, e⟩ | ⟨-, e⟩ <;> rw [e] at hin <;> omega
      obtain ⟨j, rfl⟩ : ∃ j', j = j' + 1 := ⟨j - 1, by omega⟩
      rw [cI_t hin, x7_isSeen hN h hw hgm ht hi hin, Option.bind_some, bI_ite, wrnA]
      by_cases hcl : clearA (A 1) (BR A mT) (A 7 i - far * stA (A 13 t)) (eyeA (A 10 t) (A 11 t)) (A 7 i) (A 8 i)
      · rw [cI_t (show seesA (A 1) (BR A mT) (eyeA (A 10 t) (A 11 t)) (A 13 t) (A 7 i) (A 8 i) (A 7 i - far * stA (A 13 t)) from ⟨fun z => by rcases hst with ⟨y, e⟩ | ⟨y, e⟩ <;> rw [e] <;> omega, fun z => by rcases hst with ⟨y, e⟩ | ⟨y, e⟩ <;> rw [e] <;> omega, hcl⟩)]
        rw [x7_timeOf hN h hw ht hin, Option.bind_some, iI_add, iI_add, cI_t ⟨hin.1, hin.2, hcl⟩]
        have e1 : A 7 i - far * stA (A 13 t) + -(stA (A 13 t)) = A 7 i - (far + 1) * stA (A 13 t) := by rcases hst with ⟨-, e⟩ | ⟨-, e⟩ <;> rw [e] <;> omega
        rw [e1, ih j (far + 1) _ (by omega) (by omega) (by omega) (by omega), Int.add_assoc]
      · rw [cI_f (fun z => hcl z.2.2), cI_f (fun z => hcl z.2.2), Int.add_zero]
    · rw [cI_f hin]
      cases j with
      | zero => rw [wrnA, Int.add_zero]
      | succ j => rw [wrnA, cI_f (fun z => hin ⟨z.1, z.2.1⟩), Int.add_zero]
theorem x7_warnedOf (hN : 100 ≤ N) (h : MA A sc ar) (hw : WF A) (hg : sc 25 = 0) {t i : Nat} (ht : (t : Int) < A 9 0) (hi : (i : Int) < A 6 0) : f_X7_warnedOf N sc ar (iI t) (iI i) = some (iI (wP A mT t i)) := by
  have w0 := hw.1
  have wt := hw.2.2.2.2.1 t ht
  have es : (if ar 13 (ix (iI (t : Int))) = 0 then (-1 : Int32) else 1) = iI (-(stA (A 13 t))) := by
    rw [ix_nat (by omega), (h.2.2.2.2.1 t ht).2.2.2, iteeq0 (by omega) (by omega)]; unfold stA; split <;> rfl
  unfold f_X7_warnedOf
  rw [es, if_neg (ob_nat (by omega) (by omega)), if_neg (ob_nat (by omega) (by omega)), ix_nat (by omega), (h.2.2.2.1 i hi).1, iI_add]
  have := x7_warn_loop hN h hw hg ht hi (kx := fun x => some x) N 24 1 0 (by omega) (by omega) (by omega) (by omega)
  rw [Int.zero_add, Int.one_mul] at this
  exact this
theorem x7_first_loop {β : Type} (hN : 100 ≤ N) (h : MA A sc ar) (hw : WF A) (hg : sc 25 = 0) {t i : Nat} (ht : (t : Int) < A 9 0) (hi : (i : Int) < A 6 0) {kx : Int32 → Option β} : ∀ (n j : Nat) (far acc : Int), 1 ≤ far → far ≤ A 0 0 → A 0 0 < far + n → A 0 0 ≤ far + j → f_X7_firstOf_L29 N sc ar (iI t) (iI i) (iI (-(stA (A 13 t)))) kx n (iI acc) (iI (A 7 i - far * stA (A 13 t))) = kx (iI (fstA (okA (A 1) (A 0 0) (BR A mT) (eyeA (A 10 t) (A 11 t)) (A 7 i) (A 8 i)) (A 7 i) (stA (A 13 t)) j far acc)) := by
  have w0 := hw.1
  have wp := hw.2.2.2.1 i hi
  have hgm : MG (sc 25) mT (A 2 0) := by rw [hg]; exact MG_0 (by omega)
  have hst : (A 13 t = 0 ∧ stA (A 13 t) = 1) ∨ (A 13 t ≠ 0 ∧ stA (A 13 t) = -1) := by unfold stA; split <;> simp [*]
  intro n
  induction n with
  | zero => intro j far acc h1 h2 h3; omega
  | succ n ih =>
    intro j far acc h1 h2 h3 h4
    have hb : -100 ≤ A 7 i - far * stA (A 13 t) ∧ A 7 i - far * stA (A 13 t) ≤ 100 := by rcases hst with ⟨-, e⟩ | ⟨-, e⟩ <;> rw [e] <;> omega
    rw [f_X7_firstOf_L29, x7_isCell h hw (by omega) (by omega), Option.bind_some, bI_ite]
    by_cases hin : 0 ≤ A 7 i - far * stA (A 13 t) ∧ A 7 i - far * stA (A 13 t) < A 0 0
    · have hfar : far < A 0 0 := by
        rcases Int.lt_or_le far (A 0 0) with z | z
        · exact z
        · rcases hst with ⟨-, e⟩ | ⟨-, e⟩ <;> rw [e] at hin <;> omega
      obtain ⟨j, rfl⟩ : ∃ j', j = j' + 1 := ⟨j - 1, by omega⟩
      rw [cI_t hin, x7_isSeen hN h hw hgm ht hi hin, Option.bind_some, bI_ite, fstA]
      by_cases hcl : clearA (A 1) (BR A mT) (A 7 i - far * stA (A 13 t)) (eyeA (A 10 t) (A 11 t)) (A 7 i) (A 8 i)
      · rw [cI_t (show seesA (A 1) (BR A mT) (eyeA (A 10 t) (A 11 t)) (A 13 t) (A 7 i) (A 8 i) (A 7 i - far * stA (A 13 t)) from ⟨fun z => by rcases hst with ⟨y, e⟩ | ⟨y, e⟩ <;> rw [e] <;> omega, fun z => by rcases hst with ⟨y, e⟩ | ⟨y, e⟩ <;> rw [e] <;> omega, hcl⟩)]
        rw [iI_add, cI_t ⟨hin.1, hin.2, hcl⟩]
        have e1 : A 7 i - far * stA (A 13 t) + -(stA (A 13 t)) = A 7 i - (far + 1) * stA (A 13 t) := by rcases hst with ⟨-, e⟩ | ⟨-, e⟩ <;> rw [e] <;> omega
        rw [e1, ih j (far + 1) _ (by omega) (by omega) (by omega) (by omega)]
      · rw [cI_f (fun z => hcl z.2.2), cI_f (fun z => hcl z.2.2)]
    · rw [cI_f hin]
      cases j with
      | zero => rw [fstA]
      | succ j => rw [fstA, cI_f (fun z => hin ⟨z.1, z.2.1⟩)]
theorem x7_firstOf (hN : 100 ≤ N) (h : MA A sc ar) (hw : WF A) (hg : sc 25 = 0) {t i : Nat} (ht : (t : Int) < A 9 0) (hi : (i : Int) < A 6 0) : f_X7_firstOf N sc ar (iI t) (iI i) = some (iI (firstG (A 1) (A 0 0) (BR A mT) (A 10 t) (A 11 t) (A 13 t) (A 7 i) (A 8 i))) := by
  have w0 := hw.1
  have wt := hw.2.2.2.2.1 t ht
  have es : (if ar 13 (ix (iI (t : Int))) = 0 then (-1 : Int32) else 1) = iI (-(stA (A 13 t))) := by
    rw [ix_nat (by omega), (h.2.2.2.2.1 t ht).2.2.2, iteeq0 (by omega) (by omega)]; unfold stA; split <;> rfl
  unfold f_X7_firstOf
  rw [es, if_neg (ob_nat (by omega) (by omega)), if_neg (ob_nat (by omega) (by omega)), ix_nat (by omega), (h.2.2.2.1 i hi).1, iI_add]
  have := x7_first_loop hN h hw hg ht hi (kx := fun x => some x) N 24 1 (-9) (by omega) (by omega) (by omega) (by omega)
  rw [Int.one_mul] at this
  exact this
end PM6
