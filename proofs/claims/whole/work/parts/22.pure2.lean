theorem iI_succ (i : Nat) : iI (i : Int) + 1 = iI ((i + 1 : Nat) : Int) := by
  show iI (i : Int) + iI 1 = _
  rw [iI_add]; rfl
theorem ix_nat {i : Nat} (h : i < 2147483648) : ix (iI (i : Int)) = i := by rw [ix_iI (by omega) (by omega)]; rfl
theorem ob_nat {i n : Nat} (h : i < n) (hn : n < 2147483648) : ¬ oob (iI (i : Int)) n := by rw [oob_iI (by omega) (by omega)]; omega
theorem ob_int {z : Int} {n : Nat} (h0 : 0 ≤ z) (h : z < n) (hn : n < 2147483648) : ¬ oob (iI z) n := by rw [oob_iI (by omega) (by omega)]; omega
theorem cI_t {P : Prop} {α : Type} {x y : α} (h : P) : @ite _ P (Classical.propDecidable P) x y = x := if_pos h
theorem cI_f {P : Prop} {α : Type} {x y : α} (h : ¬ P) : @ite _ P (Classical.propDecidable P) x y = y := if_neg h
section PC2
variable {N : Nat} {A : AS} {s : S1} {a t : S2} {p : S1} {q : S2}
theorem x1_isB_loop (h : LA A s a t p q) (hw : WF A) {there : Int32} {m : Nat → Prop} (hm : MK there m (A 2 0)) {c : Int} (hc : 0 ≤ c ∧ c < 24) {kx : Unit → Option Int32} : ∀ (n i : Nat), (i : Int) ≤ A 2 0 → A 2 0 < i + n → f_X1_isBridged_L2 N s a (iI c) there kx n (iI i) = @ite _ (∃ j : Nat, i ≤ j ∧ (j : Int) < A 2 0 ∧ m j ∧ A 3 j = c) (Classical.propDecidable _) (some 1) (kx ()) := by
  obtain ⟨⟨-, e2, -⟩, -, -, eb, -⟩ := h
  obtain ⟨⟨w3, w4, w1, w2, -⟩, -, wb, -⟩ := hw
  intro n
  induction n with
  | zero => intro i h1 h2; omega
  | succ n ih =>
    intro i h1 h2
    rw [f_X1_isBridged_L2]
    simp (disch := omega) only [e2, iI_le]
    by_cases hlt : A 2 0 ≤ (i : Int)
    · rw [if_pos hlt, cI_f]
      rintro ⟨j, h3, h4, -⟩
      omega
    · have hi : (i : Int) < A 2 0 := by omega
      rw [if_neg hlt, iI_succ, ih (i + 1) (by omega) (by omega)]
      have wbi := wb i hi
      rw [if_neg (ob_nat (by omega) (by omega)), ix_nat (by omega), (eb i hi).1]
      simp (disch := omega) only [iI_eq]
      by_cases hmi : m i
      · rw [if_pos ((hm i hi).mpr hmi)]
        by_cases he : A 3 i = c
        · rw [if_pos he, cI_t ⟨i, by omega, hi, hmi, he⟩]
        · rw [if_neg he]
          by_cases hx : ∃ j : Nat, i + 1 ≤ j ∧ (j : Int) < A 2 0 ∧ m j ∧ A 3 j = c
          · obtain ⟨j, x1, x2⟩ := hx
            rw [cI_t ⟨j, x1, x2⟩, cI_t ⟨j, by omega, x2⟩]
          · rw [cI_f hx, cI_f]
            rintro ⟨j, x1, x2, x3, x4⟩
            rcases Nat.eq_or_lt_of_le x1 with rfl | x1
            · exact he x4
            · exact hx ⟨j, x1, x2, x3, x4⟩
      · rw [if_neg (fun z => hmi ((hm i hi).mp z))]
        by_cases hx : ∃ j : Nat, i + 1 ≤ j ∧ (j : Int) < A 2 0 ∧ m j ∧ A 3 j = c
        · obtain ⟨j, x1, x2⟩ := hx
          rw [cI_t ⟨j, x1, x2⟩, cI_t ⟨j, by omega, x2⟩]
        · rw [cI_f hx, cI_f]
          rintro ⟨j, x1, x2, x3, x4⟩
          rcases Nat.eq_or_lt_of_le x1 with rfl | x1
          · exact hmi x3
          · exact hx ⟨j, x1, x2, x3, x4⟩
theorem x1_isBridged (hN : 100 ≤ N) (h : LA A s a t p q) (hw : WF A) {there : Int32} {m : Nat → Prop} (hm : MK there m (A 2 0)) {c : Int} (hc : 0 ≤ c ∧ c < 24) : f_X1_isBridged N s a (iI c) there = some (bI (BD A m c)) := by
  have w := hw.1
  unfold f_X1_isBridged
  show f_X1_isBridged_L2 N s a (iI c) there _ N (iI ((0 : Nat) : Int)) = _
  rw [x1_isB_loop h hw hm hc N 0 (by omega) (by omega)]
  by_cases hx : BD A m c
  · obtain ⟨j, x1⟩ := hx
    rw [cI_t ⟨j, Nat.zero_le _, x1⟩, bI_t ⟨j, x1⟩]
  · rw [bI_f hx, cI_f]
    rintro ⟨j, -, x⟩
    exact hx ⟨j, x⟩
theorem x5_timeFor {u : S1} {k f sl r : Int} {bd : Prop} (e0 : u 0 = iI k) (e1 : u 1 = iI f) (e2 : u 2 = iI sl) (hk : 0 ≤ k ∧ k ≤ 5) (hs : 1 ≤ sl ∧ sl ≤ 9) : f_X5_timeFor N u (iI r) (bI bd) = some (iI (if k = 1 then sl + r else if k = 2 then (sl + 1) / 2 else if k = 3 then sl + r + @ite _ bd (Classical.propDecidable bd) f 0 else if k = 4 then (if 1 < (sl + 1) / 2 - 1 then (sl + 1) / 2 - 1 else 1) else if k = 5 then 2 * (sl + r) else sl)) := by
  unfold f_X5_timeFor
  rw [e0, e1, e2, bI_ite]
  rcases (show k = 0 ∨ k = 1 ∨ k = 2 ∨ k = 3 ∨ k = 4 ∨ k = 5 by omega) with rfl | rfl | rfl | rfl | rfl | rfl
  · rfl
  · show some (iI sl + iI r) = _
    rw [iI_add]; rfl
  · rcases (show sl = 1 ∨ sl = 2 ∨ sl = 3 ∨ sl = 4 ∨ sl = 5 ∨ sl = 6 ∨ sl = 7 ∨ sl = 8 ∨ sl = 9 by omega) with rfl | rfl | rfl | rfl | rfl | rfl | rfl | rfl | rfl <;> rfl
  · by_cases hb : bd
    · rw [cI_t hb, cI_t hb]
      show some (iI sl + iI r + iI f) = _
      rw [iI_add, iI_add]; rfl
    · rw [cI_f hb, cI_f hb]
      show some (iI sl + iI r + iI 0) = _
      rw [iI_add, iI_add]; rfl
  · rcases (show sl = 1 ∨ sl = 2 ∨ sl = 3 ∨ sl = 4 ∨ sl = 5 ∨ sl = 6 ∨ sl = 7 ∨ sl = 8 ∨ sl = 9 by omega) with rfl | rfl | rfl | rfl | rfl | rfl | rfl | rfl | rfl <;> rfl
  · show some (iI 2 * (iI sl + iI r)) = _
    rw [iI_add, iI_mul]; rfl
theorem x1_timeIn (hN : 100 ≤ N) (h : LA A s a t p q) (hw : WF A) {there : Int32} {m : Nat → Prop} (hm : MK there m (A 2 0)) {u : S1} {k f sl w c : Int} (e0 : u 0 = iI k) (e1 : u 1 = iI f) (e2 : u 2 = iI sl) (e3 : u 3 = iI w) (hk : 0 ≤ k ∧ k ≤ 5) (hs : 1 ≤ sl ∧ sl ≤ 9) (hww : 0 ≤ w ∧ w ≤ 1) (hc : 0 ≤ c ∧ c < A 0 0) : f_X1_timeIn N u s a (iI c) there = some (iI (timA (A 1) (A 0 0) (BD A m c) k f sl w c)) := by
  have w0 := hw.1
  have hst : stA w = 1 ∨ stA w = -1 := by unfold stA; split <;> simp
  unfold f_X1_timeIn
  rw [x5_step e3 hww, Option.bind_some, iI_add, x1_hasCell h hw (by omega) (by omega), Option.bind_some, bI_ite]
  have hr : ∀ r : Int, r = riseA (A 1) (A 0 0) w c → ((f_X1_isBridged N s a (iI c) there).bind fun r5 => (f_X5_timeFor N u (iI r) r5).bind fun r6 => some r6) = some (iI (timA (A 1) (A 0 0) (BD A m c) k f sl w c)) := by
    intro r hr
    rw [x1_isBridged hN h hw hm (by omega), Option.bind_some, x5_timeFor e0 e1 e2 hk hs, Option.bind_some, hr]
    rfl
  obtain ⟨-, eg, -⟩ := h
  by_cases hin : 0 ≤ c + stA w ∧ c + stA w < A 0 0
  · rw [cI_t hin, if_neg (ob_int (by omega) (by omega) (by omega)), if_neg (ob_int (by omega) (by omega) (by omega))]
    rw [ix_iI (by omega) (by omega), ix_iI (by omega) (by omega), eg _ (by omega), eg _ (by omega), iI_sub]
    have g1 := hw.2.1 (c + stA w).toNat (by omega)
    have g2 := hw.2.1 c.toNat (by omega)
    rw [Option.bind_some]
    have := hr (riseA (A 1) (A 0 0) w c) rfl
    rw [← this]
    congr 2
    funext r5
    congr 2
    unfold riseA
    rw [if_pos hin]
    simp (disch := omega) only [iI_0, iI_lt]
    split <;> rfl
  · rw [cI_f hin, Option.bind_some]
    have := hr 0 (by unfold riseA; rw [if_neg hin])
    exact this
end PC2
