-- ===== tells =====
theorem bind_id3 {α β γ : Type} (o : Option (α × β × γ)) : (o.bind fun r => some (r.1, r.2.1, r.2.2)) = o := by cases o <;> rfl
theorem i32_ps (x : Int32) : x + 1 - 1 = x := by
  rw [← iI_toInt x]
  show iI x.toInt + iI 1 - iI 1 = _
  rw [iI_add, iI_sub]; congr 1; omega
theorem un_no {ar : S2} {c : Int32} (h : cod c) : ¬ oob (-c) 7 ∧ ¬ 0 ≤ c ∧ va_up (noA ar c) 21 (upd ((noA ar c) 21) (ix (-c)) (((noA ar c) 21) (ix (-c)) - 1)) = ar := by
  refine ⟨?_, ?_, ?_⟩
  · rcases h with rfl | rfl | rfl | rfl | rfl <;> decide
  · rcases h with rfl | rfl | rfl | rfl | rfl <;> decide
  · unfold noA
    rw [vu_vu, vu_eq, ud_ud, ud_eq, i32_ps, ud_self, vu_self]
def GD (L : Nat → Int) (n : Nat) : Nat → Nat → Prop
  | 0, i => i = n
  | r + 1, i => i = n ∨ ∃ i' w, SR L n i i' w ∧ GD L n r i'
theorem x_ix0 : ix (0 : Int32) = 0 ∧ ix (1 : Int32) = 1 ∧ ix (2 : Int32) = 2 ∧ ix (3 : Int32) = 3 := by decide
theorem x_ob4 : ¬ oob (0 : Int32) 4 ∧ ¬ oob (1 : Int32) 4 ∧ ¬ oob (2 : Int32) 4 ∧ ¬ oob (3 : Int32) 4 := by decide
section PC31
variable {N : Nat} {A : AS} {s : S1} {a t : S2} {p : S1} {q : S2} {sc : S1} {ar : S2} {L : Nat → Int} {n : Nat} {es : S1} {ea : S2} {i : Nat}
theorem does_both (hN : 100 ≤ N) (h : LA A s a t p q) (g : MA A sc ar) (hw : WF A) (hu : UQ A) (hz : PZ L n es ea sc ar i) {w : Nat} (hw7 : w < 7) (hq : STQ L n es ea sc ar w) : CHG N A sc ar s a t p q (f_X0_sayTo N es ea s a t p q) (f_X7_does N sc ar (iI w)) := by
  obtain ⟨q1, q2, q3⟩ := hq
  unfold f_X0_sayTo f_X7_does
  rw [q1]
  simp only [x_ix0.1, x_ix0.2.1, x_ix0.2.2.1, x_ix0.2.2.2, if_neg x_ob4.1, if_neg x_ob4.2.1, if_neg x_ob4.2.2.1, if_neg x_ob4.2.2.2, bind_id3]
  rcases (show w = 0 ∨ w = 1 ∨ w = 2 ∨ w = 3 ∨ w = 4 ∨ w = 5 ∨ w = 6 by omega) with rfl | rfl | rfl | rfl | rfl | rfl | rfl
  · obtain ⟨v0, b0, c0, d0⟩ := q2 0 (by decide)
    obtain ⟨v1, b1, c1, d1⟩ := q2 1 (by decide)
    rw [if_pos (show iI ((0 : Nat) : Int) = 0 from rfl), if_pos (show iI ((0 : Nat) : Int) = 0 from rfl), c0, c1, d0, d1]
    exact chg_ground h g hw hu (by omega) (by omega)
  · obtain ⟨v0, b0, c0, d0⟩ := q2 0 (by decide)
    obtain ⟨v1, b1, c1, d1⟩ := q2 1 (by decide)
    obtain ⟨v2, b2, c2, d2⟩ := q2 2 (by decide)
    rw [if_neg (show ¬ iI ((1 : Nat) : Int) = 0 by decide), if_neg (show ¬ iI ((1 : Nat) : Int) = 0 by decide), if_pos (show iI ((1 : Nat) : Int) = 1 from rfl), if_pos (show iI ((1 : Nat) : Int) = 1 from rfl), c0, c1, c2, d0, d1, d2]
    exact chg_bridge h g hw hu (by omega) (by omega) (by omega)
  · obtain ⟨v0, b0, c0, d0⟩ := q2 0 (by decide)
    obtain ⟨v1, b1, c1, d1⟩ := q2 1 (by decide)
    rw [if_neg (show ¬ iI ((2 : Nat) : Int) = 0 by decide), if_neg (show ¬ iI ((2 : Nat) : Int) = 0 by decide), if_neg (show ¬ iI ((2 : Nat) : Int) = 1 by decide), if_neg (show ¬ iI ((2 : Nat) : Int) = 1 by decide), if_pos (show iI ((2 : Nat) : Int) = 2 from rfl), if_pos (show iI ((2 : Nat) : Int) = 2 from rfl), c0, c1, d0, d1]
    exact chg_post hN h g hw hu (by omega) (by omega)
  · obtain ⟨v0, b0, c0, d0⟩ := q2 0 (by decide)
    obtain ⟨v1, b1, c1, d1⟩ := q2 1 (by decide)
    obtain ⟨v2, b2, c2, d2⟩ := q2 2 (by decide)
    obtain ⟨v3, b3, c3, d3⟩ := q2 3 (by decide)
    rw [if_neg (show ¬ iI ((3 : Nat) : Int) = 0 by decide), if_neg (show ¬ iI ((3 : Nat) : Int) = 0 by decide), if_neg (show ¬ iI ((3 : Nat) : Int) = 1 by decide), if_neg (show ¬ iI ((3 : Nat) : Int) = 1 by decide), if_neg (show ¬ iI ((3 : Nat) : Int) = 2 by decide), if_neg (show ¬ iI ((3 : Nat) : Int) = 2 by decide), if_pos (show iI ((3 : Nat) : Int) = 3 from rfl), if_pos (show iI ((3 : Nat) : Int) = 3 from rfl), c0, c1, c2, c3, d0, d1, d2, d3]
    exact chg_train h g hw hu (by omega) (by omega) (by omega) (by omega)
  · obtain ⟨v0, b0, c0, d0⟩ := q2 0 (by decide)
    rw [if_neg (show ¬ iI ((4 : Nat) : Int) = 0 by decide), if_neg (show ¬ iI ((4 : Nat) : Int) = 0 by decide), if_neg (show ¬ iI ((4 : Nat) : Int) = 1 by decide), if_neg (show ¬ iI ((4 : Nat) : Int) = 1 by decide), if_neg (show ¬ iI ((4 : Nat) : Int) = 2 by decide), if_neg (show ¬ iI ((4 : Nat) : Int) = 2 by decide), if_neg (show ¬ iI ((4 : Nat) : Int) = 3 by decide), if_neg (show ¬ iI ((4 : Nat) : Int) = 3 by decide), if_pos (show iI ((4 : Nat) : Int) = 4 from rfl), if_pos (show iI ((4 : Nat) : Int) = 4 from rfl), c0, d0]
    exact chg_need h g hw hu (by omega)
  · obtain ⟨v0, b0, c0, d0⟩ := q2 0 (by decide)
    rw [if_neg (show ¬ iI ((5 : Nat) : Int) = 0 by decide), if_neg (show ¬ iI ((5 : Nat) : Int) = 0 by decide), if_neg (show ¬ iI ((5 : Nat) : Int) = 1 by decide), if_neg (show ¬ iI ((5 : Nat) : Int) = 1 by decide), if_neg (show ¬ iI ((5 : Nat) : Int) = 2 by decide), if_neg (show ¬ iI ((5 : Nat) : Int) = 2 by decide), if_neg (show ¬ iI ((5 : Nat) : Int) = 3 by decide), if_neg (show ¬ iI ((5 : Nat) : Int) = 3 by decide), if_neg (show ¬ iI ((5 : Nat) : Int) = 4 by decide), if_neg (show ¬ iI ((5 : Nat) : Int) = 4 by decide), if_pos (show iI ((5 : Nat) : Int) = 5 from rfl), if_pos (show iI ((5 : Nat) : Int) = 5 from rfl), c0, d0]
    exact chg_cells hN h g hw hu (by omega)
  · obtain ⟨v0, b0, c0, d0⟩ := q2 0 (by decide)
    obtain ⟨b, k, r1, r2, r3, r4, r5⟩ := q3 rfl
    rw [if_neg (show ¬ iI ((6 : Nat) : Int) = 0 by decide), if_neg (show ¬ iI ((6 : Nat) : Int) = 0 by decide), if_neg (show ¬ iI ((6 : Nat) : Int) = 1 by decide), if_neg (show ¬ iI ((6 : Nat) : Int) = 1 by decide), if_neg (show ¬ iI ((6 : Nat) : Int) = 2 by decide), if_neg (show ¬ iI ((6 : Nat) : Int) = 2 by decide), if_neg (show ¬ iI ((6 : Nat) : Int) = 3 by decide), if_neg (show ¬ iI ((6 : Nat) : Int) = 3 by decide), if_neg (show ¬ iI ((6 : Nat) : Int) = 4 by decide), if_neg (show ¬ iI ((6 : Nat) : Int) = 4 by decide), if_neg (show ¬ iI ((6 : Nat) : Int) = 5 by decide), if_neg (show ¬ iI ((6 : Nat) : Int) = 5 by decide), d0]
    have hn := hz.1
    have r5' := r5.1
    exact chg_place hN h g hw hu (G := fun j => L (b + j)) (b := b) (k := k) (by omega) r1 (by omega) r2 r3 c0 (fun j hj => (hz.2.2 (b + j) (by omega)).2.1) r4 (fun j hj => (r5.2 j hj).1) (fun j hj => (r5.2 j hj).2)
theorem more_n (hz : PZ L n es ea sc ar i) : f_X0_hasMore N es = some (if i < n then 1 else 0) := by
  have hn := hz.1
  unfold f_X0_hasMore
  rw [hz.2.1.1, hz.2.1.2.1, itele (by omega) (by omega) (by omega) (by omega)]
  congr 1
  by_cases c : i < n
  · rw [if_neg (by omega), if_pos c]
  · rw [if_pos (by omega), if_neg c]
theorem form_both (hN : 100 ≤ N) {ky : S1 → S2 → Option (Int32 × S1 × S2)} : ∀ (r n1 n2 v i : Nat) (es : S1) (ea : S2) (sc : S1) (ar : S2), i < n → n ≤ i + r → r < n1 → r < n2 → v ≤ i → PZ L n es ea sc ar i → (∃ es' ea' sc' ar' i', f_X0_faultOfForm_L16 N (fun t3 t4 => some (-1, t3, t4)) n1 (iI v) es ea = some (iI (i' : Nat), es', ea') ∧ f_X7_tellsAll_L5 N ky n2 sc ar = ky sc' ar' ∧ PZ L n es' ea' sc' ar' i' ∧ (∀ j, j ≠ 33 → j ≠ 36 → sc' j = sc j) ∧ (∀ j, j ≠ 34 → j ≠ 35 → ar' j = ar j)) ∨ (GD L n r i ∧ ∃ es' ea' sc' ar', f_X0_faultOfForm_L16 N (fun t3 t4 => some (-1, t3, t4)) n1 (iI v) es ea = some (-1, es', ea') ∧ f_X7_tellsAll_L5 N ky n2 sc ar = ((f_X7_keeps_23 N sc' ar').bind fun r2 => (f_X7_tellsAll_L49 N (fun x1_6 t6 t7 => (some (x1_6, t6, t7))) N 0 (upd sc' 33 0) r2)) ∧ PZ L n es' ea' sc' ar' n ∧ (∀ j, j ≠ 33 → j ≠ 36 → sc' j = sc j) ∧ (∀ j, j ≠ 34 → j ≠ 35 → ar' j = ar j)) := by
  intro r
  induction r with
  | zero => intro n1 n2 v i es ea sc ar h1 h2; omega
  | succ r ih =>
    intro n1 n2 v i es ea sc ar h1 h2 h3 h4 h5 hz
    have hn := hz.1
    obtain ⟨n1, rfl⟩ : ∃ z, n1 = z + 1 := ⟨n1 - 1, by omega⟩
    obtain ⟨n2, rfl⟩ : ∃ z, n2 = z + 1 := ⟨n2 - 1, by omega⟩
    have e6 : f_X0_faultOfForm_L16 N (fun t3 t4 => some (-1, t3, t4)) (n1 + 1) (iI v) es ea = ((f_X0_readStatement N es ea).bind fun r2 => (if r2.1 = 0 then (some ((r2.2.1 1), r2.2.1, r2.2.2)) else (f_X0_faultOfForm_L16 N (fun t3 t4 => some (-1, t3, t4)) n1 (iI ((v + 1 : Nat) : Int)) r2.2.1 r2.2.2))) := by
      rw [f_X0_faultOfForm_L16, if_neg (show ¬ (120 : Int32) ≤ iI (v : Int) from nle_iI (a := 120) (by omega) (by omega) (by omega)), more_n hz, Option.bind_some, if_pos h1, if_neg one_ne, iI_succ]
    rw [e6, f_X7_tellsAll_L5]
    rcases state_both (N := N) hN hz with ⟨i1, w, es1, ea1, sc1, ar1, a0, a1, a2, a3, a4, a5, a6, a7⟩ | ⟨a0, es1, ea1, sc1, ar1, i1, a1, a2, a3, a6, a7⟩
    · rw [a1, a2]
      have n9 : ¬ iI (w : Int) = -9 := by rw [show (-9 : Int32) = iI (-9) by decide, iI_eq (by omega) (by have := a0.1; omega) (by omega) (by omega)]; omega
      simp only [Option.bind_some, if_neg one_ne, if_neg n9]
      have hn1 := a3.1
      rw [a3.2.1.2.2.2, a3.2.1.2.2.1, itelt (by omega) (by omega) (by omega) (by omega)]
      by_cases c : i1 < n
      · rw [if_pos (by omega)]
        rcases ih n1 n2 (v + 1) i1 es1 ea1 sc1 ar1 c (by omega) (by omega) (by omega) (by omega) a3 with ⟨es', ea', sc', ar', i', b1, b2, b3, b6, b7⟩ | ⟨b0, es', ea', sc', ar', b1, b2, b3, b6, b7⟩
        · exact Or.inl ⟨es', ea', sc', ar', i', b1, b2, b3, fun j hj hj2 => by rw [b6 j hj hj2, a6 j hj hj2], fun j hj hj2 => by rw [b7 j hj hj2, a7 j hj hj2]⟩
        · exact Or.inr ⟨Or.inr ⟨i1, w, a0, b0⟩, es', ea', sc', ar', b1, b2, b3, fun j hj hj2 => by rw [b6 j hj hj2, a6 j hj hj2], fun j hj hj2 => by rw [b7 j hj hj2, a7 j hj hj2]⟩
      · have i1n : i1 = n := by omega
        subst i1n
        rw [if_neg (by omega)]
        refine Or.inr ⟨Or.inr ⟨i1, w, a0, ?_⟩, es1, ea1, sc1, ar1, ?_, rfl, a3, a6, a7⟩
        · cases r with
          | zero => rfl
          | succ r => exact Or.inl rfl
        · obtain ⟨n1, rfl⟩ : ∃ z, n1 = z + 1 := ⟨n1 - 1, by omega⟩
          rw [f_X0_faultOfForm_L16]
          by_cases c2 : v + 1 = 120
          · rw [if_pos (show (120 : Int32) ≤ iI ((v + 1 : Nat) : Int) from le_iI (a := 120) (by omega) (by omega) (by omega))]
          · rw [if_neg (show ¬ (120 : Int32) ≤ iI ((v + 1 : Nat) : Int) from nle_iI (a := 120) (by omega) (by omega) (by omega)), more_n a3, Option.bind_some, if_neg c, if_pos rfl]
    · rw [a1, a2]
      simp only [Option.bind_some, if_true]
      exact Or.inl ⟨es1, ea1, sc1, ar1, i1, by rw [a3.2.1.2.1], rfl, a3, a6, a7⟩
/-- the statements come one after the other -/
theorem say_both (hN : 100 ≤ N) {A0 : AS} (hw0 : WF A0) {sc0 : S1} {ar0 : S2} {K : Nat → Int32} (g0 : MA A0 sc0 ar0) (k0 : KP sc0 ar0 K) {sL : S1} {aL tL : S2} {pL : S1} {qL : S2} {kx : Int32 → S1 → S2 → S1 → S2 → S2 → S1 → S2 → Option (Int32 × S1 × S2 × S1 × S2 × S2 × S1 × S2 × S1 × S2 × S2 × S1 × S2)} : ∀ (r n1 n2 v i : Nat) (A : AS) (s : S1) (a t : S2) (p : S1) (q : S2) (es : S1) (ea : S2) (sc : S1) (ar : S2), GD L n r i → r < n1 → r < n2 → v ≤ i → PZ L n es ea sc ar i → LA A s a t p q → MA A sc ar → WF A → UQ A → ar 23 = K → (∃ c A' s' a' t' p' q' es' ea' sc' ar', f_X6_hearStatements_L40 N sL aL tL pL qL kx n1 (iI v) (iI v) es ea s a t p q = kx c es' ea' s' a' t' p' q' ∧ f_X7_tellsAll_L49 N (fun x1_6 t6 t7 => (some (x1_6, t6, t7))) n2 (iI v) sc ar = some (c, sc', ar') ∧ LA A' s' a' t' p' q' ∧ MA A' sc' ar' ∧ WF A' ∧ UQ A' ∧ (∀ j, 18 < j → j ≠ 33 → j ≠ 36 → sc' j = sc j) ∧ (∀ j, 18 < j → j ≠ 34 → j ≠ 35 → ar' j = ar j)) ∨ (∃ c s' a' t' p' q' es' ea' sc' ar', f_X6_hearStatements_L40 N sL aL tL pL qL kx n1 (iI v) (iI v) es ea s a t p q = some (c, es', ea', s', a', t', p', q', sL, aL, tL, pL, qL) ∧ f_X7_tellsAll_L49 N (fun x1_6 t6 t7 => (some (x1_6, t6, t7))) n2 (iI v) sc ar = some (c, sc', ar') ∧ MA A0 sc' ar' ∧ (∀ j, 18 < j → j ≠ 33 → j ≠ 36 → sc' j = sc j) ∧ (∀ j, 18 < j → j ≠ 34 → j ≠ 35 → ar' j = ar j)) := by
  intro r
  have fin : ∀ (n1 n2 v i : Nat) (A : AS) (s : S1) (a t : S2) (p : S1) (q : S2) (es : S1) (ea : S2) (sc : S1) (ar : S2), i = n → 0 < n1 → 0 < n2 → v ≤ i → PZ L n es ea sc ar i → f_X6_hearStatements_L40 N sL aL tL pL qL kx n1 (iI v) (iI v) es ea s a t p q = kx (iI v) es ea s a t p q ∧ f_X7_tellsAll_L49 N (fun x1_6 t6 t7 => (some (x1_6, t6, t7))) n2 (iI v) sc ar = some (iI v, sc, ar) := by
    intro n1 n2 v i A s a t p q es ea sc ar h1 h2 h3 h4 hz
    have hn := hz.1
    obtain ⟨n1, rfl⟩ : ∃ z, n1 = z + 1 := ⟨n1 - 1, by omega⟩
    obtain ⟨n2, rfl⟩ : ∃ z, n2 = z + 1 := ⟨n2 - 1, by omega⟩
    constructor
    · rw [f_X6_hearStatements_L40]
      by_cases c2 : v = 120
      · rw [if_pos (show (120 : Int32) ≤ iI (v : Int) from le_iI (a := 120) (by omega) (by omega) (by omega))]
      · rw [if_neg (show ¬ (120 : Int32) ≤ iI (v : Int) from nle_iI (a := 120) (by omega) (by omega) (by omega)), more_n hz, Option.bind_some, if_neg (show ¬ i < n by omega), if_pos rfl]
    · rw [f_X7_tellsAll_L49, hz.2.1.2.2.1, hz.2.1.2.2.2, if_pos (le_iI (by omega) (by omega) (by omega))]
  induction r with
  | zero =>
    intro n1 n2 v i A s a t p q es ea sc ar h1 h2 h3 h4 hz h g hw hu hk
    obtain ⟨f1, f2⟩ := fin n1 n2 v i A s a t p q es ea sc ar h1 h2 h3 h4 hz
    exact Or.inl ⟨_, A, s, a, t, p, q, es, ea, sc, ar, f1, f2, h, g, hw, hu, fun _ _ _ _ => rfl, fun _ _ _ _ => rfl⟩
  | succ r ih =>
    intro n1 n2 v i A s a t p q es ea sc ar h1 h2 h3 h4 hz h g hw hu hk
    have hn := hz.1
    by_cases cn : i = n
    · obtain ⟨f1, f2⟩ := fin n1 n2 v i A s a t p q es ea sc ar cn (by omega) (by omega) h4 hz
      exact Or.inl ⟨_, A, s, a, t, p, q, es, ea, sc, ar, f1, f2, h, g, hw, hu, fun _ _ _ _ => rfl, fun _ _ _ _ => rfl⟩
    obtain ⟨i0, w0, hS, hG⟩ : ∃ i' w, SR L n i i' w ∧ GD L n r i' := by
      rcases h1 with h1 | h1
      · exact absurd h1 cn
      · exact h1
    obtain ⟨n1, rfl⟩ : ∃ z, n1 = z + 1 := ⟨n1 - 1, by omega⟩
    obtain ⟨n2, rfl⟩ : ∃ z, n2 = z + 1 := ⟨n2 - 1, by omega⟩
    have e6 : f_X6_hearStatements_L40 N sL aL tL pL qL kx (n1 + 1) (iI v) (iI v) es ea s a t p q = ((f_X0_readStatement N es ea).bind fun r5 => (if r5.1 = 0 then (some ((-2000 - (iI i)), r5.2.1, r5.2.2, s, a, t, p, q, sL, aL, tL, pL, qL)) else ((f_X0_sayTo N r5.2.1 r5.2.2 s a t p q).bind fun r6 => (if 0 ≤ r6.1 then (f_X6_hearStatements_L40 N sL aL tL pL qL kx n1 (iI ((v + 1 : Nat) : Int)) (iI ((v + 1 : Nat) : Int)) r5.2.1 r5.2.2 r6.2.1 r6.2.2.1 r6.2.2.2.1 r6.2.2.2.2.1 r6.2.2.2.2.2) else (some ((-2000 - (iI i)), r5.2.1, r5.2.2, r6.2.1, r6.2.2.1, r6.2.2.2.1, r6.2.2.2.2.1, r6.2.2.2.2.2, sL, aL, tL, pL, qL)))))) := by
      rw [f_X6_hearStatements_L40, if_neg (show ¬ (120 : Int32) ≤ iI (v : Int) from nle_iI (a := 120) (by omega) (by omega) (by omega)), more_n hz, Option.bind_some, if_pos (show i < n by omega), if_neg one_ne, iI_succ, hz.2.1.2.1]
    have e7 : f_X7_tellsAll_L49 N (fun x1_6 t6 t7 => (some (x1_6, t6, t7))) (n2 + 1) (iI v) sc ar = ((f_X7_statement N sc ar).bind fun r3 => ((f_X7_does N r3.2.1 r3.2.2 r3.1).bind fun r4 => (if 0 ≤ r4.1 then (f_X7_tellsAll_L49 N (fun x1_6 t6 t7 => (some (x1_6, t6, t7))) n2 (iI ((v + 1 : Nat) : Int)) r4.2.1 r4.2.2) else (if oob (-r4.1) 7 then none else (if oob (-r4.1) 7 then none else ((f_X7_again_23 N r4.2.1 (va_up r4.2.2 21 (upd (r4.2.2 21) (ix (-r4.1)) (((r4.2.2 21) (ix (-r4.1))) - 1)))).bind fun r5 => (some ((-2000 - (iI i)), r5.1, r5.2)))))))) := by
      rw [f_X7_tellsAll_L49, hz.2.1.2.2.1, hz.2.1.2.2.2, if_neg (nle_iI (by omega) (by omega) (by omega)), iI_succ]
    rw [e6, e7]
    rcases state_both (N := N) hN hz with ⟨i1, w, es1, ea1, sc1, ar1, a0, a1, a2, a3, a4, a5, a6, a7⟩ | ⟨a0, -⟩
    · obtain ⟨u1, u2⟩ := SR_uq hS a0
      subst u1 u2
      rw [a1, a2]
      simp only [Option.bind_some, if_neg one_ne]
      have g1 : MA A sc1 ar1 := MA_cg g (fun j hj => a6 j (by omega) (by omega)) (fun j hj => a7 j (by omega) (by omega))
      have k1 : ar1 23 = K := by rw [a7 23 (by decide) (by decide)]; exact hk
      rcases does_both (N := N) hN h g1 hw hu a3 hS.1 a5 with ⟨x, A', s', a', t', p', q', sc', ar', c1, c2, c3, c4, c5, c6, c7, c8, c9⟩ | ⟨c, hc, c1, c2⟩
      · rw [c1, c2]
        simp only [Option.bind_some, if_pos c3]
        have z1 : PZ L n es1 ea1 sc' ar' i0 := PZ_to a3 a3.1.2 rfl a3.2.1.2.1 rfl (c8 20 (by decide)) (by rw [c8 33 (by decide)]; exact a3.2.1.2.2.2) (c9 19 (by decide))
        rcases ih n1 n2 (v + 1) i0 A' s' a' t' p' q' es1 ea1 sc' ar' hG (by omega) (by omega) (by omega) z1 c4 c5 c6 c7 (by rw [c9 23 (by decide)]; exact k1) with ⟨c, A2, s2, a2, t2, p2, q2, es2, ea2, sc2, ar2, d1, d2, d3, d4, d5, d6, d7, d8⟩ | ⟨c, s2, a2, t2, p2, q2, es2, ea2, sc2, ar2, d1, d2, d3, d7, d8⟩
        · exact Or.inl ⟨c, A2, s2, a2, t2, p2, q2, es2, ea2, sc2, ar2, d1, d2, d3, d4, d5, d6, fun j hj hj2 hj3 => by rw [d7 j hj hj2 hj3, c8 j hj, a6 j hj2 hj3], fun j hj hj2 hj3 => by rw [d8 j hj hj2 hj3, c9 j hj, a7 j hj2 hj3]⟩
        · exact Or.inr ⟨c, s2, a2, t2, p2, q2, es2, ea2, sc2, ar2, d1, d2, d3, fun j hj hj2 hj3 => by rw [d7 j hj hj2 hj3, c8 j hj, a6 j hj2 hj3], fun j hj hj2 hj3 => by rw [d8 j hj hj2 hj3, c9 j hj, a7 j hj2 hj3]⟩
      · obtain ⟨u1, u2, u3⟩ := un_no (ar := ar1) hc
        rw [c1, c2]
        simp only [Option.bind_some, if_neg u2, if_neg u1, u3]
        obtain ⟨sc2, ar2, e2, k2, f1, f2⟩ := again_23 (N := N) hN (sc := sc1) (ar := ar1)
        rw [k1] at k2
        rw [e2]
        exact Or.inr ⟨_, s, a, t, p, q, es1, ea1, sc2, ar2, rfl, rfl, MA_KP hw0 g0 k0 k2, fun j hj hj2 hj3 => by rw [f1 j hj, a6 j hj2 hj3], fun j hj hj2 hj3 => by rw [f2 j hj, a7 j hj2 hj3]⟩
    · exact absurd hS (a0 i0 w0)
theorem c_tells (hN : 200 ≤ N) (h : LA A s a t p q) (g : MA A sc ar) (hw : WF A) (hu : UQ A) {n : Nat} (hl : LT es ea sc ar n) {sK : S1} {aK tK : S2} {pK : S1} {qK : S2} : ∃ z A' es' ea' s1 a1 t1 p1 q1 s' a' t' p' q' sc' ar', f_X6_tells N es ea sK aK tK pK qK s a t p q = some (z, es', ea', s1, a1, t1, p1, q1, s', a', t', p', q') ∧ f_X7_tells N sc ar = some (z, sc', ar') ∧ LA A' s' a' t' p' q' ∧ MA A' sc' ar' ∧ WF A' ∧ UQ A' ∧ LT es' ea' sc' ar' 0 ∧ (∀ j, 18 < j → j ≠ 20 → j ≠ 33 → j ≠ 36 → sc' j = sc j) ∧ (∀ j, 18 < j → j ≠ 23 → j ≠ 34 → j ≠ 35 → ar' j = ar j) := by
  have hN1 : 100 ≤ N := by omega
  obtain ⟨⟨h1, h2, h3⟩, h4⟩ := hl
  obtain ⟨L, hL⟩ : ∃ L : Nat → Int, ∀ i : Nat, i < n → (0 ≤ L i ∧ L i ≤ 255) ∧ ea 2 i = iI (L i) ∧ ar 19 i = iI (L i) := by
    have := Classical.axiomOfChoice (r := fun (i : Nat) (c : Int) => i < n → (0 ≤ c ∧ c ≤ 255) ∧ ea 2 i = iI c ∧ ar 19 i = iI c) (fun i => by
      by_cases c : i < n
      · obtain ⟨x, hx⟩ := h4 i c
        exact ⟨x, fun _ => hx⟩
      · exact ⟨0, fun z => absurd z c⟩)
    exact this
  have z0 : PZ L n (upd es 1 0) ea (upd sc 33 0) ar 0 := ⟨⟨h1, by omega⟩, ⟨by rw [ud_ne (by decide)]; exact h2, by rw [ud_eq]; rfl, by rw [ud_ne (by decide)]; exact h3, by rw [ud_eq]; rfl⟩, hL⟩
  -- the end of both
  have close : ∀ (z : Int32) (A' : AS) (es' : S1) (ea' : S2) (s1 : S1) (a1 t1 : S2) (p1 : S1) (q1 : S2) (s' : S1) (a' t' : S2) (p' : S1) (q' : S2) (sc' : S1) (ar' : S2), f_X6_hearStatements N es ea sK aK tK pK qK s a t p q = some (z, es', ea', s1, a1, t1, p1, q1, s', a', t', p', q') → f_X7_tellsAll N sc ar = some (z, sc', ar') → LA A' s' a' t' p' q' → MA A' sc' ar' → WF A' → UQ A' → (∀ j, 18 < j → j ≠ 33 → j ≠ 36 → sc' j = sc j) → (∀ j, 18 < j → j ≠ 23 → j ≠ 34 → j ≠ 35 → ar' j = ar j) → ∃ z A' es' ea' s1 a1 t1 p1 q1 s' a' t' p' q' sc' ar', f_X6_tells N es ea sK aK tK pK qK s a t p q = some (z, es', ea', s1, a1, t1, p1, q1, s', a', t', p', q') ∧ f_X7_tells N sc ar = some (z, sc', ar') ∧ LA A' s' a' t' p' q' ∧ MA A' sc' ar' ∧ WF A' ∧ UQ A' ∧ LT es' ea' sc' ar' 0 ∧ (∀ j, 18 < j → j ≠ 20 → j ≠ 33 → j ≠ 36 → sc' j = sc j) ∧ (∀ j, 18 < j → j ≠ 23 → j ≠ 34 → j ≠ 35 → ar' j = ar j) := by
    intro z A' es' ea' s1 a1 t1 p1 q1 s' a' t' p' q' sc' ar' x1 x2 x3 x4 x5 x6 x7 x8
    refine ⟨z, A', upd (upd es' 0 0) 1 0, ea', s1, a1, t1, p1, q1, s', a', t', p', q', upd sc' 20 0, ar', ?_, ?_, x3, MA_cg x4 (fun j hj => ud_ne (by omega)) (fun _ _ => rfl), x5, x6, ⟨⟨by omega, ?_, ?_⟩, fun i hi => absurd hi (by omega)⟩, ?_, x8⟩
    · unfold f_X6_tells f_X0_clear
      rw [x1]; rfl
    · unfold f_X7_tells
      rw [x2]; rfl
    · rw [ud_ne (by decide), ud_eq]; rfl
    · rw [ud_eq]; rfl
    · intro j hj hj2 hj3 hj4; rw [ud_ne hj2]; exact x7 j hj hj3 hj4
  by_cases c0 : n = 0
  · subst c0
    rcases state_both (N := N) hN1 z0 with ⟨i1, w, es1, ea1, sc1, ar1, a0, a1, a2, a3, a4, -⟩ | ⟨a0, es1, ea1, sc1, ar1, i1, a1, a2, a3, a6, a7⟩
    · have := a3.1; omega
    · have i10 : i1 = 0 := by have := a3.1; omega
      subst i10
      obtain ⟨N', rfl⟩ : ∃ z, N = z + 1 := ⟨N - 1, by omega⟩
      refine close (-1000 - iI ((0 : Nat) : Int)) A (upd es 1 0) ea sK aK tK pK qK s a t p q sc1 ar1 ?_ ?_ h (MA_cg g (fun j hj => by rw [a6 j (by omega) (by omega), ud_ne (by omega)]) (fun j hj => a7 j (by omega) (by omega))) hw hu (fun j hj hj2 hj3 => by rw [a6 j hj2 hj3, ud_ne hj2]) (fun j hj hj2 hj3 hj4 => a7 j hj3 hj4)
      · unfold f_X6_hearStatements f_X0_faultOfForm
        rw [h2, if_pos (show iI ((0 : Nat) : Int) = 0 from rfl), Option.bind_some, if_neg (show ¬ (0 : Int32) < 0 by decide)]
        rfl
      · unfold f_X7_tellsAll
        rw [f_X7_tellsAll_L5, a2]
        simp only [Option.bind_some, if_true]
        rw [a3.2.1.2.2.2]
  · have nz : ¬ es 0 = 0 := by rw [h2, iI_eq0 (by omega) (by omega)]; omega
    rcases form_both (N := N) (L := L) (n := n) hN1 (ky := (fun t8 t9 => (some ((-1000 - (t8 33)), t8, t9)))) n N N 0 0 (upd es 1 0) ea (upd sc 33 0) ar (by omega) (by omega) (by omega) (by omega) (by omega) z0 with ⟨es1, ea1, sc1, ar1, i1, a1, a2, a3, a6, a7⟩ | ⟨a0, es1, ea1, sc1, ar1, a1, a2, a3, a6, a7⟩
    · have a1' : f_X0_faultOfForm_L16 N (fun t3 t4 => some (-1, t3, t4)) N 0 (upd es 1 0) ea = some (iI (i1 : Int), es1, ea1) := a1
      have hi1 := a3.1
      refine close (-1000 - iI (i1 : Int)) A es1 ea1 sK aK tK pK qK s a t p q sc1 ar1 ?_ ?_ h (MA_cg g (fun j hj => by rw [a6 j (by omega) (by omega), ud_ne (by omega)]) (fun j hj => a7 j (by omega) (by omega))) hw hu (fun j hj hj2 hj3 => by rw [a6 j hj2 hj3, ud_ne hj2]) (fun j hj hj2 hj3 hj4 => a7 j hj3 hj4)
      · unfold f_X6_hearStatements f_X0_faultOfForm
        rw [if_neg nz, a1', Option.bind_some, if_neg (by show ¬ iI (i1 : Int) < 0; rw [iI_lt0 (by omega) (by omega)]; omega)]
      · unfold f_X7_tellsAll
        rw [a2, a3.2.1.2.2.2]
    · have a1' : f_X0_faultOfForm_L16 N (fun t3 t4 => some (-1, t3, t4)) N 0 (upd es 1 0) ea = some (-1, es1, ea1) := a1
      have g1 : MA A sc1 ar1 := MA_cg g (fun j hj => by rw [a6 j (by omega) (by omega), ud_ne (by omega)]) (fun j hj => a7 j (by omega) (by omega))
      obtain ⟨K, ek, kk⟩ := keeps_23 (N := N) hN1 (sc := sc1) (ar := ar1)
      have g2 : MA A (upd sc1 33 0) (va_up ar1 23 K) := MA_cg g1 (fun j hj => ud_ne (by omega)) (fun j hj => vu_ne (by omega))
      obtain ⟨s1, a1x, t1, p1, q1, ec, hc⟩ := x1_copyFrom (N := N) (s := sK) (a := aK) (t := tK) (p := pK) (q := qK) hN1 h hw
      have z1 : PZ L n (upd es1 1 0) ea1 (upd sc1 33 0) (va_up ar1 23 K) 0 := PZ_to a3 (by omega) (ud_ne (by decide)) (by rw [ud_eq]; rfl) rfl (ud_ne (by decide)) (by rw [ud_eq]; rfl) (vu_ne (by decide))
      have frs : ∀ (sc' : S1), (∀ j, 18 < j → j ≠ 33 → j ≠ 36 → sc' j = (upd sc1 33 0) j) → (∀ j, 18 < j → j ≠ 33 → j ≠ 36 → sc' j = sc j) := fun sc' hx j hj hj2 hj3 => by rw [hx j hj hj2 hj3, ud_ne hj2, a6 j hj2 hj3, ud_ne hj2]
      have fra : ∀ (ar' : S2), (∀ j, 18 < j → j ≠ 34 → j ≠ 35 → ar' j = (va_up ar1 23 K) j) → (∀ j, 18 < j → j ≠ 23 → j ≠ 34 → j ≠ 35 → ar' j = ar j) := fun ar' hx j hj hj2 hj3 hj4 => by rw [hx j hj hj3 hj4, vu_ne hj2, a7 j hj3 hj4]
      have e6 : f_X6_hearStatements N es ea sK aK tK pK qK s a t p q = f_X6_hearStatements_L40 N s a t p q (fun x2_7 t7 t8 t9 t10 t11 t12 t13 => ((f_X1_copyFrom N s a t p q t9 t10 t11 t12 t13).bind fun r14 => (some (x2_7, t7, t8, t9, t10, t11, t12, t13, r14.1, r14.2.1, r14.2.2.1, r14.2.2.2.1, r14.2.2.2.2)))) N (iI ((0 : Nat) : Int)) (iI ((0 : Nat) : Int)) (upd es1 1 0) ea1 s1 a1x t1 p1 q1 := by
        unfold f_X6_hearStatements f_X0_faultOfForm f_X0_rewind
        rw [if_neg nz, a1', Option.bind_some, if_pos (show (-1 : Int32) < 0 by decide), ec]
        rfl
      have e7 : f_X7_tellsAll N sc ar = f_X7_tellsAll_L49 N (fun x1_6 t6 t7 => (some (x1_6, t6, t7))) N (iI ((0 : Nat) : Int)) (upd sc1 33 0) (va_up ar1 23 K) := by
        unfold f_X7_tellsAll
        rw [a2, ek]; rfl
      rcases say_both (N := N) (L := L) (n := n) hN1 hw g1 kk (sL := s) (aL := a) (tL := t) (pL := p) (qL := q) (kx := (fun x2_7 t7 t8 t9 t10 t11 t12 t13 => ((f_X1_copyFrom N s a t p q t9 t10 t11 t12 t13).bind fun r14 => (some (x2_7, t7, t8, t9, t10, t11, t12, t13, r14.1, r14.2.1, r14.2.2.1, r14.2.2.2.1, r14.2.2.2.2))))) n N N 0 0 A s1 a1x t1 p1 q1 (upd es1 1 0) ea1 (upd sc1 33 0) (va_up ar1 23 K) a0 (by omega) (by omega) (by omega) z1 hc g2 hw hu (vu_eq _ _ _) with ⟨c, A2, s2, a2x, t2, p2, q2, es2, ea2, sc2, ar2, d1, d2, d3, d4, d5, d6, d7, d8⟩ | ⟨c, s2, a2x, t2, p2, q2, es2, ea2, sc2, ar2, d1, d2, d3, d7, d8⟩
      · obtain ⟨s3, a3x, t3, p3, q3, ec3, hc3⟩ := x1_copyFrom (N := N) (s := s) (a := a) (t := t) (p := p) (q := q) hN1 d3 d5
        refine close c A2 es2 ea2 s2 a2x t2 p2 q2 s3 a3x t3 p3 q3 sc2 ar2 ?_ (by rw [e7]; exact d2) hc3 d4 d5 d6 (frs sc2 d7) (fra ar2 d8)
        rw [e6, d1, ec3]; rfl
      · exact close c A es2 ea2 s2 a2x t2 p2 q2 s a t p q sc2 ar2 (by rw [e6]; exact d1) (by rw [e7]; exact d2) h d3 hw hu (frs sc2 d7) (fra ar2 d8)
end PC31
