-- ===== rows on shelves =====
theorem lp_two {R R' : Type} {F : Nat → Nat → Option R} {G : Nat → Nat → Option R'} {fin : Option R} {fin' : Option R'} {r : Nat → Option R} {r' : Nat → Option R'} {P : Nat → Prop} {n : Nat} (he : ∀ k, F (k + 1) n = fin) (hs : ∀ k i, i < n → (P i → F (k + 1) i = r i) ∧ (¬ P i → F (k + 1) i = F k (i + 1))) (he' : ∀ k, G (k + 1) n = fin') (hs' : ∀ k i, i < n → (P i → G (k + 1) i = r' i) ∧ (¬ P i → G (k + 1) i = G k (i + 1))) (k k' : Nat) (h1 : n < 0 + k) (h2 : n < 0 + k') : (∃ j, j < n ∧ P j ∧ F k 0 = r j ∧ G k' 0 = r' j) ∨ ((∀ j, j < n → ¬ P j) ∧ F k 0 = fin ∧ G k' 0 = fin') := by
  rcases lp_any he hs k 0 (Nat.zero_le _) h1 with ⟨j, -, a2, a3, a4, a5⟩ | ⟨a1, a2⟩
  · rcases lp_any he' hs' k' 0 (Nat.zero_le _) h2 with ⟨j', -, b2, b3, b4, b5⟩ | ⟨b1, b2⟩
    · have : j = j' := by
        rcases Nat.lt_trichotomy j j' with c | c | c
        · exact absurd a3 (b4 j (Nat.zero_le _) c)
        · exact c
        · exact absurd b3 (a4 j' (Nat.zero_le _) c)
      subst this
      exact Or.inl ⟨j, a2, a3, a5, b5⟩
    · exact absurd a3 (b1 j (Nat.zero_le _) a2)
  · rcases lp_any he' hs' k' 0 (Nat.zero_le _) h2 with ⟨j', -, b2, b3, b4, b5⟩ | ⟨b1, b2⟩
    · exact absurd b3 (a1 j' (Nat.zero_le _) b2)
    · exact Or.inr ⟨fun j hj => a1 j (Nat.zero_le _) hj, a2, b2⟩
section PC19
variable {N : Nat} {A : AS} {s : S1} {a t : S2} {p : S1} {q : S2} {sc : S1} {ar : S2} {aX : S2} {sH : S2} {rH la : S3} {uH : S2}
theorem c_put (hs : SH sH rH uH ar la) {x y : Int} {v : Int64} (h1 : -2147483648 ≤ x ∧ x < 2147483648) (h2 : -2147483648 ≤ y ∧ y < 2147483648) : (∃ r rH' la', f_X6_put N aX sH rH (iI x) (iI y) v = some (r, aX, rH') ∧ f_X7_put N ar la (iI x) (iI y) v = some (r, ar, la') ∧ SH sH rH' uH ar la') ∨ (∃ c, cod c ∧ f_X6_put N aX sH rH (iI x) (iI y) v = some (c, rfA aX c, rH) ∧ f_X7_put N ar la (iI x) (iI y) v = some (c, noA ar c, la)) := by
  unfold f_X6_put f_X7_put
  rw [x6_hasShelf h1.1 h1.2, x7_isShelf h1.1 h1.2]
  simp only [x6_refused cod1, x7_no cod1, Option.bind_some]
  by_cases c1 : 0 ≤ x ∧ x < 4
  · rw [bI_t c1]
    obtain ⟨k, rfl⟩ : ∃ b : Nat, x = (b : Int) := ⟨x.toNat, by omega⟩
    have hk : k < 4 := by omega
    have o1 : ¬ oob (iI (k : Int)) 4 := ob_nat (by omega) (by omega)
    rcases x_place (N := N) hs hk h2 with ⟨c, d1, d2, d3⟩ | ⟨d1, d2, d3, d4, d5⟩
    · simp only [if_neg one_ne, if_neg o1, ix_nat (show k < 2147483648 by omega), d2, d3, Option.bind_some, if_neg d1]
      exact Or.inl ⟨_, _, _, rfl, rfl, hs⟩
    · obtain ⟨j, rfl⟩ : ∃ b : Nat, y = (b : Int) := ⟨y.toNat, by omega⟩
      have hj : j < 20 := by omega
      have e1 : 20 * iI (k : Int) + iI (j : Int) = iI ((20 * k + j : Nat) : Int) := by
        show iI 20 * iI (k : Int) + iI (j : Int) = _
        rw [iI_mul, iI_add]; rfl
      have o2 : ¬ oob (iI (j : Int)) 20 := ob_nat (by omega) (by omega)
      have o3 : ¬ oob (iI ((20 * k + j : Nat) : Int)) 80 := ob_nat (by omega) (by omega)
      simp only [if_neg one_ne, if_neg o1, ix_nat (show k < 2147483648 by omega), d4, d5, Option.bind_some, if_pos (show (0 : Int32) ≤ 0 by decide), f_X4_write, if_neg o2, e1, if_neg o3, ix_nat (show j < 2147483648 by omega), ix_nat (show 20 * k + j < 2147483648 by omega), d2]
      refine Or.inl ⟨1, _, _, rfl, rfl, ?_⟩
      intro i hi
      by_cases e : i = k
      · subst e
        obtain ⟨so, sz, b1, b2, b3, b4⟩ := hs i hi
        refine ⟨so, sz, b1, b2, ?_, ?_⟩
        · intro _ l hl
          rw [vu_eq, vu_eq]
          by_cases el : l = j
          · subst el; rw [vl_eq, vl_eq]
          · rw [vl_ne el, vl_ne (show 20 * i + l ≠ 20 * i + j by omega)]; exact d3 l hl
        · intro hz
          exfalso
          subst hz
          have : f_X4_faultOfPlace N (sH i) (iI (j : Int)) = some (-12) := by
            unfold f_X4_faultOfPlace
            rw [b1.1]
            rfl
          rw [this] at d4
          exact absurd d4 (by decide)
      · have key : ∀ l, l < 20 → 20 * i + l ≠ 20 * k + j := by intro l hl; omega
        obtain ⟨so, sz, b1, b2, b3, b4⟩ := hs i hi
        refine ⟨so, sz, b1, b2, ?_, ?_⟩
        · intro hz l hl
          rw [vu_ne e, vu_eq, vl_ne (key l hl)]
          exact b3 hz l hl
        · intro hz
          obtain ⟨kd, fg, f1, f2, f3, f4, f5⟩ := b4 hz
          refine ⟨kd, fg, f1, f2, f3, ?_, ?_⟩
          · rw [vu_eq, vl_ne (show 20 * i ≠ 20 * k + j from key 0 (by decide))]; exact f4
          · rw [vu_eq, vl_ne (key 1 (by decide))]; exact f5
  · rw [bI_f c1]
    exact Or.inr ⟨-1, cod1, rfl, rfl⟩
theorem x6_refusedLong {c : Int32} (h : cod c) : f_X6_refusedLong N aX c = some ((4000000000000000000 : Int64) - c.toInt64, rfA aX c) := by
  unfold f_X6_refusedLong
  rw [x6_refused h, Option.bind_some]
theorem x7_far {c : Int32} (h : cod c) : f_X7_far N ar c = some ((4000000000000000000 : Int64) - c.toInt64, noA ar c) := by
  unfold f_X7_far
  rw [x7_no h, Option.bind_some]
theorem q_look (hs : SH sH rH uH ar la) {x y : Int} (h1 : -2147483648 ≤ x ∧ x < 2147483648) (h2 : -2147483648 ≤ y ∧ y < 2147483648) : QRY (fun c => (4000000000000000000 : Int64) - c.toInt64) aX ar (f_X6_look N aX sH rH (iI x) (iI y)) (f_X7_look N ar la (iI x) (iI y)) := by
  unfold f_X6_look f_X7_look
  rw [x6_hasShelf h1.1 h1.2, x7_isShelf h1.1 h1.2]
  simp only [x6_refusedLong cod1, x7_far cod1, Option.bind_some]
  by_cases c1 : 0 ≤ x ∧ x < 4
  · rw [bI_t c1]
    obtain ⟨k, rfl⟩ : ∃ b : Nat, x = (b : Int) := ⟨x.toNat, by omega⟩
    have hk : k < 4 := by omega
    have o1 : ¬ oob (iI (k : Int)) 4 := ob_nat (by omega) (by omega)
    rcases x_place (N := N) hs hk h2 with ⟨c, d1, d2, d3⟩ | ⟨d1, d2, d3, d4, d5⟩
    · simp only [if_neg one_ne, if_neg o1, ix_nat (show k < 2147483648 by omega), d2, d3, Option.bind_some, if_neg d1]
      exact Or.inl ⟨_, rfl, rfl⟩
    · obtain ⟨j, rfl⟩ : ∃ b : Nat, y = (b : Int) := ⟨y.toNat, by omega⟩
      have hj : j < 20 := by omega
      have e1 : 20 * iI (k : Int) + iI (j : Int) = iI ((20 * k + j : Nat) : Int) := by
        show iI 20 * iI (k : Int) + iI (j : Int) = _
        rw [iI_mul, iI_add]; rfl
      have o2 : ¬ oob (iI (j : Int)) 20 := ob_nat (by omega) (by omega)
      have o3 : ¬ oob (iI ((20 * k + j : Nat) : Int)) 80 := ob_nat (by omega) (by omega)
      simp only [if_neg one_ne, if_neg o1, ix_nat (show k < 2147483648 by omega), d4, d5, Option.bind_some, if_pos (show (0 : Int32) ≤ 0 by decide), if_neg o2, e1, if_neg o3, ix_nat (show j < 2147483648 by omega), ix_nat (show 20 * k + j < 2147483648 by omega)]
      rw [d3 j hj]
      exact Or.inl ⟨_, rfl, rfl⟩
  · rw [bI_f c1]
    exact Or.inr ⟨-1, cod1, rfl, rfl⟩
end PC19
