-- ===== questions =====
def QRY {τ : Type} (f : Int32 → τ) (aX ar : S2) (o6 o7 : Option (τ × S2)) : Prop := (∃ r, o6 = some (r, aX) ∧ o7 = some (r, ar)) ∨ (∃ c, cod c ∧ o6 = some (f c, rfA aX c) ∧ o7 = some (f c, noA ar c))
section PC14
variable {N : Nat} {A : AS} {s : S1} {a t : S2} {p : S1} {q : S2} {sc : S1} {ar : S2} {aX : S2}
theorem q_height (h : LA A s a t p q) (g : MA A sc ar) (hw : WF A) {z : Int} (hz : -2147483648 ≤ z ∧ z < 2147483648) : QRY id aX ar (f_X6_height N aX s a (iI z)) (f_X7_height N sc ar (iI z)) := by
  have w0 := hw.1
  unfold f_X6_height f_X7_height
  rw [x1_hasCell h hw hz.1 hz.2, x7_isCell g hw hz.1 hz.2]
  simp only [x6_refused cod1, x7_no cod1, Option.bind_some]
  by_cases hin : 0 ≤ z ∧ z < A 0 0
  · rw [bI_t hin]
    simp only [if_neg one_ne, if_neg (ob_int (z := z) (n := 24) (by omega) (by omega) (by omega)), Option.bind_some]
    rw [ix_iI (by omega) (by omega), h.2.1 _ (by omega), g.2.1 _ (by omega)]
    exact Or.inl ⟨_, rfl, rfl⟩
  · rw [bI_f hin]
    exact Or.inr ⟨-1, cod1, rfl, rfl⟩
theorem q_ofBridge (h : LA A s a t p q) (g : MA A sc ar) (hw : WF A) {z : Int} {w : Int32} (hz : -2147483648 ≤ z ∧ z < 2147483648) : QRY id aX ar (f_X6_ofBridge N aX s a (iI z) w) (f_X7_ofBridge N sc ar (iI z) w) := by
  have w0 := hw.1
  unfold f_X6_ofBridge f_X7_ofBridge
  rw [x1_hasBridge h hw hz.1 hz.2, x7_isBridge g hw hz.1 hz.2]
  simp only [x6_refused cod1, x7_no cod1, x6_refused cod2, x7_no cod2, Option.bind_some]
  by_cases hin : 0 ≤ z ∧ z < A 2 0
  · rw [bI_t hin]
    simp only [if_neg one_ne, if_neg (ob_int (z := z) (n := 4) (by omega) (by omega) (by omega))]
    rw [ix_iI (by omega) (by omega), (h.2.2.2.1 _ (by omega)).1, (h.2.2.2.1 _ (by omega)).2.1, (h.2.2.2.1 _ (by omega)).2.2, (g.2.2.1 _ (by omega)).1, (g.2.2.1 _ (by omega)).2.1, (g.2.2.1 _ (by omega)).2.2]
    by_cases h1 : w = 0
    · simp only [if_pos h1]; exact Or.inl ⟨_, rfl, rfl⟩
    simp only [if_neg h1]
    by_cases h1 : w = 1
    · simp only [if_pos h1]; exact Or.inl ⟨_, rfl, rfl⟩
    simp only [if_neg h1]
    by_cases h1 : w = 2
    · simp only [if_pos h1]; exact Or.inl ⟨_, rfl, rfl⟩
    simp only [if_neg h1]
    exact Or.inr ⟨-2, cod2, rfl, rfl⟩
  · rw [bI_f hin]
    exact Or.inr ⟨-1, cod1, rfl, rfl⟩
theorem q_ofPost (h : LA A s a t p q) (g : MA A sc ar) (hw : WF A) {z : Int} {w : Int32} (hz : -2147483648 ≤ z ∧ z < 2147483648) : QRY id aX ar (f_X6_ofPost N aX s a (iI z) w) (f_X7_ofPost N sc ar (iI z) w) := by
  have w0 := hw.1
  unfold f_X6_ofPost f_X7_ofPost
  rw [x1_hasPost h hw hz.1 hz.2, x7_isPost g hw hz.1 hz.2]
  simp only [x6_refused cod1, x7_no cod1, x6_refused cod2, x7_no cod2, Option.bind_some]
  by_cases hin : 0 ≤ z ∧ z < A 6 0
  · rw [bI_t hin]
    simp only [if_neg one_ne, if_neg (ob_int (z := z) (n := 5) (by omega) (by omega) (by omega))]
    rw [ix_iI (by omega) (by omega), (h.2.2.2.2.1 _ (by omega)).1, (h.2.2.2.2.1 _ (by omega)).2, (g.2.2.2.1 _ (by omega)).1, (g.2.2.2.1 _ (by omega)).2]
    by_cases h1 : w = 0
    · simp only [if_pos h1, Option.bind_some]; exact Or.inl ⟨_, rfl, rfl⟩
    simp only [if_neg h1]
    by_cases h1 : w = 1
    · simp only [if_pos h1, Option.bind_some]; exact Or.inl ⟨_, rfl, rfl⟩
    simp only [if_neg h1, Option.bind_some]
    exact Or.inr ⟨-2, cod2, rfl, rfl⟩
  · rw [bI_f hin]
    exact Or.inr ⟨-1, cod1, rfl, rfl⟩
theorem q_ofTrain (h : LA A s a t p q) (g : MA A sc ar) (hw : WF A) {z : Int} {w : Int32} (hz : -2147483648 ≤ z ∧ z < 2147483648) : QRY id aX ar (f_X6_ofTrain N aX s t (iI z) w) (f_X7_ofTrain N sc ar (iI z) w) := by
  have w0 := hw.1
  unfold f_X6_ofTrain f_X7_ofTrain
  rw [x1_hasTrain h hw hz.1 hz.2, x7_isTrain g hw hz.1 hz.2]
  simp only [x6_refused cod1, x7_no cod1, x6_refused cod2, x7_no cod2, Option.bind_some]
  by_cases hin : 0 ≤ z ∧ z < A 9 0
  · rw [bI_t hin]
    simp only [if_neg one_ne, if_neg (ob_int (z := z) (n := 4) (by omega) (by omega) (by omega))]
    obtain ⟨b, rfl⟩ : ∃ b : Nat, z = (b : Int) := ⟨z.toNat, by omega⟩
    obtain ⟨⟨u0, u1, u2, u3⟩, hk, -⟩ := TR_of h hw hin.2
    have et := g.2.2.2.2.1 b hin.2
    simp only [ix_nat (show b < 2147483648 by omega), u0, u1, u2, u3, et.1, et.2.1, et.2.2.1, et.2.2.2, x5_eye u0 u1 hk, x7_eye g hw hin.2, Option.bind_some]
    by_cases h1 : w = 0
    · simp only [if_pos h1]; exact Or.inl ⟨_, rfl, rfl⟩
    simp only [if_neg h1]
    by_cases h1 : w = 1
    · simp only [if_pos h1]; exact Or.inl ⟨_, rfl, rfl⟩
    simp only [if_neg h1]
    by_cases h1 : w = 2
    · simp only [if_pos h1]; exact Or.inl ⟨_, rfl, rfl⟩
    simp only [if_neg h1]
    by_cases h1 : w = 3
    · simp only [if_pos h1]; exact Or.inl ⟨_, rfl, rfl⟩
    simp only [if_neg h1]
    by_cases h1 : w = 4
    · simp only [if_pos h1]; exact Or.inl ⟨_, rfl, rfl⟩
    simp only [if_neg h1]
    exact Or.inr ⟨-2, cod2, rfl, rfl⟩
  · rw [bI_f hin]
    exact Or.inr ⟨-1, cod1, rfl, rfl⟩
theorem q_time (hN : 100 ≤ N) (h : LA A s a t p q) (g : MA A sc ar) (hw : WF A) {z c : Int} (hz : -2147483648 ≤ z ∧ z < 2147483648) (hc : -2147483648 ≤ c ∧ c < 2147483648) : QRY id aX ar (f_X6_time N aX s a t (iI z) (iI c)) (f_X7_time N sc ar (iI z) (iI c)) := by
  have w0 := hw.1
  obtain ⟨all, ea, hm⟩ := x1_all (N := N) h hw
  unfold f_X6_time f_X7_time
  rw [x1_hasTrain h hw hz.1 hz.2, x7_isTrain g hw hz.1 hz.2, x1_hasCell h hw hc.1 hc.2, x7_isCell g hw hc.1 hc.2, ea]
  simp only [x6_refused cod1, x7_no cod1, Option.bind_some]
  by_cases hin : 0 ≤ z ∧ z < A 9 0
  · rw [bI_t hin]
    by_cases hcc : 0 ≤ c ∧ c < A 0 0
    · rw [bI_t hcc]
      obtain ⟨b, rfl⟩ : ∃ b : Nat, z = (b : Int) := ⟨z.toNat, by omega⟩
      obtain ⟨⟨u0, u1, u2, u3⟩, hk, hf, hs, hww⟩ := TR_of h hw hin.2
      simp only [if_neg one_ne, if_neg (ob_nat (i := b) (n := 4) (by omega) (by omega)), ix_nat (show b < 2147483648 by omega), x1_timeIn hN h hw hm u0 u1 u2 u3 hk hs hww hcc, x7_timeOf hN g hw hin.2 hcc, Option.bind_some]
      exact Or.inl ⟨_, rfl, rfl⟩
    · rw [bI_f hcc]
      exact Or.inr ⟨-1, cod1, rfl, rfl⟩
  · rw [bI_f hin]
    exact Or.inr ⟨-1, cod1, rfl, rfl⟩
theorem x6_oneIf {P : Prop} : f_X6_oneIf N (bI P) = some (bI P) := by
  unfold f_X6_oneIf
  rw [bI_n]
theorem q_sight (hN : 100 ≤ N) (h : LA A s a t p q) (g : MA A sc ar) (hw : WF A) (hg : sc 25 = 0) {x hx y hy : Int} (h1 : -2147483648 ≤ x ∧ x < 2147483648) (h2 : -2147483648 ≤ hx ∧ hx < 2147483648) (h3 : -2147483648 ≤ y ∧ y < 2147483648) (h4 : -2147483648 ≤ hy ∧ hy < 2147483648) : QRY id aX ar (f_X6_sight N aX s a (iI x) (iI hx) (iI y) (iI hy)) (f_X7_sight N sc ar (iI x) (iI hx) (iI y) (iI hy)) := by
  have w0 := hw.1
  have hgm : MG (sc 25) mT (A 2 0) := by rw [hg]; exact MG_0 (by omega)
  obtain ⟨all, ea, hm⟩ := x1_all (N := N) h hw
  unfold f_X6_sight f_X7_sight
  rw [x1_hasCell h hw h1.1 h1.2, x7_isCell g hw h1.1 h1.2, x1_hasCell h hw h3.1 h3.2, x7_isCell g hw h3.1 h3.2, ea]
  simp only [x6_refused cod1, x7_no cod1, x6_refused cod4, x7_no cod4, x6_refused cod6, x7_no cod6, Option.bind_some]
  by_cases hin : 0 ≤ x ∧ x < A 0 0
  · rw [bI_t hin]
    by_cases hin2 : 0 ≤ y ∧ y < A 0 0
    · rw [bI_t hin2]
      simp only [if_neg one_ne]
      by_cases c1 : x = y
      · simp only [if_pos (show iI x = iI y by rw [c1])]
        exact Or.inr ⟨-1, cod1, rfl, rfl⟩
      simp only [if_neg (show ¬ iI x = iI y by rw [iI_eq (by omega) (by omega) (by omega) (by omega)]; exact c1)]
      by_cases c2 : hx < 0
      · simp only [if_pos (show iI hx < 0 by rw [iI_lt0 h2.1 h2.2]; exact c2)]
        exact Or.inr ⟨-4, cod4, rfl, rfl⟩
      simp only [if_neg (show ¬ iI hx < 0 by rw [iI_lt0 h2.1 h2.2]; exact c2)]
      by_cases c3 : 0 ≤ hy
      · simp only [if_pos (show 0 ≤ iI hy by rw [iI_0le h4.1 h4.2]; exact c3)]
        by_cases c4 : 60 < hx
        · simp only [if_pos (show 60 < iI hx from lt_iI (a := 60) c4 (by omega) h2.2)]
          exact Or.inr ⟨-6, cod6, rfl, rfl⟩
        simp only [if_neg (show ¬ 60 < iI hx from nlt_iI (a := 60) (by omega) (by omega) (by omega))]
        by_cases c5 : hy ≤ 60
        · simp only [if_pos (show iI hy ≤ 60 from le_iI (b := 60) c5 (by omega) (by omega)), x1_isClear hN h hw hm hin hin2 c1 (show 0 ≤ hx ∧ hx ≤ 100 by omega) (show 0 ≤ hy ∧ hy ≤ 100 by omega), x7_isClear hN g hw hgm hin hin2 c1 (show 0 ≤ hx ∧ hx ≤ 100 by omega) (show 0 ≤ hy ∧ hy ≤ 100 by omega), Option.bind_some, x6_oneIf, bI_n]
          exact Or.inl ⟨_, rfl, rfl⟩
        · simp only [if_neg (show ¬ iI hy ≤ 60 from nle_iI (b := 60) (by omega) (by omega) (by omega))]
          exact Or.inr ⟨-6, cod6, rfl, rfl⟩
      · simp only [if_neg (show ¬ 0 ≤ iI hy by rw [iI_0le h4.1 h4.2]; exact c3)]
        exact Or.inr ⟨-4, cod4, rfl, rfl⟩
    · rw [bI_f hin2]
      exact Or.inr ⟨-1, cod1, rfl, rfl⟩
  · rw [bI_f hin]
    exact Or.inr ⟨-1, cod1, rfl, rfl⟩
theorem q_sees (hN : 100 ≤ N) (h : LA A s a t p q) (g : MA A sc ar) (hw : WF A) (hg : sc 25 = 0) {x y z : Int} (h1 : -2147483648 ≤ x ∧ x < 2147483648) (h2 : -2147483648 ≤ y ∧ y < 2147483648) (h3 : -2147483648 ≤ z ∧ z < 2147483648) : QRY id aX ar (f_X6_sees N aX s a t (iI x) (iI y) (iI z)) (f_X7_sees N sc ar (iI x) (iI y) (iI z)) := by
  have w0 := hw.1
  have hgm : MG (sc 25) mT (A 2 0) := by rw [hg]; exact MG_0 (by omega)
  obtain ⟨all, ea, hm⟩ := x1_all (N := N) h hw
  unfold f_X6_sees f_X7_sees
  rw [x1_hasTrain h hw h1.1 h1.2, x7_isTrain g hw h1.1 h1.2, x1_hasPost h hw h2.1 h2.2, x7_isPost g hw h2.1 h2.2, x1_hasCell h hw h3.1 h3.2, x7_isCell g hw h3.1 h3.2, ea]
  simp only [x6_refused cod1, x7_no cod1, Option.bind_some]
  by_cases c1 : 0 ≤ x ∧ x < A 9 0
  · rw [bI_t c1]
    by_cases c2 : 0 ≤ y ∧ y < A 6 0
    · rw [bI_t c2]
      by_cases c3 : 0 ≤ z ∧ z < A 0 0
      · rw [bI_t c3]
        obtain ⟨b, rfl⟩ : ∃ b : Nat, x = (b : Int) := ⟨x.toNat, by omega⟩
        obtain ⟨i, rfl⟩ : ∃ b : Nat, y = (b : Int) := ⟨y.toNat, by omega⟩
        simp only [if_neg one_ne, if_neg (ob_nat (i := b) (n := 4) (by omega) (by omega)), ix_nat (show b < 2147483648 by omega), x1_seesPost hN h hw hm (TR_of h hw c1.2) c2.2 c3, x7_isSeen hN g hw hgm c1.2 c2.2 c3, Option.bind_some, x6_oneIf, bI_n]
        exact Or.inl ⟨_, rfl, rfl⟩
      · rw [bI_f c3]
        exact Or.inr ⟨-1, cod1, rfl, rfl⟩
    · rw [bI_f c2]
      exact Or.inr ⟨-1, cod1, rfl, rfl⟩
  · rw [bI_f c1]
    exact Or.inr ⟨-1, cod1, rfl, rfl⟩
theorem q_first (hN : 100 ≤ N) (h : LA A s a t p q) (g : MA A sc ar) (hw : WF A) (hg : sc 25 = 0) {x y : Int} (h1 : -2147483648 ≤ x ∧ x < 2147483648) (h2 : -2147483648 ≤ y ∧ y < 2147483648) : QRY id aX ar (f_X6_first N aX s a t (iI x) (iI y)) (f_X7_first N sc ar (iI x) (iI y)) := by
  have w0 := hw.1
  obtain ⟨all, ea, hm⟩ := x1_all (N := N) h hw
  unfold f_X6_first f_X7_first
  rw [x1_hasTrain h hw h1.1 h1.2, x7_isTrain g hw h1.1 h1.2, x1_hasPost h hw h2.1 h2.2, x7_isPost g hw h2.1 h2.2, ea]
  simp only [x6_refused cod1, x7_no cod1, Option.bind_some]
  by_cases c1 : 0 ≤ x ∧ x < A 9 0
  · rw [bI_t c1]
    by_cases c2 : 0 ≤ y ∧ y < A 6 0
    · rw [bI_t c2]
      obtain ⟨b, rfl⟩ : ∃ b : Nat, x = (b : Int) := ⟨x.toNat, by omega⟩
      obtain ⟨i, rfl⟩ : ∃ b : Nat, y = (b : Int) := ⟨y.toNat, by omega⟩
      have ep := h.2.2.2.2.1 i c2.2
      have wp := hw.2.2.2.1 i c2.2
      simp only [if_neg one_ne, if_neg (ob_nat (i := b) (n := 4) (by omega) (by omega)), if_neg (ob_nat (i := i) (n := 5) (by omega) (by omega)), ix_nat (show b < 2147483648 by omega), ix_nat (show i < 2147483648 by omega), ep.1, ep.2, x1_firstCell hN h hw hm (TR_of h hw c1.2) (show 0 ≤ A 7 i ∧ A 7 i < A 0 0 by omega) (show 0 ≤ A 8 i ∧ A 8 i ≤ 60 by omega), x7_firstOf hN g hw hg c1.2 c2.2, Option.bind_some]
      exact Or.inl ⟨_, rfl, rfl⟩
    · rw [bI_f c2]
      exact Or.inr ⟨-1, cod1, rfl, rfl⟩
  · rw [bI_f c1]
    exact Or.inr ⟨-1, cod1, rfl, rfl⟩
theorem q_warned (hN : 100 ≤ N) (h : LA A s a t p q) (g : MA A sc ar) (hw : WF A) (hg : sc 25 = 0) {x y : Int} (h1 : -2147483648 ≤ x ∧ x < 2147483648) (h2 : -2147483648 ≤ y ∧ y < 2147483648) : QRY id aX ar (f_X6_warned N aX s a t (iI x) (iI y)) (f_X7_warned N sc ar (iI x) (iI y)) := by
  have w0 := hw.1
  obtain ⟨all, ea, hm⟩ := x1_all (N := N) h hw
  unfold f_X6_warned f_X7_warned
  rw [x1_hasTrain h hw h1.1 h1.2, x7_isTrain g hw h1.1 h1.2, x1_hasPost h hw h2.1 h2.2, x7_isPost g hw h2.1 h2.2, ea]
  simp only [x6_refused cod1, x7_no cod1, Option.bind_some]
  by_cases c1 : 0 ≤ x ∧ x < A 9 0
  · rw [bI_t c1]
    by_cases c2 : 0 ≤ y ∧ y < A 6 0
    · rw [bI_t c2]
      obtain ⟨b, rfl⟩ : ∃ b : Nat, x = (b : Int) := ⟨x.toNat, by omega⟩
      obtain ⟨i, rfl⟩ : ∃ b : Nat, y = (b : Int) := ⟨y.toNat, by omega⟩
      simp only [if_neg one_ne, if_neg (ob_nat (i := b) (n := 4) (by omega) (by omega)), ix_nat (show b < 2147483648 by omega), x1_wP hN h hw hm c2.2 c1.2, x7_warnedOf hN g hw hg c1.2 c2.2, Option.bind_some]
      exact Or.inl ⟨_, rfl, rfl⟩
    · rw [bI_f c2]
      exact Or.inr ⟨-1, cod1, rfl, rfl⟩
  · rw [bI_f c1]
    exact Or.inr ⟨-1, cod1, rfl, rfl⟩
theorem q_safe (hN : 100 ≤ N) (h : LA A s a t p q) (g : MA A sc ar) (hw : WF A) (hg : sc 25 = 0) : ∃ r, f_X6_safe N s a t = some r ∧ f_X7_safe N sc ar = some r := by
  obtain ⟨all, ea, hm⟩ := x1_all (N := N) h hw
  unfold f_X6_safe f_X7_safe
  rw [ea, x7_isSafe hN g hw hg]
  simp only [Option.bind_some, x1_isSafe hN h hw hm, x6_oneIf, bI_n]
  exact ⟨_, rfl, rfl⟩
theorem q_atOnce (hN : 100 ≤ N) (h : LA A s a t p q) (g : MA A sc ar) (hw : WF A) (hg : sc 25 = 0) {x y : Int} (h1 : -2147483648 ≤ x ∧ x < 2147483648) (h2 : -2147483648 ≤ y ∧ y < 2147483648) : QRY id aX ar (f_X6_atOnce N aX s a t (iI x) (iI y)) (f_X7_atOnce N sc ar (iI x) (iI y)) := by
  have w0 := hw.1
  unfold f_X6_atOnce f_X7_atOnce
  rw [x1_hasTrain h hw h1.1 h1.2, x7_isTrain g hw h1.1 h1.2, x1_hasCell h hw h2.1 h2.2, x7_isCell g hw h2.1 h2.2]
  simp only [x6_refused cod1, x7_no cod1, Option.bind_some]
  by_cases c1 : 0 ≤ x ∧ x < A 9 0
  · rw [bI_t c1]
    by_cases c2 : 0 ≤ y ∧ y < A 0 0
    · rw [bI_t c2]
      obtain ⟨b, rfl⟩ : ∃ b : Nat, x = (b : Int) := ⟨x.toNat, by omega⟩
      simp only [if_neg one_ne, if_neg (ob_nat (i := b) (n := 4) (by omega) (by omega)), ix_nat (show b < 2147483648 by omega), x1_postsSeen hN h hw (TR_of h hw c1.2) c2, x7_seenFrom hN g hw hg c1.2 c2, Option.bind_some]
      exact Or.inl ⟨_, rfl, rfl⟩
    · rw [bI_f c2]
      exact Or.inr ⟨-1, cod1, rfl, rfl⟩
  · rw [bI_f c1]
    exact Or.inr ⟨-1, cod1, rfl, rfl⟩
end PC14
