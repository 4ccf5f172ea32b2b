-- ===== reading letters =====
def chr (L : Nat → Int) (n i : Nat) : Int := if i < n then L i else -1
def PZ (L : Nat → Int) (n : Nat) (es : S1) (ea : S2) (sc : S1) (ar : S2) (i : Nat) : Prop := (n ≤ 120 ∧ i ≤ n) ∧ (es 0 = iI n ∧ es 1 = iI i ∧ sc 20 = iI n ∧ sc 33 = iI i) ∧ ∀ j : Nat, j < n → (0 ≤ L j ∧ L j ≤ 255) ∧ ea 2 j = iI (L j) ∧ ar 19 j = iI (L j)
theorem PZ_chr {L : Nat → Int} {n : Nat} {es : S1} {ea : S2} {sc : S1} {ar : S2} {i : Nat} (h : PZ L n es ea sc ar i) (j : Nat) : -1 ≤ chr L n j ∧ chr L n j ≤ 255 := by
  unfold chr
  split
  · next c => have := (h.2.2 j c).1; omega
  · omega
theorem PZ_to {L : Nat → Int} {n : Nat} {es es' : S1} {ea ea' : S2} {sc sc' : S1} {ar ar' : S2} {i i' : Nat} (h : PZ L n es ea sc ar i) (hi : i' ≤ n) (e0 : es' 0 = es 0) (e1 : es' 1 = iI i') (e2 : ea' 2 = ea 2) (e3 : sc' 20 = sc 20) (e4 : sc' 33 = iI i') (e5 : ar' 19 = ar 19) : PZ L n es' ea' sc' ar' i' := by
  obtain ⟨⟨h1, h2⟩, ⟨h3, h4, h5, h6⟩, h7⟩ := h
  refine ⟨⟨h1, hi⟩, ⟨by rw [e0]; exact h3, e1, by rw [e3]; exact h5, e4⟩, ?_⟩
  rw [e2, e5]; exact h7
def wT : List (List Int) := [[103, 114, 111, 117, 110, 100], [98, 114, 105, 100, 103, 101], [112, 111, 115, 116], [116, 114, 97, 105, 110], [110, 101, 101, 100], [99, 101, 108, 108, 115], [112, 108, 97, 99, 101]]
def wl (w j : Nat) : Int := (wT.getD w []).getD j 0
def wlen (w : Nat) : Nat := (wT.getD w []).length
def nof (w : Nat) : Nat := [2, 3, 2, 4, 1, 1, 1].getD w 0
theorem wl_all : ∀ w : Fin 7, ∀ j : Fin 6, j.val < wlen w.val → (¬ sBad w.val (iI (j.val : Int)) ∧ sAt w.val (iI (j.val : Int)) = iI (wl w.val j.val) ∧ 97 ≤ wl w.val j.val ∧ wl w.val j.val ≤ 122) := by decide
theorem wlen_all : ∀ w : Fin 7, sLen w.val = iI (wlen w.val : Int) ∧ 4 ≤ wlen w.val ∧ wlen w.val ≤ 6 ∧ f_X0_textOf 0 (iI (w.val : Int)) = some w.val ∧ f_X7_word 0 (iI (w.val : Int)) = some w.val ∧ f_X7_numbersOf 0 (iI (w.val : Int)) = some (iI (nof w.val : Int)) ∧ numbersOfT w.val = iI (nof w.val : Int) ∧ 1 ≤ nof w.val ∧ nof w.val ≤ 4 := by decide
theorem wpf_all : ∀ w w' : Fin 7, wlen w.val ≤ wlen w'.val → (∀ j : Fin 6, j.val < wlen w.val → wl w.val j.val = wl w'.val j.val) → w = w' := by decide
set_option maxRecDepth 100000 in
theorem mk7_all : ∀ k : Fin 128, ∀ i : Fin 7, (((iI (k.val : Int) >>> (iI (i.val : Int) &&& 31)) &&& 1) = 1) ↔ (k.val.testBit i.val = true) := by decide
set_option maxRecDepth 100000 in
theorem or7_all : ∀ w : Fin 7, ∀ k : Fin 64, k.val < 2 ^ w.val → iI (k.val : Int) ||| ((1 : Int32) <<< (iI (w.val : Int) &&& 31)) = iI ((k.val + 2 ^ w.val : Nat) : Int) := by decide
set_option maxRecDepth 100000 in
theorem z7_all : ∀ k : Fin 128, (∀ w : Fin 7, ¬ k.val.testBit w.val = true) → k.val = 0 := by decide
theorem or_0 (x : Int32) : x ||| 0 = x := by
  apply Int32.toBitVec_inj.mp
  simp
def MW (L : Nat → Int) (n i w k : Nat) : Prop := k ≤ wlen w ∧ ∀ j : Nat, j < k → chr L n (i + j) = wl w j
theorem MW_0 {L : Nat → Int} {n i w : Nat} : MW L n i w 0 := ⟨Nat.zero_le _, fun j hj => absurd hj (by omega)⟩
theorem MW_le {L : Nat → Int} {n i w k k' : Nat} (h : MW L n i w k) (hk : k' ≤ k) : MW L n i w k' := ⟨by have := h.1; omega, fun j hj => h.2 j (by omega)⟩
theorem MW_s {L : Nat → Int} {n i w k : Nat} : MW L n i w (k + 1) ↔ MW L n i w k ∧ k < wlen w ∧ chr L n (i + k) = wl w k := by
  constructor
  · intro h; exact ⟨MW_le h (by omega), h.1, h.2 k (by omega)⟩
  · rintro ⟨h1, h2, h3⟩
    refine ⟨h2, fun j hj => ?_⟩
    rcases Nat.eq_or_lt_of_le (Nat.lt_succ_iff.1 hj) with e | e
    · subst e; exact h3
    · exact h1.2 j e
theorem MW_pf {L : Nat → Int} {n i w w' k : Nat} (hw : w < 7) (hw' : w' < 7) (h : MW L n i w (wlen w)) (h' : MW L n i w' k) (hk : wlen w ≤ k) : w = w' := by
  have := wpf_all ⟨w, hw⟩ ⟨w', hw'⟩ (by have := h'.1; simp only; omega) (fun j hj => by
    simp only at hj ⊢
    rw [← h.2 j.val hj, ← h'.2 j.val (by omega)])
  exact Fin.mk.inj_iff.1 this
section PC28
variable {N : Nat} {L : Nat → Int} {n : Nat} {es : S1} {ea : S2} {sc : S1} {ar : S2} {i : Nat}
theorem MW_n (hn : i ≤ n) {w k : Nat} (hw : w < 7) (h : MW L n i w k) : i + k ≤ n := by
  cases k with
  | zero => omega
  | succ k =>
    have h1 := (MW_s.1 h)
    have h2 := wlen_all ⟨w, hw⟩
    simp only at h2
    have h3 := wl_all ⟨w, hw⟩ ⟨k, by omega⟩ h1.2.1
    simp only at h3
    have h4 := h1.2.2
    unfold chr at h4
    by_cases c : i + k < n
    · omega
    · rw [if_neg c] at h4; omega
theorem x7_here (h : PZ L n es ea sc ar i) : f_X7_here N sc ar = some (iI (chr L n i)) := by
  obtain ⟨⟨h1, h2⟩, ⟨h3, h4, h5, h6⟩, h7⟩ := h
  unfold f_X7_here chr
  rw [h5, h6]
  by_cases c : i < n
  · rw [if_neg (nle_iI (by omega) (by omega) (by omega)), if_neg (ob_nat (show i < 120 by omega) (by omega)), if_pos c, ix_nat (by omega), (h7 i c).2.2]; rfl
  · rw [if_pos (le_iI (by omega) (by omega) (by omega)), if_neg c]; decide
theorem x0_between (h : PZ L n es ea sc ar i) {lo hi : Int} (hl : 0 ≤ lo ∧ lo ≤ 255) (hh : 0 ≤ hi ∧ hi ≤ 255) : f_X0_isBetween N es ea (iI lo) (iI hi) = some (bI (lo ≤ chr L n i ∧ chr L n i ≤ hi)) := by
  obtain ⟨⟨h1, h2⟩, ⟨h3, h4, h5, h6⟩, h7⟩ := h
  unfold f_X0_isBetween chr
  rw [h3, h4]
  by_cases c : i < n
  · have hL := (h7 i c).1
    rw [if_neg (nle_iI (by omega) (by omega) (by omega)), if_neg (ob_nat (show i < 120 by omega) (by omega)), if_neg (ob_nat (show i < 120 by omega) (by omega)), if_pos c, ix_nat (by omega), (h7 i c).2.1, itelt (by omega) (by omega) (by omega) (by omega), itelt (by omega) (by omega) (by omega) (by omega)]
    by_cases c1 : L i < lo
    · rw [if_pos c1, bI_f (by omega)]; rfl
    · rw [if_neg c1]
      by_cases c2 : hi < L i
      · rw [if_pos c2, bI_f (by omega)]; rfl
      · rw [if_neg c2, bI_t (by omega)]; rfl
  · rw [if_pos (le_iI (by omega) (by omega) (by omega)), if_neg c, bI_f (by omega)]; rfl
theorem sign_both (h : PZ L n es ea sc ar i) {c : Int} (hc : 0 ≤ c ∧ c ≤ 255) : (chr L n i = c ∧ i < n ∧ f_X0_readSign N es ea (iI c) = some (1, upd es 1 (iI ((i + 1 : Nat) : Int))) ∧ f_X7_takes N sc ar (iI c) = some (1, upd sc 33 (iI ((i + 1 : Nat) : Int)))) ∨ (chr L n i ≠ c ∧ f_X0_readSign N es ea (iI c) = some (0, es) ∧ f_X7_takes N sc ar (iI c) = some (0, sc)) := by
  have hb := PZ_chr h i
  unfold f_X0_readSign f_X7_takes
  rw [x0_between h hc hc, x7_here h, Option.bind_some, Option.bind_some, iteeq (by omega) (by omega) (by omega) (by omega), h.2.1.2.1, h.2.1.2.2.2, iI_succ]
  by_cases e : chr L n i = c
  · rw [bI_t (by omega), if_neg one_ne, if_pos e]
    refine Or.inl ⟨e, ?_, rfl, rfl⟩
    by_cases z : i < n
    · exact z
    · unfold chr at e; rw [if_neg z] at e; omega
  · rw [bI_f (by omega), if_pos rfl, if_neg e]
    exact Or.inr ⟨e, rfl, rfl⟩
theorem PZ_s (h : PZ L n es ea sc ar i) (hi : i < n) : PZ L n (upd es 1 (iI ((i + 1 : Nat) : Int))) ea (upd sc 33 (iI ((i + 1 : Nat) : Int))) ar (i + 1) :=
  PZ_to h hi (ud_ne (by decide)) (ud_eq _ _ _) rfl (ud_ne (by decide)) (ud_eq _ _ _) rfl
theorem x0_begins (hN : 100 ≤ N) {k0 : Nat} (h : PZ L n es ea sc ar k0) (hi : i ≤ n) {w k : Nat} (hw : w < 7) (hk : k ≤ 6) : f_X0_beginsWord N es ea (iI w) (iI i) (iI k) = some (bI (MW L n i w k)) := by
  obtain ⟨⟨h1, h2⟩, ⟨h3, h4, h5, h6⟩, h7⟩ := h
  have hl := wlen_all ⟨w, hw⟩
  simp only at hl
  have e0 : f_X0_textOf N (iI (w : Int)) = some w := hl.2.2.2.1
  unfold f_X0_beginsWord
  rw [e0, Option.bind_some, if_neg (by omega), hl.1, itelt (by omega) (by omega) (by omega) (by omega), iI_add, h3, itele (by omega) (by omega) (by omega) (by omega)]
  by_cases c1 : (wlen w : Int) < k
  · rw [if_pos c1, bI_f (fun z => by have := z.1; omega)]
  rw [if_neg c1]
  by_cases c2 : (i : Int) + k ≤ n
  · rw [if_pos c2]
    rcases lp_any (F := fun m j => f_X0_beginsWord_L30 N es ea (iI i) (iI k) w (fun _ => some 1) m (iI (j : Int))) (fin := some 1) (r := fun _ => some 0) (P := fun j => ¬ chr L n (i + j) = wl w j) (n := k)
      (by
        intro m
        show f_X0_beginsWord_L30 N es ea (iI i) (iI k) w (fun _ => some 1) (m + 1) (iI (k : Int)) = _
        rw [f_X0_beginsWord_L30, if_pos (le_iI (by omega) (by omega) (by omega))])
      (by
        intro m j hj
        have hq := wl_all ⟨w, hw⟩ ⟨j, by omega⟩ (by simp only; omega)
        simp only at hq
        have ec : chr L n (i + j) = L (i + j) := by unfold chr; rw [if_pos (by omega)]
        have hL := (h7 (i + j) (by omega))
        have es1 : f_X0_beginsWord_L30 N es ea (iI i) (iI k) w (fun _ => some 1) (m + 1) (iI (j : Int)) = if chr L n (i + j) = wl w j then f_X0_beginsWord_L30 N es ea (iI i) (iI k) w (fun _ => some 1) m (iI ((j + 1 : Nat) : Int)) else some 0 := by
          rw [f_X0_beginsWord_L30, if_neg (nle_iI (by omega) (by omega) (by omega)), if_neg hq.1, iI_add, ← Int.natCast_add, if_neg (ob_nat (show i + j < 120 by omega) (by omega)), ix_nat (by omega), hq.2.1, hL.2.1, iteeq (by omega) (by omega) (by omega) (by omega), iI_succ, ec]
          by_cases e : wl w j = L (i + j)
          · rw [if_pos e, if_pos e.symm]
          · rw [if_neg e, if_neg (fun z => e z.symm)]
        constructor
        · intro hp
          show f_X0_beginsWord_L30 N es ea (iI i) (iI k) w (fun _ => some 1) (m + 1) (iI (j : Int)) = _
          rw [es1, if_neg hp]
        · intro hp
          show f_X0_beginsWord_L30 N es ea (iI i) (iI k) w (fun _ => some 1) (m + 1) (iI (j : Int)) = _
          rw [es1, if_pos (Classical.not_not.1 hp)])
      N 0 (by omega) (by omega) with ⟨j, -, a2, a3, -, a5⟩ | ⟨a1, a2⟩
    · rw [bI_f (fun z => a3 (z.2 j a2))]; exact a5
    · rw [bI_t ⟨by omega, fun j hj => Classical.not_not.1 (a1 j (by omega) hj)⟩]; exact a2
  · rw [if_neg c2, bI_f (fun z => by have := MW_n hi hw z; omega)]
/-- which word goes on: the class's inner loop -/
theorem x0_goes {β : Type} (hN : 100 ≤ N) {k0 : Nat} (h : PZ L n es ea sc ar k0) (hi : i ≤ n) {k : Nat} (hk : k ≤ 6) {kx : Int32 → S1 → Option β} : ((∀ w, w < 7 → ¬ MW L n i w k) ∧ f_X0_readWord_L25 N ea (iI i) (iI k) kx N 0 0 es = kx 0 es) ∨ (∃ w, w < 7 ∧ MW L n i w k ∧ f_X0_readWord_L25 N ea (iI i) (iI k) kx N 0 0 es = kx 1 (upd es 3 (iI (w : Int)))) := by
  obtain ⟨⟨v, es'⟩, i1, e1⟩ := lp_inv (R := β) (F := fun m j (x : Int32 × S1) => f_X0_readWord_L25 N ea (iI i) (iI k) kx m x.1 (iI (j : Int)) x.2) (I := fun j x => ((∀ w, w < j → ¬ MW L n i w k) ∧ x.1 = 0 ∧ x.2 = es) ∨ (∃ w, w < j ∧ MW L n i w k ∧ x.1 = 1 ∧ x.2 = upd es 3 (iI (w : Int)))) (kx := fun x => kx x.1 x.2) (n := 7)
    (by
      rintro m ⟨v, es'⟩ _
      show f_X0_readWord_L25 N ea (iI i) (iI k) kx (m + 1) v (iI ((7 : Nat) : Int)) es' = _
      rw [f_X0_readWord_L25, if_pos (show (7 : Int32) ≤ iI ((7 : Nat) : Int) from le_iI (a := 7) (by omega) (by omega) (by omega))])
    (by
      rintro m j ⟨v, es'⟩ hj hI
      have hz : PZ L n es' ea sc ar k0 := by
        rcases hI with ⟨-, -, z⟩ | ⟨w, -, -, -, z⟩
        · simp only at z; rw [z]; exact h
        · simp only at z; rw [z]; exact PZ_to h h.1.2 (ud_ne (by decide)) (by rw [ud_ne (by decide)]; exact h.2.1.2.1) rfl rfl h.2.1.2.2.2 rfl
      by_cases c : MW L n i j k
      · refine ⟨(1, upd es 3 (iI (j : Int))), Or.inr ⟨j, by omega, c, rfl, rfl⟩, ?_⟩
        show f_X0_readWord_L25 N ea (iI i) (iI k) kx (m + 1) v (iI (j : Int)) es' = _
        have e3 : upd es' 3 (iI (j : Int)) = upd es 3 (iI (j : Int)) := by
          rcases hI with ⟨-, -, z⟩ | ⟨w, -, -, -, z⟩
          · simp only at z; rw [z]
          · simp only at z; rw [z, ud_ud]
        rw [f_X0_readWord_L25, if_neg (show ¬ (7 : Int32) ≤ iI (j : Int) from nle_iI (a := 7) (by omega) (by omega) (by omega)), x0_begins hN hz hi hj hk, bI_t c, Option.bind_some, if_neg one_ne, Option.bind_some, iI_succ, e3]
      · refine ⟨(v, es'), ?_, ?_⟩
        · rcases hI with ⟨y, z1, z⟩ | ⟨w, y, y2, z1, z⟩
          · refine Or.inl ⟨fun w hw => ?_, z1, z⟩
            rcases Nat.eq_or_lt_of_le (Nat.lt_succ_iff.1 hw) with e | e
            · subst e; exact c
            · exact y w e
          · exact Or.inr ⟨w, by omega, y2, z1, z⟩
        · show f_X0_readWord_L25 N ea (iI i) (iI k) kx (m + 1) v (iI (j : Int)) es' = _
          rw [f_X0_readWord_L25, if_neg (show ¬ (7 : Int32) ≤ iI (j : Int) from nle_iI (a := 7) (by omega) (by omega) (by omega)), x0_begins hN hz hi hj hk, bI_f c, Option.bind_some, if_pos rfl, Option.bind_some, iI_succ])
    N 0 (0, es) (by omega) (by omega) (Or.inl ⟨fun w hw => absurd hw (by omega), rfl, rfl⟩)
  have e1' : f_X0_readWord_L25 N ea (iI i) (iI k) kx N 0 0 es = kx v es' := e1
  rcases i1 with ⟨a1, a2, a3⟩ | ⟨w, a1, a2, a3, a4⟩
  · simp only at a2 a3
    exact Or.inl ⟨a1, by rw [e1', a2, a3]⟩
  · simp only at a3 a4
    exact Or.inr ⟨w, a1, a2, by rw [e1', a3, a4]⟩
/-- the model's inner loop: no word ends here -/
theorem x7_goes (hN : 100 ≤ N) {k m : Nat} (h : PZ L n es ea sc ar (i + k)) (hk : k ≤ 6) (hm : m < 128) (hb : ∀ w, w < 7 → (m.testBit w = true ↔ MW L n i w k)) (hc : ∀ w, w < 7 → MW L n i w k → wlen w ≠ k) {kx : Int32 → Option (Int32 × S1)} : ∃ m' : Nat, m' < 128 ∧ (∀ w, w < 7 → (m'.testBit w = true ↔ MW L n i w (k + 1))) ∧ f_X7_readWord_L14 N sc ar (iI m) (iI k) kx N 0 0 = kx (iI m') := by
  have hch := PZ_chr h (i + k)
  obtain ⟨v, ⟨m', h1, h2, h3⟩, e1⟩ := lp_inv (R := Int32 × S1) (F := fun c j (x : Int32) => f_X7_readWord_L14 N sc ar (iI m) (iI k) kx c x (iI (j : Int))) (I := fun j x => ∃ m' : Nat, m' < 2 ^ j ∧ (∀ w, w < j → (m'.testBit w = true ↔ MW L n i w (k + 1))) ∧ x = iI (m' : Int)) (kx := kx) (n := 7)
    (by
      intro c v _
      show f_X7_readWord_L14 N sc ar (iI m) (iI k) kx (c + 1) v (iI ((7 : Nat) : Int)) = _
      rw [f_X7_readWord_L14, if_pos (show (7 : Int32) ≤ iI ((7 : Nat) : Int) from le_iI (a := 7) (by omega) (by omega) (by omega))])
    (by
      rintro c j v hj ⟨m', h1, h2, rfl⟩
      have hp6 : 2 ^ j ≤ 2 ^ 6 := Nat.pow_le_pow_right (by decide) (by omega)
      have hl := wlen_all ⟨j, hj⟩
      simp only at hl
      have e5 : f_X7_word N (iI (j : Int)) = some j := hl.2.2.2.2.1
      have eb := mk7_all ⟨m, hm⟩ ⟨j, hj⟩
      simp only at eb
      have keep : ¬ MW L n i j (k + 1) → ∀ w, w < j + 1 → (m'.testBit w = true ↔ MW L n i w (k + 1)) := by
        intro hno w hw
        rcases Nat.eq_or_lt_of_le (Nat.lt_succ_iff.1 hw) with e | e
        · subst e
          rw [Nat.testBit_lt_two_pow h1]
          exact ⟨fun z => absurd z (by decide), fun z => absurd z hno⟩
        · exact h2 w e
      have lt' : m' < 2 ^ (j + 1) := by rw [Nat.pow_succ]; omega
      by_cases cb : m.testBit j = true
      · have hM := (hb j hj).1 cb
        have hlen := hc j hj hM
        have hlt : k < wlen j := by have := hM.1; omega
        have hq := wl_all ⟨j, hj⟩ ⟨k, by omega⟩ hlt
        simp only at hq
        have base : f_X7_readWord_L14 N sc ar (iI m) (iI k) kx (c + 1) (iI m') (iI (j : Int)) = f_X7_readWord_L14 N sc ar (iI m) (iI k) kx c (iI m' ||| (if wl j k = chr L n (i + k) then (1 : Int32) <<< (iI (j : Int) &&& 31) else 0)) (iI ((j + 1 : Nat) : Int)) := by
          have eh : f_X7_has N (iI m) (iI (j : Int)) = some 1 := by unfold f_X7_has; rw [if_pos (eb.2 cb)]
          rw [f_X7_readWord_L14, if_neg (show ¬ (7 : Int32) ≤ iI (j : Int) from nle_iI (a := 7) (by omega) (by omega) (by omega))]
          simp only [eh, e5, Option.bind_some, if_neg one_ne, if_neg (show ¬ 7 ≤ j by omega)]
          rw [hl.1, if_neg (by rw [iI_eq (by omega) (by omega) (by omega) (by omega)]; omega), if_neg hq.1, x7_here h]
          simp only [Option.bind_some]
          rw [hq.2.1, iteeq (by omega) (by omega) (by omega) (by omega), iI_succ]
        by_cases cc : chr L n (i + k) = wl j k
        · refine ⟨iI ((m' + 2 ^ j : Nat) : Int), ⟨m' + 2 ^ j, by rw [Nat.pow_succ]; omega, ?_, rfl⟩, ?_⟩
          · intro w hw
            rcases Nat.eq_or_lt_of_le (Nat.lt_succ_iff.1 hw) with e | e
            · subst e
              rw [Nat.add_comm, Nat.testBit_two_pow_add_eq, Nat.testBit_lt_two_pow h1]
              exact ⟨fun _ => MW_s.2 ⟨hM, hlt, cc⟩, fun _ => rfl⟩
            · rw [Nat.add_comm, Nat.testBit_two_pow_add_gt e]
              exact h2 w e
          · show f_X7_readWord_L14 N sc ar (iI m) (iI k) kx (c + 1) (iI m') (iI (j : Int)) = _
            rw [base, if_pos cc.symm, or7_all ⟨j, hj⟩ ⟨m', by omega⟩ h1]
        · refine ⟨iI m', ⟨m', lt', keep (fun z => cc (MW_s.1 z).2.2), rfl⟩, ?_⟩
          show f_X7_readWord_L14 N sc ar (iI m) (iI k) kx (c + 1) (iI m') (iI (j : Int)) = _
          rw [base, if_neg (fun z => cc z.symm), or_0]
      · refine ⟨iI m', ⟨m', lt', keep (fun z => cb ((hb j hj).2 (MW_s.1 z).1)), rfl⟩, ?_⟩
        show f_X7_readWord_L14 N sc ar (iI m) (iI k) kx (c + 1) (iI m') (iI (j : Int)) = _
        have eh : f_X7_has N (iI m) (iI (j : Int)) = some 0 := by unfold f_X7_has; rw [if_neg (fun z => cb (eb.1 z))]
        rw [f_X7_readWord_L14, if_neg (show ¬ (7 : Int32) ≤ iI (j : Int) from nle_iI (a := 7) (by omega) (by omega) (by omega))]
        simp only [eh, Option.bind_some, if_true]
        rw [or_0, iI_succ])
    N 0 0 (by omega) (by omega) ⟨0, by decide, fun w hw => absurd hw (by omega), rfl⟩
  have e1' : f_X7_readWord_L14 N sc ar (iI m) (iI k) kx N 0 0 = kx v := e1
  exact ⟨m', by omega, h2, by rw [e1', h3]⟩
/-- the model's inner loop: a word ends here -/
theorem x7_ends (hN : 100 ≤ N) {k m w0 : Nat} (hk : k ≤ 6) (hm : m < 128) (hb : ∀ w, w < 7 → (m.testBit w = true ↔ MW L n i w k)) (hw0 : w0 < 7) (hM : MW L n i w0 k) (hl0 : wlen w0 = k) {kx : Int32 → Option (Int32 × S1)} : f_X7_readWord_L14 N sc ar (iI m) (iI k) kx N 0 0 = some (iI w0, sc) := by
  have uq : ∀ w, w < 7 → MW L n i w k → w = w0 := fun w hw h => (MW_pf hw0 hw (by rw [hl0]; exact hM) h (by omega)).symm
  rcases lp_any (F := fun c j => f_X7_readWord_L14 N sc ar (iI m) (iI k) kx c 0 (iI (j : Int))) (fin := kx 0) (r := fun j => some (iI (j : Int), sc)) (P := fun j => MW L n i j k) (n := 7)
    (by
      intro c
      show f_X7_readWord_L14 N sc ar (iI m) (iI k) kx (c + 1) 0 (iI ((7 : Nat) : Int)) = _
      rw [f_X7_readWord_L14, if_pos (show (7 : Int32) ≤ iI ((7 : Nat) : Int) from le_iI (a := 7) (by omega) (by omega) (by omega))])
    (by
      intro c j hj
      have hl := wlen_all ⟨j, hj⟩
      simp only at hl
      have e5 : f_X7_word N (iI (j : Int)) = some j := hl.2.2.2.2.1
      have eb := mk7_all ⟨m, hm⟩ ⟨j, hj⟩
      simp only at eb
      constructor
      · intro hP
        have ej := uq j hj hP
        subst ej
        have eh : f_X7_has N (iI m) (iI (j : Int)) = some 1 := by unfold f_X7_has; rw [if_pos (eb.2 ((hb j hj).2 hP))]
        show f_X7_readWord_L14 N sc ar (iI m) (iI k) kx (c + 1) 0 (iI (j : Int)) = _
        rw [f_X7_readWord_L14, if_neg (show ¬ (7 : Int32) ≤ iI (j : Int) from nle_iI (a := 7) (by omega) (by omega) (by omega))]
        simp only [eh, e5, Option.bind_some, if_neg one_ne, if_neg (show ¬ 7 ≤ j by omega)]
        rw [hl.1, if_pos (by rw [hl0])]
      · intro hP
        have eh : f_X7_has N (iI m) (iI (j : Int)) = some 0 := by unfold f_X7_has; rw [if_neg (fun z => hP ((hb j hj).1 (eb.1 z)))]
        show f_X7_readWord_L14 N sc ar (iI m) (iI k) kx (c + 1) 0 (iI (j : Int)) = _
        rw [f_X7_readWord_L14, if_neg (show ¬ (7 : Int32) ≤ iI (j : Int) from nle_iI (a := 7) (by omega) (by omega) (by omega))]
        simp only [eh, Option.bind_some, if_true]
        rw [or_0, iI_succ])
    N 0 (by omega) (by omega) with ⟨j, -, a2, a3, -, a5⟩ | ⟨a1, -⟩
  · rw [← uq j a2 a3]; exact a5
  · exact absurd hM (a1 w0 (by omega) hw0)
theorem word_loop (hN : 100 ≤ N) (hi : i ≤ n) : ∀ (r k n1 n2 m : Nat) (es : S1) (sc : S1), k + r = 7 → r < n1 → r + 1 < n2 → PZ L n es ea sc ar (i + k) → m < 128 → (∀ w, w < 7 → (m.testBit w = true ↔ MW L n i w k)) → (∃ w, w < 7 ∧ MW L n i w k) → (∀ w, w < 7 → MW L n i w k → wlen w ≠ k) → (∃ w es' sc', w < 7 ∧ MW L n i w (wlen w) ∧ f_X0_readWord_L7 N ea (iI i) (fun t7 => some (0, t7)) n1 (iI ((k + 1 : Nat) : Int)) es = some (1, es') ∧ f_X7_readWord_L5 N ar (fun t19 => some (-9, t19)) n2 (iI m) (iI k) sc = some (iI w, sc') ∧ PZ L n es' ea sc' ar (i + wlen w) ∧ es' 3 = iI w ∧ (∀ j, j ≠ 33 → sc' j = sc j)) ∨ ((∀ w, w < 7 → ¬ MW L n i w (wlen w)) ∧ ∃ es' sc' i', f_X0_readWord_L7 N ea (iI i) (fun t7 => some (0, t7)) n1 (iI ((k + 1 : Nat) : Int)) es = some (0, es') ∧ f_X7_readWord_L5 N ar (fun t19 => some (-9, t19)) n2 (iI m) (iI k) sc = some (-9, sc') ∧ PZ L n es' ea sc' ar i' ∧ (∀ j, j ≠ 33 → sc' j = sc j)) := by
  intro r
  induction r with
  | zero =>
    intro k n1 n2 m es sc h1 h2 h3 hz hm hb he hc
    obtain ⟨w, hw, hM⟩ := he
    have := hM.1
    have hl := wlen_all ⟨w, hw⟩
    simp only at hl
    omega
  | succ r ih =>
    intro k n1 n2 m es sc h1 h2 h3 hz hm hb he hc
    obtain ⟨w1, hw1, hM1⟩ := he
    have hl1 := wlen_all ⟨w1, hw1⟩
    simp only at hl1
    have hlen1 := hc w1 hw1 hM1
    have hM1' := hM1.1
    obtain ⟨n1, rfl⟩ : ∃ z, n1 = z + 1 := ⟨n1 - 1, by omega⟩
    obtain ⟨n2, rfl⟩ : ∃ z, n2 = z + 2 := ⟨n2 - 2, by omega⟩
    have mne : ¬ iI (m : Int) = 0 := by
      rw [iI_eq0 (by omega) (by omega)]
      intro z
      have z' : m = 0 := by omega
      have := (hb w1 hw1).2 hM1
      rw [z', Nat.zero_testBit] at this
      exact absurd this (by decide)
    obtain ⟨m', hm', hb', e7⟩ := x7_goes (N := N) hN hz (by omega) hm hb hc (kx := fun x3_17 => (f_X7_readWord_L5 N ar (fun t19 => some (-9, t19)) (n2 + 1) x3_17 (iI k + 1) (upd sc 33 ((sc 33) + (if x3_17 = 0 then (0 : Int32) else 1)))))
    have e7' : f_X7_readWord_L5 N ar (fun t19 => some (-9, t19)) (n2 + 2) (iI m) (iI k) sc = f_X7_readWord_L5 N ar (fun t19 => some (-9, t19)) (n2 + 1) (iI m') (iI ((k + 1 : Nat) : Int)) (upd sc 33 ((sc 33) + (if iI (m' : Int) = 0 then (0 : Int32) else 1))) := by
      rw [f_X7_readWord_L5, if_neg mne, e7, iI_succ]
    have hmore : f_X0_hasMore N es = some (if i + k < n then 1 else 0) := by
      unfold f_X0_hasMore
      rw [hz.2.1.1, hz.2.1.2.1, itele (by have := hz.1; omega) (by have := hz.1; omega) (by have := hz.1; omega) (by have := hz.1; omega)]
      congr 1
      by_cases c : i + k < n
      · rw [if_neg (by omega), if_pos c]
      · rw [if_pos (by omega), if_neg c]
    by_cases E : ∃ w, w < 7 ∧ MW L n i w (k + 1)
    · have hmo : i + k < n := by
        obtain ⟨w, hw, hM⟩ := E
        have := MW_n hi hw hM
        omega
      have mne' : ¬ iI (m' : Int) = 0 := by
        rw [iI_eq0 (by omega) (by omega)]
        intro z
        have z' : m' = 0 := by omega
        obtain ⟨w, hw, hM⟩ := E
        have := (hb' w hw).2 hM
        rw [z', Nat.zero_testBit] at this
        exact absurd this (by decide)
      rw [if_neg mne', hz.2.1.2.2.2] at e7'
      have e7'' : f_X7_readWord_L5 N ar (fun t19 => some (-9, t19)) (n2 + 2) (iI m) (iI k) sc = f_X7_readWord_L5 N ar (fun t19 => some (-9, t19)) (n2 + 1) (iI m') (iI ((k + 1 : Nat) : Int)) (upd sc 33 (iI ((i + k + 1 : Nat) : Int))) := by
        rw [e7', iI_succ]
      rcases x0_goes (N := N) hN hz hi (k := k + 1) (by omega) (kx := (fun x3_5 t5 => (if x3_5 = 0 then (some ((0 : Int32), t5)) else ((f_X0_textOf N (t5 3)).bind fun r6 => (if 7 ≤ r6 then none else (if (sLen r6) = iI ((k + 1 : Nat) : Int) then (some (1, (upd t5 1 ((t5 1) + 1)))) else (f_X0_readWord_L7 N ea (iI i) (fun t7 => some (0, t7)) n1 (iI ((k + 1 : Nat) : Int) + 1) (upd t5 1 ((t5 1) + 1))))))))) with ⟨a1, -⟩ | ⟨w, hw, hM, a3⟩
      · obtain ⟨w, hw, hM⟩ := E
        exact absurd hM (a1 w hw)
      · have hl := wlen_all ⟨w, hw⟩
        simp only at hl
        have et : f_X0_textOf N (iI (w : Int)) = some w := hl.2.2.2.1
        have e6 : f_X0_readWord_L7 N ea (iI i) (fun t7 => some (0, t7)) (n1 + 1) (iI ((k + 1 : Nat) : Int)) es = if (wlen w : Int) = ((k + 1 : Nat) : Int) then some (1, upd (upd es 3 (iI (w : Int))) 1 (iI ((i + k + 1 : Nat) : Int))) else f_X0_readWord_L7 N ea (iI i) (fun t7 => some (0, t7)) n1 (iI ((k + 1 + 1 : Nat) : Int)) (upd (upd es 3 (iI (w : Int))) 1 (iI ((i + k + 1 : Nat) : Int))) := by
          rw [f_X0_readWord_L7, if_neg (show ¬ 6 < iI ((k + 1 : Nat) : Int) from nlt_iI (a := 6) (by omega) (by omega) (by omega)), hmore, Option.bind_some, if_pos hmo, if_neg one_ne, a3, if_neg one_ne, ud_eq, et, Option.bind_some, if_neg (by omega), hl.1, iteeq (by omega) (by omega) (by omega) (by omega), ud_ne (by decide), hz.2.1.2.1, iI_succ, iI_succ]
        have hz' : PZ L n (upd (upd es 3 (iI (w : Int))) 1 (iI ((i + k + 1 : Nat) : Int))) ea (upd sc 33 (iI ((i + k + 1 : Nat) : Int))) ar (i + (k + 1)) := PZ_to hz (by omega) (by rw [ud_ne (by decide), ud_ne (by decide)]) (ud_eq _ _ _) rfl (ud_ne (by decide)) (ud_eq _ _ _) rfl
        by_cases cl : wlen w = k + 1
        · refine Or.inl ⟨w, upd (upd es 3 (iI (w : Int))) 1 (iI ((i + k + 1 : Nat) : Int)), upd sc 33 (iI ((i + k + 1 : Nat) : Int)), hw, by rw [cl]; exact hM, ?_, ?_, by rw [cl]; exact hz', by rw [ud_ne (by decide), ud_eq], fun j hj => ud_ne hj⟩
          · rw [e6, if_pos (by omega)]
          · rw [e7'', f_X7_readWord_L5, if_neg mne', x7_ends hN (by omega) hm' hb' hw hM cl]
        · have cn : ∀ w', w' < 7 → MW L n i w' (k + 1) → wlen w' ≠ k + 1 := by
            intro w' hw' hM' e
            have := MW_pf hw' hw (by rw [e]; exact hM') hM (by omega)
            subst this
            exact cl e
          rw [if_neg (by omega)] at e6
          rcases ih (k + 1) n1 (n2 + 1) m' (upd (upd es 3 (iI (w : Int))) 1 (iI ((i + k + 1 : Nat) : Int))) (upd sc 33 (iI ((i + k + 1 : Nat) : Int))) (by omega) (by omega) (by omega) hz' hm' hb' ⟨w, hw, hM⟩ cn with ⟨w', es', sc', b1, b2, b3, b4, b5, b6, b7⟩ | ⟨b1, es', sc', i', b3, b4, b5, b7⟩
          · exact Or.inl ⟨w', es', sc', b1, b2, by rw [e6]; exact b3, by rw [e7'']; exact b4, b5, b6, fun j hj => by rw [b7 j hj, ud_ne hj]⟩
          · exact Or.inr ⟨b1, es', sc', i', by rw [e6]; exact b3, by rw [e7'']; exact b4, b5, fun j hj => by rw [b7 j hj, ud_ne hj]⟩
    · have nE : ∀ w, w < 7 → ¬ MW L n i w (k + 1) := fun w hw z => E ⟨w, hw, z⟩
      have mz : m' = 0 := z7_all ⟨m', hm'⟩ (fun w z => nE w.val w.isLt ((hb' w.val w.isLt).1 z))
      subst mz
      have s0 : sc 33 + 0 = sc 33 := by
        rw [hz.2.1.2.2.2]
        show iI ((i + k : Nat) : Int) + iI 0 = _
        rw [iI_add, Int.add_zero]
      have e8 : f_X7_readWord_L5 N ar (fun t19 => some (-9, t19)) (n2 + 1) (iI ((0 : Nat) : Int)) (iI ((k + 1 : Nat) : Int)) sc = some (-9, sc) := by rw [f_X7_readWord_L5, if_pos (show iI ((0 : Nat) : Int) = 0 from rfl)]
      rw [if_pos (show iI ((0 : Nat) : Int) = 0 from rfl), s0, ud_self, e8] at e7'
      refine Or.inr ⟨?_, es, sc, i + k, ?_, e7', hz, fun _ _ => rfl⟩
      · intro w hw hM
        by_cases c : k < wlen w
        · exact nE w hw (MW_le hM c)
        · have := MW_pf hw hw1 hM hM1 (by omega)
          subst this
          omega
      · rw [f_X0_readWord_L7, if_neg (show ¬ 6 < iI ((k + 1 : Nat) : Int) from nlt_iI (a := 6) (by omega) (by omega) (by omega)), hmore, Option.bind_some]
        by_cases c : i + k < n
        · rw [if_pos c, if_neg one_ne]
          rcases x0_goes (N := N) hN hz hi (k := k + 1) (by omega) (kx := (fun x3_5 t5 => (if x3_5 = 0 then (some ((0 : Int32), t5)) else ((f_X0_textOf N (t5 3)).bind fun r6 => (if 7 ≤ r6 then none else (if (sLen r6) = iI ((k + 1 : Nat) : Int) then (some (1, (upd t5 1 ((t5 1) + 1)))) else (f_X0_readWord_L7 N ea (iI i) (fun t7 => some (0, t7)) n1 (iI ((k + 1 : Nat) : Int) + 1) (upd t5 1 ((t5 1) + 1))))))))) with ⟨-, a3⟩ | ⟨w, hw, hM, -⟩
          · rw [a3, if_pos rfl]
          · exact absurd hM (nE w hw)
        · rw [if_neg c, if_pos rfl]
theorem word_both (hN : 100 ≤ N) (hz : PZ L n es ea sc ar i) : (∃ w es' sc', w < 7 ∧ MW L n i w (wlen w) ∧ f_X0_readWord N es ea = some (1, es') ∧ f_X7_readWord N sc ar = some (iI w, sc') ∧ PZ L n es' ea sc' ar (i + wlen w) ∧ es' 3 = iI w ∧ (∀ j, j ≠ 33 → sc' j = sc j)) ∨ ((∀ w, w < 7 → ¬ MW L n i w (wlen w)) ∧ ∃ es' sc' i', f_X0_readWord N es ea = some (0, es') ∧ f_X7_readWord N sc ar = some (-9, sc') ∧ PZ L n es' ea sc' ar i' ∧ (∀ j, j ≠ 33 → sc' j = sc j)) := by
  have := word_loop (N := N) (L := L) (n := n) (i := i) (ea := ea) (ar := ar) hN hz.1.2 7 0 N N 127 es sc (by omega) (by omega) (by omega) hz (by omega) (fun w hw => by
    refine ⟨fun _ => MW_0, fun _ => ?_⟩
    have : ∀ w : Fin 7, (127 : Nat).testBit w.val = true := by decide
    exact this ⟨w, hw⟩) ⟨0, by omega, MW_0⟩ (fun w hw _ => by
    have hl := wlen_all ⟨w, hw⟩
    simp only at hl
    omega)
  unfold f_X0_readWord f_X7_readWord
  rw [hz.2.1.2.1]
  exact this
end PC28
