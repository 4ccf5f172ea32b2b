-- ===== moved: the model =====
theorem sm_all : ∀ c : Fin 32, ((iI (c.val : Int) &&& 31).toBitVec.smod 32#32).toNat = c.val ∧ ((1 : Int32) <<< (iI (c.val : Int) &&& 31)).toBitVec = BitVec.twoPow 32 c.val := by decide
theorem hb_iff {x : Int32} {c : Nat} (hc : c < 32) : (((x >>> (iI (c : Int) &&& 31)) &&& 1) = 1) ↔ x.toBitVec.getLsbD c = true := by
  have h1 := (sm_all ⟨c, hc⟩).1
  simp only at h1
  rw [← Int32.toBitVec_inj, Int32.toBitVec_and, Int32.toBitVec_shiftRight]
  show (x.toBitVec.sshiftRight ((iI (c : Int) &&& 31).toBitVec.smod 32#32).toNat &&& 1#32) = 1#32 ↔ _
  rw [h1]
  constructor
  · intro e
    have := congrArg (fun b => BitVec.getLsbD b 0) e
    simp only [BitVec.getLsbD_and, BitVec.getLsbD_sshiftRight] at this
    simpa [hc] using this
  · intro e
    apply BitVec.eq_of_getLsbD_eq
    intro i hi
    rw [BitVec.getLsbD_and]
    by_cases z : i = 0
    · subst z
      simp [BitVec.getLsbD_sshiftRight, hc, e]
    · have : (1#32).getLsbD i = false := by
        rw [show (1#32) = BitVec.twoPow 32 0 by decide, BitVec.getLsbD_twoPow]
        simp; omega
      rw [this, Bool.and_false]
theorem bits_lsb (Q : Nat → Prop) : ∀ n, n ≤ 32 → ∀ c, (bitsF Q n).toBitVec.getLsbD c = true ↔ c < n ∧ Q c := by
  intro n
  induction n with
  | zero =>
    intro _ c
    rw [bitsF]
    constructor
    · intro h
      have : (0 : Int32).toBitVec = 0#32 := rfl
      rw [this] at h
      simp at h
    · rintro ⟨h, -⟩; omega
  | succ n ih =>
    intro hn c
    rw [bitsF]
    by_cases k : Q n
    · rw [cI_t k, Int32.toBitVec_or, BitVec.getLsbD_or, (sm_all ⟨n, by omega⟩).2, BitVec.getLsbD_twoPow, Bool.or_eq_true, ih (by omega) c]
      simp only [Bool.and_eq_true, decide_eq_true_eq]
      constructor
      · rintro (⟨a, b⟩ | ⟨-, b⟩)
        · exact ⟨by omega, b⟩
        · subst b; exact ⟨by omega, k⟩
      · rintro ⟨a, b⟩
        by_cases e : c = n
        · exact Or.inr ⟨by omega, e.symm⟩
        · exact Or.inl ⟨by omega, b⟩
    · rw [cI_f k, ih (by omega) c]
      constructor
      · rintro ⟨a, b⟩; exact ⟨by omega, b⟩
      · rintro ⟨a, b⟩
        refine ⟨?_, b⟩
        by_cases e : c = n
        · subst e; exact absurd b k
        · omega
theorem has_bits {N : Nat} {Q : Nat → Prop} {n c : Nat} (hn : n ≤ 24) (hc : c < n) : f_X7_has N (bitsF Q n) (iI (c : Int)) = some (bI (Q c)) := by
  unfold f_X7_has
  congr 1
  have h := (hb_iff (x := bitsF Q n) (c := c) (by omega)).trans (bits_lsb Q n (by omega) c)
  by_cases k : Q c
  · rw [bI_t k, if_pos (h.2 ⟨hc, k⟩)]
  · rw [bI_f k, if_neg (fun z => k (h.1 z).2)]
theorem MA_at {A : AS} {sc : S1} {ar : S2} (g : MA A sc ar) {i : Nat} {v : Int} : MA (aU A 7 i v) sc (va_up ar 7 (upd (ar 7) i (iI v))) := by
  obtain ⟨m0, m1, m2, m3, m4, m5⟩ := g
  refine ⟨?_, ?_, ?_, ?_, ?_, ?_⟩
  · simp (disch := decide) only [aU_row]; exact m0
  · simp (disch := decide) only [aU_row, vu_ne]; exact m1
  · simp (disch := decide) only [aU_row, vu_ne]; exact m2
  · simp (disch := decide) only [aU_row, vu_ne, vu_eq]
    intro j hj
    by_cases e : j = i
    · rw [e, ud_eq, aU_eq]; rw [e] at hj; exact ⟨rfl, (m3 i hj).2⟩
    · rw [ud_ne e, aU_ne e]; exact m3 j hj
  · simp (disch := decide) only [aU_row, vu_ne]; exact m4
  · simp (disch := decide) only [aU_row, vu_ne]; exact m5
theorem WF_at {A : AS} (hw : WF A) {i : Nat} {v : Int} (hv : 0 ≤ v ∧ v < A 0 0) : WF (aU A 7 i v) := by
  obtain ⟨m0, m1, m2, m3, m4, m5⟩ := hw
  refine ⟨?_, ?_, ?_, ?_, ?_, ?_⟩
  · simp (disch := decide) only [aU_row]; exact m0
  · simp (disch := decide) only [aU_row]; exact m1
  · simp (disch := decide) only [aU_row]; exact m2
  · simp (disch := decide) only [aU_row]
    intro j hj
    have := m3 j hj
    by_cases e : j = i
    · rw [e, aU_eq]; rw [e] at this; omega
    · rw [aU_ne e]; exact this
  · simp (disch := decide) only [aU_row]; exact m4
  · simp (disch := decide) only [aU_row]; exact m5
theorem keepA_at {A : AS} {i : Nat} {v mark h : Int} : keepA (aU A 7 i v) mark h ↔ keepA A mark h := by
  unfold keepA wA BR BD
  simp (disch := decide) only [aU_row]
section PC35
variable {N : Nat} {A : AS} {sc : S1} {ar : S2} {o : Nat → Nat} {n P : Nat}
theorem x7_where1 {β : Type} (hN : 100 ≤ N) (g : MA A sc ar) (hw : WF A) (hg : sc 25 = 0) (hn : (n : Int) = A 0 0) {j : Nat} (hj : (j : Int) < A 6 0) {v2 : Int32} {kx : S2 → Option β} : ∃ v, f_X7_looksWhere_L26 N sc (iI j) v2 kx N 0 (va_up ar 26 (upd (ar 26) j 0)) = kx (va_up (va_up ar 7 (upd (ar 7) j v)) 26 (upd (ar 26) j (bitsF (gdA A j) n))) := by
  have w0 := hw.1
  obtain ⟨x, ⟨v, hx⟩, e1⟩ := lp_inv (R := β) (F := fun z c (x : S2) => f_X7_looksWhere_L26 N sc (iI j) v2 kx z (iI (c : Int)) x) (I := fun c x => ∃ v, x = va_up (va_up ar 7 (upd (ar 7) j v)) 26 (upd (ar 26) j (bitsF (gdA A j) c))) (kx := kx) (n := n)
    (by
      intro z x _
      show f_X7_looksWhere_L26 N sc (iI j) v2 kx (z + 1) (iI (n : Int)) x = _
      rw [f_X7_looksWhere_L26, g.1.1, if_pos (le_iI (by omega) (by omega) (by omega))])
    (by
      rintro z c x hc ⟨v, rfl⟩
      have oj : ¬ oob (iI (j : Int)) 5 := ob_nat (by omega) (by omega)
      have e7 : va_up (va_up (va_up ar 7 (upd (ar 7) j v)) 26 (upd (ar 26) j (bitsF (gdA A j) c))) 7 (upd (va_up (va_up ar 7 (upd (ar 7) j v)) 26 (upd (ar 26) j (bitsF (gdA A j) c)) 7) j (iI (c : Int))) = va_up (va_up ar 7 (upd (ar 7) j (iI (c : Int)))) 26 (upd (ar 26) j (bitsF (gdA A j) c)) := by
        rw [vu_ne (show (7 : Nat) ≠ 26 by decide), vu_eq, ud_ud]
        funext r
        by_cases r7 : r = 7
        · subst r7; rw [vu_eq, vu_ne (by decide), vu_eq]
        · rw [vu_ne r7]
          by_cases r26 : r = 26
          · subst r26; rw [vu_eq, vu_eq]
          · rw [vu_ne r26, vu_ne r7, vu_ne r26, vu_ne r7]
      have g1 : MA (aU A 7 j (c : Int)) sc (va_up (va_up ar 7 (upd (ar 7) j (iI (c : Int)))) 26 (upd (ar 26) j (bitsF (gdA A j) c))) := MA_cg (MA_at g) (fun _ _ => rfl) (fun r hr => vu_ne (by omega))
      have hk := x7_isKeptByAll (N := N) hN g1 (WF_at hw (by omega)) hg (i := j) (by rw [aU_row (by decide)]; exact hj)
      rw [aU_eq, aU_row (show (8 : Nat) ≠ 7 by decide), bI_iff keepA_at] at hk
      refine ⟨va_up (va_up ar 7 (upd (ar 7) j (iI (c : Int)))) 26 (upd (ar 26) j (bitsF (gdA A j) (c + 1))), ⟨_, rfl⟩, ?_⟩
      show f_X7_looksWhere_L26 N sc (iI j) v2 kx (z + 1) (iI (c : Int)) _ = _
      rw [f_X7_looksWhere_L26, g.1.1, if_neg (nle_iI (by omega) (by omega) (by omega)), if_neg oj, if_neg oj, ix_nat (show j < 2147483648 by omega), e7, hk, Option.bind_some, if_neg oj, iI_succ, vu_eq, ud_eq, ud_ud, vu_vu]
      have eb : (bitsF (gdA A j) c ||| (if bI (keepA A (c : Int) (A 8 j)) = 0 then (0 : Int32) else 1 <<< (iI (c : Int) &&& 31))) = bitsF (gdA A j) (c + 1) := by
        rw [bitsF]
        by_cases k : gdA A j c
        · have k' : keepA A (c : Int) (A 8 j) := k
          rw [bI_t k', if_neg one_ne, cI_t k]
        · have k' : ¬ keepA A (c : Int) (A 8 j) := k
          rw [bI_f k', if_pos rfl, cI_f k, or_0]
      rw [eb])
    N 0 (va_up ar 26 (upd (ar 26) j 0)) (by omega) (by omega) ⟨ar 7 j, by rw [ud_self, vu_self]; rfl⟩
  exact ⟨v, by rw [hx] at e1; exact e1⟩
theorem x7_where (hN : 100 ≤ N) (g : MA A sc ar) (hw : WF A) (hg : sc 25 = 0) (hn : (n : Int) = A 0 0) (hP : (P : Int) = A 6 0) : ∃ ar', f_X7_looksWhere N sc ar = some ar' ∧ (∀ r, r ≠ 26 → ar' r = ar r) ∧ (∀ p, p < P → ar' 26 p = bitsF (gdA A p) n) := by
  have w0 := hw.1
  obtain ⟨ar', ⟨i1, i2⟩, e1⟩ := lp_inv (R := S2) (F := fun z j (x : S2) => f_X7_looksWhere_L2 N sc (fun t5 => some t5) z (iI (j : Int)) x) (I := fun j x => (∀ r, r ≠ 26 → x r = ar r) ∧ (∀ p, p < j → x 26 p = bitsF (gdA A p) n)) (kx := fun x => some x) (n := P)
    (by
      intro z x _
      show f_X7_looksWhere_L2 N sc (fun t5 => some t5) (z + 1) (iI (P : Int)) x = _
      rw [f_X7_looksWhere_L2, g.1.2.2.1, if_pos (le_iI (by omega) (by omega) (by omega))])
    (by
      rintro z j x hj ⟨h1, h2⟩
      have oj : ¬ oob (iI (j : Int)) 5 := ob_nat (by omega) (by omega)
      have gx : MA A sc x := MA_cg g (fun _ _ => rfl) (fun r hr => h1 r (by omega))
      obtain ⟨v, e2⟩ := x7_where1 (N := N) hN gx hw hg hn (j := j) (by omega) (v2 := x 7 j) (kx := (fun t4 => (if oob (iI (j : Int)) 5 then none else (f_X7_looksWhere_L2 N sc (fun t5 => some t5) z (iI ((j + 1 : Nat) : Int)) (va_up t4 7 (upd (t4 7) j (x 7 j)))))))
      refine ⟨va_up x 26 (upd (x 26) j (bitsF (gdA A j) n)), ⟨?_, ?_⟩, ?_⟩
      · intro r hr; rw [vu_ne hr]; exact h1 r hr
      · intro p hp
        rw [vu_eq]
        by_cases e : p = j
        · subst e; exact ud_eq _ _ _
        · rw [ud_ne e]; exact h2 p (by omega)
      · show f_X7_looksWhere_L2 N sc (fun t5 => some t5) (z + 1) (iI (j : Int)) x = _
        have e3 : va_up (va_up (va_up x 7 (upd (x 7) j v)) 26 (upd (x 26) j (bitsF (gdA A j) n))) 7 (upd (va_up (va_up x 7 (upd (x 7) j v)) 26 (upd (x 26) j (bitsF (gdA A j) n)) 7) j (x 7 j)) = va_up x 26 (upd (x 26) j (bitsF (gdA A j) n)) := by
          rw [vu_ne (show (7 : Nat) ≠ 26 by decide), vu_eq, ud_ud, ud_self]
          funext r
          by_cases r7 : r = 7
          · subst r7; rw [vu_eq, vu_ne (by decide)]
          · rw [vu_ne r7]
            by_cases r26 : r = 26
            · subst r26; rw [vu_eq, vu_eq]
            · rw [vu_ne r26, vu_ne r7, vu_ne r26]
        rw [f_X7_looksWhere_L2, g.1.2.2.1, if_neg (nle_iI (by omega) (by omega) (by omega)), if_neg oj, if_neg oj, ix_nat (show j < 2147483648 by omega), iI_succ]
        rw [e2, if_neg oj, e3])
    N 0 ar (by omega) (by omega) ⟨fun _ _ => rfl, fun p hp => absurd hp (by omega)⟩
  exact ⟨ar', e1, i1, i2⟩
theorem x7_lines (hN : 100 ≤ N) (g : MA A sc ar) (hw : WF A) (hP : (P : Int) = A 6 0) (ho : ∀ j, j < P → o j < P) (hrk : ∀ j, j < P → rkF (A 7) P (o j) = (j : Int)) (hor : ∀ p, p < P → o (rkF (A 7) P p).toNat = p) : ∃ ar', f_X7_lines N sc ar = some ar' ∧ (∀ r, r ≠ 27 → ar' r = ar r) ∧ (∀ j, j < P → ar' 27 j = iI (o j)) := by
  have w0 := hw.1
  have l6 := g.1.2.2.1
  have rank : ∀ (x : S2) (kx : Int32 → Option S2) (j : Nat), j < P → (∀ r, r ≠ 27 → x r = ar r) → f_X7_lines_L14 N sc x (iI j) kx N 0 0 = kx (iI (rkF (A 7) P j)) := by
    intro x kx j hj hx
    have a7 := (g.2.2.2.1 j (by omega)).1
    have w3 := hw.2.2.2.1 j (by omega)
    exact lp_all (F := fun z k => f_X7_lines_L14 N sc x (iI j) kx z (iI (sumF (fun q => if A 7 q < A 7 j then 1 else 0) k)) (iI (k : Int))) (n := P)
      (by
        intro z
        rw [f_X7_lines_L14, l6, if_pos (le_iI (by omega) (by omega) (by omega))]
        rfl)
      (by
        intro z k hk
        have b7 := (g.2.2.2.1 k (by omega)).1
        have v3 := hw.2.2.2.1 k (by omega)
        rw [f_X7_lines_L14, l6, if_neg (nle_iI (by omega) (by omega) (by omega)), if_neg (ob_nat (show k < 5 by omega) (by omega)), if_neg (ob_nat (show j < 5 by omega) (by omega)), ix_nat (by omega), ix_nat (by omega), hx 7 (by decide), a7, b7, itele (by omega) (by omega) (by omega) (by omega), iI_succ, sumF]
        congr 1
        by_cases c : A 7 k < A 7 j
        · rw [if_neg (by omega), if_pos c]; exact iI_add _ 1
        · rw [if_pos (by omega), if_neg c]; exact iI_add _ 0)
      N 0 (by omega) (by omega)
  obtain ⟨ar', ⟨i1, i2⟩, e1⟩ := lp_inv (R := S2) (F := fun z j (x : S2) => f_X7_lines_L2 N sc (fun t3 => some t3) z (iI (j : Int)) x) (I := fun j x => (∀ r, r ≠ 27 → x r = ar r) ∧ (∀ p, p < j → x 27 (rkF (A 7) P p).toNat = iI p)) (kx := fun x => some x) (n := P)
    (by
      intro z x _
      show f_X7_lines_L2 N sc (fun t3 => some t3) (z + 1) (iI (P : Int)) x = _
      rw [f_X7_lines_L2, l6, if_pos (le_iI (by omega) (by omega) (by omega))])
    (by
      rintro z j x hj ⟨h1, h2⟩
      have rb := rkF_bd (a := A 7) hj
      refine ⟨va_up x 27 (upd (x 27) (rkF (A 7) P j).toNat (iI j)), ⟨?_, ?_⟩, ?_⟩
      · intro r hr; rw [vu_ne hr]; exact h1 r hr
      · intro p hp
        rw [vu_eq]
        by_cases e : p = j
        · subst e; exact ud_eq _ _ _
        · rw [ud_ne (fun z => e (by rw [← hor p (by omega), ← hor j hj, z]))]
          exact h2 p (by omega)
      · show f_X7_lines_L2 N sc (fun t3 => some t3) (z + 1) (iI (j : Int)) x = _
        rw [f_X7_lines_L2, l6, if_neg (nle_iI (by omega) (by omega) (by omega)), rank x _ j hj h1, if_neg (ob_int (show 0 ≤ rkF (A 7) P j by omega) (show rkF (A 7) P j < (5 : Nat) by omega) (by omega)), ix_iI (by omega) (by omega), iI_succ])
    N 0 ar (by omega) (by omega) ⟨fun _ _ => rfl, fun p hp => absurd hp (by omega)⟩
  refine ⟨ar', e1, i1, ?_⟩
  intro j hj
  have := i2 (o j) (ho j hj)
  rw [hrk j hj] at this
  exact this
end PC35
