-- ===== cells =====
def gf (a : S2) (m e : Nat) : S2 := va_up a 1 (fun i => if m ≤ i ∧ i < e then 10 else a 1 i)
theorem gf_0 (a : S2) {m e : Nat} (h : e ≤ m) : gf a m e = a := by
  funext r
  unfold gf
  by_cases hr : r = 1
  · subst hr
    rw [vu_eq]
    funext i
    rw [if_neg (by omega)]
  · rw [vu_ne hr]
theorem gf_s {a : S2} {m j : Nat} (h : m ≤ j) : va_up (gf a m j) 1 (upd (gf a m j 1) j 10) = gf a m (j + 1) := by
  funext r
  by_cases hr : r = 1
  · subst hr
    unfold gf
    rw [vu_eq, vu_eq, vu_eq]
    funext i
    by_cases e : i = j
    · subst e
      rw [ud_eq, if_pos (by omega)]
    · rw [ud_ne e]
      by_cases c : m ≤ i ∧ i < j
      · rw [if_pos c, if_pos (by omega)]
      · rw [if_neg c, if_neg (by omega)]
  · unfold gf
    rw [vu_ne hr, vu_ne hr, vu_ne hr]
theorem gf_ne {a : S2} {m e r : Nat} (h : r ≠ 1) : gf a m e r = a r := vu_ne h
theorem gf_1 {a : S2} {m e i : Nat} : gf a m e 1 i = if m ≤ i ∧ i < e then 10 else a 1 i := by
  unfold gf; rw [vu_eq]
section PC13
variable {N : Nat} {β : Type}
theorem x1_rz_ground (hN : 100 ≤ N) {s ps : S1} {pa : S2} {v1 v2 : Int32} {kx : S2 → Option β} {a : S2} {m : Nat} (hm : m ≤ 24) : f_X1_resize_L29 N s ps pa v1 v2 kx N (iI m) a = kx (gf a m 24) := by
  have go := lp_all (F := fun k i => f_X1_resize_L29 N s ps pa v1 v2 kx k (iI ((m + i : Nat) : Int)) (gf a m (m + i))) (n := 24 - m) (fin := kx (gf a m 24))
    (by
      intro k
      rw [f_X1_resize_L29, if_pos (by show iI 24 ≤ _; exact le_iI (by omega) (by omega) (by omega)), show m + (24 - m) = 24 by omega])
    (by
      intro k i hi
      rw [f_X1_resize_L29, if_neg (by show ¬ iI 24 ≤ _; exact nle_iI (by omega) (by omega) (by omega)), if_neg (ob_nat (by omega) (by omega)), ix_nat (by omega), gf_s (by omega), iI_succ]
      rfl)
    N 0 (by omega) (by omega)
  rw [Nat.add_zero, gf_0 a (Nat.le_refl m)] at go
  exact go
theorem x7_cells_ground (hN : 100 ≤ N) {sc : S1} {v2 : Int32} {kx : S2 → Option β} {a : S2} {m w : Nat} (hm : m ≤ 24) (hw : w ≤ 24) : f_X7_cells_L37 N sc (iI m) v2 kx N (iI w) a = kx (gf a w m) := by
  by_cases h : w ≤ m
  · have go := lp_all (F := fun k i => f_X7_cells_L37 N sc (iI m) v2 kx k (iI ((w + i : Nat) : Int)) (gf a w (w + i))) (n := m - w) (fin := kx (gf a w m))
      (by
        intro k
        rw [f_X7_cells_L37, if_pos (le_iI (by omega) (by omega) (by omega)), show w + (m - w) = m by omega])
      (by
        intro k i hi
        rw [f_X7_cells_L37, if_neg (nle_iI (by omega) (by omega) (by omega)), if_neg (ob_nat (by omega) (by omega)), ix_nat (by omega), gf_s (by omega), iI_succ]
        rfl)
      N 0 (by omega) (by omega)
    rw [Nat.add_zero, gf_0 a (Nat.le_refl w)] at go
    exact go
  · obtain ⟨k, rfl⟩ : ∃ k, N = k + 1 := ⟨N - 1, by omega⟩
    rw [f_X7_cells_L37, if_pos (le_iI (by omega) (by omega) (by omega)), gf_0 a (by omega)]
end PC13
def fB (A : AS) (m : Int) : List Nat := flt (fun i => decide (A 3 i < m)) (A 2 0).toNat
def fP (A : AS) (m : Int) : List Nat := flt (fun i => decide (A 7 i < m)) (A 6 0).toNat
def fN (A : AS) (m : Int) : List Nat := flt (fun i => decide (A 18 i < m)) (A 15 0).toNat
def cutA (A : AS) (m : Int) : AS := fun k i =>
  if k = 0 then m else if k = 1 then (if (i : Int) < A 0 0 then A 1 i else 10) else if k = 2 then ((fB A m).length : Int)
  else if R3 k then A k (gx (fB A m) i) else if k = 6 then ((fP A m).length : Int) else if R7 k then A k (gx (fP A m) i)
  else if k = 15 then ((fN A m).length : Int) else if k = 16 then A 16 (7 * gx (fN A m) (i / 7) + i % 7) else if k = 17 ∨ k = 18 then A k (gx (fN A m) i) else A k i
theorem cut_0 {A : AS} {m : Int} : cutA A m 0 0 = m := rfl
theorem cut_1 {A : AS} {m : Int} {i : Nat} : cutA A m 1 i = if (i : Int) < A 0 0 then A 1 i else 10 := rfl
theorem cut_2 {A : AS} {m : Int} : cutA A m 2 0 = ((fB A m).length : Int) := rfl
theorem cut_3 {A : AS} {m : Int} {i : Nat} : cutA A m 3 i = A 3 (gx (fB A m) i) := rfl
theorem cut_4 {A : AS} {m : Int} {i : Nat} : cutA A m 4 i = A 4 (gx (fB A m) i) := rfl
theorem cut_5 {A : AS} {m : Int} {i : Nat} : cutA A m 5 i = A 5 (gx (fB A m) i) := rfl
theorem cut_6 {A : AS} {m : Int} : cutA A m 6 0 = ((fP A m).length : Int) := rfl
theorem cut_7 {A : AS} {m : Int} {i : Nat} : cutA A m 7 i = A 7 (gx (fP A m) i) := rfl
theorem cut_8 {A : AS} {m : Int} {i : Nat} : cutA A m 8 i = A 8 (gx (fP A m) i) := rfl
theorem cut_9 {A : AS} {m : Int} : cutA A m 9 = A 9 := rfl
theorem cut_10 {A : AS} {m : Int} : cutA A m 10 = A 10 := rfl
theorem cut_11 {A : AS} {m : Int} : cutA A m 11 = A 11 := rfl
theorem cut_12 {A : AS} {m : Int} : cutA A m 12 = A 12 := rfl
theorem cut_13 {A : AS} {m : Int} : cutA A m 13 = A 13 := rfl
theorem cut_14 {A : AS} {m : Int} : cutA A m 14 = A 14 := rfl
theorem cut_15 {A : AS} {m : Int} : cutA A m 15 0 = ((fN A m).length : Int) := rfl
theorem cut_16 {A : AS} {m : Int} {i j : Nat} (hj : j < 7) : cutA A m 16 (7 * i + j) = A 16 (7 * gx (fN A m) i + j) := by
  show A 16 (7 * gx (fN A m) ((7 * i + j) / 7) + (7 * i + j) % 7) = _
  rw [show (7 * i + j) / 7 = i by omega, show (7 * i + j) % 7 = j by omega]
theorem cut_17 {A : AS} {m : Int} {i : Nat} : cutA A m 17 i = A 17 (gx (fN A m) i) := rfl
theorem cut_18 {A : AS} {m : Int} {i : Nat} : cutA A m 18 i = A 18 (gx (fN A m) i) := rfl
section PC13b
variable {N : Nat} {A : AS} {s : S1} {a t : S2} {p : S1} {q : S2} {sc : S1} {ar : S2}
theorem fB_g {m : Int} {i : Nat} (h : i < (fB A m).length) : ((gx (fB A m) i : Nat) : Int) < A 2 0 ∧ A 3 (gx (fB A m) i) < m := by
  have := flt_gx h
  exact ⟨by unfold fB; omega, of_decide_eq_true this.2⟩
theorem fP_g {m : Int} {i : Nat} (h : i < (fP A m).length) : ((gx (fP A m) i : Nat) : Int) < A 6 0 ∧ A 7 (gx (fP A m) i) < m := by
  have := flt_gx h
  exact ⟨by unfold fP; omega, of_decide_eq_true this.2⟩
theorem fN_g {m : Int} {i : Nat} (h : i < (fN A m).length) : ((gx (fN A m) i : Nat) : Int) < A 15 0 ∧ A 18 (gx (fN A m) i) < m := by
  have := flt_gx h
  exact ⟨by unfold fN; omega, of_decide_eq_true this.2⟩
theorem WF_cut (hw : WF A) {m : Int} (hm : 2 ≤ m ∧ m ≤ 24) : WF (cutA A m) := by
  obtain ⟨w0, w1, w2, w3, w4, w5⟩ := hw
  have b1 := flt_le (fun i => decide (A 3 i < m)) (A 2 0).toNat
  have b2 := flt_le (fun i => decide (A 7 i < m)) (A 6 0).toNat
  have b3 := flt_le (fun i => decide (A 18 i < m)) (A 15 0).toNat
  refine ⟨?_, ?_, ?_, ?_, ?_, ?_⟩
  · rw [cut_0, cut_2, cut_6, cut_9, cut_14, cut_15]
    unfold fB fP fN
    omega
  · intro c hc
    rw [cut_1]
    by_cases h : (c : Int) < A 0 0
    · rw [if_pos h]; exact w1 c h
    · rw [if_neg h]; omega
  · intro i hi
    rw [cut_2] at hi
    rw [cut_3, cut_4, cut_5, cut_0]
    have h1 := fB_g (A := A) (m := m) (i := i) (by omega)
    have h2 := w2 _ h1.1
    omega
  · intro i hi
    rw [cut_6] at hi
    rw [cut_7, cut_8, cut_0]
    have h1 := fP_g (A := A) (m := m) (i := i) (by omega)
    have h2 := w3 _ h1.1
    omega
  · rw [cut_9, cut_10, cut_11, cut_12, cut_13]; exact w4
  · intro i hi
    rw [cut_15] at hi
    rw [cut_17, cut_18, cut_0]
    have h1 := fN_g (A := A) (m := m) (i := i) (by omega)
    have h2 := w5 _ h1.1
    refine ⟨h2.1, h1.2, h2.2.2.1, h2.2.2.2.1, ?_⟩
    intro j hj
    rw [cut_16 (by omega)]
    exact h2.2.2.2.2 j hj
theorem UQ_cut (hu : UQ A) {m : Int} : UQ (cutA A m) := by
  intro i j hi hj he
  rw [cut_6] at hi hj
  rw [cut_7, cut_7] at he
  have h1 := fP_g (A := A) (m := m) (i := i) (by omega)
  have h2 := fP_g (A := A) (m := m) (i := j) (by omega)
  exact flt_inj (P := fun i => decide (A 7 i < m)) (by unfold fP at hi; omega) (by unfold fP at hj; omega) (hu _ _ h1.1 h2.1 he)
theorem x1_resize (hN : 100 ≤ N) (h : LA A s a t p q) (hw : WF A) {m : Int} (hm : 2 ≤ m ∧ m ≤ 24) : ∃ s' a' p' q', f_X1_resize N s a p q (iI m) = some (iI (A 0 0), s', a', p', q') ∧ LA (cutA A m) s' a' t p' q' := by
  have w0 := hw.1
  obtain ⟨⟨l00, l01, l02, l03, l04, l05⟩, l1, l1b, l2, l3, l4, l5, l6⟩ := h
  obtain ⟨mn, rfl⟩ : ∃ n : Nat, m = (n : Int) := ⟨m.toNat, by omega⟩
  obtain ⟨nb, hnb⟩ : ∃ n : Nat, (n : Int) = A 2 0 := ⟨(A 2 0).toNat, by omega⟩
  obtain ⟨np, hnp⟩ : ∃ n : Nat, (n : Int) = A 6 0 := ⟨(A 6 0).toNat, by omega⟩
  obtain ⟨nn, hnn⟩ : ∃ n : Nat, (n : Int) = A 15 0 := ⟨(A 15 0).toNat, by omega⟩
  have eB : flt (fun i => decide (A 3 i < (mn : Int))) nb = fB A mn := by unfold fB; rw [show (A 2 0).toNat = nb by omega]
  have eP : flt (fun i => decide (A 7 i < (mn : Int))) np = fP A mn := by unfold fP; rw [show (A 6 0).toNat = np by omega]
  have eN : flt (fun i => decide (A 18 i < (mn : Int))) nn = fN A mn := by unfold fN; rw [show (A 15 0).toNat = nn by omega]
  unfold f_X1_resize
  rw [if_pos (by show iI 2 ≤ _; exact le_iI (by omega) (by omega) (by omega)), if_pos (by show _ ≤ iI 24; exact le_iI (by omega) (by omega) (by omega)), x1_rz_ground hN (by omega), l00, l01]
  have e1 : iI (A 2 0) - 1 = iI ((nb : Int) - 1) := by
    rw [← hnb]; show iI _ - iI 1 = _; rw [iI_sub]
  rw [e1]
  obtain ⟨s1, a1, r1, r2, r3, r4, r5⟩ := rz_bridges (N := N) (β := Int32 × S1 × S2 × S1 × S2) hN (ps := p) (pa := q) (v2 := iI (A 0 0)) (m := (mn : Int)) (by omega) (kx := fun t5 t6 => (f_X1_resize_L88 N p q (iI mn) (iI (A 0 0)) (fun t10 t11 => ((f_X3_dropFrom N p q (iI mn)).bind fun r12 => (some ((iI (A 0 0)), t10, t11, r12.1, r12.2)))) N ((t5 6) - 1) t5 t6)) (a0 := gf a mn 24) (s0 := upd s 0 (iI mn)) (n := nb) (by omega) (f3 := A 3)
    (fun i hi => by rw [gf_ne (by decide)]; have := l2 i (by omega); have := hw.2.2.1 i (by omega); exact ⟨(l2 i (by omega)).1, by omega, by omega⟩) nb N (upd s 0 (iI mn)) (gf a mn 24) (Nat.le_refl _) (by omega)
    (by rw [stg_n, List.length_range, ud_ne (by decide), l01, hnb]) (fun _ _ => rfl) (fun r hr i hi => by rw [stg_n, List.length_range] at hi; rw [stg_n, gx_range hi]) (fun _ _ => rfl)
  rw [r1, r3 6 (by decide), ud_ne (by decide), l02]
  have e2 : iI (A 6 0) - 1 = iI ((np : Int) - 1) := by
    rw [← hnp]; show iI _ - iI 1 = _; rw [iI_sub]
  rw [e2]
  obtain ⟨s2, a2, q1, q2, q3, q4, q5⟩ := rz_posts (N := N) (β := Int32 × S1 × S2 × S1 × S2) hN (ps := p) (pa := q) (v2 := iI (A 0 0)) (m := (mn : Int)) (by omega) (kx := fun t10 t11 => ((f_X3_dropFrom N p q (iI mn)).bind fun r12 => (some ((iI (A 0 0)), t10, t11, r12.1, r12.2)))) (a0 := a1) (s0 := s1) (n := np) (by omega) (f3 := A 7)
    (fun i hi => by rw [r5 7 (by decide), gf_ne (by decide)]; have := hw.2.2.2.1 i (by omega); exact ⟨(l3 i (by omega)).1, by omega, by omega⟩) np N s1 a1 (Nat.le_refl _) (by omega)
    (by rw [stg_n, List.length_range, r3 6 (by decide), ud_ne (by decide), l02, hnp]) (fun _ _ => rfl) (fun r hr i hi => by rw [stg_n, List.length_range] at hi; rw [stg_n, gx_range hi]) (fun _ _ => rfl)
  rw [q1]
  obtain ⟨pa', d1, d2, d3⟩ := x3_dropFrom (N := N) hN (ps := p) (pa := q) (m := (mn : Int)) (by omega) (n := nn) (by omega) (by rw [l05, hnn]) (f := A 18)
    (fun i hi => by have := hw.2.2.2.2.2 i (by omega); exact ⟨(l5 i (by omega)).1, by omega, by omega⟩) l6
  rw [d1, Option.bind_some]
  refine ⟨_, _, _, _, rfl, ⟨?_, ?_, ?_, ?_, ?_, ?_⟩, ?_, ?_, ?_, ?_, ?_, ?_, d3⟩
  · rw [cut_0, q3 0 (by decide), r3 0 (by decide), ud_eq]
  · rw [cut_2, q3 2 (by decide), r2, eB]
  · rw [cut_6, q2, eP]
  · rw [cut_9, q3 9 (by decide), r3 9 (by decide), ud_ne (by decide)]; exact l03
  · rw [cut_14, q3 11 (by decide), r3 11 (by decide), ud_ne (by decide)]; exact l04
  · rw [cut_15, ← eN]; simp only [ud_eq]
  · intro c hc
    rw [cut_0] at hc
    rw [cut_1, q5 1 (by decide), r5 1 (by decide), gf_1, if_neg (by omega)]
    by_cases hcc : (c : Int) < A 0 0
    · rw [if_pos hcc]; exact l1 c hcc
    · rw [if_neg hcc]; exact l1b c (by omega) (by omega)
  · intro c hc hc2
    rw [cut_0] at hc
    rw [q5 1 (by decide), r5 1 (by decide), gf_1, if_pos (by omega)]
    rfl
  · intro i hi
    rw [cut_2, ← eB] at hi
    rw [cut_3, cut_4, cut_5, q5 3 (by decide), q5 4 (by decide), q5 5 (by decide), r4 3 (by decide) i (by omega), r4 4 (by decide) i (by omega), r4 5 (by decide) i (by omega), gf_ne (by decide), gf_ne (by decide), gf_ne (by decide), eB]
    rw [eB] at hi
    exact l2 _ (fB_g (by omega)).1
  · intro i hi
    rw [cut_6, ← eP] at hi
    rw [cut_7, cut_8, q4 7 (by decide) i (by omega), q4 8 (by decide) i (by omega), r5 7 (by decide), r5 8 (by decide), gf_ne (by decide), gf_ne (by decide), eP]
    rw [eP] at hi
    exact l3 _ (fP_g (by omega)).1
  · rw [cut_9, cut_10, cut_11, cut_12, cut_13]; exact l4
  · intro i hi
    rw [cut_15] at hi
    rw [cut_17, cut_18]
    rw [eN] at d2
    have h1 := d2.1 i (by omega)
    have h2 := l5 _ (fN_g (A := A) (m := mn) (i := i) (by omega)).1
    have h3 := hw.2.2.2.2.2 _ (fN_g (A := A) (m := mn) (i := i) (by omega)).1
    refine ⟨h1.1.trans h2.1, h1.2.1.trans h2.2.1, ?_⟩
    intro j hj
    rw [cut_16 (by omega)]
    exact (h1.2.2 j (by omega)).trans (h2.2.2 j hj)
theorem x7_cells_yes (hN : 100 ≤ N) (g : MA A sc ar) (hw : WF A) {m : Int} (hm : 2 ≤ m ∧ m ≤ 24) : ∃ sc' ar', f_X7_cells N sc ar (iI m) = some (iI (A 0 0), sc', ar') ∧ MA (cutA A m) sc' ar' ∧ frS sc sc' ∧ frA ar ar' := by
  have w0 := hw.1
  obtain ⟨⟨l00, l01, l02, l03, l04, l05⟩, l1, l2, l3, l4, l5⟩ := g
  obtain ⟨mn, rfl⟩ : ∃ n : Nat, m = (n : Int) := ⟨m.toNat, by omega⟩
  obtain ⟨nc, hnc⟩ : ∃ n : Nat, (n : Int) = A 0 0 := ⟨(A 0 0).toNat, by omega⟩
  obtain ⟨nb, hnb⟩ : ∃ n : Nat, (n : Int) = A 2 0 := ⟨(A 2 0).toNat, by omega⟩
  obtain ⟨np, hnp⟩ : ∃ n : Nat, (n : Int) = A 6 0 := ⟨(A 6 0).toNat, by omega⟩
  obtain ⟨nn, hnn⟩ : ∃ n : Nat, (n : Int) = A 15 0 := ⟨(A 15 0).toNat, by omega⟩
  have eB : flt (fun i => decide (A 3 i < (mn : Int))) nb = fB A mn := by unfold fB; rw [show (A 2 0).toNat = nb by omega]
  have eP : flt (fun i => decide (A 7 i < (mn : Int))) np = fP A mn := by unfold fP; rw [show (A 6 0).toNat = np by omega]
  have eN : flt (fun i => decide (A 18 i < (mn : Int))) nn = fN A mn := by unfold fN; rw [show (A 15 0).toNat = nn by omega]
  unfold f_X7_cells
  rw [if_pos (by show iI 2 ≤ _; exact le_iI (by omega) (by omega) (by omega)), if_pos (by show _ ≤ iI 24; exact le_iI (by omega) (by omega) (by omega)), l00, ← hnc, x7_cells_ground hN (by omega) (by omega)]
  unfold f_X7_cuts
  obtain ⟨a1, r1, r2⟩ := x7_cuts3 (N := N) (β := S1 × S2) (sc := upd sc 0 (iI mn)) (m := (mn : Int)) (by omega) (ud_eq _ _ _) (kx := fun x1_3 t3 => (f_X7_cuts_L79 N (upd (upd sc 0 (iI mn)) 2 x1_3) (fun x1_6 t6 => (f_X7_cuts_L142 N (upd (upd (upd sc 0 (iI mn)) 2 x1_3) 6 x1_6) (fun x1_10 t10 => (some ((upd (upd (upd (upd sc 0 (iI mn)) 2 x1_3) 6 x1_6) 15 x1_10), t10))) N 0 0 t6)) N 0 0 t3)) (a0 := gf ar nc mn) (n := nb) (by omega) (by rw [ud_ne (by decide), l01, hnb]) (f := A 3)
    (fun i hi => by rw [gf_ne (by decide)]; have := hw.2.2.1 i (by omega); exact ⟨(l2 i (by omega)).1, by omega, by omega⟩) N 0 (gf ar nc mn) (by omega) (by omega) BI_0
  have r1' : f_X7_cuts_L4 N (upd sc 0 (iI mn)) _ N 0 0 (gf ar nc mn) = _ := r1
  rw [r1']
  obtain ⟨a2, q1, q2⟩ := x7_cuts7 (N := N) (β := S1 × S2) (sc := upd (upd sc 0 (iI mn)) 2 (iI ((flt (fun i => decide (A 3 i < (mn : Int))) nb).length : Int))) (m := (mn : Int)) (by omega) (by rw [ud_ne (by decide), ud_eq]) (kx := fun x1_6 t6 => (f_X7_cuts_L142 N (upd (upd (upd sc 0 (iI mn)) 2 (iI ((flt (fun i => decide (A 3 i < (mn : Int))) nb).length : Int))) 6 x1_6) (fun x1_10 t10 => (some ((upd (upd (upd (upd sc 0 (iI mn)) 2 (iI ((flt (fun i => decide (A 3 i < (mn : Int))) nb).length : Int))) 6 x1_6) 15 x1_10), t10))) N 0 0 t6)) (a0 := a1) (n := np) (by omega) (by rw [ud_ne (by decide), ud_ne (by decide), l02, hnp]) (f := A 7)
    (fun i hi => by rw [r2.2 7 (by decide), gf_ne (by decide)]; have := hw.2.2.2.1 i (by omega); exact ⟨(l3 i (by omega)).1, by omega, by omega⟩) N 0 a1 (by omega) (by omega) BI_0
  have q1' : f_X7_cuts_L79 N _ _ N 0 0 a1 = _ := q1
  rw [q1']
  obtain ⟨a3, d1, d2, d3⟩ := x7_cutsN (N := N) (β := S1 × S2) hN (sc := upd (upd (upd sc 0 (iI mn)) 2 (iI ((flt (fun i => decide (A 3 i < (mn : Int))) nb).length : Int))) 6 (iI ((flt (fun i => decide (A 7 i < (mn : Int))) np).length : Int))) (m := (mn : Int)) (by omega) (by rw [ud_ne (by decide), ud_ne (by decide), ud_eq]) (kx := fun x1_10 t10 => (some ((upd (upd (upd (upd sc 0 (iI mn)) 2 (iI ((flt (fun i => decide (A 3 i < (mn : Int))) nb).length : Int))) 6 (iI ((flt (fun i => decide (A 7 i < (mn : Int))) np).length : Int))) 15 x1_10), t10))) (a0 := a2) (n := nn) (by omega) (by rw [ud_ne (by decide), ud_ne (by decide), ud_ne (by decide), l05, hnn]) (f := A 18)
    (fun i hi => by rw [q2.2 18 (by decide), r2.2 18 (by decide), gf_ne (by decide)]; have := hw.2.2.2.2.2 i (by omega); exact ⟨(l5 i (by omega)).1, by omega, by omega⟩) N 0 a2 (by omega) (by omega) (NI_0 _ _ _) (fun _ _ _ _ => rfl)
  have d1' : f_X7_cuts_L142 N _ _ N 0 0 a2 = _ := d1
  rw [d1', Option.bind_some]
  refine ⟨_, _, rfl, ⟨⟨?_, ?_, ?_, ?_, ?_, ?_⟩, ?_, ?_, ?_, ?_, ?_⟩, ?_, ?_⟩
  · rw [cut_0]; simp (disch := decide) only [ud_ne, ud_eq]
  · rw [cut_2, ← eB]; simp (disch := decide) only [ud_ne, ud_eq]
  · rw [cut_6, ← eP]; simp (disch := decide) only [ud_ne, ud_eq]
  · rw [cut_9]; simp (disch := decide) only [ud_ne]; exact l03
  · rw [cut_14]; simp (disch := decide) only [ud_ne]; exact l04
  · rw [cut_15, ← eN]; simp only [ud_eq]
  · intro c hc
    rw [cut_0] at hc
    show a3 1 c = _
    rw [cut_1, d3 1 (by decide) (by decide) (by decide), q2.2 1 (by decide), r2.2 1 (by decide), gf_1]
    by_cases hcc : (c : Int) < A 0 0
    · rw [if_pos hcc, if_neg (by omega)]; exact l1 c hcc
    · rw [if_neg hcc, if_pos (by omega)]; rfl
  · intro i hi
    rw [cut_2, ← eB] at hi
    show a3 3 i = _ ∧ a3 4 i = _ ∧ a3 5 i = _
    rw [cut_3, cut_4, cut_5, d3 3 (by decide) (by decide) (by decide), d3 4 (by decide) (by decide) (by decide), d3 5 (by decide) (by decide) (by decide), q2.2 3 (by decide), q2.2 4 (by decide), q2.2 5 (by decide), (r2.1 3 (by decide)).1 i (by omega), (r2.1 4 (by decide)).1 i (by omega), (r2.1 5 (by decide)).1 i (by omega), gf_ne (by decide), gf_ne (by decide), gf_ne (by decide), eB]
    rw [eB] at hi
    exact l2 _ (fB_g (by omega)).1
  · intro i hi
    rw [cut_6, ← eP] at hi
    show a3 7 i = _ ∧ a3 8 i = _
    rw [cut_7, cut_8, d3 7 (by decide) (by decide) (by decide), d3 8 (by decide) (by decide) (by decide), (q2.1 7 (by decide)).1 i (by omega), (q2.1 8 (by decide)).1 i (by omega), r2.2 7 (by decide), r2.2 8 (by decide), gf_ne (by decide), gf_ne (by decide), eP]
    rw [eP] at hi
    exact l3 _ (fP_g (by omega)).1
  · intro i hi
    rw [cut_9] at hi
    show a3 10 i = _ ∧ a3 11 i = _ ∧ a3 12 i = _ ∧ a3 13 i = _
    rw [cut_10, cut_11, cut_12, cut_13, d3 10 (by decide) (by decide) (by decide), d3 11 (by decide) (by decide) (by decide), d3 12 (by decide) (by decide) (by decide), d3 13 (by decide) (by decide) (by decide), q2.2 10 (by decide), q2.2 11 (by decide), q2.2 12 (by decide), q2.2 13 (by decide), r2.2 10 (by decide), r2.2 11 (by decide), r2.2 12 (by decide), r2.2 13 (by decide), gf_ne (by decide), gf_ne (by decide), gf_ne (by decide), gf_ne (by decide)]
    exact l4 i hi
  · intro i hi
    rw [cut_15] at hi
    show a3 18 i = _ ∧ a3 17 i = _ ∧ ∀ j : Nat, (j : Int) < _ → a3 16 _ = _
    rw [cut_17, cut_18]
    rw [eN] at d2
    have h1 := d2.1 i (by omega)
    rw [q2.2 16 (by decide), q2.2 17 (by decide), q2.2 18 (by decide), r2.2 16 (by decide), r2.2 17 (by decide), r2.2 18 (by decide), gf_ne (by decide), gf_ne (by decide), gf_ne (by decide)] at h1
    have h2 := l5 _ (fN_g (A := A) (m := mn) (i := i) (by omega)).1
    have h3 := hw.2.2.2.2.2 _ (fN_g (A := A) (m := mn) (i := i) (by omega)).1
    refine ⟨h1.1.trans h2.1, h1.2.1.trans h2.2.1, ?_⟩
    intro j hj
    rw [cut_16 (by omega)]
    exact (h1.2.2 j (by omega)).trans (h2.2.2 j hj)
  · intro j hj
    show upd (upd (upd (upd sc 0 _) 2 _) 6 _) 15 _ j = _
    rw [ud_ne (by omega), ud_ne (by omega), ud_ne (by omega), ud_ne (by omega)]
  · intro j hj
    show a3 j = _
    rw [d3 j (by omega) (by omega) (by omega), q2.2 j (fun z => by rcases z with z | z <;> omega), r2.2 j (fun z => by rcases z with z | z | z <;> omega), gf_ne (by omega)]
theorem chg_cells (hN : 100 ≤ N) (h : LA A s a t p q) (g : MA A sc ar) (hw : WF A) (hu : UQ A) {m : Int} (hm : -2147483648 ≤ m ∧ m < 2147483648) : CHG N A sc ar s a t p q ((f_X1_resize N s a p q (iI m)).bind fun r => some (r.1, r.2.1, r.2.2.1, t, r.2.2.2.1, r.2.2.2.2)) (f_X7_cells N sc ar (iI m)) := by
  have w0 := hw.1
  by_cases h1 : 2 ≤ m
  · by_cases h2 : m ≤ 24
    · obtain ⟨s', a', p', q', e1, e2⟩ := x1_resize hN h hw (m := m) ⟨h1, h2⟩
      obtain ⟨sc', ar', e3, e4, e5, e6⟩ := x7_cells_yes hN g hw (m := m) ⟨h1, h2⟩
      rw [e1, e3]
      exact Or.inl ⟨_, cutA A m, _, _, _, _, _, _, _, rfl, rfl, by rw [iI_0le (by omega) (by omega)]; omega, e2, e4, WF_cut hw ⟨h1, h2⟩, UQ_cut hu, e5, e6⟩
    · unfold f_X1_resize f_X7_cells
      have e1 : (2 : Int32) ≤ iI m := le_iI (a := 2) h1 (by omega) (by omega)
      have e2 : ¬ iI m ≤ 24 := nle_iI (b := 24) (by omega) (by omega) (by omega)
      simp only [if_pos e1, if_neg e2, x7_no cod6, Option.bind_some]
      exact Or.inr ⟨-6, cod6, rfl, rfl⟩
  · unfold f_X1_resize f_X7_cells
    have e1 : ¬ (2 : Int32) ≤ iI m := nle_iI (a := 2) (by omega) (by omega) (by omega)
    simp only [if_neg e1, x7_no cod4, Option.bind_some]
    exact Or.inr ⟨-4, cod4, rfl, rfl⟩
end PC13b
