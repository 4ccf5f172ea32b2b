-- ===== moved: the search of the model =====
def mvU (N : Nat) (sc : S1) (v1 : Int32) (x2_4 : Int32) (t4 : S2) : Option (Int32 × S2) := (if x2_4 = (sc 6) then ((f_X7_movedBy N sc t4).bind fun r7 => (Option.bind ((if v1 = (-9 : Int32) then (f_X7_moves_L118 N sc r7 x2_4 (fun t10 => (some (r7, t10))) N (0 : Int32) t4) else (Option.bind ((if r7 < v1 then (f_X7_moves_L118 N sc r7 x2_4 (fun t13 => (some (r7, t13))) N (0 : Int32) t4) else (Option.bind ((if r7 = v1 then ((f_X7_isEarlier N sc t4).bind fun r16 => (Option.bind ((if r16 = 0 then (some (v1, t4)) else (f_X7_moves_L118 N sc r7 x2_4 (fun t19 => (some (r7, t19))) N (0 : Int32) t4)) : Option (Int32 × (Nat → Nat → Int32))) fun j17 => (some (j17.1, j17.2)))) else (some (v1, t4))) : Option (Int32 × (Nat → Nat → Int32))) fun j14 => (some (j14.1, j14.2)))) : Option (Int32 × (Nat → Nat → Int32))) fun j11 => (some (j11.1, j11.2)))) : Option (Int32 × (Nat → Nat → Int32))) fun j8 => (some (j8.1, j8.2)))) else (some (v1, t4)))
def mvT {β : Type} (N : Nat) (sc : S1) (kx : Int32 → S2 → Option β) (n : Nat) (x2_4 : Int32) (j5 : Int32 × S2) : Option β := (Option.bind ((if (if (x2_4 + (-1)) < 0 then (0 : Int32) else (1 : Int32)) = 0 then (some (0 : Int32)) else (if oob (x2_4 + (-1)) 5 then none else (if oob ((j5.2 27) (ix (x2_4 + (-1)))) 5 then none else (some (((j5.2 28) (ix ((j5.2 27) (ix (x2_4 + (-1)))))) + (1 : Int32)))))) : Option (Int32)) fun j22 => (f_X7_moves_L18 N sc kx n j5.1 (x2_4 + (-1)) j22 (if (x2_4 + (-1)) < 0 then (0 : Int32) else (1 : Int32)) j5.2))
theorem mv_18 {β : Type} {N : Nat} {sc : S1} {kx : Int32 → S2 → Option β} {n : Nat} {v1 v2 v3 v4 : Int32} {ar : S2} : f_X7_moves_L18 N sc kx (n + 1) v1 v2 v3 v4 ar = if v4 = 0 then kx v1 ar else f_X7_moves_L23 N sc v1 (fun x2_4 t4 => (mvU N sc v1 x2_4 t4).bind (mvT N sc kx n x2_4)) N v2 v3 ar := by
  rw [f_X7_moves_L18]
  rfl
def MST (A : AS) (o : Nat → Nat) (n P : Nat) (sc : S1) (ar : S2) : Prop := (n ≤ 24 ∧ P ≤ 5 ∧ sc 0 = iI n ∧ sc 6 = iI P) ∧ (∀ p, p < P → ar 26 p = bitsF (gdA A p) n ∧ ar 7 p = iI (A 7 p) ∧ 0 ≤ A 7 p ∧ A 7 p < n) ∧ (∀ j, j < P → ar 27 j = iI (o j))
theorem MST_cg {A : AS} {o : Nat → Nat} {n P : Nat} {sc : S1} {ar ar' : S2} (h : MST A o n P sc ar) (hr : ∀ r, r ≠ 28 → r ≠ 29 → ar' r = ar r) : MST A o n P sc ar' := by
  unfold MST
  rw [hr 26 (by decide) (by decide), hr 7 (by decide) (by decide), hr 27 (by decide) (by decide)]
  exact h
def BST (A : AS) (P : Nat) (S : (Nat → Nat) → Prop) (v : Int32) (ar : S2) : Prop := (v = -9 ∧ ∀ pl, ¬ S pl) ∨ (∃ b, S b ∧ v = iI (SM (A 7) P b) ∧ (∀ p, p < P → ar 29 p = iI (b p)) ∧ ∀ pl, S pl → BET (A 7) P b pl)
theorem BST_iff {A : AS} {P : Nat} {S S' : (Nat → Nat) → Prop} {v : Int32} {ar : S2} (h : BST A P S v ar) (e : ∀ pl, S pl ↔ S' pl) : BST A P S' v ar := by
  have : S = S' := by funext pl; exact propext (e pl)
  rw [← this]; exact h
section PC36
variable {N : Nat} {A : AS} {sc : S1} {ar : S2} {o : Nat → Nat} {n P : Nat}
theorem x7_nextFor (hN : 100 ≤ N) (h : MST A o n P sc ar) (ho : ∀ j, j < P → o j < P) {k f : Nat} (hk : k < P) (hf : f ≤ n) : (∃ c, f ≤ c ∧ c < n ∧ gdA A (o k) c ∧ (∀ c', f ≤ c' → c' < c → ¬ gdA A (o k) c') ∧ f_X7_nextFor N sc ar (iI k) (iI f) = some (iI c)) ∨ ((∀ c', f ≤ c' → c' < n → ¬ gdA A (o k) c') ∧ f_X7_nextFor N sc ar (iI k) (iI f) = some (-9)) := by
  obtain ⟨⟨h1, h2, h3, h4⟩, h5, h6⟩ := h
  have hok := ho k hk
  unfold f_X7_nextFor
  rcases lp_any (F := fun z c => f_X7_nextFor_L2 N sc ar (iI k) (fun _ => some (-9)) z (iI (c : Int))) (fin := some (-9)) (r := fun c => some (iI (c : Int))) (P := fun c => gdA A (o k) c) (n := n)
    (by
      intro z
      show f_X7_nextFor_L2 N sc ar (iI k) (fun _ => some (-9)) (z + 1) (iI (n : Int)) = _
      rw [f_X7_nextFor_L2, h3, if_pos (le_iI (by omega) (by omega) (by omega))])
    (by
      intro z c hc
      have st : f_X7_nextFor_L2 N sc ar (iI k) (fun _ => some (-9)) (z + 1) (iI (c : Int)) = if bI (gdA A (o k) c) = 0 then f_X7_nextFor_L2 N sc ar (iI k) (fun _ => some (-9)) z (iI ((c + 1 : Nat) : Int)) else some (iI (c : Int)) := by
        rw [f_X7_nextFor_L2, h3, if_neg (nle_iI (by omega) (by omega) (by omega)), if_neg (ob_nat (show k < 5 by omega) (by omega)), ix_nat (by omega), h6 k hk, if_neg (ob_nat (show o k < 5 by omega) (by omega)), ix_nat (by omega), (h5 (o k) hok).1, has_bits h1 hc, Option.bind_some, iI_succ]
      constructor
      · intro hp
        show f_X7_nextFor_L2 N sc ar (iI k) (fun _ => some (-9)) (z + 1) (iI (c : Int)) = _
        rw [st, bI_t hp, if_neg one_ne]
      · intro hp
        show f_X7_nextFor_L2 N sc ar (iI k) (fun _ => some (-9)) (z + 1) (iI (c : Int)) = _
        rw [st, bI_f hp, if_pos rfl])
    N f hf (by omega) with ⟨c, a1, a2, a3, a4, a5⟩ | ⟨a1, a2⟩
  · exact Or.inl ⟨c, a1, a2, a3, a4, a5⟩
  · exact Or.inr ⟨a1, a2⟩
theorem x7_movedBy (hN : 100 ≤ N) (h : MST A o n P sc ar) {Y : Nat → Nat} (hY : ∀ p, p < P → ar 28 p = iI (Y p) ∧ Y p < n) : f_X7_movedBy N sc ar = some (iI (SM (A 7) P Y)) := by
  obtain ⟨⟨h1, h2, h3, h4⟩, h5, h6⟩ := h
  unfold f_X7_movedBy
  exact lp_all (F := fun z p => f_X7_movedBy_L4 N sc ar (fun x1_1 => some x1_1) z (iI (sumF (fun p => aD (Y p) (A 7 p)) p)) (iI (p : Int))) (n := P)
    (by
      intro z
      rw [f_X7_movedBy_L4, h4, if_pos (le_iI (by omega) (by omega) (by omega))]
      rfl)
    (by
      intro z p hp
      have y := hY p hp
      have b := h5 p hp
      rw [f_X7_movedBy_L4, h4, if_neg (nle_iI (by omega) (by omega) (by omega)), if_neg (ob_nat (show p < 5 by omega) (by omega)), if_neg (ob_nat (show p < 5 by omega) (by omega)), ix_nat (by omega), y.1, b.2.1, iI_abs (by omega) (by omega), iI_add, iI_succ]
      rfl)
    N 0 (by omega) (by omega)
theorem x7_copyB {β : Type} (hN : 100 ≤ N) (h : MST A o n P sc ar) {v1 v2 : Int32} {kx : S2 → Option β} : ∃ ar', f_X7_moves_L118 N sc v1 v2 kx N 0 ar = kx ar' ∧ (∀ r, r ≠ 29 → ar' r = ar r) ∧ ∀ p, p < P → ar' 29 p = ar 28 p := by
  obtain ⟨⟨h1, h2, h3, h4⟩, h5, h6⟩ := h
  obtain ⟨ar', ⟨i1, i2⟩, e1⟩ := lp_inv (R := β) (F := fun z p (x : S2) => f_X7_moves_L118 N sc v1 v2 kx z (iI (p : Int)) x) (I := fun p x => (∀ r, r ≠ 29 → x r = ar r) ∧ ∀ p', p' < p → x 29 p' = ar 28 p') (kx := kx) (n := P)
    (by
      intro z x _
      show f_X7_moves_L118 N sc v1 v2 kx (z + 1) (iI (P : Int)) x = _
      rw [f_X7_moves_L118, h4, if_pos (le_iI (by omega) (by omega) (by omega))])
    (by
      rintro z p x hp ⟨a1, a2⟩
      refine ⟨va_up x 29 (upd (x 29) p (ar 28 p)), ⟨fun r hr => by rw [vu_ne hr]; exact a1 r hr, ?_⟩, ?_⟩
      · intro p' hp'
        rw [vu_eq]
        by_cases e : p' = p
        · rw [e, ud_eq]
        · rw [ud_ne e]; exact a2 p' (by omega)
      · show f_X7_moves_L118 N sc v1 v2 kx (z + 1) (iI (p : Int)) x = _
        rw [f_X7_moves_L118, h4, if_neg (nle_iI (by omega) (by omega) (by omega)), if_neg (ob_nat (show p < 5 by omega) (by omega)), if_neg (ob_nat (show p < 5 by omega) (by omega)), ix_nat (by omega), a1 28 (by decide), iI_succ])
    N 0 ar (by omega) (by omega) ⟨fun _ _ => rfl, fun p hp => absurd hp (by omega)⟩
  exact ⟨ar', e1, i1, i2⟩
theorem x7_isEarlier (hN : 100 ≤ N) (h : MST A o n P sc ar) {Y b : Nat → Nat} (hY : ∀ p, p < P → ar 28 p = iI (Y p) ∧ Y p < n) (hb : ∀ p, p < P → ar 29 p = iI (b p) ∧ b p < n) : f_X7_isEarlier N sc ar = some (bI (EAR P Y b)) := by
  obtain ⟨⟨h1, h2, h3, h4⟩, h5, h6⟩ := h
  unfold f_X7_isEarlier
  rcases lp_any (F := fun z p => f_X7_isEarlier_L2 N sc ar (fun _ => some 0) z (iI (p : Int))) (fin := some 0) (r := fun p => some (if (b p : Int) ≤ Y p then 0 else 1)) (P := fun p => ¬ Y p = b p) (n := P)
    (by
      intro z
      show f_X7_isEarlier_L2 N sc ar (fun _ => some 0) (z + 1) (iI (P : Int)) = _
      rw [f_X7_isEarlier_L2, h4, if_pos (le_iI (by omega) (by omega) (by omega))])
    (by
      intro z p hp
      have y := hY p hp
      have c := hb p hp
      have st : f_X7_isEarlier_L2 N sc ar (fun _ => some 0) (z + 1) (iI (p : Int)) = if (Y p : Int) = b p then f_X7_isEarlier_L2 N sc ar (fun _ => some 0) z (iI ((p + 1 : Nat) : Int)) else some (if (b p : Int) ≤ Y p then 0 else 1) := by
        have op : ¬ oob (iI (p : Int)) 5 := ob_nat (by omega) (by omega)
        rw [f_X7_isEarlier_L2, h4, if_neg (nle_iI (by omega) (by omega) (by omega)), if_neg op, if_neg op, if_neg op, if_neg op, ix_nat (by omega), y.1, c.1, iteeq (by omega) (by omega) (by omega) (by omega), itele (by omega) (by omega) (by omega) (by omega), iI_succ]
      constructor
      · intro hq
        show f_X7_isEarlier_L2 N sc ar (fun _ => some 0) (z + 1) (iI (p : Int)) = _
        rw [st, if_neg (by omega)]
      · intro hq
        show f_X7_isEarlier_L2 N sc ar (fun _ => some 0) (z + 1) (iI (p : Int)) = _
        rw [st, if_pos (by omega)])
    N 0 (by omega) (by omega) with ⟨p, -, a2, a3, a4, a5⟩ | ⟨a1, a2⟩
  · have a5' : f_X7_isEarlier_L2 N sc ar (fun _ => some 0) N 0 = some (if (b p : Int) ≤ Y p then 0 else 1) := a5
    rw [a5']
    congr 1
    by_cases c : (b p : Int) ≤ Y p
    · rw [if_pos c, bI_f]
      rintro ⟨q, q1, q2, q3⟩
      rcases Nat.lt_trichotomy p q with z | z | z
      · exact a3 (q3 p z)
      · subst z; omega
      · have := Classical.not_not.1 (a4 q (by omega) z); omega
    · rw [if_neg c, bI_t ⟨p, a2, by omega, fun p' hp' => Classical.not_not.1 (a4 p' (by omega) hp')⟩]
  · rw [bI_f]
    · exact a2
    · rintro ⟨q, q1, q2, q3⟩
      have := Classical.not_not.1 (a1 q (by omega) q1); omega
/-- a whole way is taken into account -/
theorem x7_take (hN : 100 ≤ N) (h : MST A o n P sc ar) {Y : Nat → Nat} (hY : ∀ p, p < P → ar 28 p = iI (Y p) ∧ Y p < n) (hV : VAL (gdA A) o n P Y) {S : (Nat → Nat) → Prop} (hS : ∀ pl, S pl → VAL (gdA A) o n P pl) {v1 : Int32} (hB : BST A P S v1 ar) : ∃ v' ar', mvU N sc v1 (iI P) ar = some (v', ar') ∧ (∀ r, r ≠ 29 → ar' r = ar r) ∧ BST A P (fun pl => S pl ∨ ∀ p, p < P → pl p = Y p) v' ar' := by
  have h4 := h.1.2.2.2
  have hP := h.1.2.1
  have smb : ∀ pl, VAL (gdA A) o n P pl → 0 ≤ SM (A 7) P pl ∧ SM (A 7) P pl ≤ 120 := by
    intro pl hv
    have := SM_bd (a := A 7) (P := P) (x := pl) (fun p hp => by have := h.2.1 p hp; have := h.1.1; omega) (fun p hp => by have := (hv.1 p hp).1; have := h.1.1; omega)
    omega
  have sY := smb Y hV
  obtain ⟨arc, c1, c2, c3⟩ := x7_copyB (N := N) hN h (v1 := iI (SM (A 7) P Y)) (v2 := iI (P : Int)) (kx := fun t10 => some (iI (SM (A 7) P Y), t10))
  have eqY : ∀ pl, (∀ p, p < P → pl p = Y p) → BET (A 7) P Y pl := by
    intro pl he
    refine Or.inr ⟨SM_cg (fun p hp => (he p hp).symm), fun z => EAR_self (EAR_cg (fun p hp => he p hp) (fun _ _ => rfl) z)⟩
  have newB : (∀ pl, S pl → BET (A 7) P Y pl) → BST A P (fun pl => S pl ∨ ∀ p, p < P → pl p = Y p) (iI (SM (A 7) P Y)) arc := by
    intro hall
    refine Or.inr ⟨Y, Or.inr (fun _ _ => rfl), rfl, fun p hp => by rw [c3 p hp]; exact (hY p hp).1, ?_⟩
    rintro pl (z | z)
    · exact hall pl z
    · exact eqY pl z
  unfold mvU
  rw [h4, if_pos rfl, x7_movedBy hN h hY, Option.bind_some]
  rcases hB with ⟨b1, b2⟩ | ⟨b, b1, b2, b3, b4⟩
  · rw [if_pos b1, c1]
    exact ⟨_, arc, rfl, c2, newB (fun pl z => absurd z (b2 pl))⟩
  · have sb := smb b (hS b b1)
    have nb : ¬ v1 = -9 := by rw [b2, show (-9 : Int32) = iI (-9) by decide, iI_eq (by omega) (by omega) (by omega) (by omega)]; omega
    rw [if_neg nb, b2, itelt (by omega) (by omega) (by omega) (by omega), iteeq (by omega) (by omega) (by omega) (by omega)]
    by_cases z1 : SM (A 7) P Y < SM (A 7) P b
    · rw [if_pos z1, c1]
      refine ⟨_, arc, rfl, c2, newB (fun pl z => Or.inl ?_)⟩
      have := b4 pl z
      unfold BET at this
      omega
    · rw [if_neg z1]
      have keep : BET (A 7) P b Y → BST A P (fun pl => S pl ∨ ∀ p, p < P → pl p = Y p) (iI (SM (A 7) P b)) ar := by
        intro hk
        refine Or.inr ⟨b, Or.inl b1, rfl, b3, ?_⟩
        rintro pl (z | z)
        · exact b4 pl z
        · rcases hk with k | ⟨k, k2⟩
          · exact Or.inl (by rw [SM_cg z]; exact k)
          · exact Or.inr ⟨by rw [SM_cg z]; exact k, fun w => k2 (EAR_cg z (fun _ _ => rfl) w)⟩
      by_cases z2 : SM (A 7) P Y = SM (A 7) P b
      · rw [if_pos z2, x7_isEarlier hN h hY (fun p hp => ⟨b3 p hp, ((hS b b1).1 p hp).1⟩), Option.bind_some]
        by_cases z3 : EAR P Y b
        · rw [bI_t z3, if_neg one_ne, c1]
          refine ⟨_, arc, rfl, c2, newB (fun pl z => ?_)⟩
          rcases b4 pl z with k | ⟨k, k2⟩
          · exact Or.inl (by omega)
          · exact Or.inr ⟨by omega, fun w => k2 (EAR_trans w z3)⟩
        · rw [bI_f z3, if_pos rfl]
          exact ⟨_, ar, rfl, fun _ _ => rfl, keep (Or.inr ⟨z2.symm, z3⟩)⟩
      · rw [if_neg z2]
        exact ⟨_, ar, rfl, fun _ _ => rfl, keep (Or.inl (by omega))⟩
/-- back by one post -/
def bkF {β : Type} (N : Nat) (sc : S1) (kx : Int32 → S2 → Option β) (o : Nat → Nat) (m : Nat) (v : Int32) (k : Nat) (Y : Nat → Nat) (ar : S2) : Option β := if k = 0 then f_X7_moves_L18 N sc kx m v (-1) 0 0 ar else f_X7_moves_L18 N sc kx m v (iI ((k : Int) - 1)) (iI ((Y (o (k - 1)) : Int) + 1)) 1 ar
theorem x7_back {β : Type} {kx : Int32 → S2 → Option β} (h : MST A o n P sc ar) (ho : ∀ j, j < P → o j < P) {k m : Nat} (hk : k ≤ P) {Y : Nat → Nat} (hY : 0 < k → ar 28 (o (k - 1)) = iI (Y (o (k - 1)))) {v : Int32} : mvT N sc kx m (iI k) (v, ar) = bkF N sc kx o m v k Y ar := by
  obtain ⟨⟨h1, h2, h3, h4⟩, h5, h6⟩ := h
  have e1 : iI (k : Int) + (-1) = iI ((k : Int) - 1) := by rw [show (-1 : Int32) = iI (-1) by decide, iI_add]; rfl
  unfold mvT bkF
  simp only [e1]
  by_cases c : k = 0
  · subst c
    rw [if_pos (show iI (((0 : Nat) : Int) - 1) < 0 by decide), if_pos rfl, if_pos rfl, Option.bind_some]
    rfl
  · have e2 : iI ((k : Int) - 1) = iI ((k - 1 : Nat) : Int) := by congr 1; omega
    rw [if_neg (show ¬ iI ((k : Int) - 1) < 0 by rw [iI_lt0 (by omega) (by omega)]; omega), if_neg one_ne, if_neg c, e2, if_neg (ob_nat (show k - 1 < 5 by omega) (by omega)), ix_nat (by omega), h6 (k - 1) (by omega), if_neg (ob_nat (show o (k - 1) < 5 by have := ho (k - 1) (by omega); omega) (by omega)), ix_nat (by have := ho (k - 1) (by omega); omega), hY (by omega), iI_1s, Option.bind_some]
def WW : Nat → Nat → Nat
  | 0, _ => 0
  | r + 1, d => d * 25 ^ r
theorem WW_le {r d : Nat} (h : d ≤ 24) : WW r d + 1 ≤ 25 ^ r := by
  cases r with
  | zero => show 0 + 1 ≤ 25 ^ 0; decide
  | succ r =>
    have h1 : d * 25 ^ r ≤ 24 * 25 ^ r := Nat.mul_le_mul_right _ h
    have h2 : 0 < 25 ^ r := Nat.pow_pos (by decide)
    rw [Nat.pow_succ]
    show d * 25 ^ r + 1 ≤ 25 ^ r * 25
    omega
def CPL (A : AS) (o : Nat → Nat) (n P k f : Nat) (Y pl : Nat → Nat) : Prop := VAL (gdA A) o n P pl ∧ (∀ j, j < k → pl (o j) = Y (o j)) ∧ (k < P → f ≤ pl (o k))
theorem x7_dfs {β : Type} {kx : Int32 → S2 → Option β} (hN : 100 ≤ N) (ho : ∀ j, j < P → o j < P) (hin : ∀ j k, j < P → k < P → o j = o k → j = k) : ∀ (r k : Nat), k + r = P → ∀ (d f m x z : Nat) (v1 : Int32) (ar : S2) (Y : Nat → Nat) (S : (Nat → Nat) → Prop), f + d = n → MST A o n P sc ar → (∀ j, j < k → ar 28 (o j) = iI (Y (o j)) ∧ Y (o j) < n ∧ gdA A (o j) (Y (o j))) → INC o Y k → (0 < k → Y (o (k - 1)) < f) → BST A P S v1 ar → (∀ pl, S pl → VAL (gdA A) o n P pl) → WW r d + x ≤ m → r < z → ∃ m2 v' ar', x ≤ m2 ∧ f_X7_moves_L23 N sc v1 (fun x2_4 t4 => (mvU N sc v1 x2_4 t4).bind (mvT N sc kx m x2_4)) z (iI k) (iI f) ar = bkF N sc kx o m2 v' k Y ar' ∧ (∀ j, j < k → ar' 28 (o j) = ar 28 (o j)) ∧ (∀ r, r ≠ 28 → r ≠ 29 → ar' r = ar r) ∧ BST A P (fun pl => S pl ∨ CPL A o n P k f Y pl) v' ar' := by
  intro r
  induction r with
  | zero =>
    intro k hk d f m x z v1 ar Y S hd hM hp hI hf hB hS hx hz
    have kP : k = P := by omega
    subst kP
    obtain ⟨z, rfl⟩ : ∃ y, z = y + 1 := ⟨z - 1, by omega⟩
    have hP := hM.1.2.1
    have h4 := hM.1.2.2.2
    have hY : ∀ p, p < k → (ar 28 p = iI (Y p) ∧ Y p < n) ∧ gdA A p (Y p) := by
      intro p hp'
      obtain ⟨j, hj, e⟩ := surj_n k o ho hin p hp'
      have := hp j hj
      rw [e] at this
      exact ⟨⟨this.1, this.2.1⟩, this.2.2⟩
    have hV : VAL (gdA A) o n k Y := ⟨fun p hp' => ⟨(hY p hp').1.2, (hY p hp').2⟩, hI⟩
    obtain ⟨v', ar', e1, e2, e3⟩ := x7_take (N := N) hN hM (fun p hp' => (hY p hp').1) hV hS hB
    refine ⟨m, v', ar', by have : WW 0 d = 0 := rfl; omega, ?_, fun j _ => by rw [e2 28 (by decide)], fun r _ hr => e2 r hr, ?_⟩
    · rw [f_X7_moves_L23, h4, if_pos (le_iI (by omega) (by omega) (by omega)), e1, Option.bind_some]
      exact x7_back (MST_cg hM (fun r _ hr => e2 r hr)) ho (Nat.le_refl _) (fun hk' => by rw [e2 28 (by decide)]; exact (hp (k - 1) (by omega)).1)
    · refine BST_iff e3 (fun pl => ?_)
      constructor
      · rintro (q | q)
        · exact Or.inl q
        · refine Or.inr ⟨⟨fun p hp' => by rw [q p hp']; exact hV.1 p hp', fun j hj => ?_⟩, fun j hj => q (o j) (ho j hj), fun q2 => absurd q2 (by omega)⟩
          rw [q (o j) (ho j (by omega)), q (o (j + 1)) (ho (j + 1) hj)]
          exact hI j hj
      · rintro (q | q)
        · exact Or.inl q
        · refine Or.inr (fun p hp' => ?_)
          obtain ⟨j, hj, e⟩ := surj_n k o ho hin p hp'
          rw [← e]; exact q.2.1 j hj
  | succ r ih =>
    intro k hk d
    -- over the cells that are left
    have key : ∀ (D d : Nat), d ≤ D → ∀ (f m x z : Nat) (v1 : Int32) (ar : S2) (Y : Nat → Nat) (S : (Nat → Nat) → Prop), f + d = n → MST A o n P sc ar → (∀ j, j < k → ar 28 (o j) = iI (Y (o j)) ∧ Y (o j) < n ∧ gdA A (o j) (Y (o j))) → INC o Y k → (0 < k → Y (o (k - 1)) < f) → BST A P S v1 ar → (∀ pl, S pl → VAL (gdA A) o n P pl) → WW (r + 1) d + x ≤ m → r + 1 < z → ∃ m2 v' ar', x ≤ m2 ∧ f_X7_moves_L23 N sc v1 (fun x2_4 t4 => (mvU N sc v1 x2_4 t4).bind (mvT N sc kx m x2_4)) z (iI k) (iI f) ar = bkF N sc kx o m2 v' k Y ar' ∧ (∀ j, j < k → ar' 28 (o j) = ar 28 (o j)) ∧ (∀ r, r ≠ 28 → r ≠ 29 → ar' r = ar r) ∧ BST A P (fun pl => S pl ∨ CPL A o n P k f Y pl) v' ar' := by
      intro D
      induction D with
      | zero =>
        intro d hD f m x z v1 ar Y S hd hM hp hI hf hB hS hx hz
        obtain ⟨z, rfl⟩ : ∃ y, z = y + 1 := ⟨z - 1, by omega⟩
        have h1 := hM.1
        have hkP : k < P := by omega
        rcases x7_nextFor (N := N) hN hM ho hkP (f := f) (by omega) with ⟨c, c1, c2, -⟩ | ⟨c1, c2⟩
        · omega
        · refine ⟨m, v1, ar, by omega, ?_, fun _ _ => rfl, fun _ _ _ => rfl, ?_⟩
          · rw [f_X7_moves_L23, h1.2.2.2, if_neg (nle_iI (by omega) (by omega) (by omega)), c2, Option.bind_some, if_pos rfl]
            have eU : mvU N sc v1 (iI k) ar = some (v1, ar) := by
              unfold mvU
              rw [h1.2.2.2, if_neg (by rw [iI_eq (by omega) (by omega) (by omega) (by omega)]; omega)]
            rw [eU, Option.bind_some]
            exact x7_back hM ho (by omega) (fun hk' => (hp (k - 1) (by omega)).1)
          · refine BST_iff hB (fun pl => ⟨Or.inl, ?_⟩)
            rintro (q | q)
            · exact q
            · have a := (q.1.1 (o k) (ho k hkP))
              exact absurd a.2 (c1 _ (q.2.2 hkP) a.1)
      | succ D ihD =>
        intro d hD f m x z v1 ar Y S hd hM hp hI hf hB hS hx hz
        obtain ⟨z, rfl⟩ : ∃ y, z = y + 1 := ⟨z - 1, by omega⟩
        have h1 := hM.1
        have hkP : k < P := by omega
        have hok := ho k hkP
        rcases x7_nextFor (N := N) hN hM ho hkP (f := f) (by omega) with ⟨c, c1, c2, c3, c4, c5⟩ | ⟨c1, c2⟩
        · have ne : ∀ j, j < k → o j ≠ o k := fun j hj e => by have := hin j k (by omega) (by omega) e; omega
          have nc : ¬ iI (c : Int) = -9 := by rw [show (-9 : Int32) = iI (-9) by decide, iI_eq (by omega) (by omega) (by omega) (by omega)]; omega
          have hW := WW_le (r := r) (d := n - c - 1) (by omega)
          have hmul : (n - c - 1 + 1) * 25 ^ r ≤ d * 25 ^ r := Nat.mul_le_mul_right _ (by omega)
          rw [Nat.add_mul, Nat.one_mul] at hmul
          have hx' : d * 25 ^ r + x ≤ m := hx
          -- the rest of this way
          have hY1 : ∀ j, j < k → (if o j = o k then c else Y (o j)) = Y (o j) := fun j hj => if_neg (ne j hj)
          obtain ⟨m2, v2, ar2, b1, b2, b3, b4, b5⟩ := ih (k + 1) (by omega) (n - c - 1) (c + 1) m (1 + (n - c - 1) * 25 ^ r + x) z v1 (va_up ar 28 (upd (ar 28) (o k) (iI (c : Int)))) (fun p => if p = o k then c else Y p) S (by omega) (MST_cg hM (fun r hr _ => vu_ne hr))
            (by
              intro j hj
              rw [vu_eq]
              show upd (ar 28) (o k) (iI (c : Int)) (o j) = iI ((if o j = o k then c else Y (o j) : Nat) : Int) ∧ (if o j = o k then c else Y (o j)) < n ∧ gdA A (o j) (if o j = o k then c else Y (o j))
              by_cases e : j = k
              · subst e; rw [if_pos rfl, ud_eq]; exact ⟨rfl, c2, c3⟩
              · rw [hY1 j (by omega), ud_ne (ne j (by omega))]; exact hp j (by omega))
            (by
              intro j hj
              show (if o j = o k then c else Y (o j)) < (if o (j + 1) = o k then c else Y (o (j + 1)))
              rw [hY1 j (by omega)]
              by_cases e : j + 1 = k
              · rw [if_pos (by rw [e])]
                have := hf (by omega)
                rw [show k - 1 = j by omega] at this
                omega
              · rw [hY1 (j + 1) (by omega)]; exact hI j (by omega))
            (by
              intro _
              show (if o (k + 1 - 1) = o k then c else Y (o (k + 1 - 1))) < c + 1
              rw [Nat.add_sub_cancel, if_pos rfl]; omega)
            (by
              rcases hB with q | ⟨b, q1, q2, q3, q4⟩
              · exact Or.inl q
              · exact Or.inr ⟨b, q1, q2, fun p hp' => by rw [vu_ne (by decide)]; exact q3 p hp', q4⟩)
            hS (by omega) (by omega)
          have hM2 : MST A o n P sc ar2 := MST_cg hM (fun r hr hr2 => by rw [b4 r hr hr2, vu_ne hr])
          obtain ⟨m2, rfl⟩ : ∃ y, m2 = y + 1 := ⟨m2 - 1, by omega⟩
          have e2 : bkF N sc kx o (m2 + 1) v2 (k + 1) (fun p => if p = o k then c else Y p) ar2 = f_X7_moves_L23 N sc v2 (fun x2_4 t4 => (mvU N sc v2 x2_4 t4).bind (mvT N sc kx m2 x2_4)) N (iI k) (iI ((c + 1 : Nat) : Int)) ar2 := by
            unfold bkF
            rw [if_neg (by omega), mv_18, if_neg one_ne]
            have q1 : iI (((k + 1 : Nat) : Int) - 1) = iI (k : Int) := by congr 1; omega
            have q2 : iI (((if o (k + 1 - 1) = o k then c else Y (o (k + 1 - 1)) : Nat) : Int) + 1) = iI ((c + 1 : Nat) : Int) := by
              rw [Nat.add_sub_cancel, if_pos rfl]; rfl
            rw [q1, q2]
          obtain ⟨m3, v3, ar3, d1, d2, d3, d4, d5⟩ := ihD (n - c - 1) (by omega) (c + 1) m2 x N v2 ar2 Y (fun pl => S pl ∨ CPL A o n P (k + 1) (c + 1) (fun p => if p = o k then c else Y p) pl) (by omega) hM2
            (by
              intro j hj
              rw [b3 j (by omega), vu_eq, ud_ne (ne j hj)]
              exact hp j hj)
            hI (fun hk' => by have := hf hk'; omega) b5
            (by
              rintro pl (q | q)
              · exact hS pl q
              · exact q.1)
            (by
              show (n - c - 1) * 25 ^ r + x ≤ m2
              omega) (by omega)
          refine ⟨m3, v3, ar3, d1, ?_, ?_, ?_, ?_⟩
          · rw [f_X7_moves_L23, h1.2.2.2, if_neg (nle_iI (by omega) (by omega) (by omega)), c5, Option.bind_some, if_neg nc, if_neg (ob_nat (show k < 5 by omega) (by omega)), ix_nat (by omega), hM.2.2 k hkP, if_neg (ob_nat (show o k < 5 by omega) (by omega)), ix_nat (by omega), iI_succ, iI_succ]
            rw [b2, e2, d2]
          · intro j hj
            rw [d3 j hj, b3 j (by omega), vu_eq, ud_ne (ne j hj)]
          · intro r hr hr2
            rw [d4 r hr hr2, b4 r hr hr2, vu_ne hr]
          · refine BST_iff d5 (fun pl => ?_)
            constructor
            · rintro ((q | q) | q)
              · exact Or.inl q
              · refine Or.inr ⟨q.1, fun j hj => ?_, fun _ => ?_⟩
                · rw [q.2.1 j (by omega)]; exact hY1 j hj
                · have : pl (o k) = if o k = o k then c else Y (o k) := q.2.1 k (by omega)
                  rw [if_pos rfl] at this
                  omega
              · exact Or.inr ⟨q.1, q.2.1, fun z => by have := q.2.2 z; omega⟩
            · rintro (q | q)
              · exact Or.inl (Or.inl q)
              · have a := (q.1.1 (o k) hok)
                have a2 := q.2.2 hkP
                by_cases e : pl (o k) = c
                · refine Or.inl (Or.inr ⟨q.1, fun j hj => ?_, fun hk1 => ?_⟩)
                  · show pl (o j) = if o j = o k then c else Y (o j)
                    by_cases e2 : j = k
                    · subst e2; rw [if_pos rfl]; exact e
                    · rw [hY1 j (by omega)]; exact q.2.1 j (by omega)
                  · have := q.1.2 k hk1
                    omega
                · refine Or.inr ⟨q.1, q.2.1, fun _ => ?_⟩
                  by_cases e2 : pl (o k) < c
                  · exact absurd a.2 (c4 _ a2 e2)
                  · omega
        · refine ⟨m, v1, ar, by omega, ?_, fun _ _ => rfl, fun _ _ _ => rfl, ?_⟩
          · rw [f_X7_moves_L23, h1.2.2.2, if_neg (nle_iI (by omega) (by omega) (by omega)), c2, Option.bind_some, if_pos rfl]
            have eU : mvU N sc v1 (iI k) ar = some (v1, ar) := by
              unfold mvU
              rw [h1.2.2.2, if_neg (by rw [iI_eq (by omega) (by omega) (by omega) (by omega)]; omega)]
            rw [eU, Option.bind_some]
            exact x7_back hM ho (by omega) (fun hk' => (hp (k - 1) (by omega)).1)
          · refine BST_iff hB (fun pl => ⟨Or.inl, ?_⟩)
            rintro (q | q)
            · exact q
            · have a := (q.1.1 (o k) (ho k hkP))
              exact absurd a.2 (c1 _ (q.2.2 hkP) a.1)
    exact key d d (Nat.le_refl _)
end PC36
