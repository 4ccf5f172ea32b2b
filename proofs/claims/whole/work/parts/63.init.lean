-- ===== the start: both objects new =====
theorem mdG_all : ∀ c : Fin 24, mdG c.val = 10 := by decide
theorem mdS_all : ∀ c : Fin 4, mdS c.val = -1 := by decide
def A00 : AS := fun k i => if k = 0 ∧ i = 0 then 16 else if k = 1 then 10 else if k = 14 ∧ i = 0 then 10 else 0
theorem A00_2 : A00 2 0 = 0 := by decide
theorem A00_6 : A00 6 0 = 0 := by decide
theorem A00_9 : A00 9 0 = 0 := by decide
theorem A00_15 : A00 15 0 = 0 := by decide
theorem WF_00 : WF A00 := by
  refine ⟨?_, ?_, ?_, ?_, ?_, ?_⟩
  · decide
  · intro c _
    have : A00 1 c = 10 := by simp [A00]
    omega
  · intro i hi; exact absurd hi (by rw [A00_2]; omega)
  · intro i hi; exact absurd hi (by rw [A00_6]; omega)
  · intro i hi; exact absurd hi (by rw [A00_9]; omega)
  · intro i hi; exact absurd hi (by rw [A00_15]; omega)
theorem LA_00 : LA A00 lnI lnR (fun _ => trI) (fun _ => 0) (fun _ _ => 0) := by
  refine ⟨⟨by decide, by decide, by decide, by decide, by decide, by decide⟩, ?_, ?_, ?_, ?_, ?_, ?_, ?_⟩
  · intro c hc
    have h0 : A00 0 0 = 16 := by decide
    have h1 : A00 1 c = 10 := by simp [A00]
    have h2 : lnR 1 c = 10 := by
      show gF 24 c = 10
      unfold gF
      rw [if_pos (by omega)]
    rw [h1, h2]; decide
  · intro c hc hc2
    show gF 24 c = iI 10
    unfold gF
    rw [if_pos hc2]; decide
  · intro i hi; exact absurd hi (by rw [A00_2]; omega)
  · intro i hi; exact absurd hi (by rw [A00_6]; omega)
  · intro i hi; exact absurd hi (by rw [A00_9]; omega)
  · intro i hi; exact absurd hi (by rw [A00_15]; omega)
  · intro i _; rfl
theorem MA_00 : MA A00 mdI mdA := by
  refine ⟨⟨by decide, by decide, by decide, by decide, by decide, by decide⟩, ?_, ?_, ?_, ?_, ?_⟩
  · intro c hc
    have h0 : A00 0 0 = 16 := by decide
    have h1 : A00 1 c = 10 := by simp [A00]
    have h2 : mdA 1 c = 10 := mdG_all ⟨c, by omega⟩
    rw [h1, h2]; decide
  · intro i hi; exact absurd hi (by rw [A00_2]; omega)
  · intro i hi; exact absurd hi (by rw [A00_6]; omega)
  · intro i hi; exact absurd hi (by rw [A00_9]; omega)
  · intro i hi; exact absurd hi (by rw [A00_15]; omega)
theorem INV_0 : INV (fun _ => 0) (fun _ _ => 0) trI (fun _ => 0) (fun _ _ => 0) lnI lnR (fun _ => trI) (fun _ => 0) (fun _ _ => 0) (fun _ _ => 0) lnI lnR (fun _ => trI) (fun _ => 0) (fun _ _ => 0) lnI lnR (fun _ => trI) (fun _ => 0) (fun _ _ => 0) (fun _ => shI) (fun _ _ => 0) (fun _ => trI) mdI mdA (fun _ _ => 0) := by
  refine ⟨A00, 0, LA_00, MA_00, WF_00, ?_, by decide, ⟨⟨by omega, by decide, by decide⟩, fun i hi => absurd hi (by omega)⟩, fun k _ => rfl, Or.inl ⟨rfl, by decide⟩, ?_⟩
  · intro i j hi; exact absurd hi (by rw [A00_6]; omega)
  · intro k hk
    refine ⟨-1, 0, ⟨show shI 0 = iI (-1) by decide, ?_, show shI 1 = iI 0 by decide, show (0 : Int32) = iI 0 by decide⟩, by omega, fun h => absurd h (by omega), fun h => absurd h (by omega)⟩
    show mdS k = iI (-1)
    rw [mdS_all ⟨k, hk⟩]; decide
