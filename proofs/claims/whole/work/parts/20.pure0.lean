-- ===== numbers: an Int32 as the picture of an Int =====
def iI (z : Int) : Int32 := Int32.ofInt z
noncomputable def bI (P : Prop) : Int32 := @ite _ P (Classical.propDecidable P) 1 0
theorem bI_t {P : Prop} (h : P) : bI P = 1 := by unfold bI; exact if_pos h
theorem bI_f {P : Prop} (h : ¬ P) : bI P = 0 := by unfold bI; exact if_neg h
theorem bI_iff {P Q : Prop} (h : P ↔ Q) : bI P = bI Q := by rw [propext h]
theorem bI_0 {P : Prop} : bI P = 0 ↔ ¬ P := by
  by_cases h : P
  · rw [bI_t h]; simp [h]
  · rw [bI_f h]; simp [h]
theorem bI_01 (P : Prop) : bI P = 0 ∨ bI P = 1 := by
  by_cases h : P
  · exact Or.inr (bI_t h)
  · exact Or.inl (bI_f h)
theorem bI_ite {P : Prop} {α : Type} {x y : α} : (if bI P = 0 then x else y) = @ite _ P (Classical.propDecidable P) y x := by
  by_cases h : P
  · rw [bI_t h, if_pos h]; rfl
  · rw [bI_f h, if_neg h]; rfl
theorem bI_dec {P : Prop} [Decidable P] : (if P then (1 : Int32) else 0) = bI P := by
  by_cases h : P
  · rw [bI_t h, if_pos h]
  · rw [bI_f h, if_neg h]
theorem bI_decn {P : Prop} [Decidable P] : (if P then (0 : Int32) else 1) = bI (¬ P) := by
  by_cases h : P
  · rw [bI_f (fun z => z h), if_pos h]
  · rw [bI_t h, if_neg h]
theorem iI_toInt (x : Int32) : iI x.toInt = x := Int32.ofInt_toInt x
theorem iI_rng (x : Int32) : -2147483648 ≤ x.toInt ∧ x.toInt < 2147483648 := ⟨by have := Int32.minValue_le_toInt x; simpa using this, by have := Int32.toInt_lt x; simpa using this⟩
theorem iI_add (a b : Int) : iI a + iI b = iI (a + b) := (Int32.ofInt_add a b).symm
theorem iI_sub (a b : Int) : iI a - iI b = iI (a - b) := (Int32.ofInt_sub a b).symm
theorem iI_mul (a b : Int) : iI a * iI b = iI (a * b) := (Int32.ofInt_mul a b).symm
theorem iI_neg (a : Int) : -iI a = iI (-a) := (Int32.ofInt_neg a).symm
theorem iI_ti {a : Int} (h1 : -2147483648 ≤ a) (h2 : a < 2147483648) : (iI a).toInt = a := Int32.toInt_ofInt_of_le (by simpa using h1) (by simpa using h2)
theorem iI_lt {a b : Int} (h1 : -2147483648 ≤ a) (h2 : a < 2147483648) (h3 : -2147483648 ≤ b) (h4 : b < 2147483648) : (iI a < iI b) ↔ a < b := by rw [Int32.lt_iff_toInt_lt, iI_ti h1 h2, iI_ti h3 h4]
theorem iI_le {a b : Int} (h1 : -2147483648 ≤ a) (h2 : a < 2147483648) (h3 : -2147483648 ≤ b) (h4 : b < 2147483648) : (iI a ≤ iI b) ↔ a ≤ b := by rw [Int32.le_iff_toInt_le, iI_ti h1 h2, iI_ti h3 h4]
theorem iI_eq {a b : Int} (h1 : -2147483648 ≤ a) (h2 : a < 2147483648) (h3 : -2147483648 ≤ b) (h4 : b < 2147483648) : (iI a = iI b) ↔ a = b := by rw [← Int32.toInt_inj, iI_ti h1 h2, iI_ti h3 h4]
theorem iI_0 : (0 : Int32) = iI 0 := rfl
theorem iI_lit (n : Nat) : (OfNat.ofNat n : Int32) = iI (n : Int) := by
  show Int32.ofNat n = Int32.ofInt (n : Int)
  apply Int32.toBitVec_inj.mp
  first | (simp; done) | rfl
theorem ix_iI {a : Int} (h1 : 0 ≤ a) (h2 : a < 2147483648) : ix (iI a) = a.toNat := by
  show (iI a).toInt.toNat = a.toNat
  rw [iI_ti (by omega) h2]
theorem oob_iI {a : Int} {n : Nat} (h1 : -2147483648 ≤ a) (h2 : a < 2147483648) : oob (iI a) n ↔ (a < 0 ∨ (n : Int) ≤ a) := by
  have e : (iI a).toNatClampNeg = a.toNat := by
    show (iI a).toInt.toNat = a.toNat
    rw [iI_ti h1 h2]
  show (iI a < 0 ∨ n ≤ (iI a).toNatClampNeg) ↔ _
  rw [e, iI_0, iI_lt h1 h2 (by omega) (by omega)]
  constructor
  · rintro (h | h)
    · exact Or.inl h
    · by_cases z : a < 0
      · exact Or.inl z
      · exact Or.inr (by omega)
  · rintro (h | h)
    · exact Or.inl h
    · exact Or.inr (by omega)
