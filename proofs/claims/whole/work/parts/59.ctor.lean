-- ===== constructors =====
def trI : S1 := fun i => if i = 2 then 1 else 0
def plW (cy : Nat → ClassId) (ad : Nat → Nat) : va_W := [(ad 0, .inr (3, [.int 0, .ref (ad 1), .ref (ad 2), .ref (ad 3)])), (ad 1, .inl (cy 0, 8, .inl (fun _ => 0))), (ad 2, .inl (cy 0, 8, .inl (fun _ => 0))), (ad 3, .inl (cy 2, 56, .inl (fun _ => 0)))]
def shI : S1 := fun i => if i = 0 then -1 else 0
def gF (n : Nat) : Nat → Int32 := fun j => if j < n then 10 else 0
theorem gF_s {i : Nat} (h : i < 2147483648) : upd (gF i) (ix (iI (i : Int))) 10 = gF (i + 1) := by
  rw [ix_nat h]
  funext j
  unfold gF
  by_cases e : j = i
  · rw [e, ud_eq, if_pos (by omega)]
  · rw [ud_ne e]
    by_cases c : j < i
    · rw [if_pos c, if_pos (by omega)]
    · rw [if_neg c, if_neg (by omega)]
theorem gF_0 : gF 0 = fun _ => 0 := by funext j; unfold gF; rw [if_neg (by omega)]
section UUx
variable {p : Program} {l : Launch} {e : Env} {R : Room} {s : State} {m : MethodId} {args : Array Value} {below : List Frame} {meth : Method} {c : Code}
variable {cc : ByteArray} {own : String} {nL : Nat} {ret : Option FieldType} {D : va_G} {cy : Nat → ClassId} {A : Nat → Prop} {Bd : Nat} {xa : Xa} {Q : State → Prop} {cl sl : Nat}
variable {pc : Nat} {L : List (Nat × Value)} {st : List Value} {ws : va_W}
/-- an array of references is what it is below its length -/
theorem uu_cell (q0 : Nat) {z n : Nat} {cA : ClassId} {f f' : Nat → Option Nat} (ha : ws[q0]? = some (z, .inl (cA, n, .inr (.inr (.inr (.inr f)))))) (hf : ∀ j, j < n → f j = f' j) {ws' : va_W} (hw : ws.set q0 (z, .inl (cA, n, .inr (.inr (.inr (.inr f'))))) = ws') (k : UU p l e R s m args below meth c nL D A Q cl sl pc L st ws') : UU p l e R s m args below meth c nL D A Q cl sl pc L st ws := by
  intro H locs ls hP hD hS hl
  have h1 : va_at D classes (z, .inl (cA, n, .inr (.inr (.inr (.inr f'))))) H := by
    have h0 : H[z]? = some (vp_cell cA (n, .inr (.inr (.inr (.inr f))))) := hP q0 _ ha
    show H[z]? = some (vp_cell cA (n, .inr (.inr (.inr (.inr f')))))
    rw [h0, vp_cell_q, vp_cell_q]
    congr 1
    unfold arrV
    congr 1
    congr 1
    funext j
    show va_rf (f j.val) = va_rf (f' j.val)
    rw [hf j.val j.isLt]
  exact k H locs ls (hw ▸ hP.set hD ha h1 (fun _ _ => rfl)) (hw ▸ hD.set ha) hS hl
end UUx
theorem dX5_init_0 : decode cX5_init 0 = .ok (.aload_n 0, 1) := by decide +kernel
theorem dX5_init_1 : decode cX5_init 1 = .ok (.invokespecial 3, 3) := by decide +kernel
theorem dX5_init_4 : decode cX5_init 4 = .ok (.aload_n 0, 1) := by decide +kernel
theorem dX5_init_5 : decode cX5_init 5 = .ok (.iconst 0, 1) := by decide +kernel
theorem dX5_init_6 : decode cX5_init 6 = .ok (.putfield 9, 3) := by decide +kernel
theorem dX5_init_9 : decode cX5_init 9 = .ok (.aload_n 0, 1) := by decide +kernel
theorem dX5_init_10 : decode cX5_init 10 = .ok (.iconst 0, 1) := by decide +kernel
theorem dX5_init_11 : decode cX5_init 11 = .ok (.putfield 15, 3) := by decide +kernel
theorem dX5_init_14 : decode cX5_init 14 = .ok (.aload_n 0, 1) := by decide +kernel
theorem dX5_init_15 : decode cX5_init 15 = .ok (.iconst 1, 1) := by decide +kernel
theorem dX5_init_16 : decode cX5_init 16 = .ok (.putfield 18, 3) := by decide +kernel
theorem dX5_init_19 : decode cX5_init 19 = .ok (.aload_n 0, 1) := by decide +kernel
theorem dX5_init_20 : decode cX5_init 20 = .ok (.iconst 0, 1) := by decide +kernel
theorem dX5_init_21 : decode cX5_init 21 = .ok (.putfield 21, 3) := by decide +kernel
theorem dX5_init_24 : decode cX5_init 24 = .ok (.return_, 1) := by decide +kernel
set_option maxRecDepth 100000 in
set_option maxHeartbeats 4000000 in
theorem kn_X5 {l : Launch} {D : va_G} {cy : Nat → ClassId} {Bd : Nat} {xa : Xa} : KN l yX5_init cX5_init 1 1 12 0 0 D cy Bd xa 5 [.int 0, .int 0, .int 0, .int 0] (fun ad : Nat → Nat => ad 0) (fun ad => [(ad 0, tE trI)]) := by
  refine kn_start (own := RX5) (by decide) rfl (by decide) rfl ?_
  intro p e s m args below meth c A h0 C hN hin
  refine uu_aload_n C dX5_init_0 rfl (k := 0) rfl ?_
  refine uu_objInit C q1_60 q1_22 q1_23 (Nat.le_of_ble_eq_true rfl) (Nat.le_of_ble_eq_true rfl) dX5_init_1 ?_
  refine uu_aload_n C dX5_init_4 rfl (k := 0) rfl ?_
  refine uu_iconst C (v := 0) dX5_init_5 (by decide) ?_
  refine uu_put C fiX5 (ci := 5) rfl 0 rfl 0 (by decide) q1_61 rfl (ty := .int) rfl rfl rfl (Nat.le_of_ble_eq_true rfl) dX5_init_6 (ws' := [(h0, .inr (5, [.int 0, .int 0, .int 0, .int 0]))]) rfl ?_
  refine uu_aload_n C dX5_init_9 rfl (k := 0) rfl ?_
  refine uu_iconst C (v := 0) dX5_init_10 (by decide) ?_
  refine uu_put C fiX5 (ci := 5) rfl 0 rfl 1 (by decide) q1_64 rfl (ty := .int) rfl rfl rfl (Nat.le_of_ble_eq_true rfl) dX5_init_11 (ws' := [(h0, .inr (5, [.int 0, .int 0, .int 0, .int 0]))]) rfl ?_
  refine uu_aload_n C dX5_init_14 rfl (k := 0) rfl ?_
  refine uu_iconst C (v := 1) dX5_init_15 (by decide) ?_
  refine uu_put C fiX5 (ci := 5) rfl 0 rfl 2 (by decide) q1_67 rfl (ty := .int) rfl rfl rfl (Nat.le_of_ble_eq_true rfl) dX5_init_16 (ws' := [(h0, .inr (5, [.int 0, .int 0, .int 1, .int 0]))]) rfl ?_
  refine uu_aload_n C dX5_init_19 rfl (k := 0) rfl ?_
  refine uu_iconst C (v := 0) dX5_init_20 (by decide) ?_
  refine uu_put C fiX5 (ci := 5) rfl 0 rfl 3 (by decide) q1_70 rfl (ty := .int) rfl rfl rfl (Nat.le_of_ble_eq_true rfl) dX5_init_21 (ws' := [(h0, .inr (5, [.int 0, .int 0, .int 1, .int 0]))]) rfl ?_
  exact uu_vreturn C (fun i => h0) rfl rfl (Nat.le_of_ble_eq_true rfl) (Nat.le_of_ble_eq_true rfl) dX5_init_24
theorem dX3_init_0 : decode cX3_init 0 = .ok (.aload_n 0, 1) := by decide +kernel
theorem dX3_init_1 : decode cX3_init 1 = .ok (.invokespecial 3, 3) := by decide +kernel
theorem dX3_init_4 : decode cX3_init 4 = .ok (.aload_n 0, 1) := by decide +kernel
theorem dX3_init_5 : decode cX3_init 5 = .ok (.iconst 0, 1) := by decide +kernel
theorem dX3_init_6 : decode cX3_init 6 = .ok (.putfield 9, 3) := by decide +kernel
theorem dX3_init_9 : decode cX3_init 9 = .ok (.aload_n 0, 1) := by decide +kernel
theorem dX3_init_10 : decode cX3_init 10 = .ok (.bipush 8, 2) := by decide +kernel
theorem dX3_init_12 : decode cX3_init 12 = .ok (.newarray .int, 2) := by decide +kernel
theorem dX3_init_14 : decode cX3_init 14 = .ok (.putfield 15, 3) := by decide +kernel
theorem dX3_init_17 : decode cX3_init 17 = .ok (.aload_n 0, 1) := by decide +kernel
theorem dX3_init_18 : decode cX3_init 18 = .ok (.bipush 8, 2) := by decide +kernel
theorem dX3_init_20 : decode cX3_init 20 = .ok (.newarray .int, 2) := by decide +kernel
theorem dX3_init_22 : decode cX3_init 22 = .ok (.putfield 19, 3) := by decide +kernel
theorem dX3_init_25 : decode cX3_init 25 = .ok (.aload_n 0, 1) := by decide +kernel
theorem dX3_init_26 : decode cX3_init 26 = .ok (.bipush 56, 2) := by decide +kernel
theorem dX3_init_28 : decode cX3_init 28 = .ok (.newarray .char, 2) := by decide +kernel
theorem dX3_init_30 : decode cX3_init 30 = .ok (.putfield 22, 3) := by decide +kernel
theorem dX3_init_33 : decode cX3_init 33 = .ok (.return_, 1) := by decide +kernel
set_option maxRecDepth 100000 in
set_option maxHeartbeats 4000000 in
theorem kn_X3 {l : Launch} {D : va_G} {cy : Nat → ClassId} {Bd : Nat} {xa : Xa} : KN l yX3_init cX3_init 1 1 12 3 72 D cy Bd xa 3 [.int 0, .null, .null, .null] (fun ad : Nat → Nat => ad 0) (plW cy) := by
  refine kn_start (own := RX3) (by decide) rfl (by decide) rfl ?_
  intro p e s m args below meth c A h0 C hN hin
  refine uu_aload_n C dX3_init_0 rfl (k := 0) rfl ?_
  refine uu_objInit C q1_37 q1_22 q1_23 (Nat.le_of_ble_eq_true rfl) (Nat.le_of_ble_eq_true rfl) dX3_init_1 ?_
  refine uu_aload_n C dX3_init_4 rfl (k := 0) rfl ?_
  refine uu_iconst C (v := 0) dX3_init_5 (by decide) ?_
  refine uu_put C fiX3 (ci := 3) rfl 0 rfl 0 (by decide) q1_38 rfl (ty := .int) rfl rfl rfl (Nat.le_of_ble_eq_true rfl) dX3_init_6 (ws' := [(h0, .inr (3, [.int 0, .null, .null, .null]))]) rfl ?_
  refine uu_aload_n C dX3_init_9 rfl (k := 0) rfl ?_
  refine uu_bipush C (v := 8) dX3_init_10 (by decide) ?_
  refine uu_newa C .int (ty := .int) rfl q1_54 0 rfl 8 (a0 := (8, .inl (fun _ => 0))) (fun _ => rfl) (by decide) (by decide) (Nat.le_of_ble_eq_true rfl) (Nat.le_of_ble_eq_true rfl) (Nat.le_of_ble_eq_true rfl) dX3_init_12 (fun z0 => ?_)
  refine uu_putF C fiX3 (ci := 3) rfl 0 rfl 1 (by decide) q1_40 rfl hin rfl (ty := .array .int) rfl rfl rfl (Nat.le_of_ble_eq_true rfl) dX3_init_14 (ws' := [(h0, .inr (3, [.int 0, .ref z0, .null, .null])), (z0, .inl (cy 0, 8, .inl (fun _ => 0)))]) rfl ?_
  refine uu_aload_n C dX3_init_17 rfl (k := 0) rfl ?_
  refine uu_bipush C (v := 8) dX3_init_18 (by decide) ?_
  refine uu_newa C .int (ty := .int) rfl q1_54 0 rfl 8 (a0 := (8, .inl (fun _ => 0))) (fun _ => rfl) (by decide) (by decide) (Nat.le_of_ble_eq_true rfl) (Nat.le_of_ble_eq_true rfl) (Nat.le_of_ble_eq_true rfl) dX3_init_20 (fun z1 => ?_)
  refine uu_putF C fiX3 (ci := 3) rfl 0 rfl 2 (by decide) q1_42 rfl hin rfl (ty := .array .int) rfl rfl rfl (Nat.le_of_ble_eq_true rfl) dX3_init_22 (ws' := [(h0, .inr (3, [.int 0, .ref z0, .ref z1, .null])), (z0, .inl (cy 0, 8, .inl (fun _ => 0))), (z1, .inl (cy 0, 8, .inl (fun _ => 0)))]) rfl ?_
  refine uu_aload_n C dX3_init_25 rfl (k := 0) rfl ?_
  refine uu_bipush C (v := 56) dX3_init_26 (by decide) ?_
  refine uu_newa C .char (ty := .char) rfl q1_55 2 rfl 56 (a0 := (56, .inl (fun _ => 0))) (fun _ => rfl) (by decide) (by decide) (Nat.le_of_ble_eq_true rfl) (Nat.le_of_ble_eq_true rfl) (Nat.le_of_ble_eq_true rfl) dX3_init_28 (fun z2 => ?_)
  refine uu_putF C fiX3 (ci := 3) rfl 0 rfl 3 (by decide) q1_44 rfl hin rfl (ty := .array .char) rfl rfl rfl (Nat.le_of_ble_eq_true rfl) dX3_init_30 (ws' := [(h0, .inr (3, [.int 0, .ref z0, .ref z1, .ref z2])), (z0, .inl (cy 0, 8, .inl (fun _ => 0))), (z1, .inl (cy 0, 8, .inl (fun _ => 0))), (z2, .inl (cy 2, 56, .inl (fun _ => 0)))]) rfl ?_
  exact uu_vreturn C (fun i => if i = 1 then z0 else if i = 2 then z1 else if i = 3 then z2 else h0) rfl rfl (Nat.le_of_ble_eq_true rfl) (Nat.le_of_ble_eq_true rfl) dX3_init_33
theorem dX0_init_0 : decode cX0_init 0 = .ok (.aload_n 0, 1) := by decide +kernel
theorem dX0_init_1 : decode cX0_init 1 = .ok (.invokespecial 3, 3) := by decide +kernel
theorem dX0_init_4 : decode cX0_init 4 = .ok (.aload_n 0, 1) := by decide +kernel
theorem dX0_init_5 : decode cX0_init 5 = .ok (.iconst 0, 1) := by decide +kernel
theorem dX0_init_6 : decode cX0_init 6 = .ok (.putfield 9, 3) := by decide +kernel
theorem dX0_init_9 : decode cX0_init 9 = .ok (.aload_n 0, 1) := by decide +kernel
theorem dX0_init_10 : decode cX0_init 10 = .ok (.iconst 0, 1) := by decide +kernel
theorem dX0_init_11 : decode cX0_init 11 = .ok (.putfield 15, 3) := by decide +kernel
theorem dX0_init_14 : decode cX0_init 14 = .ok (.aload_n 0, 1) := by decide +kernel
theorem dX0_init_15 : decode cX0_init 15 = .ok (.bipush 120, 2) := by decide +kernel
theorem dX0_init_17 : decode cX0_init 17 = .ok (.newarray .char, 2) := by decide +kernel
theorem dX0_init_19 : decode cX0_init 19 = .ok (.putfield 18, 3) := by decide +kernel
theorem dX0_init_22 : decode cX0_init 22 = .ok (.aload_n 0, 1) := by decide +kernel
theorem dX0_init_23 : decode cX0_init 23 = .ok (.iconst 0, 1) := by decide +kernel
theorem dX0_init_24 : decode cX0_init 24 = .ok (.putfield 22, 3) := by decide +kernel
theorem dX0_init_27 : decode cX0_init 27 = .ok (.aload_n 0, 1) := by decide +kernel
theorem dX0_init_28 : decode cX0_init 28 = .ok (.iconst 0, 1) := by decide +kernel
theorem dX0_init_29 : decode cX0_init 29 = .ok (.putfield 25, 3) := by decide +kernel
theorem dX0_init_32 : decode cX0_init 32 = .ok (.aload_n 0, 1) := by decide +kernel
theorem dX0_init_33 : decode cX0_init 33 = .ok (.iconst 0, 1) := by decide +kernel
theorem dX0_init_34 : decode cX0_init 34 = .ok (.putfield 28, 3) := by decide +kernel
theorem dX0_init_37 : decode cX0_init 37 = .ok (.aload_n 0, 1) := by decide +kernel
theorem dX0_init_38 : decode cX0_init 38 = .ok (.iconst 4, 1) := by decide +kernel
theorem dX0_init_39 : decode cX0_init 39 = .ok (.newarray .int, 2) := by decide +kernel
theorem dX0_init_41 : decode cX0_init 41 = .ok (.putfield 31, 3) := by decide +kernel
theorem dX0_init_44 : decode cX0_init 44 = .ok (.return_, 1) := by decide +kernel
set_option maxRecDepth 100000 in
set_option maxHeartbeats 4000000 in
theorem kn_X0 {l : Launch} {D : va_G} {cy : Nat → ClassId} {Bd : Nat} {xa : Xa} : KN l yX0_init cX0_init 1 1 12 2 124 D cy Bd xa 0 [.int 0, .int 0, .null, .int 0, .int 0, .int 0, .null] (fun ad : Nat → Nat => ad 0) (fun ad => eC cy ad (fun _ => 0) (fun _ _ => 0)) := by
  refine kn_start (own := RX0) (by decide) rfl (by decide) rfl ?_
  intro p e s m args below meth c A h0 C hN hin
  refine uu_aload_n C dX0_init_0 rfl (k := 0) rfl ?_
  refine uu_objInit C q1_145 q1_22 q1_23 (Nat.le_of_ble_eq_true rfl) (Nat.le_of_ble_eq_true rfl) dX0_init_1 ?_
  refine uu_aload_n C dX0_init_4 rfl (k := 0) rfl ?_
  refine uu_iconst C (v := 0) dX0_init_5 (by decide) ?_
  refine uu_put C fiX0 (ci := 0) rfl 0 rfl 0 (by decide) q1_146 rfl (ty := .int) rfl rfl rfl (Nat.le_of_ble_eq_true rfl) dX0_init_6 (ws' := [(h0, .inr (0, [.int 0, .int 0, .null, .int 0, .int 0, .int 0, .null]))]) rfl ?_
  refine uu_aload_n C dX0_init_9 rfl (k := 0) rfl ?_
  refine uu_iconst C (v := 0) dX0_init_10 (by decide) ?_
  refine uu_put C fiX0 (ci := 0) rfl 0 rfl 1 (by decide) q1_148 rfl (ty := .int) rfl rfl rfl (Nat.le_of_ble_eq_true rfl) dX0_init_11 (ws' := [(h0, .inr (0, [.int 0, .int 0, .null, .int 0, .int 0, .int 0, .null]))]) rfl ?_
  refine uu_aload_n C dX0_init_14 rfl (k := 0) rfl ?_
  refine uu_bipush C (v := 120) dX0_init_15 (by decide) ?_
  refine uu_newa C .char (ty := .char) rfl q1_55 2 rfl 120 (a0 := (120, .inl (fun _ => 0))) (fun _ => rfl) (by decide) (by decide) (Nat.le_of_ble_eq_true rfl) (Nat.le_of_ble_eq_true rfl) (Nat.le_of_ble_eq_true rfl) dX0_init_17 (fun z0 => ?_)
  refine uu_putF C fiX0 (ci := 0) rfl 0 rfl 2 (by decide) q1_150 rfl hin rfl (ty := .array .char) rfl rfl rfl (Nat.le_of_ble_eq_true rfl) dX0_init_19 (ws' := [(h0, .inr (0, [.int 0, .int 0, .ref z0, .int 0, .int 0, .int 0, .null])), (z0, .inl (cy 2, 120, .inl (fun _ => 0)))]) rfl ?_
  refine uu_aload_n C dX0_init_22 rfl (k := 0) rfl ?_
  refine uu_iconst C (v := 0) dX0_init_23 (by decide) ?_
  refine uu_put C fiX0 (ci := 0) rfl 0 rfl 3 (by decide) q1_151 rfl (ty := .int) rfl rfl rfl (Nat.le_of_ble_eq_true rfl) dX0_init_24 (ws' := [(h0, .inr (0, [.int 0, .int 0, .ref z0, .int 0, .int 0, .int 0, .null])), (z0, .inl (cy 2, 120, .inl (fun _ => 0)))]) rfl ?_
  refine uu_aload_n C dX0_init_27 rfl (k := 0) rfl ?_
  refine uu_iconst C (v := 0) dX0_init_28 (by decide) ?_
  refine uu_put C fiX0 (ci := 0) rfl 0 rfl 4 (by decide) q1_152 rfl (ty := .int) rfl rfl rfl (Nat.le_of_ble_eq_true rfl) dX0_init_29 (ws' := [(h0, .inr (0, [.int 0, .int 0, .ref z0, .int 0, .int 0, .int 0, .null])), (z0, .inl (cy 2, 120, .inl (fun _ => 0)))]) rfl ?_
  refine uu_aload_n C dX0_init_32 rfl (k := 0) rfl ?_
  refine uu_iconst C (v := 0) dX0_init_33 (by decide) ?_
  refine uu_put C fiX0 (ci := 0) rfl 0 rfl 5 (by decide) q1_153 rfl (ty := .int) rfl rfl rfl (Nat.le_of_ble_eq_true rfl) dX0_init_34 (ws' := [(h0, .inr (0, [.int 0, .int 0, .ref z0, .int 0, .int 0, .int 0, .null])), (z0, .inl (cy 2, 120, .inl (fun _ => 0)))]) rfl ?_
  refine uu_aload_n C dX0_init_37 rfl (k := 0) rfl ?_
  refine uu_iconst C (v := 4) dX0_init_38 (by decide) ?_
  refine uu_newa C .int (ty := .int) rfl q1_54 0 rfl 4 (a0 := (4, .inl (fun _ => 0))) (fun _ => rfl) (by decide) (by decide) (Nat.le_of_ble_eq_true rfl) (Nat.le_of_ble_eq_true rfl) (Nat.le_of_ble_eq_true rfl) dX0_init_39 (fun z1 => ?_)
  refine uu_putF C fiX0 (ci := 0) rfl 0 rfl 6 (by decide) q1_154 rfl hin rfl (ty := .array .int) rfl rfl rfl (Nat.le_of_ble_eq_true rfl) dX0_init_41 (ws' := [(h0, .inr (0, [.int 0, .int 0, .ref z0, .int 0, .int 0, .int 0, .ref z1])), (z0, .inl (cy 2, 120, .inl (fun _ => 0))), (z1, .inl (cy 0, 4, .inl (fun _ => 0)))]) rfl ?_
  exact uu_vreturn C (fun i => if i = 2 then z0 else if i = 6 then z1 else h0) rfl rfl (Nat.le_of_ble_eq_true rfl) (Nat.le_of_ble_eq_true rfl) dX0_init_44
theorem dX2_init_0 : decode cX2_init 0 = .ok (.aload_n 0, 1) := by decide +kernel
theorem dX2_init_1 : decode cX2_init 1 = .ok (.invokespecial 3, 3) := by decide +kernel
theorem dX2_init_4 : decode cX2_init 4 = .ok (.aload_n 0, 1) := by decide +kernel
theorem dX2_init_5 : decode cX2_init 5 = .ok (.bipush 120, 2) := by decide +kernel
theorem dX2_init_7 : decode cX2_init 7 = .ok (.newarray .boolean, 2) := by decide +kernel
theorem dX2_init_9 : decode cX2_init 9 = .ok (.putfield 9, 3) := by decide +kernel
theorem dX2_init_12 : decode cX2_init 12 = .ok (.aload_n 0, 1) := by decide +kernel
theorem dX2_init_13 : decode cX2_init 13 = .ok (.iconst 5, 1) := by decide +kernel
theorem dX2_init_14 : decode cX2_init 14 = .ok (.newarray .int, 2) := by decide +kernel
theorem dX2_init_16 : decode cX2_init 16 = .ok (.putfield 15, 3) := by decide +kernel
theorem dX2_init_19 : decode cX2_init 19 = .ok (.aload_n 0, 1) := by decide +kernel
theorem dX2_init_20 : decode cX2_init 20 = .ok (.iconst 5, 1) := by decide +kernel
theorem dX2_init_21 : decode cX2_init 21 = .ok (.newarray .int, 2) := by decide +kernel
theorem dX2_init_23 : decode cX2_init 23 = .ok (.putfield 19, 3) := by decide +kernel
theorem dX2_init_26 : decode cX2_init 26 = .ok (.aload_n 0, 1) := by decide +kernel
theorem dX2_init_27 : decode cX2_init 27 = .ok (.bipush 24, 2) := by decide +kernel
theorem dX2_init_29 : decode cX2_init 29 = .ok (.newarray .int, 2) := by decide +kernel
theorem dX2_init_31 : decode cX2_init 31 = .ok (.putfield 22, 3) := by decide +kernel
theorem dX2_init_34 : decode cX2_init 34 = .ok (.return_, 1) := by decide +kernel
set_option maxRecDepth 100000 in
set_option maxHeartbeats 4000000 in
theorem kn_X2 {l : Launch} {D : va_G} {cy : Nat → ClassId} {Bd : Nat} {xa : Xa} : KN l yX2_init cX2_init 1 1 12 4 154 D cy Bd xa 2 [.null, .null, .null, .null] (fun ad : Nat → Nat => ad 0) (fun ad => vC cy ad (fun _ _ => 0)) := by
  refine kn_start (own := RX2) (by decide) rfl (by decide) rfl ?_
  intro p e s m args below meth c A h0 C hN hin
  refine uu_aload_n C dX2_init_0 rfl (k := 0) rfl ?_
  refine uu_objInit C q1_177 q1_22 q1_23 (Nat.le_of_ble_eq_true rfl) (Nat.le_of_ble_eq_true rfl) dX2_init_1 ?_
  refine uu_aload_n C dX2_init_4 rfl (k := 0) rfl ?_
  refine uu_bipush C (v := 120) dX2_init_5 (by decide) ?_
  refine uu_newa C .boolean (ty := .boolean) rfl q1_191 3 rfl 120 (a0 := (120, .inl (fun _ => 0))) (fun _ => rfl) (by decide) (by decide) (Nat.le_of_ble_eq_true rfl) (Nat.le_of_ble_eq_true rfl) (Nat.le_of_ble_eq_true rfl) dX2_init_7 (fun z0 => ?_)
  refine uu_putF C fiX2 (ci := 2) rfl 0 rfl 0 (by decide) q1_178 rfl hin rfl (ty := .array .boolean) rfl rfl rfl (Nat.le_of_ble_eq_true rfl) dX2_init_9 (ws' := [(h0, .inr (2, [.ref z0, .null, .null, .null])), (z0, .inl (cy 3, 120, .inl (fun _ => 0)))]) rfl ?_
  refine uu_aload_n C dX2_init_12 rfl (k := 0) rfl ?_
  refine uu_iconst C (v := 5) dX2_init_13 (by decide) ?_
  refine uu_newa C .int (ty := .int) rfl q1_54 0 rfl 5 (a0 := (5, .inl (fun _ => 0))) (fun _ => rfl) (by decide) (by decide) (Nat.le_of_ble_eq_true rfl) (Nat.le_of_ble_eq_true rfl) (Nat.le_of_ble_eq_true rfl) dX2_init_14 (fun z1 => ?_)
  refine uu_putF C fiX2 (ci := 2) rfl 0 rfl 1 (by decide) q1_179 rfl hin rfl (ty := .array .int) rfl rfl rfl (Nat.le_of_ble_eq_true rfl) dX2_init_16 (ws' := [(h0, .inr (2, [.ref z0, .ref z1, .null, .null])), (z0, .inl (cy 3, 120, .inl (fun _ => 0))), (z1, .inl (cy 0, 5, .inl (fun _ => 0)))]) rfl ?_
  refine uu_aload_n C dX2_init_19 rfl (k := 0) rfl ?_
  refine uu_iconst C (v := 5) dX2_init_20 (by decide) ?_
  refine uu_newa C .int (ty := .int) rfl q1_54 0 rfl 5 (a0 := (5, .inl (fun _ => 0))) (fun _ => rfl) (by decide) (by decide) (Nat.le_of_ble_eq_true rfl) (Nat.le_of_ble_eq_true rfl) (Nat.le_of_ble_eq_true rfl) dX2_init_21 (fun z2 => ?_)
  refine uu_putF C fiX2 (ci := 2) rfl 0 rfl 2 (by decide) q1_180 rfl hin rfl (ty := .array .int) rfl rfl rfl (Nat.le_of_ble_eq_true rfl) dX2_init_23 (ws' := [(h0, .inr (2, [.ref z0, .ref z1, .ref z2, .null])), (z0, .inl (cy 3, 120, .inl (fun _ => 0))), (z1, .inl (cy 0, 5, .inl (fun _ => 0))), (z2, .inl (cy 0, 5, .inl (fun _ => 0)))]) rfl ?_
  refine uu_aload_n C dX2_init_26 rfl (k := 0) rfl ?_
  refine uu_bipush C (v := 24) dX2_init_27 (by decide) ?_
  refine uu_newa C .int (ty := .int) rfl q1_54 0 rfl 24 (a0 := (24, .inl (fun _ => 0))) (fun _ => rfl) (by decide) (by decide) (Nat.le_of_ble_eq_true rfl) (Nat.le_of_ble_eq_true rfl) (Nat.le_of_ble_eq_true rfl) dX2_init_29 (fun z3 => ?_)
  refine uu_putF C fiX2 (ci := 2) rfl 0 rfl 3 (by decide) q1_181 rfl hin rfl (ty := .array .int) rfl rfl rfl (Nat.le_of_ble_eq_true rfl) dX2_init_31 (ws' := [(h0, .inr (2, [.ref z0, .ref z1, .ref z2, .ref z3])), (z0, .inl (cy 3, 120, .inl (fun _ => 0))), (z1, .inl (cy 0, 5, .inl (fun _ => 0))), (z2, .inl (cy 0, 5, .inl (fun _ => 0))), (z3, .inl (cy 0, 24, .inl (fun _ => 0)))]) rfl ?_
  exact uu_vreturn C (fun i => if i = 10 then z0 else if i = 11 then z1 else if i = 12 then z2 else if i = 13 then z3 else h0) rfl rfl (Nat.le_of_ble_eq_true rfl) (Nat.le_of_ble_eq_true rfl) dX2_init_34
theorem dX4_init_0 : decode cX4_init 0 = .ok (.aload_n 0, 1) := by decide +kernel
theorem dX4_init_1 : decode cX4_init 1 = .ok (.invokespecial 3, 3) := by decide +kernel
theorem dX4_init_4 : decode cX4_init 4 = .ok (.aload_n 0, 1) := by decide +kernel
theorem dX4_init_5 : decode cX4_init 5 = .ok (.iconst (-1), 1) := by decide +kernel
theorem dX4_init_6 : decode cX4_init 6 = .ok (.putfield 11, 3) := by decide +kernel
theorem dX4_init_9 : decode cX4_init 9 = .ok (.aload_n 0, 1) := by decide +kernel
theorem dX4_init_10 : decode cX4_init 10 = .ok (.iconst 0, 1) := by decide +kernel
theorem dX4_init_11 : decode cX4_init 11 = .ok (.putfield 15, 3) := by decide +kernel
theorem dX4_init_14 : decode cX4_init 14 = .ok (.aload_n 0, 1) := by decide +kernel
theorem dX4_init_15 : decode cX4_init 15 = .ok (.bipush 20, 2) := by decide +kernel
theorem dX4_init_17 : decode cX4_init 17 = .ok (.newarray .long, 2) := by decide +kernel
theorem dX4_init_19 : decode cX4_init 19 = .ok (.putfield 18, 3) := by decide +kernel
theorem dX4_init_22 : decode cX4_init 22 = .ok (.aload_n 0, 1) := by decide +kernel
theorem dX4_init_23 : decode cX4_init 23 = .ok (.new 22, 3) := by decide +kernel
theorem dX4_init_26 : decode cX4_init 26 = .ok (.dup, 1) := by decide +kernel
theorem dX4_init_27 : decode cX4_init 27 = .ok (.invokespecial 24, 3) := by decide +kernel
theorem dX4_init_30 : decode cX4_init 30 = .ok (.putfield 25, 3) := by decide +kernel
theorem dX4_init_33 : decode cX4_init 33 = .ok (.return_, 1) := by decide +kernel
set_option maxRecDepth 100000 in
set_option maxHeartbeats 4000000 in
theorem kn_X4 {l : Launch} {D : va_G} {cy : Nat → ClassId} {Bd : Nat} {xa : Xa} : KN l yX4_init cX4_init 1 2 32 2 24 D cy Bd xa 4 [.int 0, .int 0, .null, .null] (fun ad : Nat → Nat => ad 0) (fun ad => hC cy ad shI (fun _ => 0) trI) := by
  refine kn_start (own := RX4) (by decide) rfl (by decide) rfl ?_
  intro p e s m args below meth c A h0 C hN hin
  refine uu_aload_n C dX4_init_0 rfl (k := 0) rfl ?_
  refine uu_objInit C q1_198 q1_22 q1_23 (Nat.le_of_ble_eq_true rfl) (Nat.le_of_ble_eq_true rfl) dX4_init_1 ?_
  refine uu_aload_n C dX4_init_4 rfl (k := 0) rfl ?_
  refine uu_iconst C (v := (-1)) dX4_init_5 (by decide) ?_
  refine uu_put C fiX4 (ci := 4) rfl 0 rfl 0 (by decide) q1_201 rfl (ty := .int) rfl rfl rfl (Nat.le_of_ble_eq_true rfl) dX4_init_6 (ws' := [(h0, .inr (4, [.int (-1), .int 0, .null, .null]))]) rfl ?_
  refine uu_aload_n C dX4_init_9 rfl (k := 0) rfl ?_
  refine uu_iconst C (v := 0) dX4_init_10 (by decide) ?_
  refine uu_put C fiX4 (ci := 4) rfl 0 rfl 1 (by decide) q1_203 rfl (ty := .int) rfl rfl rfl (Nat.le_of_ble_eq_true rfl) dX4_init_11 (ws' := [(h0, .inr (4, [.int (-1), .int 0, .null, .null]))]) rfl ?_
  refine uu_aload_n C dX4_init_14 rfl (k := 0) rfl ?_
  refine uu_bipush C (v := 20) dX4_init_15 (by decide) ?_
  refine uu_newa C .long (ty := .long) rfl q1_218 1 rfl 20 (a0 := (20, .inr (.inl (fun _ => 0)))) (fun _ => rfl) (by decide) (by decide) (Nat.le_of_ble_eq_true rfl) (Nat.le_of_ble_eq_true rfl) (Nat.le_of_ble_eq_true rfl) dX4_init_17 (fun z0 => ?_)
  refine uu_putF C fiX4 (ci := 4) rfl 0 rfl 2 (by decide) q1_205 rfl hin rfl (ty := .array .long) rfl rfl rfl (Nat.le_of_ble_eq_true rfl) dX4_init_19 (ws' := [(h0, .inr (4, [.int (-1), .int 0, .ref z0, .null])), (z0, .inl (cy 1, 20, .inr (.inl (fun _ => 0))))]) rfl ?_
  refine uu_aload_n C dX4_init_22 rfl (k := 0) rfl ?_
  refine uu_new C fiX5 (ci := 5) rfl q1_199 q1_56 q1_4 (fs := [.int 0, .int 0, .int 0, .int 0]) (by decide) (Nat.le_of_ble_eq_true rfl) (Nat.le_of_ble_eq_true rfl) dX4_init_23 (fun z1 => ?_)
  refine uu_dup C dX4_init_26 rfl ?_
  refine uu_initN (host := "SignalsSighted") C hN (kn_X5 (xa := xa)) rfl q1_59 q1_4 q1_58 hN.2.2.2.2.2.2.2.2 ⟨by decide +kernel, by decide +kernel, by decide +kernel⟩ (pre := [(h0, .inr (4, [.int (-1), .int 0, .ref z0, .null])), (z0, .inl (cy 1, 20, .inr (.inl (fun _ => 0))))]) rfl rfl (Nat.le_of_ble_eq_true rfl) ⟨Nat.le_of_ble_eq_true rfl, Nat.le_of_ble_eq_true rfl⟩ ⟨Nat.le_of_ble_eq_true rfl, Nat.le_of_ble_eq_true rfl⟩ dX4_init_27 (fun d2 hd2 => ?_)
  subst hd2
  refine uu_putF C fiX4 (ci := 4) rfl 0 rfl 3 (by decide) q1_207 rfl hin rfl (ty := .object "SignalsSighted$Train") rfl rfl rfl (Nat.le_of_ble_eq_true rfl) dX4_init_30 (ws' := [(h0, .inr (4, [.int (-1), .int 0, .ref z0, .ref (d2 0)])), (z0, .inl (cy 1, 20, .inr (.inl (fun _ => 0)))), (d2 0, tE trI)]) rfl ?_
  exact uu_vreturn C (fun i => if i = 2 then z0 else if i = 3 then d2 0 else h0) rfl rfl (Nat.le_of_ble_eq_true rfl) (Nat.le_of_ble_eq_true rfl) dX4_init_33
def lnI : S1 := fun i => if i = 0 then 16 else if i = 11 then 10 else 0
def lnR : S2 := fun k => if k = 1 then gF 24 else fun _ => 0
theorem dX1_init_0 : decode cX1_init 0 = .ok (.aload_n 0, 1) := by decide +kernel
theorem dX1_init_1 : decode cX1_init 1 = .ok (.invokespecial 3, 3) := by decide +kernel
theorem dX1_init_4 : decode cX1_init 4 = .ok (.aload_n 0, 1) := by decide +kernel
theorem dX1_init_5 : decode cX1_init 5 = .ok (.bipush 16, 2) := by decide +kernel
theorem dX1_init_7 : decode cX1_init 7 = .ok (.putfield 9, 3) := by decide +kernel
theorem dX1_init_10 : decode cX1_init 10 = .ok (.aload_n 0, 1) := by decide +kernel
theorem dX1_init_11 : decode cX1_init 11 = .ok (.bipush 24, 2) := by decide +kernel
theorem dX1_init_13 : decode cX1_init 13 = .ok (.newarray .int, 2) := by decide +kernel
theorem dX1_init_15 : decode cX1_init 15 = .ok (.putfield 15, 3) := by decide +kernel
theorem dX1_init_18 : decode cX1_init 18 = .ok (.aload_n 0, 1) := by decide +kernel
theorem dX1_init_19 : decode cX1_init 19 = .ok (.iconst 0, 1) := by decide +kernel
theorem dX1_init_20 : decode cX1_init 20 = .ok (.putfield 19, 3) := by decide +kernel
theorem dX1_init_23 : decode cX1_init 23 = .ok (.aload_n 0, 1) := by decide +kernel
theorem dX1_init_24 : decode cX1_init 24 = .ok (.iconst 4, 1) := by decide +kernel
theorem dX1_init_25 : decode cX1_init 25 = .ok (.newarray .int, 2) := by decide +kernel
theorem dX1_init_27 : decode cX1_init 27 = .ok (.putfield 22, 3) := by decide +kernel
theorem dX1_init_30 : decode cX1_init 30 = .ok (.aload_n 0, 1) := by decide +kernel
theorem dX1_init_31 : decode cX1_init 31 = .ok (.iconst 4, 1) := by decide +kernel
theorem dX1_init_32 : decode cX1_init 32 = .ok (.newarray .int, 2) := by decide +kernel
theorem dX1_init_34 : decode cX1_init 34 = .ok (.putfield 25, 3) := by decide +kernel
theorem dX1_init_37 : decode cX1_init 37 = .ok (.aload_n 0, 1) := by decide +kernel
theorem dX1_init_38 : decode cX1_init 38 = .ok (.iconst 4, 1) := by decide +kernel
theorem dX1_init_39 : decode cX1_init 39 = .ok (.newarray .int, 2) := by decide +kernel
theorem dX1_init_41 : decode cX1_init 41 = .ok (.putfield 28, 3) := by decide +kernel
theorem dX1_init_44 : decode cX1_init 44 = .ok (.aload_n 0, 1) := by decide +kernel
theorem dX1_init_45 : decode cX1_init 45 = .ok (.iconst 0, 1) := by decide +kernel
theorem dX1_init_46 : decode cX1_init 46 = .ok (.putfield 31, 3) := by decide +kernel
theorem dX1_init_49 : decode cX1_init 49 = .ok (.aload_n 0, 1) := by decide +kernel
theorem dX1_init_50 : decode cX1_init 50 = .ok (.iconst 5, 1) := by decide +kernel
theorem dX1_init_51 : decode cX1_init 51 = .ok (.newarray .int, 2) := by decide +kernel
theorem dX1_init_53 : decode cX1_init 53 = .ok (.putfield 34, 3) := by decide +kernel
theorem dX1_init_56 : decode cX1_init 56 = .ok (.aload_n 0, 1) := by decide +kernel
theorem dX1_init_57 : decode cX1_init 57 = .ok (.iconst 5, 1) := by decide +kernel
theorem dX1_init_58 : decode cX1_init 58 = .ok (.newarray .int, 2) := by decide +kernel
theorem dX1_init_60 : decode cX1_init 60 = .ok (.putfield 37, 3) := by decide +kernel
theorem dX1_init_63 : decode cX1_init 63 = .ok (.aload_n 0, 1) := by decide +kernel
theorem dX1_init_64 : decode cX1_init 64 = .ok (.iconst 0, 1) := by decide +kernel
theorem dX1_init_65 : decode cX1_init 65 = .ok (.putfield 40, 3) := by decide +kernel
theorem dX1_init_68 : decode cX1_init 68 = .ok (.aload_n 0, 1) := by decide +kernel
theorem dX1_init_69 : decode cX1_init 69 = .ok (.iconst 4, 1) := by decide +kernel
theorem dX1_init_70 : decode cX1_init 70 = .ok (.anewarray 43, 3) := by decide +kernel
theorem dX1_init_73 : decode cX1_init 73 = .ok (.putfield 45, 3) := by decide +kernel
theorem dX1_init_76 : decode cX1_init 76 = .ok (.aload_n 0, 1) := by decide +kernel
theorem dX1_init_77 : decode cX1_init 77 = .ok (.bipush 10, 2) := by decide +kernel
theorem dX1_init_79 : decode cX1_init 79 = .ok (.putfield 49, 3) := by decide +kernel
theorem dX1_init_82 : decode cX1_init 82 = .ok (.aload_n 0, 1) := by decide +kernel
theorem dX1_init_83 : decode cX1_init 83 = .ok (.new 52, 3) := by decide +kernel
theorem dX1_init_86 : decode cX1_init 86 = .ok (.dup, 1) := by decide +kernel
theorem dX1_init_87 : decode cX1_init 87 = .ok (.invokespecial 54, 3) := by decide +kernel
theorem dX1_init_90 : decode cX1_init 90 = .ok (.putfield 55, 3) := by decide +kernel
theorem dX1_init_93 : decode cX1_init 93 = .ok (.iconst 0, 1) := by decide +kernel
theorem dX1_init_94 : decode cX1_init 94 = .ok (.istore_n 1, 1) := by decide +kernel
theorem dX1_init_115 : decode cX1_init 115 = .ok (.iconst 0, 1) := by decide +kernel
theorem dX1_init_116 : decode cX1_init 116 = .ok (.istore_n 1, 1) := by decide +kernel
theorem dX1_init_117 : decode cX1_init 117 = .ok (.iload_n 1, 1) := by decide +kernel
theorem dX1_init_118 : decode cX1_init 118 = .ok (.iconst 4, 1) := by decide +kernel
theorem dX1_init_119 : decode cX1_init 119 = .ok (.if_icmp .ge 22, 3) := by decide +kernel
theorem dX1_init_122 : decode cX1_init 122 = .ok (.aload_n 0, 1) := by decide +kernel
theorem dX1_init_123 : decode cX1_init 123 = .ok (.getfield 45, 3) := by decide +kernel
theorem dX1_init_126 : decode cX1_init 126 = .ok (.iload_n 1, 1) := by decide +kernel
theorem dX1_init_127 : decode cX1_init 127 = .ok (.new 43, 3) := by decide +kernel
theorem dX1_init_130 : decode cX1_init 130 = .ok (.dup, 1) := by decide +kernel
theorem dX1_init_131 : decode cX1_init 131 = .ok (.invokespecial 59, 3) := by decide +kernel
theorem dX1_init_134 : decode cX1_init 134 = .ok (.aastore, 1) := by decide +kernel
theorem dX1_init_135 : decode cX1_init 135 = .ok (.iinc 1 1, 3) := by decide +kernel
theorem dX1_init_138 : decode cX1_init 138 = .ok (.goto (-21), 3) := by decide +kernel
theorem dX1_init_141 : decode cX1_init 141 = .ok (.return_, 1) := by decide +kernel
theorem dX1_init_95 : decode cX1_init 95 = .ok (.iload_n 1, 1) := by decide +kernel
theorem dX1_init_96 : decode cX1_init 96 = .ok (.bipush 24, 2) := by decide +kernel
theorem dX1_init_98 : decode cX1_init 98 = .ok (.if_icmp .ge 17, 3) := by decide +kernel
theorem dX1_init_101 : decode cX1_init 101 = .ok (.aload_n 0, 1) := by decide +kernel
theorem dX1_init_102 : decode cX1_init 102 = .ok (.getfield 15, 3) := by decide +kernel
theorem dX1_init_105 : decode cX1_init 105 = .ok (.iload_n 1, 1) := by decide +kernel
theorem dX1_init_106 : decode cX1_init 106 = .ok (.bipush 10, 2) := by decide +kernel
theorem dX1_init_108 : decode cX1_init 108 = .ok (.iastore, 1) := by decide +kernel
theorem dX1_init_109 : decode cX1_init 109 = .ok (.iinc 1 1, 3) := by decide +kernel
theorem dX1_init_112 : decode cX1_init 112 = .ok (.goto (-17), 3) := by decide +kernel
set_option maxRecDepth 100000 in
set_option maxHeartbeats 4000000 in
theorem kn_X1 {l : Launch} {D : va_G} {cy : Nat → ClassId} {Bd : Nat} {xa : Xa} : KN l yX1_init cX1_init 2 2 32 15 142 D cy Bd xa 1 [.int 0, .null, .int 0, .null, .null, .null, .int 0, .null, .null, .int 0, .null, .int 0, .null] (fun ad : Nat → Nat => ad 0) (fun ad => lC cy ad lnI lnR (fun _ => trI) (fun _ => 0) (fun _ _ => 0)) := by
  refine kn_start (own := RX1) (by decide) rfl (by decide) rfl ?_
  intro p e s m args below meth c A h0 C hN hin
  refine uu_aload_n C dX1_init_0 rfl (k := 0) rfl ?_
  refine uu_objInit C q1_29 q1_22 q1_23 (Nat.le_of_ble_eq_true rfl) (Nat.le_of_ble_eq_true rfl) dX1_init_1 ?_
  refine uu_aload_n C dX1_init_4 rfl (k := 0) rfl ?_
  refine uu_bipush C (v := 16) dX1_init_5 (by decide) ?_
  refine uu_put C fiX1 (ci := 1) rfl 0 rfl 0 (by decide) q1_82 rfl (ty := .int) rfl rfl rfl (Nat.le_of_ble_eq_true rfl) dX1_init_7 (ws' := [(h0, .inr (1, [.int 16, .null, .int 0, .null, .null, .null, .int 0, .null, .null, .int 0, .null, .int 0, .null]))]) rfl ?_
  refine uu_aload_n C dX1_init_10 rfl (k := 0) rfl ?_
  refine uu_bipush C (v := 24) dX1_init_11 (by decide) ?_
  refine uu_newa C .int (ty := .int) rfl q1_54 0 rfl 24 (a0 := (24, .inl (fun _ => 0))) (fun _ => rfl) (by decide) (by decide) (Nat.le_of_ble_eq_true rfl) (Nat.le_of_ble_eq_true rfl) (Nat.le_of_ble_eq_true rfl) dX1_init_13 (fun z0 => ?_)
  refine uu_putF C fiX1 (ci := 1) rfl 0 rfl 1 (by decide) q1_85 rfl hin rfl (ty := .array .int) rfl rfl rfl (Nat.le_of_ble_eq_true rfl) dX1_init_15 (ws' := [(h0, .inr (1, [.int 16, .ref z0, .int 0, .null, .null, .null, .int 0, .null, .null, .int 0, .null, .int 0, .null])), (z0, .inl (cy 0, 24, .inl (fun _ => 0)))]) rfl ?_
  refine uu_aload_n C dX1_init_18 rfl (k := 0) rfl ?_
  refine uu_iconst C (v := 0) dX1_init_19 (by decide) ?_
  refine uu_put C fiX1 (ci := 1) rfl 0 rfl 2 (by decide) q1_87 rfl (ty := .int) rfl rfl rfl (Nat.le_of_ble_eq_true rfl) dX1_init_20 (ws' := [(h0, .inr (1, [.int 16, .ref z0, .int 0, .null, .null, .null, .int 0, .null, .null, .int 0, .null, .int 0, .null])), (z0, .inl (cy 0, 24, .inl (fun _ => 0)))]) rfl ?_
  refine uu_aload_n C dX1_init_23 rfl (k := 0) rfl ?_
  refine uu_iconst C (v := 4) dX1_init_24 (by decide) ?_
  refine uu_newa C .int (ty := .int) rfl q1_54 0 rfl 4 (a0 := (4, .inl (fun _ => 0))) (fun _ => rfl) (by decide) (by decide) (Nat.le_of_ble_eq_true rfl) (Nat.le_of_ble_eq_true rfl) (Nat.le_of_ble_eq_true rfl) dX1_init_25 (fun z1 => ?_)
  refine uu_putF C fiX1 (ci := 1) rfl 0 rfl 3 (by decide) q1_89 rfl hin rfl (ty := .array .int) rfl rfl rfl (Nat.le_of_ble_eq_true rfl) dX1_init_27 (ws' := [(h0, .inr (1, [.int 16, .ref z0, .int 0, .ref z1, .null, .null, .int 0, .null, .null, .int 0, .null, .int 0, .null])), (z0, .inl (cy 0, 24, .inl (fun _ => 0))), (z1, .inl (cy 0, 4, .inl (fun _ => 0)))]) rfl ?_
  refine uu_aload_n C dX1_init_30 rfl (k := 0) rfl ?_
  refine uu_iconst C (v := 4) dX1_init_31 (by decide) ?_
  refine uu_newa C .int (ty := .int) rfl q1_54 0 rfl 4 (a0 := (4, .inl (fun _ => 0))) (fun _ => rfl) (by decide) (by decide) (Nat.le_of_ble_eq_true rfl) (Nat.le_of_ble_eq_true rfl) (Nat.le_of_ble_eq_true rfl) dX1_init_32 (fun z2 => ?_)
  refine uu_putF C fiX1 (ci := 1) rfl 0 rfl 4 (by decide) q1_91 rfl hin rfl (ty := .array .int) rfl rfl rfl (Nat.le_of_ble_eq_true rfl) dX1_init_34 (ws' := [(h0, .inr (1, [.int 16, .ref z0, .int 0, .ref z1, .ref z2, .null, .int 0, .null, .null, .int 0, .null, .int 0, .null])), (z0, .inl (cy 0, 24, .inl (fun _ => 0))), (z1, .inl (cy 0, 4, .inl (fun _ => 0))), (z2, .inl (cy 0, 4, .inl (fun _ => 0)))]) rfl ?_
  refine uu_aload_n C dX1_init_37 rfl (k := 0) rfl ?_
  refine uu_iconst C (v := 4) dX1_init_38 (by decide) ?_
  refine uu_newa C .int (ty := .int) rfl q1_54 0 rfl 4 (a0 := (4, .inl (fun _ => 0))) (fun _ => rfl) (by decide) (by decide) (Nat.le_of_ble_eq_true rfl) (Nat.le_of_ble_eq_true rfl) (Nat.le_of_ble_eq_true rfl) dX1_init_39 (fun z3 => ?_)
  refine uu_putF C fiX1 (ci := 1) rfl 0 rfl 5 (by decide) q1_93 rfl hin rfl (ty := .array .int) rfl rfl rfl (Nat.le_of_ble_eq_true rfl) dX1_init_41 (ws' := [(h0, .inr (1, [.int 16, .ref z0, .int 0, .ref z1, .ref z2, .ref z3, .int 0, .null, .null, .int 0, .null, .int 0, .null])), (z0, .inl (cy 0, 24, .inl (fun _ => 0))), (z1, .inl (cy 0, 4, .inl (fun _ => 0))), (z2, .inl (cy 0, 4, .inl (fun _ => 0))), (z3, .inl (cy 0, 4, .inl (fun _ => 0)))]) rfl ?_
  refine uu_aload_n C dX1_init_44 rfl (k := 0) rfl ?_
  refine uu_iconst C (v := 0) dX1_init_45 (by decide) ?_
  refine uu_put C fiX1 (ci := 1) rfl 0 rfl 6 (by decide) q1_95 rfl (ty := .int) rfl rfl rfl (Nat.le_of_ble_eq_true rfl) dX1_init_46 (ws' := [(h0, .inr (1, [.int 16, .ref z0, .int 0, .ref z1, .ref z2, .ref z3, .int 0, .null, .null, .int 0, .null, .int 0, .null])), (z0, .inl (cy 0, 24, .inl (fun _ => 0))), (z1, .inl (cy 0, 4, .inl (fun _ => 0))), (z2, .inl (cy 0, 4, .inl (fun _ => 0))), (z3, .inl (cy 0, 4, .inl (fun _ => 0)))]) rfl ?_
  refine uu_aload_n C dX1_init_49 rfl (k := 0) rfl ?_
  refine uu_iconst C (v := 5) dX1_init_50 (by decide) ?_
  refine uu_newa C .int (ty := .int) rfl q1_54 0 rfl 5 (a0 := (5, .inl (fun _ => 0))) (fun _ => rfl) (by decide) (by decide) (Nat.le_of_ble_eq_true rfl) (Nat.le_of_ble_eq_true rfl) (Nat.le_of_ble_eq_true rfl) dX1_init_51 (fun z4 => ?_)
  refine uu_putF C fiX1 (ci := 1) rfl 0 rfl 7 (by decide) q1_98 rfl hin rfl (ty := .array .int) rfl rfl rfl (Nat.le_of_ble_eq_true rfl) dX1_init_53 (ws' := [(h0, .inr (1, [.int 16, .ref z0, .int 0, .ref z1, .ref z2, .ref z3, .int 0, .ref z4, .null, .int 0, .null, .int 0, .null])), (z0, .inl (cy 0, 24, .inl (fun _ => 0))), (z1, .inl (cy 0, 4, .inl (fun _ => 0))), (z2, .inl (cy 0, 4, .inl (fun _ => 0))), (z3, .inl (cy 0, 4, .inl (fun _ => 0))), (z4, .inl (cy 0, 5, .inl (fun _ => 0)))]) rfl ?_
  refine uu_aload_n C dX1_init_56 rfl (k := 0) rfl ?_
  refine uu_iconst C (v := 5) dX1_init_57 (by decide) ?_
  refine uu_newa C .int (ty := .int) rfl q1_54 0 rfl 5 (a0 := (5, .inl (fun _ => 0))) (fun _ => rfl) (by decide) (by decide) (Nat.le_of_ble_eq_true rfl) (Nat.le_of_ble_eq_true rfl) (Nat.le_of_ble_eq_true rfl) dX1_init_58 (fun z5 => ?_)
  refine uu_putF C fiX1 (ci := 1) rfl 0 rfl 8 (by decide) q1_101 rfl hin rfl (ty := .array .int) rfl rfl rfl (Nat.le_of_ble_eq_true rfl) dX1_init_60 (ws' := [(h0, .inr (1, [.int 16, .ref z0, .int 0, .ref z1, .ref z2, .ref z3, .int 0, .ref z4, .ref z5, .int 0, .null, .int 0, .null])), (z0, .inl (cy 0, 24, .inl (fun _ => 0))), (z1, .inl (cy 0, 4, .inl (fun _ => 0))), (z2, .inl (cy 0, 4, .inl (fun _ => 0))), (z3, .inl (cy 0, 4, .inl (fun _ => 0))), (z4, .inl (cy 0, 5, .inl (fun _ => 0))), (z5, .inl (cy 0, 5, .inl (fun _ => 0)))]) rfl ?_
  refine uu_aload_n C dX1_init_63 rfl (k := 0) rfl ?_
  refine uu_iconst C (v := 0) dX1_init_64 (by decide) ?_
  refine uu_put C fiX1 (ci := 1) rfl 0 rfl 9 (by decide) q1_104 rfl (ty := .int) rfl rfl rfl (Nat.le_of_ble_eq_true rfl) dX1_init_65 (ws' := [(h0, .inr (1, [.int 16, .ref z0, .int 0, .ref z1, .ref z2, .ref z3, .int 0, .ref z4, .ref z5, .int 0, .null, .int 0, .null])), (z0, .inl (cy 0, 24, .inl (fun _ => 0))), (z1, .inl (cy 0, 4, .inl (fun _ => 0))), (z2, .inl (cy 0, 4, .inl (fun _ => 0))), (z3, .inl (cy 0, 4, .inl (fun _ => 0))), (z4, .inl (cy 0, 5, .inl (fun _ => 0))), (z5, .inl (cy 0, 5, .inl (fun _ => 0)))]) rfl ?_
  refine uu_aload_n C dX1_init_68 rfl (k := 0) rfl ?_
  refine uu_iconst C (v := 4) dX1_init_69 (by decide) ?_
  refine uu_newq C q1_30 hN.1 4 rfl 4 (by decide) (by decide) (Nat.le_of_ble_eq_true rfl) (Nat.le_of_ble_eq_true rfl) (Nat.le_of_ble_eq_true rfl) dX1_init_70 (fun z6 => ?_)
  refine uu_putF C fiX1 (ci := 1) rfl 0 rfl 10 (by decide) q1_106 rfl hin rfl (ty := .array (.object "SignalsSighted$Train")) rfl rfl rfl (Nat.le_of_ble_eq_true rfl) dX1_init_73 (ws' := [(h0, .inr (1, [.int 16, .ref z0, .int 0, .ref z1, .ref z2, .ref z3, .int 0, .ref z4, .ref z5, .int 0, .ref z6, .int 0, .null])), (z0, .inl (cy 0, 24, .inl (fun _ => 0))), (z1, .inl (cy 0, 4, .inl (fun _ => 0))), (z2, .inl (cy 0, 4, .inl (fun _ => 0))), (z3, .inl (cy 0, 4, .inl (fun _ => 0))), (z4, .inl (cy 0, 5, .inl (fun _ => 0))), (z5, .inl (cy 0, 5, .inl (fun _ => 0))), (z6, .inl (cy 4, 4, .inr (.inr (.inr (.inr (fun _ => none))))))]) rfl ?_
  refine uu_aload_n C dX1_init_76 rfl (k := 0) rfl ?_
  refine uu_bipush C (v := 10) dX1_init_77 (by decide) ?_
  refine uu_put C fiX1 (ci := 1) rfl 0 rfl 11 (by decide) q1_108 rfl (ty := .int) rfl rfl rfl (Nat.le_of_ble_eq_true rfl) dX1_init_79 (ws' := [(h0, .inr (1, [.int 16, .ref z0, .int 0, .ref z1, .ref z2, .ref z3, .int 0, .ref z4, .ref z5, .int 0, .ref z6, .int 10, .null])), (z0, .inl (cy 0, 24, .inl (fun _ => 0))), (z1, .inl (cy 0, 4, .inl (fun _ => 0))), (z2, .inl (cy 0, 4, .inl (fun _ => 0))), (z3, .inl (cy 0, 4, .inl (fun _ => 0))), (z4, .inl (cy 0, 5, .inl (fun _ => 0))), (z5, .inl (cy 0, 5, .inl (fun _ => 0))), (z6, .inl (cy 4, 4, .inr (.inr (.inr (.inr (fun _ => none))))))]) rfl ?_
  refine uu_aload_n C dX1_init_82 rfl (k := 0) rfl ?_
  refine uu_new C fiX3 (ci := 3) rfl q1_32 q1_33 q1_3 (fs := [.int 0, .null, .null, .null]) (by decide) (Nat.le_of_ble_eq_true rfl) (Nat.le_of_ble_eq_true rfl) dX1_init_83 (fun z7 => ?_)
  refine uu_dup C dX1_init_86 rfl ?_
  refine uu_initN (host := "SignalsSighted") C hN (kn_X3 (xa := xa)) rfl q1_36 q1_3 q1_35 hN.2.2.1 ⟨by decide +kernel, by decide +kernel, by decide +kernel⟩ (pre := [(h0, .inr (1, [.int 16, .ref z0, .int 0, .ref z1, .ref z2, .ref z3, .int 0, .ref z4, .ref z5, .int 0, .ref z6, .int 10, .null])), (z0, .inl (cy 0, 24, .inl (fun _ => 0))), (z1, .inl (cy 0, 4, .inl (fun _ => 0))), (z2, .inl (cy 0, 4, .inl (fun _ => 0))), (z3, .inl (cy 0, 4, .inl (fun _ => 0))), (z4, .inl (cy 0, 5, .inl (fun _ => 0))), (z5, .inl (cy 0, 5, .inl (fun _ => 0))), (z6, .inl (cy 4, 4, .inr (.inr (.inr (.inr (fun _ => none))))))]) rfl rfl (Nat.le_of_ble_eq_true rfl) ⟨Nat.le_of_ble_eq_true rfl, Nat.le_of_ble_eq_true rfl⟩ ⟨Nat.le_of_ble_eq_true rfl, Nat.le_of_ble_eq_true rfl⟩ dX1_init_87 (fun d8 hd8 => ?_)
  subst hd8
  refine uu_putF C fiX1 (ci := 1) rfl 0 rfl 12 (by decide) q1_110 rfl hin rfl (ty := .object "SignalsSighted$Places") rfl rfl rfl (Nat.le_of_ble_eq_true rfl) dX1_init_90 (ws' := [(h0, .inr (1, [.int 16, .ref z0, .int 0, .ref z1, .ref z2, .ref z3, .int 0, .ref z4, .ref z5, .int 0, .ref z6, .int 10, .ref (d8 0)])), (z0, .inl (cy 0, 24, .inl (fun _ => 0))), (z1, .inl (cy 0, 4, .inl (fun _ => 0))), (z2, .inl (cy 0, 4, .inl (fun _ => 0))), (z3, .inl (cy 0, 4, .inl (fun _ => 0))), (z4, .inl (cy 0, 5, .inl (fun _ => 0))), (z5, .inl (cy 0, 5, .inl (fun _ => 0))), (z6, .inl (cy 4, 4, .inr (.inr (.inr (.inr (fun _ => none)))))), (d8 0, .inr (3, [.int 0, .ref (d8 1), .ref (d8 2), .ref (d8 3)])), (d8 1, .inl (cy 0, 8, .inl (fun _ => 0))), (d8 2, .inl (cy 0, 8, .inl (fun _ => 0))), (d8 3, .inl (cy 2, 56, .inl (fun _ => 0)))]) rfl ?_
  refine uu_iconst C (v := 0) dX1_init_93 (by decide) ?_
  refine uu_istore_n C dX1_init_94 rfl (by decide) (L' := [(1, .int 0), (0, .ref h0)]) rfl ?_
  refine uu_wid (k := 11) (n := 126) (Nat.le_of_ble_eq_true rfl) (Nat.le_of_ble_eq_true rfl) ?_
  have aft : UU p l e { frames := 2, cells := 15, slots := 142, locals := 32 } s m args below meth c 2 D A (MQ below (Qn D A h0 (fun ad : Nat → Nat => ad 0) (fun ad => lC cy ad lnI lnR (fun _ => trI) (fun _ => 0) (fun _ _ => 0))) args s 15 142 A) 11 126 115 [(1, .int (iI ((24 : Nat) : Int))), (0, .ref h0)] [] [(h0, .inr (1, [.int 16, .ref z0, .int 0, .ref z1, .ref z2, .ref z3, .int 0, .ref z4, .ref z5, .int 0, .ref z6, .int 10, .ref (d8 0)])), (z0, .inl (cy 0, 24, .inl (gF 24))), (z1, .inl (cy 0, 4, .inl (fun _ => 0))), (z2, .inl (cy 0, 4, .inl (fun _ => 0))), (z3, .inl (cy 0, 4, .inl (fun _ => 0))), (z4, .inl (cy 0, 5, .inl (fun _ => 0))), (z5, .inl (cy 0, 5, .inl (fun _ => 0))), (z6, .inl (cy 4, 4, .inr (.inr (.inr (.inr (fun _ => none)))))), (d8 0, .inr (3, [.int 0, .ref (d8 1), .ref (d8 2), .ref (d8 3)])), (d8 1, .inl (cy 0, 8, .inl (fun _ => 0))), (d8 2, .inl (cy 0, 8, .inl (fun _ => 0))), (d8 3, .inl (cy 2, 56, .inl (fun _ => 0)))] := by
    refine uu_iconst C (v := 0) dX1_init_115 (by decide) ?_
    refine uu_istore_n C dX1_init_116 rfl (by decide) (L' := [(1, .int 0), (0, .ref h0)]) rfl ?_
    refine uu_iload_n C dX1_init_117 rfl (k := 0) rfl ?_
    refine uu_iconst C (v := 4) dX1_init_118 (by decide) ?_
    refine ur_icmp_ge C dX1_init_119 rfl (fun h => absurd h (by decide)) (fun _ => ?_)
    refine uu_aload_n C dX1_init_122 rfl (k := 1) rfl ?_
    refine uu_get C fiX1 (ci := 1) rfl 0 rfl 10 (by decide) q1_106 rfl dX1_init_123 ?_
    refine uu_iload_n C dX1_init_126 rfl (k := 0) rfl ?_
    refine uu_new C fiX5 (ci := 5) rfl q1_30 q1_56 q1_4 (fs := [.int 0, .int 0, .int 0, .int 0]) (by decide) (Nat.le_of_ble_eq_true rfl) (Nat.le_of_ble_eq_true rfl) dX1_init_127 (fun z9 => ?_)
    refine uu_dup C dX1_init_130 rfl ?_
    refine uu_initN (host := "SignalsSighted") C hN (kn_X5 (xa := xa)) rfl q1_59 q1_4 q1_58 hN.2.2.2.1 ⟨by decide +kernel, by decide +kernel, by decide +kernel⟩ (pre := [(h0, .inr (1, [.int 16, .ref z0, .int 0, .ref z1, .ref z2, .ref z3, .int 0, .ref z4, .ref z5, .int 0, .ref z6, .int 10, .ref (d8 0)])), (z0, .inl (cy 0, 24, .inl (gF 24))), (z1, .inl (cy 0, 4, .inl (fun _ => 0))), (z2, .inl (cy 0, 4, .inl (fun _ => 0))), (z3, .inl (cy 0, 4, .inl (fun _ => 0))), (z4, .inl (cy 0, 5, .inl (fun _ => 0))), (z5, .inl (cy 0, 5, .inl (fun _ => 0))), (z6, .inl (cy 4, 4, .inr (.inr (.inr (.inr (fun _ => none)))))), (d8 0, .inr (3, [.int 0, .ref (d8 1), .ref (d8 2), .ref (d8 3)])), (d8 1, .inl (cy 0, 8, .inl (fun _ => 0))), (d8 2, .inl (cy 0, 8, .inl (fun _ => 0))), (d8 3, .inl (cy 2, 56, .inl (fun _ => 0)))]) rfl rfl (Nat.le_of_ble_eq_true rfl) ⟨Nat.le_of_ble_eq_true rfl, Nat.le_of_ble_eq_true rfl⟩ ⟨Nat.le_of_ble_eq_true rfl, Nat.le_of_ble_eq_true rfl⟩ dX1_init_131 (fun d10 hd10 => ?_)
    subst hd10
    refine uu_astq C 7 4 12 5 (r := (RX5, TX5, 4)) rfl rfl rfl rfl (by decide) dX1_init_134 (ws' := [(h0, .inr (1, [.int 16, .ref z0, .int 0, .ref z1, .ref z2, .ref z3, .int 0, .ref z4, .ref z5, .int 0, .ref z6, .int 10, .ref (d8 0)])), (z0, .inl (cy 0, 24, .inl (gF 24))), (z1, .inl (cy 0, 4, .inl (fun _ => 0))), (z2, .inl (cy 0, 4, .inl (fun _ => 0))), (z3, .inl (cy 0, 4, .inl (fun _ => 0))), (z4, .inl (cy 0, 5, .inl (fun _ => 0))), (z5, .inl (cy 0, 5, .inl (fun _ => 0))), (z6, .inl (cy 4, 4, .inr (.inr (.inr (.inr (va_up (fun _ => none) (ix (0 : Int32)) (some (d10 0)))))))), (d8 0, .inr (3, [.int 0, .ref (d8 1), .ref (d8 2), .ref (d8 3)])), (d8 1, .inl (cy 0, 8, .inl (fun _ => 0))), (d8 2, .inl (cy 0, 8, .inl (fun _ => 0))), (d8 3, .inl (cy 2, 56, .inl (fun _ => 0))), (d10 0, tE trI)]) rfl ?_
    refine uu_iinc C dX1_init_135 (k := 0) (x := 0) (v := 1) rfl (by decide) (by decide) (L' := [(1, .int 1), (0, .ref h0)]) rfl ?_
    refine uu_goto C dX1_init_138 (tgt := 117) rfl ?_
    refine uu_iload_n C dX1_init_117 rfl (k := 0) rfl ?_
    refine uu_iconst C (v := 4) dX1_init_118 (by decide) ?_
    refine ur_icmp_ge C dX1_init_119 rfl (fun h => absurd h (by decide)) (fun _ => ?_)
    refine uu_aload_n C dX1_init_122 rfl (k := 1) rfl ?_
    refine uu_get C fiX1 (ci := 1) rfl 0 rfl 10 (by decide) q1_106 rfl dX1_init_123 ?_
    refine uu_iload_n C dX1_init_126 rfl (k := 0) rfl ?_
    refine uu_new C fiX5 (ci := 5) rfl q1_30 q1_56 q1_4 (fs := [.int 0, .int 0, .int 0, .int 0]) (by decide) (Nat.le_of_ble_eq_true rfl) (Nat.le_of_ble_eq_true rfl) dX1_init_127 (fun z11 => ?_)
    refine uu_dup C dX1_init_130 rfl ?_
    refine uu_initN (host := "SignalsSighted") C hN (kn_X5 (xa := xa)) rfl q1_59 q1_4 q1_58 hN.2.2.2.1 ⟨by decide +kernel, by decide +kernel, by decide +kernel⟩ (pre := [(h0, .inr (1, [.int 16, .ref z0, .int 0, .ref z1, .ref z2, .ref z3, .int 0, .ref z4, .ref z5, .int 0, .ref z6, .int 10, .ref (d8 0)])), (z0, .inl (cy 0, 24, .inl (gF 24))), (z1, .inl (cy 0, 4, .inl (fun _ => 0))), (z2, .inl (cy 0, 4, .inl (fun _ => 0))), (z3, .inl (cy 0, 4, .inl (fun _ => 0))), (z4, .inl (cy 0, 5, .inl (fun _ => 0))), (z5, .inl (cy 0, 5, .inl (fun _ => 0))), (z6, .inl (cy 4, 4, .inr (.inr (.inr (.inr (va_up (fun _ => none) (ix (0 : Int32)) (some (d10 0)))))))), (d8 0, .inr (3, [.int 0, .ref (d8 1), .ref (d8 2), .ref (d8 3)])), (d8 1, .inl (cy 0, 8, .inl (fun _ => 0))), (d8 2, .inl (cy 0, 8, .inl (fun _ => 0))), (d8 3, .inl (cy 2, 56, .inl (fun _ => 0))), (d10 0, tE trI)]) rfl rfl (Nat.le_of_ble_eq_true rfl) ⟨Nat.le_of_ble_eq_true rfl, Nat.le_of_ble_eq_true rfl⟩ ⟨Nat.le_of_ble_eq_true rfl, Nat.le_of_ble_eq_true rfl⟩ dX1_init_131 (fun d12 hd12 => ?_)
    subst hd12
    refine uu_astq C 7 4 13 5 (r := (RX5, TX5, 4)) rfl rfl rfl rfl (by decide) dX1_init_134 (ws' := [(h0, .inr (1, [.int 16, .ref z0, .int 0, .ref z1, .ref z2, .ref z3, .int 0, .ref z4, .ref z5, .int 0, .ref z6, .int 10, .ref (d8 0)])), (z0, .inl (cy 0, 24, .inl (gF 24))), (z1, .inl (cy 0, 4, .inl (fun _ => 0))), (z2, .inl (cy 0, 4, .inl (fun _ => 0))), (z3, .inl (cy 0, 4, .inl (fun _ => 0))), (z4, .inl (cy 0, 5, .inl (fun _ => 0))), (z5, .inl (cy 0, 5, .inl (fun _ => 0))), (z6, .inl (cy 4, 4, .inr (.inr (.inr (.inr (va_up (va_up (fun _ => none) (ix (0 : Int32)) (some (d10 0))) (ix (1 : Int32)) (some (d12 0)))))))), (d8 0, .inr (3, [.int 0, .ref (d8 1), .ref (d8 2), .ref (d8 3)])), (d8 1, .inl (cy 0, 8, .inl (fun _ => 0))), (d8 2, .inl (cy 0, 8, .inl (fun _ => 0))), (d8 3, .inl (cy 2, 56, .inl (fun _ => 0))), (d10 0, tE trI), (d12 0, tE trI)]) rfl ?_
    refine uu_iinc C dX1_init_135 (k := 0) (x := 1) (v := 2) rfl (by decide) (by decide) (L' := [(1, .int 2), (0, .ref h0)]) rfl ?_
    refine uu_goto C dX1_init_138 (tgt := 117) rfl ?_
    refine uu_iload_n C dX1_init_117 rfl (k := 0) rfl ?_
    refine uu_iconst C (v := 4) dX1_init_118 (by decide) ?_
    refine ur_icmp_ge C dX1_init_119 rfl (fun h => absurd h (by decide)) (fun _ => ?_)
    refine uu_aload_n C dX1_init_122 rfl (k := 1) rfl ?_
    refine uu_get C fiX1 (ci := 1) rfl 0 rfl 10 (by decide) q1_106 rfl dX1_init_123 ?_
    refine uu_iload_n C dX1_init_126 rfl (k := 0) rfl ?_
    refine uu_new C fiX5 (ci := 5) rfl q1_30 q1_56 q1_4 (fs := [.int 0, .int 0, .int 0, .int 0]) (by decide) (Nat.le_of_ble_eq_true rfl) (Nat.le_of_ble_eq_true rfl) dX1_init_127 (fun z13 => ?_)
    refine uu_dup C dX1_init_130 rfl ?_
    refine uu_initN (host := "SignalsSighted") C hN (kn_X5 (xa := xa)) rfl q1_59 q1_4 q1_58 hN.2.2.2.1 ⟨by decide +kernel, by decide +kernel, by decide +kernel⟩ (pre := [(h0, .inr (1, [.int 16, .ref z0, .int 0, .ref z1, .ref z2, .ref z3, .int 0, .ref z4, .ref z5, .int 0, .ref z6, .int 10, .ref (d8 0)])), (z0, .inl (cy 0, 24, .inl (gF 24))), (z1, .inl (cy 0, 4, .inl (fun _ => 0))), (z2, .inl (cy 0, 4, .inl (fun _ => 0))), (z3, .inl (cy 0, 4, .inl (fun _ => 0))), (z4, .inl (cy 0, 5, .inl (fun _ => 0))), (z5, .inl (cy 0, 5, .inl (fun _ => 0))), (z6, .inl (cy 4, 4, .inr (.inr (.inr (.inr (va_up (va_up (fun _ => none) (ix (0 : Int32)) (some (d10 0))) (ix (1 : Int32)) (some (d12 0)))))))), (d8 0, .inr (3, [.int 0, .ref (d8 1), .ref (d8 2), .ref (d8 3)])), (d8 1, .inl (cy 0, 8, .inl (fun _ => 0))), (d8 2, .inl (cy 0, 8, .inl (fun _ => 0))), (d8 3, .inl (cy 2, 56, .inl (fun _ => 0))), (d10 0, tE trI), (d12 0, tE trI)]) rfl rfl (Nat.le_of_ble_eq_true rfl) ⟨Nat.le_of_ble_eq_true rfl, Nat.le_of_ble_eq_true rfl⟩ ⟨Nat.le_of_ble_eq_true rfl, Nat.le_of_ble_eq_true rfl⟩ dX1_init_131 (fun d14 hd14 => ?_)
    subst hd14
    refine uu_astq C 7 4 14 5 (r := (RX5, TX5, 4)) rfl rfl rfl rfl (by decide) dX1_init_134 (ws' := [(h0, .inr (1, [.int 16, .ref z0, .int 0, .ref z1, .ref z2, .ref z3, .int 0, .ref z4, .ref z5, .int 0, .ref z6, .int 10, .ref (d8 0)])), (z0, .inl (cy 0, 24, .inl (gF 24))), (z1, .inl (cy 0, 4, .inl (fun _ => 0))), (z2, .inl (cy 0, 4, .inl (fun _ => 0))), (z3, .inl (cy 0, 4, .inl (fun _ => 0))), (z4, .inl (cy 0, 5, .inl (fun _ => 0))), (z5, .inl (cy 0, 5, .inl (fun _ => 0))), (z6, .inl (cy 4, 4, .inr (.inr (.inr (.inr (va_up (va_up (va_up (fun _ => none) (ix (0 : Int32)) (some (d10 0))) (ix (1 : Int32)) (some (d12 0))) (ix (2 : Int32)) (some (d14 0)))))))), (d8 0, .inr (3, [.int 0, .ref (d8 1), .ref (d8 2), .ref (d8 3)])), (d8 1, .inl (cy 0, 8, .inl (fun _ => 0))), (d8 2, .inl (cy 0, 8, .inl (fun _ => 0))), (d8 3, .inl (cy 2, 56, .inl (fun _ => 0))), (d10 0, tE trI), (d12 0, tE trI), (d14 0, tE trI)]) rfl ?_
    refine uu_iinc C dX1_init_135 (k := 0) (x := 2) (v := 3) rfl (by decide) (by decide) (L' := [(1, .int 3), (0, .ref h0)]) rfl ?_
    refine uu_goto C dX1_init_138 (tgt := 117) rfl ?_
    refine uu_iload_n C dX1_init_117 rfl (k := 0) rfl ?_
    refine uu_iconst C (v := 4) dX1_init_118 (by decide) ?_
    refine ur_icmp_ge C dX1_init_119 rfl (fun h => absurd h (by decide)) (fun _ => ?_)
    refine uu_aload_n C dX1_init_122 rfl (k := 1) rfl ?_
    refine uu_get C fiX1 (ci := 1) rfl 0 rfl 10 (by decide) q1_106 rfl dX1_init_123 ?_
    refine uu_iload_n C dX1_init_126 rfl (k := 0) rfl ?_
    refine uu_new C fiX5 (ci := 5) rfl q1_30 q1_56 q1_4 (fs := [.int 0, .int 0, .int 0, .int 0]) (by decide) (Nat.le_of_ble_eq_true rfl) (Nat.le_of_ble_eq_true rfl) dX1_init_127 (fun z15 => ?_)
    refine uu_dup C dX1_init_130 rfl ?_
    refine uu_initN (host := "SignalsSighted") C hN (kn_X5 (xa := xa)) rfl q1_59 q1_4 q1_58 hN.2.2.2.1 ⟨by decide +kernel, by decide +kernel, by decide +kernel⟩ (pre := [(h0, .inr (1, [.int 16, .ref z0, .int 0, .ref z1, .ref z2, .ref z3, .int 0, .ref z4, .ref z5, .int 0, .ref z6, .int 10, .ref (d8 0)])), (z0, .inl (cy 0, 24, .inl (gF 24))), (z1, .inl (cy 0, 4, .inl (fun _ => 0))), (z2, .inl (cy 0, 4, .inl (fun _ => 0))), (z3, .inl (cy 0, 4, .inl (fun _ => 0))), (z4, .inl (cy 0, 5, .inl (fun _ => 0))), (z5, .inl (cy 0, 5, .inl (fun _ => 0))), (z6, .inl (cy 4, 4, .inr (.inr (.inr (.inr (va_up (va_up (va_up (fun _ => none) (ix (0 : Int32)) (some (d10 0))) (ix (1 : Int32)) (some (d12 0))) (ix (2 : Int32)) (some (d14 0)))))))), (d8 0, .inr (3, [.int 0, .ref (d8 1), .ref (d8 2), .ref (d8 3)])), (d8 1, .inl (cy 0, 8, .inl (fun _ => 0))), (d8 2, .inl (cy 0, 8, .inl (fun _ => 0))), (d8 3, .inl (cy 2, 56, .inl (fun _ => 0))), (d10 0, tE trI), (d12 0, tE trI), (d14 0, tE trI)]) rfl rfl (Nat.le_of_ble_eq_true rfl) ⟨Nat.le_of_ble_eq_true rfl, Nat.le_of_ble_eq_true rfl⟩ ⟨Nat.le_of_ble_eq_true rfl, Nat.le_of_ble_eq_true rfl⟩ dX1_init_131 (fun d16 hd16 => ?_)
    subst hd16
    refine uu_astq C 7 4 15 5 (r := (RX5, TX5, 4)) rfl rfl rfl rfl (by decide) dX1_init_134 (ws' := [(h0, .inr (1, [.int 16, .ref z0, .int 0, .ref z1, .ref z2, .ref z3, .int 0, .ref z4, .ref z5, .int 0, .ref z6, .int 10, .ref (d8 0)])), (z0, .inl (cy 0, 24, .inl (gF 24))), (z1, .inl (cy 0, 4, .inl (fun _ => 0))), (z2, .inl (cy 0, 4, .inl (fun _ => 0))), (z3, .inl (cy 0, 4, .inl (fun _ => 0))), (z4, .inl (cy 0, 5, .inl (fun _ => 0))), (z5, .inl (cy 0, 5, .inl (fun _ => 0))), (z6, .inl (cy 4, 4, .inr (.inr (.inr (.inr (va_up (va_up (va_up (va_up (fun _ => none) (ix (0 : Int32)) (some (d10 0))) (ix (1 : Int32)) (some (d12 0))) (ix (2 : Int32)) (some (d14 0))) (ix (3 : Int32)) (some (d16 0)))))))), (d8 0, .inr (3, [.int 0, .ref (d8 1), .ref (d8 2), .ref (d8 3)])), (d8 1, .inl (cy 0, 8, .inl (fun _ => 0))), (d8 2, .inl (cy 0, 8, .inl (fun _ => 0))), (d8 3, .inl (cy 2, 56, .inl (fun _ => 0))), (d10 0, tE trI), (d12 0, tE trI), (d14 0, tE trI), (d16 0, tE trI)]) rfl ?_
    refine uu_iinc C dX1_init_135 (k := 0) (x := 3) (v := 4) rfl (by decide) (by decide) (L' := [(1, .int 4), (0, .ref h0)]) rfl ?_
    refine uu_goto C dX1_init_138 (tgt := 117) rfl ?_
    refine uu_iload_n C dX1_init_117 rfl (k := 0) rfl ?_
    refine uu_iconst C (v := 4) dX1_init_118 (by decide) ?_
    refine ur_icmp_ge C dX1_init_119 rfl (fun _ => ?_) (fun h => absurd (by decide) h)
    refine uu_cell 7 (f' := fun j => some ((fun i => if i = 1 then z0 else if i = 3 then z1 else if i = 4 then z2 else if i = 5 then z3 else if i = 7 then z4 else if i = 8 then z5 else if i = 10 then z6 else if i = 12 then d8 0 else if i = 21 then d8 1 else if i = 22 then d8 2 else if i = 23 then d8 3 else if i = 40 then (d10 0) else if i = 41 then (d12 0) else if i = 42 then (d14 0) else if i = 43 then (d16 0) else h0) (40 + j))) rfl (fun j hj => by rcases (show j = 0 ∨ j = 1 ∨ j = 2 ∨ j = 3 by omega) with rfl | rfl | rfl | rfl <;> rfl) (ws' := [(h0, .inr (1, [.int 16, .ref z0, .int 0, .ref z1, .ref z2, .ref z3, .int 0, .ref z4, .ref z5, .int 0, .ref z6, .int 10, .ref (d8 0)])), (z0, .inl (cy 0, 24, .inl (gF 24))), (z1, .inl (cy 0, 4, .inl (fun _ => 0))), (z2, .inl (cy 0, 4, .inl (fun _ => 0))), (z3, .inl (cy 0, 4, .inl (fun _ => 0))), (z4, .inl (cy 0, 5, .inl (fun _ => 0))), (z5, .inl (cy 0, 5, .inl (fun _ => 0))), (z6, .inl (cy 4, 4, .inr (.inr (.inr (.inr (fun j => some ((fun i => if i = 1 then z0 else if i = 3 then z1 else if i = 4 then z2 else if i = 5 then z3 else if i = 7 then z4 else if i = 8 then z5 else if i = 10 then z6 else if i = 12 then d8 0 else if i = 21 then d8 1 else if i = 22 then d8 2 else if i = 23 then d8 3 else if i = 40 then (d10 0) else if i = 41 then (d12 0) else if i = 42 then (d14 0) else if i = 43 then (d16 0) else h0) (40 + j)))))))), (d8 0, .inr (3, [.int 0, .ref (d8 1), .ref (d8 2), .ref (d8 3)])), (d8 1, .inl (cy 0, 8, .inl (fun _ => 0))), (d8 2, .inl (cy 0, 8, .inl (fun _ => 0))), (d8 3, .inl (cy 2, 56, .inl (fun _ => 0))), (d10 0, tE trI), (d12 0, tE trI), (d14 0, tE trI), (d16 0, tE trI)]) rfl ?_
    refine uu_ws (ws2 := lC cy (fun i => if i = 1 then z0 else if i = 3 then z1 else if i = 4 then z2 else if i = 5 then z3 else if i = 7 then z4 else if i = 8 then z5 else if i = 10 then z6 else if i = 12 then d8 0 else if i = 21 then d8 1 else if i = 22 then d8 2 else if i = 23 then d8 3 else if i = 40 then (d10 0) else if i = 41 then (d12 0) else if i = 42 then (d14 0) else if i = 43 then (d16 0) else h0) lnI lnR (fun _ => trI) (fun _ => 0) (fun _ _ => 0)) [0, 1, 2, 3, 4, 5, 6, 7, 12, 13, 14, 15, 8, 9, 10, 11] rfl (by decide) ?_
    exact uu_vreturn C (fun i => if i = 1 then z0 else if i = 3 then z1 else if i = 4 then z2 else if i = 5 then z3 else if i = 7 then z4 else if i = 8 then z5 else if i = 10 then z6 else if i = 12 then d8 0 else if i = 21 then d8 1 else if i = 22 then d8 2 else if i = 23 then d8 3 else if i = 40 then (d10 0) else if i = 41 then (d12 0) else if i = 42 then (d14 0) else if i = 43 then (d16 0) else h0) rfl rfl (Nat.le_of_ble_eq_true rfl) (Nat.le_of_ble_eq_true rfl) dX1_init_141
  have lp : ∀ (n i : Nat), i + n = 24 → UU p l e { frames := 2, cells := 15, slots := 142, locals := 32 } s m args below meth c 2 D A (MQ below (Qn D A h0 (fun ad : Nat → Nat => ad 0) (fun ad => lC cy ad lnI lnR (fun _ => trI) (fun _ => 0) (fun _ _ => 0))) args s 15 142 A) 11 126 95 [(1, .int (iI (i : Int))), (0, .ref h0)] [] [(h0, .inr (1, [.int 16, .ref z0, .int 0, .ref z1, .ref z2, .ref z3, .int 0, .ref z4, .ref z5, .int 0, .ref z6, .int 10, .ref (d8 0)])), (z0, .inl (cy 0, 24, .inl (gF i))), (z1, .inl (cy 0, 4, .inl (fun _ => 0))), (z2, .inl (cy 0, 4, .inl (fun _ => 0))), (z3, .inl (cy 0, 4, .inl (fun _ => 0))), (z4, .inl (cy 0, 5, .inl (fun _ => 0))), (z5, .inl (cy 0, 5, .inl (fun _ => 0))), (z6, .inl (cy 4, 4, .inr (.inr (.inr (.inr (fun _ => none)))))), (d8 0, .inr (3, [.int 0, .ref (d8 1), .ref (d8 2), .ref (d8 3)])), (d8 1, .inl (cy 0, 8, .inl (fun _ => 0))), (d8 2, .inl (cy 0, 8, .inl (fun _ => 0))), (d8 3, .inl (cy 2, 56, .inl (fun _ => 0)))] := by
    intro n
    induction n with
    | zero =>
      intro i hi
      have e : i = 24 := by omega
      subst e
      refine uu_iload_n C dX1_init_95 rfl (k := 0) rfl ?_
      refine uu_bipush C (v := 24) dX1_init_96 (by decide) ?_
      exact ur_icmp_ge C dX1_init_98 rfl (fun _ => aft) (fun h => absurd (by decide) h)
    | succ n ih =>
      intro i hi
      refine uu_iload_n C dX1_init_95 rfl (k := 0) rfl ?_
      refine uu_bipush C (v := 24) dX1_init_96 (by decide) ?_
      refine ur_icmp_ge C dX1_init_98 rfl (fun h => absurd h (show ¬ (24 : Int32) ≤ iI (i : Int) from nle_iI (a := 24) (by omega) (by omega) (by omega))) (fun _ => ?_)
      refine uu_aload_n C dX1_init_101 rfl (k := 1) rfl ?_
      refine uu_get C fiX1 (ci := 1) rfl 0 rfl 1 (by decide) q1_85 rfl dX1_init_102 ?_
      refine uu_iload_n C dX1_init_105 rfl (k := 0) rfl ?_
      refine uu_bipush C (v := 10) dX1_init_106 (by decide) ?_
      refine uu_iastore C (o := ()) (b := some ()) 1 0 rfl rfl (if_neg (ob_nat (show i < 24 by omega) (by omega))) dX1_init_108 (ws' := [(h0, .inr (1, [.int 16, .ref z0, .int 0, .ref z1, .ref z2, .ref z3, .int 0, .ref z4, .ref z5, .int 0, .ref z6, .int 10, .ref (d8 0)])), (z0, .inl (cy 0, 24, .inl (gF (i + 1)))), (z1, .inl (cy 0, 4, .inl (fun _ => 0))), (z2, .inl (cy 0, 4, .inl (fun _ => 0))), (z3, .inl (cy 0, 4, .inl (fun _ => 0))), (z4, .inl (cy 0, 5, .inl (fun _ => 0))), (z5, .inl (cy 0, 5, .inl (fun _ => 0))), (z6, .inl (cy 4, 4, .inr (.inr (.inr (.inr (fun _ => none)))))), (d8 0, .inr (3, [.int 0, .ref (d8 1), .ref (d8 2), .ref (d8 3)])), (d8 1, .inl (cy 0, 8, .inl (fun _ => 0))), (d8 2, .inl (cy 0, 8, .inl (fun _ => 0))), (d8 3, .inl (cy 2, 56, .inl (fun _ => 0)))]) (by rw [gF_s (show i < 2147483648 by omega)]; rfl) (fun _ => ?_)
      refine uu_iinc C dX1_init_109 (k := 0) (x := iI (i : Int)) (v := iI ((i + 1 : Nat) : Int)) rfl (iI_succ i) (by decide) (L' := [(1, .int (iI ((i + 1 : Nat) : Int))), (0, .ref h0)]) rfl ?_
      exact uu_goto C dX1_init_112 (tgt := 95) rfl (ih (i + 1) (by omega))
  have l0 := lp 24 0 rfl
  rw [gF_0] at l0
  exact l0
