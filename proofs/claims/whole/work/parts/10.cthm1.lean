theorem dX1_resize_0 : decode cX1_resize 0 = .ok (.iload_n 1, 1) := by decide +kernel
theorem dX1_resize_1 : decode cX1_resize 1 = .ok (.iconst 2, 1) := by decide +kernel
theorem dX1_resize_2 : decode cX1_resize 2 = .ok (.if_icmp .ge 6, 3) := by decide +kernel
theorem dX1_resize_5 : decode cX1_resize 5 = .ok (.bipush (-4), 2) := by decide +kernel
theorem dX1_resize_7 : decode cX1_resize 7 = .ok (.ireturn, 1) := by decide +kernel
theorem dX1_resize_8 : decode cX1_resize 8 = .ok (.iload_n 1, 1) := by decide +kernel
theorem dX1_resize_9 : decode cX1_resize 9 = .ok (.bipush 24, 2) := by decide +kernel
theorem dX1_resize_11 : decode cX1_resize 11 = .ok (.if_icmp .le 6, 3) := by decide +kernel
theorem dX1_resize_14 : decode cX1_resize 14 = .ok (.bipush (-6), 2) := by decide +kernel
theorem dX1_resize_16 : decode cX1_resize 16 = .ok (.ireturn, 1) := by decide +kernel
theorem dX1_resize_17 : decode cX1_resize 17 = .ok (.aload_n 0, 1) := by decide +kernel
theorem dX1_resize_18 : decode cX1_resize 18 = .ok (.getfield 9, 3) := by decide +kernel
theorem dX1_resize_21 : decode cX1_resize 21 = .ok (.istore_n 2, 1) := by decide +kernel
theorem dX1_resize_22 : decode cX1_resize 22 = .ok (.aload_n 0, 1) := by decide +kernel
theorem dX1_resize_23 : decode cX1_resize 23 = .ok (.iload_n 1, 1) := by decide +kernel
theorem dX1_resize_24 : decode cX1_resize 24 = .ok (.putfield 9, 3) := by decide +kernel
theorem dX1_resize_27 : decode cX1_resize 27 = .ok (.iload_n 1, 1) := by decide +kernel
theorem dX1_resize_28 : decode cX1_resize 28 = .ok (.istore_n 3, 1) := by decide +kernel
theorem dX1_resize_29 : decode cX1_resize 29 = .ok (.iload_n 3, 1) := by decide +kernel
theorem dX1_resize_30 : decode cX1_resize 30 = .ok (.bipush 24, 2) := by decide +kernel
theorem dX1_resize_32 : decode cX1_resize 32 = .ok (.if_icmp .ge 17, 3) := by decide +kernel
theorem dX1_resize_35 : decode cX1_resize 35 = .ok (.aload_n 0, 1) := by decide +kernel
theorem dX1_resize_36 : decode cX1_resize 36 = .ok (.getfield 15, 3) := by decide +kernel
theorem dX1_resize_39 : decode cX1_resize 39 = .ok (.iload_n 3, 1) := by decide +kernel
theorem dX1_resize_40 : decode cX1_resize 40 = .ok (.bipush 10, 2) := by decide +kernel
theorem dX1_resize_42 : decode cX1_resize 42 = .ok (.iastore, 1) := by decide +kernel
theorem dX1_resize_43 : decode cX1_resize 43 = .ok (.iinc 3 1, 3) := by decide +kernel
theorem dX1_resize_46 : decode cX1_resize 46 = .ok (.goto (-17), 3) := by decide +kernel
theorem dX1_resize_49 : decode cX1_resize 49 = .ok (.aload_n 0, 1) := by decide +kernel
theorem dX1_resize_50 : decode cX1_resize 50 = .ok (.getfield 19, 3) := by decide +kernel
theorem dX1_resize_53 : decode cX1_resize 53 = .ok (.iconst 1, 1) := by decide +kernel
theorem dX1_resize_54 : decode cX1_resize 54 = .ok (.isub, 1) := by decide +kernel
theorem dX1_resize_55 : decode cX1_resize 55 = .ok (.istore_n 3, 1) := by decide +kernel
theorem dX1_resize_56 : decode cX1_resize 56 = .ok (.iload_n 3, 1) := by decide +kernel
theorem dX1_resize_57 : decode cX1_resize 57 = .ok (.ifCond .lt 24, 3) := by decide +kernel
theorem dX1_resize_60 : decode cX1_resize 60 = .ok (.aload_n 0, 1) := by decide +kernel
theorem dX1_resize_61 : decode cX1_resize 61 = .ok (.getfield 22, 3) := by decide +kernel
theorem dX1_resize_64 : decode cX1_resize 64 = .ok (.iload_n 3, 1) := by decide +kernel
theorem dX1_resize_65 : decode cX1_resize 65 = .ok (.iaload, 1) := by decide +kernel
theorem dX1_resize_66 : decode cX1_resize 66 = .ok (.iload_n 1, 1) := by decide +kernel
theorem dX1_resize_67 : decode cX1_resize 67 = .ok (.if_icmp .lt 8, 3) := by decide +kernel
theorem dX1_resize_70 : decode cX1_resize 70 = .ok (.aload_n 0, 1) := by decide +kernel
theorem dX1_resize_71 : decode cX1_resize 71 = .ok (.iload_n 3, 1) := by decide +kernel
theorem dX1_resize_72 : decode cX1_resize 72 = .ok (.invokevirtual 73, 3) := by decide +kernel
theorem dX1_resize_75 : decode cX1_resize 75 = .ok (.iinc 3 (-1), 3) := by decide +kernel
theorem dX1_resize_78 : decode cX1_resize 78 = .ok (.goto (-22), 3) := by decide +kernel
theorem dX1_resize_81 : decode cX1_resize 81 = .ok (.aload_n 0, 1) := by decide +kernel
theorem dX1_resize_82 : decode cX1_resize 82 = .ok (.getfield 31, 3) := by decide +kernel
theorem dX1_resize_85 : decode cX1_resize 85 = .ok (.iconst 1, 1) := by decide +kernel
theorem dX1_resize_86 : decode cX1_resize 86 = .ok (.isub, 1) := by decide +kernel
theorem dX1_resize_87 : decode cX1_resize 87 = .ok (.istore_n 3, 1) := by decide +kernel
theorem dX1_resize_88 : decode cX1_resize 88 = .ok (.iload_n 3, 1) := by decide +kernel
theorem dX1_resize_89 : decode cX1_resize 89 = .ok (.ifCond .lt 24, 3) := by decide +kernel
theorem dX1_resize_92 : decode cX1_resize 92 = .ok (.aload_n 0, 1) := by decide +kernel
theorem dX1_resize_93 : decode cX1_resize 93 = .ok (.getfield 34, 3) := by decide +kernel
theorem dX1_resize_96 : decode cX1_resize 96 = .ok (.iload_n 3, 1) := by decide +kernel
theorem dX1_resize_97 : decode cX1_resize 97 = .ok (.iaload, 1) := by decide +kernel
theorem dX1_resize_98 : decode cX1_resize 98 = .ok (.iload_n 1, 1) := by decide +kernel
theorem dX1_resize_99 : decode cX1_resize 99 = .ok (.if_icmp .lt 8, 3) := by decide +kernel
theorem dX1_resize_102 : decode cX1_resize 102 = .ok (.aload_n 0, 1) := by decide +kernel
theorem dX1_resize_103 : decode cX1_resize 103 = .ok (.iload_n 3, 1) := by decide +kernel
theorem dX1_resize_104 : decode cX1_resize 104 = .ok (.invokevirtual 77, 3) := by decide +kernel
theorem dX1_resize_107 : decode cX1_resize 107 = .ok (.iinc 3 (-1), 3) := by decide +kernel
theorem dX1_resize_110 : decode cX1_resize 110 = .ok (.goto (-22), 3) := by decide +kernel
theorem dX1_resize_113 : decode cX1_resize 113 = .ok (.aload_n 0, 1) := by decide +kernel
theorem dX1_resize_114 : decode cX1_resize 114 = .ok (.getfield 55, 3) := by decide +kernel
theorem dX1_resize_117 : decode cX1_resize 117 = .ok (.iload_n 1, 1) := by decide +kernel
theorem dX1_resize_118 : decode cX1_resize 118 = .ok (.invokevirtual 80, 3) := by decide +kernel
theorem dX1_resize_121 : decode cX1_resize 121 = .ok (.iload_n 2, 1) := by decide +kernel
theorem dX1_resize_122 : decode cX1_resize 122 = .ok (.ireturn, 1) := by decide +kernel
set_option maxHeartbeats 4000000 in
set_option maxRecDepth 100000 in
theorem l_X1_resize_29 {p : Program} {l : Launch} {e : Env} {s : State} {m : MethodId} {args : Array Value} {below : List Frame} {meth : Method} {c : Code} {D : va_G} {cy : Nat → ClassId} {A : Nat → Prop} {Bd : Nat} {xa : Xa} {ad : Nat → Nat} {β : Type} {vO : Option Value} {wO : va_W} {N : Nat} {sc : Nat → Int32} {ps : Nat → Int32} {pa : Nat → Nat → Int32} {tr : Nat → Nat → Int32} {v1 : Int32} {v2 : Int32} {kx : (Nat → Nat → Int32) → Option (β)} {out : β} (C : CC p s m args meth c cX1_resize RX1 4 (some .int) D cy A false Bd xa) (hk : ∀ (ar1 : Nat → Nat → Int32), kx ar1 = some out → TT p l e { frames := 2, cells := 0, slots := 0, locals := 51 } s m args below meth c 4 D A false vO wO 49 [(0, .ref (ad 0)), (1, .int v1), (2, .int v2)] [] (lC cy ad sc ar1 tr ps pa)) {n : Nat} {v3 : Int32} {ar : Nat → Nat → Int32} (hf : f_X1_resize_L29 N sc ps pa v1 v2 kx n v3 ar = some out) : TT p l e { frames := 2, cells := 0, slots := 0, locals := 51 } s m args below meth c 4 D A false vO wO 29 [(0, .ref (ad 0)), (1, .int v1), (2, .int v2), (3, .int v3)] [] (lC cy ad sc ar tr ps pa) := by
  induction n generalizing v3 ar with
  | zero => cases hf
  | succ n ih =>
    rw [f_X1_resize_L29] at hf
    refine tt_iload_n (pc := 29) (k := 3) C dX1_resize_29 rfl rfl ?_
    refine tt_bipush (pc := 30) (v := (24 : Int32)) C dX1_resize_30 (by decide) ?_
    refine tt_icmp_ge (pc := 32) (tgt := 49) C dX1_resize_32 (by decide) hf (fun hf => ?_) (fun hf => ?_)
    · exact tt_locs [0, 1, 2] rfl (hk _ hf)
    · refine tt_aload_n (pc := 35) (k := 0) C dX1_resize_35 rfl rfl ?_
      refine tt_get (pc := 36) (ws := (lC cy ad sc ar tr ps pa)) (ci := 1) (v := .ref (ad 1)) C fiX1 rfl 0 lC_obj 1 (by decide) q1_85 rfl dX1_resize_36 ?_
      refine tt_iload_n (pc := 39) (k := 3) C dX1_resize_39 rfl rfl ?_
      refine tt_bipush (pc := 40) (v := (10 : Int32)) C dX1_resize_40 (by decide) ?_
      refine tt_iastore (pc := 42) (ws := (lC cy ad sc ar tr ps pa)) (n := 24) (f := (ar 1)) (ws' := (lC cy ad sc (va_up ar 1 (upd (ar 1) (ix v3) (10 : Int32))) tr ps pa)) C rfl 1 0 lC_get1 rfl hf dX1_resize_42 lC_set1 (fun hf => ?_)
      refine tt_iinc (pc := 43) (k := 3) (v := (v3 + 1)) (L' := [(3, .int (v3 + 1)), (0, .ref (ad 0)), (1, .int v1), (2, .int v2)]) C dX1_resize_43 rfl rfl (by decide) rfl ?_
      refine tt_goto (pc := 46) (tgt := 29) C dX1_resize_46 (by decide) ?_
      exact tt_locs [1, 2, 3, 0] rfl (ih hf)
set_option maxHeartbeats 4000000 in
set_option maxRecDepth 100000 in
theorem l_X1_resize_56 {p : Program} {l : Launch} {e : Env} {s : State} {m : MethodId} {args : Array Value} {below : List Frame} {meth : Method} {c : Code} {D : va_G} {cy : Nat → ClassId} {A : Nat → Prop} {Bd : Nat} {xa : Xa} {ad : Nat → Nat} {β : Type} {vO : Option Value} {wO : va_W} {N : Nat} {ps : Nat → Int32} {pa : Nat → Nat → Int32} {tr : Nat → Nat → Int32} {v1 : Int32} {v2 : Int32} {kx : (Nat → Int32) → (Nat → Nat → Int32) → Option (β)} {out : β} (C : CC p s m args meth c cX1_resize RX1 4 (some .int) D cy A false Bd xa) (hk : ∀ (sc1 : Nat → Int32) (ar1 : Nat → Nat → Int32), kx sc1 ar1 = some out → TT p l e { frames := 2, cells := 0, slots := 0, locals := 51 } s m args below meth c 4 D A false vO wO 81 [(0, .ref (ad 0)), (1, .int v1), (2, .int v2)] [] (lC cy ad sc1 ar1 tr ps pa)) {n : Nat} {v3 : Int32} {sc : Nat → Int32} {ar : Nat → Nat → Int32} (hf : f_X1_resize_L56 N ps pa v1 v2 kx n v3 sc ar = some out) : TT p l e { frames := 2, cells := 0, slots := 0, locals := 51 } s m args below meth c 4 D A false vO wO 56 [(0, .ref (ad 0)), (1, .int v1), (2, .int v2), (3, .int v3)] [] (lC cy ad sc ar tr ps pa) := by
  induction n generalizing v3 sc ar with
  | zero => cases hf
  | succ n ih =>
    rw [f_X1_resize_L56] at hf
    refine tt_iload_n (pc := 56) (k := 3) C dX1_resize_56 rfl rfl ?_
    refine tt_if_lt (pc := 57) (tgt := 81) C dX1_resize_57 (by decide) hf (fun hf => ?_) (fun hf => ?_)
    · exact tt_locs [0, 1, 2] rfl (hk _ _ hf)
    · refine tt_aload_n (pc := 60) (k := 0) C dX1_resize_60 rfl rfl ?_
      refine tt_get (pc := 61) (ws := (lC cy ad sc ar tr ps pa)) (ci := 1) (v := .ref (ad 3)) C fiX1 rfl 0 lC_obj 3 (by decide) q1_89 rfl dX1_resize_61 ?_
      refine tt_iload_n (pc := 64) (k := 3) C dX1_resize_64 rfl rfl ?_
      refine tt_iaload (pc := 65) (ws := (lC cy ad sc ar tr ps pa)) (n := 4) (f := (ar 3)) C 2 0 lC_get3 rfl hf dX1_resize_65 (fun hf => ?_)
      refine tt_iload_n (pc := 66) (k := 1) C dX1_resize_66 rfl rfl ?_
      obtain ⟨j2, hj2, hf⟩ := bind_some hf
      have k3 : TT p l e { frames := 2, cells := 0, slots := 0, locals := 51 } s m args below meth c 4 D A false vO wO 75 [(0, .ref (ad 0)), (1, .int v1), (2, .int v2), (3, .int v3)] [] (lC cy ad j2.1 j2.2 tr ps pa) := by
        refine tt_iinc (pc := 75) (k := 3) (v := (v3 + (-1))) (L' := [(3, .int (v3 + (-1))), (0, .ref (ad 0)), (1, .int v1), (2, .int v2)]) C dX1_resize_75 rfl rfl (by decide) rfl ?_
        refine tt_goto (pc := 78) (tgt := 56) C dX1_resize_78 (by decide) ?_
        exact tt_locs [1, 2, 3, 0] rfl (ih hf)
      refine tt_icmp_lt (pc := 67) (tgt := 75) C dX1_resize_67 (by decide) hj2 (fun hj2 => ?_) (fun hj2 => ?_)
      · obtain rfl := Option.some.inj hj2
        exact tt_locs [0, 1, 2, 3] rfl k3
      · refine tt_aload_n (pc := 70) (k := 0) C dX1_resize_70 rfl rfl ?_
        refine tt_iload_n (pc := 71) (k := 3) C dX1_resize_71 rfl rfl ?_
        obtain ⟨r4, hr4, hj2⟩ := bind_some hj2
        refine tt_callM (pc := 72) (ws := (lC cy ad sc ar tr ps pa)) (q0 := 0) (ci := 1) (rest := []) (st' := []) C rfl (k_X1_removeBridge hr4) okX1_removeBridge q2_185 rfl lC_obj rfl rfl rfl (Nat.le_of_ble_eq_true rfl) ⟨Nat.le_of_ble_eq_true rfl, Nat.le_of_ble_eq_true rfl⟩ dX1_resize_72 ?_
        obtain rfl := Option.some.inj hj2
        exact tt_locs [0, 1, 2, 3] rfl k3
set_option maxHeartbeats 4000000 in
set_option maxRecDepth 100000 in
theorem l_X1_resize_88 {p : Program} {l : Launch} {e : Env} {s : State} {m : MethodId} {args : Array Value} {below : List Frame} {meth : Method} {c : Code} {D : va_G} {cy : Nat → ClassId} {A : Nat → Prop} {Bd : Nat} {xa : Xa} {ad : Nat → Nat} {β : Type} {vO : Option Value} {wO : va_W} {N : Nat} {ps : Nat → Int32} {pa : Nat → Nat → Int32} {tr : Nat → Nat → Int32} {v1 : Int32} {v2 : Int32} {kx : (Nat → Int32) → (Nat → Nat → Int32) → Option (β)} {out : β} (C : CC p s m args meth c cX1_resize RX1 4 (some .int) D cy A false Bd xa) (hk : ∀ (sc1 : Nat → Int32) (ar1 : Nat → Nat → Int32), kx sc1 ar1 = some out → TT p l e { frames := 2, cells := 0, slots := 0, locals := 51 } s m args below meth c 4 D A false vO wO 113 [(0, .ref (ad 0)), (1, .int v1), (2, .int v2)] [] (lC cy ad sc1 ar1 tr ps pa)) {n : Nat} {v3 : Int32} {sc : Nat → Int32} {ar : Nat → Nat → Int32} (hf : f_X1_resize_L88 N ps pa v1 v2 kx n v3 sc ar = some out) : TT p l e { frames := 2, cells := 0, slots := 0, locals := 51 } s m args below meth c 4 D A false vO wO 88 [(0, .ref (ad 0)), (1, .int v1), (2, .int v2), (3, .int v3)] [] (lC cy ad sc ar tr ps pa) := by
  induction n generalizing v3 sc ar with
  | zero => cases hf
  | succ n ih =>
    rw [f_X1_resize_L88] at hf
    refine tt_iload_n (pc := 88) (k := 3) C dX1_resize_88 rfl rfl ?_
    refine tt_if_lt (pc := 89) (tgt := 113) C dX1_resize_89 (by decide) hf (fun hf => ?_) (fun hf => ?_)
    · exact tt_locs [0, 1, 2] rfl (hk _ _ hf)
    · refine tt_aload_n (pc := 92) (k := 0) C dX1_resize_92 rfl rfl ?_
      refine tt_get (pc := 93) (ws := (lC cy ad sc ar tr ps pa)) (ci := 1) (v := .ref (ad 7)) C fiX1 rfl 0 lC_obj 7 (by decide) q1_98 rfl dX1_resize_93 ?_
      refine tt_iload_n (pc := 96) (k := 3) C dX1_resize_96 rfl rfl ?_
      refine tt_iaload (pc := 97) (ws := (lC cy ad sc ar tr ps pa)) (n := 5) (f := (ar 7)) C 5 0 lC_get7 rfl hf dX1_resize_97 (fun hf => ?_)
      refine tt_iload_n (pc := 98) (k := 1) C dX1_resize_98 rfl rfl ?_
      obtain ⟨j7, hj7, hf⟩ := bind_some hf
      have k8 : TT p l e { frames := 2, cells := 0, slots := 0, locals := 51 } s m args below meth c 4 D A false vO wO 107 [(0, .ref (ad 0)), (1, .int v1), (2, .int v2), (3, .int v3)] [] (lC cy ad j7.1 j7.2 tr ps pa) := by
        refine tt_iinc (pc := 107) (k := 3) (v := (v3 + (-1))) (L' := [(3, .int (v3 + (-1))), (0, .ref (ad 0)), (1, .int v1), (2, .int v2)]) C dX1_resize_107 rfl rfl (by decide) rfl ?_
        refine tt_goto (pc := 110) (tgt := 88) C dX1_resize_110 (by decide) ?_
        exact tt_locs [1, 2, 3, 0] rfl (ih hf)
      refine tt_icmp_lt (pc := 99) (tgt := 107) C dX1_resize_99 (by decide) hj7 (fun hj7 => ?_) (fun hj7 => ?_)
      · obtain rfl := Option.some.inj hj7
        exact tt_locs [0, 1, 2, 3] rfl k8
      · refine tt_aload_n (pc := 102) (k := 0) C dX1_resize_102 rfl rfl ?_
        refine tt_iload_n (pc := 103) (k := 3) C dX1_resize_103 rfl rfl ?_
        obtain ⟨r9, hr9, hj7⟩ := bind_some hj7
        refine tt_callM (pc := 104) (ws := (lC cy ad sc ar tr ps pa)) (q0 := 0) (ci := 1) (rest := []) (st' := []) C rfl (k_X1_removePost hr9) okX1_removePost q2_189 rfl lC_obj rfl rfl rfl (Nat.le_of_ble_eq_true rfl) ⟨Nat.le_of_ble_eq_true rfl, Nat.le_of_ble_eq_true rfl⟩ dX1_resize_104 ?_
        obtain rfl := Option.some.inj hj7
        exact tt_locs [0, 1, 2, 3] rfl k8
set_option maxHeartbeats 4000000 in
set_option maxRecDepth 100000 in
theorem k_X1_resize {l : Launch} {D : va_G} {cy : Nat → ClassId} {Bd : Nat} {xa : Xa} {ad : Nat → Nat} {N : Nat} {sc : Nat → Int32} {ar : Nat → Nat → Int32} {tr : Nat → Nat → Int32} {ps : Nat → Int32} {pa : Nat → Nat → Int32} {a1 : Int32} {out : Int32 × (Nat → Int32) × (Nat → Nat → Int32) × (Nat → Int32) × (Nat → Nat → Int32)} (hf : f_X1_resize N sc ar ps pa a1 = some out) : KC l yX1_resize cX1_resize 4 (some .int) 2 51 false D cy Bd xa [.ref (ad 0), .int a1] (lC cy ad sc ar tr ps pa) (some (.int out.1)) (lC cy ad out.2.1 out.2.2.1 tr out.2.2.2.1 out.2.2.2.2) := by
  refine kc_start (own := RX1) (by decide +kernel) rfl (Nat.le_of_ble_eq_true rfl) ?_
  intro p e s m args below meth c A C
  unfold f_X1_resize at hf
  refine tt_locs (L' := [(0, .ref (ad 0)), (1, .int a1)]) [0, 1] rfl ?_
  refine tt_iload_n (pc := 0) (k := 1) C dX1_resize_0 rfl rfl ?_
  refine tt_iconst (pc := 1) (v := (2 : Int32)) C dX1_resize_1 (by decide) ?_
  refine tt_icmp_ge (pc := 2) (tgt := 8) C dX1_resize_2 (by decide) hf (fun hf => ?_) (fun hf => ?_)
  · refine tt_iload_n (pc := 8) (k := 1) C dX1_resize_8 rfl rfl ?_
    refine tt_bipush (pc := 9) (v := (24 : Int32)) C dX1_resize_9 (by decide) ?_
    refine tt_icmp_le (pc := 11) (tgt := 17) C dX1_resize_11 (by decide) hf (fun hf => ?_) (fun hf => ?_)
    · refine tt_aload_n (pc := 17) (k := 0) C dX1_resize_17 rfl rfl ?_
      refine tt_get (pc := 18) (ws := (lC cy ad sc ar tr ps pa)) (ci := 1) (v := .int (sc 0)) C fiX1 rfl 0 lC_obj 0 (by decide) q1_82 rfl dX1_resize_18 ?_
      refine tt_istore_n (pc := 21) (L' := [(2, .int (sc 0)), (0, .ref (ad 0)), (1, .int a1)]) C dX1_resize_21 rfl (by decide) rfl ?_
      refine tt_aload_n (pc := 22) (k := 1) C dX1_resize_22 rfl rfl ?_
      refine tt_iload_n (pc := 23) (k := 2) C dX1_resize_23 rfl rfl ?_
      refine tt_put (pc := 24) (ws := (lC cy ad sc ar tr ps pa)) (ci := 1) (ty := .int) (ws' := (lC cy ad (upd sc 0 a1) ar tr ps pa)) C rfl fiX1 rfl 0 lC_obj 0 (by decide) q1_82 rfl rfl rfl rfl (Nat.le_of_ble_eq_true rfl) dX1_resize_24 lC_put0 ?_
      refine tt_iload_n (pc := 27) (k := 2) C dX1_resize_27 rfl rfl ?_
      refine tt_istore_n (pc := 28) (L' := [(3, .int a1), (2, .int (sc 0)), (0, .ref (ad 0)), (1, .int a1)]) C dX1_resize_28 rfl (by decide) rfl ?_
      refine tt_locs (L' := [(0, .ref (ad 0)), (1, .int a1), (2, .int (sc 0)), (3, .int a1)]) [2, 3, 1, 0] rfl (l_X1_resize_29 C (fun t1 hf => ?_) hf)
      refine tt_aload_n (pc := 49) (k := 0) C dX1_resize_49 rfl rfl ?_
      refine tt_get (pc := 50) (ws := (lC cy ad (upd sc 0 a1) t1 tr ps pa)) (ci := 1) (v := .int (sc 2)) C fiX1 rfl 0 lC_obj 2 (by decide) q1_87 rfl dX1_resize_50 ?_
      refine tt_iconst (pc := 53) (v := (1 : Int32)) C dX1_resize_53 (by decide) ?_
      refine tt_isub (pc := 54) C dX1_resize_54 ?_
      refine tt_istore_n (pc := 55) (L' := [(3, .int ((sc 2) - (1 : Int32))), (0, .ref (ad 0)), (1, .int a1), (2, .int (sc 0))]) C dX1_resize_55 rfl (by decide) rfl ?_
      refine tt_locs (L' := [(0, .ref (ad 0)), (1, .int a1), (2, .int (sc 0)), (3, .int ((sc 2) - (1 : Int32)))]) [1, 2, 3, 0] rfl (l_X1_resize_56 C (fun t5 t6 hf => ?_) hf)
      refine tt_aload_n (pc := 81) (k := 0) C dX1_resize_81 rfl rfl ?_
      refine tt_get (pc := 82) (ws := (lC cy ad t5 t6 tr ps pa)) (ci := 1) (v := .int (t5 6)) C fiX1 rfl 0 lC_obj 6 (by decide) q1_95 rfl dX1_resize_82 ?_
      refine tt_iconst (pc := 85) (v := (1 : Int32)) C dX1_resize_85 (by decide) ?_
      refine tt_isub (pc := 86) C dX1_resize_86 ?_
      refine tt_istore_n (pc := 87) (L' := [(3, .int ((t5 6) - (1 : Int32))), (0, .ref (ad 0)), (1, .int a1), (2, .int (sc 0))]) C dX1_resize_87 rfl (by decide) rfl ?_
      refine tt_locs (L' := [(0, .ref (ad 0)), (1, .int a1), (2, .int (sc 0)), (3, .int ((t5 6) - (1 : Int32)))]) [1, 2, 3, 0] rfl (l_X1_resize_88 C (fun t10 t11 hf => ?_) hf)
      refine tt_aload_n (pc := 113) (k := 0) C dX1_resize_113 rfl rfl ?_
      refine tt_get (pc := 114) (ws := (lC cy ad t10 t11 tr ps pa)) (ci := 1) (v := .ref (ad 12)) C fiX1 rfl 0 lC_obj 12 (by decide) q1_110 rfl dX1_resize_114 ?_
      refine tt_iload_n (pc := 117) (k := 1) C dX1_resize_117 rfl rfl ?_
      obtain ⟨r12, hr12, hf⟩ := bind_some hf
      refine tt_callG (pc := 118) (ws := (lC cy ad t10 t11 tr ps pa)) (ws' := (lC cy ad t10 t11 tr r12.1 r12.2)) (q0 := 12) (ci := 3) (rest := []) (st' := []) C rfl (k_X3_dropFrom hr12) okX3_dropFrom q2_193 rfl rfl (lH cy ad t10 t11 tr) [] rfl rfl rfl rfl rfl (Nat.le_of_ble_eq_true rfl) ⟨Nat.le_of_ble_eq_true rfl, Nat.le_of_ble_eq_true rfl⟩ dX1_resize_118 ?_
      refine tt_iload_n (pc := 121) (k := 2) C dX1_resize_121 rfl rfl ?_
      obtain rfl := Option.some.inj hf
      exact tt_ireturn (pc := 122) C rfl rfl rfl dX1_resize_122
    · refine tt_bipush (pc := 14) (v := (-6 : Int32)) C dX1_resize_14 (by decide) ?_
      obtain rfl := Option.some.inj hf
      exact tt_ireturn (pc := 16) C rfl rfl rfl dX1_resize_16
  · refine tt_bipush (pc := 5) (v := (-4 : Int32)) C dX1_resize_5 (by decide) ?_
    obtain rfl := Option.some.inj hf
    exact tt_ireturn (pc := 7) C rfl rfl rfl dX1_resize_7
theorem dX3_isNamed_0 : decode cX3_isNamed 0 = .ok (.aload_n 0, 1) := by decide +kernel
theorem dX3_isNamed_1 : decode cX3_isNamed 1 = .ok (.getfield 19, 3) := by decide +kernel
theorem dX3_isNamed_4 : decode cX3_isNamed 4 = .ok (.iload_n 1, 1) := by decide +kernel
theorem dX3_isNamed_5 : decode cX3_isNamed 5 = .ok (.iaload, 1) := by decide +kernel
theorem dX3_isNamed_6 : decode cX3_isNamed 6 = .ok (.iload 4, 2) := by decide +kernel
theorem dX3_isNamed_8 : decode cX3_isNamed 8 = .ok (.if_icmp .eq 5, 3) := by decide +kernel
theorem dX3_isNamed_11 : decode cX3_isNamed 11 = .ok (.iconst 0, 1) := by decide +kernel
theorem dX3_isNamed_12 : decode cX3_isNamed 12 = .ok (.ireturn, 1) := by decide +kernel
theorem dX3_isNamed_13 : decode cX3_isNamed 13 = .ok (.iconst 0, 1) := by decide +kernel
theorem dX3_isNamed_14 : decode cX3_isNamed 14 = .ok (.istore 5, 2) := by decide +kernel
theorem dX3_isNamed_16 : decode cX3_isNamed 16 = .ok (.iload 5, 2) := by decide +kernel
theorem dX3_isNamed_18 : decode cX3_isNamed 18 = .ok (.iload 4, 2) := by decide +kernel
theorem dX3_isNamed_20 : decode cX3_isNamed 20 = .ok (.if_icmp .ge 32, 3) := by decide +kernel
theorem dX3_isNamed_23 : decode cX3_isNamed 23 = .ok (.aload_n 0, 1) := by decide +kernel
theorem dX3_isNamed_24 : decode cX3_isNamed 24 = .ok (.getfield 22, 3) := by decide +kernel
theorem dX3_isNamed_27 : decode cX3_isNamed 27 = .ok (.iload_n 1, 1) := by decide +kernel
theorem dX3_isNamed_28 : decode cX3_isNamed 28 = .ok (.bipush 7, 2) := by decide +kernel
theorem dX3_isNamed_30 : decode cX3_isNamed 30 = .ok (.imul, 1) := by decide +kernel
theorem dX3_isNamed_31 : decode cX3_isNamed 31 = .ok (.iload 5, 2) := by decide +kernel
theorem dX3_isNamed_33 : decode cX3_isNamed 33 = .ok (.iadd, 1) := by decide +kernel
theorem dX3_isNamed_34 : decode cX3_isNamed 34 = .ok (.caload, 1) := by decide +kernel
theorem dX3_isNamed_35 : decode cX3_isNamed 35 = .ok (.aload_n 2, 1) := by decide +kernel
theorem dX3_isNamed_36 : decode cX3_isNamed 36 = .ok (.iload_n 3, 1) := by decide +kernel
theorem dX3_isNamed_37 : decode cX3_isNamed 37 = .ok (.iload 5, 2) := by decide +kernel
theorem dX3_isNamed_39 : decode cX3_isNamed 39 = .ok (.iadd, 1) := by decide +kernel
theorem dX3_isNamed_40 : decode cX3_isNamed 40 = .ok (.caload, 1) := by decide +kernel
theorem dX3_isNamed_41 : decode cX3_isNamed 41 = .ok (.if_icmp .eq 5, 3) := by decide +kernel
theorem dX3_isNamed_44 : decode cX3_isNamed 44 = .ok (.iconst 0, 1) := by decide +kernel
theorem dX3_isNamed_45 : decode cX3_isNamed 45 = .ok (.ireturn, 1) := by decide +kernel
theorem dX3_isNamed_46 : decode cX3_isNamed 46 = .ok (.iinc 5 1, 3) := by decide +kernel
theorem dX3_isNamed_49 : decode cX3_isNamed 49 = .ok (.goto (-33), 3) := by decide +kernel
theorem dX3_isNamed_52 : decode cX3_isNamed 52 = .ok (.iconst 1, 1) := by decide +kernel
theorem dX3_isNamed_53 : decode cX3_isNamed 53 = .ok (.ireturn, 1) := by decide +kernel
set_option maxHeartbeats 4000000 in
set_option maxRecDepth 100000 in
theorem l_X3_isNamed_16 {p : Program} {l : Launch} {e : Env} {s : State} {m : MethodId} {args : Array Value} {below : List Frame} {meth : Method} {c : Code} {D : va_G} {cy : Nat → ClassId} {A : Nat → Prop} {Bd : Nat} {xa : Xa} {z : Nat} {ad : Nat → Nat} {N : Nat} {sg : Nat → Int32} {pa : Nat → Nat → Int32} {ps : Nat → Int32} {v1 : Int32} {v3 : Int32} {v4 : Int32} {kx : Unit → Option (Int32)} {out : Int32} (C : CC p s m args meth c cX3_isNamed RX3 6 (some .boolean) D cy A true Bd xa) (hk : ∀ (uu : Unit), kx uu = some out → TT p l e { frames := 0, cells := 0, slots := 0, locals := 0 } s m args below meth c 6 D A true (some (.int out)) ((z, .inl (cy 2, 120, .inl sg)) :: pC cy ad ps pa) 52 [] [] ((z, .inl (cy 2, 120, .inl sg)) :: pC cy ad ps pa)) {n : Nat} {v5 : Int32} (hf : f_X3_isNamed_L16 N sg pa v1 v3 v4 kx n v5 = some out) : TT p l e { frames := 0, cells := 0, slots := 0, locals := 0 } s m args below meth c 6 D A true (some (.int out)) ((z, .inl (cy 2, 120, .inl sg)) :: pC cy ad ps pa) 16 [(0, .ref (ad 12)), (1, .int v1), (2, .ref z), (3, .int v3), (4, .int v4), (5, .int v5)] [] ((z, .inl (cy 2, 120, .inl sg)) :: pC cy ad ps pa) := by
  induction n generalizing v5 with
  | zero => cases hf
  | succ n ih =>
    rw [f_X3_isNamed_L16] at hf
    refine tt_iload (pc := 16) (k := 5) C dX3_isNamed_16 rfl ?_
    refine tt_iload (pc := 18) (k := 4) C dX3_isNamed_18 rfl ?_
    refine tt_icmp_ge (pc := 20) (tgt := 52) C dX3_isNamed_20 (by decide) hf (fun hf => ?_) (fun hf => ?_)
    · exact tt_locs [] rfl (hk () hf)
    · refine tt_aload_n (pc := 23) (k := 0) C dX3_isNamed_23 rfl rfl ?_
      refine tt_get (pc := 24) (ws := ((z, .inl (cy 2, 120, .inl sg)) :: pC cy ad ps pa)) (ci := 3) (v := .ref (ad 23)) C fiX3 rfl 1 pS_obj 3 (by decide) q1_44 rfl dX3_isNamed_24 ?_
      refine tt_iload_n (pc := 27) (k := 1) C dX3_isNamed_27 rfl rfl ?_
      refine tt_bipush (pc := 28) (v := (7 : Int32)) C dX3_isNamed_28 (by decide) ?_
      refine tt_imul (pc := 30) C dX3_isNamed_30 ?_
      refine tt_iload (pc := 31) (k := 5) C dX3_isNamed_31 rfl ?_
      refine tt_iadd (pc := 33) C dX3_isNamed_33 ?_
      refine tt_caload (pc := 34) (ws := ((z, .inl (cy 2, 120, .inl sg)) :: pC cy ad ps pa)) (n := 56) (f := (pa 3)) C 4 2 pS_get3 rfl hf dX3_isNamed_34 (fun hf => ?_)
      refine tt_aload_n (pc := 35) (k := 2) C dX3_isNamed_35 rfl rfl ?_
      refine tt_iload_n (pc := 36) (k := 3) C dX3_isNamed_36 rfl rfl ?_
      refine tt_iload (pc := 37) (k := 5) C dX3_isNamed_37 rfl ?_
      refine tt_iadd (pc := 39) C dX3_isNamed_39 ?_
      refine tt_caload (pc := 40) (ws := ((z, .inl (cy 2, 120, .inl sg)) :: pC cy ad ps pa)) (n := 120) (f := sg) C 0 2 pS_getS rfl hf dX3_isNamed_40 (fun hf => ?_)
      refine tt_icmp_eq (pc := 41) (tgt := 46) C dX3_isNamed_41 (by decide) hf (fun hf => ?_) (fun hf => ?_)
      · refine tt_iinc (pc := 46) (k := 5) (v := (v5 + 1)) (L' := [(5, .int (v5 + 1)), (0, .ref (ad 12)), (1, .int v1), (2, .ref z), (3, .int v3), (4, .int v4)]) C dX3_isNamed_46 rfl rfl (by decide) rfl ?_
        refine tt_goto (pc := 49) (tgt := 16) C dX3_isNamed_49 (by decide) ?_
        exact tt_locs [1, 2, 3, 4, 5, 0] rfl (ih hf)
      · refine tt_iconst (pc := 44) (v := (0 : Int32)) C dX3_isNamed_44 (by decide) ?_
        obtain rfl := Option.some.inj hf
        exact tt_zreturn (pc := 45) C rfl rfl rfl rfl dX3_isNamed_45
set_option maxHeartbeats 4000000 in
set_option maxRecDepth 100000 in
theorem k_X3_isNamed {l : Launch} {D : va_G} {cy : Nat → ClassId} {Bd : Nat} {xa : Xa} {z : Nat} {ad : Nat → Nat} {N : Nat} {sg : Nat → Int32} {ps : Nat → Int32} {pa : Nat → Nat → Int32} {a1 : Int32} {a3 : Int32} {a4 : Int32} {out : Int32} (hf : f_X3_isNamed N sg pa a1 a3 a4 = some out) : KC l yX3_isNamed cX3_isNamed 6 (some .boolean) 0 0 true D cy Bd xa [.ref (ad 12), .int a1, .ref z, .int a3, .int a4] ((z, .inl (cy 2, 120, .inl sg)) :: pC cy ad ps pa) (some (.int out)) ((z, .inl (cy 2, 120, .inl sg)) :: pC cy ad ps pa) := by
  refine kc_start (own := RX3) (by decide +kernel) rfl (Nat.le_of_ble_eq_true rfl) ?_
  intro p e s m args below meth c A C
  unfold f_X3_isNamed at hf
  refine tt_locs (L' := [(0, .ref (ad 12)), (1, .int a1), (2, .ref z), (3, .int a3), (4, .int a4)]) [0, 1, 2, 3, 4] rfl ?_
  refine tt_aload_n (pc := 0) (k := 0) C dX3_isNamed_0 rfl rfl ?_
  refine tt_get (pc := 1) (ws := ((z, .inl (cy 2, 120, .inl sg)) :: pC cy ad ps pa)) (ci := 3) (v := .ref (ad 22)) C fiX3 rfl 1 pS_obj 2 (by decide) q1_42 rfl dX3_isNamed_1 ?_
  refine tt_iload_n (pc := 4) (k := 1) C dX3_isNamed_4 rfl rfl ?_
  refine tt_iaload (pc := 5) (ws := ((z, .inl (cy 2, 120, .inl sg)) :: pC cy ad ps pa)) (n := 8) (f := (pa 2)) C 3 0 pS_get2 rfl hf dX3_isNamed_5 (fun hf => ?_)
  refine tt_iload (pc := 6) (k := 4) C dX3_isNamed_6 rfl ?_
  refine tt_icmp_eq (pc := 8) (tgt := 13) C dX3_isNamed_8 (by decide) hf (fun hf => ?_) (fun hf => ?_)
  · refine tt_iconst (pc := 13) (v := (0 : Int32)) C dX3_isNamed_13 (by decide) ?_
    refine tt_istore (pc := 14) (L' := [(5, .int (0 : Int32)), (0, .ref (ad 12)), (1, .int a1), (2, .ref z), (3, .int a3), (4, .int a4)]) C dX3_isNamed_14 (by decide) rfl ?_
    refine tt_locs (L' := [(0, .ref (ad 12)), (1, .int a1), (2, .ref z), (3, .int a3), (4, .int a4), (5, .int (0 : Int32))]) [1, 2, 3, 4, 5, 0] rfl (l_X3_isNamed_16 C (fun _ hf => ?_) hf)
    refine tt_iconst (pc := 52) (v := (1 : Int32)) C dX3_isNamed_52 (by decide) ?_
    obtain rfl := Option.some.inj hf
    exact tt_zreturn (pc := 53) C rfl rfl rfl rfl dX3_isNamed_53
  · refine tt_iconst (pc := 11) (v := (0 : Int32)) C dX3_isNamed_11 (by decide) ?_
    obtain rfl := Option.some.inj hf
    exact tt_zreturn (pc := 12) C rfl rfl rfl rfl dX3_isNamed_12
theorem dX3_find_0 : decode cX3_find 0 = .ok (.iconst 0, 1) := by decide +kernel
theorem dX3_find_1 : decode cX3_find 1 = .ok (.istore 4, 2) := by decide +kernel
theorem dX3_find_3 : decode cX3_find 3 = .ok (.iload 4, 2) := by decide +kernel
theorem dX3_find_5 : decode cX3_find 5 = .ok (.aload_n 0, 1) := by decide +kernel
theorem dX3_find_6 : decode cX3_find 6 = .ok (.getfield 9, 3) := by decide +kernel
theorem dX3_find_9 : decode cX3_find 9 = .ok (.if_icmp .ge 24, 3) := by decide +kernel
theorem dX3_find_12 : decode cX3_find 12 = .ok (.aload_n 0, 1) := by decide +kernel
theorem dX3_find_13 : decode cX3_find 13 = .ok (.iload 4, 2) := by decide +kernel
theorem dX3_find_15 : decode cX3_find 15 = .ok (.aload_n 1, 1) := by decide +kernel
theorem dX3_find_16 : decode cX3_find 16 = .ok (.iload_n 2, 1) := by decide +kernel
theorem dX3_find_17 : decode cX3_find 17 = .ok (.iload_n 3, 1) := by decide +kernel
theorem dX3_find_18 : decode cX3_find 18 = .ok (.invokevirtual 36, 3) := by decide +kernel
theorem dX3_find_21 : decode cX3_find 21 = .ok (.ifCond .eq 6, 3) := by decide +kernel
theorem dX3_find_24 : decode cX3_find 24 = .ok (.iload 4, 2) := by decide +kernel
theorem dX3_find_26 : decode cX3_find 26 = .ok (.ireturn, 1) := by decide +kernel
theorem dX3_find_27 : decode cX3_find 27 = .ok (.iinc 4 1, 3) := by decide +kernel
theorem dX3_find_30 : decode cX3_find 30 = .ok (.goto (-27), 3) := by decide +kernel
theorem dX3_find_33 : decode cX3_find 33 = .ok (.aload_n 0, 1) := by decide +kernel
theorem dX3_find_34 : decode cX3_find 34 = .ok (.getfield 9, 3) := by decide +kernel
theorem dX3_find_37 : decode cX3_find 37 = .ok (.ireturn, 1) := by decide +kernel
set_option maxHeartbeats 4000000 in
set_option maxRecDepth 100000 in
theorem l_X3_find_3 {p : Program} {l : Launch} {e : Env} {s : State} {m : MethodId} {args : Array Value} {below : List Frame} {meth : Method} {c : Code} {D : va_G} {cy : Nat → ClassId} {A : Nat → Prop} {Bd : Nat} {xa : Xa} {z : Nat} {ad : Nat → Nat} {N : Nat} {sg : Nat → Int32} {ps : Nat → Int32} {pa : Nat → Nat → Int32} {v2 : Int32} {v3 : Int32} {kx : Unit → Option (Int32)} {out : Int32} (C : CC p s m args meth c cX3_find RX3 5 (some .int) D cy A true Bd xa) (hk : ∀ (uu : Unit), kx uu = some out → TT p l e { frames := 1, cells := 0, slots := 0, locals := 25 } s m args below meth c 5 D A true (some (.int out)) ((z, .inl (cy 2, 120, .inl sg)) :: pC cy ad ps pa) 33 [(0, .ref (ad 12))] [] ((z, .inl (cy 2, 120, .inl sg)) :: pC cy ad ps pa)) {n : Nat} {v4 : Int32} (hf : f_X3_find_L3 N sg ps pa v2 v3 kx n v4 = some out) : TT p l e { frames := 1, cells := 0, slots := 0, locals := 25 } s m args below meth c 5 D A true (some (.int out)) ((z, .inl (cy 2, 120, .inl sg)) :: pC cy ad ps pa) 3 [(0, .ref (ad 12)), (1, .ref z), (2, .int v2), (3, .int v3), (4, .int v4)] [] ((z, .inl (cy 2, 120, .inl sg)) :: pC cy ad ps pa) := by
  induction n generalizing v4 with
  | zero => cases hf
  | succ n ih =>
    rw [f_X3_find_L3] at hf
    refine tt_iload (pc := 3) (k := 4) C dX3_find_3 rfl ?_
    refine tt_aload_n (pc := 5) (k := 0) C dX3_find_5 rfl rfl ?_
    refine tt_get (pc := 6) (ws := ((z, .inl (cy 2, 120, .inl sg)) :: pC cy ad ps pa)) (ci := 3) (v := .int (ps 0)) C fiX3 rfl 1 pS_obj 0 (by decide) q1_38 rfl dX3_find_6 ?_
    refine tt_icmp_ge (pc := 9) (tgt := 33) C dX3_find_9 (by decide) hf (fun hf => ?_) (fun hf => ?_)
    · exact tt_locs [0] rfl (hk () hf)
    · refine tt_aload_n (pc := 12) (k := 0) C dX3_find_12 rfl rfl ?_
      refine tt_iload (pc := 13) (k := 4) C dX3_find_13 rfl ?_
      refine tt_aload_n (pc := 15) (k := 1) C dX3_find_15 rfl rfl ?_
      refine tt_iload_n (pc := 16) (k := 2) C dX3_find_16 rfl rfl ?_
      refine tt_iload_n (pc := 17) (k := 3) C dX3_find_17 rfl rfl ?_
      obtain ⟨r1, hr1, hf⟩ := bind_some hf
      refine tt_callR (pc := 18) (ws := ((z, .inl (cy 2, 120, .inl sg)) :: pC cy ad ps pa)) (q0 := 1) (ci := 3) (rest := []) (st' := [.int r1]) C (k_X3_isNamed hr1) okX3_isNamed q2_210 rfl pS_obj (sub_c List.mem_cons_self (fun _ h => List.mem_cons_of_mem _ h)) rfl rfl rfl (Nat.le_of_ble_eq_true rfl) ⟨Nat.le_of_ble_eq_true rfl, Nat.le_of_ble_eq_true rfl⟩ dX3_find_18 ?_
      refine tt_if_eq (pc := 21) (tgt := 27) C dX3_find_21 (by decide) hf (fun hf => ?_) (fun hf => ?_)
      · refine tt_iinc (pc := 27) (k := 4) (v := (v4 + 1)) (L' := [(4, .int (v4 + 1)), (0, .ref (ad 12)), (1, .ref z), (2, .int v2), (3, .int v3)]) C dX3_find_27 rfl rfl (by decide) rfl ?_
        refine tt_goto (pc := 30) (tgt := 3) C dX3_find_30 (by decide) ?_
        exact tt_locs [1, 2, 3, 4, 0] rfl (ih hf)
      · refine tt_iload (pc := 24) (k := 4) C dX3_find_24 rfl ?_
        obtain rfl := Option.some.inj hf
        exact tt_ireturn (pc := 26) C rfl rfl rfl dX3_find_26
set_option maxHeartbeats 4000000 in
set_option maxRecDepth 100000 in
theorem k_X3_find {l : Launch} {D : va_G} {cy : Nat → ClassId} {Bd : Nat} {xa : Xa} {z : Nat} {ad : Nat → Nat} {N : Nat} {sg : Nat → Int32} {ps : Nat → Int32} {pa : Nat → Nat → Int32} {a2 : Int32} {a3 : Int32} {out : Int32} (hf : f_X3_find N sg ps pa a2 a3 = some out) : KC l yX3_find cX3_find 5 (some .int) 1 25 true D cy Bd xa [.ref (ad 12), .ref z, .int a2, .int a3] ((z, .inl (cy 2, 120, .inl sg)) :: pC cy ad ps pa) (some (.int out)) ((z, .inl (cy 2, 120, .inl sg)) :: pC cy ad ps pa) := by
  refine kc_start (own := RX3) (by decide +kernel) rfl (Nat.le_of_ble_eq_true rfl) ?_
  intro p e s m args below meth c A C
  unfold f_X3_find at hf
  refine tt_locs (L' := [(0, .ref (ad 12)), (1, .ref z), (2, .int a2), (3, .int a3)]) [0, 1, 2, 3] rfl ?_
  refine tt_iconst (pc := 0) (v := (0 : Int32)) C dX3_find_0 (by decide) ?_
  refine tt_istore (pc := 1) (L' := [(4, .int (0 : Int32)), (0, .ref (ad 12)), (1, .ref z), (2, .int a2), (3, .int a3)]) C dX3_find_1 (by decide) rfl ?_
  refine tt_locs (L' := [(0, .ref (ad 12)), (1, .ref z), (2, .int a2), (3, .int a3), (4, .int (0 : Int32))]) [1, 2, 3, 4, 0] rfl (l_X3_find_3 C (fun _ hf => ?_) hf)
  refine tt_aload_n (pc := 33) (k := 0) C dX3_find_33 rfl rfl ?_
  refine tt_get (pc := 34) (ws := ((z, .inl (cy 2, 120, .inl sg)) :: pC cy ad ps pa)) (ci := 3) (v := .int (ps 0)) C fiX3 rfl 1 pS_obj 0 (by decide) q1_38 rfl dX3_find_34 ?_
  obtain rfl := Option.some.inj hf
  exact tt_ireturn (pc := 37) C rfl rfl rfl dX3_find_37
theorem dX3_tell_0 : decode cX3_tell 0 = .ok (.aload_n 0, 1) := by decide +kernel
theorem dX3_tell_1 : decode cX3_tell 1 = .ok (.aload_n 1, 1) := by decide +kernel
theorem dX3_tell_2 : decode cX3_tell 2 = .ok (.iload_n 2, 1) := by decide +kernel
theorem dX3_tell_3 : decode cX3_tell 3 = .ok (.iload_n 3, 1) := by decide +kernel
theorem dX3_tell_4 : decode cX3_tell 4 = .ok (.invokevirtual 32, 3) := by decide +kernel
theorem dX3_tell_7 : decode cX3_tell 7 = .ok (.istore 5, 2) := by decide +kernel
theorem dX3_tell_9 : decode cX3_tell 9 = .ok (.iload 5, 2) := by decide +kernel
theorem dX3_tell_11 : decode cX3_tell 11 = .ok (.aload_n 0, 1) := by decide +kernel
theorem dX3_tell_12 : decode cX3_tell 12 = .ok (.getfield 9, 3) := by decide +kernel
theorem dX3_tell_15 : decode cX3_tell 15 = .ok (.if_icmp .ne 48, 3) := by decide +kernel
theorem dX3_tell_18 : decode cX3_tell 18 = .ok (.aload_n 0, 1) := by decide +kernel
theorem dX3_tell_19 : decode cX3_tell 19 = .ok (.getfield 9, 3) := by decide +kernel
theorem dX3_tell_22 : decode cX3_tell 22 = .ok (.bipush 8, 2) := by decide +kernel
theorem dX3_tell_24 : decode cX3_tell 24 = .ok (.if_icmp .lt 6, 3) := by decide +kernel
theorem dX3_tell_27 : decode cX3_tell 27 = .ok (.bipush (-6), 2) := by decide +kernel
theorem dX3_tell_29 : decode cX3_tell 29 = .ok (.ireturn, 1) := by decide +kernel
theorem dX3_tell_30 : decode cX3_tell 30 = .ok (.aload_n 0, 1) := by decide +kernel
theorem dX3_tell_31 : decode cX3_tell 31 = .ok (.getfield 19, 3) := by decide +kernel
theorem dX3_tell_34 : decode cX3_tell 34 = .ok (.iload 5, 2) := by decide +kernel
theorem dX3_tell_36 : decode cX3_tell 36 = .ok (.iload_n 3, 1) := by decide +kernel
theorem dX3_tell_37 : decode cX3_tell 37 = .ok (.iastore, 1) := by decide +kernel
theorem dX3_tell_38 : decode cX3_tell 38 = .ok (.aload_n 1, 1) := by decide +kernel
theorem dX3_tell_39 : decode cX3_tell 39 = .ok (.iload_n 2, 1) := by decide +kernel
theorem dX3_tell_40 : decode cX3_tell 40 = .ok (.aload_n 0, 1) := by decide +kernel
theorem dX3_tell_41 : decode cX3_tell 41 = .ok (.getfield 22, 3) := by decide +kernel
theorem dX3_tell_44 : decode cX3_tell 44 = .ok (.iload 5, 2) := by decide +kernel
theorem dX3_tell_46 : decode cX3_tell 46 = .ok (.bipush 7, 2) := by decide +kernel
theorem dX3_tell_48 : decode cX3_tell 48 = .ok (.imul, 1) := by decide +kernel
theorem dX3_tell_49 : decode cX3_tell 49 = .ok (.iload_n 3, 1) := by decide +kernel
theorem dX3_tell_50 : decode cX3_tell 50 = .ok (.invokestatic 26, 3) := by decide +kernel
theorem dX3_tell_53 : decode cX3_tell 53 = .ok (.aload_n 0, 1) := by decide +kernel
theorem dX3_tell_54 : decode cX3_tell 54 = .ok (.dup, 1) := by decide +kernel
theorem dX3_tell_55 : decode cX3_tell 55 = .ok (.getfield 9, 3) := by decide +kernel
theorem dX3_tell_58 : decode cX3_tell 58 = .ok (.iconst 1, 1) := by decide +kernel
theorem dX3_tell_59 : decode cX3_tell 59 = .ok (.iadd, 1) := by decide +kernel
theorem dX3_tell_60 : decode cX3_tell 60 = .ok (.putfield 9, 3) := by decide +kernel
theorem dX3_tell_63 : decode cX3_tell 63 = .ok (.aload_n 0, 1) := by decide +kernel
theorem dX3_tell_64 : decode cX3_tell 64 = .ok (.getfield 15, 3) := by decide +kernel
theorem dX3_tell_67 : decode cX3_tell 67 = .ok (.iload 5, 2) := by decide +kernel
theorem dX3_tell_69 : decode cX3_tell 69 = .ok (.iload 4, 2) := by decide +kernel
theorem dX3_tell_71 : decode cX3_tell 71 = .ok (.iastore, 1) := by decide +kernel
theorem dX3_tell_72 : decode cX3_tell 72 = .ok (.iload 5, 2) := by decide +kernel
theorem dX3_tell_74 : decode cX3_tell 74 = .ok (.ireturn, 1) := by decide +kernel
set_option maxHeartbeats 4000000 in
set_option maxRecDepth 100000 in
theorem k_X3_tell {l : Launch} {D : va_G} {cy : Nat → ClassId} {Bd : Nat} {xa : Xa} {z : Nat} {ad : Nat → Nat} {N : Nat} {sg : Nat → Int32} {ps : Nat → Int32} {pa : Nat → Nat → Int32} {a2 : Int32} {a3 : Int32} {a4 : Int32} {out : Int32 × (Nat → Int32) × (Nat → Nat → Int32)} (hf : f_X3_tell N sg ps pa a2 a3 a4 = some out) : KC l yX3_tell cX3_tell 6 (some .int) 2 49 false D cy Bd xa [.ref (ad 12), .ref z, .int a2, .int a3, .int a4] ((z, .inl (cy 2, 120, .inl sg)) :: pC cy ad ps pa) (some (.int out.1)) ((z, .inl (cy 2, 120, .inl sg)) :: pC cy ad out.2.1 out.2.2) := by
  refine kc_start (own := RX3) (by decide +kernel) rfl (Nat.le_of_ble_eq_true rfl) ?_
  intro p e s m args below meth c A C
  unfold f_X3_tell at hf
  refine tt_locs (L' := [(0, .ref (ad 12)), (1, .ref z), (2, .int a2), (3, .int a3), (4, .int a4)]) [0, 1, 2, 3, 4] rfl ?_
  refine tt_aload_n (pc := 0) (k := 0) C dX3_tell_0 rfl rfl ?_
  refine tt_aload_n (pc := 1) (k := 1) C dX3_tell_1 rfl rfl ?_
  refine tt_iload_n (pc := 2) (k := 2) C dX3_tell_2 rfl rfl ?_
  refine tt_iload_n (pc := 3) (k := 3) C dX3_tell_3 rfl rfl ?_
  obtain ⟨r1, hr1, hf⟩ := bind_some hf
  refine tt_callR (pc := 4) (ws := ((z, .inl (cy 2, 120, .inl sg)) :: pC cy ad ps pa)) (q0 := 1) (ci := 3) (rest := []) (st' := [.int r1]) C (k_X3_find hr1) okX3_find q2_206 rfl pS_obj (sub_c List.mem_cons_self (fun _ h => List.mem_cons_of_mem _ h)) rfl rfl rfl (Nat.le_of_ble_eq_true rfl) ⟨Nat.le_of_ble_eq_true rfl, Nat.le_of_ble_eq_true rfl⟩ dX3_tell_4 ?_
  refine tt_istore (pc := 7) (L' := [(5, .int r1), (0, .ref (ad 12)), (1, .ref z), (2, .int a2), (3, .int a3), (4, .int a4)]) C dX3_tell_7 (by decide) rfl ?_
  refine tt_iload (pc := 9) (k := 0) C dX3_tell_9 rfl ?_
  refine tt_aload_n (pc := 11) (k := 1) C dX3_tell_11 rfl rfl ?_
  refine tt_get (pc := 12) (ws := ((z, .inl (cy 2, 120, .inl sg)) :: pC cy ad ps pa)) (ci := 3) (v := .int (ps 0)) C fiX3 rfl 1 pS_obj 0 (by decide) q1_38 rfl dX3_tell_12 ?_
  refine tt_icmp_ne (pc := 15) (tgt := 63) C dX3_tell_15 (by decide) hf (fun hf => ?_) (fun hf => ?_)
  · refine tt_aload_n (pc := 63) (k := 1) C dX3_tell_63 rfl rfl ?_
    refine tt_get (pc := 64) (ws := ((z, .inl (cy 2, 120, .inl sg)) :: pC cy ad ps pa)) (ci := 3) (v := .ref (ad 21)) C fiX3 rfl 1 pS_obj 1 (by decide) q1_40 rfl dX3_tell_64 ?_
    refine tt_iload (pc := 67) (k := 0) C dX3_tell_67 rfl ?_
    refine tt_iload (pc := 69) (k := 5) C dX3_tell_69 rfl ?_
    refine tt_iastore (pc := 71) (ws := ((z, .inl (cy 2, 120, .inl sg)) :: pC cy ad ps pa)) (n := 8) (f := (pa 1)) (ws' := ((z, .inl (cy 2, 120, .inl sg)) :: pC cy ad ps (va_up pa 1 (upd (pa 1) (ix r1) a4)))) C rfl 2 0 pS_get1 rfl hf dX3_tell_71 pS_set1 (fun hf => ?_)
    refine tt_iload (pc := 72) (k := 0) C dX3_tell_72 rfl ?_
    obtain rfl := Option.some.inj hf
    exact tt_ireturn (pc := 74) C rfl rfl rfl dX3_tell_74
  · refine tt_aload_n (pc := 18) (k := 1) C dX3_tell_18 rfl rfl ?_
    refine tt_get (pc := 19) (ws := ((z, .inl (cy 2, 120, .inl sg)) :: pC cy ad ps pa)) (ci := 3) (v := .int (ps 0)) C fiX3 rfl 1 pS_obj 0 (by decide) q1_38 rfl dX3_tell_19 ?_
    refine tt_bipush (pc := 22) (v := (8 : Int32)) C dX3_tell_22 (by decide) ?_
    refine tt_icmp_lt (pc := 24) (tgt := 30) C dX3_tell_24 (by decide) hf (fun hf => ?_) (fun hf => ?_)
    · refine tt_aload_n (pc := 30) (k := 1) C dX3_tell_30 rfl rfl ?_
      refine tt_get (pc := 31) (ws := ((z, .inl (cy 2, 120, .inl sg)) :: pC cy ad ps pa)) (ci := 3) (v := .ref (ad 22)) C fiX3 rfl 1 pS_obj 2 (by decide) q1_42 rfl dX3_tell_31 ?_
      refine tt_iload (pc := 34) (k := 0) C dX3_tell_34 rfl ?_
      refine tt_iload_n (pc := 36) (k := 4) C dX3_tell_36 rfl rfl ?_
      refine tt_iastore (pc := 37) (ws := ((z, .inl (cy 2, 120, .inl sg)) :: pC cy ad ps pa)) (n := 8) (f := (pa 2)) (ws' := ((z, .inl (cy 2, 120, .inl sg)) :: pC cy ad ps (va_up pa 2 (upd (pa 2) (ix r1) a3)))) C rfl 3 0 pS_get2 rfl hf dX3_tell_37 pS_set2 (fun hf => ?_)
      refine tt_aload_n (pc := 38) (k := 2) C dX3_tell_38 rfl rfl ?_
      refine tt_iload_n (pc := 39) (k := 3) C dX3_tell_39 rfl rfl ?_
      refine tt_aload_n (pc := 40) (k := 1) C dX3_tell_40 rfl rfl ?_
      refine tt_get (pc := 41) (ws := ((z, .inl (cy 2, 120, .inl sg)) :: pC cy ad ps (va_up pa 2 (upd (pa 2) (ix r1) a3)))) (ci := 3) (v := .ref (ad 23)) C fiX3 rfl 1 pS_obj 3 (by decide) q1_44 rfl dX3_tell_41 ?_
      refine tt_iload (pc := 44) (k := 0) C dX3_tell_44 rfl ?_
      refine tt_bipush (pc := 46) (v := (7 : Int32)) C dX3_tell_46 (by decide) ?_
      refine tt_imul (pc := 48) C dX3_tell_48 ?_
      refine tt_iload_n (pc := 49) (k := 4) C dX3_tell_49 rfl rfl ?_
      refine tt_copyC (pc := 50) (ws := ((z, .inl (cy 2, 120, .inl sg)) :: pC cy ad ps (va_up pa 2 (upd (pa 2) (ix r1) a3)))) (n0 := 120) (n1 := 56) (f := sg) (g := (pa 3)) (ws' := ((z, .inl (cy 2, 120, .inl sg)) :: pC cy ad ps (va_up (va_up pa 2 (upd (pa 2) (ix r1) a3)) 3 (va_cpy sg (pa 3) (ix a2) (ix (r1 * (7 : Int32))) (ix a3))))) C rfl q2_142 q2_133 q2_132 q1_13 0 4 pS_getS pS_get3 hf (Nat.le_of_ble_eq_true rfl) (Nat.le_of_ble_eq_true rfl) dX3_tell_50 pS_set3 (fun hf => ?_)
      refine tt_aload_n (pc := 53) (k := 1) C dX3_tell_53 rfl rfl ?_
      refine tt_dup (pc := 54) C dX3_tell_54 rfl ?_
      refine tt_get (pc := 55) (ws := ((z, .inl (cy 2, 120, .inl sg)) :: pC cy ad ps (va_up (va_up pa 2 (upd (pa 2) (ix r1) a3)) 3 (va_cpy sg (pa 3) (ix a2) (ix (r1 * (7 : Int32))) (ix a3))))) (ci := 3) (v := .int (ps 0)) C fiX3 rfl 1 pS_obj 0 (by decide) q1_38 rfl dX3_tell_55 ?_
      refine tt_iconst (pc := 58) (v := (1 : Int32)) C dX3_tell_58 (by decide) ?_
      refine tt_iadd (pc := 59) C dX3_tell_59 ?_
      refine tt_put (pc := 60) (ws := ((z, .inl (cy 2, 120, .inl sg)) :: pC cy ad ps (va_up (va_up pa 2 (upd (pa 2) (ix r1) a3)) 3 (va_cpy sg (pa 3) (ix a2) (ix (r1 * (7 : Int32))) (ix a3))))) (ci := 3) (ty := .int) (ws' := ((z, .inl (cy 2, 120, .inl sg)) :: pC cy ad (upd ps 0 ((ps 0) + (1 : Int32))) (va_up (va_up pa 2 (upd (pa 2) (ix r1) a3)) 3 (va_cpy sg (pa 3) (ix a2) (ix (r1 * (7 : Int32))) (ix a3))))) C rfl fiX3 rfl 1 pS_obj 0 (by decide) q1_38 rfl rfl rfl rfl (Nat.le_of_ble_eq_true rfl) dX3_tell_60 pS_put0 ?_
      refine tt_aload_n (pc := 63) (k := 1) C dX3_tell_63 rfl rfl ?_
      refine tt_get (pc := 64) (ws := ((z, .inl (cy 2, 120, .inl sg)) :: pC cy ad (upd ps 0 ((ps 0) + (1 : Int32))) (va_up (va_up pa 2 (upd (pa 2) (ix r1) a3)) 3 (va_cpy sg (pa 3) (ix a2) (ix (r1 * (7 : Int32))) (ix a3))))) (ci := 3) (v := .ref (ad 21)) C fiX3 rfl 1 pS_obj 1 (by decide) q1_40 rfl dX3_tell_64 ?_
      refine tt_iload (pc := 67) (k := 0) C dX3_tell_67 rfl ?_
      refine tt_iload (pc := 69) (k := 5) C dX3_tell_69 rfl ?_
      refine tt_iastore (pc := 71) (ws := ((z, .inl (cy 2, 120, .inl sg)) :: pC cy ad (upd ps 0 ((ps 0) + (1 : Int32))) (va_up (va_up pa 2 (upd (pa 2) (ix r1) a3)) 3 (va_cpy sg (pa 3) (ix a2) (ix (r1 * (7 : Int32))) (ix a3))))) (n := 8) (f := (pa 1)) (ws' := ((z, .inl (cy 2, 120, .inl sg)) :: pC cy ad (upd ps 0 ((ps 0) + (1 : Int32))) (va_up (va_up (va_up pa 2 (upd (pa 2) (ix r1) a3)) 3 (va_cpy sg (pa 3) (ix a2) (ix (r1 * (7 : Int32))) (ix a3))) 1 (upd (pa 1) (ix r1) a4)))) C rfl 2 0 pS_get1 rfl hf dX3_tell_71 pS_set1 (fun hf => ?_)
      refine tt_iload (pc := 72) (k := 0) C dX3_tell_72 rfl ?_
      obtain rfl := Option.some.inj hf
      exact tt_ireturn (pc := 74) C rfl rfl rfl dX3_tell_74
    · refine tt_bipush (pc := 27) (v := (-6 : Int32)) C dX3_tell_27 (by decide) ?_
      obtain rfl := Option.some.inj hf
      exact tt_ireturn (pc := 29) C rfl rfl rfl dX3_tell_29
theorem dX0_sayPlace_0 : decode cX0_sayPlace 0 = .ok (.aload_n 1, 1) := by decide +kernel
theorem dX0_sayPlace_1 : decode cX0_sayPlace 1 = .ok (.aload_n 0, 1) := by decide +kernel
theorem dX0_sayPlace_2 : decode cX0_sayPlace 2 = .ok (.getfield 31, 3) := by decide +kernel
theorem dX0_sayPlace_5 : decode cX0_sayPlace 5 = .ok (.iconst 0, 1) := by decide +kernel
theorem dX0_sayPlace_6 : decode cX0_sayPlace 6 = .ok (.iaload, 1) := by decide +kernel
theorem dX0_sayPlace_7 : decode cX0_sayPlace 7 = .ok (.invokevirtual 123, 3) := by decide +kernel
theorem dX0_sayPlace_10 : decode cX0_sayPlace 10 = .ok (.ifCond .ne 5, 3) := by decide +kernel
theorem dX0_sayPlace_13 : decode cX0_sayPlace 13 = .ok (.iconst (-1), 1) := by decide +kernel
theorem dX0_sayPlace_14 : decode cX0_sayPlace 14 = .ok (.ireturn, 1) := by decide +kernel
theorem dX0_sayPlace_15 : decode cX0_sayPlace 15 = .ok (.aload_n 1, 1) := by decide +kernel
theorem dX0_sayPlace_16 : decode cX0_sayPlace 16 = .ok (.getfield 126, 3) := by decide +kernel
theorem dX0_sayPlace_19 : decode cX0_sayPlace 19 = .ok (.aload_n 0, 1) := by decide +kernel
theorem dX0_sayPlace_20 : decode cX0_sayPlace 20 = .ok (.getfield 18, 3) := by decide +kernel
theorem dX0_sayPlace_23 : decode cX0_sayPlace 23 = .ok (.aload_n 0, 1) := by decide +kernel
theorem dX0_sayPlace_24 : decode cX0_sayPlace 24 = .ok (.getfield 25, 3) := by decide +kernel
theorem dX0_sayPlace_27 : decode cX0_sayPlace 27 = .ok (.aload_n 0, 1) := by decide +kernel
theorem dX0_sayPlace_28 : decode cX0_sayPlace 28 = .ok (.getfield 28, 3) := by decide +kernel
theorem dX0_sayPlace_31 : decode cX0_sayPlace 31 = .ok (.aload_n 0, 1) := by decide +kernel
theorem dX0_sayPlace_32 : decode cX0_sayPlace 32 = .ok (.getfield 31, 3) := by decide +kernel
theorem dX0_sayPlace_35 : decode cX0_sayPlace 35 = .ok (.iconst 0, 1) := by decide +kernel
theorem dX0_sayPlace_36 : decode cX0_sayPlace 36 = .ok (.iaload, 1) := by decide +kernel
theorem dX0_sayPlace_37 : decode cX0_sayPlace 37 = .ok (.invokevirtual 130, 3) := by decide +kernel
theorem dX0_sayPlace_40 : decode cX0_sayPlace 40 = .ok (.ireturn, 1) := by decide +kernel
set_option maxHeartbeats 4000000 in
set_option maxRecDepth 100000 in
theorem k_X0_sayPlace {l : Launch} {D : va_G} {cy : Nat → ClassId} {Bd : Nat} {xa : Xa} {ed ad : Nat → Nat} {N : Nat} {es : Nat → Int32} {ea : Nat → Nat → Int32} {sc : Nat → Int32} {ar : Nat → Nat → Int32} {tr : Nat → Nat → Int32} {ps : Nat → Int32} {pa : Nat → Nat → Int32} {out : Int32 × (Nat → Int32) × (Nat → Nat → Int32)} (hf : f_X0_sayPlace N es ea sc ps pa = some out) : KC l yX0_sayPlace cX0_sayPlace 2 (some .int) 3 74 false D cy Bd xa [.ref (ed 0), .ref (ad 0)] (eC cy ed es ea ++ lC cy ad sc ar tr ps pa) (some (.int out.1)) (eC cy ed es ea ++ lC cy ad sc ar tr out.2.1 out.2.2) := by
  refine kc_start (own := RX0) (by decide +kernel) rfl (Nat.le_of_ble_eq_true rfl) ?_
  intro p e s m args below meth c A C
  unfold f_X0_sayPlace at hf
  refine tt_locs (L' := [(0, .ref (ed 0)), (1, .ref (ad 0))]) [0, 1] rfl ?_
  refine tt_aload_n (pc := 0) (k := 1) C dX0_sayPlace_0 rfl rfl ?_
  refine tt_aload_n (pc := 1) (k := 0) C dX0_sayPlace_1 rfl rfl ?_
  refine tt_get (pc := 2) (ws := (eC cy ed es ea ++ lC cy ad sc ar tr ps pa)) (ci := 0) (v := .ref (ed 6)) C fiX0 rfl 0 rfl 6 (by decide) q1_154 rfl dX0_sayPlace_2 ?_
  refine tt_iconst (pc := 5) (v := (0 : Int32)) C dX0_sayPlace_5 (by decide) ?_
  refine tt_iaload (pc := 6) (ws := (eC cy ed es ea ++ lC cy ad sc ar tr ps pa)) (n := 4) (f := (ea 6)) C 2 0 rfl rfl hf dX0_sayPlace_6 (fun hf => ?_)
  obtain ⟨r1, hr1, hf⟩ := bind_some hf
  refine tt_callR (pc := 7) (ws := (eC cy ed es ea ++ lC cy ad sc ar tr ps pa)) (q0 := 3) (ci := 1) (rest := []) (st' := [.int r1]) C (k_X1_hasCell hr1) okX1_hasCell q2_201 rfl rfl (fun _ h => List.mem_append_right _ h) rfl rfl rfl (Nat.le_of_ble_eq_true rfl) ⟨Nat.le_of_ble_eq_true rfl, Nat.le_of_ble_eq_true rfl⟩ dX0_sayPlace_7 ?_
  refine tt_if_ne (pc := 10) (tgt := 15) C dX0_sayPlace_10 (by decide) hf (fun hf => ?_) (fun hf => ?_)
  · refine tt_aload_n (pc := 15) (k := 1) C dX0_sayPlace_15 rfl rfl ?_
    refine tt_get (pc := 16) (ws := (eC cy ed es ea ++ lC cy ad sc ar tr ps pa)) (ci := 1) (v := .ref (ad 12)) C fiX1 rfl 3 rfl 12 (by decide) q1_111 rfl dX0_sayPlace_16 ?_
    refine tt_aload_n (pc := 19) (k := 0) C dX0_sayPlace_19 rfl rfl ?_
    refine tt_get (pc := 20) (ws := (eC cy ed es ea ++ lC cy ad sc ar tr ps pa)) (ci := 0) (v := .ref (ed 2)) C fiX0 rfl 0 rfl 2 (by decide) q1_150 rfl dX0_sayPlace_20 ?_
    refine tt_aload_n (pc := 23) (k := 0) C dX0_sayPlace_23 rfl rfl ?_
    refine tt_get (pc := 24) (ws := (eC cy ed es ea ++ lC cy ad sc ar tr ps pa)) (ci := 0) (v := .int (es 4)) C fiX0 rfl 0 rfl 4 (by decide) q1_152 rfl dX0_sayPlace_24 ?_
    refine tt_aload_n (pc := 27) (k := 0) C dX0_sayPlace_27 rfl rfl ?_
    refine tt_get (pc := 28) (ws := (eC cy ed es ea ++ lC cy ad sc ar tr ps pa)) (ci := 0) (v := .int (es 5)) C fiX0 rfl 0 rfl 5 (by decide) q1_153 rfl dX0_sayPlace_28 ?_
    refine tt_aload_n (pc := 31) (k := 0) C dX0_sayPlace_31 rfl rfl ?_
    refine tt_get (pc := 32) (ws := (eC cy ed es ea ++ lC cy ad sc ar tr ps pa)) (ci := 0) (v := .ref (ed 6)) C fiX0 rfl 0 rfl 6 (by decide) q1_154 rfl dX0_sayPlace_32 ?_
    refine tt_iconst (pc := 35) (v := (0 : Int32)) C dX0_sayPlace_35 (by decide) ?_
    refine tt_iaload (pc := 36) (ws := (eC cy ed es ea ++ lC cy ad sc ar tr ps pa)) (n := 4) (f := (ea 6)) C 2 0 rfl rfl hf dX0_sayPlace_36 (fun hf => ?_)
    obtain ⟨r2, hr2, hf⟩ := bind_some hf
    refine tt_perm el_permA ?_
    refine tt_callG (pc := 37) (q0 := 1) (ci := 3) (rest := []) (st' := [.int r2.1]) C rfl (k_X3_tell hr2) okX3_tell q2_202 rfl rfl [] _ rfl rfl rfl rfl rfl (Nat.le_of_ble_eq_true rfl) ⟨Nat.le_of_ble_eq_true rfl, Nat.le_of_ble_eq_true rfl⟩ dX0_sayPlace_37 ?_
    refine tt_perm (ws2 := (eC cy ed es ea ++ lC cy ad sc ar tr r2.2.1 r2.2.2)) el_permB ?_
    obtain rfl := Option.some.inj hf
    exact tt_ireturn (pc := 40) C rfl rfl rfl dX0_sayPlace_40
  · refine tt_iconst (pc := 13) (v := (-1 : Int32)) C dX0_sayPlace_13 (by decide) ?_
    obtain rfl := Option.some.inj hf
    exact tt_ireturn (pc := 14) C rfl rfl rfl dX0_sayPlace_14
theorem dX0_sayTo_0 : decode cX0_sayTo 0 = .ok (.aload_n 0, 1) := by decide +kernel
theorem dX0_sayTo_1 : decode cX0_sayTo 1 = .ok (.getfield 22, 3) := by decide +kernel
theorem dX0_sayTo_4 : decode cX0_sayTo 4 = .ok (.tableswitch 148 0 5 #[40, 57, 80, 97, 126, 137], 40) := by decide +kernel
theorem dX0_sayTo_44 : decode cX0_sayTo 44 = .ok (.aload_n 1, 1) := by decide +kernel
theorem dX0_sayTo_45 : decode cX0_sayTo 45 = .ok (.aload_n 0, 1) := by decide +kernel
theorem dX0_sayTo_46 : decode cX0_sayTo 46 = .ok (.getfield 31, 3) := by decide +kernel
theorem dX0_sayTo_49 : decode cX0_sayTo 49 = .ok (.iconst 0, 1) := by decide +kernel
theorem dX0_sayTo_50 : decode cX0_sayTo 50 = .ok (.iaload, 1) := by decide +kernel
theorem dX0_sayTo_51 : decode cX0_sayTo 51 = .ok (.aload_n 0, 1) := by decide +kernel
theorem dX0_sayTo_52 : decode cX0_sayTo 52 = .ok (.getfield 31, 3) := by decide +kernel
theorem dX0_sayTo_55 : decode cX0_sayTo 55 = .ok (.iconst 1, 1) := by decide +kernel
theorem dX0_sayTo_56 : decode cX0_sayTo 56 = .ok (.iaload, 1) := by decide +kernel
theorem dX0_sayTo_57 : decode cX0_sayTo 57 = .ok (.invokevirtual 95, 3) := by decide +kernel
theorem dX0_sayTo_60 : decode cX0_sayTo 60 = .ok (.ireturn, 1) := by decide +kernel
theorem dX0_sayTo_61 : decode cX0_sayTo 61 = .ok (.aload_n 1, 1) := by decide +kernel
theorem dX0_sayTo_62 : decode cX0_sayTo 62 = .ok (.aload_n 0, 1) := by decide +kernel
theorem dX0_sayTo_63 : decode cX0_sayTo 63 = .ok (.getfield 31, 3) := by decide +kernel
theorem dX0_sayTo_66 : decode cX0_sayTo 66 = .ok (.iconst 0, 1) := by decide +kernel
theorem dX0_sayTo_67 : decode cX0_sayTo 67 = .ok (.iaload, 1) := by decide +kernel
theorem dX0_sayTo_68 : decode cX0_sayTo 68 = .ok (.aload_n 0, 1) := by decide +kernel
theorem dX0_sayTo_69 : decode cX0_sayTo 69 = .ok (.getfield 31, 3) := by decide +kernel
theorem dX0_sayTo_72 : decode cX0_sayTo 72 = .ok (.iconst 1, 1) := by decide +kernel
theorem dX0_sayTo_73 : decode cX0_sayTo 73 = .ok (.iaload, 1) := by decide +kernel
theorem dX0_sayTo_74 : decode cX0_sayTo 74 = .ok (.aload_n 0, 1) := by decide +kernel
theorem dX0_sayTo_75 : decode cX0_sayTo 75 = .ok (.getfield 31, 3) := by decide +kernel
theorem dX0_sayTo_78 : decode cX0_sayTo 78 = .ok (.iconst 2, 1) := by decide +kernel
theorem dX0_sayTo_79 : decode cX0_sayTo 79 = .ok (.iaload, 1) := by decide +kernel
theorem dX0_sayTo_80 : decode cX0_sayTo 80 = .ok (.invokevirtual 101, 3) := by decide +kernel
theorem dX0_sayTo_83 : decode cX0_sayTo 83 = .ok (.ireturn, 1) := by decide +kernel
theorem dX0_sayTo_84 : decode cX0_sayTo 84 = .ok (.aload_n 1, 1) := by decide +kernel
theorem dX0_sayTo_85 : decode cX0_sayTo 85 = .ok (.aload_n 0, 1) := by decide +kernel
theorem dX0_sayTo_86 : decode cX0_sayTo 86 = .ok (.getfield 31, 3) := by decide +kernel
theorem dX0_sayTo_89 : decode cX0_sayTo 89 = .ok (.iconst 0, 1) := by decide +kernel
theorem dX0_sayTo_90 : decode cX0_sayTo 90 = .ok (.iaload, 1) := by decide +kernel
theorem dX0_sayTo_91 : decode cX0_sayTo 91 = .ok (.aload_n 0, 1) := by decide +kernel
theorem dX0_sayTo_92 : decode cX0_sayTo 92 = .ok (.getfield 31, 3) := by decide +kernel
theorem dX0_sayTo_95 : decode cX0_sayTo 95 = .ok (.iconst 1, 1) := by decide +kernel
theorem dX0_sayTo_96 : decode cX0_sayTo 96 = .ok (.iaload, 1) := by decide +kernel
theorem dX0_sayTo_97 : decode cX0_sayTo 97 = .ok (.invokevirtual 105, 3) := by decide +kernel
theorem dX0_sayTo_100 : decode cX0_sayTo 100 = .ok (.ireturn, 1) := by decide +kernel
theorem dX0_sayTo_101 : decode cX0_sayTo 101 = .ok (.aload_n 1, 1) := by decide +kernel
theorem dX0_sayTo_102 : decode cX0_sayTo 102 = .ok (.aload_n 0, 1) := by decide +kernel
theorem dX0_sayTo_103 : decode cX0_sayTo 103 = .ok (.getfield 31, 3) := by decide +kernel
theorem dX0_sayTo_106 : decode cX0_sayTo 106 = .ok (.iconst 0, 1) := by decide +kernel
theorem dX0_sayTo_107 : decode cX0_sayTo 107 = .ok (.iaload, 1) := by decide +kernel
theorem dX0_sayTo_108 : decode cX0_sayTo 108 = .ok (.aload_n 0, 1) := by decide +kernel
theorem dX0_sayTo_109 : decode cX0_sayTo 109 = .ok (.getfield 31, 3) := by decide +kernel
theorem dX0_sayTo_112 : decode cX0_sayTo 112 = .ok (.iconst 1, 1) := by decide +kernel
theorem dX0_sayTo_113 : decode cX0_sayTo 113 = .ok (.iaload, 1) := by decide +kernel
theorem dX0_sayTo_114 : decode cX0_sayTo 114 = .ok (.aload_n 0, 1) := by decide +kernel
theorem dX0_sayTo_115 : decode cX0_sayTo 115 = .ok (.getfield 31, 3) := by decide +kernel
theorem dX0_sayTo_118 : decode cX0_sayTo 118 = .ok (.iconst 2, 1) := by decide +kernel
theorem dX0_sayTo_119 : decode cX0_sayTo 119 = .ok (.iaload, 1) := by decide +kernel
theorem dX0_sayTo_120 : decode cX0_sayTo 120 = .ok (.aload_n 0, 1) := by decide +kernel
theorem dX0_sayTo_121 : decode cX0_sayTo 121 = .ok (.getfield 31, 3) := by decide +kernel
theorem dX0_sayTo_124 : decode cX0_sayTo 124 = .ok (.iconst 3, 1) := by decide +kernel
theorem dX0_sayTo_125 : decode cX0_sayTo 125 = .ok (.iaload, 1) := by decide +kernel
theorem dX0_sayTo_126 : decode cX0_sayTo 126 = .ok (.invokevirtual 108, 3) := by decide +kernel
theorem dX0_sayTo_129 : decode cX0_sayTo 129 = .ok (.ireturn, 1) := by decide +kernel
theorem dX0_sayTo_130 : decode cX0_sayTo 130 = .ok (.aload_n 1, 1) := by decide +kernel
theorem dX0_sayTo_131 : decode cX0_sayTo 131 = .ok (.aload_n 0, 1) := by decide +kernel
theorem dX0_sayTo_132 : decode cX0_sayTo 132 = .ok (.getfield 31, 3) := by decide +kernel
theorem dX0_sayTo_135 : decode cX0_sayTo 135 = .ok (.iconst 0, 1) := by decide +kernel
theorem dX0_sayTo_136 : decode cX0_sayTo 136 = .ok (.iaload, 1) := by decide +kernel
theorem dX0_sayTo_137 : decode cX0_sayTo 137 = .ok (.invokevirtual 112, 3) := by decide +kernel
theorem dX0_sayTo_140 : decode cX0_sayTo 140 = .ok (.ireturn, 1) := by decide +kernel
theorem dX0_sayTo_141 : decode cX0_sayTo 141 = .ok (.aload_n 1, 1) := by decide +kernel
theorem dX0_sayTo_142 : decode cX0_sayTo 142 = .ok (.aload_n 0, 1) := by decide +kernel
theorem dX0_sayTo_143 : decode cX0_sayTo 143 = .ok (.getfield 31, 3) := by decide +kernel
theorem dX0_sayTo_146 : decode cX0_sayTo 146 = .ok (.iconst 0, 1) := by decide +kernel
theorem dX0_sayTo_147 : decode cX0_sayTo 147 = .ok (.iaload, 1) := by decide +kernel
theorem dX0_sayTo_148 : decode cX0_sayTo 148 = .ok (.invokevirtual 116, 3) := by decide +kernel
theorem dX0_sayTo_151 : decode cX0_sayTo 151 = .ok (.ireturn, 1) := by decide +kernel
theorem dX0_sayTo_152 : decode cX0_sayTo 152 = .ok (.aload_n 0, 1) := by decide +kernel
theorem dX0_sayTo_153 : decode cX0_sayTo 153 = .ok (.aload_n 1, 1) := by decide +kernel
theorem dX0_sayTo_154 : decode cX0_sayTo 154 = .ok (.invokevirtual 119, 3) := by decide +kernel
theorem dX0_sayTo_157 : decode cX0_sayTo 157 = .ok (.ireturn, 1) := by decide +kernel
set_option maxHeartbeats 4000000 in
set_option maxRecDepth 100000 in
theorem k_X0_sayTo {l : Launch} {D : va_G} {cy : Nat → ClassId} {Bd : Nat} {xa : Xa} {ed ad : Nat → Nat} {N : Nat} {es : Nat → Int32} {ea : Nat → Nat → Int32} {sc : Nat → Int32} {ar : Nat → Nat → Int32} {tr : Nat → Nat → Int32} {ps : Nat → Int32} {pa : Nat → Nat → Int32} {out : Int32 × (Nat → Int32) × (Nat → Nat → Int32) × (Nat → Nat → Int32) × (Nat → Int32) × (Nat → Nat → Int32)} (hf : f_X0_sayTo N es ea sc ar tr ps pa = some out) : KC l yX0_sayTo cX0_sayTo 2 (some .int) 4 95 false D cy Bd xa [.ref (ed 0), .ref (ad 0)] (eC cy ed es ea ++ lC cy ad sc ar tr ps pa) (some (.int out.1)) (eC cy ed es ea ++ lC cy ad out.2.1 out.2.2.1 out.2.2.2.1 out.2.2.2.2.1 out.2.2.2.2.2) := by
  refine kc_start (own := RX0) (by decide +kernel) rfl (Nat.le_of_ble_eq_true rfl) ?_
  intro p e s m args below meth c A C
  unfold f_X0_sayTo at hf
  refine tt_locs (L' := [(0, .ref (ed 0)), (1, .ref (ad 0))]) [0, 1] rfl ?_
  refine tt_aload_n (pc := 0) (k := 0) C dX0_sayTo_0 rfl rfl ?_
  refine tt_get (pc := 1) (ws := (eC cy ed es ea ++ lC cy ad sc ar tr ps pa)) (ci := 0) (v := .int (es 3)) C fiX0 rfl 0 rfl 3 (by decide) q1_151 rfl dX0_sayTo_1 ?_
  refine sw_eq (x := (es 3)) (k := 0) hf (fun hx hf => ?_) (fun n0 hf => ?_)
  · rw [hx]
    refine tt_tabIn (pc := 4) (tgt := 44) (x := 0) C dX0_sayTo_4 (by decide) (by decide) rfl (by decide) ?_
    refine tt_aload_n (pc := 44) (k := 1) C dX0_sayTo_44 rfl rfl ?_
    refine tt_aload_n (pc := 45) (k := 0) C dX0_sayTo_45 rfl rfl ?_
    refine tt_get (pc := 46) (ws := (eC cy ed es ea ++ lC cy ad sc ar tr ps pa)) (ci := 0) (v := .ref (ed 6)) C fiX0 rfl 0 rfl 6 (by decide) q1_154 rfl dX0_sayTo_46 ?_
    refine tt_iconst (pc := 49) (v := (0 : Int32)) C dX0_sayTo_49 (by decide) ?_
    refine tt_iaload (pc := 50) (ws := (eC cy ed es ea ++ lC cy ad sc ar tr ps pa)) (n := 4) (f := (ea 6)) C 2 0 rfl rfl hf dX0_sayTo_50 (fun hf => ?_)
    refine tt_aload_n (pc := 51) (k := 0) C dX0_sayTo_51 rfl rfl ?_
    refine tt_get (pc := 52) (ws := (eC cy ed es ea ++ lC cy ad sc ar tr ps pa)) (ci := 0) (v := .ref (ed 6)) C fiX0 rfl 0 rfl 6 (by decide) q1_154 rfl dX0_sayTo_52 ?_
    refine tt_iconst (pc := 55) (v := (1 : Int32)) C dX0_sayTo_55 (by decide) ?_
    refine tt_iaload (pc := 56) (ws := (eC cy ed es ea ++ lC cy ad sc ar tr ps pa)) (n := 4) (f := (ea 6)) C 2 0 rfl rfl hf dX0_sayTo_56 (fun hf => ?_)
    obtain ⟨r2, hr2, hf⟩ := bind_some hf
    refine tt_callG (pc := 57) (ws := (eC cy ed es ea ++ lC cy ad sc ar tr ps pa)) (ws' := (eC cy ed es ea ++ lC cy ad sc r2.2 tr ps pa)) (q0 := 3) (ci := 1) (rest := []) (st' := [.int r2.1]) C rfl (k_X1_setGround hr2) okX1_setGround q2_153 rfl rfl (eC cy ed es ea) [] (by rw [List.append_nil]) (by rw [List.append_nil]) rfl rfl rfl (Nat.le_of_ble_eq_true rfl) ⟨Nat.le_of_ble_eq_true rfl, Nat.le_of_ble_eq_true rfl⟩ dX0_sayTo_57 ?_
    obtain rfl := Option.some.inj hf
    exact tt_ireturn (pc := 60) C rfl rfl rfl dX0_sayTo_60
  · refine sw_eq (x := (es 3)) (k := 1) hf (fun hx hf => ?_) (fun n1 hf => ?_)
    · rw [hx]
      refine tt_tabIn (pc := 4) (tgt := 61) (x := 1) C dX0_sayTo_4 (by decide) (by decide) rfl (by decide) ?_
      refine tt_aload_n (pc := 61) (k := 1) C dX0_sayTo_61 rfl rfl ?_
      refine tt_aload_n (pc := 62) (k := 0) C dX0_sayTo_62 rfl rfl ?_
      refine tt_get (pc := 63) (ws := (eC cy ed es ea ++ lC cy ad sc ar tr ps pa)) (ci := 0) (v := .ref (ed 6)) C fiX0 rfl 0 rfl 6 (by decide) q1_154 rfl dX0_sayTo_63 ?_
      refine tt_iconst (pc := 66) (v := (0 : Int32)) C dX0_sayTo_66 (by decide) ?_
      refine tt_iaload (pc := 67) (ws := (eC cy ed es ea ++ lC cy ad sc ar tr ps pa)) (n := 4) (f := (ea 6)) C 2 0 rfl rfl hf dX0_sayTo_67 (fun hf => ?_)
      refine tt_aload_n (pc := 68) (k := 0) C dX0_sayTo_68 rfl rfl ?_
      refine tt_get (pc := 69) (ws := (eC cy ed es ea ++ lC cy ad sc ar tr ps pa)) (ci := 0) (v := .ref (ed 6)) C fiX0 rfl 0 rfl 6 (by decide) q1_154 rfl dX0_sayTo_69 ?_
      refine tt_iconst (pc := 72) (v := (1 : Int32)) C dX0_sayTo_72 (by decide) ?_
      refine tt_iaload (pc := 73) (ws := (eC cy ed es ea ++ lC cy ad sc ar tr ps pa)) (n := 4) (f := (ea 6)) C 2 0 rfl rfl hf dX0_sayTo_73 (fun hf => ?_)
      refine tt_aload_n (pc := 74) (k := 0) C dX0_sayTo_74 rfl rfl ?_
      refine tt_get (pc := 75) (ws := (eC cy ed es ea ++ lC cy ad sc ar tr ps pa)) (ci := 0) (v := .ref (ed 6)) C fiX0 rfl 0 rfl 6 (by decide) q1_154 rfl dX0_sayTo_75 ?_
      refine tt_iconst (pc := 78) (v := (2 : Int32)) C dX0_sayTo_78 (by decide) ?_
      refine tt_iaload (pc := 79) (ws := (eC cy ed es ea ++ lC cy ad sc ar tr ps pa)) (n := 4) (f := (ea 6)) C 2 0 rfl rfl hf dX0_sayTo_79 (fun hf => ?_)
      obtain ⟨r3, hr3, hf⟩ := bind_some hf
      refine tt_callG (pc := 80) (ws := (eC cy ed es ea ++ lC cy ad sc ar tr ps pa)) (ws' := (eC cy ed es ea ++ lC cy ad r3.2.1 r3.2.2 tr ps pa)) (q0 := 3) (ci := 1) (rest := []) (st' := [.int r3.1]) C rfl (k_X1_addBridge hr3) okX1_addBridge q2_161 rfl rfl (eC cy ed es ea) [] (by rw [List.append_nil]) (by rw [List.append_nil]) rfl rfl rfl (Nat.le_of_ble_eq_true rfl) ⟨Nat.le_of_ble_eq_true rfl, Nat.le_of_ble_eq_true rfl⟩ dX0_sayTo_80 ?_
      obtain rfl := Option.some.inj hf
      exact tt_ireturn (pc := 83) C rfl rfl rfl dX0_sayTo_83
    · refine sw_eq (x := (es 3)) (k := 2) hf (fun hx hf => ?_) (fun n2 hf => ?_)
      · rw [hx]
        refine tt_tabIn (pc := 4) (tgt := 84) (x := 2) C dX0_sayTo_4 (by decide) (by decide) rfl (by decide) ?_
        refine tt_aload_n (pc := 84) (k := 1) C dX0_sayTo_84 rfl rfl ?_
        refine tt_aload_n (pc := 85) (k := 0) C dX0_sayTo_85 rfl rfl ?_
        refine tt_get (pc := 86) (ws := (eC cy ed es ea ++ lC cy ad sc ar tr ps pa)) (ci := 0) (v := .ref (ed 6)) C fiX0 rfl 0 rfl 6 (by decide) q1_154 rfl dX0_sayTo_86 ?_
        refine tt_iconst (pc := 89) (v := (0 : Int32)) C dX0_sayTo_89 (by decide) ?_
        refine tt_iaload (pc := 90) (ws := (eC cy ed es ea ++ lC cy ad sc ar tr ps pa)) (n := 4) (f := (ea 6)) C 2 0 rfl rfl hf dX0_sayTo_90 (fun hf => ?_)
        refine tt_aload_n (pc := 91) (k := 0) C dX0_sayTo_91 rfl rfl ?_
        refine tt_get (pc := 92) (ws := (eC cy ed es ea ++ lC cy ad sc ar tr ps pa)) (ci := 0) (v := .ref (ed 6)) C fiX0 rfl 0 rfl 6 (by decide) q1_154 rfl dX0_sayTo_92 ?_
        refine tt_iconst (pc := 95) (v := (1 : Int32)) C dX0_sayTo_95 (by decide) ?_
        refine tt_iaload (pc := 96) (ws := (eC cy ed es ea ++ lC cy ad sc ar tr ps pa)) (n := 4) (f := (ea 6)) C 2 0 rfl rfl hf dX0_sayTo_96 (fun hf => ?_)
        obtain ⟨r4, hr4, hf⟩ := bind_some hf
        refine tt_callG (pc := 97) (ws := (eC cy ed es ea ++ lC cy ad sc ar tr ps pa)) (ws' := (eC cy ed es ea ++ lC cy ad r4.2.1 r4.2.2 tr ps pa)) (q0 := 3) (ci := 1) (rest := []) (st' := [.int r4.1]) C rfl (k_X1_addPost hr4) okX1_addPost q2_165 rfl rfl (eC cy ed es ea) [] (by rw [List.append_nil]) (by rw [List.append_nil]) rfl rfl rfl (Nat.le_of_ble_eq_true rfl) ⟨Nat.le_of_ble_eq_true rfl, Nat.le_of_ble_eq_true rfl⟩ dX0_sayTo_97 ?_
        obtain rfl := Option.some.inj hf
        exact tt_ireturn (pc := 100) C rfl rfl rfl dX0_sayTo_100
      · refine sw_eq (x := (es 3)) (k := 3) hf (fun hx hf => ?_) (fun n3 hf => ?_)
        · rw [hx]
          refine tt_tabIn (pc := 4) (tgt := 101) (x := 3) C dX0_sayTo_4 (by decide) (by decide) rfl (by decide) ?_
          refine tt_aload_n (pc := 101) (k := 1) C dX0_sayTo_101 rfl rfl ?_
          refine tt_aload_n (pc := 102) (k := 0) C dX0_sayTo_102 rfl rfl ?_
          refine tt_get (pc := 103) (ws := (eC cy ed es ea ++ lC cy ad sc ar tr ps pa)) (ci := 0) (v := .ref (ed 6)) C fiX0 rfl 0 rfl 6 (by decide) q1_154 rfl dX0_sayTo_103 ?_
          refine tt_iconst (pc := 106) (v := (0 : Int32)) C dX0_sayTo_106 (by decide) ?_
          refine tt_iaload (pc := 107) (ws := (eC cy ed es ea ++ lC cy ad sc ar tr ps pa)) (n := 4) (f := (ea 6)) C 2 0 rfl rfl hf dX0_sayTo_107 (fun hf => ?_)
          refine tt_aload_n (pc := 108) (k := 0) C dX0_sayTo_108 rfl rfl ?_
          refine tt_get (pc := 109) (ws := (eC cy ed es ea ++ lC cy ad sc ar tr ps pa)) (ci := 0) (v := .ref (ed 6)) C fiX0 rfl 0 rfl 6 (by decide) q1_154 rfl dX0_sayTo_109 ?_
          refine tt_iconst (pc := 112) (v := (1 : Int32)) C dX0_sayTo_112 (by decide) ?_
          refine tt_iaload (pc := 113) (ws := (eC cy ed es ea ++ lC cy ad sc ar tr ps pa)) (n := 4) (f := (ea 6)) C 2 0 rfl rfl hf dX0_sayTo_113 (fun hf => ?_)
          refine tt_aload_n (pc := 114) (k := 0) C dX0_sayTo_114 rfl rfl ?_
          refine tt_get (pc := 115) (ws := (eC cy ed es ea ++ lC cy ad sc ar tr ps pa)) (ci := 0) (v := .ref (ed 6)) C fiX0 rfl 0 rfl 6 (by decide) q1_154 rfl dX0_sayTo_115 ?_
          refine tt_iconst (pc := 118) (v := (2 : Int32)) C dX0_sayTo_118 (by decide) ?_
          refine tt_iaload (pc := 119) (ws := (eC cy ed es ea ++ lC cy ad sc ar tr ps pa)) (n := 4) (f := (ea 6)) C 2 0 rfl rfl hf dX0_sayTo_119 (fun hf => ?_)
          refine tt_aload_n (pc := 120) (k := 0) C dX0_sayTo_120 rfl rfl ?_
          refine tt_get (pc := 121) (ws := (eC cy ed es ea ++ lC cy ad sc ar tr ps pa)) (ci := 0) (v := .ref (ed 6)) C fiX0 rfl 0 rfl 6 (by decide) q1_154 rfl dX0_sayTo_121 ?_
          refine tt_iconst (pc := 124) (v := (3 : Int32)) C dX0_sayTo_124 (by decide) ?_
          refine tt_iaload (pc := 125) (ws := (eC cy ed es ea ++ lC cy ad sc ar tr ps pa)) (n := 4) (f := (ea 6)) C 2 0 rfl rfl hf dX0_sayTo_125 (fun hf => ?_)
          obtain ⟨r5, hr5, hf⟩ := bind_some hf
          refine tt_callG (pc := 126) (ws := (eC cy ed es ea ++ lC cy ad sc ar tr ps pa)) (ws' := (eC cy ed es ea ++ lC cy ad r5.2.1 ar r5.2.2 ps pa)) (q0 := 3) (ci := 1) (rest := []) (st' := [.int r5.1]) C rfl (k_X1_addTrain hr5) okX1_addTrain q2_173 rfl rfl (eC cy ed es ea) [] (by rw [List.append_nil]) (by rw [List.append_nil]) rfl rfl rfl (Nat.le_of_ble_eq_true rfl) ⟨Nat.le_of_ble_eq_true rfl, Nat.le_of_ble_eq_true rfl⟩ dX0_sayTo_126 ?_
          obtain rfl := Option.some.inj hf
          exact tt_ireturn (pc := 129) C rfl rfl rfl dX0_sayTo_129
        · refine sw_eq (x := (es 3)) (k := 4) hf (fun hx hf => ?_) (fun n4 hf => ?_)
          · rw [hx]
            refine tt_tabIn (pc := 4) (tgt := 130) (x := 4) C dX0_sayTo_4 (by decide) (by decide) rfl (by decide) ?_
            refine tt_aload_n (pc := 130) (k := 1) C dX0_sayTo_130 rfl rfl ?_
            refine tt_aload_n (pc := 131) (k := 0) C dX0_sayTo_131 rfl rfl ?_
            refine tt_get (pc := 132) (ws := (eC cy ed es ea ++ lC cy ad sc ar tr ps pa)) (ci := 0) (v := .ref (ed 6)) C fiX0 rfl 0 rfl 6 (by decide) q1_154 rfl dX0_sayTo_132 ?_
            refine tt_iconst (pc := 135) (v := (0 : Int32)) C dX0_sayTo_135 (by decide) ?_
            refine tt_iaload (pc := 136) (ws := (eC cy ed es ea ++ lC cy ad sc ar tr ps pa)) (n := 4) (f := (ea 6)) C 2 0 rfl rfl hf dX0_sayTo_136 (fun hf => ?_)
            obtain ⟨r6, hr6, hf⟩ := bind_some hf
            refine tt_callG (pc := 137) (ws := (eC cy ed es ea ++ lC cy ad sc ar tr ps pa)) (ws' := (eC cy ed es ea ++ lC cy ad r6.2 ar tr ps pa)) (q0 := 3) (ci := 1) (rest := []) (st' := [.int r6.1]) C rfl (k_X1_setNeed hr6) okX1_setNeed q2_177 rfl rfl (eC cy ed es ea) [] (by rw [List.append_nil]) (by rw [List.append_nil]) rfl rfl rfl (Nat.le_of_ble_eq_true rfl) ⟨Nat.le_of_ble_eq_true rfl, Nat.le_of_ble_eq_true rfl⟩ dX0_sayTo_137 ?_
            obtain rfl := Option.some.inj hf
            exact tt_ireturn (pc := 140) C rfl rfl rfl dX0_sayTo_140
          · refine sw_eq (x := (es 3)) (k := 5) hf (fun hx hf => ?_) (fun n5 hf => ?_)
            · rw [hx]
              refine tt_tabIn (pc := 4) (tgt := 141) (x := 5) C dX0_sayTo_4 (by decide) (by decide) rfl (by decide) ?_
              refine tt_aload_n (pc := 141) (k := 1) C dX0_sayTo_141 rfl rfl ?_
              refine tt_aload_n (pc := 142) (k := 0) C dX0_sayTo_142 rfl rfl ?_
              refine tt_get (pc := 143) (ws := (eC cy ed es ea ++ lC cy ad sc ar tr ps pa)) (ci := 0) (v := .ref (ed 6)) C fiX0 rfl 0 rfl 6 (by decide) q1_154 rfl dX0_sayTo_143 ?_
              refine tt_iconst (pc := 146) (v := (0 : Int32)) C dX0_sayTo_146 (by decide) ?_
              refine tt_iaload (pc := 147) (ws := (eC cy ed es ea ++ lC cy ad sc ar tr ps pa)) (n := 4) (f := (ea 6)) C 2 0 rfl rfl hf dX0_sayTo_147 (fun hf => ?_)
              obtain ⟨r7, hr7, hf⟩ := bind_some hf
              refine tt_callG (pc := 148) (ws := (eC cy ed es ea ++ lC cy ad sc ar tr ps pa)) (ws' := (eC cy ed es ea ++ lC cy ad r7.2.1 r7.2.2.1 tr r7.2.2.2.1 r7.2.2.2.2)) (q0 := 3) (ci := 1) (rest := []) (st' := [.int r7.1]) C rfl (k_X1_resize hr7) okX1_resize q2_181 rfl rfl (eC cy ed es ea) [] (by rw [List.append_nil]) (by rw [List.append_nil]) rfl rfl rfl (Nat.le_of_ble_eq_true rfl) ⟨Nat.le_of_ble_eq_true rfl, Nat.le_of_ble_eq_true rfl⟩ dX0_sayTo_148 ?_
              obtain rfl := Option.some.inj hf
              exact tt_ireturn (pc := 151) C rfl rfl rfl dX0_sayTo_151
            · have g0 := sw_ne n0 (z := 0) (by decide)
              have g1 := sw_ne n1 (z := 1) (by decide)
              have g2 := sw_ne n2 (z := 2) (by decide)
              have g3 := sw_ne n3 (z := 3) (by decide)
              have g4 := sw_ne n4 (z := 4) (by decide)
              have g5 := sw_ne n5 (z := 5) (by decide)
              refine tt_tabOut (pc := 4) (tgt := 152) C dX0_sayTo_4 (by omega) (by decide) ?_
              refine tt_aload_n (pc := 152) (k := 0) C dX0_sayTo_152 rfl rfl ?_
              refine tt_aload_n (pc := 153) (k := 1) C dX0_sayTo_153 rfl rfl ?_
              obtain ⟨r8, hr8, hf⟩ := bind_some hf
              refine tt_callM (pc := 154) (ws := (eC cy ed es ea ++ lC cy ad sc ar tr ps pa)) (q0 := 0) (ci := 0) (rest := []) (st' := [.int r8.1]) C rfl (k_X0_sayPlace hr8) okX0_sayPlace q2_197 rfl rfl rfl rfl rfl (Nat.le_of_ble_eq_true rfl) ⟨Nat.le_of_ble_eq_true rfl, Nat.le_of_ble_eq_true rfl⟩ dX0_sayTo_154 ?_
              obtain rfl := Option.some.inj hf
              exact tt_ireturn (pc := 157) C rfl rfl rfl dX0_sayTo_157
theorem dX6_hearStatements_0 : decode cX6_hearStatements 0 = .ok (.aload_n 0, 1) := by decide +kernel
theorem dX6_hearStatements_1 : decode cX6_hearStatements 1 = .ok (.getfield 29, 3) := by decide +kernel
theorem dX6_hearStatements_4 : decode cX6_hearStatements 4 = .ok (.invokevirtual 323, 3) := by decide +kernel
theorem dX6_hearStatements_7 : decode cX6_hearStatements 7 = .ok (.istore_n 1, 1) := by decide +kernel
theorem dX6_hearStatements_8 : decode cX6_hearStatements 8 = .ok (.iload_n 1, 1) := by decide +kernel
theorem dX6_hearStatements_9 : decode cX6_hearStatements 9 = .ok (.ifCond .lt 9, 3) := by decide +kernel
theorem dX6_hearStatements_12 : decode cX6_hearStatements 12 = .ok (.sipush (-1000), 3) := by decide +kernel
theorem dX6_hearStatements_15 : decode cX6_hearStatements 15 = .ok (.iload_n 1, 1) := by decide +kernel
theorem dX6_hearStatements_16 : decode cX6_hearStatements 16 = .ok (.isub, 1) := by decide +kernel
theorem dX6_hearStatements_17 : decode cX6_hearStatements 17 = .ok (.ireturn, 1) := by decide +kernel
theorem dX6_hearStatements_18 : decode cX6_hearStatements 18 = .ok (.aload_n 0, 1) := by decide +kernel
theorem dX6_hearStatements_19 : decode cX6_hearStatements 19 = .ok (.getfield 19, 3) := by decide +kernel
theorem dX6_hearStatements_22 : decode cX6_hearStatements 22 = .ok (.aload_n 0, 1) := by decide +kernel
theorem dX6_hearStatements_23 : decode cX6_hearStatements 23 = .ok (.getfield 10, 3) := by decide +kernel
theorem dX6_hearStatements_26 : decode cX6_hearStatements 26 = .ok (.invokevirtual 315, 3) := by decide +kernel
theorem dX6_hearStatements_29 : decode cX6_hearStatements 29 = .ok (.aload_n 0, 1) := by decide +kernel
theorem dX6_hearStatements_30 : decode cX6_hearStatements 30 = .ok (.getfield 29, 3) := by decide +kernel
theorem dX6_hearStatements_33 : decode cX6_hearStatements 33 = .ok (.invokevirtual 326, 3) := by decide +kernel
theorem dX6_hearStatements_36 : decode cX6_hearStatements 36 = .ok (.iconst 0, 1) := by decide +kernel
theorem dX6_hearStatements_37 : decode cX6_hearStatements 37 = .ok (.istore_n 2, 1) := by decide +kernel
theorem dX6_hearStatements_38 : decode cX6_hearStatements 38 = .ok (.iconst 0, 1) := by decide +kernel
theorem dX6_hearStatements_39 : decode cX6_hearStatements 39 = .ok (.istore_n 3, 1) := by decide +kernel
theorem dX6_hearStatements_40 : decode cX6_hearStatements 40 = .ok (.iload_n 3, 1) := by decide +kernel
theorem dX6_hearStatements_41 : decode cX6_hearStatements 41 = .ok (.bipush 120, 2) := by decide +kernel
theorem dX6_hearStatements_43 : decode cX6_hearStatements 43 = .ok (.if_icmp .ge 62, 3) := by decide +kernel
theorem dX6_hearStatements_46 : decode cX6_hearStatements 46 = .ok (.aload_n 0, 1) := by decide +kernel
theorem dX6_hearStatements_47 : decode cX6_hearStatements 47 = .ok (.getfield 29, 3) := by decide +kernel
theorem dX6_hearStatements_50 : decode cX6_hearStatements 50 = .ok (.invokevirtual 329, 3) := by decide +kernel
theorem dX6_hearStatements_53 : decode cX6_hearStatements 53 = .ok (.ifCond .eq 52, 3) := by decide +kernel
theorem dX6_hearStatements_56 : decode cX6_hearStatements 56 = .ok (.aload_n 0, 1) := by decide +kernel
theorem dX6_hearStatements_57 : decode cX6_hearStatements 57 = .ok (.getfield 29, 3) := by decide +kernel
theorem dX6_hearStatements_60 : decode cX6_hearStatements 60 = .ok (.getfield 333, 3) := by decide +kernel
theorem dX6_hearStatements_63 : decode cX6_hearStatements 63 = .ok (.istore 4, 2) := by decide +kernel
theorem dX6_hearStatements_65 : decode cX6_hearStatements 65 = .ok (.aload_n 0, 1) := by decide +kernel
theorem dX6_hearStatements_66 : decode cX6_hearStatements 66 = .ok (.getfield 29, 3) := by decide +kernel
theorem dX6_hearStatements_69 : decode cX6_hearStatements 69 = .ok (.invokevirtual 336, 3) := by decide +kernel
theorem dX6_hearStatements_72 : decode cX6_hearStatements 72 = .ok (.ifCond .eq 17, 3) := by decide +kernel
theorem dX6_hearStatements_75 : decode cX6_hearStatements 75 = .ok (.aload_n 0, 1) := by decide +kernel
theorem dX6_hearStatements_76 : decode cX6_hearStatements 76 = .ok (.getfield 29, 3) := by decide +kernel
theorem dX6_hearStatements_79 : decode cX6_hearStatements 79 = .ok (.aload_n 0, 1) := by decide +kernel
theorem dX6_hearStatements_80 : decode cX6_hearStatements 80 = .ok (.getfield 19, 3) := by decide +kernel
theorem dX6_hearStatements_83 : decode cX6_hearStatements 83 = .ok (.invokevirtual 339, 3) := by decide +kernel
theorem dX6_hearStatements_86 : decode cX6_hearStatements 86 = .ok (.ifCond .ge 10, 3) := by decide +kernel
theorem dX6_hearStatements_89 : decode cX6_hearStatements 89 = .ok (.sipush (-2000), 3) := by decide +kernel
theorem dX6_hearStatements_92 : decode cX6_hearStatements 92 = .ok (.iload 4, 2) := by decide +kernel
theorem dX6_hearStatements_94 : decode cX6_hearStatements 94 = .ok (.isub, 1) := by decide +kernel
theorem dX6_hearStatements_95 : decode cX6_hearStatements 95 = .ok (.ireturn, 1) := by decide +kernel
theorem dX6_hearStatements_96 : decode cX6_hearStatements 96 = .ok (.iinc 2 1, 3) := by decide +kernel
theorem dX6_hearStatements_99 : decode cX6_hearStatements 99 = .ok (.iinc 3 1, 3) := by decide +kernel
theorem dX6_hearStatements_102 : decode cX6_hearStatements 102 = .ok (.goto (-62), 3) := by decide +kernel
theorem dX6_hearStatements_105 : decode cX6_hearStatements 105 = .ok (.aload_n 0, 1) := by decide +kernel
theorem dX6_hearStatements_106 : decode cX6_hearStatements 106 = .ok (.getfield 10, 3) := by decide +kernel
theorem dX6_hearStatements_109 : decode cX6_hearStatements 109 = .ok (.aload_n 0, 1) := by decide +kernel
theorem dX6_hearStatements_110 : decode cX6_hearStatements 110 = .ok (.getfield 19, 3) := by decide +kernel
theorem dX6_hearStatements_113 : decode cX6_hearStatements 113 = .ok (.invokevirtual 315, 3) := by decide +kernel
theorem dX6_hearStatements_116 : decode cX6_hearStatements 116 = .ok (.iload_n 2, 1) := by decide +kernel
theorem dX6_hearStatements_117 : decode cX6_hearStatements 117 = .ok (.ireturn, 1) := by decide +kernel
set_option maxHeartbeats 4000000 in
set_option maxRecDepth 100000 in
theorem l_X6_hearStatements_40 {p : Program} {l : Launch} {e : Env} {s : State} {m : MethodId} {args : Array Value} {below : List Frame} {meth : Method} {c : Code} {D : va_G} {cy : Nat → ClassId} {A : Nat → Prop} {Bd : Nat} {xa : Xa} {xd : Nat → Nat → Nat} {N : Nat} {sL : Nat → Int32} {aL : Nat → Nat → Int32} {tL : Nat → Nat → Int32} {pL : Nat → Int32} {qL : Nat → Nat → Int32} {sX : Nat → Int32} {aX : Nat → Nat → Int32} {uG : Nat → Int32} {ma : Nat → Nat → Int32} {sK : Nat → Int32} {aK : Nat → Nat → Int32} {tK : Nat → Nat → Int32} {pK : Nat → Int32} {qK : Nat → Nat → Int32} {sH : Nat → Nat → Int32} {rH : Nat → Nat → Int64} {uH : Nat → Nat → Int32} {kx : Int32 → (Nat → Int32) → (Nat → Nat → Int32) → (Nat → Int32) → (Nat → Nat → Int32) → (Nat → Nat → Int32) → (Nat → Int32) → (Nat → Nat → Int32) → Option (Int32 × (Nat → Int32) × (Nat → Nat → Int32) × (Nat → Int32) × (Nat → Nat → Int32) × (Nat → Nat → Int32) × (Nat → Int32) × (Nat → Nat → Int32) × (Nat → Int32) × (Nat → Nat → Int32) × (Nat → Nat → Int32) × (Nat → Int32) × (Nat → Nat → Int32))} {out : Int32 × (Nat → Int32) × (Nat → Nat → Int32) × (Nat → Int32) × (Nat → Nat → Int32) × (Nat → Nat → Int32) × (Nat → Int32) × (Nat → Nat → Int32) × (Nat → Int32) × (Nat → Nat → Int32) × (Nat → Nat → Int32) × (Nat → Int32) × (Nat → Nat → Int32)} (C : CC p s m args meth c cX6_hearStatements RX6 5 (some .int) D cy A false Bd xa) (hk : ∀ (x2 : Int32) (es1 : Nat → Int32) (ea1 : Nat → Nat → Int32) (sT1 : Nat → Int32) (aT1 : Nat → Nat → Int32) (tT1 : Nat → Nat → Int32) (pT1 : Nat → Int32) (qT1 : Nat → Nat → Int32), kx x2 es1 ea1 sT1 aT1 tT1 pT1 qT1 = some out → TT p l e { frames := 8, cells := 0, slots := 0, locals := 176 } s m args below meth c 5 D A false (some (.int out.1)) (xC cy xd sX aX uG out.2.1 out.2.2.1 out.2.2.2.1 out.2.2.2.2.1 out.2.2.2.2.2.1 out.2.2.2.2.2.2.1 out.2.2.2.2.2.2.2.1 ma out.2.2.2.2.2.2.2.2.1 out.2.2.2.2.2.2.2.2.2.1 out.2.2.2.2.2.2.2.2.2.2.1 out.2.2.2.2.2.2.2.2.2.2.2.1 out.2.2.2.2.2.2.2.2.2.2.2.2 sK aK tK pK qK sH rH uH) 105 [(0, .ref (xd 0 0)), (2, .int x2)] [] (xC cy xd sX aX uG es1 ea1 sT1 aT1 tT1 pT1 qT1 ma sL aL tL pL qL sK aK tK pK qK sH rH uH)) {n : Nat} {v2 : Int32} {v3 : Int32} {es : Nat → Int32} {ea : Nat → Nat → Int32} {sT : Nat → Int32} {aT : Nat → Nat → Int32} {tT : Nat → Nat → Int32} {pT : Nat → Int32} {qT : Nat → Nat → Int32} (hf : f_X6_hearStatements_L40 N sL aL tL pL qL kx n v2 v3 es ea sT aT tT pT qT = some out) : TT p l e { frames := 8, cells := 0, slots := 0, locals := 176 } s m args below meth c 5 D A false (some (.int out.1)) (xC cy xd sX aX uG out.2.1 out.2.2.1 out.2.2.2.1 out.2.2.2.2.1 out.2.2.2.2.2.1 out.2.2.2.2.2.2.1 out.2.2.2.2.2.2.2.1 ma out.2.2.2.2.2.2.2.2.1 out.2.2.2.2.2.2.2.2.2.1 out.2.2.2.2.2.2.2.2.2.2.1 out.2.2.2.2.2.2.2.2.2.2.2.1 out.2.2.2.2.2.2.2.2.2.2.2.2 sK aK tK pK qK sH rH uH) 40 [(0, .ref (xd 0 0)), (2, .int v2), (3, .int v3)] [] (xC cy xd sX aX uG es ea sT aT tT pT qT ma sL aL tL pL qL sK aK tK pK qK sH rH uH) := by
  induction n generalizing v2 v3 es ea sT aT tT pT qT with
  | zero => cases hf
  | succ n ih =>
    rw [f_X6_hearStatements_L40] at hf
    refine tt_iload_n (pc := 40) (k := 2) C dX6_hearStatements_40 rfl rfl ?_
    refine tt_bipush (pc := 41) (v := (120 : Int32)) C dX6_hearStatements_41 (by decide) ?_
    refine tt_icmp_ge (pc := 43) (tgt := 105) C dX6_hearStatements_43 (by decide) hf (fun hf => ?_) (fun hf => ?_)
    · exact tt_locs [0, 1] rfl (hk _ _ _ _ _ _ _ _ hf)
    · refine tt_aload_n (pc := 46) (k := 0) C dX6_hearStatements_46 rfl rfl ?_
      refine tt_get (pc := 47) (ws := (xC cy xd sX aX uG es ea sT aT tT pT qT ma sL aL tL pL qL sK aK tK pK qK sH rH uH)) (ci := 6) (v := .ref ((xd 4) 0)) C fiX6 rfl 0 xC_obj 4 (by decide) q1_223 rfl dX6_hearStatements_47 ?_
      obtain ⟨r4, hr4, hf⟩ := bind_some hf
      refine tt_callR (pc := 50) (ws := (xC cy xd sX aX uG es ea sT aT tT pT qT ma sL aL tL pL qL sK aK tK pK qK sH rH uH)) (q0 := 4) (ci := 0) (rest := []) (st' := [.int r4]) C (k_X0_hasMore hr4) okX0_hasMore q2_147 rfl rfl xC_subE rfl rfl rfl (Nat.le_of_ble_eq_true rfl) ⟨Nat.le_of_ble_eq_true rfl, Nat.le_of_ble_eq_true rfl⟩ dX6_hearStatements_50 ?_
      refine tt_if_eq (pc := 53) (tgt := 105) C dX6_hearStatements_53 (by decide) hf (fun hf => ?_) (fun hf => ?_)
      · exact tt_locs [0, 1] rfl (hk _ _ _ _ _ _ _ _ hf)
      · refine tt_aload_n (pc := 56) (k := 0) C dX6_hearStatements_56 rfl rfl ?_
        refine tt_get (pc := 57) (ws := (xC cy xd sX aX uG es ea sT aT tT pT qT ma sL aL tL pL qL sK aK tK pK qK sH rH uH)) (ci := 6) (v := .ref ((xd 4) 0)) C fiX6 rfl 0 xC_obj 4 (by decide) q1_223 rfl dX6_hearStatements_57 ?_
        refine tt_get (pc := 60) (ws := (xC cy xd sX aX uG es ea sT aT tT pT qT ma sL aL tL pL qL sK aK tK pK qK sH rH uH)) (ci := 0) (v := .int (es 1)) C fiX0 rfl 4 rfl 1 (by decide) q1_149 rfl dX6_hearStatements_60 ?_
        refine tt_istore (pc := 63) (L' := [(4, .int (es 1)), (0, .ref (xd 0 0)), (2, .int v2), (3, .int v3)]) C dX6_hearStatements_63 (by decide) rfl ?_
        refine tt_aload_n (pc := 65) (k := 1) C dX6_hearStatements_65 rfl rfl ?_
        refine tt_get (pc := 66) (ws := (xC cy xd sX aX uG es ea sT aT tT pT qT ma sL aL tL pL qL sK aK tK pK qK sH rH uH)) (ci := 6) (v := .ref ((xd 4) 0)) C fiX6 rfl 0 xC_obj 4 (by decide) q1_223 rfl dX6_hearStatements_66 ?_
        obtain ⟨r5, hr5, hf⟩ := bind_some hf
        refine tt_callG (pc := 69) (ws := (xC cy xd sX aX uG es ea sT aT tT pT qT ma sL aL tL pL qL sK aK tK pK qK sH rH uH)) (ws' := (xC cy xd sX aX uG r5.2.1 r5.2.2 sT aT tT pT qT ma sL aL tL pL qL sK aK tK pK qK sH rH uH)) (q0 := 4) (ci := 0) (rest := []) (st' := [.int r5.1]) C rfl (k_X0_readStatement hr5) okX0_readStatement q2_148 rfl rfl _ _ xs_E xs_E.symm rfl rfl rfl (Nat.le_of_ble_eq_true rfl) ⟨Nat.le_of_ble_eq_true rfl, Nat.le_of_ble_eq_true rfl⟩ dX6_hearStatements_69 ?_
        refine tt_if_eq (pc := 72) (tgt := 89) C dX6_hearStatements_72 (by decide) hf (fun hf => ?_) (fun hf => ?_)
        · refine tt_sipush (pc := 89) (v := (-2000 : Int32)) C dX6_hearStatements_89 (by decide) ?_
          refine tt_iload (pc := 92) (k := 0) C dX6_hearStatements_92 rfl ?_
          refine tt_isub (pc := 94) C dX6_hearStatements_94 ?_
          obtain rfl := Option.some.inj hf
          exact tt_ireturn (pc := 95) C rfl rfl rfl dX6_hearStatements_95
        · refine tt_aload_n (pc := 75) (k := 1) C dX6_hearStatements_75 rfl rfl ?_
          refine tt_get (pc := 76) (ws := (xC cy xd sX aX uG r5.2.1 r5.2.2 sT aT tT pT qT ma sL aL tL pL qL sK aK tK pK qK sH rH uH)) (ci := 6) (v := .ref ((xd 4) 0)) C fiX6 rfl 0 xC_obj 4 (by decide) q1_223 rfl dX6_hearStatements_76 ?_
          refine tt_aload_n (pc := 79) (k := 1) C dX6_hearStatements_79 rfl rfl ?_
          refine tt_get (pc := 80) (ws := (xC cy xd sX aX uG r5.2.1 r5.2.2 sT aT tT pT qT ma sL aL tL pL qL sK aK tK pK qK sH rH uH)) (ci := 6) (v := .ref ((xd 3) 0)) C fiX6 rfl 0 xC_obj 2 (by decide) q1_221 rfl dX6_hearStatements_80 ?_
          obtain ⟨r6, hr6, hf⟩ := bind_some hf
          refine tt_callG (pc := 83) (ws := (xC cy xd sX aX uG r5.2.1 r5.2.2 sT aT tT pT qT ma sL aL tL pL qL sK aK tK pK qK sH rH uH)) (ws' := (xC cy xd sX aX uG r5.2.1 r5.2.2 r6.2.1 r6.2.2.1 r6.2.2.2.1 r6.2.2.2.2.1 r6.2.2.2.2.2 ma sL aL tL pL qL sK aK tK pK qK sH rH uH)) (q0 := 4) (ci := 0) (rest := []) (st' := [.int r6.1]) C rfl (k_X0_sayTo hr6) okX0_sayTo q2_149 rfl rfl _ _ xs_ET xs_ET.symm rfl rfl rfl (Nat.le_of_ble_eq_true rfl) ⟨Nat.le_of_ble_eq_true rfl, Nat.le_of_ble_eq_true rfl⟩ dX6_hearStatements_83 ?_
          refine tt_if_ge (pc := 86) (tgt := 96) C dX6_hearStatements_86 (by decide) hf (fun hf => ?_) (fun hf => ?_)
          · refine tt_iinc (pc := 96) (k := 2) (v := (v2 + 1)) (L' := [(2, .int (v2 + 1)), (4, .int (es 1)), (0, .ref (xd 0 0)), (3, .int v3)]) C dX6_hearStatements_96 rfl rfl (by decide) rfl ?_
            refine tt_iinc (pc := 99) (k := 3) (v := (v3 + 1)) (L' := [(3, .int (v3 + 1)), (2, .int (v2 + 1)), (4, .int (es 1)), (0, .ref (xd 0 0))]) C dX6_hearStatements_99 rfl rfl (by decide) rfl ?_
            refine tt_goto (pc := 102) (tgt := 40) C dX6_hearStatements_102 (by decide) ?_
            exact tt_locs [3, 1, 0] rfl (ih hf)
          · refine tt_sipush (pc := 89) (v := (-2000 : Int32)) C dX6_hearStatements_89 (by decide) ?_
            refine tt_iload (pc := 92) (k := 0) C dX6_hearStatements_92 rfl ?_
            refine tt_isub (pc := 94) C dX6_hearStatements_94 ?_
            obtain rfl := Option.some.inj hf
            exact tt_ireturn (pc := 95) C rfl rfl rfl dX6_hearStatements_95
set_option maxHeartbeats 4000000 in
set_option maxRecDepth 100000 in
theorem k_X6_hearStatements {l : Launch} {D : va_G} {cy : Nat → ClassId} {Bd : Nat} {xa : Xa} {xd : Nat → Nat → Nat} {N : Nat} {sX : Nat → Int32} {aX : Nat → Nat → Int32} {uG : Nat → Int32} {es : Nat → Int32} {ea : Nat → Nat → Int32} {sT : Nat → Int32} {aT : Nat → Nat → Int32} {tT : Nat → Nat → Int32} {pT : Nat → Int32} {qT : Nat → Nat → Int32} {ma : Nat → Nat → Int32} {sL : Nat → Int32} {aL : Nat → Nat → Int32} {tL : Nat → Nat → Int32} {pL : Nat → Int32} {qL : Nat → Nat → Int32} {sK : Nat → Int32} {aK : Nat → Nat → Int32} {tK : Nat → Nat → Int32} {pK : Nat → Int32} {qK : Nat → Nat → Int32} {sH : Nat → Nat → Int32} {rH : Nat → Nat → Int64} {uH : Nat → Nat → Int32} {out : Int32 × (Nat → Int32) × (Nat → Nat → Int32) × (Nat → Int32) × (Nat → Nat → Int32) × (Nat → Nat → Int32) × (Nat → Int32) × (Nat → Nat → Int32) × (Nat → Int32) × (Nat → Nat → Int32) × (Nat → Nat → Int32) × (Nat → Int32) × (Nat → Nat → Int32)} (hf : f_X6_hearStatements N es ea sT aT tT pT qT sL aL tL pL qL = some out) : KC l yX6_hearStatements cX6_hearStatements 5 (some .int) 8 176 false D cy Bd xa [.ref (xd 0 0)] (xC cy xd sX aX uG es ea sT aT tT pT qT ma sL aL tL pL qL sK aK tK pK qK sH rH uH) (some (.int out.1)) (xC cy xd sX aX uG out.2.1 out.2.2.1 out.2.2.2.1 out.2.2.2.2.1 out.2.2.2.2.2.1 out.2.2.2.2.2.2.1 out.2.2.2.2.2.2.2.1 ma out.2.2.2.2.2.2.2.2.1 out.2.2.2.2.2.2.2.2.2.1 out.2.2.2.2.2.2.2.2.2.2.1 out.2.2.2.2.2.2.2.2.2.2.2.1 out.2.2.2.2.2.2.2.2.2.2.2.2 sK aK tK pK qK sH rH uH) := by
  refine kc_start (own := RX6) (by decide +kernel) rfl (Nat.le_of_ble_eq_true rfl) ?_
  intro p e s m args below meth c A C
  unfold f_X6_hearStatements at hf
  refine tt_locs (L' := [(0, .ref (xd 0 0))]) [0] rfl ?_
  refine tt_aload_n (pc := 0) (k := 0) C dX6_hearStatements_0 rfl rfl ?_
  refine tt_get (pc := 1) (ws := (xC cy xd sX aX uG es ea sT aT tT pT qT ma sL aL tL pL qL sK aK tK pK qK sH rH uH)) (ci := 6) (v := .ref ((xd 4) 0)) C fiX6 rfl 0 xC_obj 4 (by decide) q1_223 rfl dX6_hearStatements_1 ?_
  obtain ⟨r1, hr1, hf⟩ := bind_some hf
  refine tt_callG (pc := 4) (ws := (xC cy xd sX aX uG es ea sT aT tT pT qT ma sL aL tL pL qL sK aK tK pK qK sH rH uH)) (ws' := (xC cy xd sX aX uG r1.2.1 r1.2.2 sT aT tT pT qT ma sL aL tL pL qL sK aK tK pK qK sH rH uH)) (q0 := 4) (ci := 0) (rest := []) (st' := [.int r1.1]) C rfl (k_X0_faultOfForm hr1) okX0_faultOfForm q2_31 rfl rfl _ _ xs_E xs_E.symm rfl rfl rfl (Nat.le_of_ble_eq_true rfl) ⟨Nat.le_of_ble_eq_true rfl, Nat.le_of_ble_eq_true rfl⟩ dX6_hearStatements_4 ?_
  refine tt_istore_n (pc := 7) (L' := [(1, .int r1.1), (0, .ref (xd 0 0))]) C dX6_hearStatements_7 rfl (by decide) rfl ?_
  refine tt_iload_n (pc := 8) (k := 0) C dX6_hearStatements_8 rfl rfl ?_
  refine tt_if_lt (pc := 9) (tgt := 18) C dX6_hearStatements_9 (by decide) hf (fun hf => ?_) (fun hf => ?_)
  · refine tt_aload_n (pc := 18) (k := 1) C dX6_hearStatements_18 rfl rfl ?_
    refine tt_get (pc := 19) (ws := (xC cy xd sX aX uG r1.2.1 r1.2.2 sT aT tT pT qT ma sL aL tL pL qL sK aK tK pK qK sH rH uH)) (ci := 6) (v := .ref ((xd 3) 0)) C fiX6 rfl 0 xC_obj 2 (by decide) q1_221 rfl dX6_hearStatements_19 ?_
    refine tt_aload_n (pc := 22) (k := 1) C dX6_hearStatements_22 rfl rfl ?_
    refine tt_get (pc := 23) (ws := (xC cy xd sX aX uG r1.2.1 r1.2.2 sT aT tT pT qT ma sL aL tL pL qL sK aK tK pK qK sH rH uH)) (ci := 6) (v := .ref ((xd 1) 0)) C fiX6 rfl 0 xC_obj 0 (by decide) q1_219 rfl dX6_hearStatements_23 ?_
    obtain ⟨r2, hr2, hf⟩ := bind_some hf
    refine tt_perm xs_TL ?_
    refine tt_callG (pc := 26) (q0 := 0) (ci := 1) (rest := []) (st' := []) C rfl (k_X1_copyFrom hr2) okX1_copyFrom q2_127 rfl rfl [] _ rfl rfl rfl rfl rfl (Nat.le_of_ble_eq_true rfl) ⟨Nat.le_of_ble_eq_true rfl, Nat.le_of_ble_eq_true rfl⟩ dX6_hearStatements_26 ?_
    refine tt_perm (ws2 := (xC cy xd sX aX uG r1.2.1 r1.2.2 r2.1 r2.2.1 r2.2.2.1 r2.2.2.2.1 r2.2.2.2.2 ma sL aL tL pL qL sK aK tK pK qK sH rH uH)) xs_TL.symm ?_
    refine tt_aload_n (pc := 29) (k := 1) C dX6_hearStatements_29 rfl rfl ?_
    refine tt_get (pc := 30) (ws := (xC cy xd sX aX uG r1.2.1 r1.2.2 r2.1 r2.2.1 r2.2.2.1 r2.2.2.2.1 r2.2.2.2.2 ma sL aL tL pL qL sK aK tK pK qK sH rH uH)) (ci := 6) (v := .ref ((xd 4) 0)) C fiX6 rfl 0 xC_obj 4 (by decide) q1_223 rfl dX6_hearStatements_30 ?_
    obtain ⟨r3, hr3, hf⟩ := bind_some hf
    refine tt_callG (pc := 33) (ws := (xC cy xd sX aX uG r1.2.1 r1.2.2 r2.1 r2.2.1 r2.2.2.1 r2.2.2.2.1 r2.2.2.2.2 ma sL aL tL pL qL sK aK tK pK qK sH rH uH)) (ws' := (xC cy xd sX aX uG r3 r1.2.2 r2.1 r2.2.1 r2.2.2.1 r2.2.2.2.1 r2.2.2.2.2 ma sL aL tL pL qL sK aK tK pK qK sH rH uH)) (q0 := 4) (ci := 0) (rest := []) (st' := []) C rfl (k_X0_rewind hr3) okX0_rewind q2_143 rfl rfl _ _ xs_E xs_E.symm rfl rfl rfl (Nat.le_of_ble_eq_true rfl) ⟨Nat.le_of_ble_eq_true rfl, Nat.le_of_ble_eq_true rfl⟩ dX6_hearStatements_33 ?_
    refine tt_iconst (pc := 36) (v := (0 : Int32)) C dX6_hearStatements_36 (by decide) ?_
    refine tt_istore_n (pc := 37) (L' := [(2, .int (0 : Int32)), (1, .int r1.1), (0, .ref (xd 0 0))]) C dX6_hearStatements_37 rfl (by decide) rfl ?_
    refine tt_iconst (pc := 38) (v := (0 : Int32)) C dX6_hearStatements_38 (by decide) ?_
    refine tt_istore_n (pc := 39) (L' := [(3, .int (0 : Int32)), (2, .int (0 : Int32)), (1, .int r1.1), (0, .ref (xd 0 0))]) C dX6_hearStatements_39 rfl (by decide) rfl ?_
    refine tt_locs (L' := [(0, .ref (xd 0 0)), (2, .int (0 : Int32)), (3, .int (0 : Int32))]) [3, 1, 0] rfl (l_X6_hearStatements_40 C (fun x2_7 t7 t8 t9 t10 t11 t12 t13 hf => ?_) hf)
    refine tt_aload_n (pc := 105) (k := 0) C dX6_hearStatements_105 rfl rfl ?_
    refine tt_get (pc := 106) (ws := (xC cy xd sX aX uG t7 t8 t9 t10 t11 t12 t13 ma sL aL tL pL qL sK aK tK pK qK sH rH uH)) (ci := 6) (v := .ref ((xd 1) 0)) C fiX6 rfl 0 xC_obj 0 (by decide) q1_219 rfl dX6_hearStatements_106 ?_
    refine tt_aload_n (pc := 109) (k := 0) C dX6_hearStatements_109 rfl rfl ?_
    refine tt_get (pc := 110) (ws := (xC cy xd sX aX uG t7 t8 t9 t10 t11 t12 t13 ma sL aL tL pL qL sK aK tK pK qK sH rH uH)) (ci := 6) (v := .ref ((xd 3) 0)) C fiX6 rfl 0 xC_obj 2 (by decide) q1_221 rfl dX6_hearStatements_110 ?_
    obtain ⟨r14, hr14, hf⟩ := bind_some hf
    refine tt_perm xs_LT ?_
    refine tt_callG (pc := 113) (q0 := 0) (ci := 1) (rest := []) (st' := []) C rfl (k_X1_copyFrom hr14) okX1_copyFrom q2_127 rfl rfl [] _ rfl rfl rfl rfl rfl (Nat.le_of_ble_eq_true rfl) ⟨Nat.le_of_ble_eq_true rfl, Nat.le_of_ble_eq_true rfl⟩ dX6_hearStatements_113 ?_
    refine tt_perm (ws2 := (xC cy xd sX aX uG t7 t8 t9 t10 t11 t12 t13 ma r14.1 r14.2.1 r14.2.2.1 r14.2.2.2.1 r14.2.2.2.2 sK aK tK pK qK sH rH uH)) xs_LT.symm ?_
    refine tt_iload_n (pc := 116) (k := 1) C dX6_hearStatements_116 rfl rfl ?_
    obtain rfl := Option.some.inj hf
    exact tt_ireturn (pc := 117) C rfl rfl rfl dX6_hearStatements_117
  · refine tt_sipush (pc := 12) (v := (-1000 : Int32)) C dX6_hearStatements_12 (by decide) ?_
    refine tt_iload_n (pc := 15) (k := 0) C dX6_hearStatements_15 rfl rfl ?_
    refine tt_isub (pc := 16) C dX6_hearStatements_16 ?_
    obtain rfl := Option.some.inj hf
    exact tt_ireturn (pc := 17) C rfl rfl rfl dX6_hearStatements_17
theorem dX0_clear_0 : decode cX0_clear 0 = .ok (.aload_n 0, 1) := by decide +kernel
theorem dX0_clear_1 : decode cX0_clear 1 = .ok (.iconst 0, 1) := by decide +kernel
theorem dX0_clear_2 : decode cX0_clear 2 = .ok (.putfield 9, 3) := by decide +kernel
theorem dX0_clear_5 : decode cX0_clear 5 = .ok (.aload_n 0, 1) := by decide +kernel
theorem dX0_clear_6 : decode cX0_clear 6 = .ok (.iconst 0, 1) := by decide +kernel
theorem dX0_clear_7 : decode cX0_clear 7 = .ok (.putfield 15, 3) := by decide +kernel
theorem dX0_clear_10 : decode cX0_clear 10 = .ok (.return_, 1) := by decide +kernel
set_option maxHeartbeats 4000000 in
set_option maxRecDepth 100000 in
theorem k_X0_clear {l : Launch} {D : va_G} {cy : Nat → ClassId} {Bd : Nat} {xa : Xa} {ed : Nat → Nat} {N : Nat} {es : Nat → Int32} {ea : Nat → Nat → Int32} {out : (Nat → Int32)} (hf : f_X0_clear N es = some out) : KC l yX0_clear cX0_clear 1 none 0 0 false D cy Bd xa [.ref (ed 0)] (eC cy ed es ea) none (eC cy ed out ea) := by
  refine kc_start (own := RX0) (by decide +kernel) rfl (Nat.le_of_ble_eq_true rfl) ?_
  intro p e s m args below meth c A C
  unfold f_X0_clear at hf
  refine tt_locs (L' := [(0, .ref (ed 0))]) [0] rfl ?_
  refine tt_aload_n (pc := 0) (k := 0) C dX0_clear_0 rfl rfl ?_
  refine tt_iconst (pc := 1) (v := (0 : Int32)) C dX0_clear_1 (by decide) ?_
  refine tt_put (pc := 2) (ws := (eC cy ed es ea)) (ci := 0) (ty := .int) (ws' := (eC cy ed (upd es 0 (0 : Int32)) ea)) C rfl fiX0 rfl 0 eC_obj 0 (by decide) q1_146 rfl rfl rfl rfl (Nat.le_of_ble_eq_true rfl) dX0_clear_2 eC_put0 ?_
  refine tt_aload_n (pc := 5) (k := 0) C dX0_clear_5 rfl rfl ?_
  refine tt_iconst (pc := 6) (v := (0 : Int32)) C dX0_clear_6 (by decide) ?_
  refine tt_put (pc := 7) (ws := (eC cy ed (upd es 0 (0 : Int32)) ea)) (ci := 0) (ty := .int) (ws' := (eC cy ed (upd (upd es 0 (0 : Int32)) 1 (0 : Int32)) ea)) C rfl fiX0 rfl 0 eC_obj 1 (by decide) q1_148 rfl rfl rfl rfl (Nat.le_of_ble_eq_true rfl) dX0_clear_7 eC_put1 ?_
  obtain rfl := Option.some.inj hf
  exact tt_vreturn (pc := 10) C rfl rfl rfl dX0_clear_10
theorem dX6_tells_0 : decode cX6_tells 0 = .ok (.aload_n 0, 1) := by decide +kernel
theorem dX6_tells_1 : decode cX6_tells 1 = .ok (.invokevirtual 65, 3) := by decide +kernel
theorem dX6_tells_4 : decode cX6_tells 4 = .ok (.istore_n 1, 1) := by decide +kernel
theorem dX6_tells_5 : decode cX6_tells 5 = .ok (.aload_n 0, 1) := by decide +kernel
theorem dX6_tells_6 : decode cX6_tells 6 = .ok (.getfield 29, 3) := by decide +kernel
theorem dX6_tells_9 : decode cX6_tells 9 = .ok (.invokevirtual 69, 3) := by decide +kernel
theorem dX6_tells_12 : decode cX6_tells 12 = .ok (.iload_n 1, 1) := by decide +kernel
theorem dX6_tells_13 : decode cX6_tells 13 = .ok (.ireturn, 1) := by decide +kernel
set_option maxHeartbeats 4000000 in
set_option maxRecDepth 100000 in
theorem k_X6_tells {l : Launch} {D : va_G} {cy : Nat → ClassId} {Bd : Nat} {xa : Xa} {xd : Nat → Nat → Nat} {N : Nat} {sX : Nat → Int32} {aX : Nat → Nat → Int32} {uG : Nat → Int32} {es : Nat → Int32} {ea : Nat → Nat → Int32} {sT : Nat → Int32} {aT : Nat → Nat → Int32} {tT : Nat → Nat → Int32} {pT : Nat → Int32} {qT : Nat → Nat → Int32} {ma : Nat → Nat → Int32} {sL : Nat → Int32} {aL : Nat → Nat → Int32} {tL : Nat → Nat → Int32} {pL : Nat → Int32} {qL : Nat → Nat → Int32} {sK : Nat → Int32} {aK : Nat → Nat → Int32} {tK : Nat → Nat → Int32} {pK : Nat → Int32} {qK : Nat → Nat → Int32} {sH : Nat → Nat → Int32} {rH : Nat → Nat → Int64} {uH : Nat → Nat → Int32} {out : Int32 × (Nat → Int32) × (Nat → Nat → Int32) × (Nat → Int32) × (Nat → Nat → Int32) × (Nat → Nat → Int32) × (Nat → Int32) × (Nat → Nat → Int32) × (Nat → Int32) × (Nat → Nat → Int32) × (Nat → Nat → Int32) × (Nat → Int32) × (Nat → Nat → Int32)} (hf : f_X6_tells N es ea sT aT tT pT qT sL aL tL pL qL = some out) : KC l yX6_tells cX6_tells 2 (some .int) 9 200 false D cy Bd xa [.ref (xd 0 0)] (xC cy xd sX aX uG es ea sT aT tT pT qT ma sL aL tL pL qL sK aK tK pK qK sH rH uH) (some (.int out.1)) (xC cy xd sX aX uG out.2.1 out.2.2.1 out.2.2.2.1 out.2.2.2.2.1 out.2.2.2.2.2.1 out.2.2.2.2.2.2.1 out.2.2.2.2.2.2.2.1 ma out.2.2.2.2.2.2.2.2.1 out.2.2.2.2.2.2.2.2.2.1 out.2.2.2.2.2.2.2.2.2.2.1 out.2.2.2.2.2.2.2.2.2.2.2.1 out.2.2.2.2.2.2.2.2.2.2.2.2 sK aK tK pK qK sH rH uH) := by
  refine kc_start (own := RX6) (by decide +kernel) rfl (Nat.le_of_ble_eq_true rfl) ?_
  intro p e s m args below meth c A C
  unfold f_X6_tells at hf
  refine tt_locs (L' := [(0, .ref (xd 0 0))]) [0] rfl ?_
  refine tt_aload_n (pc := 0) (k := 0) C dX6_tells_0 rfl rfl ?_
  obtain ⟨r1, hr1, hf⟩ := bind_some hf
  refine tt_callM (pc := 1) (ws := (xC cy xd sX aX uG es ea sT aT tT pT qT ma sL aL tL pL qL sK aK tK pK qK sH rH uH)) (q0 := 0) (ci := 6) (rest := []) (st' := [.int r1.1]) C rfl (k_X6_hearStatements hr1) okX6_hearStatements q2_27 rfl xC_obj rfl rfl rfl (Nat.le_of_ble_eq_true rfl) ⟨Nat.le_of_ble_eq_true rfl, Nat.le_of_ble_eq_true rfl⟩ dX6_tells_1 ?_
  refine tt_istore_n (pc := 4) (L' := [(1, .int r1.1), (0, .ref (xd 0 0))]) C dX6_tells_4 rfl (by decide) rfl ?_
  refine tt_aload_n (pc := 5) (k := 1) C dX6_tells_5 rfl rfl ?_
  refine tt_get (pc := 6) (ws := (xC cy xd sX aX uG r1.2.1 r1.2.2.1 r1.2.2.2.1 r1.2.2.2.2.1 r1.2.2.2.2.2.1 r1.2.2.2.2.2.2.1 r1.2.2.2.2.2.2.2.1 ma r1.2.2.2.2.2.2.2.2.1 r1.2.2.2.2.2.2.2.2.2.1 r1.2.2.2.2.2.2.2.2.2.2.1 r1.2.2.2.2.2.2.2.2.2.2.2.1 r1.2.2.2.2.2.2.2.2.2.2.2.2 sK aK tK pK qK sH rH uH)) (ci := 6) (v := .ref ((xd 4) 0)) C fiX6 rfl 0 xC_obj 4 (by decide) q1_223 rfl dX6_tells_6 ?_
  obtain ⟨r2, hr2, hf⟩ := bind_some hf
  refine tt_callG (pc := 9) (ws := (xC cy xd sX aX uG r1.2.1 r1.2.2.1 r1.2.2.2.1 r1.2.2.2.2.1 r1.2.2.2.2.2.1 r1.2.2.2.2.2.2.1 r1.2.2.2.2.2.2.2.1 ma r1.2.2.2.2.2.2.2.2.1 r1.2.2.2.2.2.2.2.2.2.1 r1.2.2.2.2.2.2.2.2.2.2.1 r1.2.2.2.2.2.2.2.2.2.2.2.1 r1.2.2.2.2.2.2.2.2.2.2.2.2 sK aK tK pK qK sH rH uH)) (ws' := (xC cy xd sX aX uG r2 r1.2.2.1 r1.2.2.2.1 r1.2.2.2.2.1 r1.2.2.2.2.2.1 r1.2.2.2.2.2.2.1 r1.2.2.2.2.2.2.2.1 ma r1.2.2.2.2.2.2.2.2.1 r1.2.2.2.2.2.2.2.2.2.1 r1.2.2.2.2.2.2.2.2.2.2.1 r1.2.2.2.2.2.2.2.2.2.2.2.1 r1.2.2.2.2.2.2.2.2.2.2.2.2 sK aK tK pK qK sH rH uH)) (q0 := 4) (ci := 0) (rest := []) (st' := []) C rfl (k_X0_clear hr2) okX0_clear q2_214 rfl rfl _ _ xs_E xs_E.symm rfl rfl rfl (Nat.le_of_ble_eq_true rfl) ⟨Nat.le_of_ble_eq_true rfl, Nat.le_of_ble_eq_true rfl⟩ dX6_tells_9 ?_
  refine tt_iload_n (pc := 12) (k := 0) C dX6_tells_12 rfl rfl ?_
  obtain rfl := Option.some.inj hf
  exact tt_ireturn (pc := 13) C rfl rfl rfl dX6_tells_13
theorem dX6_cells_0 : decode cX6_cells 0 = .ok (.aload_n 0, 1) := by decide +kernel
theorem dX6_cells_1 : decode cX6_cells 1 = .ok (.aload_n 0, 1) := by decide +kernel
theorem dX6_cells_2 : decode cX6_cells 2 = .ok (.getfield 10, 3) := by decide +kernel
theorem dX6_cells_5 : decode cX6_cells 5 = .ok (.iload_n 1, 1) := by decide +kernel
theorem dX6_cells_6 : decode cX6_cells 6 = .ok (.invokevirtual 72, 3) := by decide +kernel
theorem dX6_cells_9 : decode cX6_cells 9 = .ok (.invokevirtual 62, 3) := by decide +kernel
theorem dX6_cells_12 : decode cX6_cells 12 = .ok (.ireturn, 1) := by decide +kernel
set_option maxHeartbeats 4000000 in
set_option maxRecDepth 100000 in
theorem k_X6_cells {l : Launch} {D : va_G} {cy : Nat → ClassId} {Bd : Nat} {xa : Xa} {xd : Nat → Nat → Nat} {N : Nat} {sX : Nat → Int32} {aX : Nat → Nat → Int32} {uG : Nat → Int32} {es : Nat → Int32} {ea : Nat → Nat → Int32} {sT : Nat → Int32} {aT : Nat → Nat → Int32} {tT : Nat → Nat → Int32} {pT : Nat → Int32} {qT : Nat → Nat → Int32} {ma : Nat → Nat → Int32} {sL : Nat → Int32} {aL : Nat → Nat → Int32} {tL : Nat → Nat → Int32} {pL : Nat → Int32} {qL : Nat → Nat → Int32} {sK : Nat → Int32} {aK : Nat → Nat → Int32} {tK : Nat → Nat → Int32} {pK : Nat → Int32} {qK : Nat → Nat → Int32} {sH : Nat → Nat → Int32} {rH : Nat → Nat → Int64} {uH : Nat → Nat → Int32} {a1 : Int32} {out : Int32 × (Nat → Nat → Int32) × (Nat → Int32) × (Nat → Nat → Int32) × (Nat → Int32) × (Nat → Nat → Int32)} (hf : f_X6_cells N aX sL aL pL qL a1 = some out) : KC l yX6_cells cX6_cells 2 (some .int) 3 74 false D cy Bd xa [.ref (xd 0 0), .int a1] (xC cy xd sX aX uG es ea sT aT tT pT qT ma sL aL tL pL qL sK aK tK pK qK sH rH uH) (some (.int out.1)) (xC cy xd sX out.2.1 uG es ea sT aT tT pT qT ma out.2.2.1 out.2.2.2.1 tL out.2.2.2.2.1 out.2.2.2.2.2 sK aK tK pK qK sH rH uH) := by
  refine kc_start (own := RX6) (by decide +kernel) rfl (Nat.le_of_ble_eq_true rfl) ?_
  intro p e s m args below meth c A C
  unfold f_X6_cells at hf
  refine tt_locs (L' := [(0, .ref (xd 0 0)), (1, .int a1)]) [0, 1] rfl ?_
  refine tt_aload_n (pc := 0) (k := 0) C dX6_cells_0 rfl rfl ?_
  refine tt_aload_n (pc := 1) (k := 0) C dX6_cells_1 rfl rfl ?_
  refine tt_get (pc := 2) (ws := (xC cy xd sX aX uG es ea sT aT tT pT qT ma sL aL tL pL qL sK aK tK pK qK sH rH uH)) (ci := 6) (v := .ref ((xd 1) 0)) C fiX6 rfl 0 xC_obj 0 (by decide) q1_219 rfl dX6_cells_2 ?_
  refine tt_iload_n (pc := 5) (k := 1) C dX6_cells_5 rfl rfl ?_
  obtain ⟨r1, hr1, hf⟩ := bind_some hf
  refine tt_callG (pc := 6) (ws := (xC cy xd sX aX uG es ea sT aT tT pT qT ma sL aL tL pL qL sK aK tK pK qK sH rH uH)) (ws' := (xC cy xd sX aX uG es ea sT aT tT pT qT ma r1.2.1 r1.2.2.1 tL r1.2.2.2.1 r1.2.2.2.2 sK aK tK pK qK sH rH uH)) (q0 := 28) (ci := 1) (rest := [.ref (xd 0 0)]) (st' := [.int r1.1, .ref (xd 0 0)]) C rfl (k_X1_resize hr1) okX1_resize q2_223 rfl rfl _ _ xs_L xs_L.symm rfl rfl rfl (Nat.le_of_ble_eq_true rfl) ⟨Nat.le_of_ble_eq_true rfl, Nat.le_of_ble_eq_true rfl⟩ dX6_cells_6 ?_
  obtain ⟨r2, hr2, hf⟩ := bind_some hf
  refine tt_callM (pc := 9) (ws := (xC cy xd sX aX uG es ea sT aT tT pT qT ma r1.2.1 r1.2.2.1 tL r1.2.2.2.1 r1.2.2.2.2 sK aK tK pK qK sH rH uH)) (q0 := 0) (ci := 6) (rest := []) (st' := [.int r2.1]) C rfl (k_X6_counted hr2) okX6_counted q2_15 rfl xC_obj rfl rfl rfl (Nat.le_of_ble_eq_true rfl) ⟨Nat.le_of_ble_eq_true rfl, Nat.le_of_ble_eq_true rfl⟩ dX6_cells_9 ?_
  obtain rfl := Option.some.inj hf
  exact tt_ireturn (pc := 12) C rfl rfl rfl dX6_cells_12
theorem dX6_ground_0 : decode cX6_ground 0 = .ok (.aload_n 0, 1) := by decide +kernel
theorem dX6_ground_1 : decode cX6_ground 1 = .ok (.aload_n 0, 1) := by decide +kernel
theorem dX6_ground_2 : decode cX6_ground 2 = .ok (.getfield 10, 3) := by decide +kernel
theorem dX6_ground_5 : decode cX6_ground 5 = .ok (.iload_n 1, 1) := by decide +kernel
theorem dX6_ground_6 : decode cX6_ground 6 = .ok (.iload_n 2, 1) := by decide +kernel
theorem dX6_ground_7 : decode cX6_ground 7 = .ok (.invokevirtual 75, 3) := by decide +kernel
theorem dX6_ground_10 : decode cX6_ground 10 = .ok (.invokevirtual 62, 3) := by decide +kernel
theorem dX6_ground_13 : decode cX6_ground 13 = .ok (.ireturn, 1) := by decide +kernel
set_option maxHeartbeats 4000000 in
set_option maxRecDepth 100000 in
theorem k_X6_ground {l : Launch} {D : va_G} {cy : Nat → ClassId} {Bd : Nat} {xa : Xa} {xd : Nat → Nat → Nat} {N : Nat} {sX : Nat → Int32} {aX : Nat → Nat → Int32} {uG : Nat → Int32} {es : Nat → Int32} {ea : Nat → Nat → Int32} {sT : Nat → Int32} {aT : Nat → Nat → Int32} {tT : Nat → Nat → Int32} {pT : Nat → Int32} {qT : Nat → Nat → Int32} {ma : Nat → Nat → Int32} {sL : Nat → Int32} {aL : Nat → Nat → Int32} {tL : Nat → Nat → Int32} {pL : Nat → Int32} {qL : Nat → Nat → Int32} {sK : Nat → Int32} {aK : Nat → Nat → Int32} {tK : Nat → Nat → Int32} {pK : Nat → Int32} {qK : Nat → Nat → Int32} {sH : Nat → Nat → Int32} {rH : Nat → Nat → Int64} {uH : Nat → Nat → Int32} {a1 : Int32} {a2 : Int32} {out : Int32 × (Nat → Nat → Int32) × (Nat → Nat → Int32)} (hf : f_X6_ground N aX sL aL a1 a2 = some out) : KC l yX6_ground cX6_ground 3 (some .int) 2 44 false D cy Bd xa [.ref (xd 0 0), .int a1, .int a2] (xC cy xd sX aX uG es ea sT aT tT pT qT ma sL aL tL pL qL sK aK tK pK qK sH rH uH) (some (.int out.1)) (xC cy xd sX out.2.1 uG es ea sT aT tT pT qT ma sL out.2.2 tL pL qL sK aK tK pK qK sH rH uH) := by
  refine kc_start (own := RX6) (by decide +kernel) rfl (Nat.le_of_ble_eq_true rfl) ?_
  intro p e s m args below meth c A C
  unfold f_X6_ground at hf
  refine tt_locs (L' := [(0, .ref (xd 0 0)), (1, .int a1), (2, .int a2)]) [0, 1, 2] rfl ?_
  refine tt_aload_n (pc := 0) (k := 0) C dX6_ground_0 rfl rfl ?_
  refine tt_aload_n (pc := 1) (k := 0) C dX6_ground_1 rfl rfl ?_
  refine tt_get (pc := 2) (ws := (xC cy xd sX aX uG es ea sT aT tT pT qT ma sL aL tL pL qL sK aK tK pK qK sH rH uH)) (ci := 6) (v := .ref ((xd 1) 0)) C fiX6 rfl 0 xC_obj 0 (by decide) q1_219 rfl dX6_ground_2 ?_
  refine tt_iload_n (pc := 5) (k := 1) C dX6_ground_5 rfl rfl ?_
  refine tt_iload_n (pc := 6) (k := 2) C dX6_ground_6 rfl rfl ?_
  obtain ⟨r1, hr1, hf⟩ := bind_some hf
  refine tt_callG (pc := 7) (ws := (xC cy xd sX aX uG es ea sT aT tT pT qT ma sL aL tL pL qL sK aK tK pK qK sH rH uH)) (ws' := (xC cy xd sX aX uG es ea sT aT tT pT qT ma sL r1.2 tL pL qL sK aK tK pK qK sH rH uH)) (q0 := 28) (ci := 1) (rest := [.ref (xd 0 0)]) (st' := [.int r1.1, .ref (xd 0 0)]) C rfl (k_X1_setGround hr1) okX1_setGround q2_228 rfl rfl _ _ xs_L xs_L.symm rfl rfl rfl (Nat.le_of_ble_eq_true rfl) ⟨Nat.le_of_ble_eq_true rfl, Nat.le_of_ble_eq_true rfl⟩ dX6_ground_7 ?_
  obtain ⟨r2, hr2, hf⟩ := bind_some hf
  refine tt_callM (pc := 10) (ws := (xC cy xd sX aX uG es ea sT aT tT pT qT ma sL r1.2 tL pL qL sK aK tK pK qK sH rH uH)) (q0 := 0) (ci := 6) (rest := []) (st' := [.int r2.1]) C rfl (k_X6_counted hr2) okX6_counted q2_15 rfl xC_obj rfl rfl rfl (Nat.le_of_ble_eq_true rfl) ⟨Nat.le_of_ble_eq_true rfl, Nat.le_of_ble_eq_true rfl⟩ dX6_ground_10 ?_
  obtain rfl := Option.some.inj hf
  exact tt_ireturn (pc := 13) C rfl rfl rfl dX6_ground_13
theorem dX6_bridge_0 : decode cX6_bridge 0 = .ok (.aload_n 0, 1) := by decide +kernel
theorem dX6_bridge_1 : decode cX6_bridge 1 = .ok (.aload_n 0, 1) := by decide +kernel
theorem dX6_bridge_2 : decode cX6_bridge 2 = .ok (.getfield 10, 3) := by decide +kernel
theorem dX6_bridge_5 : decode cX6_bridge 5 = .ok (.iload_n 1, 1) := by decide +kernel
theorem dX6_bridge_6 : decode cX6_bridge 6 = .ok (.iload_n 2, 1) := by decide +kernel
theorem dX6_bridge_7 : decode cX6_bridge 7 = .ok (.iload_n 3, 1) := by decide +kernel
theorem dX6_bridge_8 : decode cX6_bridge 8 = .ok (.invokevirtual 79, 3) := by decide +kernel
theorem dX6_bridge_11 : decode cX6_bridge 11 = .ok (.invokevirtual 62, 3) := by decide +kernel
theorem dX6_bridge_14 : decode cX6_bridge 14 = .ok (.ireturn, 1) := by decide +kernel
set_option maxHeartbeats 4000000 in
set_option maxRecDepth 100000 in
theorem k_X6_bridge {l : Launch} {D : va_G} {cy : Nat → ClassId} {Bd : Nat} {xa : Xa} {xd : Nat → Nat → Nat} {N : Nat} {sX : Nat → Int32} {aX : Nat → Nat → Int32} {uG : Nat → Int32} {es : Nat → Int32} {ea : Nat → Nat → Int32} {sT : Nat → Int32} {aT : Nat → Nat → Int32} {tT : Nat → Nat → Int32} {pT : Nat → Int32} {qT : Nat → Nat → Int32} {ma : Nat → Nat → Int32} {sL : Nat → Int32} {aL : Nat → Nat → Int32} {tL : Nat → Nat → Int32} {pL : Nat → Int32} {qL : Nat → Nat → Int32} {sK : Nat → Int32} {aK : Nat → Nat → Int32} {tK : Nat → Nat → Int32} {pK : Nat → Int32} {qK : Nat → Nat → Int32} {sH : Nat → Nat → Int32} {rH : Nat → Nat → Int64} {uH : Nat → Nat → Int32} {a1 : Int32} {a2 : Int32} {a3 : Int32} {out : Int32 × (Nat → Nat → Int32) × (Nat → Int32) × (Nat → Nat → Int32)} (hf : f_X6_bridge N aX sL aL a1 a2 a3 = some out) : KC l yX6_bridge cX6_bridge 4 (some .int) 2 44 false D cy Bd xa [.ref (xd 0 0), .int a1, .int a2, .int a3] (xC cy xd sX aX uG es ea sT aT tT pT qT ma sL aL tL pL qL sK aK tK pK qK sH rH uH) (some (.int out.1)) (xC cy xd sX out.2.1 uG es ea sT aT tT pT qT ma out.2.2.1 out.2.2.2 tL pL qL sK aK tK pK qK sH rH uH) := by
  refine kc_start (own := RX6) (by decide +kernel) rfl (Nat.le_of_ble_eq_true rfl) ?_
  intro p e s m args below meth c A C
  unfold f_X6_bridge at hf
  refine tt_locs (L' := [(0, .ref (xd 0 0)), (1, .int a1), (2, .int a2), (3, .int a3)]) [0, 1, 2, 3] rfl ?_
  refine tt_aload_n (pc := 0) (k := 0) C dX6_bridge_0 rfl rfl ?_
  refine tt_aload_n (pc := 1) (k := 0) C dX6_bridge_1 rfl rfl ?_
  refine tt_get (pc := 2) (ws := (xC cy xd sX aX uG es ea sT aT tT pT qT ma sL aL tL pL qL sK aK tK pK qK sH rH uH)) (ci := 6) (v := .ref ((xd 1) 0)) C fiX6 rfl 0 xC_obj 0 (by decide) q1_219 rfl dX6_bridge_2 ?_
  refine tt_iload_n (pc := 5) (k := 1) C dX6_bridge_5 rfl rfl ?_
  refine tt_iload_n (pc := 6) (k := 2) C dX6_bridge_6 rfl rfl ?_
  refine tt_iload_n (pc := 7) (k := 3) C dX6_bridge_7 rfl rfl ?_
  obtain ⟨r1, hr1, hf⟩ := bind_some hf
  refine tt_callG (pc := 8) (ws := (xC cy xd sX aX uG es ea sT aT tT pT qT ma sL aL tL pL qL sK aK tK pK qK sH rH uH)) (ws' := (xC cy xd sX aX uG es ea sT aT tT pT qT ma r1.2.1 r1.2.2 tL pL qL sK aK tK pK qK sH rH uH)) (q0 := 28) (ci := 1) (rest := [.ref (xd 0 0)]) (st' := [.int r1.1, .ref (xd 0 0)]) C rfl (k_X1_addBridge hr1) okX1_addBridge q2_233 rfl rfl _ _ xs_L xs_L.symm rfl rfl rfl (Nat.le_of_ble_eq_true rfl) ⟨Nat.le_of_ble_eq_true rfl, Nat.le_of_ble_eq_true rfl⟩ dX6_bridge_8 ?_
  obtain ⟨r2, hr2, hf⟩ := bind_some hf
  refine tt_callM (pc := 11) (ws := (xC cy xd sX aX uG es ea sT aT tT pT qT ma r1.2.1 r1.2.2 tL pL qL sK aK tK pK qK sH rH uH)) (q0 := 0) (ci := 6) (rest := []) (st' := [.int r2.1]) C rfl (k_X6_counted hr2) okX6_counted q2_15 rfl xC_obj rfl rfl rfl (Nat.le_of_ble_eq_true rfl) ⟨Nat.le_of_ble_eq_true rfl, Nat.le_of_ble_eq_true rfl⟩ dX6_bridge_11 ?_
  obtain rfl := Option.some.inj hf
  exact tt_ireturn (pc := 14) C rfl rfl rfl dX6_bridge_14
theorem dX1_hasBridge_0 : decode cX1_hasBridge 0 = .ok (.iload_n 1, 1) := by decide +kernel
theorem dX1_hasBridge_1 : decode cX1_hasBridge 1 = .ok (.ifCond .lt 15, 3) := by decide +kernel
theorem dX1_hasBridge_4 : decode cX1_hasBridge 4 = .ok (.iload_n 1, 1) := by decide +kernel
theorem dX1_hasBridge_5 : decode cX1_hasBridge 5 = .ok (.aload_n 0, 1) := by decide +kernel
theorem dX1_hasBridge_6 : decode cX1_hasBridge 6 = .ok (.getfield 19, 3) := by decide +kernel
theorem dX1_hasBridge_9 : decode cX1_hasBridge 9 = .ok (.if_icmp .ge 7, 3) := by decide +kernel
theorem dX1_hasBridge_12 : decode cX1_hasBridge 12 = .ok (.iconst 1, 1) := by decide +kernel
theorem dX1_hasBridge_13 : decode cX1_hasBridge 13 = .ok (.goto 4, 3) := by decide +kernel
theorem dX1_hasBridge_16 : decode cX1_hasBridge 16 = .ok (.iconst 0, 1) := by decide +kernel
theorem dX1_hasBridge_17 : decode cX1_hasBridge 17 = .ok (.ireturn, 1) := by decide +kernel
set_option maxHeartbeats 4000000 in
set_option maxRecDepth 100000 in
theorem k_X1_hasBridge {l : Launch} {D : va_G} {cy : Nat → ClassId} {Bd : Nat} {xa : Xa} {ad : Nat → Nat} {N : Nat} {sc : Nat → Int32} {ar : Nat → Nat → Int32} {tr : Nat → Nat → Int32} {ps : Nat → Int32} {pa : Nat → Nat → Int32} {a1 : Int32} {out : Int32} (hf : f_X1_hasBridge N sc a1 = some out) : KC l yX1_hasBridge cX1_hasBridge 2 (some .boolean) 0 0 true D cy Bd xa [.ref (ad 0), .int a1] (lC cy ad sc ar tr ps pa) (some (.int out)) (lC cy ad sc ar tr ps pa) := by
  refine kc_start (own := RX1) (by decide +kernel) rfl (Nat.le_of_ble_eq_true rfl) ?_
  intro p e s m args below meth c A C
  unfold f_X1_hasBridge at hf
  refine tt_locs (L' := [(0, .ref (ad 0)), (1, .int a1)]) [0, 1] rfl ?_
  refine tt_iload_n (pc := 0) (k := 1) C dX1_hasBridge_0 rfl rfl ?_
  have k3 : TT p l e { frames := 0, cells := 0, slots := 0, locals := 0 } s m args below meth c 2 D A true (some (.int out)) (lC cy ad sc ar tr ps pa) 17 [] [.int (if a1 < 0 then (0 : Int32) else (if (sc 2) ≤ a1 then (0 : Int32) else (1 : Int32)))] (lC cy ad sc ar tr ps pa) := by
    obtain rfl := Option.some.inj hf
    exact tt_zreturn (pc := 17) C rfl (nb_if rfl (nb_if rfl rfl)) rfl rfl dX1_hasBridge_17
  refine tr_if_lt (pc := 1) (tgt := 16) C dX1_hasBridge_1 (by decide) (fun c1 => ?_) (fun c1 => ?_)
  · refine tt_iconst (pc := 16) (v := (0 : Int32)) C dX1_hasBridge_16 (by decide) ?_
    try simp only [if_pos c1] at k3 ⊢
    exact tt_locs [] rfl k3
  · refine tt_iload_n (pc := 4) (k := 1) C dX1_hasBridge_4 rfl rfl ?_
    refine tt_aload_n (pc := 5) (k := 0) C dX1_hasBridge_5 rfl rfl ?_
    refine tt_get (pc := 6) (ws := (lC cy ad sc ar tr ps pa)) (ci := 1) (v := .int (sc 2)) C fiX1 rfl 0 lC_obj 2 (by decide) q1_87 rfl dX1_hasBridge_6 ?_
    refine tr_icmp_ge (pc := 9) (tgt := 16) C dX1_hasBridge_9 (by decide) (fun c2 => ?_) (fun c2 => ?_)
    · refine tt_iconst (pc := 16) (v := (0 : Int32)) C dX1_hasBridge_16 (by decide) ?_
      try simp only [if_neg c1, if_pos c2] at k3 ⊢
      exact tt_locs [] rfl k3
    · refine tt_iconst (pc := 12) (v := (1 : Int32)) C dX1_hasBridge_12 (by decide) ?_
      refine tt_goto (pc := 13) (tgt := 17) C dX1_hasBridge_13 (by decide) ?_
      try simp only [if_neg c1, if_neg c2] at k3 ⊢
      exact tt_locs [] rfl k3
theorem dX6_fells_0 : decode cX6_fells 0 = .ok (.aload_n 0, 1) := by decide +kernel
theorem dX6_fells_1 : decode cX6_fells 1 = .ok (.getfield 10, 3) := by decide +kernel
theorem dX6_fells_4 : decode cX6_fells 4 = .ok (.iload_n 1, 1) := by decide +kernel
theorem dX6_fells_5 : decode cX6_fells 5 = .ok (.invokevirtual 83, 3) := by decide +kernel
theorem dX6_fells_8 : decode cX6_fells 8 = .ok (.ifCond .ne 9, 3) := by decide +kernel
theorem dX6_fells_11 : decode cX6_fells 11 = .ok (.aload_n 0, 1) := by decide +kernel
theorem dX6_fells_12 : decode cX6_fells 12 = .ok (.iconst (-1), 1) := by decide +kernel
theorem dX6_fells_13 : decode cX6_fells 13 = .ok (.invokevirtual 87, 3) := by decide +kernel
theorem dX6_fells_16 : decode cX6_fells 16 = .ok (.ireturn, 1) := by decide +kernel
theorem dX6_fells_17 : decode cX6_fells 17 = .ok (.aload_n 0, 1) := by decide +kernel
theorem dX6_fells_18 : decode cX6_fells 18 = .ok (.getfield 10, 3) := by decide +kernel
theorem dX6_fells_21 : decode cX6_fells 21 = .ok (.iload_n 1, 1) := by decide +kernel
theorem dX6_fells_22 : decode cX6_fells 22 = .ok (.invokevirtual 90, 3) := by decide +kernel
theorem dX6_fells_25 : decode cX6_fells 25 = .ok (.aload_n 0, 1) := by decide +kernel
theorem dX6_fells_26 : decode cX6_fells 26 = .ok (.getfield 10, 3) := by decide +kernel
theorem dX6_fells_29 : decode cX6_fells 29 = .ok (.getfield 94, 3) := by decide +kernel
theorem dX6_fells_32 : decode cX6_fells 32 = .ok (.ireturn, 1) := by decide +kernel
set_option maxHeartbeats 4000000 in
set_option maxRecDepth 100000 in
theorem k_X6_fells {l : Launch} {D : va_G} {cy : Nat → ClassId} {Bd : Nat} {xa : Xa} {xd : Nat → Nat → Nat} {N : Nat} {sX : Nat → Int32} {aX : Nat → Nat → Int32} {uG : Nat → Int32} {es : Nat → Int32} {ea : Nat → Nat → Int32} {sT : Nat → Int32} {aT : Nat → Nat → Int32} {tT : Nat → Nat → Int32} {pT : Nat → Int32} {qT : Nat → Nat → Int32} {ma : Nat → Nat → Int32} {sL : Nat → Int32} {aL : Nat → Nat → Int32} {tL : Nat → Nat → Int32} {pL : Nat → Int32} {qL : Nat → Nat → Int32} {sK : Nat → Int32} {aK : Nat → Nat → Int32} {tK : Nat → Nat → Int32} {pK : Nat → Int32} {qK : Nat → Nat → Int32} {sH : Nat → Nat → Int32} {rH : Nat → Nat → Int64} {uH : Nat → Nat → Int32} {a1 : Int32} {out : Int32 × (Nat → Nat → Int32) × (Nat → Int32) × (Nat → Nat → Int32)} (hf : f_X6_fells N aX sL aL a1 = some out) : KC l yX6_fells cX6_fells 2 (some .int) 1 22 false D cy Bd xa [.ref (xd 0 0), .int a1] (xC cy xd sX aX uG es ea sT aT tT pT qT ma sL aL tL pL qL sK aK tK pK qK sH rH uH) (some (.int out.1)) (xC cy xd sX out.2.1 uG es ea sT aT tT pT qT ma out.2.2.1 out.2.2.2 tL pL qL sK aK tK pK qK sH rH uH) := by
  refine kc_start (own := RX6) (by decide +kernel) rfl (Nat.le_of_ble_eq_true rfl) ?_
  intro p e s m args below meth c A C
  unfold f_X6_fells at hf
  refine tt_locs (L' := [(0, .ref (xd 0 0)), (1, .int a1)]) [0, 1] rfl ?_
  refine tt_aload_n (pc := 0) (k := 0) C dX6_fells_0 rfl rfl ?_
  refine tt_get (pc := 1) (ws := (xC cy xd sX aX uG es ea sT aT tT pT qT ma sL aL tL pL qL sK aK tK pK qK sH rH uH)) (ci := 6) (v := .ref ((xd 1) 0)) C fiX6 rfl 0 xC_obj 0 (by decide) q1_219 rfl dX6_fells_1 ?_
  refine tt_iload_n (pc := 4) (k := 1) C dX6_fells_4 rfl rfl ?_
  obtain ⟨r1, hr1, hf⟩ := bind_some hf
  refine tt_callR (pc := 5) (ws := (xC cy xd sX aX uG es ea sT aT tT pT qT ma sL aL tL pL qL sK aK tK pK qK sH rH uH)) (q0 := 28) (ci := 1) (rest := []) (st' := [.int r1]) C (k_X1_hasBridge hr1) okX1_hasBridge q2_238 rfl rfl xC_subL rfl rfl rfl (Nat.le_of_ble_eq_true rfl) ⟨Nat.le_of_ble_eq_true rfl, Nat.le_of_ble_eq_true rfl⟩ dX6_fells_5 ?_
  refine tt_if_ne (pc := 8) (tgt := 17) C dX6_fells_8 (by decide) hf (fun hf => ?_) (fun hf => ?_)
  · refine tt_aload_n (pc := 17) (k := 0) C dX6_fells_17 rfl rfl ?_
    refine tt_get (pc := 18) (ws := (xC cy xd sX aX uG es ea sT aT tT pT qT ma sL aL tL pL qL sK aK tK pK qK sH rH uH)) (ci := 6) (v := .ref ((xd 1) 0)) C fiX6 rfl 0 xC_obj 0 (by decide) q1_219 rfl dX6_fells_18 ?_
    refine tt_iload_n (pc := 21) (k := 1) C dX6_fells_21 rfl rfl ?_
    obtain ⟨r2, hr2, hf⟩ := bind_some hf
    refine tt_callG (pc := 22) (ws := (xC cy xd sX aX uG es ea sT aT tT pT qT ma sL aL tL pL qL sK aK tK pK qK sH rH uH)) (ws' := (xC cy xd sX aX uG es ea sT aT tT pT qT ma r2.1 r2.2 tL pL qL sK aK tK pK qK sH rH uH)) (q0 := 28) (ci := 1) (rest := []) (st' := []) C rfl (k_X1_removeBridge hr2) okX1_removeBridge q3_2 rfl rfl _ _ xs_L xs_L.symm rfl rfl rfl (Nat.le_of_ble_eq_true rfl) ⟨Nat.le_of_ble_eq_true rfl, Nat.le_of_ble_eq_true rfl⟩ dX6_fells_22 ?_
    refine tt_aload_n (pc := 25) (k := 0) C dX6_fells_25 rfl rfl ?_
    refine tt_get (pc := 26) (ws := (xC cy xd sX aX uG es ea sT aT tT pT qT ma r2.1 r2.2 tL pL qL sK aK tK pK qK sH rH uH)) (ci := 6) (v := .ref ((xd 1) 0)) C fiX6 rfl 0 xC_obj 0 (by decide) q1_219 rfl dX6_fells_26 ?_
    refine tt_get (pc := 29) (ws := (xC cy xd sX aX uG es ea sT aT tT pT qT ma r2.1 r2.2 tL pL qL sK aK tK pK qK sH rH uH)) (ci := 1) (v := .int (r2.1 2)) C fiX1 rfl 28 rfl 2 (by decide) q1_88 rfl dX6_fells_29 ?_
    obtain rfl := Option.some.inj hf
    exact tt_ireturn (pc := 32) C rfl rfl rfl dX6_fells_32
  · refine tt_aload_n (pc := 11) (k := 0) C dX6_fells_11 rfl rfl ?_
    refine tt_iconst (pc := 12) (v := (-1 : Int32)) C dX6_fells_12 (by decide) ?_
    obtain ⟨r3, hr3, hf⟩ := bind_some hf
    refine tt_callM (pc := 13) (ws := (xC cy xd sX aX uG es ea sT aT tT pT qT ma sL aL tL pL qL sK aK tK pK qK sH rH uH)) (q0 := 0) (ci := 6) (rest := []) (st' := [.int r3.1]) C rfl (k_X6_refused hr3) okX6_refused q2_19 rfl xC_obj rfl rfl rfl (Nat.le_of_ble_eq_true rfl) ⟨Nat.le_of_ble_eq_true rfl, Nat.le_of_ble_eq_true rfl⟩ dX6_fells_13 ?_
    obtain rfl := Option.some.inj hf
    exact tt_ireturn (pc := 16) C rfl rfl rfl dX6_fells_16
theorem dX6_post_0 : decode cX6_post 0 = .ok (.aload_n 0, 1) := by decide +kernel
theorem dX6_post_1 : decode cX6_post 1 = .ok (.aload_n 0, 1) := by decide +kernel
theorem dX6_post_2 : decode cX6_post 2 = .ok (.getfield 10, 3) := by decide +kernel
theorem dX6_post_5 : decode cX6_post 5 = .ok (.iload_n 1, 1) := by decide +kernel
theorem dX6_post_6 : decode cX6_post 6 = .ok (.iload_n 2, 1) := by decide +kernel
theorem dX6_post_7 : decode cX6_post 7 = .ok (.invokevirtual 98, 3) := by decide +kernel
theorem dX6_post_10 : decode cX6_post 10 = .ok (.invokevirtual 62, 3) := by decide +kernel
theorem dX6_post_13 : decode cX6_post 13 = .ok (.ireturn, 1) := by decide +kernel
set_option maxHeartbeats 4000000 in
set_option maxRecDepth 100000 in
theorem k_X6_post {l : Launch} {D : va_G} {cy : Nat → ClassId} {Bd : Nat} {xa : Xa} {xd : Nat → Nat → Nat} {N : Nat} {sX : Nat → Int32} {aX : Nat → Nat → Int32} {uG : Nat → Int32} {es : Nat → Int32} {ea : Nat → Nat → Int32} {sT : Nat → Int32} {aT : Nat → Nat → Int32} {tT : Nat → Nat → Int32} {pT : Nat → Int32} {qT : Nat → Nat → Int32} {ma : Nat → Nat → Int32} {sL : Nat → Int32} {aL : Nat → Nat → Int32} {tL : Nat → Nat → Int32} {pL : Nat → Int32} {qL : Nat → Nat → Int32} {sK : Nat → Int32} {aK : Nat → Nat → Int32} {tK : Nat → Nat → Int32} {pK : Nat → Int32} {qK : Nat → Nat → Int32} {sH : Nat → Nat → Int32} {rH : Nat → Nat → Int64} {uH : Nat → Nat → Int32} {a1 : Int32} {a2 : Int32} {out : Int32 × (Nat → Nat → Int32) × (Nat → Int32) × (Nat → Nat → Int32)} (hf : f_X6_post N aX sL aL a1 a2 = some out) : KC l yX6_post cX6_post 3 (some .int) 2 44 false D cy Bd xa [.ref (xd 0 0), .int a1, .int a2] (xC cy xd sX aX uG es ea sT aT tT pT qT ma sL aL tL pL qL sK aK tK pK qK sH rH uH) (some (.int out.1)) (xC cy xd sX out.2.1 uG es ea sT aT tT pT qT ma out.2.2.1 out.2.2.2 tL pL qL sK aK tK pK qK sH rH uH) := by
  refine kc_start (own := RX6) (by decide +kernel) rfl (Nat.le_of_ble_eq_true rfl) ?_
  intro p e s m args below meth c A C
  unfold f_X6_post at hf
  refine tt_locs (L' := [(0, .ref (xd 0 0)), (1, .int a1), (2, .int a2)]) [0, 1, 2] rfl ?_
  refine tt_aload_n (pc := 0) (k := 0) C dX6_post_0 rfl rfl ?_
  refine tt_aload_n (pc := 1) (k := 0) C dX6_post_1 rfl rfl ?_
  refine tt_get (pc := 2) (ws := (xC cy xd sX aX uG es ea sT aT tT pT qT ma sL aL tL pL qL sK aK tK pK qK sH rH uH)) (ci := 6) (v := .ref ((xd 1) 0)) C fiX6 rfl 0 xC_obj 0 (by decide) q1_219 rfl dX6_post_2 ?_
  refine tt_iload_n (pc := 5) (k := 1) C dX6_post_5 rfl rfl ?_
  refine tt_iload_n (pc := 6) (k := 2) C dX6_post_6 rfl rfl ?_
  obtain ⟨r1, hr1, hf⟩ := bind_some hf
  refine tt_callG (pc := 7) (ws := (xC cy xd sX aX uG es ea sT aT tT pT qT ma sL aL tL pL qL sK aK tK pK qK sH rH uH)) (ws' := (xC cy xd sX aX uG es ea sT aT tT pT qT ma r1.2.1 r1.2.2 tL pL qL sK aK tK pK qK sH rH uH)) (q0 := 28) (ci := 1) (rest := [.ref (xd 0 0)]) (st' := [.int r1.1, .ref (xd 0 0)]) C rfl (k_X1_addPost hr1) okX1_addPost q3_7 rfl rfl _ _ xs_L xs_L.symm rfl rfl rfl (Nat.le_of_ble_eq_true rfl) ⟨Nat.le_of_ble_eq_true rfl, Nat.le_of_ble_eq_true rfl⟩ dX6_post_7 ?_
  obtain ⟨r2, hr2, hf⟩ := bind_some hf
  refine tt_callM (pc := 10) (ws := (xC cy xd sX aX uG es ea sT aT tT pT qT ma r1.2.1 r1.2.2 tL pL qL sK aK tK pK qK sH rH uH)) (q0 := 0) (ci := 6) (rest := []) (st' := [.int r2.1]) C rfl (k_X6_counted hr2) okX6_counted q2_15 rfl xC_obj rfl rfl rfl (Nat.le_of_ble_eq_true rfl) ⟨Nat.le_of_ble_eq_true rfl, Nat.le_of_ble_eq_true rfl⟩ dX6_post_10 ?_
  obtain rfl := Option.some.inj hf
  exact tt_ireturn (pc := 13) C rfl rfl rfl dX6_post_13
theorem dX1_hasPost_0 : decode cX1_hasPost 0 = .ok (.iload_n 1, 1) := by decide +kernel
theorem dX1_hasPost_1 : decode cX1_hasPost 1 = .ok (.ifCond .lt 15, 3) := by decide +kernel
theorem dX1_hasPost_4 : decode cX1_hasPost 4 = .ok (.iload_n 1, 1) := by decide +kernel
theorem dX1_hasPost_5 : decode cX1_hasPost 5 = .ok (.aload_n 0, 1) := by decide +kernel
theorem dX1_hasPost_6 : decode cX1_hasPost 6 = .ok (.getfield 31, 3) := by decide +kernel
theorem dX1_hasPost_9 : decode cX1_hasPost 9 = .ok (.if_icmp .ge 7, 3) := by decide +kernel
theorem dX1_hasPost_12 : decode cX1_hasPost 12 = .ok (.iconst 1, 1) := by decide +kernel
theorem dX1_hasPost_13 : decode cX1_hasPost 13 = .ok (.goto 4, 3) := by decide +kernel
theorem dX1_hasPost_16 : decode cX1_hasPost 16 = .ok (.iconst 0, 1) := by decide +kernel
theorem dX1_hasPost_17 : decode cX1_hasPost 17 = .ok (.ireturn, 1) := by decide +kernel
set_option maxHeartbeats 4000000 in
set_option maxRecDepth 100000 in
theorem k_X1_hasPost {l : Launch} {D : va_G} {cy : Nat → ClassId} {Bd : Nat} {xa : Xa} {ad : Nat → Nat} {N : Nat} {sc : Nat → Int32} {ar : Nat → Nat → Int32} {tr : Nat → Nat → Int32} {ps : Nat → Int32} {pa : Nat → Nat → Int32} {a1 : Int32} {out : Int32} (hf : f_X1_hasPost N sc a1 = some out) : KC l yX1_hasPost cX1_hasPost 2 (some .boolean) 0 0 true D cy Bd xa [.ref (ad 0), .int a1] (lC cy ad sc ar tr ps pa) (some (.int out)) (lC cy ad sc ar tr ps pa) := by
  refine kc_start (own := RX1) (by decide +kernel) rfl (Nat.le_of_ble_eq_true rfl) ?_
  intro p e s m args below meth c A C
  unfold f_X1_hasPost at hf
  refine tt_locs (L' := [(0, .ref (ad 0)), (1, .int a1)]) [0, 1] rfl ?_
  refine tt_iload_n (pc := 0) (k := 1) C dX1_hasPost_0 rfl rfl ?_
  have k3 : TT p l e { frames := 0, cells := 0, slots := 0, locals := 0 } s m args below meth c 2 D A true (some (.int out)) (lC cy ad sc ar tr ps pa) 17 [] [.int (if a1 < 0 then (0 : Int32) else (if (sc 6) ≤ a1 then (0 : Int32) else (1 : Int32)))] (lC cy ad sc ar tr ps pa) := by
    obtain rfl := Option.some.inj hf
    exact tt_zreturn (pc := 17) C rfl (nb_if rfl (nb_if rfl rfl)) rfl rfl dX1_hasPost_17
  refine tr_if_lt (pc := 1) (tgt := 16) C dX1_hasPost_1 (by decide) (fun c1 => ?_) (fun c1 => ?_)
  · refine tt_iconst (pc := 16) (v := (0 : Int32)) C dX1_hasPost_16 (by decide) ?_
    try simp only [if_pos c1] at k3 ⊢
    exact tt_locs [] rfl k3
  · refine tt_iload_n (pc := 4) (k := 1) C dX1_hasPost_4 rfl rfl ?_
    refine tt_aload_n (pc := 5) (k := 0) C dX1_hasPost_5 rfl rfl ?_
    refine tt_get (pc := 6) (ws := (lC cy ad sc ar tr ps pa)) (ci := 1) (v := .int (sc 6)) C fiX1 rfl 0 lC_obj 6 (by decide) q1_95 rfl dX1_hasPost_6 ?_
    refine tr_icmp_ge (pc := 9) (tgt := 16) C dX1_hasPost_9 (by decide) (fun c2 => ?_) (fun c2 => ?_)
    · refine tt_iconst (pc := 16) (v := (0 : Int32)) C dX1_hasPost_16 (by decide) ?_
      try simp only [if_neg c1, if_pos c2] at k3 ⊢
      exact tt_locs [] rfl k3
    · refine tt_iconst (pc := 12) (v := (1 : Int32)) C dX1_hasPost_12 (by decide) ?_
      refine tt_goto (pc := 13) (tgt := 17) C dX1_hasPost_13 (by decide) ?_
      try simp only [if_neg c1, if_neg c2] at k3 ⊢
      exact tt_locs [] rfl k3
theorem dX1_setPost_0 : decode cX1_setPost 0 = .ok (.aload_n 0, 1) := by decide +kernel
theorem dX1_setPost_1 : decode cX1_setPost 1 = .ok (.iload_n 1, 1) := by decide +kernel
theorem dX1_setPost_2 : decode cX1_setPost 2 = .ok (.invokevirtual 91, 3) := by decide +kernel
theorem dX1_setPost_5 : decode cX1_setPost 5 = .ok (.ifCond .eq 11, 3) := by decide +kernel
theorem dX1_setPost_8 : decode cX1_setPost 8 = .ok (.aload_n 0, 1) := by decide +kernel
theorem dX1_setPost_9 : decode cX1_setPost 9 = .ok (.iload_n 2, 1) := by decide +kernel
theorem dX1_setPost_10 : decode cX1_setPost 10 = .ok (.invokevirtual 83, 3) := by decide +kernel
theorem dX1_setPost_13 : decode cX1_setPost 13 = .ok (.ifCond .ne 5, 3) := by decide +kernel
theorem dX1_setPost_16 : decode cX1_setPost 16 = .ok (.iconst (-1), 1) := by decide +kernel
theorem dX1_setPost_17 : decode cX1_setPost 17 = .ok (.ireturn, 1) := by decide +kernel
theorem dX1_setPost_18 : decode cX1_setPost 18 = .ok (.iload_n 3, 1) := by decide +kernel
theorem dX1_setPost_19 : decode cX1_setPost 19 = .ok (.ifCond .ge 6, 3) := by decide +kernel
theorem dX1_setPost_22 : decode cX1_setPost 22 = .ok (.bipush (-4), 2) := by decide +kernel
theorem dX1_setPost_24 : decode cX1_setPost 24 = .ok (.ireturn, 1) := by decide +kernel
theorem dX1_setPost_25 : decode cX1_setPost 25 = .ok (.iload_n 3, 1) := by decide +kernel
theorem dX1_setPost_26 : decode cX1_setPost 26 = .ok (.bipush 15, 2) := by decide +kernel
theorem dX1_setPost_28 : decode cX1_setPost 28 = .ok (.if_icmp .le 6, 3) := by decide +kernel
theorem dX1_setPost_31 : decode cX1_setPost 31 = .ok (.bipush (-6), 2) := by decide +kernel
theorem dX1_setPost_33 : decode cX1_setPost 33 = .ok (.ireturn, 1) := by decide +kernel
theorem dX1_setPost_34 : decode cX1_setPost 34 = .ok (.aload_n 0, 1) := by decide +kernel
theorem dX1_setPost_35 : decode cX1_setPost 35 = .ok (.iload_n 2, 1) := by decide +kernel
theorem dX1_setPost_36 : decode cX1_setPost 36 = .ok (.invokevirtual 87, 3) := by decide +kernel
theorem dX1_setPost_39 : decode cX1_setPost 39 = .ok (.istore 4, 2) := by decide +kernel
theorem dX1_setPost_41 : decode cX1_setPost 41 = .ok (.iload 4, 2) := by decide +kernel
theorem dX1_setPost_43 : decode cX1_setPost 43 = .ok (.bipush (-9), 2) := by decide +kernel
theorem dX1_setPost_45 : decode cX1_setPost 45 = .ok (.if_icmp .eq 12, 3) := by decide +kernel
theorem dX1_setPost_48 : decode cX1_setPost 48 = .ok (.iload 4, 2) := by decide +kernel
theorem dX1_setPost_50 : decode cX1_setPost 50 = .ok (.iload_n 1, 1) := by decide +kernel
theorem dX1_setPost_51 : decode cX1_setPost 51 = .ok (.if_icmp .eq 6, 3) := by decide +kernel
theorem dX1_setPost_54 : decode cX1_setPost 54 = .ok (.bipush (-3), 2) := by decide +kernel
theorem dX1_setPost_56 : decode cX1_setPost 56 = .ok (.ireturn, 1) := by decide +kernel
theorem dX1_setPost_57 : decode cX1_setPost 57 = .ok (.bipush 100, 2) := by decide +kernel
theorem dX1_setPost_59 : decode cX1_setPost 59 = .ok (.aload_n 0, 1) := by decide +kernel
theorem dX1_setPost_60 : decode cX1_setPost 60 = .ok (.getfield 34, 3) := by decide +kernel
theorem dX1_setPost_63 : decode cX1_setPost 63 = .ok (.iload_n 1, 1) := by decide +kernel
theorem dX1_setPost_64 : decode cX1_setPost 64 = .ok (.iaload, 1) := by decide +kernel
theorem dX1_setPost_65 : decode cX1_setPost 65 = .ok (.imul, 1) := by decide +kernel
theorem dX1_setPost_66 : decode cX1_setPost 66 = .ok (.aload_n 0, 1) := by decide +kernel
theorem dX1_setPost_67 : decode cX1_setPost 67 = .ok (.getfield 37, 3) := by decide +kernel
theorem dX1_setPost_70 : decode cX1_setPost 70 = .ok (.iload_n 1, 1) := by decide +kernel
theorem dX1_setPost_71 : decode cX1_setPost 71 = .ok (.iaload, 1) := by decide +kernel
theorem dX1_setPost_72 : decode cX1_setPost 72 = .ok (.iadd, 1) := by decide +kernel
theorem dX1_setPost_73 : decode cX1_setPost 73 = .ok (.istore 5, 2) := by decide +kernel
theorem dX1_setPost_75 : decode cX1_setPost 75 = .ok (.aload_n 0, 1) := by decide +kernel
theorem dX1_setPost_76 : decode cX1_setPost 76 = .ok (.getfield 34, 3) := by decide +kernel
theorem dX1_setPost_79 : decode cX1_setPost 79 = .ok (.iload_n 1, 1) := by decide +kernel
theorem dX1_setPost_80 : decode cX1_setPost 80 = .ok (.iload_n 2, 1) := by decide +kernel
theorem dX1_setPost_81 : decode cX1_setPost 81 = .ok (.iastore, 1) := by decide +kernel
theorem dX1_setPost_82 : decode cX1_setPost 82 = .ok (.aload_n 0, 1) := by decide +kernel
theorem dX1_setPost_83 : decode cX1_setPost 83 = .ok (.getfield 37, 3) := by decide +kernel
theorem dX1_setPost_86 : decode cX1_setPost 86 = .ok (.iload_n 1, 1) := by decide +kernel
theorem dX1_setPost_87 : decode cX1_setPost 87 = .ok (.iload_n 3, 1) := by decide +kernel
theorem dX1_setPost_88 : decode cX1_setPost 88 = .ok (.iastore, 1) := by decide +kernel
theorem dX1_setPost_89 : decode cX1_setPost 89 = .ok (.iload 5, 2) := by decide +kernel
theorem dX1_setPost_91 : decode cX1_setPost 91 = .ok (.ireturn, 1) := by decide +kernel
set_option maxHeartbeats 4000000 in
set_option maxRecDepth 100000 in
theorem k_X1_setPost {l : Launch} {D : va_G} {cy : Nat → ClassId} {Bd : Nat} {xa : Xa} {ad : Nat → Nat} {N : Nat} {sc : Nat → Int32} {ar : Nat → Nat → Int32} {tr : Nat → Nat → Int32} {ps : Nat → Int32} {pa : Nat → Nat → Int32} {a1 : Int32} {a2 : Int32} {a3 : Int32} {out : Int32 × (Nat → Nat → Int32)} (hf : f_X1_setPost N sc ar a1 a2 a3 = some out) : KC l yX1_setPost cX1_setPost 6 (some .int) 1 22 false D cy Bd xa [.ref (ad 0), .int a1, .int a2, .int a3] (lC cy ad sc ar tr ps pa) (some (.int out.1)) (lC cy ad sc out.2 tr ps pa) := by
  refine kc_start (own := RX1) (by decide +kernel) rfl (Nat.le_of_ble_eq_true rfl) ?_
  intro p e s m args below meth c A C
  unfold f_X1_setPost at hf
  refine tt_locs (L' := [(0, .ref (ad 0)), (1, .int a1), (2, .int a2), (3, .int a3)]) [0, 1, 2, 3] rfl ?_
  refine tt_aload_n (pc := 0) (k := 0) C dX1_setPost_0 rfl rfl ?_
  refine tt_iload_n (pc := 1) (k := 1) C dX1_setPost_1 rfl rfl ?_
  obtain ⟨r1, hr1, hf⟩ := bind_some hf
  refine tt_callR (pc := 2) (ws := (lC cy ad sc ar tr ps pa)) (q0 := 0) (ci := 1) (rest := []) (st' := [.int r1]) C (k_X1_hasPost hr1) okX1_hasPost q3_16 rfl lC_obj (fun _ h => h) rfl rfl rfl (Nat.le_of_ble_eq_true rfl) ⟨Nat.le_of_ble_eq_true rfl, Nat.le_of_ble_eq_true rfl⟩ dX1_setPost_2 ?_
  refine tt_if_eq (pc := 5) (tgt := 16) C dX1_setPost_5 (by decide) hf (fun hf => ?_) (fun hf => ?_)
  · refine tt_iconst (pc := 16) (v := (-1 : Int32)) C dX1_setPost_16 (by decide) ?_
    obtain rfl := Option.some.inj hf
    exact tt_ireturn (pc := 17) C rfl rfl rfl dX1_setPost_17
  · refine tt_aload_n (pc := 8) (k := 0) C dX1_setPost_8 rfl rfl ?_
    refine tt_iload_n (pc := 9) (k := 2) C dX1_setPost_9 rfl rfl ?_
    obtain ⟨r2, hr2, hf⟩ := bind_some hf
    refine tt_callR (pc := 10) (ws := (lC cy ad sc ar tr ps pa)) (q0 := 0) (ci := 1) (rest := []) (st' := [.int r2]) C (k_X1_hasCell hr2) okX1_hasCell q2_157 rfl lC_obj (fun _ h => h) rfl rfl rfl (Nat.le_of_ble_eq_true rfl) ⟨Nat.le_of_ble_eq_true rfl, Nat.le_of_ble_eq_true rfl⟩ dX1_setPost_10 ?_
    refine tt_if_ne (pc := 13) (tgt := 18) C dX1_setPost_13 (by decide) hf (fun hf => ?_) (fun hf => ?_)
    · refine tt_iload_n (pc := 18) (k := 3) C dX1_setPost_18 rfl rfl ?_
      refine tt_if_ge (pc := 19) (tgt := 25) C dX1_setPost_19 (by decide) hf (fun hf => ?_) (fun hf => ?_)
      · refine tt_iload_n (pc := 25) (k := 3) C dX1_setPost_25 rfl rfl ?_
        refine tt_bipush (pc := 26) (v := (15 : Int32)) C dX1_setPost_26 (by decide) ?_
        refine tt_icmp_le (pc := 28) (tgt := 34) C dX1_setPost_28 (by decide) hf (fun hf => ?_) (fun hf => ?_)
        · refine tt_aload_n (pc := 34) (k := 0) C dX1_setPost_34 rfl rfl ?_
          refine tt_iload_n (pc := 35) (k := 2) C dX1_setPost_35 rfl rfl ?_
          obtain ⟨r3, hr3, hf⟩ := bind_some hf
          refine tt_callR (pc := 36) (ws := (lC cy ad sc ar tr ps pa)) (q0 := 0) (ci := 1) (rest := []) (st' := [.int r3]) C (k_X1_postAt hr3) okX1_postAt q2_169 rfl lC_obj (fun _ h => h) rfl rfl rfl (Nat.le_of_ble_eq_true rfl) ⟨Nat.le_of_ble_eq_true rfl, Nat.le_of_ble_eq_true rfl⟩ dX1_setPost_36 ?_
          refine tt_istore (pc := 39) (L' := [(4, .int r3), (0, .ref (ad 0)), (1, .int a1), (2, .int a2), (3, .int a3)]) C dX1_setPost_39 (by decide) rfl ?_
          refine tt_iload (pc := 41) (k := 0) C dX1_setPost_41 rfl ?_
          refine tt_bipush (pc := 43) (v := (-9 : Int32)) C dX1_setPost_43 (by decide) ?_
          refine tt_icmp_eq (pc := 45) (tgt := 57) C dX1_setPost_45 (by decide) hf (fun hf => ?_) (fun hf => ?_)
          · refine tt_bipush (pc := 57) (v := (100 : Int32)) C dX1_setPost_57 (by decide) ?_
            refine tt_aload_n (pc := 59) (k := 1) C dX1_setPost_59 rfl rfl ?_
            refine tt_get (pc := 60) (ws := (lC cy ad sc ar tr ps pa)) (ci := 1) (v := .ref (ad 7)) C fiX1 rfl 0 lC_obj 7 (by decide) q1_98 rfl dX1_setPost_60 ?_
            refine tt_iload_n (pc := 63) (k := 2) C dX1_setPost_63 rfl rfl ?_
            refine tt_iaload (pc := 64) (ws := (lC cy ad sc ar tr ps pa)) (n := 5) (f := (ar 7)) C 5 0 lC_get7 rfl hf dX1_setPost_64 (fun hf => ?_)
            refine tt_imul (pc := 65) C dX1_setPost_65 ?_
            refine tt_aload_n (pc := 66) (k := 1) C dX1_setPost_66 rfl rfl ?_
            refine tt_get (pc := 67) (ws := (lC cy ad sc ar tr ps pa)) (ci := 1) (v := .ref (ad 8)) C fiX1 rfl 0 lC_obj 8 (by decide) q1_101 rfl dX1_setPost_67 ?_
            refine tt_iload_n (pc := 70) (k := 2) C dX1_setPost_70 rfl rfl ?_
            refine tt_iaload (pc := 71) (ws := (lC cy ad sc ar tr ps pa)) (n := 5) (f := (ar 8)) C 6 0 lC_get8 rfl hf dX1_setPost_71 (fun hf => ?_)
            refine tt_iadd (pc := 72) C dX1_setPost_72 ?_
            refine tt_istore (pc := 73) (L' := [(5, .int (((100 : Int32) * ((ar 7) (ix a1))) + ((ar 8) (ix a1)))), (4, .int r3), (0, .ref (ad 0)), (1, .int a1), (2, .int a2), (3, .int a3)]) C dX1_setPost_73 (by decide) rfl ?_
            refine tt_aload_n (pc := 75) (k := 2) C dX1_setPost_75 rfl rfl ?_
            refine tt_get (pc := 76) (ws := (lC cy ad sc ar tr ps pa)) (ci := 1) (v := .ref (ad 7)) C fiX1 rfl 0 lC_obj 7 (by decide) q1_98 rfl dX1_setPost_76 ?_
            refine tt_iload_n (pc := 79) (k := 3) C dX1_setPost_79 rfl rfl ?_
            refine tt_iload_n (pc := 80) (k := 4) C dX1_setPost_80 rfl rfl ?_
            refine tt_iastore (pc := 81) (ws := (lC cy ad sc ar tr ps pa)) (n := 5) (f := (ar 7)) (ws' := (lC cy ad sc (va_up ar 7 (upd (ar 7) (ix a1) a2)) tr ps pa)) C rfl 5 0 lC_get7 rfl hf dX1_setPost_81 lC_set7 (fun hf => ?_)
            refine tt_aload_n (pc := 82) (k := 2) C dX1_setPost_82 rfl rfl ?_
            refine tt_get (pc := 83) (ws := (lC cy ad sc (va_up ar 7 (upd (ar 7) (ix a1) a2)) tr ps pa)) (ci := 1) (v := .ref (ad 8)) C fiX1 rfl 0 lC_obj 8 (by decide) q1_101 rfl dX1_setPost_83 ?_
            refine tt_iload_n (pc := 86) (k := 3) C dX1_setPost_86 rfl rfl ?_
            refine tt_iload_n (pc := 87) (k := 5) C dX1_setPost_87 rfl rfl ?_
            refine tt_iastore (pc := 88) (ws := (lC cy ad sc (va_up ar 7 (upd (ar 7) (ix a1) a2)) tr ps pa)) (n := 5) (f := (ar 8)) (ws' := (lC cy ad sc (va_up (va_up ar 7 (upd (ar 7) (ix a1) a2)) 8 (upd (ar 8) (ix a1) a3)) tr ps pa)) C rfl 6 0 lC_get8 rfl hf dX1_setPost_88 lC_set8 (fun hf => ?_)
            refine tt_iload (pc := 89) (k := 0) C dX1_setPost_89 rfl ?_
            obtain rfl := Option.some.inj hf
            exact tt_ireturn (pc := 91) C rfl rfl rfl dX1_setPost_91
          · refine tt_iload (pc := 48) (k := 0) C dX1_setPost_48 rfl ?_
            refine tt_iload_n (pc := 50) (k := 2) C dX1_setPost_50 rfl rfl ?_
            refine tt_icmp_eq (pc := 51) (tgt := 57) C dX1_setPost_51 (by decide) hf (fun hf => ?_) (fun hf => ?_)
            · refine tt_bipush (pc := 57) (v := (100 : Int32)) C dX1_setPost_57 (by decide) ?_
              refine tt_aload_n (pc := 59) (k := 1) C dX1_setPost_59 rfl rfl ?_
              refine tt_get (pc := 60) (ws := (lC cy ad sc ar tr ps pa)) (ci := 1) (v := .ref (ad 7)) C fiX1 rfl 0 lC_obj 7 (by decide) q1_98 rfl dX1_setPost_60 ?_
              refine tt_iload_n (pc := 63) (k := 2) C dX1_setPost_63 rfl rfl ?_
              refine tt_iaload (pc := 64) (ws := (lC cy ad sc ar tr ps pa)) (n := 5) (f := (ar 7)) C 5 0 lC_get7 rfl hf dX1_setPost_64 (fun hf => ?_)
              refine tt_imul (pc := 65) C dX1_setPost_65 ?_
              refine tt_aload_n (pc := 66) (k := 1) C dX1_setPost_66 rfl rfl ?_
              refine tt_get (pc := 67) (ws := (lC cy ad sc ar tr ps pa)) (ci := 1) (v := .ref (ad 8)) C fiX1 rfl 0 lC_obj 8 (by decide) q1_101 rfl dX1_setPost_67 ?_
              refine tt_iload_n (pc := 70) (k := 2) C dX1_setPost_70 rfl rfl ?_
              refine tt_iaload (pc := 71) (ws := (lC cy ad sc ar tr ps pa)) (n := 5) (f := (ar 8)) C 6 0 lC_get8 rfl hf dX1_setPost_71 (fun hf => ?_)
              refine tt_iadd (pc := 72) C dX1_setPost_72 ?_
              refine tt_istore (pc := 73) (L' := [(5, .int (((100 : Int32) * ((ar 7) (ix a1))) + ((ar 8) (ix a1)))), (4, .int r3), (0, .ref (ad 0)), (1, .int a1), (2, .int a2), (3, .int a3)]) C dX1_setPost_73 (by decide) rfl ?_
              refine tt_aload_n (pc := 75) (k := 2) C dX1_setPost_75 rfl rfl ?_
              refine tt_get (pc := 76) (ws := (lC cy ad sc ar tr ps pa)) (ci := 1) (v := .ref (ad 7)) C fiX1 rfl 0 lC_obj 7 (by decide) q1_98 rfl dX1_setPost_76 ?_
              refine tt_iload_n (pc := 79) (k := 3) C dX1_setPost_79 rfl rfl ?_
              refine tt_iload_n (pc := 80) (k := 4) C dX1_setPost_80 rfl rfl ?_
              refine tt_iastore (pc := 81) (ws := (lC cy ad sc ar tr ps pa)) (n := 5) (f := (ar 7)) (ws' := (lC cy ad sc (va_up ar 7 (upd (ar 7) (ix a1) a2)) tr ps pa)) C rfl 5 0 lC_get7 rfl hf dX1_setPost_81 lC_set7 (fun hf => ?_)
              refine tt_aload_n (pc := 82) (k := 2) C dX1_setPost_82 rfl rfl ?_
              refine tt_get (pc := 83) (ws := (lC cy ad sc (va_up ar 7 (upd (ar 7) (ix a1) a2)) tr ps pa)) (ci := 1) (v := .ref (ad 8)) C fiX1 rfl 0 lC_obj 8 (by decide) q1_101 rfl dX1_setPost_83 ?_
              refine tt_iload_n (pc := 86) (k := 3) C dX1_setPost_86 rfl rfl ?_
              refine tt_iload_n (pc := 87) (k := 5) C dX1_setPost_87 rfl rfl ?_
              refine tt_iastore (pc := 88) (ws := (lC cy ad sc (va_up ar 7 (upd (ar 7) (ix a1) a2)) tr ps pa)) (n := 5) (f := (ar 8)) (ws' := (lC cy ad sc (va_up (va_up ar 7 (upd (ar 7) (ix a1) a2)) 8 (upd (ar 8) (ix a1) a3)) tr ps pa)) C rfl 6 0 lC_get8 rfl hf dX1_setPost_88 lC_set8 (fun hf => ?_)
              refine tt_iload (pc := 89) (k := 0) C dX1_setPost_89 rfl ?_
              obtain rfl := Option.some.inj hf
              exact tt_ireturn (pc := 91) C rfl rfl rfl dX1_setPost_91
            · refine tt_bipush (pc := 54) (v := (-3 : Int32)) C dX1_setPost_54 (by decide) ?_
              obtain rfl := Option.some.inj hf
              exact tt_ireturn (pc := 56) C rfl rfl rfl dX1_setPost_56
        · refine tt_bipush (pc := 31) (v := (-6 : Int32)) C dX1_setPost_31 (by decide) ?_
          obtain rfl := Option.some.inj hf
          exact tt_ireturn (pc := 33) C rfl rfl rfl dX1_setPost_33
      · refine tt_bipush (pc := 22) (v := (-4 : Int32)) C dX1_setPost_22 (by decide) ?_
        obtain rfl := Option.some.inj hf
        exact tt_ireturn (pc := 24) C rfl rfl rfl dX1_setPost_24
    · refine tt_iconst (pc := 16) (v := (-1 : Int32)) C dX1_setPost_16 (by decide) ?_
      obtain rfl := Option.some.inj hf
      exact tt_ireturn (pc := 17) C rfl rfl rfl dX1_setPost_17
theorem dX6_sets_0 : decode cX6_sets 0 = .ok (.aload_n 0, 1) := by decide +kernel
theorem dX6_sets_1 : decode cX6_sets 1 = .ok (.aload_n 0, 1) := by decide +kernel
theorem dX6_sets_2 : decode cX6_sets 2 = .ok (.getfield 10, 3) := by decide +kernel
theorem dX6_sets_5 : decode cX6_sets 5 = .ok (.iload_n 1, 1) := by decide +kernel
theorem dX6_sets_6 : decode cX6_sets 6 = .ok (.iload_n 2, 1) := by decide +kernel
theorem dX6_sets_7 : decode cX6_sets 7 = .ok (.iload_n 3, 1) := by decide +kernel
theorem dX6_sets_8 : decode cX6_sets 8 = .ok (.invokevirtual 101, 3) := by decide +kernel
theorem dX6_sets_11 : decode cX6_sets 11 = .ok (.invokevirtual 62, 3) := by decide +kernel
theorem dX6_sets_14 : decode cX6_sets 14 = .ok (.ireturn, 1) := by decide +kernel
set_option maxHeartbeats 4000000 in
set_option maxRecDepth 100000 in
theorem k_X6_sets {l : Launch} {D : va_G} {cy : Nat → ClassId} {Bd : Nat} {xa : Xa} {xd : Nat → Nat → Nat} {N : Nat} {sX : Nat → Int32} {aX : Nat → Nat → Int32} {uG : Nat → Int32} {es : Nat → Int32} {ea : Nat → Nat → Int32} {sT : Nat → Int32} {aT : Nat → Nat → Int32} {tT : Nat → Nat → Int32} {pT : Nat → Int32} {qT : Nat → Nat → Int32} {ma : Nat → Nat → Int32} {sL : Nat → Int32} {aL : Nat → Nat → Int32} {tL : Nat → Nat → Int32} {pL : Nat → Int32} {qL : Nat → Nat → Int32} {sK : Nat → Int32} {aK : Nat → Nat → Int32} {tK : Nat → Nat → Int32} {pK : Nat → Int32} {qK : Nat → Nat → Int32} {sH : Nat → Nat → Int32} {rH : Nat → Nat → Int64} {uH : Nat → Nat → Int32} {a1 : Int32} {a2 : Int32} {a3 : Int32} {out : Int32 × (Nat → Nat → Int32) × (Nat → Nat → Int32)} (hf : f_X6_sets N aX sL aL a1 a2 a3 = some out) : KC l yX6_sets cX6_sets 4 (some .int) 2 47 false D cy Bd xa [.ref (xd 0 0), .int a1, .int a2, .int a3] (xC cy xd sX aX uG es ea sT aT tT pT qT ma sL aL tL pL qL sK aK tK pK qK sH rH uH) (some (.int out.1)) (xC cy xd sX out.2.1 uG es ea sT aT tT pT qT ma sL out.2.2 tL pL qL sK aK tK pK qK sH rH uH) := by
  refine kc_start (own := RX6) (by decide +kernel) rfl (Nat.le_of_ble_eq_true rfl) ?_
  intro p e s m args below meth c A C
  unfold f_X6_sets at hf
  refine tt_locs (L' := [(0, .ref (xd 0 0)), (1, .int a1), (2, .int a2), (3, .int a3)]) [0, 1, 2, 3] rfl ?_
  refine tt_aload_n (pc := 0) (k := 0) C dX6_sets_0 rfl rfl ?_
  refine tt_aload_n (pc := 1) (k := 0) C dX6_sets_1 rfl rfl ?_
  refine tt_get (pc := 2) (ws := (xC cy xd sX aX uG es ea sT aT tT pT qT ma sL aL tL pL qL sK aK tK pK qK sH rH uH)) (ci := 6) (v := .ref ((xd 1) 0)) C fiX6 rfl 0 xC_obj 0 (by decide) q1_219 rfl dX6_sets_2 ?_
  refine tt_iload_n (pc := 5) (k := 1) C dX6_sets_5 rfl rfl ?_
  refine tt_iload_n (pc := 6) (k := 2) C dX6_sets_6 rfl rfl ?_
  refine tt_iload_n (pc := 7) (k := 3) C dX6_sets_7 rfl rfl ?_
  obtain ⟨r1, hr1, hf⟩ := bind_some hf
  refine tt_callG (pc := 8) (ws := (xC cy xd sX aX uG es ea sT aT tT pT qT ma sL aL tL pL qL sK aK tK pK qK sH rH uH)) (ws' := (xC cy xd sX aX uG es ea sT aT tT pT qT ma sL r1.2 tL pL qL sK aK tK pK qK sH rH uH)) (q0 := 28) (ci := 1) (rest := [.ref (xd 0 0)]) (st' := [.int r1.1, .ref (xd 0 0)]) C rfl (k_X1_setPost hr1) okX1_setPost q3_12 rfl rfl _ _ xs_L xs_L.symm rfl rfl rfl (Nat.le_of_ble_eq_true rfl) ⟨Nat.le_of_ble_eq_true rfl, Nat.le_of_ble_eq_true rfl⟩ dX6_sets_8 ?_
  obtain ⟨r2, hr2, hf⟩ := bind_some hf
  refine tt_callM (pc := 11) (ws := (xC cy xd sX aX uG es ea sT aT tT pT qT ma sL r1.2 tL pL qL sK aK tK pK qK sH rH uH)) (q0 := 0) (ci := 6) (rest := []) (st' := [.int r2.1]) C rfl (k_X6_counted hr2) okX6_counted q2_15 rfl xC_obj rfl rfl rfl (Nat.le_of_ble_eq_true rfl) ⟨Nat.le_of_ble_eq_true rfl, Nat.le_of_ble_eq_true rfl⟩ dX6_sets_11 ?_
  obtain rfl := Option.some.inj hf
  exact tt_ireturn (pc := 14) C rfl rfl rfl dX6_sets_14
theorem dX6_train_0 : decode cX6_train 0 = .ok (.aload_n 0, 1) := by decide +kernel
theorem dX6_train_1 : decode cX6_train 1 = .ok (.aload_n 0, 1) := by decide +kernel
theorem dX6_train_2 : decode cX6_train 2 = .ok (.getfield 10, 3) := by decide +kernel
theorem dX6_train_5 : decode cX6_train 5 = .ok (.iload_n 1, 1) := by decide +kernel
theorem dX6_train_6 : decode cX6_train 6 = .ok (.iload_n 2, 1) := by decide +kernel
theorem dX6_train_7 : decode cX6_train 7 = .ok (.iload_n 3, 1) := by decide +kernel
theorem dX6_train_8 : decode cX6_train 8 = .ok (.iload 4, 2) := by decide +kernel
theorem dX6_train_10 : decode cX6_train 10 = .ok (.invokevirtual 104, 3) := by decide +kernel
theorem dX6_train_13 : decode cX6_train 13 = .ok (.invokevirtual 62, 3) := by decide +kernel
theorem dX6_train_16 : decode cX6_train 16 = .ok (.ireturn, 1) := by decide +kernel
set_option maxHeartbeats 4000000 in
set_option maxRecDepth 100000 in
theorem k_X6_train {l : Launch} {D : va_G} {cy : Nat → ClassId} {Bd : Nat} {xa : Xa} {xd : Nat → Nat → Nat} {N : Nat} {sX : Nat → Int32} {aX : Nat → Nat → Int32} {uG : Nat → Int32} {es : Nat → Int32} {ea : Nat → Nat → Int32} {sT : Nat → Int32} {aT : Nat → Nat → Int32} {tT : Nat → Nat → Int32} {pT : Nat → Int32} {qT : Nat → Nat → Int32} {ma : Nat → Nat → Int32} {sL : Nat → Int32} {aL : Nat → Nat → Int32} {tL : Nat → Nat → Int32} {pL : Nat → Int32} {qL : Nat → Nat → Int32} {sK : Nat → Int32} {aK : Nat → Nat → Int32} {tK : Nat → Nat → Int32} {pK : Nat → Int32} {qK : Nat → Nat → Int32} {sH : Nat → Nat → Int32} {rH : Nat → Nat → Int64} {uH : Nat → Nat → Int32} {a1 : Int32} {a2 : Int32} {a3 : Int32} {a4 : Int32} {out : Int32 × (Nat → Nat → Int32) × (Nat → Int32) × (Nat → Nat → Int32)} (hf : f_X6_train N aX sL tL a1 a2 a3 a4 = some out) : KC l yX6_train cX6_train 5 (some .int) 2 42 false D cy Bd xa [.ref (xd 0 0), .int a1, .int a2, .int a3, .int a4] (xC cy xd sX aX uG es ea sT aT tT pT qT ma sL aL tL pL qL sK aK tK pK qK sH rH uH) (some (.int out.1)) (xC cy xd sX out.2.1 uG es ea sT aT tT pT qT ma out.2.2.1 aL out.2.2.2 pL qL sK aK tK pK qK sH rH uH) := by
  refine kc_start (own := RX6) (by decide +kernel) rfl (Nat.le_of_ble_eq_true rfl) ?_
  intro p e s m args below meth c A C
  unfold f_X6_train at hf
  refine tt_locs (L' := [(0, .ref (xd 0 0)), (1, .int a1), (2, .int a2), (3, .int a3), (4, .int a4)]) [0, 1, 2, 3, 4] rfl ?_
  refine tt_aload_n (pc := 0) (k := 0) C dX6_train_0 rfl rfl ?_
  refine tt_aload_n (pc := 1) (k := 0) C dX6_train_1 rfl rfl ?_
  refine tt_get (pc := 2) (ws := (xC cy xd sX aX uG es ea sT aT tT pT qT ma sL aL tL pL qL sK aK tK pK qK sH rH uH)) (ci := 6) (v := .ref ((xd 1) 0)) C fiX6 rfl 0 xC_obj 0 (by decide) q1_219 rfl dX6_train_2 ?_
  refine tt_iload_n (pc := 5) (k := 1) C dX6_train_5 rfl rfl ?_
  refine tt_iload_n (pc := 6) (k := 2) C dX6_train_6 rfl rfl ?_
  refine tt_iload_n (pc := 7) (k := 3) C dX6_train_7 rfl rfl ?_
  refine tt_iload (pc := 8) (k := 4) C dX6_train_8 rfl ?_
  obtain ⟨r1, hr1, hf⟩ := bind_some hf
  refine tt_callG (pc := 10) (ws := (xC cy xd sX aX uG es ea sT aT tT pT qT ma sL aL tL pL qL sK aK tK pK qK sH rH uH)) (ws' := (xC cy xd sX aX uG es ea sT aT tT pT qT ma r1.2.1 aL r1.2.2 pL qL sK aK tK pK qK sH rH uH)) (q0 := 28) (ci := 1) (rest := [.ref (xd 0 0)]) (st' := [.int r1.1, .ref (xd 0 0)]) C rfl (k_X1_addTrain hr1) okX1_addTrain q3_24 rfl rfl _ _ xs_L xs_L.symm rfl rfl rfl (Nat.le_of_ble_eq_true rfl) ⟨Nat.le_of_ble_eq_true rfl, Nat.le_of_ble_eq_true rfl⟩ dX6_train_10 ?_
  obtain ⟨r2, hr2, hf⟩ := bind_some hf
  refine tt_callM (pc := 13) (ws := (xC cy xd sX aX uG es ea sT aT tT pT qT ma r1.2.1 aL r1.2.2 pL qL sK aK tK pK qK sH rH uH)) (q0 := 0) (ci := 6) (rest := []) (st' := [.int r2.1]) C rfl (k_X6_counted hr2) okX6_counted q2_15 rfl xC_obj rfl rfl rfl (Nat.le_of_ble_eq_true rfl) ⟨Nat.le_of_ble_eq_true rfl, Nat.le_of_ble_eq_true rfl⟩ dX6_train_13 ?_
  obtain rfl := Option.some.inj hf
  exact tt_ireturn (pc := 16) C rfl rfl rfl dX6_train_16
theorem dX6_need_0 : decode cX6_need 0 = .ok (.aload_n 0, 1) := by decide +kernel
theorem dX6_need_1 : decode cX6_need 1 = .ok (.aload_n 0, 1) := by decide +kernel
theorem dX6_need_2 : decode cX6_need 2 = .ok (.getfield 10, 3) := by decide +kernel
theorem dX6_need_5 : decode cX6_need 5 = .ok (.iload_n 1, 1) := by decide +kernel
theorem dX6_need_6 : decode cX6_need 6 = .ok (.invokevirtual 108, 3) := by decide +kernel
theorem dX6_need_9 : decode cX6_need 9 = .ok (.invokevirtual 62, 3) := by decide +kernel
theorem dX6_need_12 : decode cX6_need 12 = .ok (.ireturn, 1) := by decide +kernel
set_option maxHeartbeats 4000000 in
set_option maxRecDepth 100000 in
theorem k_X6_need {l : Launch} {D : va_G} {cy : Nat → ClassId} {Bd : Nat} {xa : Xa} {xd : Nat → Nat → Nat} {N : Nat} {sX : Nat → Int32} {aX : Nat → Nat → Int32} {uG : Nat → Int32} {es : Nat → Int32} {ea : Nat → Nat → Int32} {sT : Nat → Int32} {aT : Nat → Nat → Int32} {tT : Nat → Nat → Int32} {pT : Nat → Int32} {qT : Nat → Nat → Int32} {ma : Nat → Nat → Int32} {sL : Nat → Int32} {aL : Nat → Nat → Int32} {tL : Nat → Nat → Int32} {pL : Nat → Int32} {qL : Nat → Nat → Int32} {sK : Nat → Int32} {aK : Nat → Nat → Int32} {tK : Nat → Nat → Int32} {pK : Nat → Int32} {qK : Nat → Nat → Int32} {sH : Nat → Nat → Int32} {rH : Nat → Nat → Int64} {uH : Nat → Nat → Int32} {a1 : Int32} {out : Int32 × (Nat → Nat → Int32) × (Nat → Int32)} (hf : f_X6_need N aX sL a1 = some out) : KC l yX6_need cX6_need 2 (some .int) 2 42 false D cy Bd xa [.ref (xd 0 0), .int a1] (xC cy xd sX aX uG es ea sT aT tT pT qT ma sL aL tL pL qL sK aK tK pK qK sH rH uH) (some (.int out.1)) (xC cy xd sX out.2.1 uG es ea sT aT tT pT qT ma out.2.2 aL tL pL qL sK aK tK pK qK sH rH uH) := by
  refine kc_start (own := RX6) (by decide +kernel) rfl (Nat.le_of_ble_eq_true rfl) ?_
  intro p e s m args below meth c A C
  unfold f_X6_need at hf
  refine tt_locs (L' := [(0, .ref (xd 0 0)), (1, .int a1)]) [0, 1] rfl ?_
  refine tt_aload_n (pc := 0) (k := 0) C dX6_need_0 rfl rfl ?_
  refine tt_aload_n (pc := 1) (k := 0) C dX6_need_1 rfl rfl ?_
  refine tt_get (pc := 2) (ws := (xC cy xd sX aX uG es ea sT aT tT pT qT ma sL aL tL pL qL sK aK tK pK qK sH rH uH)) (ci := 6) (v := .ref ((xd 1) 0)) C fiX6 rfl 0 xC_obj 0 (by decide) q1_219 rfl dX6_need_2 ?_
  refine tt_iload_n (pc := 5) (k := 1) C dX6_need_5 rfl rfl ?_
  obtain ⟨r1, hr1, hf⟩ := bind_some hf
  refine tt_callG (pc := 6) (ws := (xC cy xd sX aX uG es ea sT aT tT pT qT ma sL aL tL pL qL sK aK tK pK qK sH rH uH)) (ws' := (xC cy xd sX aX uG es ea sT aT tT pT qT ma r1.2 aL tL pL qL sK aK tK pK qK sH rH uH)) (q0 := 28) (ci := 1) (rest := [.ref (xd 0 0)]) (st' := [.int r1.1, .ref (xd 0 0)]) C rfl (k_X1_setNeed hr1) okX1_setNeed q3_29 rfl rfl _ _ xs_L xs_L.symm rfl rfl rfl (Nat.le_of_ble_eq_true rfl) ⟨Nat.le_of_ble_eq_true rfl, Nat.le_of_ble_eq_true rfl⟩ dX6_need_6 ?_
  obtain ⟨r2, hr2, hf⟩ := bind_some hf
  refine tt_callM (pc := 9) (ws := (xC cy xd sX aX uG es ea sT aT tT pT qT ma r1.2 aL tL pL qL sK aK tK pK qK sH rH uH)) (q0 := 0) (ci := 6) (rest := []) (st' := [.int r2.1]) C rfl (k_X6_counted hr2) okX6_counted q2_15 rfl xC_obj rfl rfl rfl (Nat.le_of_ble_eq_true rfl) ⟨Nat.le_of_ble_eq_true rfl, Nat.le_of_ble_eq_true rfl⟩ dX6_need_9 ?_
  obtain rfl := Option.some.inj hf
  exact tt_ireturn (pc := 12) C rfl rfl rfl dX6_need_12
theorem dX6_ofBridge_0 : decode cX6_ofBridge 0 = .ok (.aload_n 0, 1) := by decide +kernel
theorem dX6_ofBridge_1 : decode cX6_ofBridge 1 = .ok (.getfield 10, 3) := by decide +kernel
theorem dX6_ofBridge_4 : decode cX6_ofBridge 4 = .ok (.iload_n 1, 1) := by decide +kernel
theorem dX6_ofBridge_5 : decode cX6_ofBridge 5 = .ok (.invokevirtual 83, 3) := by decide +kernel
theorem dX6_ofBridge_8 : decode cX6_ofBridge 8 = .ok (.ifCond .ne 9, 3) := by decide +kernel
theorem dX6_ofBridge_11 : decode cX6_ofBridge 11 = .ok (.aload_n 0, 1) := by decide +kernel
theorem dX6_ofBridge_12 : decode cX6_ofBridge 12 = .ok (.iconst (-1), 1) := by decide +kernel
theorem dX6_ofBridge_13 : decode cX6_ofBridge 13 = .ok (.invokevirtual 87, 3) := by decide +kernel
theorem dX6_ofBridge_16 : decode cX6_ofBridge 16 = .ok (.ireturn, 1) := by decide +kernel
theorem dX6_ofBridge_17 : decode cX6_ofBridge 17 = .ok (.iload_n 2, 1) := by decide +kernel
theorem dX6_ofBridge_18 : decode cX6_ofBridge 18 = .ok (.tableswitch 56 0 2 #[26, 36, 46], 26) := by decide +kernel
theorem dX6_ofBridge_44 : decode cX6_ofBridge 44 = .ok (.aload_n 0, 1) := by decide +kernel
theorem dX6_ofBridge_45 : decode cX6_ofBridge 45 = .ok (.getfield 10, 3) := by decide +kernel
theorem dX6_ofBridge_48 : decode cX6_ofBridge 48 = .ok (.getfield 111, 3) := by decide +kernel
theorem dX6_ofBridge_51 : decode cX6_ofBridge 51 = .ok (.iload_n 1, 1) := by decide +kernel
theorem dX6_ofBridge_52 : decode cX6_ofBridge 52 = .ok (.iaload, 1) := by decide +kernel
theorem dX6_ofBridge_53 : decode cX6_ofBridge 53 = .ok (.ireturn, 1) := by decide +kernel
theorem dX6_ofBridge_54 : decode cX6_ofBridge 54 = .ok (.aload_n 0, 1) := by decide +kernel
theorem dX6_ofBridge_55 : decode cX6_ofBridge 55 = .ok (.getfield 10, 3) := by decide +kernel
theorem dX6_ofBridge_58 : decode cX6_ofBridge 58 = .ok (.getfield 114, 3) := by decide +kernel
theorem dX6_ofBridge_61 : decode cX6_ofBridge 61 = .ok (.iload_n 1, 1) := by decide +kernel
theorem dX6_ofBridge_62 : decode cX6_ofBridge 62 = .ok (.iaload, 1) := by decide +kernel
theorem dX6_ofBridge_63 : decode cX6_ofBridge 63 = .ok (.ireturn, 1) := by decide +kernel
theorem dX6_ofBridge_64 : decode cX6_ofBridge 64 = .ok (.aload_n 0, 1) := by decide +kernel
theorem dX6_ofBridge_65 : decode cX6_ofBridge 65 = .ok (.getfield 10, 3) := by decide +kernel
theorem dX6_ofBridge_68 : decode cX6_ofBridge 68 = .ok (.getfield 117, 3) := by decide +kernel
theorem dX6_ofBridge_71 : decode cX6_ofBridge 71 = .ok (.iload_n 1, 1) := by decide +kernel
theorem dX6_ofBridge_72 : decode cX6_ofBridge 72 = .ok (.iaload, 1) := by decide +kernel
theorem dX6_ofBridge_73 : decode cX6_ofBridge 73 = .ok (.ireturn, 1) := by decide +kernel
theorem dX6_ofBridge_74 : decode cX6_ofBridge 74 = .ok (.aload_n 0, 1) := by decide +kernel
theorem dX6_ofBridge_75 : decode cX6_ofBridge 75 = .ok (.bipush (-2), 2) := by decide +kernel
theorem dX6_ofBridge_77 : decode cX6_ofBridge 77 = .ok (.invokevirtual 87, 3) := by decide +kernel
theorem dX6_ofBridge_80 : decode cX6_ofBridge 80 = .ok (.ireturn, 1) := by decide +kernel
set_option maxHeartbeats 4000000 in
set_option maxRecDepth 100000 in
theorem k_X6_ofBridge {l : Launch} {D : va_G} {cy : Nat → ClassId} {Bd : Nat} {xa : Xa} {xd : Nat → Nat → Nat} {N : Nat} {sX : Nat → Int32} {aX : Nat → Nat → Int32} {uG : Nat → Int32} {es : Nat → Int32} {ea : Nat → Nat → Int32} {sT : Nat → Int32} {aT : Nat → Nat → Int32} {tT : Nat → Nat → Int32} {pT : Nat → Int32} {qT : Nat → Nat → Int32} {ma : Nat → Nat → Int32} {sL : Nat → Int32} {aL : Nat → Nat → Int32} {tL : Nat → Nat → Int32} {pL : Nat → Int32} {qL : Nat → Nat → Int32} {sK : Nat → Int32} {aK : Nat → Nat → Int32} {tK : Nat → Nat → Int32} {pK : Nat → Int32} {qK : Nat → Nat → Int32} {sH : Nat → Nat → Int32} {rH : Nat → Nat → Int64} {uH : Nat → Nat → Int32} {a1 : Int32} {a2 : Int32} {out : Int32 × (Nat → Nat → Int32)} (hf : f_X6_ofBridge N aX sL aL a1 a2 = some out) : KC l yX6_ofBridge cX6_ofBridge 3 (some .int) 1 21 false D cy Bd xa [.ref (xd 0 0), .int a1, .int a2] (xC cy xd sX aX uG es ea sT aT tT pT qT ma sL aL tL pL qL sK aK tK pK qK sH rH uH) (some (.int out.1)) (xC cy xd sX out.2 uG es ea sT aT tT pT qT ma sL aL tL pL qL sK aK tK pK qK sH rH uH) := by
  refine kc_start (own := RX6) (by decide +kernel) rfl (Nat.le_of_ble_eq_true rfl) ?_
  intro p e s m args below meth c A C
  unfold f_X6_ofBridge at hf
  refine tt_locs (L' := [(0, .ref (xd 0 0)), (1, .int a1), (2, .int a2)]) [0, 1, 2] rfl ?_
  refine tt_aload_n (pc := 0) (k := 0) C dX6_ofBridge_0 rfl rfl ?_
  refine tt_get (pc := 1) (ws := (xC cy xd sX aX uG es ea sT aT tT pT qT ma sL aL tL pL qL sK aK tK pK qK sH rH uH)) (ci := 6) (v := .ref ((xd 1) 0)) C fiX6 rfl 0 xC_obj 0 (by decide) q1_219 rfl dX6_ofBridge_1 ?_
  refine tt_iload_n (pc := 4) (k := 1) C dX6_ofBridge_4 rfl rfl ?_
  obtain ⟨r1, hr1, hf⟩ := bind_some hf
  refine tt_callR (pc := 5) (ws := (xC cy xd sX aX uG es ea sT aT tT pT qT ma sL aL tL pL qL sK aK tK pK qK sH rH uH)) (q0 := 28) (ci := 1) (rest := []) (st' := [.int r1]) C (k_X1_hasBridge hr1) okX1_hasBridge q2_238 rfl rfl xC_subL rfl rfl rfl (Nat.le_of_ble_eq_true rfl) ⟨Nat.le_of_ble_eq_true rfl, Nat.le_of_ble_eq_true rfl⟩ dX6_ofBridge_5 ?_
  refine tt_if_ne (pc := 8) (tgt := 17) C dX6_ofBridge_8 (by decide) hf (fun hf => ?_) (fun hf => ?_)
  · refine tt_iload_n (pc := 17) (k := 2) C dX6_ofBridge_17 rfl rfl ?_
    refine sw_eq (x := a2) (k := 0) hf (fun hx hf => ?_) (fun n0 hf => ?_)
    · rw [hx]
      refine tt_tabIn (pc := 18) (tgt := 44) (x := 0) C dX6_ofBridge_18 (by decide) (by decide) rfl (by decide) ?_
      refine tt_aload_n (pc := 44) (k := 0) C dX6_ofBridge_44 rfl rfl ?_
      refine tt_get (pc := 45) (ws := (xC cy xd sX aX uG es ea sT aT tT pT qT ma sL aL tL pL qL sK aK tK pK qK sH rH uH)) (ci := 6) (v := .ref ((xd 1) 0)) C fiX6 rfl 0 xC_obj 0 (by decide) q1_219 rfl dX6_ofBridge_45 ?_
      refine tt_get (pc := 48) (ws := (xC cy xd sX aX uG es ea sT aT tT pT qT ma sL aL tL pL qL sK aK tK pK qK sH rH uH)) (ci := 1) (v := .ref ((xd 1) 3)) C fiX1 rfl 28 rfl 3 (by decide) q1_90 rfl dX6_ofBridge_48 ?_
      refine tt_iload_n (pc := 51) (k := 1) C dX6_ofBridge_51 rfl rfl ?_
      refine tt_iaload (pc := 52) (ws := (xC cy xd sX aX uG es ea sT aT tT pT qT ma sL aL tL pL qL sK aK tK pK qK sH rH uH)) (n := 4) (f := (aL 3)) C 30 0 rfl rfl hf dX6_ofBridge_52 (fun hf => ?_)
      obtain rfl := Option.some.inj hf
      exact tt_ireturn (pc := 53) C rfl rfl rfl dX6_ofBridge_53
    · refine sw_eq (x := a2) (k := 1) hf (fun hx hf => ?_) (fun n1 hf => ?_)
      · rw [hx]
        refine tt_tabIn (pc := 18) (tgt := 54) (x := 1) C dX6_ofBridge_18 (by decide) (by decide) rfl (by decide) ?_
        refine tt_aload_n (pc := 54) (k := 0) C dX6_ofBridge_54 rfl rfl ?_
        refine tt_get (pc := 55) (ws := (xC cy xd sX aX uG es ea sT aT tT pT qT ma sL aL tL pL qL sK aK tK pK qK sH rH uH)) (ci := 6) (v := .ref ((xd 1) 0)) C fiX6 rfl 0 xC_obj 0 (by decide) q1_219 rfl dX6_ofBridge_55 ?_
        refine tt_get (pc := 58) (ws := (xC cy xd sX aX uG es ea sT aT tT pT qT ma sL aL tL pL qL sK aK tK pK qK sH rH uH)) (ci := 1) (v := .ref ((xd 1) 4)) C fiX1 rfl 28 rfl 4 (by decide) q1_92 rfl dX6_ofBridge_58 ?_
        refine tt_iload_n (pc := 61) (k := 1) C dX6_ofBridge_61 rfl rfl ?_
        refine tt_iaload (pc := 62) (ws := (xC cy xd sX aX uG es ea sT aT tT pT qT ma sL aL tL pL qL sK aK tK pK qK sH rH uH)) (n := 4) (f := (aL 4)) C 31 0 rfl rfl hf dX6_ofBridge_62 (fun hf => ?_)
        obtain rfl := Option.some.inj hf
        exact tt_ireturn (pc := 63) C rfl rfl rfl dX6_ofBridge_63
      · refine sw_eq (x := a2) (k := 2) hf (fun hx hf => ?_) (fun n2 hf => ?_)
        · rw [hx]
          refine tt_tabIn (pc := 18) (tgt := 64) (x := 2) C dX6_ofBridge_18 (by decide) (by decide) rfl (by decide) ?_
          refine tt_aload_n (pc := 64) (k := 0) C dX6_ofBridge_64 rfl rfl ?_
          refine tt_get (pc := 65) (ws := (xC cy xd sX aX uG es ea sT aT tT pT qT ma sL aL tL pL qL sK aK tK pK qK sH rH uH)) (ci := 6) (v := .ref ((xd 1) 0)) C fiX6 rfl 0 xC_obj 0 (by decide) q1_219 rfl dX6_ofBridge_65 ?_
          refine tt_get (pc := 68) (ws := (xC cy xd sX aX uG es ea sT aT tT pT qT ma sL aL tL pL qL sK aK tK pK qK sH rH uH)) (ci := 1) (v := .ref ((xd 1) 5)) C fiX1 rfl 28 rfl 5 (by decide) q1_94 rfl dX6_ofBridge_68 ?_
          refine tt_iload_n (pc := 71) (k := 1) C dX6_ofBridge_71 rfl rfl ?_
          refine tt_iaload (pc := 72) (ws := (xC cy xd sX aX uG es ea sT aT tT pT qT ma sL aL tL pL qL sK aK tK pK qK sH rH uH)) (n := 4) (f := (aL 5)) C 32 0 rfl rfl hf dX6_ofBridge_72 (fun hf => ?_)
          obtain rfl := Option.some.inj hf
          exact tt_ireturn (pc := 73) C rfl rfl rfl dX6_ofBridge_73
        · have g0 := sw_ne n0 (z := 0) (by decide)
          have g1 := sw_ne n1 (z := 1) (by decide)
          have g2 := sw_ne n2 (z := 2) (by decide)
          refine tt_tabOut (pc := 18) (tgt := 74) C dX6_ofBridge_18 (by omega) (by decide) ?_
          refine tt_aload_n (pc := 74) (k := 0) C dX6_ofBridge_74 rfl rfl ?_
          refine tt_bipush (pc := 75) (v := (-2 : Int32)) C dX6_ofBridge_75 (by decide) ?_
          obtain ⟨r3, hr3, hf⟩ := bind_some hf
          refine tt_callM (pc := 77) (ws := (xC cy xd sX aX uG es ea sT aT tT pT qT ma sL aL tL pL qL sK aK tK pK qK sH rH uH)) (q0 := 0) (ci := 6) (rest := []) (st' := [.int r3.1]) C rfl (k_X6_refused hr3) okX6_refused q2_19 rfl xC_obj rfl rfl rfl (Nat.le_of_ble_eq_true rfl) ⟨Nat.le_of_ble_eq_true rfl, Nat.le_of_ble_eq_true rfl⟩ dX6_ofBridge_77 ?_
          obtain rfl := Option.some.inj hf
          exact tt_ireturn (pc := 80) C rfl rfl rfl dX6_ofBridge_80
  · refine tt_aload_n (pc := 11) (k := 0) C dX6_ofBridge_11 rfl rfl ?_
    refine tt_iconst (pc := 12) (v := (-1 : Int32)) C dX6_ofBridge_12 (by decide) ?_
    obtain ⟨r4, hr4, hf⟩ := bind_some hf
    refine tt_callM (pc := 13) (ws := (xC cy xd sX aX uG es ea sT aT tT pT qT ma sL aL tL pL qL sK aK tK pK qK sH rH uH)) (q0 := 0) (ci := 6) (rest := []) (st' := [.int r4.1]) C rfl (k_X6_refused hr4) okX6_refused q2_19 rfl xC_obj rfl rfl rfl (Nat.le_of_ble_eq_true rfl) ⟨Nat.le_of_ble_eq_true rfl, Nat.le_of_ble_eq_true rfl⟩ dX6_ofBridge_13 ?_
    obtain rfl := Option.some.inj hf
    exact tt_ireturn (pc := 16) C rfl rfl rfl dX6_ofBridge_16
theorem dX6_ofPost_0 : decode cX6_ofPost 0 = .ok (.aload_n 0, 1) := by decide +kernel
theorem dX6_ofPost_1 : decode cX6_ofPost 1 = .ok (.getfield 10, 3) := by decide +kernel
theorem dX6_ofPost_4 : decode cX6_ofPost 4 = .ok (.iload_n 1, 1) := by decide +kernel
theorem dX6_ofPost_5 : decode cX6_ofPost 5 = .ok (.invokevirtual 120, 3) := by decide +kernel
theorem dX6_ofPost_8 : decode cX6_ofPost 8 = .ok (.ifCond .ne 9, 3) := by decide +kernel
theorem dX6_ofPost_11 : decode cX6_ofPost 11 = .ok (.aload_n 0, 1) := by decide +kernel
theorem dX6_ofPost_12 : decode cX6_ofPost 12 = .ok (.iconst (-1), 1) := by decide +kernel
theorem dX6_ofPost_13 : decode cX6_ofPost 13 = .ok (.invokevirtual 87, 3) := by decide +kernel
theorem dX6_ofPost_16 : decode cX6_ofPost 16 = .ok (.ireturn, 1) := by decide +kernel
theorem dX6_ofPost_17 : decode cX6_ofPost 17 = .ok (.iload_n 2, 1) := by decide +kernel
theorem dX6_ofPost_18 : decode cX6_ofPost 18 = .ok (.lookupswitch 46 #[(0, 26), (1, 36)], 26) := by decide +kernel
theorem dX6_ofPost_44 : decode cX6_ofPost 44 = .ok (.aload_n 0, 1) := by decide +kernel
theorem dX6_ofPost_45 : decode cX6_ofPost 45 = .ok (.getfield 10, 3) := by decide +kernel
theorem dX6_ofPost_48 : decode cX6_ofPost 48 = .ok (.getfield 123, 3) := by decide +kernel
theorem dX6_ofPost_51 : decode cX6_ofPost 51 = .ok (.iload_n 1, 1) := by decide +kernel
theorem dX6_ofPost_52 : decode cX6_ofPost 52 = .ok (.iaload, 1) := by decide +kernel
theorem dX6_ofPost_53 : decode cX6_ofPost 53 = .ok (.ireturn, 1) := by decide +kernel
theorem dX6_ofPost_54 : decode cX6_ofPost 54 = .ok (.aload_n 0, 1) := by decide +kernel
theorem dX6_ofPost_55 : decode cX6_ofPost 55 = .ok (.getfield 10, 3) := by decide +kernel
theorem dX6_ofPost_58 : decode cX6_ofPost 58 = .ok (.getfield 126, 3) := by decide +kernel
theorem dX6_ofPost_61 : decode cX6_ofPost 61 = .ok (.iload_n 1, 1) := by decide +kernel
theorem dX6_ofPost_62 : decode cX6_ofPost 62 = .ok (.iaload, 1) := by decide +kernel
theorem dX6_ofPost_63 : decode cX6_ofPost 63 = .ok (.ireturn, 1) := by decide +kernel
theorem dX6_ofPost_64 : decode cX6_ofPost 64 = .ok (.aload_n 0, 1) := by decide +kernel
theorem dX6_ofPost_65 : decode cX6_ofPost 65 = .ok (.bipush (-2), 2) := by decide +kernel
theorem dX6_ofPost_67 : decode cX6_ofPost 67 = .ok (.invokevirtual 87, 3) := by decide +kernel
theorem dX6_ofPost_70 : decode cX6_ofPost 70 = .ok (.ireturn, 1) := by decide +kernel
set_option maxHeartbeats 4000000 in
set_option maxRecDepth 100000 in
theorem k_X6_ofPost {l : Launch} {D : va_G} {cy : Nat → ClassId} {Bd : Nat} {xa : Xa} {xd : Nat → Nat → Nat} {N : Nat} {sX : Nat → Int32} {aX : Nat → Nat → Int32} {uG : Nat → Int32} {es : Nat → Int32} {ea : Nat → Nat → Int32} {sT : Nat → Int32} {aT : Nat → Nat → Int32} {tT : Nat → Nat → Int32} {pT : Nat → Int32} {qT : Nat → Nat → Int32} {ma : Nat → Nat → Int32} {sL : Nat → Int32} {aL : Nat → Nat → Int32} {tL : Nat → Nat → Int32} {pL : Nat → Int32} {qL : Nat → Nat → Int32} {sK : Nat → Int32} {aK : Nat → Nat → Int32} {tK : Nat → Nat → Int32} {pK : Nat → Int32} {qK : Nat → Nat → Int32} {sH : Nat → Nat → Int32} {rH : Nat → Nat → Int64} {uH : Nat → Nat → Int32} {a1 : Int32} {a2 : Int32} {out : Int32 × (Nat → Nat → Int32)} (hf : f_X6_ofPost N aX sL aL a1 a2 = some out) : KC l yX6_ofPost cX6_ofPost 3 (some .int) 1 21 false D cy Bd xa [.ref (xd 0 0), .int a1, .int a2] (xC cy xd sX aX uG es ea sT aT tT pT qT ma sL aL tL pL qL sK aK tK pK qK sH rH uH) (some (.int out.1)) (xC cy xd sX out.2 uG es ea sT aT tT pT qT ma sL aL tL pL qL sK aK tK pK qK sH rH uH) := by
  refine kc_start (own := RX6) (by decide +kernel) rfl (Nat.le_of_ble_eq_true rfl) ?_
  intro p e s m args below meth c A C
  unfold f_X6_ofPost at hf
  refine tt_locs (L' := [(0, .ref (xd 0 0)), (1, .int a1), (2, .int a2)]) [0, 1, 2] rfl ?_
  refine tt_aload_n (pc := 0) (k := 0) C dX6_ofPost_0 rfl rfl ?_
  refine tt_get (pc := 1) (ws := (xC cy xd sX aX uG es ea sT aT tT pT qT ma sL aL tL pL qL sK aK tK pK qK sH rH uH)) (ci := 6) (v := .ref ((xd 1) 0)) C fiX6 rfl 0 xC_obj 0 (by decide) q1_219 rfl dX6_ofPost_1 ?_
  refine tt_iload_n (pc := 4) (k := 1) C dX6_ofPost_4 rfl rfl ?_
  obtain ⟨r1, hr1, hf⟩ := bind_some hf
  refine tt_callR (pc := 5) (ws := (xC cy xd sX aX uG es ea sT aT tT pT qT ma sL aL tL pL qL sK aK tK pK qK sH rH uH)) (q0 := 28) (ci := 1) (rest := []) (st' := [.int r1]) C (k_X1_hasPost hr1) okX1_hasPost q3_38 rfl rfl xC_subL rfl rfl rfl (Nat.le_of_ble_eq_true rfl) ⟨Nat.le_of_ble_eq_true rfl, Nat.le_of_ble_eq_true rfl⟩ dX6_ofPost_5 ?_
  refine tt_if_ne (pc := 8) (tgt := 17) C dX6_ofPost_8 (by decide) hf (fun hf => ?_) (fun hf => ?_)
  · refine tt_iload_n (pc := 17) (k := 2) C dX6_ofPost_17 rfl rfl ?_
    refine sw_eq (x := a2) (k := 0) hf (fun hx hf => ?_) (fun n0 hf => ?_)
    · rw [hx]
      refine tt_lookup (pc := 18) (tgt := 44) (x := 0) (off := 26) C dX6_ofPost_18 (by decide) rfl (by decide) ?_
      refine tt_aload_n (pc := 44) (k := 0) C dX6_ofPost_44 rfl rfl ?_
      refine tt_get (pc := 45) (ws := (xC cy xd sX aX uG es ea sT aT tT pT qT ma sL aL tL pL qL sK aK tK pK qK sH rH uH)) (ci := 6) (v := .ref ((xd 1) 0)) C fiX6 rfl 0 xC_obj 0 (by decide) q1_219 rfl dX6_ofPost_45 ?_
      refine tt_get (pc := 48) (ws := (xC cy xd sX aX uG es ea sT aT tT pT qT ma sL aL tL pL qL sK aK tK pK qK sH rH uH)) (ci := 1) (v := .ref ((xd 1) 7)) C fiX1 rfl 28 rfl 7 (by decide) q1_100 rfl dX6_ofPost_48 ?_
      refine tt_iload_n (pc := 51) (k := 1) C dX6_ofPost_51 rfl rfl ?_
      refine tt_iaload (pc := 52) (ws := (xC cy xd sX aX uG es ea sT aT tT pT qT ma sL aL tL pL qL sK aK tK pK qK sH rH uH)) (n := 5) (f := (aL 7)) C 33 0 rfl rfl hf dX6_ofPost_52 (fun hf => ?_)
      obtain rfl := Option.some.inj hf
      exact tt_ireturn (pc := 53) C rfl rfl rfl dX6_ofPost_53
    · refine sw_eq (x := a2) (k := 1) hf (fun hx hf => ?_) (fun n1 hf => ?_)
      · rw [hx]
        refine tt_lookup (pc := 18) (tgt := 54) (x := 1) (off := 36) C dX6_ofPost_18 (by decide) rfl (by decide) ?_
        refine tt_aload_n (pc := 54) (k := 0) C dX6_ofPost_54 rfl rfl ?_
        refine tt_get (pc := 55) (ws := (xC cy xd sX aX uG es ea sT aT tT pT qT ma sL aL tL pL qL sK aK tK pK qK sH rH uH)) (ci := 6) (v := .ref ((xd 1) 0)) C fiX6 rfl 0 xC_obj 0 (by decide) q1_219 rfl dX6_ofPost_55 ?_
        refine tt_get (pc := 58) (ws := (xC cy xd sX aX uG es ea sT aT tT pT qT ma sL aL tL pL qL sK aK tK pK qK sH rH uH)) (ci := 1) (v := .ref ((xd 1) 8)) C fiX1 rfl 28 rfl 8 (by decide) q1_103 rfl dX6_ofPost_58 ?_
        refine tt_iload_n (pc := 61) (k := 1) C dX6_ofPost_61 rfl rfl ?_
        refine tt_iaload (pc := 62) (ws := (xC cy xd sX aX uG es ea sT aT tT pT qT ma sL aL tL pL qL sK aK tK pK qK sH rH uH)) (n := 5) (f := (aL 8)) C 34 0 rfl rfl hf dX6_ofPost_62 (fun hf => ?_)
        obtain rfl := Option.some.inj hf
        exact tt_ireturn (pc := 63) C rfl rfl rfl dX6_ofPost_63
      · have g0 := sw_ne n0 (z := 0) (by decide)
        have g1 := sw_ne n1 (z := 1) (by decide)
        refine tt_lookup (pc := 18) (tgt := 64) (off := 46) C dX6_ofPost_18 (by decide) (by simp [Op.lookupswitch.offset, g0, g0.symm, g1, g1.symm]) (by decide) ?_
        refine tt_aload_n (pc := 64) (k := 0) C dX6_ofPost_64 rfl rfl ?_
        refine tt_bipush (pc := 65) (v := (-2 : Int32)) C dX6_ofPost_65 (by decide) ?_
        obtain ⟨r3, hr3, hf⟩ := bind_some hf
        refine tt_callM (pc := 67) (ws := (xC cy xd sX aX uG es ea sT aT tT pT qT ma sL aL tL pL qL sK aK tK pK qK sH rH uH)) (q0 := 0) (ci := 6) (rest := []) (st' := [.int r3.1]) C rfl (k_X6_refused hr3) okX6_refused q2_19 rfl xC_obj rfl rfl rfl (Nat.le_of_ble_eq_true rfl) ⟨Nat.le_of_ble_eq_true rfl, Nat.le_of_ble_eq_true rfl⟩ dX6_ofPost_67 ?_
        obtain rfl := Option.some.inj hf
        exact tt_ireturn (pc := 70) C rfl rfl rfl dX6_ofPost_70
  · refine tt_aload_n (pc := 11) (k := 0) C dX6_ofPost_11 rfl rfl ?_
    refine tt_iconst (pc := 12) (v := (-1 : Int32)) C dX6_ofPost_12 (by decide) ?_
    obtain ⟨r4, hr4, hf⟩ := bind_some hf
    refine tt_callM (pc := 13) (ws := (xC cy xd sX aX uG es ea sT aT tT pT qT ma sL aL tL pL qL sK aK tK pK qK sH rH uH)) (q0 := 0) (ci := 6) (rest := []) (st' := [.int r4.1]) C rfl (k_X6_refused hr4) okX6_refused q2_19 rfl xC_obj rfl rfl rfl (Nat.le_of_ble_eq_true rfl) ⟨Nat.le_of_ble_eq_true rfl, Nat.le_of_ble_eq_true rfl⟩ dX6_ofPost_13 ?_
    obtain rfl := Option.some.inj hf
    exact tt_ireturn (pc := 16) C rfl rfl rfl dX6_ofPost_16
theorem dX1_hasTrain_0 : decode cX1_hasTrain 0 = .ok (.iload_n 1, 1) := by decide +kernel
theorem dX1_hasTrain_1 : decode cX1_hasTrain 1 = .ok (.ifCond .lt 15, 3) := by decide +kernel
theorem dX1_hasTrain_4 : decode cX1_hasTrain 4 = .ok (.iload_n 1, 1) := by decide +kernel
theorem dX1_hasTrain_5 : decode cX1_hasTrain 5 = .ok (.aload_n 0, 1) := by decide +kernel
theorem dX1_hasTrain_6 : decode cX1_hasTrain 6 = .ok (.getfield 40, 3) := by decide +kernel
theorem dX1_hasTrain_9 : decode cX1_hasTrain 9 = .ok (.if_icmp .ge 7, 3) := by decide +kernel
theorem dX1_hasTrain_12 : decode cX1_hasTrain 12 = .ok (.iconst 1, 1) := by decide +kernel
theorem dX1_hasTrain_13 : decode cX1_hasTrain 13 = .ok (.goto 4, 3) := by decide +kernel
theorem dX1_hasTrain_16 : decode cX1_hasTrain 16 = .ok (.iconst 0, 1) := by decide +kernel
theorem dX1_hasTrain_17 : decode cX1_hasTrain 17 = .ok (.ireturn, 1) := by decide +kernel
set_option maxHeartbeats 4000000 in
set_option maxRecDepth 100000 in
theorem k_X1_hasTrain {l : Launch} {D : va_G} {cy : Nat → ClassId} {Bd : Nat} {xa : Xa} {ad : Nat → Nat} {N : Nat} {sc : Nat → Int32} {ar : Nat → Nat → Int32} {tr : Nat → Nat → Int32} {ps : Nat → Int32} {pa : Nat → Nat → Int32} {a1 : Int32} {out : Int32} (hf : f_X1_hasTrain N sc a1 = some out) : KC l yX1_hasTrain cX1_hasTrain 2 (some .boolean) 0 0 true D cy Bd xa [.ref (ad 0), .int a1] (lC cy ad sc ar tr ps pa) (some (.int out)) (lC cy ad sc ar tr ps pa) := by
  refine kc_start (own := RX1) (by decide +kernel) rfl (Nat.le_of_ble_eq_true rfl) ?_
  intro p e s m args below meth c A C
  unfold f_X1_hasTrain at hf
  refine tt_locs (L' := [(0, .ref (ad 0)), (1, .int a1)]) [0, 1] rfl ?_
  refine tt_iload_n (pc := 0) (k := 1) C dX1_hasTrain_0 rfl rfl ?_
  have k3 : TT p l e { frames := 0, cells := 0, slots := 0, locals := 0 } s m args below meth c 2 D A true (some (.int out)) (lC cy ad sc ar tr ps pa) 17 [] [.int (if a1 < 0 then (0 : Int32) else (if (sc 9) ≤ a1 then (0 : Int32) else (1 : Int32)))] (lC cy ad sc ar tr ps pa) := by
    obtain rfl := Option.some.inj hf
    exact tt_zreturn (pc := 17) C rfl (nb_if rfl (nb_if rfl rfl)) rfl rfl dX1_hasTrain_17
  refine tr_if_lt (pc := 1) (tgt := 16) C dX1_hasTrain_1 (by decide) (fun c1 => ?_) (fun c1 => ?_)
  · refine tt_iconst (pc := 16) (v := (0 : Int32)) C dX1_hasTrain_16 (by decide) ?_
    try simp only [if_pos c1] at k3 ⊢
    exact tt_locs [] rfl k3
  · refine tt_iload_n (pc := 4) (k := 1) C dX1_hasTrain_4 rfl rfl ?_
    refine tt_aload_n (pc := 5) (k := 0) C dX1_hasTrain_5 rfl rfl ?_
    refine tt_get (pc := 6) (ws := (lC cy ad sc ar tr ps pa)) (ci := 1) (v := .int (sc 9)) C fiX1 rfl 0 lC_obj 9 (by decide) q1_104 rfl dX1_hasTrain_6 ?_
    refine tr_icmp_ge (pc := 9) (tgt := 16) C dX1_hasTrain_9 (by decide) (fun c2 => ?_) (fun c2 => ?_)
    · refine tt_iconst (pc := 16) (v := (0 : Int32)) C dX1_hasTrain_16 (by decide) ?_
      try simp only [if_neg c1, if_pos c2] at k3 ⊢
      exact tt_locs [] rfl k3
    · refine tt_iconst (pc := 12) (v := (1 : Int32)) C dX1_hasTrain_12 (by decide) ?_
      refine tt_goto (pc := 13) (tgt := 17) C dX1_hasTrain_13 (by decide) ?_
      try simp only [if_neg c1, if_neg c2] at k3 ⊢
      exact tt_locs [] rfl k3
theorem dX5_eye_0 : decode cX5_eye 0 = .ok (.aload_n 0, 1) := by decide +kernel
theorem dX5_eye_1 : decode cX5_eye 1 = .ok (.getfield 9, 3) := by decide +kernel
theorem dX5_eye_4 : decode cX5_eye 4 = .ok (.tableswitch 51 1 5 #[36, 38, 40, 42, 49], 36) := by decide +kernel
theorem dX5_eye_40 : decode cX5_eye 40 = .ok (.iconst 4, 1) := by decide +kernel
theorem dX5_eye_41 : decode cX5_eye 41 = .ok (.ireturn, 1) := by decide +kernel
theorem dX5_eye_42 : decode cX5_eye 42 = .ok (.iconst 2, 1) := by decide +kernel
theorem dX5_eye_43 : decode cX5_eye 43 = .ok (.ireturn, 1) := by decide +kernel
theorem dX5_eye_44 : decode cX5_eye 44 = .ok (.iconst 5, 1) := by decide +kernel
theorem dX5_eye_45 : decode cX5_eye 45 = .ok (.ireturn, 1) := by decide +kernel
theorem dX5_eye_46 : decode cX5_eye 46 = .ok (.iconst 2, 1) := by decide +kernel
theorem dX5_eye_47 : decode cX5_eye 47 = .ok (.aload_n 0, 1) := by decide +kernel
theorem dX5_eye_48 : decode cX5_eye 48 = .ok (.getfield 15, 3) := by decide +kernel
theorem dX5_eye_51 : decode cX5_eye 51 = .ok (.iadd, 1) := by decide +kernel
theorem dX5_eye_52 : decode cX5_eye 52 = .ok (.ireturn, 1) := by decide +kernel
theorem dX5_eye_53 : decode cX5_eye 53 = .ok (.iconst 0, 1) := by decide +kernel
theorem dX5_eye_54 : decode cX5_eye 54 = .ok (.ireturn, 1) := by decide +kernel
theorem dX5_eye_55 : decode cX5_eye 55 = .ok (.iconst 3, 1) := by decide +kernel
theorem dX5_eye_56 : decode cX5_eye 56 = .ok (.ireturn, 1) := by decide +kernel
set_option maxHeartbeats 4000000 in
set_option maxRecDepth 100000 in
theorem k_X5_eye {l : Launch} {D : va_G} {cy : Nat → ClassId} {Bd : Nat} {xa : Xa} {q : Nat} {N : Nat} {u : Nat → Int32} {out : Int32} (hf : f_X5_eye N u = some out) : KC l yX5_eye cX5_eye 1 (some .int) 0 0 true D cy Bd xa [.ref q] [(q, tE u)] (some (.int out)) [(q, tE u)] := by
  refine kc_start (own := RX5) (by decide +kernel) rfl (Nat.le_of_ble_eq_true rfl) ?_
  intro p e s m args below meth c A C
  unfold f_X5_eye at hf
  refine tt_locs (L' := [(0, .ref q)]) [0] rfl ?_
  refine tt_aload_n (pc := 0) (k := 0) C dX5_eye_0 rfl rfl ?_
  refine tt_get (pc := 1) (ws := [(q, tE u)]) (ci := 5) (v := .int (u 0)) C fiX5 rfl 0 rfl 0 (by decide) q1_61 rfl dX5_eye_1 ?_
  refine sw_eq (x := (u 0)) (k := 1) hf (fun hx hf => ?_) (fun n0 hf => ?_)
  · rw [hx]
    refine tt_tabIn (pc := 4) (tgt := 40) (x := 1) C dX5_eye_4 (by decide) (by decide) rfl (by decide) ?_
    refine tt_iconst (pc := 40) (v := (4 : Int32)) C dX5_eye_40 (by decide) ?_
    obtain rfl := Option.some.inj hf
    exact tt_ireturn (pc := 41) C rfl rfl rfl dX5_eye_41
  · refine sw_eq (x := (u 0)) (k := 2) hf (fun hx hf => ?_) (fun n1 hf => ?_)
    · rw [hx]
      refine tt_tabIn (pc := 4) (tgt := 42) (x := 2) C dX5_eye_4 (by decide) (by decide) rfl (by decide) ?_
      refine tt_iconst (pc := 42) (v := (2 : Int32)) C dX5_eye_42 (by decide) ?_
      obtain rfl := Option.some.inj hf
      exact tt_ireturn (pc := 43) C rfl rfl rfl dX5_eye_43
    · refine sw_eq (x := (u 0)) (k := 3) hf (fun hx hf => ?_) (fun n2 hf => ?_)
      · rw [hx]
        refine tt_tabIn (pc := 4) (tgt := 44) (x := 3) C dX5_eye_4 (by decide) (by decide) rfl (by decide) ?_
        refine tt_iconst (pc := 44) (v := (5 : Int32)) C dX5_eye_44 (by decide) ?_
        obtain rfl := Option.some.inj hf
        exact tt_ireturn (pc := 45) C rfl rfl rfl dX5_eye_45
      · refine sw_eq (x := (u 0)) (k := 4) hf (fun hx hf => ?_) (fun n3 hf => ?_)
        · rw [hx]
          refine tt_tabIn (pc := 4) (tgt := 46) (x := 4) C dX5_eye_4 (by decide) (by decide) rfl (by decide) ?_
          refine tt_iconst (pc := 46) (v := (2 : Int32)) C dX5_eye_46 (by decide) ?_
          refine tt_aload_n (pc := 47) (k := 0) C dX5_eye_47 rfl rfl ?_
          refine tt_get (pc := 48) (ws := [(q, tE u)]) (ci := 5) (v := .int (u 1)) C fiX5 rfl 0 rfl 1 (by decide) q1_64 rfl dX5_eye_48 ?_
          refine tt_iadd (pc := 51) C dX5_eye_51 ?_
          obtain rfl := Option.some.inj hf
          exact tt_ireturn (pc := 52) C rfl rfl rfl dX5_eye_52
        · refine sw_eq (x := (u 0)) (k := 5) hf (fun hx hf => ?_) (fun n4 hf => ?_)
          · rw [hx]
            refine tt_tabIn (pc := 4) (tgt := 53) (x := 5) C dX5_eye_4 (by decide) (by decide) rfl (by decide) ?_
            refine tt_iconst (pc := 53) (v := (0 : Int32)) C dX5_eye_53 (by decide) ?_
            obtain rfl := Option.some.inj hf
            exact tt_ireturn (pc := 54) C rfl rfl rfl dX5_eye_54
          · have g0 := sw_ne n0 (z := 1) (by decide)
            have g1 := sw_ne n1 (z := 2) (by decide)
            have g2 := sw_ne n2 (z := 3) (by decide)
            have g3 := sw_ne n3 (z := 4) (by decide)
            have g4 := sw_ne n4 (z := 5) (by decide)
            refine tt_tabOut (pc := 4) (tgt := 55) C dX5_eye_4 (by omega) (by decide) ?_
            refine tt_iconst (pc := 55) (v := (3 : Int32)) C dX5_eye_55 (by decide) ?_
            obtain rfl := Option.some.inj hf
            exact tt_ireturn (pc := 56) C rfl rfl rfl dX5_eye_56
theorem dX6_ofTrain_0 : decode cX6_ofTrain 0 = .ok (.aload_n 0, 1) := by decide +kernel
theorem dX6_ofTrain_1 : decode cX6_ofTrain 1 = .ok (.getfield 10, 3) := by decide +kernel
theorem dX6_ofTrain_4 : decode cX6_ofTrain 4 = .ok (.iload_n 1, 1) := by decide +kernel
theorem dX6_ofTrain_5 : decode cX6_ofTrain 5 = .ok (.invokevirtual 129, 3) := by decide +kernel
theorem dX6_ofTrain_8 : decode cX6_ofTrain 8 = .ok (.ifCond .ne 9, 3) := by decide +kernel
theorem dX6_ofTrain_11 : decode cX6_ofTrain 11 = .ok (.aload_n 0, 1) := by decide +kernel
theorem dX6_ofTrain_12 : decode cX6_ofTrain 12 = .ok (.iconst (-1), 1) := by decide +kernel
theorem dX6_ofTrain_13 : decode cX6_ofTrain 13 = .ok (.invokevirtual 87, 3) := by decide +kernel
theorem dX6_ofTrain_16 : decode cX6_ofTrain 16 = .ok (.ireturn, 1) := by decide +kernel
theorem dX6_ofTrain_17 : decode cX6_ofTrain 17 = .ok (.aload_n 0, 1) := by decide +kernel
theorem dX6_ofTrain_18 : decode cX6_ofTrain 18 = .ok (.getfield 10, 3) := by decide +kernel
theorem dX6_ofTrain_21 : decode cX6_ofTrain 21 = .ok (.getfield 132, 3) := by decide +kernel
theorem dX6_ofTrain_24 : decode cX6_ofTrain 24 = .ok (.iload_n 1, 1) := by decide +kernel
theorem dX6_ofTrain_25 : decode cX6_ofTrain 25 = .ok (.aaload, 1) := by decide +kernel
theorem dX6_ofTrain_26 : decode cX6_ofTrain 26 = .ok (.astore_n 3, 1) := by decide +kernel
theorem dX6_ofTrain_27 : decode cX6_ofTrain 27 = .ok (.iload_n 2, 1) := by decide +kernel
theorem dX6_ofTrain_28 : decode cX6_ofTrain 28 = .ok (.tableswitch 61 0 4 #[36, 41, 46, 51, 56], 36) := by decide +kernel
theorem dX6_ofTrain_64 : decode cX6_ofTrain 64 = .ok (.aload_n 3, 1) := by decide +kernel
theorem dX6_ofTrain_65 : decode cX6_ofTrain 65 = .ok (.getfield 136, 3) := by decide +kernel
theorem dX6_ofTrain_68 : decode cX6_ofTrain 68 = .ok (.ireturn, 1) := by decide +kernel
theorem dX6_ofTrain_69 : decode cX6_ofTrain 69 = .ok (.aload_n 3, 1) := by decide +kernel
theorem dX6_ofTrain_70 : decode cX6_ofTrain 70 = .ok (.getfield 139, 3) := by decide +kernel
theorem dX6_ofTrain_73 : decode cX6_ofTrain 73 = .ok (.ireturn, 1) := by decide +kernel
theorem dX6_ofTrain_74 : decode cX6_ofTrain 74 = .ok (.aload_n 3, 1) := by decide +kernel
theorem dX6_ofTrain_75 : decode cX6_ofTrain 75 = .ok (.getfield 142, 3) := by decide +kernel
theorem dX6_ofTrain_78 : decode cX6_ofTrain 78 = .ok (.ireturn, 1) := by decide +kernel
theorem dX6_ofTrain_79 : decode cX6_ofTrain 79 = .ok (.aload_n 3, 1) := by decide +kernel
theorem dX6_ofTrain_80 : decode cX6_ofTrain 80 = .ok (.getfield 145, 3) := by decide +kernel
theorem dX6_ofTrain_83 : decode cX6_ofTrain 83 = .ok (.ireturn, 1) := by decide +kernel
theorem dX6_ofTrain_84 : decode cX6_ofTrain 84 = .ok (.aload_n 3, 1) := by decide +kernel
theorem dX6_ofTrain_85 : decode cX6_ofTrain 85 = .ok (.invokevirtual 148, 3) := by decide +kernel
theorem dX6_ofTrain_88 : decode cX6_ofTrain 88 = .ok (.ireturn, 1) := by decide +kernel
theorem dX6_ofTrain_89 : decode cX6_ofTrain 89 = .ok (.aload_n 0, 1) := by decide +kernel
theorem dX6_ofTrain_90 : decode cX6_ofTrain 90 = .ok (.bipush (-2), 2) := by decide +kernel
theorem dX6_ofTrain_92 : decode cX6_ofTrain 92 = .ok (.invokevirtual 87, 3) := by decide +kernel
theorem dX6_ofTrain_95 : decode cX6_ofTrain 95 = .ok (.ireturn, 1) := by decide +kernel
set_option maxHeartbeats 4000000 in
set_option maxRecDepth 100000 in
theorem k_X6_ofTrain {l : Launch} {D : va_G} {cy : Nat → ClassId} {Bd : Nat} {xa : Xa} {xd : Nat → Nat → Nat} {N : Nat} {sX : Nat → Int32} {aX : Nat → Nat → Int32} {uG : Nat → Int32} {es : Nat → Int32} {ea : Nat → Nat → Int32} {sT : Nat → Int32} {aT : Nat → Nat → Int32} {tT : Nat → Nat → Int32} {pT : Nat → Int32} {qT : Nat → Nat → Int32} {ma : Nat → Nat → Int32} {sL : Nat → Int32} {aL : Nat → Nat → Int32} {tL : Nat → Nat → Int32} {pL : Nat → Int32} {qL : Nat → Nat → Int32} {sK : Nat → Int32} {aK : Nat → Nat → Int32} {tK : Nat → Nat → Int32} {pK : Nat → Int32} {qK : Nat → Nat → Int32} {sH : Nat → Nat → Int32} {rH : Nat → Nat → Int64} {uH : Nat → Nat → Int32} {a1 : Int32} {a2 : Int32} {out : Int32 × (Nat → Nat → Int32)} (hf : f_X6_ofTrain N aX sL tL a1 a2 = some out) : KC l yX6_ofTrain cX6_ofTrain 4 (some .int) 1 21 false D cy Bd xa [.ref (xd 0 0), .int a1, .int a2] (xC cy xd sX aX uG es ea sT aT tT pT qT ma sL aL tL pL qL sK aK tK pK qK sH rH uH) (some (.int out.1)) (xC cy xd sX out.2 uG es ea sT aT tT pT qT ma sL aL tL pL qL sK aK tK pK qK sH rH uH) := by
  refine kc_start (own := RX6) (by decide +kernel) rfl (Nat.le_of_ble_eq_true rfl) ?_
  intro p e s m args below meth c A C
  unfold f_X6_ofTrain at hf
  refine tt_locs (L' := [(0, .ref (xd 0 0)), (1, .int a1), (2, .int a2)]) [0, 1, 2] rfl ?_
  refine tt_aload_n (pc := 0) (k := 0) C dX6_ofTrain_0 rfl rfl ?_
  refine tt_get (pc := 1) (ws := (xC cy xd sX aX uG es ea sT aT tT pT qT ma sL aL tL pL qL sK aK tK pK qK sH rH uH)) (ci := 6) (v := .ref ((xd 1) 0)) C fiX6 rfl 0 xC_obj 0 (by decide) q1_219 rfl dX6_ofTrain_1 ?_
  refine tt_iload_n (pc := 4) (k := 1) C dX6_ofTrain_4 rfl rfl ?_
  obtain ⟨r1, hr1, hf⟩ := bind_some hf
  refine tt_callR (pc := 5) (ws := (xC cy xd sX aX uG es ea sT aT tT pT qT ma sL aL tL pL qL sK aK tK pK qK sH rH uH)) (q0 := 28) (ci := 1) (rest := []) (st' := [.int r1]) C (k_X1_hasTrain hr1) okX1_hasTrain q3_43 rfl rfl xC_subL rfl rfl rfl (Nat.le_of_ble_eq_true rfl) ⟨Nat.le_of_ble_eq_true rfl, Nat.le_of_ble_eq_true rfl⟩ dX6_ofTrain_5 ?_
  refine tt_if_ne (pc := 8) (tgt := 17) C dX6_ofTrain_8 (by decide) hf (fun hf => ?_) (fun hf => ?_)
  · refine tt_aload_n (pc := 17) (k := 0) C dX6_ofTrain_17 rfl rfl ?_
    refine tt_get (pc := 18) (ws := (xC cy xd sX aX uG es ea sT aT tT pT qT ma sL aL tL pL qL sK aK tK pK qK sH rH uH)) (ci := 6) (v := .ref ((xd 1) 0)) C fiX6 rfl 0 xC_obj 0 (by decide) q1_219 rfl dX6_ofTrain_18 ?_
    refine tt_get (pc := 21) (ws := (xC cy xd sX aX uG es ea sT aT tT pT qT ma sL aL tL pL qL sK aK tK pK qK sH rH uH)) (ci := 1) (v := .ref ((xd 1) 10)) C fiX1 rfl 28 rfl 10 (by decide) q1_107 rfl dX6_ofTrain_21 ?_
    refine tt_iload_n (pc := 24) (k := 1) C dX6_ofTrain_24 rfl rfl ?_
    refine tt_aaload (pc := 25) (ws := (xC cy xd sX aX uG es ea sT aT tT pT qT ma sL aL tL pL qL sK aK tK pK qK sH rH uH)) (n := 4) (r := (fun j => (xd 1) (40 + j))) C 35 4 rfl rfl hf (fun _ _ => rfl) dX6_ofTrain_25 (fun hf hlt2 => ?_)
    refine tt_astore_n (pc := 26) (L' := [(3, .ref ((xd 1) (40 + (ix a1)))), (0, .ref (xd 0 0)), (1, .int a1), (2, .int a2)]) C dX6_ofTrain_26 rfl (by decide) rfl ?_
    refine tt_iload_n (pc := 27) (k := 3) C dX6_ofTrain_27 rfl rfl ?_
    refine sw_eq (x := a2) (k := 0) hf (fun hx hf => ?_) (fun n0 hf => ?_)
    · rw [hx]
      refine tt_tabIn (pc := 28) (tgt := 64) (x := 0) C dX6_ofTrain_28 (by decide) (by decide) rfl (by decide) ?_
      refine tt_aload_n (pc := 64) (k := 0) C dX6_ofTrain_64 rfl rfl ?_
      refine tt_get (pc := 65) (ws := (xC cy xd sX aX uG es ea sT aT tT pT qT ma sL aL tL pL qL sK aK tK pK qK sH rH uH)) (ci := 5) (v := .int ((tL (ix a1)) 0)) C fiX5 rfl (36 + (ix a1)) (xC_tgetL hlt2) 0 (by decide) q1_62 rfl dX6_ofTrain_65 ?_
      obtain rfl := Option.some.inj hf
      exact tt_ireturn (pc := 68) C rfl rfl rfl dX6_ofTrain_68
    · refine sw_eq (x := a2) (k := 1) hf (fun hx hf => ?_) (fun n1 hf => ?_)
      · rw [hx]
        refine tt_tabIn (pc := 28) (tgt := 69) (x := 1) C dX6_ofTrain_28 (by decide) (by decide) rfl (by decide) ?_
        refine tt_aload_n (pc := 69) (k := 0) C dX6_ofTrain_69 rfl rfl ?_
        refine tt_get (pc := 70) (ws := (xC cy xd sX aX uG es ea sT aT tT pT qT ma sL aL tL pL qL sK aK tK pK qK sH rH uH)) (ci := 5) (v := .int ((tL (ix a1)) 1)) C fiX5 rfl (36 + (ix a1)) (xC_tgetL hlt2) 1 (by decide) q1_65 rfl dX6_ofTrain_70 ?_
        obtain rfl := Option.some.inj hf
        exact tt_ireturn (pc := 73) C rfl rfl rfl dX6_ofTrain_73
      · refine sw_eq (x := a2) (k := 2) hf (fun hx hf => ?_) (fun n2 hf => ?_)
        · rw [hx]
          refine tt_tabIn (pc := 28) (tgt := 74) (x := 2) C dX6_ofTrain_28 (by decide) (by decide) rfl (by decide) ?_
          refine tt_aload_n (pc := 74) (k := 0) C dX6_ofTrain_74 rfl rfl ?_
          refine tt_get (pc := 75) (ws := (xC cy xd sX aX uG es ea sT aT tT pT qT ma sL aL tL pL qL sK aK tK pK qK sH rH uH)) (ci := 5) (v := .int ((tL (ix a1)) 2)) C fiX5 rfl (36 + (ix a1)) (xC_tgetL hlt2) 2 (by decide) q1_68 rfl dX6_ofTrain_75 ?_
          obtain rfl := Option.some.inj hf
          exact tt_ireturn (pc := 78) C rfl rfl rfl dX6_ofTrain_78
        · refine sw_eq (x := a2) (k := 3) hf (fun hx hf => ?_) (fun n3 hf => ?_)
          · rw [hx]
            refine tt_tabIn (pc := 28) (tgt := 79) (x := 3) C dX6_ofTrain_28 (by decide) (by decide) rfl (by decide) ?_
            refine tt_aload_n (pc := 79) (k := 0) C dX6_ofTrain_79 rfl rfl ?_
            refine tt_get (pc := 80) (ws := (xC cy xd sX aX uG es ea sT aT tT pT qT ma sL aL tL pL qL sK aK tK pK qK sH rH uH)) (ci := 5) (v := .int ((tL (ix a1)) 3)) C fiX5 rfl (36 + (ix a1)) (xC_tgetL hlt2) 3 (by decide) q1_71 rfl dX6_ofTrain_80 ?_
            obtain rfl := Option.some.inj hf
            exact tt_ireturn (pc := 83) C rfl rfl rfl dX6_ofTrain_83
          · refine sw_eq (x := a2) (k := 4) hf (fun hx hf => ?_) (fun n4 hf => ?_)
            · rw [hx]
              refine tt_tabIn (pc := 28) (tgt := 84) (x := 4) C dX6_ofTrain_28 (by decide) (by decide) rfl (by decide) ?_
              refine tt_aload_n (pc := 84) (k := 0) C dX6_ofTrain_84 rfl rfl ?_
              obtain ⟨r4, hr4, hf⟩ := bind_some hf
              refine tt_callR (pc := 85) (ws := (xC cy xd sX aX uG es ea sT aT tT pT qT ma sL aL tL pL qL sK aK tK pK qK sH rH uH)) (q0 := (36 + (ix a1))) (ci := 5) (rest := []) (st' := [.int r4]) C (k_X5_eye hr4) okX5_eye q3_47 rfl (xC_tgetL hlt2) (sub_1 (xC_subL _ (lC_tmem hlt2))) rfl rfl rfl (Nat.le_of_ble_eq_true rfl) ⟨Nat.le_of_ble_eq_true rfl, Nat.le_of_ble_eq_true rfl⟩ dX6_ofTrain_85 ?_
              obtain rfl := Option.some.inj hf
              exact tt_ireturn (pc := 88) C rfl rfl rfl dX6_ofTrain_88
            · have g0 := sw_ne n0 (z := 0) (by decide)
              have g1 := sw_ne n1 (z := 1) (by decide)
              have g2 := sw_ne n2 (z := 2) (by decide)
              have g3 := sw_ne n3 (z := 3) (by decide)
              have g4 := sw_ne n4 (z := 4) (by decide)
              refine tt_tabOut (pc := 28) (tgt := 89) C dX6_ofTrain_28 (by omega) (by decide) ?_
              refine tt_aload_n (pc := 89) (k := 1) C dX6_ofTrain_89 rfl rfl ?_
              refine tt_bipush (pc := 90) (v := (-2 : Int32)) C dX6_ofTrain_90 (by decide) ?_
              obtain ⟨r5, hr5, hf⟩ := bind_some hf
              refine tt_callM (pc := 92) (ws := (xC cy xd sX aX uG es ea sT aT tT pT qT ma sL aL tL pL qL sK aK tK pK qK sH rH uH)) (q0 := 0) (ci := 6) (rest := []) (st' := [.int r5.1]) C rfl (k_X6_refused hr5) okX6_refused q2_19 rfl xC_obj rfl rfl rfl (Nat.le_of_ble_eq_true rfl) ⟨Nat.le_of_ble_eq_true rfl, Nat.le_of_ble_eq_true rfl⟩ dX6_ofTrain_92 ?_
              obtain rfl := Option.some.inj hf
              exact tt_ireturn (pc := 95) C rfl rfl rfl dX6_ofTrain_95
  · refine tt_aload_n (pc := 11) (k := 0) C dX6_ofTrain_11 rfl rfl ?_
    refine tt_iconst (pc := 12) (v := (-1 : Int32)) C dX6_ofTrain_12 (by decide) ?_
    obtain ⟨r6, hr6, hf⟩ := bind_some hf
    refine tt_callM (pc := 13) (ws := (xC cy xd sX aX uG es ea sT aT tT pT qT ma sL aL tL pL qL sK aK tK pK qK sH rH uH)) (q0 := 0) (ci := 6) (rest := []) (st' := [.int r6.1]) C rfl (k_X6_refused hr6) okX6_refused q2_19 rfl xC_obj rfl rfl rfl (Nat.le_of_ble_eq_true rfl) ⟨Nat.le_of_ble_eq_true rfl, Nat.le_of_ble_eq_true rfl⟩ dX6_ofTrain_13 ?_
    obtain rfl := Option.some.inj hf
    exact tt_ireturn (pc := 16) C rfl rfl rfl dX6_ofTrain_16
theorem dX6_height_0 : decode cX6_height 0 = .ok (.aload_n 0, 1) := by decide +kernel
theorem dX6_height_1 : decode cX6_height 1 = .ok (.getfield 10, 3) := by decide +kernel
theorem dX6_height_4 : decode cX6_height 4 = .ok (.iload_n 1, 1) := by decide +kernel
theorem dX6_height_5 : decode cX6_height 5 = .ok (.invokevirtual 151, 3) := by decide +kernel
theorem dX6_height_8 : decode cX6_height 8 = .ok (.ifCond .ne 9, 3) := by decide +kernel
theorem dX6_height_11 : decode cX6_height 11 = .ok (.aload_n 0, 1) := by decide +kernel
theorem dX6_height_12 : decode cX6_height 12 = .ok (.iconst (-1), 1) := by decide +kernel
theorem dX6_height_13 : decode cX6_height 13 = .ok (.invokevirtual 87, 3) := by decide +kernel
theorem dX6_height_16 : decode cX6_height 16 = .ok (.ireturn, 1) := by decide +kernel
theorem dX6_height_17 : decode cX6_height 17 = .ok (.aload_n 0, 1) := by decide +kernel
theorem dX6_height_18 : decode cX6_height 18 = .ok (.getfield 10, 3) := by decide +kernel
theorem dX6_height_21 : decode cX6_height 21 = .ok (.getfield 154, 3) := by decide +kernel
theorem dX6_height_24 : decode cX6_height 24 = .ok (.iload_n 1, 1) := by decide +kernel
theorem dX6_height_25 : decode cX6_height 25 = .ok (.iaload, 1) := by decide +kernel
theorem dX6_height_26 : decode cX6_height 26 = .ok (.ireturn, 1) := by decide +kernel
set_option maxHeartbeats 4000000 in
set_option maxRecDepth 100000 in
theorem k_X6_height {l : Launch} {D : va_G} {cy : Nat → ClassId} {Bd : Nat} {xa : Xa} {xd : Nat → Nat → Nat} {N : Nat} {sX : Nat → Int32} {aX : Nat → Nat → Int32} {uG : Nat → Int32} {es : Nat → Int32} {ea : Nat → Nat → Int32} {sT : Nat → Int32} {aT : Nat → Nat → Int32} {tT : Nat → Nat → Int32} {pT : Nat → Int32} {qT : Nat → Nat → Int32} {ma : Nat → Nat → Int32} {sL : Nat → Int32} {aL : Nat → Nat → Int32} {tL : Nat → Nat → Int32} {pL : Nat → Int32} {qL : Nat → Nat → Int32} {sK : Nat → Int32} {aK : Nat → Nat → Int32} {tK : Nat → Nat → Int32} {pK : Nat → Int32} {qK : Nat → Nat → Int32} {sH : Nat → Nat → Int32} {rH : Nat → Nat → Int64} {uH : Nat → Nat → Int32} {a1 : Int32} {out : Int32 × (Nat → Nat → Int32)} (hf : f_X6_height N aX sL aL a1 = some out) : KC l yX6_height cX6_height 2 (some .int) 1 21 false D cy Bd xa [.ref (xd 0 0), .int a1] (xC cy xd sX aX uG es ea sT aT tT pT qT ma sL aL tL pL qL sK aK tK pK qK sH rH uH) (some (.int out.1)) (xC cy xd sX out.2 uG es ea sT aT tT pT qT ma sL aL tL pL qL sK aK tK pK qK sH rH uH) := by
  refine kc_start (own := RX6) (by decide +kernel) rfl (Nat.le_of_ble_eq_true rfl) ?_
  intro p e s m args below meth c A C
  unfold f_X6_height at hf
  refine tt_locs (L' := [(0, .ref (xd 0 0)), (1, .int a1)]) [0, 1] rfl ?_
  refine tt_aload_n (pc := 0) (k := 0) C dX6_height_0 rfl rfl ?_
  refine tt_get (pc := 1) (ws := (xC cy xd sX aX uG es ea sT aT tT pT qT ma sL aL tL pL qL sK aK tK pK qK sH rH uH)) (ci := 6) (v := .ref ((xd 1) 0)) C fiX6 rfl 0 xC_obj 0 (by decide) q1_219 rfl dX6_height_1 ?_
  refine tt_iload_n (pc := 4) (k := 1) C dX6_height_4 rfl rfl ?_
  obtain ⟨r1, hr1, hf⟩ := bind_some hf
  refine tt_callR (pc := 5) (ws := (xC cy xd sX aX uG es ea sT aT tT pT qT ma sL aL tL pL qL sK aK tK pK qK sH rH uH)) (q0 := 28) (ci := 1) (rest := []) (st' := [.int r1]) C (k_X1_hasCell hr1) okX1_hasCell q3_55 rfl rfl xC_subL rfl rfl rfl (Nat.le_of_ble_eq_true rfl) ⟨Nat.le_of_ble_eq_true rfl, Nat.le_of_ble_eq_true rfl⟩ dX6_height_5 ?_
  refine tt_if_ne (pc := 8) (tgt := 17) C dX6_height_8 (by decide) hf (fun hf => ?_) (fun hf => ?_)
  · refine tt_aload_n (pc := 17) (k := 0) C dX6_height_17 rfl rfl ?_
    refine tt_get (pc := 18) (ws := (xC cy xd sX aX uG es ea sT aT tT pT qT ma sL aL tL pL qL sK aK tK pK qK sH rH uH)) (ci := 6) (v := .ref ((xd 1) 0)) C fiX6 rfl 0 xC_obj 0 (by decide) q1_219 rfl dX6_height_18 ?_
    refine tt_get (pc := 21) (ws := (xC cy xd sX aX uG es ea sT aT tT pT qT ma sL aL tL pL qL sK aK tK pK qK sH rH uH)) (ci := 1) (v := .ref ((xd 1) 1)) C fiX1 rfl 28 rfl 1 (by decide) q1_86 rfl dX6_height_21 ?_
    refine tt_iload_n (pc := 24) (k := 1) C dX6_height_24 rfl rfl ?_
    refine tt_iaload (pc := 25) (ws := (xC cy xd sX aX uG es ea sT aT tT pT qT ma sL aL tL pL qL sK aK tK pK qK sH rH uH)) (n := 24) (f := (aL 1)) C 29 0 rfl rfl hf dX6_height_25 (fun hf => ?_)
    obtain rfl := Option.some.inj hf
    exact tt_ireturn (pc := 26) C rfl rfl rfl dX6_height_26
  · refine tt_aload_n (pc := 11) (k := 0) C dX6_height_11 rfl rfl ?_
    refine tt_iconst (pc := 12) (v := (-1 : Int32)) C dX6_height_12 (by decide) ?_
    obtain ⟨r2, hr2, hf⟩ := bind_some hf
    refine tt_callM (pc := 13) (ws := (xC cy xd sX aX uG es ea sT aT tT pT qT ma sL aL tL pL qL sK aK tK pK qK sH rH uH)) (q0 := 0) (ci := 6) (rest := []) (st' := [.int r2.1]) C rfl (k_X6_refused hr2) okX6_refused q2_19 rfl xC_obj rfl rfl rfl (Nat.le_of_ble_eq_true rfl) ⟨Nat.le_of_ble_eq_true rfl, Nat.le_of_ble_eq_true rfl⟩ dX6_height_13 ?_
    obtain rfl := Option.some.inj hf
    exact tt_ireturn (pc := 16) C rfl rfl rfl dX6_height_16
theorem dX1_allBridges_0 : decode cX1_allBridges 0 = .ok (.iconst 1, 1) := by decide +kernel
theorem dX1_allBridges_1 : decode cX1_allBridges 1 = .ok (.aload_n 0, 1) := by decide +kernel
theorem dX1_allBridges_2 : decode cX1_allBridges 2 = .ok (.getfield 19, 3) := by decide +kernel
theorem dX1_allBridges_5 : decode cX1_allBridges 5 = .ok (.ishl, 1) := by decide +kernel
theorem dX1_allBridges_6 : decode cX1_allBridges 6 = .ok (.iconst 1, 1) := by decide +kernel
theorem dX1_allBridges_7 : decode cX1_allBridges 7 = .ok (.isub, 1) := by decide +kernel
theorem dX1_allBridges_8 : decode cX1_allBridges 8 = .ok (.ireturn, 1) := by decide +kernel
set_option maxHeartbeats 4000000 in
set_option maxRecDepth 100000 in
theorem k_X1_allBridges {l : Launch} {D : va_G} {cy : Nat → ClassId} {Bd : Nat} {xa : Xa} {ad : Nat → Nat} {N : Nat} {sc : Nat → Int32} {ar : Nat → Nat → Int32} {tr : Nat → Nat → Int32} {ps : Nat → Int32} {pa : Nat → Nat → Int32} {out : Int32} (hf : f_X1_allBridges N sc = some out) : KC l yX1_allBridges cX1_allBridges 1 (some .int) 0 0 true D cy Bd xa [.ref (ad 0)] (lC cy ad sc ar tr ps pa) (some (.int out)) (lC cy ad sc ar tr ps pa) := by
  refine kc_start (own := RX1) (by decide +kernel) rfl (Nat.le_of_ble_eq_true rfl) ?_
  intro p e s m args below meth c A C
  unfold f_X1_allBridges at hf
  refine tt_locs (L' := [(0, .ref (ad 0))]) [0] rfl ?_
  refine tt_iconst (pc := 0) (v := (1 : Int32)) C dX1_allBridges_0 (by decide) ?_
  refine tt_aload_n (pc := 1) (k := 0) C dX1_allBridges_1 rfl rfl ?_
  refine tt_get (pc := 2) (ws := (lC cy ad sc ar tr ps pa)) (ci := 1) (v := .int (sc 2)) C fiX1 rfl 0 lC_obj 2 (by decide) q1_87 rfl dX1_allBridges_2 ?_
  refine tt_ishl (pc := 5) C dX1_allBridges_5 ?_
  refine tt_iconst (pc := 6) (v := (1 : Int32)) C dX1_allBridges_6 (by decide) ?_
  refine tt_isub (pc := 7) C dX1_allBridges_7 ?_
  obtain rfl := Option.some.inj hf
  exact tt_ireturn (pc := 8) C rfl rfl rfl dX1_allBridges_8
theorem dX5_step_0 : decode cX5_step 0 = .ok (.aload_n 0, 1) := by decide +kernel
theorem dX5_step_1 : decode cX5_step 1 = .ok (.getfield 21, 3) := by decide +kernel
theorem dX5_step_4 : decode cX5_step 4 = .ok (.ifCond .ne 7, 3) := by decide +kernel
theorem dX5_step_7 : decode cX5_step 7 = .ok (.iconst 1, 1) := by decide +kernel
theorem dX5_step_8 : decode cX5_step 8 = .ok (.goto 4, 3) := by decide +kernel
theorem dX5_step_11 : decode cX5_step 11 = .ok (.iconst (-1), 1) := by decide +kernel
theorem dX5_step_12 : decode cX5_step 12 = .ok (.ireturn, 1) := by decide +kernel
set_option maxHeartbeats 4000000 in
set_option maxRecDepth 100000 in
theorem k_X5_step {l : Launch} {D : va_G} {cy : Nat → ClassId} {Bd : Nat} {xa : Xa} {q : Nat} {N : Nat} {u : Nat → Int32} {out : Int32} (hf : f_X5_step N u = some out) : KC l yX5_step cX5_step 1 (some .int) 0 0 true D cy Bd xa [.ref q] [(q, tE u)] (some (.int out)) [(q, tE u)] := by
  refine kc_start (own := RX5) (by decide +kernel) rfl (Nat.le_of_ble_eq_true rfl) ?_
  intro p e s m args below meth c A C
  unfold f_X5_step at hf
  refine tt_locs (L' := [(0, .ref q)]) [0] rfl ?_
  refine tt_aload_n (pc := 0) (k := 0) C dX5_step_0 rfl rfl ?_
  refine tt_get (pc := 1) (ws := [(q, tE u)]) (ci := 5) (v := .int (u 3)) C fiX5 rfl 0 rfl 3 (by decide) q1_70 rfl dX5_step_1 ?_
  have k2 : TT p l e { frames := 0, cells := 0, slots := 0, locals := 0 } s m args below meth c 1 D A true (some (.int out)) [(q, tE u)] 12 [] [.int (if (u 3) = 0 then (1 : Int32) else (-1 : Int32))] [(q, tE u)] := by
    obtain rfl := Option.some.inj hf
    exact tt_ireturn (pc := 12) C rfl rfl rfl dX5_step_12
  refine tr_if_ne (pc := 4) (tgt := 11) C dX5_step_4 (by decide) (fun c1 => ?_) (fun c1 => ?_)
  · refine tt_iconst (pc := 11) (v := (-1 : Int32)) C dX5_step_11 (by decide) ?_
    try simp only [if_neg c1] at k2 ⊢
    exact tt_locs [] rfl k2
  · refine tt_iconst (pc := 7) (v := (1 : Int32)) C dX5_step_7 (by decide) ?_
    refine tt_goto (pc := 8) (tgt := 12) C dX5_step_8 (by decide) ?_
    try simp only [if_pos c1] at k2 ⊢
    exact tt_locs [] rfl k2
theorem dX1_isBridged_0 : decode cX1_isBridged 0 = .ok (.iconst 0, 1) := by decide +kernel
theorem dX1_isBridged_1 : decode cX1_isBridged 1 = .ok (.istore_n 3, 1) := by decide +kernel
theorem dX1_isBridged_2 : decode cX1_isBridged 2 = .ok (.iload_n 3, 1) := by decide +kernel
theorem dX1_isBridged_3 : decode cX1_isBridged 3 = .ok (.aload_n 0, 1) := by decide +kernel
theorem dX1_isBridged_4 : decode cX1_isBridged 4 = .ok (.getfield 19, 3) := by decide +kernel
theorem dX1_isBridged_7 : decode cX1_isBridged 7 = .ok (.if_icmp .ge 30, 3) := by decide +kernel
theorem dX1_isBridged_10 : decode cX1_isBridged 10 = .ok (.iload_n 2, 1) := by decide +kernel
theorem dX1_isBridged_11 : decode cX1_isBridged 11 = .ok (.iload_n 3, 1) := by decide +kernel
theorem dX1_isBridged_12 : decode cX1_isBridged 12 = .ok (.ishr, 1) := by decide +kernel
theorem dX1_isBridged_13 : decode cX1_isBridged 13 = .ok (.iconst 1, 1) := by decide +kernel
theorem dX1_isBridged_14 : decode cX1_isBridged 14 = .ok (.iand, 1) := by decide +kernel
theorem dX1_isBridged_15 : decode cX1_isBridged 15 = .ok (.iconst 1, 1) := by decide +kernel
theorem dX1_isBridged_16 : decode cX1_isBridged 16 = .ok (.if_icmp .ne 15, 3) := by decide +kernel
theorem dX1_isBridged_19 : decode cX1_isBridged 19 = .ok (.aload_n 0, 1) := by decide +kernel
theorem dX1_isBridged_20 : decode cX1_isBridged 20 = .ok (.getfield 22, 3) := by decide +kernel
theorem dX1_isBridged_23 : decode cX1_isBridged 23 = .ok (.iload_n 3, 1) := by decide +kernel
theorem dX1_isBridged_24 : decode cX1_isBridged 24 = .ok (.iaload, 1) := by decide +kernel
theorem dX1_isBridged_25 : decode cX1_isBridged 25 = .ok (.iload_n 1, 1) := by decide +kernel
theorem dX1_isBridged_26 : decode cX1_isBridged 26 = .ok (.if_icmp .ne 5, 3) := by decide +kernel
theorem dX1_isBridged_29 : decode cX1_isBridged 29 = .ok (.iconst 1, 1) := by decide +kernel
theorem dX1_isBridged_30 : decode cX1_isBridged 30 = .ok (.ireturn, 1) := by decide +kernel
theorem dX1_isBridged_31 : decode cX1_isBridged 31 = .ok (.iinc 3 1, 3) := by decide +kernel
theorem dX1_isBridged_34 : decode cX1_isBridged 34 = .ok (.goto (-32), 3) := by decide +kernel
theorem dX1_isBridged_37 : decode cX1_isBridged 37 = .ok (.iconst 0, 1) := by decide +kernel
theorem dX1_isBridged_38 : decode cX1_isBridged 38 = .ok (.ireturn, 1) := by decide +kernel
set_option maxHeartbeats 4000000 in
set_option maxRecDepth 100000 in
theorem l_X1_isBridged_2 {p : Program} {l : Launch} {e : Env} {s : State} {m : MethodId} {args : Array Value} {below : List Frame} {meth : Method} {c : Code} {D : va_G} {cy : Nat → ClassId} {A : Nat → Prop} {Bd : Nat} {xa : Xa} {ad : Nat → Nat} {N : Nat} {sc : Nat → Int32} {ar : Nat → Nat → Int32} {tr : Nat → Nat → Int32} {ps : Nat → Int32} {pa : Nat → Nat → Int32} {v1 : Int32} {v2 : Int32} {kx : Unit → Option (Int32)} {out : Int32} (C : CC p s m args meth c cX1_isBridged RX1 4 (some .boolean) D cy A true Bd xa) (hk : ∀ (uu : Unit), kx uu = some out → TT p l e { frames := 0, cells := 0, slots := 0, locals := 0 } s m args below meth c 4 D A true (some (.int out)) (lC cy ad sc ar tr ps pa) 37 [] [] (lC cy ad sc ar tr ps pa)) {n : Nat} {v3 : Int32} (hf : f_X1_isBridged_L2 N sc ar v1 v2 kx n v3 = some out) : TT p l e { frames := 0, cells := 0, slots := 0, locals := 0 } s m args below meth c 4 D A true (some (.int out)) (lC cy ad sc ar tr ps pa) 2 [(0, .ref (ad 0)), (1, .int v1), (2, .int v2), (3, .int v3)] [] (lC cy ad sc ar tr ps pa) := by
  induction n generalizing v3 with
  | zero => cases hf
  | succ n ih =>
    rw [f_X1_isBridged_L2] at hf
    refine tt_iload_n (pc := 2) (k := 3) C dX1_isBridged_2 rfl rfl ?_
    refine tt_aload_n (pc := 3) (k := 0) C dX1_isBridged_3 rfl rfl ?_
    refine tt_get (pc := 4) (ws := (lC cy ad sc ar tr ps pa)) (ci := 1) (v := .int (sc 2)) C fiX1 rfl 0 lC_obj 2 (by decide) q1_87 rfl dX1_isBridged_4 ?_
    refine tt_icmp_ge (pc := 7) (tgt := 37) C dX1_isBridged_7 (by decide) hf (fun hf => ?_) (fun hf => ?_)
    · exact tt_locs [] rfl (hk () hf)
    · refine tt_iload_n (pc := 10) (k := 2) C dX1_isBridged_10 rfl rfl ?_
      refine tt_iload_n (pc := 11) (k := 3) C dX1_isBridged_11 rfl rfl ?_
      refine tt_ishr (pc := 12) C dX1_isBridged_12 ?_
      refine tt_iconst (pc := 13) (v := (1 : Int32)) C dX1_isBridged_13 (by decide) ?_
      refine tt_iand (pc := 14) C dX1_isBridged_14 ?_
      refine tt_iconst (pc := 15) (v := (1 : Int32)) C dX1_isBridged_15 (by decide) ?_
      refine tt_icmp_ne (pc := 16) (tgt := 31) C dX1_isBridged_16 (by decide) hf (fun hf => ?_) (fun hf => ?_)
      · refine tt_iinc (pc := 31) (k := 3) (v := (v3 + 1)) (L' := [(3, .int (v3 + 1)), (0, .ref (ad 0)), (1, .int v1), (2, .int v2)]) C dX1_isBridged_31 rfl rfl (by decide) rfl ?_
        refine tt_goto (pc := 34) (tgt := 2) C dX1_isBridged_34 (by decide) ?_
        exact tt_locs [1, 2, 3, 0] rfl (ih hf)
      · refine tt_aload_n (pc := 19) (k := 0) C dX1_isBridged_19 rfl rfl ?_
        refine tt_get (pc := 20) (ws := (lC cy ad sc ar tr ps pa)) (ci := 1) (v := .ref (ad 3)) C fiX1 rfl 0 lC_obj 3 (by decide) q1_89 rfl dX1_isBridged_20 ?_
        refine tt_iload_n (pc := 23) (k := 3) C dX1_isBridged_23 rfl rfl ?_
        refine tt_iaload (pc := 24) (ws := (lC cy ad sc ar tr ps pa)) (n := 4) (f := (ar 3)) C 2 0 lC_get3 rfl hf dX1_isBridged_24 (fun hf => ?_)
        refine tt_iload_n (pc := 25) (k := 1) C dX1_isBridged_25 rfl rfl ?_
        refine tt_icmp_ne (pc := 26) (tgt := 31) C dX1_isBridged_26 (by decide) hf (fun hf => ?_) (fun hf => ?_)
        · refine tt_iinc (pc := 31) (k := 3) (v := (v3 + 1)) (L' := [(3, .int (v3 + 1)), (0, .ref (ad 0)), (1, .int v1), (2, .int v2)]) C dX1_isBridged_31 rfl rfl (by decide) rfl ?_
          refine tt_goto (pc := 34) (tgt := 2) C dX1_isBridged_34 (by decide) ?_
          exact tt_locs [1, 2, 3, 0] rfl (ih hf)
        · refine tt_iconst (pc := 29) (v := (1 : Int32)) C dX1_isBridged_29 (by decide) ?_
          obtain rfl := Option.some.inj hf
          exact tt_zreturn (pc := 30) C rfl rfl rfl rfl dX1_isBridged_30
set_option maxHeartbeats 4000000 in
set_option maxRecDepth 100000 in
theorem k_X1_isBridged {l : Launch} {D : va_G} {cy : Nat → ClassId} {Bd : Nat} {xa : Xa} {ad : Nat → Nat} {N : Nat} {sc : Nat → Int32} {ar : Nat → Nat → Int32} {tr : Nat → Nat → Int32} {ps : Nat → Int32} {pa : Nat → Nat → Int32} {a1 : Int32} {a2 : Int32} {out : Int32} (hf : f_X1_isBridged N sc ar a1 a2 = some out) : KC l yX1_isBridged cX1_isBridged 4 (some .boolean) 0 0 true D cy Bd xa [.ref (ad 0), .int a1, .int a2] (lC cy ad sc ar tr ps pa) (some (.int out)) (lC cy ad sc ar tr ps pa) := by
  refine kc_start (own := RX1) (by decide +kernel) rfl (Nat.le_of_ble_eq_true rfl) ?_
  intro p e s m args below meth c A C
  unfold f_X1_isBridged at hf
  refine tt_locs (L' := [(0, .ref (ad 0)), (1, .int a1), (2, .int a2)]) [0, 1, 2] rfl ?_
  refine tt_iconst (pc := 0) (v := (0 : Int32)) C dX1_isBridged_0 (by decide) ?_
  refine tt_istore_n (pc := 1) (L' := [(3, .int (0 : Int32)), (0, .ref (ad 0)), (1, .int a1), (2, .int a2)]) C dX1_isBridged_1 rfl (by decide) rfl ?_
  refine tt_locs (L' := [(0, .ref (ad 0)), (1, .int a1), (2, .int a2), (3, .int (0 : Int32))]) [1, 2, 3, 0] rfl (l_X1_isBridged_2 C (fun _ hf => ?_) hf)
  refine tt_iconst (pc := 37) (v := (0 : Int32)) C dX1_isBridged_37 (by decide) ?_
  obtain rfl := Option.some.inj hf
  exact tt_zreturn (pc := 38) C rfl rfl rfl rfl dX1_isBridged_38
theorem dX5_timeFor_0 : decode cX5_timeFor 0 = .ok (.aload_n 0, 1) := by decide +kernel
theorem dX5_timeFor_1 : decode cX5_timeFor 1 = .ok (.getfield 18, 3) := by decide +kernel
theorem dX5_timeFor_4 : decode cX5_timeFor 4 = .ok (.iconst 1, 1) := by decide +kernel
theorem dX5_timeFor_5 : decode cX5_timeFor 5 = .ok (.iadd, 1) := by decide +kernel
theorem dX5_timeFor_6 : decode cX5_timeFor 6 = .ok (.iconst 2, 1) := by decide +kernel
theorem dX5_timeFor_7 : decode cX5_timeFor 7 = .ok (.idiv, 1) := by decide +kernel
theorem dX5_timeFor_8 : decode cX5_timeFor 8 = .ok (.istore_n 3, 1) := by decide +kernel
theorem dX5_timeFor_9 : decode cX5_timeFor 9 = .ok (.aload_n 0, 1) := by decide +kernel
theorem dX5_timeFor_10 : decode cX5_timeFor 10 = .ok (.getfield 9, 3) := by decide +kernel
theorem dX5_timeFor_13 : decode cX5_timeFor 13 = .ok (.tableswitch 81 1 5 #[35, 42, 44, 64, 72], 35) := by decide +kernel
theorem dX5_timeFor_48 : decode cX5_timeFor 48 = .ok (.aload_n 0, 1) := by decide +kernel
theorem dX5_timeFor_49 : decode cX5_timeFor 49 = .ok (.getfield 18, 3) := by decide +kernel
theorem dX5_timeFor_52 : decode cX5_timeFor 52 = .ok (.iload_n 1, 1) := by decide +kernel
theorem dX5_timeFor_53 : decode cX5_timeFor 53 = .ok (.iadd, 1) := by decide +kernel
theorem dX5_timeFor_54 : decode cX5_timeFor 54 = .ok (.ireturn, 1) := by decide +kernel
theorem dX5_timeFor_55 : decode cX5_timeFor 55 = .ok (.iload_n 3, 1) := by decide +kernel
theorem dX5_timeFor_56 : decode cX5_timeFor 56 = .ok (.ireturn, 1) := by decide +kernel
theorem dX5_timeFor_57 : decode cX5_timeFor 57 = .ok (.aload_n 0, 1) := by decide +kernel
theorem dX5_timeFor_58 : decode cX5_timeFor 58 = .ok (.getfield 18, 3) := by decide +kernel
theorem dX5_timeFor_61 : decode cX5_timeFor 61 = .ok (.iload_n 1, 1) := by decide +kernel
theorem dX5_timeFor_62 : decode cX5_timeFor 62 = .ok (.iadd, 1) := by decide +kernel
theorem dX5_timeFor_63 : decode cX5_timeFor 63 = .ok (.iload_n 2, 1) := by decide +kernel
theorem dX5_timeFor_64 : decode cX5_timeFor 64 = .ok (.ifCond .eq 10, 3) := by decide +kernel
theorem dX5_timeFor_67 : decode cX5_timeFor 67 = .ok (.aload_n 0, 1) := by decide +kernel
theorem dX5_timeFor_68 : decode cX5_timeFor 68 = .ok (.getfield 15, 3) := by decide +kernel
theorem dX5_timeFor_71 : decode cX5_timeFor 71 = .ok (.goto 4, 3) := by decide +kernel
theorem dX5_timeFor_74 : decode cX5_timeFor 74 = .ok (.iconst 0, 1) := by decide +kernel
theorem dX5_timeFor_75 : decode cX5_timeFor 75 = .ok (.iadd, 1) := by decide +kernel
theorem dX5_timeFor_76 : decode cX5_timeFor 76 = .ok (.ireturn, 1) := by decide +kernel
theorem dX5_timeFor_77 : decode cX5_timeFor 77 = .ok (.iconst 1, 1) := by decide +kernel
theorem dX5_timeFor_78 : decode cX5_timeFor 78 = .ok (.iload_n 3, 1) := by decide +kernel
theorem dX5_timeFor_79 : decode cX5_timeFor 79 = .ok (.iconst 1, 1) := by decide +kernel
theorem dX5_timeFor_80 : decode cX5_timeFor 80 = .ok (.isub, 1) := by decide +kernel
theorem dX5_timeFor_81 : decode cX5_timeFor 81 = .ok (.invokestatic 24, 3) := by decide +kernel
theorem dX5_timeFor_84 : decode cX5_timeFor 84 = .ok (.ireturn, 1) := by decide +kernel
theorem dX5_timeFor_85 : decode cX5_timeFor 85 = .ok (.iconst 2, 1) := by decide +kernel
theorem dX5_timeFor_86 : decode cX5_timeFor 86 = .ok (.aload_n 0, 1) := by decide +kernel
theorem dX5_timeFor_87 : decode cX5_timeFor 87 = .ok (.getfield 18, 3) := by decide +kernel
theorem dX5_timeFor_90 : decode cX5_timeFor 90 = .ok (.iload_n 1, 1) := by decide +kernel
theorem dX5_timeFor_91 : decode cX5_timeFor 91 = .ok (.iadd, 1) := by decide +kernel
theorem dX5_timeFor_92 : decode cX5_timeFor 92 = .ok (.imul, 1) := by decide +kernel
theorem dX5_timeFor_93 : decode cX5_timeFor 93 = .ok (.ireturn, 1) := by decide +kernel
theorem dX5_timeFor_94 : decode cX5_timeFor 94 = .ok (.aload_n 0, 1) := by decide +kernel
theorem dX5_timeFor_95 : decode cX5_timeFor 95 = .ok (.getfield 18, 3) := by decide +kernel
theorem dX5_timeFor_98 : decode cX5_timeFor 98 = .ok (.ireturn, 1) := by decide +kernel
set_option maxHeartbeats 4000000 in
set_option maxRecDepth 100000 in
theorem k_X5_timeFor {l : Launch} {D : va_G} {cy : Nat → ClassId} {Bd : Nat} {xa : Xa} {q : Nat} {N : Nat} {u : Nat → Int32} {a1 : Int32} {a2 : Int32} {out : Int32} (hf : f_X5_timeFor N u a1 a2 = some out) : KC l yX5_timeFor cX5_timeFor 4 (some .int) 1 21 true D cy Bd xa [.ref q, .int a1, .int a2] [(q, tE u)] (some (.int out)) [(q, tE u)] := by
  refine kc_start (own := RX5) (by decide +kernel) rfl (Nat.le_of_ble_eq_true rfl) ?_
  intro p e s m args below meth c A C
  unfold f_X5_timeFor at hf
  refine tt_locs (L' := [(0, .ref q), (1, .int a1), (2, .int a2)]) [0, 1, 2] rfl ?_
  refine tt_aload_n (pc := 0) (k := 0) C dX5_timeFor_0 rfl rfl ?_
  refine tt_get (pc := 1) (ws := [(q, tE u)]) (ci := 5) (v := .int (u 2)) C fiX5 rfl 0 rfl 2 (by decide) q1_67 rfl dX5_timeFor_1 ?_
  refine tt_iconst (pc := 4) (v := (1 : Int32)) C dX5_timeFor_4 (by decide) ?_
  refine tt_iadd (pc := 5) C dX5_timeFor_5 ?_
  refine tt_iconst (pc := 6) (v := (2 : Int32)) C dX5_timeFor_6 (by decide) ?_
  refine tt_idiv (pc := 7) C dX5_timeFor_7 hf (fun hf => ?_)
  refine tt_istore_n (pc := 8) (L' := [(3, .int (((u 2) + (1 : Int32)) / (2 : Int32))), (0, .ref q), (1, .int a1), (2, .int a2)]) C dX5_timeFor_8 rfl (by decide) rfl ?_
  refine tt_aload_n (pc := 9) (k := 1) C dX5_timeFor_9 rfl rfl ?_
  refine tt_get (pc := 10) (ws := [(q, tE u)]) (ci := 5) (v := .int (u 0)) C fiX5 rfl 0 rfl 0 (by decide) q1_61 rfl dX5_timeFor_10 ?_
  refine sw_eq (x := (u 0)) (k := 1) hf (fun hx hf => ?_) (fun n0 hf => ?_)
  · rw [hx]
    refine tt_tabIn (pc := 13) (tgt := 48) (x := 1) C dX5_timeFor_13 (by decide) (by decide) rfl (by decide) ?_
    refine tt_aload_n (pc := 48) (k := 1) C dX5_timeFor_48 rfl rfl ?_
    refine tt_get (pc := 49) (ws := [(q, tE u)]) (ci := 5) (v := .int (u 2)) C fiX5 rfl 0 rfl 2 (by decide) q1_67 rfl dX5_timeFor_49 ?_
    refine tt_iload_n (pc := 52) (k := 2) C dX5_timeFor_52 rfl rfl ?_
    refine tt_iadd (pc := 53) C dX5_timeFor_53 ?_
    obtain rfl := Option.some.inj hf
    exact tt_ireturn (pc := 54) C rfl rfl rfl dX5_timeFor_54
  · refine sw_eq (x := (u 0)) (k := 2) hf (fun hx hf => ?_) (fun n1 hf => ?_)
    · rw [hx]
      refine tt_tabIn (pc := 13) (tgt := 55) (x := 2) C dX5_timeFor_13 (by decide) (by decide) rfl (by decide) ?_
      refine tt_iload_n (pc := 55) (k := 0) C dX5_timeFor_55 rfl rfl ?_
      obtain rfl := Option.some.inj hf
      exact tt_ireturn (pc := 56) C rfl rfl rfl dX5_timeFor_56
    · refine sw_eq (x := (u 0)) (k := 3) hf (fun hx hf => ?_) (fun n2 hf => ?_)
      · rw [hx]
        refine tt_tabIn (pc := 13) (tgt := 57) (x := 3) C dX5_timeFor_13 (by decide) (by decide) rfl (by decide) ?_
        refine tt_aload_n (pc := 57) (k := 1) C dX5_timeFor_57 rfl rfl ?_
        refine tt_get (pc := 58) (ws := [(q, tE u)]) (ci := 5) (v := .int (u 2)) C fiX5 rfl 0 rfl 2 (by decide) q1_67 rfl dX5_timeFor_58 ?_
        refine tt_iload_n (pc := 61) (k := 2) C dX5_timeFor_61 rfl rfl ?_
        refine tt_iadd (pc := 62) C dX5_timeFor_62 ?_
        refine tt_iload_n (pc := 63) (k := 3) C dX5_timeFor_63 rfl rfl ?_
        have k3 : TT p l e { frames := 1, cells := 0, slots := 0, locals := 21 } s m args below meth c 4 D A true (some (.int out)) [(q, tE u)] 75 [] [.int (if a2 = 0 then (0 : Int32) else (u 1)), .int ((u 2) + a1)] [(q, tE u)] := by
          refine tt_iadd (pc := 75) C dX5_timeFor_75 ?_
          obtain rfl := Option.some.inj hf
          exact tt_ireturn (pc := 76) C rfl rfl rfl dX5_timeFor_76
        refine tr_if_eq (pc := 64) (tgt := 74) C dX5_timeFor_64 (by decide) (fun c2 => ?_) (fun c2 => ?_)
        · refine tt_iconst (pc := 74) (v := (0 : Int32)) C dX5_timeFor_74 (by decide) ?_
          try simp only [if_pos c2] at k3 ⊢
          exact tt_locs [] rfl k3
        · refine tt_aload_n (pc := 67) (k := 1) C dX5_timeFor_67 rfl rfl ?_
          refine tt_get (pc := 68) (ws := [(q, tE u)]) (ci := 5) (v := .int (u 1)) C fiX5 rfl 0 rfl 1 (by decide) q1_64 rfl dX5_timeFor_68 ?_
          refine tt_goto (pc := 71) (tgt := 75) C dX5_timeFor_71 (by decide) ?_
          try simp only [if_neg c2] at k3 ⊢
          exact tt_locs [] rfl k3
      · refine sw_eq (x := (u 0)) (k := 4) hf (fun hx hf => ?_) (fun n3 hf => ?_)
        · rw [hx]
          refine tt_tabIn (pc := 13) (tgt := 77) (x := 4) C dX5_timeFor_13 (by decide) (by decide) rfl (by decide) ?_
          refine tt_iconst (pc := 77) (v := (1 : Int32)) C dX5_timeFor_77 (by decide) ?_
          refine tt_iload_n (pc := 78) (k := 0) C dX5_timeFor_78 rfl rfl ?_
          refine tt_iconst (pc := 79) (v := (1 : Int32)) C dX5_timeFor_79 (by decide) ?_
          refine tt_isub (pc := 80) C dX5_timeFor_80 ?_
          refine tt_max (pc := 81) C q3_83 q3_73 q1_14 q3_74 (Nat.le_of_ble_eq_true rfl) (Nat.le_of_ble_eq_true rfl) dX5_timeFor_81 ?_
          obtain rfl := Option.some.inj hf
          exact tt_ireturn (pc := 84) C rfl rfl rfl dX5_timeFor_84
        · refine sw_eq (x := (u 0)) (k := 5) hf (fun hx hf => ?_) (fun n4 hf => ?_)
          · rw [hx]
            refine tt_tabIn (pc := 13) (tgt := 85) (x := 5) C dX5_timeFor_13 (by decide) (by decide) rfl (by decide) ?_
            refine tt_iconst (pc := 85) (v := (2 : Int32)) C dX5_timeFor_85 (by decide) ?_
            refine tt_aload_n (pc := 86) (k := 1) C dX5_timeFor_86 rfl rfl ?_
            refine tt_get (pc := 87) (ws := [(q, tE u)]) (ci := 5) (v := .int (u 2)) C fiX5 rfl 0 rfl 2 (by decide) q1_67 rfl dX5_timeFor_87 ?_
            refine tt_iload_n (pc := 90) (k := 2) C dX5_timeFor_90 rfl rfl ?_
            refine tt_iadd (pc := 91) C dX5_timeFor_91 ?_
            refine tt_imul (pc := 92) C dX5_timeFor_92 ?_
            obtain rfl := Option.some.inj hf
            exact tt_ireturn (pc := 93) C rfl rfl rfl dX5_timeFor_93
          · have g0 := sw_ne n0 (z := 1) (by decide)
            have g1 := sw_ne n1 (z := 2) (by decide)
            have g2 := sw_ne n2 (z := 3) (by decide)
            have g3 := sw_ne n3 (z := 4) (by decide)
            have g4 := sw_ne n4 (z := 5) (by decide)
            refine tt_tabOut (pc := 13) (tgt := 94) C dX5_timeFor_13 (by omega) (by decide) ?_
            refine tt_aload_n (pc := 94) (k := 1) C dX5_timeFor_94 rfl rfl ?_
            refine tt_get (pc := 95) (ws := [(q, tE u)]) (ci := 5) (v := .int (u 2)) C fiX5 rfl 0 rfl 2 (by decide) q1_67 rfl dX5_timeFor_95 ?_
            obtain rfl := Option.some.inj hf
            exact tt_ireturn (pc := 98) C rfl rfl rfl dX5_timeFor_98
theorem dX1_timeIn_0 : decode cX1_timeIn 0 = .ok (.iload_n 2, 1) := by decide +kernel
theorem dX1_timeIn_1 : decode cX1_timeIn 1 = .ok (.aload_n 1, 1) := by decide +kernel
theorem dX1_timeIn_2 : decode cX1_timeIn 2 = .ok (.invokevirtual 109, 3) := by decide +kernel
theorem dX1_timeIn_5 : decode cX1_timeIn 5 = .ok (.iadd, 1) := by decide +kernel
theorem dX1_timeIn_6 : decode cX1_timeIn 6 = .ok (.istore 4, 2) := by decide +kernel
theorem dX1_timeIn_8 : decode cX1_timeIn 8 = .ok (.aload_n 0, 1) := by decide +kernel
theorem dX1_timeIn_9 : decode cX1_timeIn 9 = .ok (.iload 4, 2) := by decide +kernel
theorem dX1_timeIn_11 : decode cX1_timeIn 11 = .ok (.invokevirtual 83, 3) := by decide +kernel
theorem dX1_timeIn_14 : decode cX1_timeIn 14 = .ok (.ifCond .eq 24, 3) := by decide +kernel
theorem dX1_timeIn_17 : decode cX1_timeIn 17 = .ok (.iconst 0, 1) := by decide +kernel
theorem dX1_timeIn_18 : decode cX1_timeIn 18 = .ok (.aload_n 0, 1) := by decide +kernel
theorem dX1_timeIn_19 : decode cX1_timeIn 19 = .ok (.getfield 15, 3) := by decide +kernel
theorem dX1_timeIn_22 : decode cX1_timeIn 22 = .ok (.iload 4, 2) := by decide +kernel
theorem dX1_timeIn_24 : decode cX1_timeIn 24 = .ok (.iaload, 1) := by decide +kernel
theorem dX1_timeIn_25 : decode cX1_timeIn 25 = .ok (.aload_n 0, 1) := by decide +kernel
theorem dX1_timeIn_26 : decode cX1_timeIn 26 = .ok (.getfield 15, 3) := by decide +kernel
theorem dX1_timeIn_29 : decode cX1_timeIn 29 = .ok (.iload_n 2, 1) := by decide +kernel
theorem dX1_timeIn_30 : decode cX1_timeIn 30 = .ok (.iaload, 1) := by decide +kernel
theorem dX1_timeIn_31 : decode cX1_timeIn 31 = .ok (.isub, 1) := by decide +kernel
theorem dX1_timeIn_32 : decode cX1_timeIn 32 = .ok (.invokestatic 113, 3) := by decide +kernel
theorem dX1_timeIn_35 : decode cX1_timeIn 35 = .ok (.goto 4, 3) := by decide +kernel
theorem dX1_timeIn_38 : decode cX1_timeIn 38 = .ok (.iconst 0, 1) := by decide +kernel
theorem dX1_timeIn_39 : decode cX1_timeIn 39 = .ok (.istore 5, 2) := by decide +kernel
theorem dX1_timeIn_41 : decode cX1_timeIn 41 = .ok (.aload_n 1, 1) := by decide +kernel
theorem dX1_timeIn_42 : decode cX1_timeIn 42 = .ok (.iload 5, 2) := by decide +kernel
theorem dX1_timeIn_44 : decode cX1_timeIn 44 = .ok (.aload_n 0, 1) := by decide +kernel
theorem dX1_timeIn_45 : decode cX1_timeIn 45 = .ok (.iload_n 2, 1) := by decide +kernel
theorem dX1_timeIn_46 : decode cX1_timeIn 46 = .ok (.iload_n 3, 1) := by decide +kernel
theorem dX1_timeIn_47 : decode cX1_timeIn 47 = .ok (.invokevirtual 119, 3) := by decide +kernel
theorem dX1_timeIn_50 : decode cX1_timeIn 50 = .ok (.invokevirtual 123, 3) := by decide +kernel
theorem dX1_timeIn_53 : decode cX1_timeIn 53 = .ok (.ireturn, 1) := by decide +kernel
set_option maxHeartbeats 4000000 in
set_option maxRecDepth 100000 in
theorem k_X1_timeIn {l : Launch} {D : va_G} {cy : Nat → ClassId} {Bd : Nat} {xa : Xa} {q : Nat} {ad : Nat → Nat} {N : Nat} {u : Nat → Int32} {sc : Nat → Int32} {ar : Nat → Nat → Int32} {tr : Nat → Nat → Int32} {ps : Nat → Int32} {pa : Nat → Nat → Int32} {a2 : Int32} {a3 : Int32} {out : Int32} (hf : f_X1_timeIn N u sc ar a2 a3 = some out) : KC l yX1_timeIn cX1_timeIn 6 (some .int) 2 44 true D cy Bd xa [.ref (ad 0), .ref q, .int a2, .int a3] ((q, tE u) :: lC cy ad sc ar tr ps pa) (some (.int out)) ((q, tE u) :: lC cy ad sc ar tr ps pa) := by
  refine kc_start (own := RX1) (by decide +kernel) rfl (Nat.le_of_ble_eq_true rfl) ?_
  intro p e s m args below meth c A C
  unfold f_X1_timeIn at hf
  refine tt_locs (L' := [(0, .ref (ad 0)), (1, .ref q), (2, .int a2), (3, .int a3)]) [0, 1, 2, 3] rfl ?_
  refine tt_iload_n (pc := 0) (k := 2) C dX1_timeIn_0 rfl rfl ?_
  refine tt_aload_n (pc := 1) (k := 1) C dX1_timeIn_1 rfl rfl ?_
  obtain ⟨r1, hr1, hf⟩ := bind_some hf
  refine tt_callR (pc := 2) (ws := ((q, tE u) :: lC cy ad sc ar tr ps pa)) (q0 := 0) (ci := 5) (rest := [.int a2]) (st' := [.int r1, .int a2]) C (k_X5_step hr1) okX5_step q3_68 rfl rfl (sub_1 List.mem_cons_self) rfl rfl rfl (Nat.le_of_ble_eq_true rfl) ⟨Nat.le_of_ble_eq_true rfl, Nat.le_of_ble_eq_true rfl⟩ dX1_timeIn_2 ?_
  refine tt_iadd (pc := 5) C dX1_timeIn_5 ?_
  refine tt_istore (pc := 6) (L' := [(4, .int (a2 + r1)), (0, .ref (ad 0)), (1, .ref q), (2, .int a2), (3, .int a3)]) C dX1_timeIn_6 (by decide) rfl ?_
  refine tt_aload_n (pc := 8) (k := 1) C dX1_timeIn_8 rfl rfl ?_
  refine tt_iload (pc := 9) (k := 0) C dX1_timeIn_9 rfl ?_
  obtain ⟨r2, hr2, hf⟩ := bind_some hf
  refine tt_callR (pc := 11) (ws := ((q, tE u) :: lC cy ad sc ar tr ps pa)) (q0 := 1) (ci := 1) (rest := []) (st' := [.int r2]) C (k_X1_hasCell hr2) okX1_hasCell q2_157 rfl rfl (fun _ h => List.mem_cons_of_mem _ h) rfl rfl rfl (Nat.le_of_ble_eq_true rfl) ⟨Nat.le_of_ble_eq_true rfl, Nat.le_of_ble_eq_true rfl⟩ dX1_timeIn_11 ?_
  obtain ⟨j3, hj3, hf⟩ := bind_some hf
  have k4 : TT p l e { frames := 2, cells := 0, slots := 0, locals := 44 } s m args below meth c 6 D A true (some (.int out)) ((q, tE u) :: lC cy ad sc ar tr ps pa) 39 [(0, .ref (ad 0)), (1, .ref q), (2, .int a2), (3, .int a3)] [.int j3] ((q, tE u) :: lC cy ad sc ar tr ps pa) := by
    refine tt_istore (pc := 39) (L' := [(5, .int j3), (0, .ref (ad 0)), (1, .ref q), (2, .int a2), (3, .int a3)]) C dX1_timeIn_39 (by decide) rfl ?_
    refine tt_aload_n (pc := 41) (k := 2) C dX1_timeIn_41 rfl rfl ?_
    refine tt_iload (pc := 42) (k := 0) C dX1_timeIn_42 rfl ?_
    refine tt_aload_n (pc := 44) (k := 1) C dX1_timeIn_44 rfl rfl ?_
    refine tt_iload_n (pc := 45) (k := 3) C dX1_timeIn_45 rfl rfl ?_
    refine tt_iload_n (pc := 46) (k := 4) C dX1_timeIn_46 rfl rfl ?_
    obtain ⟨r5, hr5, hf⟩ := bind_some hf
    refine tt_callR (pc := 47) (ws := ((q, tE u) :: lC cy ad sc ar tr ps pa)) (q0 := 1) (ci := 1) (rest := [.int j3, .ref q]) (st' := [.int r5, .int j3, .ref q]) C (k_X1_isBridged hr5) okX1_isBridged q3_75 rfl rfl (fun _ h => List.mem_cons_of_mem _ h) rfl rfl rfl (Nat.le_of_ble_eq_true rfl) ⟨Nat.le_of_ble_eq_true rfl, Nat.le_of_ble_eq_true rfl⟩ dX1_timeIn_47 ?_
    obtain ⟨r6, hr6, hf⟩ := bind_some hf
    refine tt_callR (pc := 50) (ws := ((q, tE u) :: lC cy ad sc ar tr ps pa)) (q0 := 0) (ci := 5) (rest := []) (st' := [.int r6]) C (k_X5_timeFor hr6) okX5_timeFor q3_79 rfl rfl (sub_1 List.mem_cons_self) rfl rfl rfl (Nat.le_of_ble_eq_true rfl) ⟨Nat.le_of_ble_eq_true rfl, Nat.le_of_ble_eq_true rfl⟩ dX1_timeIn_50 ?_
    obtain rfl := Option.some.inj hf
    exact tt_ireturn (pc := 53) C rfl rfl rfl dX1_timeIn_53
  refine tt_if_eq (pc := 14) (tgt := 38) C dX1_timeIn_14 (by decide) hj3 (fun hj3 => ?_) (fun hj3 => ?_)
  · refine tt_iconst (pc := 38) (v := (0 : Int32)) C dX1_timeIn_38 (by decide) ?_
    obtain rfl := Option.some.inj hj3
    exact tt_locs [1, 2, 3, 4] rfl k4
  · refine tt_iconst (pc := 17) (v := (0 : Int32)) C dX1_timeIn_17 (by decide) ?_
    refine tt_aload_n (pc := 18) (k := 1) C dX1_timeIn_18 rfl rfl ?_
    refine tt_get (pc := 19) (ws := ((q, tE u) :: lC cy ad sc ar tr ps pa)) (ci := 1) (v := .ref (ad 1)) C fiX1 rfl 1 rfl 1 (by decide) q1_85 rfl dX1_timeIn_19 ?_
    refine tt_iload (pc := 22) (k := 0) C dX1_timeIn_22 rfl ?_
    refine tt_iaload (pc := 24) (ws := ((q, tE u) :: lC cy ad sc ar tr ps pa)) (n := 24) (f := (ar 1)) C 2 0 rfl rfl hj3 dX1_timeIn_24 (fun hj3 => ?_)
    refine tt_aload_n (pc := 25) (k := 1) C dX1_timeIn_25 rfl rfl ?_
    refine tt_get (pc := 26) (ws := ((q, tE u) :: lC cy ad sc ar tr ps pa)) (ci := 1) (v := .ref (ad 1)) C fiX1 rfl 1 rfl 1 (by decide) q1_85 rfl dX1_timeIn_26 ?_
    refine tt_iload_n (pc := 29) (k := 3) C dX1_timeIn_29 rfl rfl ?_
    refine tt_iaload (pc := 30) (ws := ((q, tE u) :: lC cy ad sc ar tr ps pa)) (n := 24) (f := (ar 1)) C 2 0 rfl rfl hj3 dX1_timeIn_30 (fun hj3 => ?_)
    refine tt_isub (pc := 31) C dX1_timeIn_31 ?_
    refine tt_max (pc := 32) C q3_72 q3_73 q1_14 q3_74 (Nat.le_of_ble_eq_true rfl) (Nat.le_of_ble_eq_true rfl) dX1_timeIn_32 ?_
    refine tt_goto (pc := 35) (tgt := 39) C dX1_timeIn_35 (by decide) ?_
    obtain rfl := Option.some.inj hj3
    exact tt_locs [1, 2, 3, 4] rfl k4
theorem dX6_time_0 : decode cX6_time 0 = .ok (.aload_n 0, 1) := by decide +kernel
theorem dX6_time_1 : decode cX6_time 1 = .ok (.getfield 10, 3) := by decide +kernel
theorem dX6_time_4 : decode cX6_time 4 = .ok (.iload_n 1, 1) := by decide +kernel
theorem dX6_time_5 : decode cX6_time 5 = .ok (.invokevirtual 129, 3) := by decide +kernel
theorem dX6_time_8 : decode cX6_time 8 = .ok (.ifCond .eq 14, 3) := by decide +kernel
theorem dX6_time_11 : decode cX6_time 11 = .ok (.aload_n 0, 1) := by decide +kernel
theorem dX6_time_12 : decode cX6_time 12 = .ok (.getfield 10, 3) := by decide +kernel
theorem dX6_time_15 : decode cX6_time 15 = .ok (.iload_n 2, 1) := by decide +kernel
theorem dX6_time_16 : decode cX6_time 16 = .ok (.invokevirtual 151, 3) := by decide +kernel
theorem dX6_time_19 : decode cX6_time 19 = .ok (.ifCond .ne 9, 3) := by decide +kernel
theorem dX6_time_22 : decode cX6_time 22 = .ok (.aload_n 0, 1) := by decide +kernel
theorem dX6_time_23 : decode cX6_time 23 = .ok (.iconst (-1), 1) := by decide +kernel
theorem dX6_time_24 : decode cX6_time 24 = .ok (.invokevirtual 87, 3) := by decide +kernel
theorem dX6_time_27 : decode cX6_time 27 = .ok (.ireturn, 1) := by decide +kernel
theorem dX6_time_28 : decode cX6_time 28 = .ok (.aload_n 0, 1) := by decide +kernel
theorem dX6_time_29 : decode cX6_time 29 = .ok (.getfield 10, 3) := by decide +kernel
theorem dX6_time_32 : decode cX6_time 32 = .ok (.aload_n 0, 1) := by decide +kernel
theorem dX6_time_33 : decode cX6_time 33 = .ok (.getfield 10, 3) := by decide +kernel
theorem dX6_time_36 : decode cX6_time 36 = .ok (.getfield 132, 3) := by decide +kernel
theorem dX6_time_39 : decode cX6_time 39 = .ok (.iload_n 1, 1) := by decide +kernel
theorem dX6_time_40 : decode cX6_time 40 = .ok (.aaload, 1) := by decide +kernel
theorem dX6_time_41 : decode cX6_time 41 = .ok (.iload_n 2, 1) := by decide +kernel
theorem dX6_time_42 : decode cX6_time 42 = .ok (.aload_n 0, 1) := by decide +kernel
theorem dX6_time_43 : decode cX6_time 43 = .ok (.getfield 10, 3) := by decide +kernel
theorem dX6_time_46 : decode cX6_time 46 = .ok (.invokevirtual 157, 3) := by decide +kernel
theorem dX6_time_49 : decode cX6_time 49 = .ok (.invokevirtual 160, 3) := by decide +kernel
theorem dX6_time_52 : decode cX6_time 52 = .ok (.ireturn, 1) := by decide +kernel
set_option maxHeartbeats 4000000 in
set_option maxRecDepth 100000 in
theorem k_X6_time {l : Launch} {D : va_G} {cy : Nat → ClassId} {Bd : Nat} {xa : Xa} {xd : Nat → Nat → Nat} {N : Nat} {sX : Nat → Int32} {aX : Nat → Nat → Int32} {uG : Nat → Int32} {es : Nat → Int32} {ea : Nat → Nat → Int32} {sT : Nat → Int32} {aT : Nat → Nat → Int32} {tT : Nat → Nat → Int32} {pT : Nat → Int32} {qT : Nat → Nat → Int32} {ma : Nat → Nat → Int32} {sL : Nat → Int32} {aL : Nat → Nat → Int32} {tL : Nat → Nat → Int32} {pL : Nat → Int32} {qL : Nat → Nat → Int32} {sK : Nat → Int32} {aK : Nat → Nat → Int32} {tK : Nat → Nat → Int32} {pK : Nat → Int32} {qK : Nat → Nat → Int32} {sH : Nat → Nat → Int32} {rH : Nat → Nat → Int64} {uH : Nat → Nat → Int32} {a1 : Int32} {a2 : Int32} {out : Int32 × (Nat → Nat → Int32)} (hf : f_X6_time N aX sL aL tL a1 a2 = some out) : KC l yX6_time cX6_time 3 (some .int) 3 69 false D cy Bd xa [.ref (xd 0 0), .int a1, .int a2] (xC cy xd sX aX uG es ea sT aT tT pT qT ma sL aL tL pL qL sK aK tK pK qK sH rH uH) (some (.int out.1)) (xC cy xd sX out.2 uG es ea sT aT tT pT qT ma sL aL tL pL qL sK aK tK pK qK sH rH uH) := by
  refine kc_start (own := RX6) (by decide +kernel) rfl (Nat.le_of_ble_eq_true rfl) ?_
  intro p e s m args below meth c A C
  unfold f_X6_time at hf
  refine tt_locs (L' := [(0, .ref (xd 0 0)), (1, .int a1), (2, .int a2)]) [0, 1, 2] rfl ?_
  refine tt_aload_n (pc := 0) (k := 0) C dX6_time_0 rfl rfl ?_
  refine tt_get (pc := 1) (ws := (xC cy xd sX aX uG es ea sT aT tT pT qT ma sL aL tL pL qL sK aK tK pK qK sH rH uH)) (ci := 6) (v := .ref ((xd 1) 0)) C fiX6 rfl 0 xC_obj 0 (by decide) q1_219 rfl dX6_time_1 ?_
  refine tt_iload_n (pc := 4) (k := 1) C dX6_time_4 rfl rfl ?_
  obtain ⟨r1, hr1, hf⟩ := bind_some hf
  refine tt_callR (pc := 5) (ws := (xC cy xd sX aX uG es ea sT aT tT pT qT ma sL aL tL pL qL sK aK tK pK qK sH rH uH)) (q0 := 28) (ci := 1) (rest := []) (st' := [.int r1]) C (k_X1_hasTrain hr1) okX1_hasTrain q3_43 rfl rfl xC_subL rfl rfl rfl (Nat.le_of_ble_eq_true rfl) ⟨Nat.le_of_ble_eq_true rfl, Nat.le_of_ble_eq_true rfl⟩ dX6_time_5 ?_
  refine tt_if_eq (pc := 8) (tgt := 22) C dX6_time_8 (by decide) hf (fun hf => ?_) (fun hf => ?_)
  · refine tt_aload_n (pc := 22) (k := 0) C dX6_time_22 rfl rfl ?_
    refine tt_iconst (pc := 23) (v := (-1 : Int32)) C dX6_time_23 (by decide) ?_
    obtain ⟨r2, hr2, hf⟩ := bind_some hf
    refine tt_callM (pc := 24) (ws := (xC cy xd sX aX uG es ea sT aT tT pT qT ma sL aL tL pL qL sK aK tK pK qK sH rH uH)) (q0 := 0) (ci := 6) (rest := []) (st' := [.int r2.1]) C rfl (k_X6_refused hr2) okX6_refused q2_19 rfl xC_obj rfl rfl rfl (Nat.le_of_ble_eq_true rfl) ⟨Nat.le_of_ble_eq_true rfl, Nat.le_of_ble_eq_true rfl⟩ dX6_time_24 ?_
    obtain rfl := Option.some.inj hf
    exact tt_ireturn (pc := 27) C rfl rfl rfl dX6_time_27
  · refine tt_aload_n (pc := 11) (k := 0) C dX6_time_11 rfl rfl ?_
    refine tt_get (pc := 12) (ws := (xC cy xd sX aX uG es ea sT aT tT pT qT ma sL aL tL pL qL sK aK tK pK qK sH rH uH)) (ci := 6) (v := .ref ((xd 1) 0)) C fiX6 rfl 0 xC_obj 0 (by decide) q1_219 rfl dX6_time_12 ?_
    refine tt_iload_n (pc := 15) (k := 2) C dX6_time_15 rfl rfl ?_
    obtain ⟨r3, hr3, hf⟩ := bind_some hf
    refine tt_callR (pc := 16) (ws := (xC cy xd sX aX uG es ea sT aT tT pT qT ma sL aL tL pL qL sK aK tK pK qK sH rH uH)) (q0 := 28) (ci := 1) (rest := []) (st' := [.int r3]) C (k_X1_hasCell hr3) okX1_hasCell q3_55 rfl rfl xC_subL rfl rfl rfl (Nat.le_of_ble_eq_true rfl) ⟨Nat.le_of_ble_eq_true rfl, Nat.le_of_ble_eq_true rfl⟩ dX6_time_16 ?_
    refine tt_if_ne (pc := 19) (tgt := 28) C dX6_time_19 (by decide) hf (fun hf => ?_) (fun hf => ?_)
    · refine tt_aload_n (pc := 28) (k := 0) C dX6_time_28 rfl rfl ?_
      refine tt_get (pc := 29) (ws := (xC cy xd sX aX uG es ea sT aT tT pT qT ma sL aL tL pL qL sK aK tK pK qK sH rH uH)) (ci := 6) (v := .ref ((xd 1) 0)) C fiX6 rfl 0 xC_obj 0 (by decide) q1_219 rfl dX6_time_29 ?_
      refine tt_aload_n (pc := 32) (k := 0) C dX6_time_32 rfl rfl ?_
      refine tt_get (pc := 33) (ws := (xC cy xd sX aX uG es ea sT aT tT pT qT ma sL aL tL pL qL sK aK tK pK qK sH rH uH)) (ci := 6) (v := .ref ((xd 1) 0)) C fiX6 rfl 0 xC_obj 0 (by decide) q1_219 rfl dX6_time_33 ?_
      refine tt_get (pc := 36) (ws := (xC cy xd sX aX uG es ea sT aT tT pT qT ma sL aL tL pL qL sK aK tK pK qK sH rH uH)) (ci := 1) (v := .ref ((xd 1) 10)) C fiX1 rfl 28 rfl 10 (by decide) q1_107 rfl dX6_time_36 ?_
      refine tt_iload_n (pc := 39) (k := 1) C dX6_time_39 rfl rfl ?_
      refine tt_aaload (pc := 40) (ws := (xC cy xd sX aX uG es ea sT aT tT pT qT ma sL aL tL pL qL sK aK tK pK qK sH rH uH)) (n := 4) (r := (fun j => (xd 1) (40 + j))) C 35 4 rfl rfl hf (fun _ _ => rfl) dX6_time_40 (fun hf hlt4 => ?_)
      refine tt_iload_n (pc := 41) (k := 2) C dX6_time_41 rfl rfl ?_
      refine tt_aload_n (pc := 42) (k := 0) C dX6_time_42 rfl rfl ?_
      refine tt_get (pc := 43) (ws := (xC cy xd sX aX uG es ea sT aT tT pT qT ma sL aL tL pL qL sK aK tK pK qK sH rH uH)) (ci := 6) (v := .ref ((xd 1) 0)) C fiX6 rfl 0 xC_obj 0 (by decide) q1_219 rfl dX6_time_43 ?_
      obtain ⟨r5, hr5, hf⟩ := bind_some hf
      refine tt_callR (pc := 46) (ws := (xC cy xd sX aX uG es ea sT aT tT pT qT ma sL aL tL pL qL sK aK tK pK qK sH rH uH)) (q0 := 28) (ci := 1) (rest := [.int a2, .ref ((xd 1) (40 + (ix a1))), .ref ((xd 1) 0)]) (st' := [.int r5, .int a2, .ref ((xd 1) (40 + (ix a1))), .ref ((xd 1) 0)]) C (k_X1_allBridges hr5) okX1_allBridges q3_60 rfl rfl xC_subL rfl rfl rfl (Nat.le_of_ble_eq_true rfl) ⟨Nat.le_of_ble_eq_true rfl, Nat.le_of_ble_eq_true rfl⟩ dX6_time_46 ?_
      obtain ⟨r6, hr6, hf⟩ := bind_some hf
      refine tt_callR (pc := 49) (ws := (xC cy xd sX aX uG es ea sT aT tT pT qT ma sL aL tL pL qL sK aK tK pK qK sH rH uH)) (q0 := 28) (ci := 1) (rest := []) (st' := [.int r6]) C (k_X1_timeIn hr6) okX1_timeIn q3_64 rfl rfl (sub_c (xC_subL _ (lC_tmem hlt4)) xC_subL) rfl rfl rfl (Nat.le_of_ble_eq_true rfl) ⟨Nat.le_of_ble_eq_true rfl, Nat.le_of_ble_eq_true rfl⟩ dX6_time_49 ?_
      obtain rfl := Option.some.inj hf
      exact tt_ireturn (pc := 52) C rfl rfl rfl dX6_time_52
    · refine tt_aload_n (pc := 22) (k := 0) C dX6_time_22 rfl rfl ?_
      refine tt_iconst (pc := 23) (v := (-1 : Int32)) C dX6_time_23 (by decide) ?_
      obtain ⟨r7, hr7, hf⟩ := bind_some hf
      refine tt_callM (pc := 24) (ws := (xC cy xd sX aX uG es ea sT aT tT pT qT ma sL aL tL pL qL sK aK tK pK qK sH rH uH)) (q0 := 0) (ci := 6) (rest := []) (st' := [.int r7.1]) C rfl (k_X6_refused hr7) okX6_refused q2_19 rfl xC_obj rfl rfl rfl (Nat.le_of_ble_eq_true rfl) ⟨Nat.le_of_ble_eq_true rfl, Nat.le_of_ble_eq_true rfl⟩ dX6_time_24 ?_
      obtain rfl := Option.some.inj hf
      exact tt_ireturn (pc := 27) C rfl rfl rfl dX6_time_27
theorem dX1_isClear_0 : decode cX1_isClear 0 = .ok (.iload_n 1, 1) := by decide +kernel
theorem dX1_isClear_1 : decode cX1_isClear 1 = .ok (.iload_n 3, 1) := by decide +kernel
theorem dX1_isClear_2 : decode cX1_isClear 2 = .ok (.invokestatic 127, 3) := by decide +kernel
theorem dX1_isClear_5 : decode cX1_isClear 5 = .ok (.istore 6, 2) := by decide +kernel
theorem dX1_isClear_7 : decode cX1_isClear 7 = .ok (.iload_n 1, 1) := by decide +kernel
theorem dX1_isClear_8 : decode cX1_isClear 8 = .ok (.iload_n 3, 1) := by decide +kernel
theorem dX1_isClear_9 : decode cX1_isClear 9 = .ok (.invokestatic 113, 3) := by decide +kernel
theorem dX1_isClear_12 : decode cX1_isClear 12 = .ok (.istore 7, 2) := by decide +kernel
theorem dX1_isClear_14 : decode cX1_isClear 14 = .ok (.iload 7, 2) := by decide +kernel
theorem dX1_isClear_16 : decode cX1_isClear 16 = .ok (.iload 6, 2) := by decide +kernel
theorem dX1_isClear_18 : decode cX1_isClear 18 = .ok (.isub, 1) := by decide +kernel
theorem dX1_isClear_19 : decode cX1_isClear 19 = .ok (.istore 8, 2) := by decide +kernel
theorem dX1_isClear_21 : decode cX1_isClear 21 = .ok (.aload_n 0, 1) := by decide +kernel
theorem dX1_isClear_22 : decode cX1_isClear 22 = .ok (.getfield 15, 3) := by decide +kernel
theorem dX1_isClear_25 : decode cX1_isClear 25 = .ok (.iload 6, 2) := by decide +kernel
theorem dX1_isClear_27 : decode cX1_isClear 27 = .ok (.iaload, 1) := by decide +kernel
theorem dX1_isClear_28 : decode cX1_isClear 28 = .ok (.iload_n 1, 1) := by decide +kernel
theorem dX1_isClear_29 : decode cX1_isClear 29 = .ok (.iload_n 3, 1) := by decide +kernel
theorem dX1_isClear_30 : decode cX1_isClear 30 = .ok (.if_icmp .ge 7, 3) := by decide +kernel
theorem dX1_isClear_33 : decode cX1_isClear 33 = .ok (.iload_n 2, 1) := by decide +kernel
theorem dX1_isClear_34 : decode cX1_isClear 34 = .ok (.goto 5, 3) := by decide +kernel
theorem dX1_isClear_37 : decode cX1_isClear 37 = .ok (.iload 4, 2) := by decide +kernel
theorem dX1_isClear_39 : decode cX1_isClear 39 = .ok (.iadd, 1) := by decide +kernel
theorem dX1_isClear_40 : decode cX1_isClear 40 = .ok (.istore 9, 2) := by decide +kernel
theorem dX1_isClear_42 : decode cX1_isClear 42 = .ok (.aload_n 0, 1) := by decide +kernel
theorem dX1_isClear_43 : decode cX1_isClear 43 = .ok (.getfield 15, 3) := by decide +kernel
theorem dX1_isClear_46 : decode cX1_isClear 46 = .ok (.iload 7, 2) := by decide +kernel
theorem dX1_isClear_48 : decode cX1_isClear 48 = .ok (.iaload, 1) := by decide +kernel
theorem dX1_isClear_49 : decode cX1_isClear 49 = .ok (.iload_n 1, 1) := by decide +kernel
theorem dX1_isClear_50 : decode cX1_isClear 50 = .ok (.iload_n 3, 1) := by decide +kernel
theorem dX1_isClear_51 : decode cX1_isClear 51 = .ok (.if_icmp .ge 8, 3) := by decide +kernel
theorem dX1_isClear_54 : decode cX1_isClear 54 = .ok (.iload 4, 2) := by decide +kernel
theorem dX1_isClear_56 : decode cX1_isClear 56 = .ok (.goto 4, 3) := by decide +kernel
theorem dX1_isClear_59 : decode cX1_isClear 59 = .ok (.iload_n 2, 1) := by decide +kernel
theorem dX1_isClear_60 : decode cX1_isClear 60 = .ok (.iadd, 1) := by decide +kernel
theorem dX1_isClear_61 : decode cX1_isClear 61 = .ok (.istore 10, 2) := by decide +kernel
theorem dX1_isClear_63 : decode cX1_isClear 63 = .ok (.iload 6, 2) := by decide +kernel
theorem dX1_isClear_65 : decode cX1_isClear 65 = .ok (.iconst 1, 1) := by decide +kernel
theorem dX1_isClear_66 : decode cX1_isClear 66 = .ok (.iadd, 1) := by decide +kernel
theorem dX1_isClear_67 : decode cX1_isClear 67 = .ok (.istore 11, 2) := by decide +kernel
theorem dX1_isClear_69 : decode cX1_isClear 69 = .ok (.iload 11, 2) := by decide +kernel
theorem dX1_isClear_71 : decode cX1_isClear 71 = .ok (.iload 7, 2) := by decide +kernel
theorem dX1_isClear_73 : decode cX1_isClear 73 = .ok (.if_icmp .ge 41, 3) := by decide +kernel
theorem dX1_isClear_76 : decode cX1_isClear 76 = .ok (.iload 9, 2) := by decide +kernel
theorem dX1_isClear_78 : decode cX1_isClear 78 = .ok (.iload 7, 2) := by decide +kernel
theorem dX1_isClear_80 : decode cX1_isClear 80 = .ok (.iload 11, 2) := by decide +kernel
theorem dX1_isClear_82 : decode cX1_isClear 82 = .ok (.isub, 1) := by decide +kernel
theorem dX1_isClear_83 : decode cX1_isClear 83 = .ok (.imul, 1) := by decide +kernel
theorem dX1_isClear_84 : decode cX1_isClear 84 = .ok (.iload 10, 2) := by decide +kernel
theorem dX1_isClear_86 : decode cX1_isClear 86 = .ok (.iload 11, 2) := by decide +kernel
theorem dX1_isClear_88 : decode cX1_isClear 88 = .ok (.iload 6, 2) := by decide +kernel
theorem dX1_isClear_90 : decode cX1_isClear 90 = .ok (.isub, 1) := by decide +kernel
theorem dX1_isClear_91 : decode cX1_isClear 91 = .ok (.imul, 1) := by decide +kernel
theorem dX1_isClear_92 : decode cX1_isClear 92 = .ok (.iadd, 1) := by decide +kernel
theorem dX1_isClear_93 : decode cX1_isClear 93 = .ok (.aload_n 0, 1) := by decide +kernel
theorem dX1_isClear_94 : decode cX1_isClear 94 = .ok (.getfield 15, 3) := by decide +kernel
theorem dX1_isClear_97 : decode cX1_isClear 97 = .ok (.iload 11, 2) := by decide +kernel
theorem dX1_isClear_99 : decode cX1_isClear 99 = .ok (.iaload, 1) := by decide +kernel
theorem dX1_isClear_100 : decode cX1_isClear 100 = .ok (.iload 8, 2) := by decide +kernel
theorem dX1_isClear_102 : decode cX1_isClear 102 = .ok (.imul, 1) := by decide +kernel
theorem dX1_isClear_103 : decode cX1_isClear 103 = .ok (.if_icmp .gt 5, 3) := by decide +kernel
theorem dX1_isClear_106 : decode cX1_isClear 106 = .ok (.iconst 0, 1) := by decide +kernel
theorem dX1_isClear_107 : decode cX1_isClear 107 = .ok (.ireturn, 1) := by decide +kernel
theorem dX1_isClear_108 : decode cX1_isClear 108 = .ok (.iinc 11 1, 3) := by decide +kernel
theorem dX1_isClear_111 : decode cX1_isClear 111 = .ok (.goto (-42), 3) := by decide +kernel
theorem dX1_isClear_114 : decode cX1_isClear 114 = .ok (.iconst 0, 1) := by decide +kernel
theorem dX1_isClear_115 : decode cX1_isClear 115 = .ok (.istore 11, 2) := by decide +kernel
theorem dX1_isClear_117 : decode cX1_isClear 117 = .ok (.iload 11, 2) := by decide +kernel
theorem dX1_isClear_119 : decode cX1_isClear 119 = .ok (.aload_n 0, 1) := by decide +kernel
theorem dX1_isClear_120 : decode cX1_isClear 120 = .ok (.getfield 19, 3) := by decide +kernel
theorem dX1_isClear_123 : decode cX1_isClear 123 = .ok (.if_icmp .ge 94, 3) := by decide +kernel
theorem dX1_isClear_126 : decode cX1_isClear 126 = .ok (.aload_n 0, 1) := by decide +kernel
theorem dX1_isClear_127 : decode cX1_isClear 127 = .ok (.getfield 22, 3) := by decide +kernel
theorem dX1_isClear_130 : decode cX1_isClear 130 = .ok (.iload 11, 2) := by decide +kernel
theorem dX1_isClear_132 : decode cX1_isClear 132 = .ok (.iaload, 1) := by decide +kernel
theorem dX1_isClear_133 : decode cX1_isClear 133 = .ok (.istore 12, 2) := by decide +kernel
theorem dX1_isClear_135 : decode cX1_isClear 135 = .ok (.iload 5, 2) := by decide +kernel
theorem dX1_isClear_137 : decode cX1_isClear 137 = .ok (.iload 11, 2) := by decide +kernel
theorem dX1_isClear_139 : decode cX1_isClear 139 = .ok (.ishr, 1) := by decide +kernel
theorem dX1_isClear_140 : decode cX1_isClear 140 = .ok (.iconst 1, 1) := by decide +kernel
theorem dX1_isClear_141 : decode cX1_isClear 141 = .ok (.iand, 1) := by decide +kernel
theorem dX1_isClear_142 : decode cX1_isClear 142 = .ok (.iconst 1, 1) := by decide +kernel
theorem dX1_isClear_143 : decode cX1_isClear 143 = .ok (.if_icmp .ne 68, 3) := by decide +kernel
theorem dX1_isClear_146 : decode cX1_isClear 146 = .ok (.iload 12, 2) := by decide +kernel
theorem dX1_isClear_148 : decode cX1_isClear 148 = .ok (.iload 6, 2) := by decide +kernel
theorem dX1_isClear_150 : decode cX1_isClear 150 = .ok (.if_icmp .le 61, 3) := by decide +kernel
theorem dX1_isClear_153 : decode cX1_isClear 153 = .ok (.iload 12, 2) := by decide +kernel
theorem dX1_isClear_155 : decode cX1_isClear 155 = .ok (.iload 7, 2) := by decide +kernel
theorem dX1_isClear_157 : decode cX1_isClear 157 = .ok (.if_icmp .ge 54, 3) := by decide +kernel
theorem dX1_isClear_160 : decode cX1_isClear 160 = .ok (.iload 9, 2) := by decide +kernel
theorem dX1_isClear_162 : decode cX1_isClear 162 = .ok (.iload 7, 2) := by decide +kernel
theorem dX1_isClear_164 : decode cX1_isClear 164 = .ok (.iload 12, 2) := by decide +kernel
theorem dX1_isClear_166 : decode cX1_isClear 166 = .ok (.isub, 1) := by decide +kernel
theorem dX1_isClear_167 : decode cX1_isClear 167 = .ok (.imul, 1) := by decide +kernel
theorem dX1_isClear_168 : decode cX1_isClear 168 = .ok (.iload 10, 2) := by decide +kernel
theorem dX1_isClear_170 : decode cX1_isClear 170 = .ok (.iload 12, 2) := by decide +kernel
theorem dX1_isClear_172 : decode cX1_isClear 172 = .ok (.iload 6, 2) := by decide +kernel
theorem dX1_isClear_174 : decode cX1_isClear 174 = .ok (.isub, 1) := by decide +kernel
theorem dX1_isClear_175 : decode cX1_isClear 175 = .ok (.imul, 1) := by decide +kernel
theorem dX1_isClear_176 : decode cX1_isClear 176 = .ok (.iadd, 1) := by decide +kernel
theorem dX1_isClear_177 : decode cX1_isClear 177 = .ok (.istore 13, 2) := by decide +kernel
theorem dX1_isClear_179 : decode cX1_isClear 179 = .ok (.iload 13, 2) := by decide +kernel
theorem dX1_isClear_181 : decode cX1_isClear 181 = .ok (.aload_n 0, 1) := by decide +kernel
theorem dX1_isClear_182 : decode cX1_isClear 182 = .ok (.getfield 25, 3) := by decide +kernel
theorem dX1_isClear_185 : decode cX1_isClear 185 = .ok (.iload 11, 2) := by decide +kernel
theorem dX1_isClear_187 : decode cX1_isClear 187 = .ok (.iaload, 1) := by decide +kernel
theorem dX1_isClear_188 : decode cX1_isClear 188 = .ok (.iload 8, 2) := by decide +kernel
theorem dX1_isClear_190 : decode cX1_isClear 190 = .ok (.imul, 1) := by decide +kernel
theorem dX1_isClear_191 : decode cX1_isClear 191 = .ok (.if_icmp .lt 20, 3) := by decide +kernel
theorem dX1_isClear_194 : decode cX1_isClear 194 = .ok (.iload 13, 2) := by decide +kernel
theorem dX1_isClear_196 : decode cX1_isClear 196 = .ok (.aload_n 0, 1) := by decide +kernel
theorem dX1_isClear_197 : decode cX1_isClear 197 = .ok (.getfield 28, 3) := by decide +kernel
theorem dX1_isClear_200 : decode cX1_isClear 200 = .ok (.iload 11, 2) := by decide +kernel
theorem dX1_isClear_202 : decode cX1_isClear 202 = .ok (.iaload, 1) := by decide +kernel
theorem dX1_isClear_203 : decode cX1_isClear 203 = .ok (.iload 8, 2) := by decide +kernel
theorem dX1_isClear_205 : decode cX1_isClear 205 = .ok (.imul, 1) := by decide +kernel
theorem dX1_isClear_206 : decode cX1_isClear 206 = .ok (.if_icmp .gt 5, 3) := by decide +kernel
theorem dX1_isClear_209 : decode cX1_isClear 209 = .ok (.iconst 0, 1) := by decide +kernel
theorem dX1_isClear_210 : decode cX1_isClear 210 = .ok (.ireturn, 1) := by decide +kernel
theorem dX1_isClear_211 : decode cX1_isClear 211 = .ok (.iinc 11 1, 3) := by decide +kernel
theorem dX1_isClear_214 : decode cX1_isClear 214 = .ok (.goto (-97), 3) := by decide +kernel
theorem dX1_isClear_217 : decode cX1_isClear 217 = .ok (.iconst 1, 1) := by decide +kernel
theorem dX1_isClear_218 : decode cX1_isClear 218 = .ok (.ireturn, 1) := by decide +kernel
set_option maxHeartbeats 4000000 in
set_option maxRecDepth 100000 in
theorem l_X1_isClear_69 {p : Program} {l : Launch} {e : Env} {s : State} {m : MethodId} {args : Array Value} {below : List Frame} {meth : Method} {c : Code} {D : va_G} {cy : Nat → ClassId} {A : Nat → Prop} {Bd : Nat} {xa : Xa} {ad : Nat → Nat} {N : Nat} {sc : Nat → Int32} {ar : Nat → Nat → Int32} {tr : Nat → Nat → Int32} {ps : Nat → Int32} {pa : Nat → Nat → Int32} {v5 : Int32} {v6 : Int32} {v7 : Int32} {v8 : Int32} {v9 : Int32} {v10 : Int32} {kx : Unit → Option (Int32)} {out : Int32} (C : CC p s m args meth c cX1_isClear RX1 14 (some .boolean) D cy A true Bd xa) (hk : ∀ (uu : Unit), kx uu = some out → TT p l e { frames := 1, cells := 0, slots := 0, locals := 21 } s m args below meth c 14 D A true (some (.int out)) (lC cy ad sc ar tr ps pa) 114 [(0, .ref (ad 0)), (5, .int v5), (6, .int v6), (7, .int v7), (8, .int v8), (9, .int v9), (10, .int v10)] [] (lC cy ad sc ar tr ps pa)) {n : Nat} {v11 : Int32} (hf : f_X1_isClear_L69 N sc ar v5 v6 v7 v8 v9 v10 kx n v11 = some out) : TT p l e { frames := 1, cells := 0, slots := 0, locals := 21 } s m args below meth c 14 D A true (some (.int out)) (lC cy ad sc ar tr ps pa) 69 [(0, .ref (ad 0)), (5, .int v5), (6, .int v6), (7, .int v7), (8, .int v8), (9, .int v9), (10, .int v10), (11, .int v11)] [] (lC cy ad sc ar tr ps pa) := by
  induction n generalizing v11 with
  | zero => cases hf
  | succ n ih =>
    rw [f_X1_isClear_L69] at hf
    refine tt_iload (pc := 69) (k := 7) C dX1_isClear_69 rfl ?_
    refine tt_iload (pc := 71) (k := 3) C dX1_isClear_71 rfl ?_
    refine tt_icmp_ge (pc := 73) (tgt := 114) C dX1_isClear_73 (by decide) hf (fun hf => ?_) (fun hf => ?_)
    · exact tt_locs [0, 1, 2, 3, 4, 5, 6] rfl (hk () hf)
    · refine tt_iload (pc := 76) (k := 5) C dX1_isClear_76 rfl ?_
      refine tt_iload (pc := 78) (k := 3) C dX1_isClear_78 rfl ?_
      refine tt_iload (pc := 80) (k := 7) C dX1_isClear_80 rfl ?_
      refine tt_isub (pc := 82) C dX1_isClear_82 ?_
      refine tt_imul (pc := 83) C dX1_isClear_83 ?_
      refine tt_iload (pc := 84) (k := 6) C dX1_isClear_84 rfl ?_
      refine tt_iload (pc := 86) (k := 7) C dX1_isClear_86 rfl ?_
      refine tt_iload (pc := 88) (k := 2) C dX1_isClear_88 rfl ?_
      refine tt_isub (pc := 90) C dX1_isClear_90 ?_
      refine tt_imul (pc := 91) C dX1_isClear_91 ?_
      refine tt_iadd (pc := 92) C dX1_isClear_92 ?_
      refine tt_aload_n (pc := 93) (k := 0) C dX1_isClear_93 rfl rfl ?_
      refine tt_get (pc := 94) (ws := (lC cy ad sc ar tr ps pa)) (ci := 1) (v := .ref (ad 1)) C fiX1 rfl 0 lC_obj 1 (by decide) q1_85 rfl dX1_isClear_94 ?_
      refine tt_iload (pc := 97) (k := 7) C dX1_isClear_97 rfl ?_
      refine tt_iaload (pc := 99) (ws := (lC cy ad sc ar tr ps pa)) (n := 24) (f := (ar 1)) C 1 0 lC_get1 rfl hf dX1_isClear_99 (fun hf => ?_)
      refine tt_iload (pc := 100) (k := 4) C dX1_isClear_100 rfl ?_
      refine tt_imul (pc := 102) C dX1_isClear_102 ?_
      refine tt_icmp_gt (pc := 103) (tgt := 108) C dX1_isClear_103 (by decide) hf (fun hf => ?_) (fun hf => ?_)
      · refine tt_iinc (pc := 108) (k := 7) (v := (v11 + 1)) (L' := [(11, .int (v11 + 1)), (0, .ref (ad 0)), (5, .int v5), (6, .int v6), (7, .int v7), (8, .int v8), (9, .int v9), (10, .int v10)]) C dX1_isClear_108 rfl rfl (by decide) rfl ?_
        refine tt_goto (pc := 111) (tgt := 69) C dX1_isClear_111 (by decide) ?_
        exact tt_locs [1, 2, 3, 4, 5, 6, 7, 0] rfl (ih hf)
      · refine tt_iconst (pc := 106) (v := (0 : Int32)) C dX1_isClear_106 (by decide) ?_
        obtain rfl := Option.some.inj hf
        exact tt_zreturn (pc := 107) C rfl rfl rfl rfl dX1_isClear_107
set_option maxHeartbeats 4000000 in
set_option maxRecDepth 100000 in
theorem l_X1_isClear_117 {p : Program} {l : Launch} {e : Env} {s : State} {m : MethodId} {args : Array Value} {below : List Frame} {meth : Method} {c : Code} {D : va_G} {cy : Nat → ClassId} {A : Nat → Prop} {Bd : Nat} {xa : Xa} {ad : Nat → Nat} {N : Nat} {sc : Nat → Int32} {ar : Nat → Nat → Int32} {tr : Nat → Nat → Int32} {ps : Nat → Int32} {pa : Nat → Nat → Int32} {v5 : Int32} {v6 : Int32} {v7 : Int32} {v8 : Int32} {v9 : Int32} {v10 : Int32} {kx : Unit → Option (Int32)} {out : Int32} (C : CC p s m args meth c cX1_isClear RX1 14 (some .boolean) D cy A true Bd xa) (hk : ∀ (uu : Unit), kx uu = some out → TT p l e { frames := 1, cells := 0, slots := 0, locals := 21 } s m args below meth c 14 D A true (some (.int out)) (lC cy ad sc ar tr ps pa) 217 [] [] (lC cy ad sc ar tr ps pa)) {n : Nat} {v11 : Int32} (hf : f_X1_isClear_L117 N sc ar v5 v6 v7 v8 v9 v10 kx n v11 = some out) : TT p l e { frames := 1, cells := 0, slots := 0, locals := 21 } s m args below meth c 14 D A true (some (.int out)) (lC cy ad sc ar tr ps pa) 117 [(0, .ref (ad 0)), (5, .int v5), (6, .int v6), (7, .int v7), (8, .int v8), (9, .int v9), (10, .int v10), (11, .int v11)] [] (lC cy ad sc ar tr ps pa) := by
  induction n generalizing v11 with
  | zero => cases hf
  | succ n ih =>
    rw [f_X1_isClear_L117] at hf
    refine tt_iload (pc := 117) (k := 7) C dX1_isClear_117 rfl ?_
    refine tt_aload_n (pc := 119) (k := 0) C dX1_isClear_119 rfl rfl ?_
    refine tt_get (pc := 120) (ws := (lC cy ad sc ar tr ps pa)) (ci := 1) (v := .int (sc 2)) C fiX1 rfl 0 lC_obj 2 (by decide) q1_87 rfl dX1_isClear_120 ?_
    refine tt_icmp_ge (pc := 123) (tgt := 217) C dX1_isClear_123 (by decide) hf (fun hf => ?_) (fun hf => ?_)
    · exact tt_locs [] rfl (hk () hf)
    · refine tt_aload_n (pc := 126) (k := 0) C dX1_isClear_126 rfl rfl ?_
      refine tt_get (pc := 127) (ws := (lC cy ad sc ar tr ps pa)) (ci := 1) (v := .ref (ad 3)) C fiX1 rfl 0 lC_obj 3 (by decide) q1_89 rfl dX1_isClear_127 ?_
      refine tt_iload (pc := 130) (k := 7) C dX1_isClear_130 rfl ?_
      refine tt_iaload (pc := 132) (ws := (lC cy ad sc ar tr ps pa)) (n := 4) (f := (ar 3)) C 2 0 lC_get3 rfl hf dX1_isClear_132 (fun hf => ?_)
      refine tt_istore (pc := 133) (L' := [(12, .int ((ar 3) (ix v11))), (0, .ref (ad 0)), (5, .int v5), (6, .int v6), (7, .int v7), (8, .int v8), (9, .int v9), (10, .int v10), (11, .int v11)]) C dX1_isClear_133 (by decide) rfl ?_
      refine tt_iload (pc := 135) (k := 2) C dX1_isClear_135 rfl ?_
      refine tt_iload (pc := 137) (k := 8) C dX1_isClear_137 rfl ?_
      refine tt_ishr (pc := 139) C dX1_isClear_139 ?_
      refine tt_iconst (pc := 140) (v := (1 : Int32)) C dX1_isClear_140 (by decide) ?_
      refine tt_iand (pc := 141) C dX1_isClear_141 ?_
      refine tt_iconst (pc := 142) (v := (1 : Int32)) C dX1_isClear_142 (by decide) ?_
      refine tt_icmp_ne (pc := 143) (tgt := 211) C dX1_isClear_143 (by decide) hf (fun hf => ?_) (fun hf => ?_)
      · refine tt_iinc (pc := 211) (k := 8) (v := (v11 + 1)) (L' := [(11, .int (v11 + 1)), (12, .int ((ar 3) (ix v11))), (0, .ref (ad 0)), (5, .int v5), (6, .int v6), (7, .int v7), (8, .int v8), (9, .int v9), (10, .int v10)]) C dX1_isClear_211 rfl rfl (by decide) rfl ?_
        refine tt_goto (pc := 214) (tgt := 117) C dX1_isClear_214 (by decide) ?_
        exact tt_locs [2, 3, 4, 5, 6, 7, 8, 0] rfl (ih hf)
      · refine tt_iload (pc := 146) (k := 0) C dX1_isClear_146 rfl ?_
        refine tt_iload (pc := 148) (k := 3) C dX1_isClear_148 rfl ?_
        refine tt_icmp_le (pc := 150) (tgt := 211) C dX1_isClear_150 (by decide) hf (fun hf => ?_) (fun hf => ?_)
        · refine tt_iinc (pc := 211) (k := 8) (v := (v11 + 1)) (L' := [(11, .int (v11 + 1)), (12, .int ((ar 3) (ix v11))), (0, .ref (ad 0)), (5, .int v5), (6, .int v6), (7, .int v7), (8, .int v8), (9, .int v9), (10, .int v10)]) C dX1_isClear_211 rfl rfl (by decide) rfl ?_
          refine tt_goto (pc := 214) (tgt := 117) C dX1_isClear_214 (by decide) ?_
          exact tt_locs [2, 3, 4, 5, 6, 7, 8, 0] rfl (ih hf)
        · refine tt_iload (pc := 153) (k := 0) C dX1_isClear_153 rfl ?_
          refine tt_iload (pc := 155) (k := 4) C dX1_isClear_155 rfl ?_
          refine tt_icmp_ge (pc := 157) (tgt := 211) C dX1_isClear_157 (by decide) hf (fun hf => ?_) (fun hf => ?_)
          · refine tt_iinc (pc := 211) (k := 8) (v := (v11 + 1)) (L' := [(11, .int (v11 + 1)), (12, .int ((ar 3) (ix v11))), (0, .ref (ad 0)), (5, .int v5), (6, .int v6), (7, .int v7), (8, .int v8), (9, .int v9), (10, .int v10)]) C dX1_isClear_211 rfl rfl (by decide) rfl ?_
            refine tt_goto (pc := 214) (tgt := 117) C dX1_isClear_214 (by decide) ?_
            exact tt_locs [2, 3, 4, 5, 6, 7, 8, 0] rfl (ih hf)
          · refine tt_iload (pc := 160) (k := 6) C dX1_isClear_160 rfl ?_
            refine tt_iload (pc := 162) (k := 4) C dX1_isClear_162 rfl ?_
            refine tt_iload (pc := 164) (k := 0) C dX1_isClear_164 rfl ?_
            refine tt_isub (pc := 166) C dX1_isClear_166 ?_
            refine tt_imul (pc := 167) C dX1_isClear_167 ?_
            refine tt_iload (pc := 168) (k := 7) C dX1_isClear_168 rfl ?_
            refine tt_iload (pc := 170) (k := 0) C dX1_isClear_170 rfl ?_
            refine tt_iload (pc := 172) (k := 3) C dX1_isClear_172 rfl ?_
            refine tt_isub (pc := 174) C dX1_isClear_174 ?_
            refine tt_imul (pc := 175) C dX1_isClear_175 ?_
            refine tt_iadd (pc := 176) C dX1_isClear_176 ?_
            refine tt_istore (pc := 177) (L' := [(13, .int ((v9 * (v7 - ((ar 3) (ix v11)))) + (v10 * (((ar 3) (ix v11)) - v6)))), (12, .int ((ar 3) (ix v11))), (0, .ref (ad 0)), (5, .int v5), (6, .int v6), (7, .int v7), (8, .int v8), (9, .int v9), (10, .int v10), (11, .int v11)]) C dX1_isClear_177 (by decide) rfl ?_
            refine tt_iload (pc := 179) (k := 0) C dX1_isClear_179 rfl ?_
            refine tt_aload_n (pc := 181) (k := 2) C dX1_isClear_181 rfl rfl ?_
            refine tt_get (pc := 182) (ws := (lC cy ad sc ar tr ps pa)) (ci := 1) (v := .ref (ad 4)) C fiX1 rfl 0 lC_obj 4 (by decide) q1_91 rfl dX1_isClear_182 ?_
            refine tt_iload (pc := 185) (k := 9) C dX1_isClear_185 rfl ?_
            refine tt_iaload (pc := 187) (ws := (lC cy ad sc ar tr ps pa)) (n := 4) (f := (ar 4)) C 3 0 lC_get4 rfl hf dX1_isClear_187 (fun hf => ?_)
            refine tt_iload (pc := 188) (k := 6) C dX1_isClear_188 rfl ?_
            refine tt_imul (pc := 190) C dX1_isClear_190 ?_
            refine tt_icmp_lt (pc := 191) (tgt := 211) C dX1_isClear_191 (by decide) hf (fun hf => ?_) (fun hf => ?_)
            · refine tt_iinc (pc := 211) (k := 9) (v := (v11 + 1)) (L' := [(11, .int (v11 + 1)), (13, .int ((v9 * (v7 - ((ar 3) (ix v11)))) + (v10 * (((ar 3) (ix v11)) - v6)))), (12, .int ((ar 3) (ix v11))), (0, .ref (ad 0)), (5, .int v5), (6, .int v6), (7, .int v7), (8, .int v8), (9, .int v9), (10, .int v10)]) C dX1_isClear_211 rfl rfl (by decide) rfl ?_
              refine tt_goto (pc := 214) (tgt := 117) C dX1_isClear_214 (by decide) ?_
              exact tt_locs [3, 4, 5, 6, 7, 8, 9, 0] rfl (ih hf)
            · refine tt_iload (pc := 194) (k := 0) C dX1_isClear_194 rfl ?_
              refine tt_aload_n (pc := 196) (k := 2) C dX1_isClear_196 rfl rfl ?_
              refine tt_get (pc := 197) (ws := (lC cy ad sc ar tr ps pa)) (ci := 1) (v := .ref (ad 5)) C fiX1 rfl 0 lC_obj 5 (by decide) q1_93 rfl dX1_isClear_197 ?_
              refine tt_iload (pc := 200) (k := 9) C dX1_isClear_200 rfl ?_
              refine tt_iaload (pc := 202) (ws := (lC cy ad sc ar tr ps pa)) (n := 4) (f := (ar 5)) C 4 0 lC_get5 rfl hf dX1_isClear_202 (fun hf => ?_)
              refine tt_iload (pc := 203) (k := 6) C dX1_isClear_203 rfl ?_
              refine tt_imul (pc := 205) C dX1_isClear_205 ?_
              refine tt_icmp_gt (pc := 206) (tgt := 211) C dX1_isClear_206 (by decide) hf (fun hf => ?_) (fun hf => ?_)
              · refine tt_iinc (pc := 211) (k := 9) (v := (v11 + 1)) (L' := [(11, .int (v11 + 1)), (13, .int ((v9 * (v7 - ((ar 3) (ix v11)))) + (v10 * (((ar 3) (ix v11)) - v6)))), (12, .int ((ar 3) (ix v11))), (0, .ref (ad 0)), (5, .int v5), (6, .int v6), (7, .int v7), (8, .int v8), (9, .int v9), (10, .int v10)]) C dX1_isClear_211 rfl rfl (by decide) rfl ?_
                refine tt_goto (pc := 214) (tgt := 117) C dX1_isClear_214 (by decide) ?_
                exact tt_locs [3, 4, 5, 6, 7, 8, 9, 0] rfl (ih hf)
              · refine tt_iconst (pc := 209) (v := (0 : Int32)) C dX1_isClear_209 (by decide) ?_
                obtain rfl := Option.some.inj hf
                exact tt_zreturn (pc := 210) C rfl rfl rfl rfl dX1_isClear_210
set_option maxHeartbeats 4000000 in
set_option maxRecDepth 100000 in
theorem k_X1_isClear {l : Launch} {D : va_G} {cy : Nat → ClassId} {Bd : Nat} {xa : Xa} {ad : Nat → Nat} {N : Nat} {sc : Nat → Int32} {ar : Nat → Nat → Int32} {tr : Nat → Nat → Int32} {ps : Nat → Int32} {pa : Nat → Nat → Int32} {a1 : Int32} {a2 : Int32} {a3 : Int32} {a4 : Int32} {a5 : Int32} {out : Int32} (hf : f_X1_isClear N sc ar a1 a2 a3 a4 a5 = some out) : KC l yX1_isClear cX1_isClear 14 (some .boolean) 1 21 true D cy Bd xa [.ref (ad 0), .int a1, .int a2, .int a3, .int a4, .int a5] (lC cy ad sc ar tr ps pa) (some (.int out)) (lC cy ad sc ar tr ps pa) := by
  refine kc_start (own := RX1) (by decide +kernel) rfl (Nat.le_of_ble_eq_true rfl) ?_
  intro p e s m args below meth c A C
  unfold f_X1_isClear at hf
  refine tt_locs (L' := [(0, .ref (ad 0)), (1, .int a1), (2, .int a2), (3, .int a3), (4, .int a4), (5, .int a5)]) [0, 1, 2, 3, 4, 5] rfl ?_
  refine tt_iload_n (pc := 0) (k := 1) C dX1_isClear_0 rfl rfl ?_
  refine tt_iload_n (pc := 1) (k := 3) C dX1_isClear_1 rfl rfl ?_
  refine tt_min (pc := 2) C q3_92 q3_93 q1_14 q3_94 (Nat.le_of_ble_eq_true rfl) (Nat.le_of_ble_eq_true rfl) dX1_isClear_2 ?_
  refine tt_istore (pc := 5) (L' := [(6, .int (if a3 < a1 then a3 else a1)), (0, .ref (ad 0)), (1, .int a1), (2, .int a2), (3, .int a3), (4, .int a4), (5, .int a5)]) C dX1_isClear_5 (by decide) rfl ?_
  refine tt_iload_n (pc := 7) (k := 2) C dX1_isClear_7 rfl rfl ?_
  refine tt_iload_n (pc := 8) (k := 4) C dX1_isClear_8 rfl rfl ?_
  refine tt_max (pc := 9) C q3_72 q3_73 q1_14 q3_74 (Nat.le_of_ble_eq_true rfl) (Nat.le_of_ble_eq_true rfl) dX1_isClear_9 ?_
  refine tt_istore (pc := 12) (L' := [(7, .int (if a1 < a3 then a3 else a1)), (6, .int (if a3 < a1 then a3 else a1)), (0, .ref (ad 0)), (1, .int a1), (2, .int a2), (3, .int a3), (4, .int a4), (5, .int a5)]) C dX1_isClear_12 (by decide) rfl ?_
  refine tt_iload (pc := 14) (k := 0) C dX1_isClear_14 rfl ?_
  refine tt_iload (pc := 16) (k := 1) C dX1_isClear_16 rfl ?_
  refine tt_isub (pc := 18) C dX1_isClear_18 ?_
  refine tt_istore (pc := 19) (L' := [(8, .int ((if a1 < a3 then a3 else a1) - (if a3 < a1 then a3 else a1))), (7, .int (if a1 < a3 then a3 else a1)), (6, .int (if a3 < a1 then a3 else a1)), (0, .ref (ad 0)), (1, .int a1), (2, .int a2), (3, .int a3), (4, .int a4), (5, .int a5)]) C dX1_isClear_19 (by decide) rfl ?_
  refine tt_aload_n (pc := 21) (k := 3) C dX1_isClear_21 rfl rfl ?_
  refine tt_get (pc := 22) (ws := (lC cy ad sc ar tr ps pa)) (ci := 1) (v := .ref (ad 1)) C fiX1 rfl 0 lC_obj 1 (by decide) q1_85 rfl dX1_isClear_22 ?_
  refine tt_iload (pc := 25) (k := 2) C dX1_isClear_25 rfl ?_
  refine tt_iaload (pc := 27) (ws := (lC cy ad sc ar tr ps pa)) (n := 24) (f := (ar 1)) C 1 0 lC_get1 rfl hf dX1_isClear_27 (fun hf => ?_)
  refine tt_iload_n (pc := 28) (k := 4) C dX1_isClear_28 rfl rfl ?_
  refine tt_iload_n (pc := 29) (k := 6) C dX1_isClear_29 rfl rfl ?_
  have k2 : TT p l e { frames := 1, cells := 0, slots := 0, locals := 21 } s m args below meth c 14 D A true (some (.int out)) (lC cy ad sc ar tr ps pa) 39 [(0, .ref (ad 0)), (1, .int a1), (2, .int a2), (3, .int a3), (4, .int a4), (5, .int a5), (6, .int (if a3 < a1 then a3 else a1)), (7, .int (if a1 < a3 then a3 else a1)), (8, .int ((if a1 < a3 then a3 else a1) - (if a3 < a1 then a3 else a1)))] [.int (if a3 ≤ a1 then a4 else a2), .int ((ar 1) (ix (if a3 < a1 then a3 else a1)))] (lC cy ad sc ar tr ps pa) := by
    refine tt_iadd (pc := 39) C dX1_isClear_39 ?_
    refine tt_istore (pc := 40) (L' := [(9, .int (((ar 1) (ix (if a3 < a1 then a3 else a1))) + (if a3 ≤ a1 then a4 else a2))), (0, .ref (ad 0)), (1, .int a1), (2, .int a2), (3, .int a3), (4, .int a4), (5, .int a5), (6, .int (if a3 < a1 then a3 else a1)), (7, .int (if a1 < a3 then a3 else a1)), (8, .int ((if a1 < a3 then a3 else a1) - (if a3 < a1 then a3 else a1)))]) C dX1_isClear_40 (by decide) rfl ?_
    refine tt_aload_n (pc := 42) (k := 1) C dX1_isClear_42 rfl rfl ?_
    refine tt_get (pc := 43) (ws := (lC cy ad sc ar tr ps pa)) (ci := 1) (v := .ref (ad 1)) C fiX1 rfl 0 lC_obj 1 (by decide) q1_85 rfl dX1_isClear_43 ?_
    refine tt_iload (pc := 46) (k := 8) C dX1_isClear_46 rfl ?_
    refine tt_iaload (pc := 48) (ws := (lC cy ad sc ar tr ps pa)) (n := 24) (f := (ar 1)) C 1 0 lC_get1 rfl hf dX1_isClear_48 (fun hf => ?_)
    refine tt_iload_n (pc := 49) (k := 2) C dX1_isClear_49 rfl rfl ?_
    refine tt_iload_n (pc := 50) (k := 4) C dX1_isClear_50 rfl rfl ?_
    have k4 : TT p l e { frames := 1, cells := 0, slots := 0, locals := 21 } s m args below meth c 14 D A true (some (.int out)) (lC cy ad sc ar tr ps pa) 60 [(0, .ref (ad 0)), (5, .int a5), (6, .int (if a3 < a1 then a3 else a1)), (7, .int (if a1 < a3 then a3 else a1)), (8, .int ((if a1 < a3 then a3 else a1) - (if a3 < a1 then a3 else a1))), (9, .int (((ar 1) (ix (if a3 < a1 then a3 else a1))) + (if a3 ≤ a1 then a4 else a2)))] [.int (if a3 ≤ a1 then a2 else a4), .int ((ar 1) (ix (if a1 < a3 then a3 else a1)))] (lC cy ad sc ar tr ps pa) := by
      refine tt_iadd (pc := 60) C dX1_isClear_60 ?_
      refine tt_istore (pc := 61) (L' := [(10, .int (((ar 1) (ix (if a1 < a3 then a3 else a1))) + (if a3 ≤ a1 then a2 else a4))), (0, .ref (ad 0)), (5, .int a5), (6, .int (if a3 < a1 then a3 else a1)), (7, .int (if a1 < a3 then a3 else a1)), (8, .int ((if a1 < a3 then a3 else a1) - (if a3 < a1 then a3 else a1))), (9, .int (((ar 1) (ix (if a3 < a1 then a3 else a1))) + (if a3 ≤ a1 then a4 else a2)))]) C dX1_isClear_61 (by decide) rfl ?_
      refine tt_iload (pc := 63) (k := 3) C dX1_isClear_63 rfl ?_
      refine tt_iconst (pc := 65) (v := (1 : Int32)) C dX1_isClear_65 (by decide) ?_
      refine tt_iadd (pc := 66) C dX1_isClear_66 ?_
      refine tt_istore (pc := 67) (L' := [(11, .int ((if a3 < a1 then a3 else a1) + (1 : Int32))), (10, .int (((ar 1) (ix (if a1 < a3 then a3 else a1))) + (if a3 ≤ a1 then a2 else a4))), (0, .ref (ad 0)), (5, .int a5), (6, .int (if a3 < a1 then a3 else a1)), (7, .int (if a1 < a3 then a3 else a1)), (8, .int ((if a1 < a3 then a3 else a1) - (if a3 < a1 then a3 else a1))), (9, .int (((ar 1) (ix (if a3 < a1 then a3 else a1))) + (if a3 ≤ a1 then a4 else a2)))]) C dX1_isClear_67 (by decide) rfl ?_
      refine tt_locs (L' := [(0, .ref (ad 0)), (5, .int a5), (6, .int (if a3 < a1 then a3 else a1)), (7, .int (if a1 < a3 then a3 else a1)), (8, .int ((if a1 < a3 then a3 else a1) - (if a3 < a1 then a3 else a1))), (9, .int (((ar 1) (ix (if a3 < a1 then a3 else a1))) + (if a3 ≤ a1 then a4 else a2))), (10, .int (((ar 1) (ix (if a1 < a3 then a3 else a1))) + (if a3 ≤ a1 then a2 else a4))), (11, .int ((if a3 < a1 then a3 else a1) + (1 : Int32)))]) [2, 3, 4, 5, 6, 7, 1, 0] rfl (l_X1_isClear_69 C (fun _ hf => ?_) hf)
      refine tt_iconst (pc := 114) (v := (0 : Int32)) C dX1_isClear_114 (by decide) ?_
      refine tt_istore (pc := 115) (L' := [(11, .int (0 : Int32)), (0, .ref (ad 0)), (5, .int a5), (6, .int (if a3 < a1 then a3 else a1)), (7, .int (if a1 < a3 then a3 else a1)), (8, .int ((if a1 < a3 then a3 else a1) - (if a3 < a1 then a3 else a1))), (9, .int (((ar 1) (ix (if a3 < a1 then a3 else a1))) + (if a3 ≤ a1 then a4 else a2))), (10, .int (((ar 1) (ix (if a1 < a3 then a3 else a1))) + (if a3 ≤ a1 then a2 else a4)))]) C dX1_isClear_115 (by decide) rfl ?_
      refine tt_locs (L' := [(0, .ref (ad 0)), (5, .int a5), (6, .int (if a3 < a1 then a3 else a1)), (7, .int (if a1 < a3 then a3 else a1)), (8, .int ((if a1 < a3 then a3 else a1) - (if a3 < a1 then a3 else a1))), (9, .int (((ar 1) (ix (if a3 < a1 then a3 else a1))) + (if a3 ≤ a1 then a4 else a2))), (10, .int (((ar 1) (ix (if a1 < a3 then a3 else a1))) + (if a3 ≤ a1 then a2 else a4))), (11, .int (0 : Int32))]) [1, 2, 3, 4, 5, 6, 7, 0] rfl (l_X1_isClear_117 C (fun _ hf => ?_) hf)
      refine tt_iconst (pc := 217) (v := (1 : Int32)) C dX1_isClear_217 (by decide) ?_
      obtain rfl := Option.some.inj hf
      exact tt_zreturn (pc := 218) C rfl rfl rfl rfl dX1_isClear_218
    refine tr_icmp_ge (pc := 51) (tgt := 59) C dX1_isClear_51 (by decide) (fun c3 => ?_) (fun c3 => ?_)
    · refine tt_iload_n (pc := 59) (k := 3) C dX1_isClear_59 rfl rfl ?_
      try simp only [if_pos c3] at k4 ⊢
      exact tt_locs [1, 6, 7, 8, 9, 0] rfl k4
    · refine tt_iload (pc := 54) (k := 5) C dX1_isClear_54 rfl ?_
      refine tt_goto (pc := 56) (tgt := 60) C dX1_isClear_56 (by decide) ?_
      try simp only [if_neg c3] at k4 ⊢
      exact tt_locs [1, 6, 7, 8, 9, 0] rfl k4
  refine tr_icmp_ge (pc := 30) (tgt := 37) C dX1_isClear_30 (by decide) (fun c1 => ?_) (fun c1 => ?_)
  · refine tt_iload (pc := 37) (k := 7) C dX1_isClear_37 rfl ?_
    try simp only [if_pos c1] at k2 ⊢
    exact tt_locs [3, 4, 5, 6, 7, 8, 2, 1, 0] rfl k2
  · refine tt_iload_n (pc := 33) (k := 5) C dX1_isClear_33 rfl rfl ?_
    refine tt_goto (pc := 34) (tgt := 39) C dX1_isClear_34 (by decide) ?_
    try simp only [if_neg c1] at k2 ⊢
    exact tt_locs [3, 4, 5, 6, 7, 8, 2, 1, 0] rfl k2
