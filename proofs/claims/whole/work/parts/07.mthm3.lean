theorem dX7_mean_0 : decode cX7_mean 0 = .ok (.iload_n 1, 1) := by decide +kernel
theorem dX7_mean_1 : decode cX7_mean 1 = .ok (.iconst 0, 1) := by decide +kernel
theorem dX7_mean_2 : decode cX7_mean 2 = .ok (.iconst 1, 1) := by decide +kernel
theorem dX7_mean_3 : decode cX7_mean 3 = .ok (.invokestatic 102, 3) := by decide +kernel
theorem dX7_mean_6 : decode cX7_mean 6 = .ok (.ifCond .ne 10, 3) := by decide +kernel
theorem dX7_mean_9 : decode cX7_mean 9 = .ok (.aload_n 0, 1) := by decide +kernel
theorem dX7_mean_10 : decode cX7_mean 10 = .ok (.bipush (-2), 2) := by decide +kernel
theorem dX7_mean_12 : decode cX7_mean 12 = .ok (.invokevirtual 214, 3) := by decide +kernel
theorem dX7_mean_15 : decode cX7_mean 15 = .ok (.lreturn, 1) := by decide +kernel
theorem dX7_mean_16 : decode cX7_mean 16 = .ok (.aload_n 0, 1) := by decide +kernel
theorem dX7_mean_17 : decode cX7_mean 17 = .ok (.getfield 109, 3) := by decide +kernel
theorem dX7_mean_20 : decode cX7_mean 20 = .ok (.aload_n 0, 1) := by decide +kernel
theorem dX7_mean_21 : decode cX7_mean 21 = .ok (.getfield 112, 3) := by decide +kernel
theorem dX7_mean_24 : decode cX7_mean 24 = .ok (.imul, 1) := by decide +kernel
theorem dX7_mean_25 : decode cX7_mean 25 = .ok (.istore_n 2, 1) := by decide +kernel
theorem dX7_mean_26 : decode cX7_mean 26 = .ok (.iload_n 2, 1) := by decide +kernel
theorem dX7_mean_27 : decode cX7_mean 27 = .ok (.ifCond .ne 8, 3) := by decide +kernel
theorem dX7_mean_30 : decode cX7_mean 30 = .ok (.iload_n 1, 1) := by decide +kernel
theorem dX7_mean_31 : decode cX7_mean 31 = .ok (.i2l, 1) := by decide +kernel
theorem dX7_mean_32 : decode cX7_mean 32 = .ok (.goto 14, 3) := by decide +kernel
theorem dX7_mean_35 : decode cX7_mean 35 = .ok (.aload_n 0, 1) := by decide +kernel
theorem dX7_mean_36 : decode cX7_mean 36 = .ok (.invokevirtual 245, 3) := by decide +kernel
theorem dX7_mean_39 : decode cX7_mean 39 = .ok (.i2l, 1) := by decide +kernel
theorem dX7_mean_40 : decode cX7_mean 40 = .ok (.iload_n 2, 1) := by decide +kernel
theorem dX7_mean_41 : decode cX7_mean 41 = .ok (.i2l, 1) := by decide +kernel
theorem dX7_mean_42 : decode cX7_mean 42 = .ok (.iload_n 1, 1) := by decide +kernel
theorem dX7_mean_43 : decode cX7_mean 43 = .ok (.invokestatic 241, 3) := by decide +kernel
theorem dX7_mean_46 : decode cX7_mean 46 = .ok (.lreturn, 1) := by decide +kernel
set_option maxHeartbeats 4000000 in
set_option maxRecDepth 100000 in
theorem k_X7_mean {l : Launch} {D : va_G} {cy : Nat → ClassId} {Bd : Nat} {xa : Xa} {ad : Nat → Nat} {N : Nat} {sc : Nat → Int32} {ar : Nat → Nat → Int32} {la : Nat → Nat → Int64} {a1 : Int32} {out : Int64 × (Nat → Nat → Int32)} (hf : f_X7_mean N sc ar a1 = some out) : KC l yX7_mean cX7_mean 3 (some .long) 6 149 false D cy Bd xa [.ref (ad 0), .int a1] (mC cy ad sc ar la) (some (.long out.1)) (mC cy ad sc out.2 la) := by
  refine kc_start (own := RX7) (by decide +kernel) rfl (Nat.le_of_ble_eq_true rfl) ?_
  intro p e s m args below meth c A C
  unfold f_X7_mean at hf
  refine tt_locs (L' := [(0, .ref (ad 0)), (1, .int a1)]) [0, 1] rfl ?_
  refine tt_iload_n (pc := 0) (k := 1) C dX7_mean_0 rfl rfl ?_
  refine tt_iconst (pc := 1) (v := (0 : Int32)) C dX7_mean_1 (by decide) ?_
  refine tt_iconst (pc := 2) (v := (1 : Int32)) C dX7_mean_2 (by decide) ?_
  obtain ⟨r1, hr1, hf⟩ := bind_some hf
  refine tt_callS (pc := 3) (ws := (mC cy ad sc ar la)) (rest := []) (st' := [.int r1]) C (k_X7_in hr1) okX7_in q5_52 (fun _ h => absurd h List.not_mem_nil) rfl rfl rfl (Nat.le_of_ble_eq_true rfl) ⟨Nat.le_of_ble_eq_true rfl, Nat.le_of_ble_eq_true rfl⟩ dX7_mean_3 ?_
  refine tt_if_ne (pc := 6) (tgt := 16) C dX7_mean_6 (by decide) hf (fun hf => ?_) (fun hf => ?_)
  · refine tt_aload_n (pc := 16) (k := 0) C dX7_mean_16 rfl rfl ?_
    refine tt_get (pc := 17) (ws := (mC cy ad sc ar la)) (ci := 7) (v := .int (sc 6)) C fiX7 rfl 0 mC_obj 6 (by decide) q4_166 rfl dX7_mean_17 ?_
    refine tt_aload_n (pc := 20) (k := 0) C dX7_mean_20 rfl rfl ?_
    refine tt_get (pc := 21) (ws := (mC cy ad sc ar la)) (ci := 7) (v := .int (sc 9)) C fiX7 rfl 0 mC_obj 9 (by decide) q4_169 rfl dX7_mean_21 ?_
    refine tt_imul (pc := 24) C dX7_mean_24 ?_
    refine tt_istore_n (pc := 25) (L' := [(2, .int ((sc 6) * (sc 9))), (0, .ref (ad 0)), (1, .int a1)]) C dX7_mean_25 rfl (by decide) rfl ?_
    refine tt_iload_n (pc := 26) (k := 0) C dX7_mean_26 rfl rfl ?_
    obtain ⟨j2, hj2, hf⟩ := bind_some hf
    have k3 : TT p l e { frames := 6, cells := 0, slots := 0, locals := 149 } s m args below meth c 3 D A false (some (.long out.1)) (mC cy ad sc out.2 la) 46 [] [.long j2] (mC cy ad sc ar la) := by
      obtain rfl := Option.some.inj hf
      exact tt_lreturn (pc := 46) C rfl rfl rfl dX7_mean_46
    refine tt_if_ne (pc := 27) (tgt := 35) C dX7_mean_27 (by decide) hj2 (fun hj2 => ?_) (fun hj2 => ?_)
    · refine tt_aload_n (pc := 35) (k := 1) C dX7_mean_35 rfl rfl ?_
      obtain ⟨r4, hr4, hj2⟩ := bind_some hj2
      refine tt_callR (pc := 36) (ws := (mC cy ad sc ar la)) (q0 := 0) (ci := 7) (rest := []) (st' := [.int r4]) C (k_X7_warnedAll hr4) okX7_warnedAll q6_59 rfl mC_obj (fun _ h => h) rfl rfl rfl (Nat.le_of_ble_eq_true rfl) ⟨Nat.le_of_ble_eq_true rfl, Nat.le_of_ble_eq_true rfl⟩ dX7_mean_36 ?_
      refine tt_i2l (pc := 39) C dX7_mean_39 ?_
      refine tt_iload_n (pc := 40) (k := 0) C dX7_mean_40 rfl rfl ?_
      refine tt_i2l (pc := 41) C dX7_mean_41 ?_
      refine tt_iload_n (pc := 42) (k := 2) C dX7_mean_42 rfl rfl ?_
      obtain ⟨r5, hr5, hj2⟩ := bind_some hj2
      refine tt_callS (pc := 43) (ws := (mC cy ad sc ar la)) (rest := []) (st' := [.long r5]) C (k_X7_part hr5) okX7_part q6_49 (fun _ h => absurd h List.not_mem_nil) rfl rfl rfl (Nat.le_of_ble_eq_true rfl) ⟨Nat.le_of_ble_eq_true rfl, Nat.le_of_ble_eq_true rfl⟩ dX7_mean_43 ?_
      obtain rfl := Option.some.inj hj2
      exact tt_locs [] rfl k3
    · refine tt_iload_n (pc := 30) (k := 2) C dX7_mean_30 rfl rfl ?_
      refine tt_i2l (pc := 31) C dX7_mean_31 ?_
      refine tt_goto (pc := 32) (tgt := 46) C dX7_mean_32 (by decide) ?_
      obtain rfl := Option.some.inj hj2
      exact tt_locs [] rfl k3
  · refine tt_aload_n (pc := 9) (k := 0) C dX7_mean_9 rfl rfl ?_
    refine tt_bipush (pc := 10) (v := (-2 : Int32)) C dX7_mean_10 (by decide) ?_
    obtain ⟨r6, hr6, hf⟩ := bind_some hf
    refine tt_callM (pc := 12) (ws := (mC cy ad sc ar la)) (q0 := 0) (ci := 7) (rest := []) (st' := [.long r6.1]) C rfl (k_X7_far hr6) okX7_far q5_227 rfl mC_obj rfl rfl rfl (Nat.le_of_ble_eq_true rfl) ⟨Nat.le_of_ble_eq_true rfl, Nat.le_of_ble_eq_true rfl⟩ dX7_mean_12 ?_
    obtain rfl := Option.some.inj hf
    exact tt_lreturn (pc := 15) C rfl rfl rfl dX7_mean_15
theorem dX7_lots_0 : decode cX7_lots 0 = .ok (.iload_n 1, 1) := by decide +kernel
theorem dX7_lots_1 : decode cX7_lots 1 = .ok (.iconst 1, 1) := by decide +kernel
theorem dX7_lots_2 : decode cX7_lots 2 = .ok (.if_icmp .ge 10, 3) := by decide +kernel
theorem dX7_lots_5 : decode cX7_lots 5 = .ok (.aload_n 0, 1) := by decide +kernel
theorem dX7_lots_6 : decode cX7_lots 6 = .ok (.bipush (-4), 2) := by decide +kernel
theorem dX7_lots_8 : decode cX7_lots 8 = .ok (.invokevirtual 98, 3) := by decide +kernel
theorem dX7_lots_11 : decode cX7_lots 11 = .ok (.ireturn, 1) := by decide +kernel
theorem dX7_lots_12 : decode cX7_lots 12 = .ok (.iload_n 1, 1) := by decide +kernel
theorem dX7_lots_13 : decode cX7_lots 13 = .ok (.bipush 20, 2) := by decide +kernel
theorem dX7_lots_15 : decode cX7_lots 15 = .ok (.if_icmp .le 10, 3) := by decide +kernel
theorem dX7_lots_18 : decode cX7_lots 18 = .ok (.aload_n 0, 1) := by decide +kernel
theorem dX7_lots_19 : decode cX7_lots 19 = .ok (.bipush (-6), 2) := by decide +kernel
theorem dX7_lots_21 : decode cX7_lots 21 = .ok (.invokevirtual 98, 3) := by decide +kernel
theorem dX7_lots_24 : decode cX7_lots 24 = .ok (.ireturn, 1) := by decide +kernel
theorem dX7_lots_25 : decode cX7_lots 25 = .ok (.iload_n 3, 1) := by decide +kernel
theorem dX7_lots_26 : decode cX7_lots 26 = .ok (.iconst 0, 1) := by decide +kernel
theorem dX7_lots_27 : decode cX7_lots 27 = .ok (.iconst 1, 1) := by decide +kernel
theorem dX7_lots_28 : decode cX7_lots 28 = .ok (.invokestatic 102, 3) := by decide +kernel
theorem dX7_lots_31 : decode cX7_lots 31 = .ok (.ifCond .ne 10, 3) := by decide +kernel
theorem dX7_lots_34 : decode cX7_lots 34 = .ok (.aload_n 0, 1) := by decide +kernel
theorem dX7_lots_35 : decode cX7_lots 35 = .ok (.bipush (-2), 2) := by decide +kernel
theorem dX7_lots_37 : decode cX7_lots 37 = .ok (.invokevirtual 98, 3) := by decide +kernel
theorem dX7_lots_40 : decode cX7_lots 40 = .ok (.ireturn, 1) := by decide +kernel
theorem dX7_lots_41 : decode cX7_lots 41 = .ok (.aload_n 0, 1) := by decide +kernel
theorem dX7_lots_42 : decode cX7_lots 42 = .ok (.aload_n 0, 1) := by decide +kernel
theorem dX7_lots_43 : decode cX7_lots 43 = .ok (.getfield 65, 3) := by decide +kernel
theorem dX7_lots_46 : decode cX7_lots 46 = .ok (.invokevirtual 221, 3) := by decide +kernel
theorem dX7_lots_49 : decode cX7_lots 49 = .ok (.iload_n 2, 1) := by decide +kernel
theorem dX7_lots_50 : decode cX7_lots 50 = .ok (.istore 4, 2) := by decide +kernel
theorem dX7_lots_52 : decode cX7_lots 52 = .ok (.iconst 0, 1) := by decide +kernel
theorem dX7_lots_53 : decode cX7_lots 53 = .ok (.istore 5, 2) := by decide +kernel
theorem dX7_lots_55 : decode cX7_lots 55 = .ok (.iconst 0, 1) := by decide +kernel
theorem dX7_lots_56 : decode cX7_lots 56 = .ok (.istore 6, 2) := by decide +kernel
theorem dX7_lots_58 : decode cX7_lots 58 = .ok (.iload 6, 2) := by decide +kernel
theorem dX7_lots_60 : decode cX7_lots 60 = .ok (.iload_n 1, 1) := by decide +kernel
theorem dX7_lots_61 : decode cX7_lots 61 = .ok (.if_icmp .ge 85, 3) := by decide +kernel
theorem dX7_lots_64 : decode cX7_lots 64 = .ok (.iconst 0, 1) := by decide +kernel
theorem dX7_lots_65 : decode cX7_lots 65 = .ok (.istore 7, 2) := by decide +kernel
theorem dX7_lots_67 : decode cX7_lots 67 = .ok (.iload 7, 2) := by decide +kernel
theorem dX7_lots_69 : decode cX7_lots 69 = .ok (.aload_n 0, 1) := by decide +kernel
theorem dX7_lots_70 : decode cX7_lots 70 = .ok (.getfield 7, 3) := by decide +kernel
theorem dX7_lots_73 : decode cX7_lots 73 = .ok (.if_icmp .ge 38, 3) := by decide +kernel
theorem dX7_lots_76 : decode cX7_lots 76 = .ok (.iload 4, 2) := by decide +kernel
theorem dX7_lots_78 : decode cX7_lots 78 = .ok (.ldc 248, 2) := by decide +kernel
theorem dX7_lots_80 : decode cX7_lots 80 = .ok (.imul, 1) := by decide +kernel
theorem dX7_lots_81 : decode cX7_lots 81 = .ok (.ldc 249, 2) := by decide +kernel
theorem dX7_lots_83 : decode cX7_lots 83 = .ok (.iadd, 1) := by decide +kernel
theorem dX7_lots_84 : decode cX7_lots 84 = .ok (.istore 4, 2) := by decide +kernel
theorem dX7_lots_86 : decode cX7_lots 86 = .ok (.aload_n 0, 1) := by decide +kernel
theorem dX7_lots_87 : decode cX7_lots 87 = .ok (.getfield 13, 3) := by decide +kernel
theorem dX7_lots_90 : decode cX7_lots 90 = .ok (.iload 7, 2) := by decide +kernel
theorem dX7_lots_92 : decode cX7_lots 92 = .ok (.iload 4, 2) := by decide +kernel
theorem dX7_lots_94 : decode cX7_lots 94 = .ok (.ldc 250, 2) := by decide +kernel
theorem dX7_lots_96 : decode cX7_lots 96 = .ok (.iand, 1) := by decide +kernel
theorem dX7_lots_97 : decode cX7_lots 97 = .ok (.sipush 256, 3) := by decide +kernel
theorem dX7_lots_100 : decode cX7_lots 100 = .ok (.idiv, 1) := by decide +kernel
theorem dX7_lots_101 : decode cX7_lots 101 = .ok (.bipush 31, 2) := by decide +kernel
theorem dX7_lots_103 : decode cX7_lots 103 = .ok (.irem, 1) := by decide +kernel
theorem dX7_lots_104 : decode cX7_lots 104 = .ok (.iastore, 1) := by decide +kernel
theorem dX7_lots_105 : decode cX7_lots 105 = .ok (.iinc 7 1, 3) := by decide +kernel
theorem dX7_lots_108 : decode cX7_lots 108 = .ok (.goto (-41), 3) := by decide +kernel
theorem dX7_lots_111 : decode cX7_lots 111 = .ok (.iload 5, 2) := by decide +kernel
theorem dX7_lots_113 : decode cX7_lots 113 = .ok (.iload_n 3, 1) := by decide +kernel
theorem dX7_lots_114 : decode cX7_lots 114 = .ok (.iconst 1, 1) := by decide +kernel
theorem dX7_lots_115 : decode cX7_lots 115 = .ok (.if_icmp .ne 10, 3) := by decide +kernel
theorem dX7_lots_118 : decode cX7_lots 118 = .ok (.aload_n 0, 1) := by decide +kernel
theorem dX7_lots_119 : decode cX7_lots 119 = .ok (.invokevirtual 245, 3) := by decide +kernel
theorem dX7_lots_122 : decode cX7_lots 122 = .ok (.goto 15, 3) := by decide +kernel
theorem dX7_lots_125 : decode cX7_lots 125 = .ok (.aload_n 0, 1) := by decide +kernel
theorem dX7_lots_126 : decode cX7_lots 126 = .ok (.invokevirtual 191, 3) := by decide +kernel
theorem dX7_lots_129 : decode cX7_lots 129 = .ok (.ifCond .eq 7, 3) := by decide +kernel
theorem dX7_lots_132 : decode cX7_lots 132 = .ok (.iconst 1, 1) := by decide +kernel
theorem dX7_lots_133 : decode cX7_lots 133 = .ok (.goto 4, 3) := by decide +kernel
theorem dX7_lots_136 : decode cX7_lots 136 = .ok (.iconst 0, 1) := by decide +kernel
theorem dX7_lots_137 : decode cX7_lots 137 = .ok (.iadd, 1) := by decide +kernel
theorem dX7_lots_138 : decode cX7_lots 138 = .ok (.istore 5, 2) := by decide +kernel
theorem dX7_lots_140 : decode cX7_lots 140 = .ok (.iinc 6 1, 3) := by decide +kernel
theorem dX7_lots_143 : decode cX7_lots 143 = .ok (.goto (-85), 3) := by decide +kernel
theorem dX7_lots_146 : decode cX7_lots 146 = .ok (.aload_n 0, 1) := by decide +kernel
theorem dX7_lots_147 : decode cX7_lots 147 = .ok (.aload_n 0, 1) := by decide +kernel
theorem dX7_lots_148 : decode cX7_lots 148 = .ok (.getfield 65, 3) := by decide +kernel
theorem dX7_lots_151 : decode cX7_lots 151 = .ok (.invokevirtual 228, 3) := by decide +kernel
theorem dX7_lots_154 : decode cX7_lots 154 = .ok (.iload 5, 2) := by decide +kernel
theorem dX7_lots_156 : decode cX7_lots 156 = .ok (.ireturn, 1) := by decide +kernel
set_option maxHeartbeats 4000000 in
set_option maxRecDepth 100000 in
theorem l_X7_lots_67 {p : Program} {l : Launch} {e : Env} {s : State} {m : MethodId} {args : Array Value} {below : List Frame} {meth : Method} {c : Code} {D : va_G} {cy : Nat → ClassId} {A : Nat → Prop} {Bd : Nat} {xa : Xa} {ad : Nat → Nat} {β : Type} {vO : Option Value} {wO : va_W} {N : Nat} {sc : Nat → Int32} {la : Nat → Nat → Int64} {v1 : Int32} {v3 : Int32} {v5 : Int32} {v6 : Int32} {kx : Int32 → (Nat → Nat → Int32) → Option (β)} {out : β} (C : CC p s m args meth c cX7_lots RX7 8 (some .int) D cy A false Bd xa) (hk : ∀ (x4 : Int32) (ar1 : Nat → Nat → Int32), kx x4 ar1 = some out → TT p l e { frames := 8, cells := 0, slots := 0, locals := 191 } s m args below meth c 8 D A false vO wO 111 [(0, .ref (ad 0)), (1, .int v1), (3, .int v3), (4, .int x4), (5, .int v5), (6, .int v6)] [] (mC cy ad sc ar1 la)) {n : Nat} {v4 : Int32} {v7 : Int32} {ar : Nat → Nat → Int32} (hf : f_X7_lots_L67 N sc v1 v3 v5 v6 kx n v4 v7 ar = some out) : TT p l e { frames := 8, cells := 0, slots := 0, locals := 191 } s m args below meth c 8 D A false vO wO 67 [(0, .ref (ad 0)), (1, .int v1), (3, .int v3), (4, .int v4), (5, .int v5), (6, .int v6), (7, .int v7)] [] (mC cy ad sc ar la) := by
  induction n generalizing v4 v7 ar with
  | zero => cases hf
  | succ n ih =>
    rw [f_X7_lots_L67] at hf
    refine tt_iload (pc := 67) (k := 6) C dX7_lots_67 rfl ?_
    refine tt_aload_n (pc := 69) (k := 0) C dX7_lots_69 rfl rfl ?_
    refine tt_get (pc := 70) (ws := (mC cy ad sc ar la)) (ci := 7) (v := .int (sc 0)) C fiX7 rfl 0 mC_obj 0 (by decide) q4_160 rfl dX7_lots_70 ?_
    refine tt_icmp_ge (pc := 73) (tgt := 111) C dX7_lots_73 (by decide) hf (fun hf => ?_) (fun hf => ?_)
    · exact tt_locs [0, 1, 2, 3, 4, 5] rfl (hk _ _ hf)
    · refine tt_iload (pc := 76) (k := 3) C dX7_lots_76 rfl ?_
      refine tt_ldc (pc := 78) (v := (1664525 : Int32)) C dX7_lots_78 q6_67 ?_
      refine tt_imul (pc := 80) C dX7_lots_80 ?_
      refine tt_ldc (pc := 81) (v := (1013904223 : Int32)) C dX7_lots_81 q6_68 ?_
      refine tt_iadd (pc := 83) C dX7_lots_83 ?_
      refine tt_istore (pc := 84) (L' := [(4, .int ((v4 * (1664525 : Int32)) + (1013904223 : Int32))), (0, .ref (ad 0)), (1, .int v1), (3, .int v3), (5, .int v5), (6, .int v6), (7, .int v7)]) C dX7_lots_84 (by decide) rfl ?_
      refine tt_aload_n (pc := 86) (k := 1) C dX7_lots_86 rfl rfl ?_
      refine tt_get (pc := 87) (ws := (mC cy ad sc ar la)) (ci := 7) (v := .ref (ad 1)) C fiX7 rfl 0 mC_obj 1 (by decide) q4_161 rfl dX7_lots_87 ?_
      refine tt_iload (pc := 90) (k := 6) C dX7_lots_90 rfl ?_
      refine tt_iload (pc := 92) (k := 0) C dX7_lots_92 rfl ?_
      refine tt_ldc (pc := 94) (v := (2147483647 : Int32)) C dX7_lots_94 q6_69 ?_
      refine tt_iand (pc := 96) C dX7_lots_96 ?_
      refine tt_sipush (pc := 97) (v := (256 : Int32)) C dX7_lots_97 (by decide) ?_
      refine tt_idiv (pc := 100) C dX7_lots_100 hf (fun hf => ?_)
      refine tt_bipush (pc := 101) (v := (31 : Int32)) C dX7_lots_101 (by decide) ?_
      refine tt_irem (pc := 103) C dX7_lots_103 hf (fun hf => ?_)
      refine tt_iastore (pc := 104) (ws := (mC cy ad sc ar la)) (n := 24) (f := (ar 1)) (ws' := (mC cy ad sc (va_up ar 1 (upd (ar 1) (ix v7) (((((v4 * (1664525 : Int32)) + (1013904223 : Int32)) &&& (2147483647 : Int32)) / (256 : Int32)) - ((((v4 * (1664525 : Int32)) + (1013904223 : Int32)) &&& (2147483647 : Int32)) / (256 : Int32)) / (31 : Int32) * (31 : Int32)))) la)) C rfl 1 0 mC_get1 rfl hf dX7_lots_104 mC_set1 (fun hf => ?_)
      refine tt_iinc (pc := 105) (k := 6) (v := (v7 + 1)) (L' := [(7, .int (v7 + 1)), (4, .int ((v4 * (1664525 : Int32)) + (1013904223 : Int32))), (0, .ref (ad 0)), (1, .int v1), (3, .int v3), (5, .int v5), (6, .int v6)]) C dX7_lots_105 rfl rfl (by decide) rfl ?_
      refine tt_goto (pc := 108) (tgt := 67) C dX7_lots_108 (by decide) ?_
      exact tt_locs [2, 3, 4, 1, 5, 6, 0] rfl (ih hf)
set_option maxHeartbeats 4000000 in
set_option maxRecDepth 100000 in
theorem l_X7_lots_58 {p : Program} {l : Launch} {e : Env} {s : State} {m : MethodId} {args : Array Value} {below : List Frame} {meth : Method} {c : Code} {D : va_G} {cy : Nat → ClassId} {A : Nat → Prop} {Bd : Nat} {xa : Xa} {ad : Nat → Nat} {β : Type} {vO : Option Value} {wO : va_W} {N : Nat} {sc : Nat → Int32} {la : Nat → Nat → Int64} {v1 : Int32} {v3 : Int32} {kx : Int32 → (Nat → Nat → Int32) → Option (β)} {out : β} (C : CC p s m args meth c cX7_lots RX7 8 (some .int) D cy A false Bd xa) (hk : ∀ (x5 : Int32) (ar1 : Nat → Nat → Int32), kx x5 ar1 = some out → TT p l e { frames := 8, cells := 0, slots := 0, locals := 191 } s m args below meth c 8 D A false vO wO 146 [(0, .ref (ad 0)), (5, .int x5)] [] (mC cy ad sc ar1 la)) {n : Nat} {v4 : Int32} {v5 : Int32} {v6 : Int32} {ar : Nat → Nat → Int32} (hf : f_X7_lots_L58 N sc v1 v3 kx n v4 v5 v6 ar = some out) : TT p l e { frames := 8, cells := 0, slots := 0, locals := 191 } s m args below meth c 8 D A false vO wO 58 [(0, .ref (ad 0)), (1, .int v1), (3, .int v3), (4, .int v4), (5, .int v5), (6, .int v6)] [] (mC cy ad sc ar la) := by
  induction n generalizing v4 v5 v6 ar with
  | zero => cases hf
  | succ n ih =>
    rw [f_X7_lots_L58] at hf
    refine tt_iload (pc := 58) (k := 5) C dX7_lots_58 rfl ?_
    refine tt_iload_n (pc := 60) (k := 1) C dX7_lots_60 rfl rfl ?_
    refine tt_icmp_ge (pc := 61) (tgt := 146) C dX7_lots_61 (by decide) hf (fun hf => ?_) (fun hf => ?_)
    · exact tt_locs [0, 4] rfl (hk _ _ hf)
    · refine tt_iconst (pc := 64) (v := (0 : Int32)) C dX7_lots_64 (by decide) ?_
      refine tt_istore (pc := 65) (L' := [(7, .int (0 : Int32)), (0, .ref (ad 0)), (1, .int v1), (3, .int v3), (4, .int v4), (5, .int v5), (6, .int v6)]) C dX7_lots_65 (by decide) rfl ?_
      refine tt_locs (L' := [(0, .ref (ad 0)), (1, .int v1), (3, .int v3), (4, .int v4), (5, .int v5), (6, .int v6), (7, .int (0 : Int32))]) [1, 2, 3, 4, 5, 6, 0] rfl (l_X7_lots_67 C (fun x4_3 t3 hf => ?_) hf)
      refine tt_iload (pc := 111) (k := 4) C dX7_lots_111 rfl ?_
      refine tt_iload_n (pc := 113) (k := 2) C dX7_lots_113 rfl rfl ?_
      refine tt_iconst (pc := 114) (v := (1 : Int32)) C dX7_lots_114 (by decide) ?_
      obtain ⟨j4, hj4, hf⟩ := bind_some hf
      have k5 : TT p l e { frames := 8, cells := 0, slots := 0, locals := 191 } s m args below meth c 8 D A false vO wO 137 [(0, .ref (ad 0)), (1, .int v1), (3, .int v3), (4, .int x4_3), (6, .int v6)] [.int j4, .int v5] (mC cy ad sc t3 la) := by
        refine tt_iadd (pc := 137) C dX7_lots_137 ?_
        refine tt_istore (pc := 138) (L' := [(5, .int (v5 + j4)), (0, .ref (ad 0)), (1, .int v1), (3, .int v3), (4, .int x4_3), (6, .int v6)]) C dX7_lots_138 (by decide) rfl ?_
        refine tt_iinc (pc := 140) (k := 5) (v := (v6 + 1)) (L' := [(6, .int (v6 + 1)), (5, .int (v5 + j4)), (0, .ref (ad 0)), (1, .int v1), (3, .int v3), (4, .int x4_3)]) C dX7_lots_140 rfl rfl (by decide) rfl ?_
        refine tt_goto (pc := 143) (tgt := 58) C dX7_lots_143 (by decide) ?_
        exact tt_locs [2, 3, 4, 5, 1, 0] rfl (ih hf)
      refine tt_icmp_ne (pc := 115) (tgt := 125) C dX7_lots_115 (by decide) hj4 (fun hj4 => ?_) (fun hj4 => ?_)
      · refine tt_aload_n (pc := 125) (k := 0) C dX7_lots_125 rfl rfl ?_
        obtain ⟨r6, hr6, hj4⟩ := bind_some hj4
        refine tt_callR (pc := 126) (ws := (mC cy ad sc t3 la)) (q0 := 0) (ci := 7) (rest := [.int v5]) (st' := [.int r6, .int v5]) C (k_X7_isSafe hr6) okX7_isSafe q5_179 rfl mC_obj (fun _ h => h) rfl rfl rfl (Nat.le_of_ble_eq_true rfl) ⟨Nat.le_of_ble_eq_true rfl, Nat.le_of_ble_eq_true rfl⟩ dX7_lots_126 ?_
        have k8 : TT p l e { frames := 8, cells := 0, slots := 0, locals := 191 } s m args below meth c 8 D A false vO wO 137 [(0, .ref (ad 0)), (1, .int v1), (3, .int v3), (4, .int x4_3), (6, .int v6)] [.int (if r6 = 0 then (0 : Int32) else (1 : Int32)), .int v5] (mC cy ad sc t3 la) := by
          obtain rfl := Option.some.inj hj4
          exact tt_locs [0, 1, 2, 3, 4] rfl k5
        refine tr_if_eq (pc := 129) (tgt := 136) C dX7_lots_129 (by decide) (fun c7 => ?_) (fun c7 => ?_)
        · refine tt_iconst (pc := 136) (v := (0 : Int32)) C dX7_lots_136 (by decide) ?_
          try simp only [if_pos c7] at k8 ⊢
          exact tt_locs [0, 1, 2, 3, 5] rfl k8
        · refine tt_iconst (pc := 132) (v := (1 : Int32)) C dX7_lots_132 (by decide) ?_
          refine tt_goto (pc := 133) (tgt := 137) C dX7_lots_133 (by decide) ?_
          try simp only [if_neg c7] at k8 ⊢
          exact tt_locs [0, 1, 2, 3, 5] rfl k8
      · refine tt_aload_n (pc := 118) (k := 0) C dX7_lots_118 rfl rfl ?_
        obtain ⟨r9, hr9, hj4⟩ := bind_some hj4
        refine tt_callR (pc := 119) (ws := (mC cy ad sc t3 la)) (q0 := 0) (ci := 7) (rest := [.int v5]) (st' := [.int r9, .int v5]) C (k_X7_warnedAll hr9) okX7_warnedAll q6_59 rfl mC_obj (fun _ h => h) rfl rfl rfl (Nat.le_of_ble_eq_true rfl) ⟨Nat.le_of_ble_eq_true rfl, Nat.le_of_ble_eq_true rfl⟩ dX7_lots_119 ?_
        refine tt_goto (pc := 122) (tgt := 137) C dX7_lots_122 (by decide) ?_
        obtain rfl := Option.some.inj hj4
        exact tt_locs [0, 1, 2, 3, 5] rfl k5
set_option maxHeartbeats 4000000 in
set_option maxRecDepth 100000 in
theorem k_X7_lots {l : Launch} {D : va_G} {cy : Nat → ClassId} {Bd : Nat} {xa : Xa} {ad : Nat → Nat} {N : Nat} {sc : Nat → Int32} {ar : Nat → Nat → Int32} {la : Nat → Nat → Int64} {a1 : Int32} {a2 : Int32} {a3 : Int32} {out : Int32 × (Nat → Int32) × (Nat → Nat → Int32)} (hf : f_X7_lots N sc ar a1 a2 a3 = some out) : KC l yX7_lots cX7_lots 8 (some .int) 8 191 false D cy Bd xa [.ref (ad 0), .int a1, .int a2, .int a3] (mC cy ad sc ar la) (some (.int out.1)) (mC cy ad out.2.1 out.2.2 la) := by
  refine kc_start (own := RX7) (by decide +kernel) rfl (Nat.le_of_ble_eq_true rfl) ?_
  intro p e s m args below meth c A C
  unfold f_X7_lots at hf
  refine tt_locs (L' := [(0, .ref (ad 0)), (1, .int a1), (2, .int a2), (3, .int a3)]) [0, 1, 2, 3] rfl ?_
  refine tt_iload_n (pc := 0) (k := 1) C dX7_lots_0 rfl rfl ?_
  refine tt_iconst (pc := 1) (v := (1 : Int32)) C dX7_lots_1 (by decide) ?_
  refine tt_icmp_ge (pc := 2) (tgt := 12) C dX7_lots_2 (by decide) hf (fun hf => ?_) (fun hf => ?_)
  · refine tt_iload_n (pc := 12) (k := 1) C dX7_lots_12 rfl rfl ?_
    refine tt_bipush (pc := 13) (v := (20 : Int32)) C dX7_lots_13 (by decide) ?_
    refine tt_icmp_le (pc := 15) (tgt := 25) C dX7_lots_15 (by decide) hf (fun hf => ?_) (fun hf => ?_)
    · refine tt_iload_n (pc := 25) (k := 3) C dX7_lots_25 rfl rfl ?_
      refine tt_iconst (pc := 26) (v := (0 : Int32)) C dX7_lots_26 (by decide) ?_
      refine tt_iconst (pc := 27) (v := (1 : Int32)) C dX7_lots_27 (by decide) ?_
      obtain ⟨r1, hr1, hf⟩ := bind_some hf
      refine tt_callS (pc := 28) (ws := (mC cy ad sc ar la)) (rest := []) (st' := [.int r1]) C (k_X7_in hr1) okX7_in q5_52 (fun _ h => absurd h List.not_mem_nil) rfl rfl rfl (Nat.le_of_ble_eq_true rfl) ⟨Nat.le_of_ble_eq_true rfl, Nat.le_of_ble_eq_true rfl⟩ dX7_lots_28 ?_
      refine tt_if_ne (pc := 31) (tgt := 41) C dX7_lots_31 (by decide) hf (fun hf => ?_) (fun hf => ?_)
      · refine tt_aload_n (pc := 41) (k := 0) C dX7_lots_41 rfl rfl ?_
        refine tt_aload_n (pc := 42) (k := 0) C dX7_lots_42 rfl rfl ?_
        refine tt_get (pc := 43) (ws := (mC cy ad sc ar la)) (ci := 7) (v := .ref (ad 23)) C fiX7 rfl 0 mC_obj 23 (by decide) q4_183 rfl dX7_lots_43 ?_
        obtain ⟨r2, hr2, hf⟩ := bind_some hf
        refine tt_callM (pc := 46) (ws := (mC cy ad sc ar la)) (q0 := 0) (ci := 7) (rest := []) (st' := []) C rfl (k_X7_keeps_23 hr2) okX7_keeps q5_236 rfl mC_obj rfl rfl rfl (Nat.le_of_ble_eq_true rfl) ⟨Nat.le_of_ble_eq_true rfl, Nat.le_of_ble_eq_true rfl⟩ dX7_lots_46 ?_
        refine tt_iload_n (pc := 49) (k := 2) C dX7_lots_49 rfl rfl ?_
        refine tt_istore (pc := 50) (L' := [(4, .int a2), (0, .ref (ad 0)), (1, .int a1), (2, .int a2), (3, .int a3)]) C dX7_lots_50 (by decide) rfl ?_
        refine tt_iconst (pc := 52) (v := (0 : Int32)) C dX7_lots_52 (by decide) ?_
        refine tt_istore (pc := 53) (L' := [(5, .int (0 : Int32)), (4, .int a2), (0, .ref (ad 0)), (1, .int a1), (2, .int a2), (3, .int a3)]) C dX7_lots_53 (by decide) rfl ?_
        refine tt_iconst (pc := 55) (v := (0 : Int32)) C dX7_lots_55 (by decide) ?_
        refine tt_istore (pc := 56) (L' := [(6, .int (0 : Int32)), (5, .int (0 : Int32)), (4, .int a2), (0, .ref (ad 0)), (1, .int a1), (2, .int a2), (3, .int a3)]) C dX7_lots_56 (by decide) rfl ?_
        refine tt_locs (L' := [(0, .ref (ad 0)), (1, .int a1), (3, .int a3), (4, .int a2), (5, .int (0 : Int32)), (6, .int (0 : Int32))]) [3, 4, 6, 2, 1, 0] rfl (l_X7_lots_58 C (fun x5_10 t10 hf => ?_) hf)
        refine tt_aload_n (pc := 146) (k := 0) C dX7_lots_146 rfl rfl ?_
        refine tt_aload_n (pc := 147) (k := 0) C dX7_lots_147 rfl rfl ?_
        refine tt_get (pc := 148) (ws := (mC cy ad sc t10 la)) (ci := 7) (v := .ref (ad 23)) C fiX7 rfl 0 mC_obj 23 (by decide) q4_183 rfl dX7_lots_148 ?_
        obtain ⟨r11, hr11, hf⟩ := bind_some hf
        refine tt_callM (pc := 151) (ws := (mC cy ad sc t10 la)) (q0 := 0) (ci := 7) (rest := []) (st' := []) C rfl (k_X7_again_23 hr11) okX7_again q6_1 rfl mC_obj rfl rfl rfl (Nat.le_of_ble_eq_true rfl) ⟨Nat.le_of_ble_eq_true rfl, Nat.le_of_ble_eq_true rfl⟩ dX7_lots_151 ?_
        refine tt_iload (pc := 154) (k := 1) C dX7_lots_154 rfl ?_
        obtain rfl := Option.some.inj hf
        exact tt_ireturn (pc := 156) C rfl rfl rfl dX7_lots_156
      · refine tt_aload_n (pc := 34) (k := 0) C dX7_lots_34 rfl rfl ?_
        refine tt_bipush (pc := 35) (v := (-2 : Int32)) C dX7_lots_35 (by decide) ?_
        obtain ⟨r12, hr12, hf⟩ := bind_some hf
        refine tt_callM (pc := 37) (ws := (mC cy ad sc ar la)) (q0 := 0) (ci := 7) (rest := []) (st' := [.int r12.1]) C rfl (k_X7_no hr12) okX7_no q5_36 rfl mC_obj rfl rfl rfl (Nat.le_of_ble_eq_true rfl) ⟨Nat.le_of_ble_eq_true rfl, Nat.le_of_ble_eq_true rfl⟩ dX7_lots_37 ?_
        obtain rfl := Option.some.inj hf
        exact tt_ireturn (pc := 40) C rfl rfl rfl dX7_lots_40
    · refine tt_aload_n (pc := 18) (k := 0) C dX7_lots_18 rfl rfl ?_
      refine tt_bipush (pc := 19) (v := (-6 : Int32)) C dX7_lots_19 (by decide) ?_
      obtain ⟨r13, hr13, hf⟩ := bind_some hf
      refine tt_callM (pc := 21) (ws := (mC cy ad sc ar la)) (q0 := 0) (ci := 7) (rest := []) (st' := [.int r13.1]) C rfl (k_X7_no hr13) okX7_no q5_36 rfl mC_obj rfl rfl rfl (Nat.le_of_ble_eq_true rfl) ⟨Nat.le_of_ble_eq_true rfl, Nat.le_of_ble_eq_true rfl⟩ dX7_lots_21 ?_
      obtain rfl := Option.some.inj hf
      exact tt_ireturn (pc := 24) C rfl rfl rfl dX7_lots_24
  · refine tt_aload_n (pc := 5) (k := 0) C dX7_lots_5 rfl rfl ?_
    refine tt_bipush (pc := 6) (v := (-4 : Int32)) C dX7_lots_6 (by decide) ?_
    obtain ⟨r14, hr14, hf⟩ := bind_some hf
    refine tt_callM (pc := 8) (ws := (mC cy ad sc ar la)) (q0 := 0) (ci := 7) (rest := []) (st' := [.int r14.1]) C rfl (k_X7_no hr14) okX7_no q5_36 rfl mC_obj rfl rfl rfl (Nat.le_of_ble_eq_true rfl) ⟨Nat.le_of_ble_eq_true rfl, Nat.le_of_ble_eq_true rfl⟩ dX7_lots_8 ?_
    obtain rfl := Option.some.inj hf
    exact tt_ireturn (pc := 11) C rfl rfl rfl dX7_lots_11
theorem dX7_name_0 : decode cX7_name 0 = .ok (.iload_n 1, 1) := by decide +kernel
theorem dX7_name_1 : decode cX7_name 1 = .ok (.iconst 0, 1) := by decide +kernel
theorem dX7_name_2 : decode cX7_name 2 = .ok (.aload_n 0, 1) := by decide +kernel
theorem dX7_name_3 : decode cX7_name 3 = .ok (.getfield 115, 3) := by decide +kernel
theorem dX7_name_6 : decode cX7_name 6 = .ok (.iconst 1, 1) := by decide +kernel
theorem dX7_name_7 : decode cX7_name 7 = .ok (.isub, 1) := by decide +kernel
theorem dX7_name_8 : decode cX7_name 8 = .ok (.invokestatic 102, 3) := by decide +kernel
theorem dX7_name_11 : decode cX7_name 11 = .ok (.ifCond .eq 19, 3) := by decide +kernel
theorem dX7_name_14 : decode cX7_name 14 = .ok (.iload_n 2, 1) := by decide +kernel
theorem dX7_name_15 : decode cX7_name 15 = .ok (.iconst (-1), 1) := by decide +kernel
theorem dX7_name_16 : decode cX7_name 16 = .ok (.aload_n 0, 1) := by decide +kernel
theorem dX7_name_17 : decode cX7_name 17 = .ok (.getfield 50, 3) := by decide +kernel
theorem dX7_name_20 : decode cX7_name 20 = .ok (.iload_n 1, 1) := by decide +kernel
theorem dX7_name_21 : decode cX7_name 21 = .ok (.iaload, 1) := by decide +kernel
theorem dX7_name_22 : decode cX7_name 22 = .ok (.iconst 1, 1) := by decide +kernel
theorem dX7_name_23 : decode cX7_name 23 = .ok (.isub, 1) := by decide +kernel
theorem dX7_name_24 : decode cX7_name 24 = .ok (.invokestatic 102, 3) := by decide +kernel
theorem dX7_name_27 : decode cX7_name 27 = .ok (.ifCond .ne 9, 3) := by decide +kernel
theorem dX7_name_30 : decode cX7_name 30 = .ok (.aload_n 0, 1) := by decide +kernel
theorem dX7_name_31 : decode cX7_name 31 = .ok (.iconst (-1), 1) := by decide +kernel
theorem dX7_name_32 : decode cX7_name 32 = .ok (.invokevirtual 98, 3) := by decide +kernel
theorem dX7_name_35 : decode cX7_name 35 = .ok (.ireturn, 1) := by decide +kernel
theorem dX7_name_36 : decode cX7_name 36 = .ok (.iload_n 2, 1) := by decide +kernel
theorem dX7_name_37 : decode cX7_name 37 = .ok (.ifCond .ge 12, 3) := by decide +kernel
theorem dX7_name_40 : decode cX7_name 40 = .ok (.aload_n 0, 1) := by decide +kernel
theorem dX7_name_41 : decode cX7_name 41 = .ok (.getfield 50, 3) := by decide +kernel
theorem dX7_name_44 : decode cX7_name 44 = .ok (.iload_n 1, 1) := by decide +kernel
theorem dX7_name_45 : decode cX7_name 45 = .ok (.iaload, 1) := by decide +kernel
theorem dX7_name_46 : decode cX7_name 46 = .ok (.goto 14, 3) := by decide +kernel
theorem dX7_name_49 : decode cX7_name 49 = .ok (.aload_n 0, 1) := by decide +kernel
theorem dX7_name_50 : decode cX7_name 50 = .ok (.getfield 47, 3) := by decide +kernel
theorem dX7_name_53 : decode cX7_name 53 = .ok (.bipush 7, 2) := by decide +kernel
theorem dX7_name_55 : decode cX7_name 55 = .ok (.iload_n 1, 1) := by decide +kernel
theorem dX7_name_56 : decode cX7_name 56 = .ok (.imul, 1) := by decide +kernel
theorem dX7_name_57 : decode cX7_name 57 = .ok (.iload_n 2, 1) := by decide +kernel
theorem dX7_name_58 : decode cX7_name 58 = .ok (.iadd, 1) := by decide +kernel
theorem dX7_name_59 : decode cX7_name 59 = .ok (.iaload, 1) := by decide +kernel
theorem dX7_name_60 : decode cX7_name 60 = .ok (.ireturn, 1) := by decide +kernel
set_option maxHeartbeats 4000000 in
set_option maxRecDepth 100000 in
theorem k_X7_name {l : Launch} {D : va_G} {cy : Nat → ClassId} {Bd : Nat} {xa : Xa} {ad : Nat → Nat} {N : Nat} {sc : Nat → Int32} {ar : Nat → Nat → Int32} {la : Nat → Nat → Int64} {a1 : Int32} {a2 : Int32} {out : Int32 × (Nat → Nat → Int32)} (hf : f_X7_name N sc ar a1 a2 = some out) : KC l yX7_name cX7_name 3 (some .int) 1 22 false D cy Bd xa [.ref (ad 0), .int a1, .int a2] (mC cy ad sc ar la) (some (.int out.1)) (mC cy ad sc out.2 la) := by
  refine kc_start (own := RX7) (by decide +kernel) rfl (Nat.le_of_ble_eq_true rfl) ?_
  intro p e s m args below meth c A C
  unfold f_X7_name at hf
  refine tt_locs (L' := [(0, .ref (ad 0)), (1, .int a1), (2, .int a2)]) [0, 1, 2] rfl ?_
  refine tt_iload_n (pc := 0) (k := 1) C dX7_name_0 rfl rfl ?_
  refine tt_iconst (pc := 1) (v := (0 : Int32)) C dX7_name_1 (by decide) ?_
  refine tt_aload_n (pc := 2) (k := 0) C dX7_name_2 rfl rfl ?_
  refine tt_get (pc := 3) (ws := (mC cy ad sc ar la)) (ci := 7) (v := .int (sc 15)) C fiX7 rfl 0 mC_obj 15 (by decide) q4_175 rfl dX7_name_3 ?_
  refine tt_iconst (pc := 6) (v := (1 : Int32)) C dX7_name_6 (by decide) ?_
  refine tt_isub (pc := 7) C dX7_name_7 ?_
  obtain ⟨r1, hr1, hf⟩ := bind_some hf
  refine tt_callS (pc := 8) (ws := (mC cy ad sc ar la)) (rest := []) (st' := [.int r1]) C (k_X7_in hr1) okX7_in q5_52 (fun _ h => absurd h List.not_mem_nil) rfl rfl rfl (Nat.le_of_ble_eq_true rfl) ⟨Nat.le_of_ble_eq_true rfl, Nat.le_of_ble_eq_true rfl⟩ dX7_name_8 ?_
  refine tt_if_eq (pc := 11) (tgt := 30) C dX7_name_11 (by decide) hf (fun hf => ?_) (fun hf => ?_)
  · refine tt_aload_n (pc := 30) (k := 0) C dX7_name_30 rfl rfl ?_
    refine tt_iconst (pc := 31) (v := (-1 : Int32)) C dX7_name_31 (by decide) ?_
    obtain ⟨r2, hr2, hf⟩ := bind_some hf
    refine tt_callM (pc := 32) (ws := (mC cy ad sc ar la)) (q0 := 0) (ci := 7) (rest := []) (st' := [.int r2.1]) C rfl (k_X7_no hr2) okX7_no q5_36 rfl mC_obj rfl rfl rfl (Nat.le_of_ble_eq_true rfl) ⟨Nat.le_of_ble_eq_true rfl, Nat.le_of_ble_eq_true rfl⟩ dX7_name_32 ?_
    obtain rfl := Option.some.inj hf
    exact tt_ireturn (pc := 35) C rfl rfl rfl dX7_name_35
  · refine tt_iload_n (pc := 14) (k := 2) C dX7_name_14 rfl rfl ?_
    refine tt_iconst (pc := 15) (v := (-1 : Int32)) C dX7_name_15 (by decide) ?_
    refine tt_aload_n (pc := 16) (k := 0) C dX7_name_16 rfl rfl ?_
    refine tt_get (pc := 17) (ws := (mC cy ad sc ar la)) (ci := 7) (v := .ref (ad 17)) C fiX7 rfl 0 mC_obj 17 (by decide) q4_177 rfl dX7_name_17 ?_
    refine tt_iload_n (pc := 20) (k := 1) C dX7_name_20 rfl rfl ?_
    refine tt_iaload (pc := 21) (ws := (mC cy ad sc ar la)) (n := 8) (f := (ar 17)) C 12 0 mC_get17 rfl hf dX7_name_21 (fun hf => ?_)
    refine tt_iconst (pc := 22) (v := (1 : Int32)) C dX7_name_22 (by decide) ?_
    refine tt_isub (pc := 23) C dX7_name_23 ?_
    obtain ⟨r3, hr3, hf⟩ := bind_some hf
    refine tt_callS (pc := 24) (ws := (mC cy ad sc ar la)) (rest := []) (st' := [.int r3]) C (k_X7_in hr3) okX7_in q5_52 (fun _ h => absurd h List.not_mem_nil) rfl rfl rfl (Nat.le_of_ble_eq_true rfl) ⟨Nat.le_of_ble_eq_true rfl, Nat.le_of_ble_eq_true rfl⟩ dX7_name_24 ?_
    refine tt_if_ne (pc := 27) (tgt := 36) C dX7_name_27 (by decide) hf (fun hf => ?_) (fun hf => ?_)
    · refine tt_iload_n (pc := 36) (k := 2) C dX7_name_36 rfl rfl ?_
      obtain ⟨j4, hj4, hf⟩ := bind_some hf
      have k5 : TT p l e { frames := 1, cells := 0, slots := 0, locals := 22 } s m args below meth c 3 D A false (some (.int out.1)) (mC cy ad sc out.2 la) 60 [] [.int j4] (mC cy ad sc ar la) := by
        obtain rfl := Option.some.inj hf
        exact tt_ireturn (pc := 60) C rfl rfl rfl dX7_name_60
      refine tt_if_ge (pc := 37) (tgt := 49) C dX7_name_37 (by decide) hj4 (fun hj4 => ?_) (fun hj4 => ?_)
      · refine tt_aload_n (pc := 49) (k := 0) C dX7_name_49 rfl rfl ?_
        refine tt_get (pc := 50) (ws := (mC cy ad sc ar la)) (ci := 7) (v := .ref (ad 16)) C fiX7 rfl 0 mC_obj 16 (by decide) q4_176 rfl dX7_name_50 ?_
        refine tt_bipush (pc := 53) (v := (7 : Int32)) C dX7_name_53 (by decide) ?_
        refine tt_iload_n (pc := 55) (k := 1) C dX7_name_55 rfl rfl ?_
        refine tt_imul (pc := 56) C dX7_name_56 ?_
        refine tt_iload_n (pc := 57) (k := 2) C dX7_name_57 rfl rfl ?_
        refine tt_iadd (pc := 58) C dX7_name_58 ?_
        refine tt_iaload (pc := 59) (ws := (mC cy ad sc ar la)) (n := 56) (f := (ar 16)) C 11 0 mC_get16 rfl hj4 dX7_name_59 (fun hj4 => ?_)
        obtain rfl := Option.some.inj hj4
        exact tt_locs [] rfl k5
      · refine tt_aload_n (pc := 40) (k := 0) C dX7_name_40 rfl rfl ?_
        refine tt_get (pc := 41) (ws := (mC cy ad sc ar la)) (ci := 7) (v := .ref (ad 17)) C fiX7 rfl 0 mC_obj 17 (by decide) q4_177 rfl dX7_name_41 ?_
        refine tt_iload_n (pc := 44) (k := 1) C dX7_name_44 rfl rfl ?_
        refine tt_iaload (pc := 45) (ws := (mC cy ad sc ar la)) (n := 8) (f := (ar 17)) C 12 0 mC_get17 rfl hj4 dX7_name_45 (fun hj4 => ?_)
        refine tt_goto (pc := 46) (tgt := 60) C dX7_name_46 (by decide) ?_
        obtain rfl := Option.some.inj hj4
        exact tt_locs [] rfl k5
    · refine tt_aload_n (pc := 30) (k := 0) C dX7_name_30 rfl rfl ?_
      refine tt_iconst (pc := 31) (v := (-1 : Int32)) C dX7_name_31 (by decide) ?_
      obtain ⟨r6, hr6, hf⟩ := bind_some hf
      refine tt_callM (pc := 32) (ws := (mC cy ad sc ar la)) (q0 := 0) (ci := 7) (rest := []) (st' := [.int r6.1]) C rfl (k_X7_no hr6) okX7_no q5_36 rfl mC_obj rfl rfl rfl (Nat.le_of_ble_eq_true rfl) ⟨Nat.le_of_ble_eq_true rfl, Nat.le_of_ble_eq_true rfl⟩ dX7_name_32 ?_
      obtain rfl := Option.some.inj hf
      exact tt_ireturn (pc := 35) C rfl rfl rfl dX7_name_35
theorem dX7_placeAt_0 : decode cX7_placeAt 0 = .ok (.iload_n 1, 1) := by decide +kernel
theorem dX7_placeAt_1 : decode cX7_placeAt 1 = .ok (.iconst 0, 1) := by decide +kernel
theorem dX7_placeAt_2 : decode cX7_placeAt 2 = .ok (.aload_n 0, 1) := by decide +kernel
theorem dX7_placeAt_3 : decode cX7_placeAt 3 = .ok (.getfield 115, 3) := by decide +kernel
theorem dX7_placeAt_6 : decode cX7_placeAt 6 = .ok (.iconst 1, 1) := by decide +kernel
theorem dX7_placeAt_7 : decode cX7_placeAt 7 = .ok (.isub, 1) := by decide +kernel
theorem dX7_placeAt_8 : decode cX7_placeAt 8 = .ok (.invokestatic 102, 3) := by decide +kernel
theorem dX7_placeAt_11 : decode cX7_placeAt 11 = .ok (.ifCond .eq 12, 3) := by decide +kernel
theorem dX7_placeAt_14 : decode cX7_placeAt 14 = .ok (.aload_n 0, 1) := by decide +kernel
theorem dX7_placeAt_15 : decode cX7_placeAt 15 = .ok (.getfield 53, 3) := by decide +kernel
theorem dX7_placeAt_18 : decode cX7_placeAt 18 = .ok (.iload_n 1, 1) := by decide +kernel
theorem dX7_placeAt_19 : decode cX7_placeAt 19 = .ok (.iaload, 1) := by decide +kernel
theorem dX7_placeAt_20 : decode cX7_placeAt 20 = .ok (.goto 8, 3) := by decide +kernel
theorem dX7_placeAt_23 : decode cX7_placeAt 23 = .ok (.aload_n 0, 1) := by decide +kernel
theorem dX7_placeAt_24 : decode cX7_placeAt 24 = .ok (.iconst (-1), 1) := by decide +kernel
theorem dX7_placeAt_25 : decode cX7_placeAt 25 = .ok (.invokevirtual 98, 3) := by decide +kernel
theorem dX7_placeAt_28 : decode cX7_placeAt 28 = .ok (.ireturn, 1) := by decide +kernel
set_option maxHeartbeats 4000000 in
set_option maxRecDepth 100000 in
theorem k_X7_placeAt {l : Launch} {D : va_G} {cy : Nat → ClassId} {Bd : Nat} {xa : Xa} {ad : Nat → Nat} {N : Nat} {sc : Nat → Int32} {ar : Nat → Nat → Int32} {la : Nat → Nat → Int64} {a1 : Int32} {out : Int32 × (Nat → Nat → Int32)} (hf : f_X7_placeAt N sc ar a1 = some out) : KC l yX7_placeAt cX7_placeAt 2 (some .int) 1 22 false D cy Bd xa [.ref (ad 0), .int a1] (mC cy ad sc ar la) (some (.int out.1)) (mC cy ad sc out.2 la) := by
  refine kc_start (own := RX7) (by decide +kernel) rfl (Nat.le_of_ble_eq_true rfl) ?_
  intro p e s m args below meth c A C
  unfold f_X7_placeAt at hf
  refine tt_locs (L' := [(0, .ref (ad 0)), (1, .int a1)]) [0, 1] rfl ?_
  refine tt_iload_n (pc := 0) (k := 1) C dX7_placeAt_0 rfl rfl ?_
  refine tt_iconst (pc := 1) (v := (0 : Int32)) C dX7_placeAt_1 (by decide) ?_
  refine tt_aload_n (pc := 2) (k := 0) C dX7_placeAt_2 rfl rfl ?_
  refine tt_get (pc := 3) (ws := (mC cy ad sc ar la)) (ci := 7) (v := .int (sc 15)) C fiX7 rfl 0 mC_obj 15 (by decide) q4_175 rfl dX7_placeAt_3 ?_
  refine tt_iconst (pc := 6) (v := (1 : Int32)) C dX7_placeAt_6 (by decide) ?_
  refine tt_isub (pc := 7) C dX7_placeAt_7 ?_
  obtain ⟨r1, hr1, hf⟩ := bind_some hf
  refine tt_callS (pc := 8) (ws := (mC cy ad sc ar la)) (rest := []) (st' := [.int r1]) C (k_X7_in hr1) okX7_in q5_52 (fun _ h => absurd h List.not_mem_nil) rfl rfl rfl (Nat.le_of_ble_eq_true rfl) ⟨Nat.le_of_ble_eq_true rfl, Nat.le_of_ble_eq_true rfl⟩ dX7_placeAt_8 ?_
  obtain ⟨j2, hj2, hf⟩ := bind_some hf
  have k3 : TT p l e { frames := 1, cells := 0, slots := 0, locals := 22 } s m args below meth c 2 D A false (some (.int out.1)) (mC cy ad sc out.2 la) 28 [] [.int j2.1] (mC cy ad sc j2.2 la) := by
    obtain rfl := Option.some.inj hf
    exact tt_ireturn (pc := 28) C rfl rfl rfl dX7_placeAt_28
  refine tt_if_eq (pc := 11) (tgt := 23) C dX7_placeAt_11 (by decide) hj2 (fun hj2 => ?_) (fun hj2 => ?_)
  · refine tt_aload_n (pc := 23) (k := 0) C dX7_placeAt_23 rfl rfl ?_
    refine tt_iconst (pc := 24) (v := (-1 : Int32)) C dX7_placeAt_24 (by decide) ?_
    obtain ⟨r4, hr4, hj2⟩ := bind_some hj2
    refine tt_callM (pc := 25) (ws := (mC cy ad sc ar la)) (q0 := 0) (ci := 7) (rest := []) (st' := [.int r4.1]) C rfl (k_X7_no hr4) okX7_no q5_36 rfl mC_obj rfl rfl rfl (Nat.le_of_ble_eq_true rfl) ⟨Nat.le_of_ble_eq_true rfl, Nat.le_of_ble_eq_true rfl⟩ dX7_placeAt_25 ?_
    obtain rfl := Option.some.inj hj2
    exact tt_locs [] rfl k3
  · refine tt_aload_n (pc := 14) (k := 0) C dX7_placeAt_14 rfl rfl ?_
    refine tt_get (pc := 15) (ws := (mC cy ad sc ar la)) (ci := 7) (v := .ref (ad 18)) C fiX7 rfl 0 mC_obj 18 (by decide) q4_178 rfl dX7_placeAt_15 ?_
    refine tt_iload_n (pc := 18) (k := 1) C dX7_placeAt_18 rfl rfl ?_
    refine tt_iaload (pc := 19) (ws := (mC cy ad sc ar la)) (n := 8) (f := (ar 18)) C 13 0 mC_get18 rfl hj2 dX7_placeAt_19 (fun hj2 => ?_)
    refine tt_goto (pc := 20) (tgt := 28) C dX7_placeAt_20 (by decide) ?_
    obtain rfl := Option.some.inj hj2
    exact tt_locs [] rfl k3
theorem dX7_isShelf_0 : decode cX7_isShelf 0 = .ok (.iload_n 0, 1) := by decide +kernel
theorem dX7_isShelf_1 : decode cX7_isShelf 1 = .ok (.iconst 0, 1) := by decide +kernel
theorem dX7_isShelf_2 : decode cX7_isShelf 2 = .ok (.iconst 3, 1) := by decide +kernel
theorem dX7_isShelf_3 : decode cX7_isShelf 3 = .ok (.invokestatic 102, 3) := by decide +kernel
theorem dX7_isShelf_6 : decode cX7_isShelf 6 = .ok (.ireturn, 1) := by decide +kernel
set_option maxHeartbeats 4000000 in
set_option maxRecDepth 100000 in
theorem k_X7_isShelf {l : Launch} {D : va_G} {cy : Nat → ClassId} {Bd : Nat} {xa : Xa}  {N : Nat} {a1 : Int32} {out : Int32} (hf : f_X7_isShelf N a1 = some out) : KC l yX7_isShelf cX7_isShelf 1 (some .boolean) 1 22 true D cy Bd xa [.int a1] [] (some (.int out)) [] := by
  refine kc_start (own := RX7) (by decide +kernel) rfl (Nat.le_of_ble_eq_true rfl) ?_
  intro p e s m args below meth c A C
  unfold f_X7_isShelf at hf
  refine tt_locs (L' := [(0, .int a1)]) [0] rfl ?_
  refine tt_iload_n (pc := 0) (k := 0) C dX7_isShelf_0 rfl rfl ?_
  refine tt_iconst (pc := 1) (v := (0 : Int32)) C dX7_isShelf_1 (by decide) ?_
  refine tt_iconst (pc := 2) (v := (3 : Int32)) C dX7_isShelf_2 (by decide) ?_
  obtain ⟨r1, hr1, hf⟩ := bind_some hf
  refine tt_callS (pc := 3) (ws := []) (rest := []) (st' := [.int r1]) C (k_X7_in hr1) okX7_in q5_52 (fun _ h => absurd h List.not_mem_nil) rfl rfl rfl (Nat.le_of_ble_eq_true rfl) ⟨Nat.le_of_ble_eq_true rfl, Nat.le_of_ble_eq_true rfl⟩ dX7_isShelf_3 ?_
  obtain ⟨hz, hf⟩ := zchk hf
  obtain rfl := Option.some.inj hf
  exact tt_zreturn (pc := 6) C rfl hz rfl rfl dX7_isShelf_6
theorem dX7_empties_0 : decode cX7_empties 0 = .ok (.aload_n 0, 1) := by decide +kernel
theorem dX7_empties_1 : decode cX7_empties 1 = .ok (.getfield 80, 3) := by decide +kernel
theorem dX7_empties_4 : decode cX7_empties 4 = .ok (.iload_n 1, 1) := by decide +kernel
theorem dX7_empties_5 : decode cX7_empties 5 = .ok (.iload_n 2, 1) := by decide +kernel
theorem dX7_empties_6 : decode cX7_empties 6 = .ok (.iastore, 1) := by decide +kernel
theorem dX7_empties_7 : decode cX7_empties 7 = .ok (.aload_n 0, 1) := by decide +kernel
theorem dX7_empties_8 : decode cX7_empties 8 = .ok (.getfield 83, 3) := by decide +kernel
theorem dX7_empties_11 : decode cX7_empties 11 = .ok (.iload_n 1, 1) := by decide +kernel
theorem dX7_empties_12 : decode cX7_empties 12 = .ok (.iload_n 3, 1) := by decide +kernel
theorem dX7_empties_13 : decode cX7_empties 13 = .ok (.iastore, 1) := by decide +kernel
theorem dX7_empties_14 : decode cX7_empties 14 = .ok (.iconst 0, 1) := by decide +kernel
theorem dX7_empties_15 : decode cX7_empties 15 = .ok (.istore 4, 2) := by decide +kernel
theorem dX7_empties_17 : decode cX7_empties 17 = .ok (.iload 4, 2) := by decide +kernel
theorem dX7_empties_19 : decode cX7_empties 19 = .ok (.bipush 20, 2) := by decide +kernel
theorem dX7_empties_21 : decode cX7_empties 21 = .ok (.if_icmp .ge 22, 3) := by decide +kernel
theorem dX7_empties_24 : decode cX7_empties 24 = .ok (.aload_n 0, 1) := by decide +kernel
theorem dX7_empties_25 : decode cX7_empties 25 = .ok (.getfield 86, 3) := by decide +kernel
theorem dX7_empties_28 : decode cX7_empties 28 = .ok (.bipush 20, 2) := by decide +kernel
theorem dX7_empties_30 : decode cX7_empties 30 = .ok (.iload_n 1, 1) := by decide +kernel
theorem dX7_empties_31 : decode cX7_empties 31 = .ok (.imul, 1) := by decide +kernel
theorem dX7_empties_32 : decode cX7_empties 32 = .ok (.iload 4, 2) := by decide +kernel
theorem dX7_empties_34 : decode cX7_empties 34 = .ok (.iadd, 1) := by decide +kernel
theorem dX7_empties_35 : decode cX7_empties 35 = .ok (.lconst 0, 1) := by decide +kernel
theorem dX7_empties_36 : decode cX7_empties 36 = .ok (.lastore, 1) := by decide +kernel
theorem dX7_empties_37 : decode cX7_empties 37 = .ok (.iinc 4 1, 3) := by decide +kernel
theorem dX7_empties_40 : decode cX7_empties 40 = .ok (.goto (-23), 3) := by decide +kernel
theorem dX7_empties_43 : decode cX7_empties 43 = .ok (.return_, 1) := by decide +kernel
set_option maxHeartbeats 4000000 in
set_option maxRecDepth 100000 in
theorem l_X7_empties_17 {p : Program} {l : Launch} {e : Env} {s : State} {m : MethodId} {args : Array Value} {below : List Frame} {meth : Method} {c : Code} {D : va_G} {cy : Nat → ClassId} {A : Nat → Prop} {Bd : Nat} {xa : Xa} {ad : Nat → Nat} {β : Type} {vO : Option Value} {wO : va_W} {N : Nat} {ar : Nat → Nat → Int32} {sc : Nat → Int32} {v1 : Int32} {kx : (Nat → Nat → Int64) → Option (β)} {out : β} (C : CC p s m args meth c cX7_empties RX7 5 none D cy A false Bd xa) (hk : ∀ (la1 : Nat → Nat → Int64), kx la1 = some out → TT p l e { frames := 0, cells := 0, slots := 0, locals := 0 } s m args below meth c 5 D A false vO wO 43 [] [] (mC cy ad sc ar la1)) {n : Nat} {v4 : Int32} {la : Nat → Nat → Int64} (hf : f_X7_empties_L17 N ar v1 kx n v4 la = some out) : TT p l e { frames := 0, cells := 0, slots := 0, locals := 0 } s m args below meth c 5 D A false vO wO 17 [(0, .ref (ad 0)), (1, .int v1), (4, .int v4)] [] (mC cy ad sc ar la) := by
  induction n generalizing v4 la with
  | zero => cases hf
  | succ n ih =>
    rw [f_X7_empties_L17] at hf
    refine tt_iload (pc := 17) (k := 2) C dX7_empties_17 rfl ?_
    refine tt_bipush (pc := 19) (v := (20 : Int32)) C dX7_empties_19 (by decide) ?_
    refine tt_icmp_ge (pc := 21) (tgt := 43) C dX7_empties_21 (by decide) hf (fun hf => ?_) (fun hf => ?_)
    · exact tt_locs [] rfl (hk _ hf)
    · refine tt_aload_n (pc := 24) (k := 0) C dX7_empties_24 rfl rfl ?_
      refine tt_get (pc := 25) (ws := (mC cy ad sc ar la)) (ci := 7) (v := .ref (ad 32)) C fiX7 rfl 0 mC_obj 32 (by decide) q4_192 rfl dX7_empties_25 ?_
      refine tt_bipush (pc := 28) (v := (20 : Int32)) C dX7_empties_28 (by decide) ?_
      refine tt_iload_n (pc := 30) (k := 1) C dX7_empties_30 rfl rfl ?_
      refine tt_imul (pc := 31) C dX7_empties_31 ?_
      refine tt_iload (pc := 32) (k := 2) C dX7_empties_32 rfl ?_
      refine tt_iadd (pc := 34) C dX7_empties_34 ?_
      refine tt_lconst (pc := 35) (v := (0 : Int64)) C dX7_empties_35 rfl ?_
      refine tt_lastore (pc := 36) (ws := (mC cy ad sc ar la)) (n := 80) (f := (la 32)) (ws' := (mC cy ad sc ar (va_up la 32 (vp_updL (la 32) (ix (((20 : Int32) * v1) + v4)) (0 : Int64))))) C rfl 24 1 mC_get32 rfl hf dX7_empties_36 mC_set32 (fun hf => ?_)
      refine tt_iinc (pc := 37) (k := 2) (v := (v4 + 1)) (L' := [(4, .int (v4 + 1)), (0, .ref (ad 0)), (1, .int v1)]) C dX7_empties_37 rfl rfl (by decide) rfl ?_
      refine tt_goto (pc := 40) (tgt := 17) C dX7_empties_40 (by decide) ?_
      exact tt_locs [1, 2, 0] rfl (ih hf)
set_option maxHeartbeats 4000000 in
set_option maxRecDepth 100000 in
theorem k_X7_empties {l : Launch} {D : va_G} {cy : Nat → ClassId} {Bd : Nat} {xa : Xa} {ad : Nat → Nat} {N : Nat} {sc : Nat → Int32} {ar : Nat → Nat → Int32} {la : Nat → Nat → Int64} {a1 : Int32} {a2 : Int32} {a3 : Int32} {out : (Nat → Nat → Int32) × (Nat → Nat → Int64)} (hf : f_X7_empties N ar la a1 a2 a3 = some out) : KC l yX7_empties cX7_empties 5 none 0 0 false D cy Bd xa [.ref (ad 0), .int a1, .int a2, .int a3] (mC cy ad sc ar la) none (mC cy ad sc out.1 out.2) := by
  refine kc_start (own := RX7) (by decide +kernel) rfl (Nat.le_of_ble_eq_true rfl) ?_
  intro p e s m args below meth c A C
  unfold f_X7_empties at hf
  refine tt_locs (L' := [(0, .ref (ad 0)), (1, .int a1), (2, .int a2), (3, .int a3)]) [0, 1, 2, 3] rfl ?_
  refine tt_aload_n (pc := 0) (k := 0) C dX7_empties_0 rfl rfl ?_
  refine tt_get (pc := 1) (ws := (mC cy ad sc ar la)) (ci := 7) (v := .ref (ad 30)) C fiX7 rfl 0 mC_obj 30 (by decide) q4_190 rfl dX7_empties_1 ?_
  refine tt_iload_n (pc := 4) (k := 1) C dX7_empties_4 rfl rfl ?_
  refine tt_iload_n (pc := 5) (k := 2) C dX7_empties_5 rfl rfl ?_
  refine tt_iastore (pc := 6) (ws := (mC cy ad sc ar la)) (n := 4) (f := (ar 30)) (ws' := (mC cy ad sc (va_up ar 30 (upd (ar 30) (ix a1) a2)) la)) C rfl 22 0 mC_get30 rfl hf dX7_empties_6 mC_set30 (fun hf => ?_)
  refine tt_aload_n (pc := 7) (k := 0) C dX7_empties_7 rfl rfl ?_
  refine tt_get (pc := 8) (ws := (mC cy ad sc (va_up ar 30 (upd (ar 30) (ix a1) a2)) la)) (ci := 7) (v := .ref (ad 31)) C fiX7 rfl 0 mC_obj 31 (by decide) q4_191 rfl dX7_empties_8 ?_
  refine tt_iload_n (pc := 11) (k := 1) C dX7_empties_11 rfl rfl ?_
  refine tt_iload_n (pc := 12) (k := 3) C dX7_empties_12 rfl rfl ?_
  refine tt_iastore (pc := 13) (ws := (mC cy ad sc (va_up ar 30 (upd (ar 30) (ix a1) a2)) la)) (n := 4) (f := (ar 31)) (ws' := (mC cy ad sc (va_up (va_up ar 30 (upd (ar 30) (ix a1) a2)) 31 (upd (ar 31) (ix a1) a3)) la)) C rfl 23 0 mC_get31 rfl hf dX7_empties_13 mC_set31 (fun hf => ?_)
  refine tt_iconst (pc := 14) (v := (0 : Int32)) C dX7_empties_14 (by decide) ?_
  refine tt_istore (pc := 15) (L' := [(4, .int (0 : Int32)), (0, .ref (ad 0)), (1, .int a1), (2, .int a2), (3, .int a3)]) C dX7_empties_15 (by decide) rfl ?_
  refine tt_locs (L' := [(0, .ref (ad 0)), (1, .int a1), (4, .int (0 : Int32))]) [1, 2, 0] rfl (l_X7_empties_17 C (fun t1 hf => ?_) hf)
  obtain rfl := Option.some.inj hf
  exact tt_vreturn (pc := 43) C rfl rfl rfl dX7_empties_43
theorem dX7_shelf_0 : decode cX7_shelf 0 = .ok (.iload_n 1, 1) := by decide +kernel
theorem dX7_shelf_1 : decode cX7_shelf 1 = .ok (.invokestatic 251, 3) := by decide +kernel
theorem dX7_shelf_4 : decode cX7_shelf 4 = .ok (.ifCond .ne 9, 3) := by decide +kernel
theorem dX7_shelf_7 : decode cX7_shelf 7 = .ok (.aload_n 0, 1) := by decide +kernel
theorem dX7_shelf_8 : decode cX7_shelf 8 = .ok (.iconst (-1), 1) := by decide +kernel
theorem dX7_shelf_9 : decode cX7_shelf 9 = .ok (.invokevirtual 98, 3) := by decide +kernel
theorem dX7_shelf_12 : decode cX7_shelf 12 = .ok (.ireturn, 1) := by decide +kernel
theorem dX7_shelf_13 : decode cX7_shelf 13 = .ok (.iload_n 2, 1) := by decide +kernel
theorem dX7_shelf_14 : decode cX7_shelf 14 = .ok (.iconst (-1), 1) := by decide +kernel
theorem dX7_shelf_15 : decode cX7_shelf 15 = .ok (.iconst 1, 1) := by decide +kernel
theorem dX7_shelf_16 : decode cX7_shelf 16 = .ok (.invokestatic 102, 3) := by decide +kernel
theorem dX7_shelf_19 : decode cX7_shelf 19 = .ok (.ifCond .ne 10, 3) := by decide +kernel
theorem dX7_shelf_22 : decode cX7_shelf 22 = .ok (.aload_n 0, 1) := by decide +kernel
theorem dX7_shelf_23 : decode cX7_shelf 23 = .ok (.bipush (-2), 2) := by decide +kernel
theorem dX7_shelf_25 : decode cX7_shelf 25 = .ok (.invokevirtual 98, 3) := by decide +kernel
theorem dX7_shelf_28 : decode cX7_shelf 28 = .ok (.ireturn, 1) := by decide +kernel
theorem dX7_shelf_29 : decode cX7_shelf 29 = .ok (.iload_n 2, 1) := by decide +kernel
theorem dX7_shelf_30 : decode cX7_shelf 30 = .ok (.ifCond .lt 16, 3) := by decide +kernel
theorem dX7_shelf_33 : decode cX7_shelf 33 = .ok (.iload_n 3, 1) := by decide +kernel
theorem dX7_shelf_34 : decode cX7_shelf 34 = .ok (.bipush 20, 2) := by decide +kernel
theorem dX7_shelf_36 : decode cX7_shelf 36 = .ok (.if_icmp .le 10, 3) := by decide +kernel
theorem dX7_shelf_39 : decode cX7_shelf 39 = .ok (.aload_n 0, 1) := by decide +kernel
theorem dX7_shelf_40 : decode cX7_shelf 40 = .ok (.bipush (-6), 2) := by decide +kernel
theorem dX7_shelf_42 : decode cX7_shelf 42 = .ok (.invokevirtual 98, 3) := by decide +kernel
theorem dX7_shelf_45 : decode cX7_shelf 45 = .ok (.ireturn, 1) := by decide +kernel
theorem dX7_shelf_46 : decode cX7_shelf 46 = .ok (.iload_n 2, 1) := by decide +kernel
theorem dX7_shelf_47 : decode cX7_shelf 47 = .ok (.ifCond .lt 10, 3) := by decide +kernel
theorem dX7_shelf_50 : decode cX7_shelf 50 = .ok (.iload_n 3, 1) := by decide +kernel
theorem dX7_shelf_51 : decode cX7_shelf 51 = .ok (.ifCond .ge 6, 3) := by decide +kernel
theorem dX7_shelf_54 : decode cX7_shelf 54 = .ok (.bipush (-14), 2) := by decide +kernel
theorem dX7_shelf_56 : decode cX7_shelf 56 = .ok (.ireturn, 1) := by decide +kernel
theorem dX7_shelf_57 : decode cX7_shelf 57 = .ok (.aload_n 0, 1) := by decide +kernel
theorem dX7_shelf_58 : decode cX7_shelf 58 = .ok (.iload_n 1, 1) := by decide +kernel
theorem dX7_shelf_59 : decode cX7_shelf 59 = .ok (.iload_n 2, 1) := by decide +kernel
theorem dX7_shelf_60 : decode cX7_shelf 60 = .ok (.iload_n 2, 1) := by decide +kernel
theorem dX7_shelf_61 : decode cX7_shelf 61 = .ok (.ifCond .ge 7, 3) := by decide +kernel
theorem dX7_shelf_64 : decode cX7_shelf 64 = .ok (.iconst 0, 1) := by decide +kernel
theorem dX7_shelf_65 : decode cX7_shelf 65 = .ok (.goto 4, 3) := by decide +kernel
theorem dX7_shelf_68 : decode cX7_shelf 68 = .ok (.iload_n 3, 1) := by decide +kernel
theorem dX7_shelf_69 : decode cX7_shelf 69 = .ok (.invokevirtual 254, 3) := by decide +kernel
theorem dX7_shelf_72 : decode cX7_shelf 72 = .ok (.iconst 1, 1) := by decide +kernel
theorem dX7_shelf_73 : decode cX7_shelf 73 = .ok (.ireturn, 1) := by decide +kernel
set_option maxHeartbeats 4000000 in
set_option maxRecDepth 100000 in
theorem k_X7_shelf {l : Launch} {D : va_G} {cy : Nat → ClassId} {Bd : Nat} {xa : Xa} {ad : Nat → Nat} {N : Nat} {sc : Nat → Int32} {ar : Nat → Nat → Int32} {la : Nat → Nat → Int64} {a1 : Int32} {a2 : Int32} {a3 : Int32} {out : Int32 × (Nat → Nat → Int32) × (Nat → Nat → Int64)} (hf : f_X7_shelf N ar la a1 a2 a3 = some out) : KC l yX7_shelf cX7_shelf 4 (some .int) 2 42 false D cy Bd xa [.ref (ad 0), .int a1, .int a2, .int a3] (mC cy ad sc ar la) (some (.int out.1)) (mC cy ad sc out.2.1 out.2.2) := by
  refine kc_start (own := RX7) (by decide +kernel) rfl (Nat.le_of_ble_eq_true rfl) ?_
  intro p e s m args below meth c A C
  unfold f_X7_shelf at hf
  refine tt_locs (L' := [(0, .ref (ad 0)), (1, .int a1), (2, .int a2), (3, .int a3)]) [0, 1, 2, 3] rfl ?_
  refine tt_iload_n (pc := 0) (k := 1) C dX7_shelf_0 rfl rfl ?_
  obtain ⟨r1, hr1, hf⟩ := bind_some hf
  refine tt_callS (pc := 1) (ws := (mC cy ad sc ar la)) (rest := []) (st' := [.int r1]) C (k_X7_isShelf hr1) okX7_isShelf q6_82 (fun _ h => absurd h List.not_mem_nil) rfl rfl rfl (Nat.le_of_ble_eq_true rfl) ⟨Nat.le_of_ble_eq_true rfl, Nat.le_of_ble_eq_true rfl⟩ dX7_shelf_1 ?_
  refine tt_if_ne (pc := 4) (tgt := 13) C dX7_shelf_4 (by decide) hf (fun hf => ?_) (fun hf => ?_)
  · refine tt_iload_n (pc := 13) (k := 2) C dX7_shelf_13 rfl rfl ?_
    refine tt_iconst (pc := 14) (v := (-1 : Int32)) C dX7_shelf_14 (by decide) ?_
    refine tt_iconst (pc := 15) (v := (1 : Int32)) C dX7_shelf_15 (by decide) ?_
    obtain ⟨r2, hr2, hf⟩ := bind_some hf
    refine tt_callS (pc := 16) (ws := (mC cy ad sc ar la)) (rest := []) (st' := [.int r2]) C (k_X7_in hr2) okX7_in q5_52 (fun _ h => absurd h List.not_mem_nil) rfl rfl rfl (Nat.le_of_ble_eq_true rfl) ⟨Nat.le_of_ble_eq_true rfl, Nat.le_of_ble_eq_true rfl⟩ dX7_shelf_16 ?_
    refine tt_if_ne (pc := 19) (tgt := 29) C dX7_shelf_19 (by decide) hf (fun hf => ?_) (fun hf => ?_)
    · refine tt_iload_n (pc := 29) (k := 2) C dX7_shelf_29 rfl rfl ?_
      refine tt_if_lt (pc := 30) (tgt := 46) C dX7_shelf_30 (by decide) hf (fun hf => ?_) (fun hf => ?_)
      · refine tt_iload_n (pc := 46) (k := 2) C dX7_shelf_46 rfl rfl ?_
        refine tt_if_lt (pc := 47) (tgt := 57) C dX7_shelf_47 (by decide) hf (fun hf => ?_) (fun hf => ?_)
        · refine tt_aload_n (pc := 57) (k := 0) C dX7_shelf_57 rfl rfl ?_
          refine tt_iload_n (pc := 58) (k := 1) C dX7_shelf_58 rfl rfl ?_
          refine tt_iload_n (pc := 59) (k := 2) C dX7_shelf_59 rfl rfl ?_
          refine tt_iload_n (pc := 60) (k := 2) C dX7_shelf_60 rfl rfl ?_
          have k4 : TT p l e { frames := 2, cells := 0, slots := 0, locals := 42 } s m args below meth c 4 D A false (some (.int out.1)) (mC cy ad sc out.2.1 out.2.2) 69 [] [.int (if 0 ≤ a2 then a3 else (0 : Int32)), .int a2, .int a1, .ref (ad 0)] (mC cy ad sc ar la) := by
            obtain ⟨r5, hr5, hf⟩ := bind_some hf
            refine tt_callM (pc := 69) (ws := (mC cy ad sc ar la)) (q0 := 0) (ci := 7) (rest := []) (st' := []) C rfl (k_X7_empties hr5) okX7_empties q6_85 rfl mC_obj rfl rfl rfl (Nat.le_of_ble_eq_true rfl) ⟨Nat.le_of_ble_eq_true rfl, Nat.le_of_ble_eq_true rfl⟩ dX7_shelf_69 ?_
            refine tt_iconst (pc := 72) (v := (1 : Int32)) C dX7_shelf_72 (by decide) ?_
            obtain rfl := Option.some.inj hf
            exact tt_ireturn (pc := 73) C rfl rfl rfl dX7_shelf_73
          refine tr_if_ge (pc := 61) (tgt := 68) C dX7_shelf_61 (by decide) (fun c3 => ?_) (fun c3 => ?_)
          · refine tt_iload_n (pc := 68) (k := 3) C dX7_shelf_68 rfl rfl ?_
            try simp only [if_pos c3] at k4 ⊢
            exact tt_locs [] rfl k4
          · refine tt_iconst (pc := 64) (v := (0 : Int32)) C dX7_shelf_64 (by decide) ?_
            refine tt_goto (pc := 65) (tgt := 69) C dX7_shelf_65 (by decide) ?_
            try simp only [if_neg c3] at k4 ⊢
            exact tt_locs [] rfl k4
        · refine tt_iload_n (pc := 50) (k := 3) C dX7_shelf_50 rfl rfl ?_
          refine tt_if_ge (pc := 51) (tgt := 57) C dX7_shelf_51 (by decide) hf (fun hf => ?_) (fun hf => ?_)
          · refine tt_aload_n (pc := 57) (k := 0) C dX7_shelf_57 rfl rfl ?_
            refine tt_iload_n (pc := 58) (k := 1) C dX7_shelf_58 rfl rfl ?_
            refine tt_iload_n (pc := 59) (k := 2) C dX7_shelf_59 rfl rfl ?_
            refine tt_iload_n (pc := 60) (k := 2) C dX7_shelf_60 rfl rfl ?_
            have k7 : TT p l e { frames := 2, cells := 0, slots := 0, locals := 42 } s m args below meth c 4 D A false (some (.int out.1)) (mC cy ad sc out.2.1 out.2.2) 69 [] [.int (if 0 ≤ a2 then a3 else (0 : Int32)), .int a2, .int a1, .ref (ad 0)] (mC cy ad sc ar la) := by
              obtain ⟨r8, hr8, hf⟩ := bind_some hf
              refine tt_callM (pc := 69) (ws := (mC cy ad sc ar la)) (q0 := 0) (ci := 7) (rest := []) (st' := []) C rfl (k_X7_empties hr8) okX7_empties q6_85 rfl mC_obj rfl rfl rfl (Nat.le_of_ble_eq_true rfl) ⟨Nat.le_of_ble_eq_true rfl, Nat.le_of_ble_eq_true rfl⟩ dX7_shelf_69 ?_
              refine tt_iconst (pc := 72) (v := (1 : Int32)) C dX7_shelf_72 (by decide) ?_
              obtain rfl := Option.some.inj hf
              exact tt_ireturn (pc := 73) C rfl rfl rfl dX7_shelf_73
            refine tr_if_ge (pc := 61) (tgt := 68) C dX7_shelf_61 (by decide) (fun c6 => ?_) (fun c6 => ?_)
            · refine tt_iload_n (pc := 68) (k := 3) C dX7_shelf_68 rfl rfl ?_
              try simp only [if_pos c6] at k7 ⊢
              exact tt_locs [] rfl k7
            · refine tt_iconst (pc := 64) (v := (0 : Int32)) C dX7_shelf_64 (by decide) ?_
              refine tt_goto (pc := 65) (tgt := 69) C dX7_shelf_65 (by decide) ?_
              try simp only [if_neg c6] at k7 ⊢
              exact tt_locs [] rfl k7
          · refine tt_bipush (pc := 54) (v := (-14 : Int32)) C dX7_shelf_54 (by decide) ?_
            obtain rfl := Option.some.inj hf
            exact tt_ireturn (pc := 56) C rfl rfl rfl dX7_shelf_56
      · refine tt_iload_n (pc := 33) (k := 3) C dX7_shelf_33 rfl rfl ?_
        refine tt_bipush (pc := 34) (v := (20 : Int32)) C dX7_shelf_34 (by decide) ?_
        refine tt_icmp_le (pc := 36) (tgt := 46) C dX7_shelf_36 (by decide) hf (fun hf => ?_) (fun hf => ?_)
        · refine tt_iload_n (pc := 46) (k := 2) C dX7_shelf_46 rfl rfl ?_
          refine tt_if_lt (pc := 47) (tgt := 57) C dX7_shelf_47 (by decide) hf (fun hf => ?_) (fun hf => ?_)
          · refine tt_aload_n (pc := 57) (k := 0) C dX7_shelf_57 rfl rfl ?_
            refine tt_iload_n (pc := 58) (k := 1) C dX7_shelf_58 rfl rfl ?_
            refine tt_iload_n (pc := 59) (k := 2) C dX7_shelf_59 rfl rfl ?_
            refine tt_iload_n (pc := 60) (k := 2) C dX7_shelf_60 rfl rfl ?_
            have k10 : TT p l e { frames := 2, cells := 0, slots := 0, locals := 42 } s m args below meth c 4 D A false (some (.int out.1)) (mC cy ad sc out.2.1 out.2.2) 69 [] [.int (if 0 ≤ a2 then a3 else (0 : Int32)), .int a2, .int a1, .ref (ad 0)] (mC cy ad sc ar la) := by
              obtain ⟨r11, hr11, hf⟩ := bind_some hf
              refine tt_callM (pc := 69) (ws := (mC cy ad sc ar la)) (q0 := 0) (ci := 7) (rest := []) (st' := []) C rfl (k_X7_empties hr11) okX7_empties q6_85 rfl mC_obj rfl rfl rfl (Nat.le_of_ble_eq_true rfl) ⟨Nat.le_of_ble_eq_true rfl, Nat.le_of_ble_eq_true rfl⟩ dX7_shelf_69 ?_
              refine tt_iconst (pc := 72) (v := (1 : Int32)) C dX7_shelf_72 (by decide) ?_
              obtain rfl := Option.some.inj hf
              exact tt_ireturn (pc := 73) C rfl rfl rfl dX7_shelf_73
            refine tr_if_ge (pc := 61) (tgt := 68) C dX7_shelf_61 (by decide) (fun c9 => ?_) (fun c9 => ?_)
            · refine tt_iload_n (pc := 68) (k := 3) C dX7_shelf_68 rfl rfl ?_
              try simp only [if_pos c9] at k10 ⊢
              exact tt_locs [] rfl k10
            · refine tt_iconst (pc := 64) (v := (0 : Int32)) C dX7_shelf_64 (by decide) ?_
              refine tt_goto (pc := 65) (tgt := 69) C dX7_shelf_65 (by decide) ?_
              try simp only [if_neg c9] at k10 ⊢
              exact tt_locs [] rfl k10
          · refine tt_iload_n (pc := 50) (k := 3) C dX7_shelf_50 rfl rfl ?_
            refine tt_if_ge (pc := 51) (tgt := 57) C dX7_shelf_51 (by decide) hf (fun hf => ?_) (fun hf => ?_)
            · refine tt_aload_n (pc := 57) (k := 0) C dX7_shelf_57 rfl rfl ?_
              refine tt_iload_n (pc := 58) (k := 1) C dX7_shelf_58 rfl rfl ?_
              refine tt_iload_n (pc := 59) (k := 2) C dX7_shelf_59 rfl rfl ?_
              refine tt_iload_n (pc := 60) (k := 2) C dX7_shelf_60 rfl rfl ?_
              have k13 : TT p l e { frames := 2, cells := 0, slots := 0, locals := 42 } s m args below meth c 4 D A false (some (.int out.1)) (mC cy ad sc out.2.1 out.2.2) 69 [] [.int (if 0 ≤ a2 then a3 else (0 : Int32)), .int a2, .int a1, .ref (ad 0)] (mC cy ad sc ar la) := by
                obtain ⟨r14, hr14, hf⟩ := bind_some hf
                refine tt_callM (pc := 69) (ws := (mC cy ad sc ar la)) (q0 := 0) (ci := 7) (rest := []) (st' := []) C rfl (k_X7_empties hr14) okX7_empties q6_85 rfl mC_obj rfl rfl rfl (Nat.le_of_ble_eq_true rfl) ⟨Nat.le_of_ble_eq_true rfl, Nat.le_of_ble_eq_true rfl⟩ dX7_shelf_69 ?_
                refine tt_iconst (pc := 72) (v := (1 : Int32)) C dX7_shelf_72 (by decide) ?_
                obtain rfl := Option.some.inj hf
                exact tt_ireturn (pc := 73) C rfl rfl rfl dX7_shelf_73
              refine tr_if_ge (pc := 61) (tgt := 68) C dX7_shelf_61 (by decide) (fun c12 => ?_) (fun c12 => ?_)
              · refine tt_iload_n (pc := 68) (k := 3) C dX7_shelf_68 rfl rfl ?_
                try simp only [if_pos c12] at k13 ⊢
                exact tt_locs [] rfl k13
              · refine tt_iconst (pc := 64) (v := (0 : Int32)) C dX7_shelf_64 (by decide) ?_
                refine tt_goto (pc := 65) (tgt := 69) C dX7_shelf_65 (by decide) ?_
                try simp only [if_neg c12] at k13 ⊢
                exact tt_locs [] rfl k13
            · refine tt_bipush (pc := 54) (v := (-14 : Int32)) C dX7_shelf_54 (by decide) ?_
              obtain rfl := Option.some.inj hf
              exact tt_ireturn (pc := 56) C rfl rfl rfl dX7_shelf_56
        · refine tt_aload_n (pc := 39) (k := 0) C dX7_shelf_39 rfl rfl ?_
          refine tt_bipush (pc := 40) (v := (-6 : Int32)) C dX7_shelf_40 (by decide) ?_
          obtain ⟨r15, hr15, hf⟩ := bind_some hf
          refine tt_callM (pc := 42) (ws := (mC cy ad sc ar la)) (q0 := 0) (ci := 7) (rest := []) (st' := [.int r15.1]) C rfl (k_X7_no hr15) okX7_no q5_36 rfl mC_obj rfl rfl rfl (Nat.le_of_ble_eq_true rfl) ⟨Nat.le_of_ble_eq_true rfl, Nat.le_of_ble_eq_true rfl⟩ dX7_shelf_42 ?_
          obtain rfl := Option.some.inj hf
          exact tt_ireturn (pc := 45) C rfl rfl rfl dX7_shelf_45
    · refine tt_aload_n (pc := 22) (k := 0) C dX7_shelf_22 rfl rfl ?_
      refine tt_bipush (pc := 23) (v := (-2 : Int32)) C dX7_shelf_23 (by decide) ?_
      obtain ⟨r16, hr16, hf⟩ := bind_some hf
      refine tt_callM (pc := 25) (ws := (mC cy ad sc ar la)) (q0 := 0) (ci := 7) (rest := []) (st' := [.int r16.1]) C rfl (k_X7_no hr16) okX7_no q5_36 rfl mC_obj rfl rfl rfl (Nat.le_of_ble_eq_true rfl) ⟨Nat.le_of_ble_eq_true rfl, Nat.le_of_ble_eq_true rfl⟩ dX7_shelf_25 ?_
      obtain rfl := Option.some.inj hf
      exact tt_ireturn (pc := 28) C rfl rfl rfl dX7_shelf_28
  · refine tt_aload_n (pc := 7) (k := 0) C dX7_shelf_7 rfl rfl ?_
    refine tt_iconst (pc := 8) (v := (-1 : Int32)) C dX7_shelf_8 (by decide) ?_
    obtain ⟨r17, hr17, hf⟩ := bind_some hf
    refine tt_callM (pc := 9) (ws := (mC cy ad sc ar la)) (q0 := 0) (ci := 7) (rest := []) (st' := [.int r17.1]) C rfl (k_X7_no hr17) okX7_no q5_36 rfl mC_obj rfl rfl rfl (Nat.le_of_ble_eq_true rfl) ⟨Nat.le_of_ble_eq_true rfl, Nat.le_of_ble_eq_true rfl⟩ dX7_shelf_9 ?_
    obtain rfl := Option.some.inj hf
    exact tt_ireturn (pc := 12) C rfl rfl rfl dX7_shelf_12
theorem dX7_lay_0 : decode cX7_lay 0 = .ok (.iload_n 1, 1) := by decide +kernel
theorem dX7_lay_1 : decode cX7_lay 1 = .ok (.invokestatic 251, 3) := by decide +kernel
theorem dX7_lay_4 : decode cX7_lay 4 = .ok (.ifCond .eq 11, 3) := by decide +kernel
theorem dX7_lay_7 : decode cX7_lay 7 = .ok (.aload_n 0, 1) := by decide +kernel
theorem dX7_lay_8 : decode cX7_lay 8 = .ok (.iload_n 2, 1) := by decide +kernel
theorem dX7_lay_9 : decode cX7_lay 9 = .ok (.invokevirtual 138, 3) := by decide +kernel
theorem dX7_lay_12 : decode cX7_lay 12 = .ok (.ifCond .ne 9, 3) := by decide +kernel
theorem dX7_lay_15 : decode cX7_lay 15 = .ok (.aload_n 0, 1) := by decide +kernel
theorem dX7_lay_16 : decode cX7_lay 16 = .ok (.iconst (-1), 1) := by decide +kernel
theorem dX7_lay_17 : decode cX7_lay 17 = .ok (.invokevirtual 98, 3) := by decide +kernel
theorem dX7_lay_20 : decode cX7_lay 20 = .ok (.ireturn, 1) := by decide +kernel
theorem dX7_lay_21 : decode cX7_lay 21 = .ok (.aload_n 0, 1) := by decide +kernel
theorem dX7_lay_22 : decode cX7_lay 22 = .ok (.iload_n 1, 1) := by decide +kernel
theorem dX7_lay_23 : decode cX7_lay 23 = .ok (.iconst 2, 1) := by decide +kernel
theorem dX7_lay_24 : decode cX7_lay 24 = .ok (.iconst 0, 1) := by decide +kernel
theorem dX7_lay_25 : decode cX7_lay 25 = .ok (.invokevirtual 254, 3) := by decide +kernel
theorem dX7_lay_28 : decode cX7_lay 28 = .ok (.aload_n 0, 1) := by decide +kernel
theorem dX7_lay_29 : decode cX7_lay 29 = .ok (.getfield 86, 3) := by decide +kernel
theorem dX7_lay_32 : decode cX7_lay 32 = .ok (.bipush 20, 2) := by decide +kernel
theorem dX7_lay_34 : decode cX7_lay 34 = .ok (.iload_n 1, 1) := by decide +kernel
theorem dX7_lay_35 : decode cX7_lay 35 = .ok (.imul, 1) := by decide +kernel
theorem dX7_lay_36 : decode cX7_lay 36 = .ok (.aload_n 0, 1) := by decide +kernel
theorem dX7_lay_37 : decode cX7_lay 37 = .ok (.getfield 32, 3) := by decide +kernel
theorem dX7_lay_40 : decode cX7_lay 40 = .ok (.iload_n 2, 1) := by decide +kernel
theorem dX7_lay_41 : decode cX7_lay 41 = .ok (.iaload, 1) := by decide +kernel
theorem dX7_lay_42 : decode cX7_lay 42 = .ok (.i2l, 1) := by decide +kernel
theorem dX7_lay_43 : decode cX7_lay 43 = .ok (.lastore, 1) := by decide +kernel
theorem dX7_lay_44 : decode cX7_lay 44 = .ok (.aload_n 0, 1) := by decide +kernel
theorem dX7_lay_45 : decode cX7_lay 45 = .ok (.getfield 86, 3) := by decide +kernel
theorem dX7_lay_48 : decode cX7_lay 48 = .ok (.bipush 20, 2) := by decide +kernel
theorem dX7_lay_50 : decode cX7_lay 50 = .ok (.iload_n 1, 1) := by decide +kernel
theorem dX7_lay_51 : decode cX7_lay 51 = .ok (.imul, 1) := by decide +kernel
theorem dX7_lay_52 : decode cX7_lay 52 = .ok (.iconst 1, 1) := by decide +kernel
theorem dX7_lay_53 : decode cX7_lay 53 = .ok (.iadd, 1) := by decide +kernel
theorem dX7_lay_54 : decode cX7_lay 54 = .ok (.aload_n 0, 1) := by decide +kernel
theorem dX7_lay_55 : decode cX7_lay 55 = .ok (.getfield 35, 3) := by decide +kernel
theorem dX7_lay_58 : decode cX7_lay 58 = .ok (.iload_n 2, 1) := by decide +kernel
theorem dX7_lay_59 : decode cX7_lay 59 = .ok (.iaload, 1) := by decide +kernel
theorem dX7_lay_60 : decode cX7_lay 60 = .ok (.i2l, 1) := by decide +kernel
theorem dX7_lay_61 : decode cX7_lay 61 = .ok (.lastore, 1) := by decide +kernel
theorem dX7_lay_62 : decode cX7_lay 62 = .ok (.iconst 1, 1) := by decide +kernel
theorem dX7_lay_63 : decode cX7_lay 63 = .ok (.ireturn, 1) := by decide +kernel
set_option maxHeartbeats 4000000 in
set_option maxRecDepth 100000 in
theorem k_X7_lay {l : Launch} {D : va_G} {cy : Nat → ClassId} {Bd : Nat} {xa : Xa} {ad : Nat → Nat} {N : Nat} {sc : Nat → Int32} {ar : Nat → Nat → Int32} {la : Nat → Nat → Int64} {a1 : Int32} {a2 : Int32} {out : Int32 × (Nat → Nat → Int32) × (Nat → Nat → Int64)} (hf : f_X7_lay N sc ar la a1 a2 = some out) : KC l yX7_lay cX7_lay 3 (some .int) 2 43 false D cy Bd xa [.ref (ad 0), .int a1, .int a2] (mC cy ad sc ar la) (some (.int out.1)) (mC cy ad sc out.2.1 out.2.2) := by
  refine kc_start (own := RX7) (by decide +kernel) rfl (Nat.le_of_ble_eq_true rfl) ?_
  intro p e s m args below meth c A C
  unfold f_X7_lay at hf
  refine tt_locs (L' := [(0, .ref (ad 0)), (1, .int a1), (2, .int a2)]) [0, 1, 2] rfl ?_
  refine tt_iload_n (pc := 0) (k := 1) C dX7_lay_0 rfl rfl ?_
  obtain ⟨r1, hr1, hf⟩ := bind_some hf
  refine tt_callS (pc := 1) (ws := (mC cy ad sc ar la)) (rest := []) (st' := [.int r1]) C (k_X7_isShelf hr1) okX7_isShelf q6_82 (fun _ h => absurd h List.not_mem_nil) rfl rfl rfl (Nat.le_of_ble_eq_true rfl) ⟨Nat.le_of_ble_eq_true rfl, Nat.le_of_ble_eq_true rfl⟩ dX7_lay_1 ?_
  refine tt_if_eq (pc := 4) (tgt := 15) C dX7_lay_4 (by decide) hf (fun hf => ?_) (fun hf => ?_)
  · refine tt_aload_n (pc := 15) (k := 0) C dX7_lay_15 rfl rfl ?_
    refine tt_iconst (pc := 16) (v := (-1 : Int32)) C dX7_lay_16 (by decide) ?_
    obtain ⟨r2, hr2, hf⟩ := bind_some hf
    refine tt_callM (pc := 17) (ws := (mC cy ad sc ar la)) (q0 := 0) (ci := 7) (rest := []) (st' := [.int r2.1]) C rfl (k_X7_no hr2) okX7_no q5_36 rfl mC_obj rfl rfl rfl (Nat.le_of_ble_eq_true rfl) ⟨Nat.le_of_ble_eq_true rfl, Nat.le_of_ble_eq_true rfl⟩ dX7_lay_17 ?_
    obtain rfl := Option.some.inj hf
    exact tt_ireturn (pc := 20) C rfl rfl rfl dX7_lay_20
  · refine tt_aload_n (pc := 7) (k := 0) C dX7_lay_7 rfl rfl ?_
    refine tt_iload_n (pc := 8) (k := 2) C dX7_lay_8 rfl rfl ?_
    obtain ⟨r3, hr3, hf⟩ := bind_some hf
    refine tt_callR (pc := 9) (ws := (mC cy ad sc ar la)) (q0 := 0) (ci := 7) (rest := []) (st' := [.int r3]) C (k_X7_isTrain hr3) okX7_isTrain q5_103 rfl mC_obj (fun _ h => h) rfl rfl rfl (Nat.le_of_ble_eq_true rfl) ⟨Nat.le_of_ble_eq_true rfl, Nat.le_of_ble_eq_true rfl⟩ dX7_lay_9 ?_
    refine tt_if_ne (pc := 12) (tgt := 21) C dX7_lay_12 (by decide) hf (fun hf => ?_) (fun hf => ?_)
    · refine tt_aload_n (pc := 21) (k := 0) C dX7_lay_21 rfl rfl ?_
      refine tt_iload_n (pc := 22) (k := 1) C dX7_lay_22 rfl rfl ?_
      refine tt_iconst (pc := 23) (v := (2 : Int32)) C dX7_lay_23 (by decide) ?_
      refine tt_iconst (pc := 24) (v := (0 : Int32)) C dX7_lay_24 (by decide) ?_
      obtain ⟨r4, hr4, hf⟩ := bind_some hf
      refine tt_callM (pc := 25) (ws := (mC cy ad sc ar la)) (q0 := 0) (ci := 7) (rest := []) (st' := []) C rfl (k_X7_empties hr4) okX7_empties q6_85 rfl mC_obj rfl rfl rfl (Nat.le_of_ble_eq_true rfl) ⟨Nat.le_of_ble_eq_true rfl, Nat.le_of_ble_eq_true rfl⟩ dX7_lay_25 ?_
      refine tt_aload_n (pc := 28) (k := 0) C dX7_lay_28 rfl rfl ?_
      refine tt_get (pc := 29) (ws := (mC cy ad sc r4.1 r4.2)) (ci := 7) (v := .ref (ad 32)) C fiX7 rfl 0 mC_obj 32 (by decide) q4_192 rfl dX7_lay_29 ?_
      refine tt_bipush (pc := 32) (v := (20 : Int32)) C dX7_lay_32 (by decide) ?_
      refine tt_iload_n (pc := 34) (k := 1) C dX7_lay_34 rfl rfl ?_
      refine tt_imul (pc := 35) C dX7_lay_35 ?_
      refine tt_aload_n (pc := 36) (k := 0) C dX7_lay_36 rfl rfl ?_
      refine tt_get (pc := 37) (ws := (mC cy ad sc r4.1 r4.2)) (ci := 7) (v := .ref (ad 10)) C fiX7 rfl 0 mC_obj 10 (by decide) q4_170 rfl dX7_lay_37 ?_
      refine tt_iload_n (pc := 40) (k := 2) C dX7_lay_40 rfl rfl ?_
      refine tt_iaload (pc := 41) (ws := (mC cy ad sc r4.1 r4.2)) (n := 4) (f := (r4.1 10)) C 7 0 mC_get10 rfl hf dX7_lay_41 (fun hf => ?_)
      refine tt_i2l (pc := 42) C dX7_lay_42 ?_
      refine tt_lastore (pc := 43) (ws := (mC cy ad sc r4.1 r4.2)) (n := 80) (f := (r4.2 32)) (ws' := (mC cy ad sc r4.1 (va_up r4.2 32 (vp_updL (r4.2 32) (ix ((20 : Int32) * a1)) (((r4.1 10) (ix a2)) : Int32).toInt64)))) C rfl 24 1 mC_get32 rfl hf dX7_lay_43 mC_set32 (fun hf => ?_)
      refine tt_aload_n (pc := 44) (k := 0) C dX7_lay_44 rfl rfl ?_
      refine tt_get (pc := 45) (ws := (mC cy ad sc r4.1 (va_up r4.2 32 (vp_updL (r4.2 32) (ix ((20 : Int32) * a1)) (((r4.1 10) (ix a2)) : Int32).toInt64)))) (ci := 7) (v := .ref (ad 32)) C fiX7 rfl 0 mC_obj 32 (by decide) q4_192 rfl dX7_lay_45 ?_
      refine tt_bipush (pc := 48) (v := (20 : Int32)) C dX7_lay_48 (by decide) ?_
      refine tt_iload_n (pc := 50) (k := 1) C dX7_lay_50 rfl rfl ?_
      refine tt_imul (pc := 51) C dX7_lay_51 ?_
      refine tt_iconst (pc := 52) (v := (1 : Int32)) C dX7_lay_52 (by decide) ?_
      refine tt_iadd (pc := 53) C dX7_lay_53 ?_
      refine tt_aload_n (pc := 54) (k := 0) C dX7_lay_54 rfl rfl ?_
      refine tt_get (pc := 55) (ws := (mC cy ad sc r4.1 (va_up r4.2 32 (vp_updL (r4.2 32) (ix ((20 : Int32) * a1)) (((r4.1 10) (ix a2)) : Int32).toInt64)))) (ci := 7) (v := .ref (ad 11)) C fiX7 rfl 0 mC_obj 11 (by decide) q4_171 rfl dX7_lay_55 ?_
      refine tt_iload_n (pc := 58) (k := 2) C dX7_lay_58 rfl rfl ?_
      refine tt_iaload (pc := 59) (ws := (mC cy ad sc r4.1 (va_up r4.2 32 (vp_updL (r4.2 32) (ix ((20 : Int32) * a1)) (((r4.1 10) (ix a2)) : Int32).toInt64)))) (n := 4) (f := (r4.1 11)) C 8 0 mC_get11 rfl hf dX7_lay_59 (fun hf => ?_)
      refine tt_i2l (pc := 60) C dX7_lay_60 ?_
      refine tt_lastore (pc := 61) (ws := (mC cy ad sc r4.1 (va_up r4.2 32 (vp_updL (r4.2 32) (ix ((20 : Int32) * a1)) (((r4.1 10) (ix a2)) : Int32).toInt64)))) (n := 80) (f := (vp_updL (r4.2 32) (ix ((20 : Int32) * a1)) (((r4.1 10) (ix a2)) : Int32).toInt64)) (ws' := (mC cy ad sc r4.1 (va_up (va_up r4.2 32 (vp_updL (r4.2 32) (ix ((20 : Int32) * a1)) (((r4.1 10) (ix a2)) : Int32).toInt64)) 32 (vp_updL (vp_updL (r4.2 32) (ix ((20 : Int32) * a1)) (((r4.1 10) (ix a2)) : Int32).toInt64) (ix (((20 : Int32) * a1) + (1 : Int32))) (((r4.1 11) (ix a2)) : Int32).toInt64)))) C rfl 24 1 mC_get32 rfl hf dX7_lay_61 mC_set32 (fun hf => ?_)
      refine tt_iconst (pc := 62) (v := (1 : Int32)) C dX7_lay_62 (by decide) ?_
      obtain rfl := Option.some.inj hf
      exact tt_ireturn (pc := 63) C rfl rfl rfl dX7_lay_63
    · refine tt_aload_n (pc := 15) (k := 0) C dX7_lay_15 rfl rfl ?_
      refine tt_iconst (pc := 16) (v := (-1 : Int32)) C dX7_lay_16 (by decide) ?_
      obtain ⟨r5, hr5, hf⟩ := bind_some hf
      refine tt_callM (pc := 17) (ws := (mC cy ad sc ar la)) (q0 := 0) (ci := 7) (rest := []) (st' := [.int r5.1]) C rfl (k_X7_no hr5) okX7_no q5_36 rfl mC_obj rfl rfl rfl (Nat.le_of_ble_eq_true rfl) ⟨Nat.le_of_ble_eq_true rfl, Nat.le_of_ble_eq_true rfl⟩ dX7_lay_17 ?_
      obtain rfl := Option.some.inj hf
      exact tt_ireturn (pc := 20) C rfl rfl rfl dX7_lay_20
theorem dX7_barred_0 : decode cX7_barred 0 = .ok (.aload_n 0, 1) := by decide +kernel
theorem dX7_barred_1 : decode cX7_barred 1 = .ok (.getfield 80, 3) := by decide +kernel
theorem dX7_barred_4 : decode cX7_barred 4 = .ok (.iload_n 1, 1) := by decide +kernel
theorem dX7_barred_5 : decode cX7_barred 5 = .ok (.iaload, 1) := by decide +kernel
theorem dX7_barred_6 : decode cX7_barred 6 = .ok (.ifCond .ge 6, 3) := by decide +kernel
theorem dX7_barred_9 : decode cX7_barred 9 = .ok (.bipush (-11), 2) := by decide +kernel
theorem dX7_barred_11 : decode cX7_barred 11 = .ok (.ireturn, 1) := by decide +kernel
theorem dX7_barred_12 : decode cX7_barred 12 = .ok (.aload_n 0, 1) := by decide +kernel
theorem dX7_barred_13 : decode cX7_barred 13 = .ok (.getfield 80, 3) := by decide +kernel
theorem dX7_barred_16 : decode cX7_barred 16 = .ok (.iload_n 1, 1) := by decide +kernel
theorem dX7_barred_17 : decode cX7_barred 17 = .ok (.iaload, 1) := by decide +kernel
theorem dX7_barred_18 : decode cX7_barred 18 = .ok (.iconst 2, 1) := by decide +kernel
theorem dX7_barred_19 : decode cX7_barred 19 = .ok (.if_icmp .ne 6, 3) := by decide +kernel
theorem dX7_barred_22 : decode cX7_barred 22 = .ok (.bipush (-12), 2) := by decide +kernel
theorem dX7_barred_24 : decode cX7_barred 24 = .ok (.ireturn, 1) := by decide +kernel
theorem dX7_barred_25 : decode cX7_barred 25 = .ok (.iload_n 2, 1) := by decide +kernel
theorem dX7_barred_26 : decode cX7_barred 26 = .ok (.iconst 0, 1) := by decide +kernel
theorem dX7_barred_27 : decode cX7_barred 27 = .ok (.aload_n 0, 1) := by decide +kernel
theorem dX7_barred_28 : decode cX7_barred 28 = .ok (.getfield 83, 3) := by decide +kernel
theorem dX7_barred_31 : decode cX7_barred 31 = .ok (.iload_n 1, 1) := by decide +kernel
theorem dX7_barred_32 : decode cX7_barred 32 = .ok (.iaload, 1) := by decide +kernel
theorem dX7_barred_33 : decode cX7_barred 33 = .ok (.iconst 1, 1) := by decide +kernel
theorem dX7_barred_34 : decode cX7_barred 34 = .ok (.isub, 1) := by decide +kernel
theorem dX7_barred_35 : decode cX7_barred 35 = .ok (.invokestatic 102, 3) := by decide +kernel
theorem dX7_barred_38 : decode cX7_barred 38 = .ok (.ifCond .eq 7, 3) := by decide +kernel
theorem dX7_barred_41 : decode cX7_barred 41 = .ok (.iconst 0, 1) := by decide +kernel
theorem dX7_barred_42 : decode cX7_barred 42 = .ok (.goto 5, 3) := by decide +kernel
theorem dX7_barred_45 : decode cX7_barred 45 = .ok (.bipush (-13), 2) := by decide +kernel
theorem dX7_barred_47 : decode cX7_barred 47 = .ok (.ireturn, 1) := by decide +kernel
set_option maxHeartbeats 4000000 in
set_option maxRecDepth 100000 in
theorem k_X7_barred {l : Launch} {D : va_G} {cy : Nat → ClassId} {Bd : Nat} {xa : Xa} {ad : Nat → Nat} {N : Nat} {sc : Nat → Int32} {ar : Nat → Nat → Int32} {la : Nat → Nat → Int64} {a1 : Int32} {a2 : Int32} {out : Int32} (hf : f_X7_barred N ar a1 a2 = some out) : KC l yX7_barred cX7_barred 3 (some .int) 1 22 true D cy Bd xa [.ref (ad 0), .int a1, .int a2] (mC cy ad sc ar la) (some (.int out)) (mC cy ad sc ar la) := by
  refine kc_start (own := RX7) (by decide +kernel) rfl (Nat.le_of_ble_eq_true rfl) ?_
  intro p e s m args below meth c A C
  unfold f_X7_barred at hf
  refine tt_locs (L' := [(0, .ref (ad 0)), (1, .int a1), (2, .int a2)]) [0, 1, 2] rfl ?_
  refine tt_aload_n (pc := 0) (k := 0) C dX7_barred_0 rfl rfl ?_
  refine tt_get (pc := 1) (ws := (mC cy ad sc ar la)) (ci := 7) (v := .ref (ad 30)) C fiX7 rfl 0 mC_obj 30 (by decide) q4_190 rfl dX7_barred_1 ?_
  refine tt_iload_n (pc := 4) (k := 1) C dX7_barred_4 rfl rfl ?_
  refine tt_iaload (pc := 5) (ws := (mC cy ad sc ar la)) (n := 4) (f := (ar 30)) C 22 0 mC_get30 rfl hf dX7_barred_5 (fun hf => ?_)
  refine tt_if_ge (pc := 6) (tgt := 12) C dX7_barred_6 (by decide) hf (fun hf => ?_) (fun hf => ?_)
  · refine tt_aload_n (pc := 12) (k := 0) C dX7_barred_12 rfl rfl ?_
    refine tt_get (pc := 13) (ws := (mC cy ad sc ar la)) (ci := 7) (v := .ref (ad 30)) C fiX7 rfl 0 mC_obj 30 (by decide) q4_190 rfl dX7_barred_13 ?_
    refine tt_iload_n (pc := 16) (k := 1) C dX7_barred_16 rfl rfl ?_
    refine tt_iaload (pc := 17) (ws := (mC cy ad sc ar la)) (n := 4) (f := (ar 30)) C 22 0 mC_get30 rfl hf dX7_barred_17 (fun hf => ?_)
    refine tt_iconst (pc := 18) (v := (2 : Int32)) C dX7_barred_18 (by decide) ?_
    refine tt_icmp_ne (pc := 19) (tgt := 25) C dX7_barred_19 (by decide) hf (fun hf => ?_) (fun hf => ?_)
    · refine tt_iload_n (pc := 25) (k := 2) C dX7_barred_25 rfl rfl ?_
      refine tt_iconst (pc := 26) (v := (0 : Int32)) C dX7_barred_26 (by decide) ?_
      refine tt_aload_n (pc := 27) (k := 0) C dX7_barred_27 rfl rfl ?_
      refine tt_get (pc := 28) (ws := (mC cy ad sc ar la)) (ci := 7) (v := .ref (ad 31)) C fiX7 rfl 0 mC_obj 31 (by decide) q4_191 rfl dX7_barred_28 ?_
      refine tt_iload_n (pc := 31) (k := 1) C dX7_barred_31 rfl rfl ?_
      refine tt_iaload (pc := 32) (ws := (mC cy ad sc ar la)) (n := 4) (f := (ar 31)) C 23 0 mC_get31 rfl hf dX7_barred_32 (fun hf => ?_)
      refine tt_iconst (pc := 33) (v := (1 : Int32)) C dX7_barred_33 (by decide) ?_
      refine tt_isub (pc := 34) C dX7_barred_34 ?_
      obtain ⟨r1, hr1, hf⟩ := bind_some hf
      refine tt_callS (pc := 35) (ws := (mC cy ad sc ar la)) (rest := []) (st' := [.int r1]) C (k_X7_in hr1) okX7_in q5_52 (fun _ h => absurd h List.not_mem_nil) rfl rfl rfl (Nat.le_of_ble_eq_true rfl) ⟨Nat.le_of_ble_eq_true rfl, Nat.le_of_ble_eq_true rfl⟩ dX7_barred_35 ?_
      have k3 : TT p l e { frames := 1, cells := 0, slots := 0, locals := 22 } s m args below meth c 3 D A true (some (.int out)) (mC cy ad sc ar la) 47 [] [.int (if r1 = 0 then (-13 : Int32) else (0 : Int32))] (mC cy ad sc ar la) := by
        obtain rfl := Option.some.inj hf
        exact tt_ireturn (pc := 47) C rfl rfl rfl dX7_barred_47
      refine tr_if_eq (pc := 38) (tgt := 45) C dX7_barred_38 (by decide) (fun c2 => ?_) (fun c2 => ?_)
      · refine tt_bipush (pc := 45) (v := (-13 : Int32)) C dX7_barred_45 (by decide) ?_
        try simp only [if_pos c2] at k3 ⊢
        exact tt_locs [] rfl k3
      · refine tt_iconst (pc := 41) (v := (0 : Int32)) C dX7_barred_41 (by decide) ?_
        refine tt_goto (pc := 42) (tgt := 47) C dX7_barred_42 (by decide) ?_
        try simp only [if_neg c2] at k3 ⊢
        exact tt_locs [] rfl k3
    · refine tt_bipush (pc := 22) (v := (-12 : Int32)) C dX7_barred_22 (by decide) ?_
      obtain rfl := Option.some.inj hf
      exact tt_ireturn (pc := 24) C rfl rfl rfl dX7_barred_24
  · refine tt_bipush (pc := 9) (v := (-11 : Int32)) C dX7_barred_9 (by decide) ?_
    obtain rfl := Option.some.inj hf
    exact tt_ireturn (pc := 11) C rfl rfl rfl dX7_barred_11
theorem dX7_put_0 : decode cX7_put 0 = .ok (.iload_n 1, 1) := by decide +kernel
theorem dX7_put_1 : decode cX7_put 1 = .ok (.invokestatic 251, 3) := by decide +kernel
theorem dX7_put_4 : decode cX7_put 4 = .ok (.ifCond .ne 9, 3) := by decide +kernel
theorem dX7_put_7 : decode cX7_put 7 = .ok (.aload_n 0, 1) := by decide +kernel
theorem dX7_put_8 : decode cX7_put 8 = .ok (.iconst (-1), 1) := by decide +kernel
theorem dX7_put_9 : decode cX7_put 9 = .ok (.invokevirtual 98, 3) := by decide +kernel
theorem dX7_put_12 : decode cX7_put 12 = .ok (.ireturn, 1) := by decide +kernel
theorem dX7_put_13 : decode cX7_put 13 = .ok (.aload_n 0, 1) := by decide +kernel
theorem dX7_put_14 : decode cX7_put 14 = .ok (.iload_n 1, 1) := by decide +kernel
theorem dX7_put_15 : decode cX7_put 15 = .ok (.iload_n 2, 1) := by decide +kernel
theorem dX7_put_16 : decode cX7_put 16 = .ok (.invokevirtual 258, 3) := by decide +kernel
theorem dX7_put_19 : decode cX7_put 19 = .ok (.ifCond .ge 10, 3) := by decide +kernel
theorem dX7_put_22 : decode cX7_put 22 = .ok (.aload_n 0, 1) := by decide +kernel
theorem dX7_put_23 : decode cX7_put 23 = .ok (.iload_n 1, 1) := by decide +kernel
theorem dX7_put_24 : decode cX7_put 24 = .ok (.iload_n 2, 1) := by decide +kernel
theorem dX7_put_25 : decode cX7_put 25 = .ok (.invokevirtual 258, 3) := by decide +kernel
theorem dX7_put_28 : decode cX7_put 28 = .ok (.ireturn, 1) := by decide +kernel
theorem dX7_put_29 : decode cX7_put 29 = .ok (.aload_n 0, 1) := by decide +kernel
theorem dX7_put_30 : decode cX7_put 30 = .ok (.getfield 86, 3) := by decide +kernel
theorem dX7_put_33 : decode cX7_put 33 = .ok (.bipush 20, 2) := by decide +kernel
theorem dX7_put_35 : decode cX7_put 35 = .ok (.iload_n 1, 1) := by decide +kernel
theorem dX7_put_36 : decode cX7_put 36 = .ok (.imul, 1) := by decide +kernel
theorem dX7_put_37 : decode cX7_put 37 = .ok (.iload_n 2, 1) := by decide +kernel
theorem dX7_put_38 : decode cX7_put 38 = .ok (.iadd, 1) := by decide +kernel
theorem dX7_put_39 : decode cX7_put 39 = .ok (.aload_n 0, 1) := by decide +kernel
theorem dX7_put_40 : decode cX7_put 40 = .ok (.getfield 80, 3) := by decide +kernel
theorem dX7_put_43 : decode cX7_put 43 = .ok (.iload_n 1, 1) := by decide +kernel
theorem dX7_put_44 : decode cX7_put 44 = .ok (.iaload, 1) := by decide +kernel
theorem dX7_put_45 : decode cX7_put 45 = .ok (.ifCond .ne 10, 3) := by decide +kernel
theorem dX7_put_48 : decode cX7_put 48 = .ok (.lload_n 3, 1) := by decide +kernel
theorem dX7_put_49 : decode cX7_put 49 = .ok (.l2i, 1) := by decide +kernel
theorem dX7_put_50 : decode cX7_put 50 = .ok (.i2b, 1) := by decide +kernel
theorem dX7_put_51 : decode cX7_put 51 = .ok (.i2l, 1) := by decide +kernel
theorem dX7_put_52 : decode cX7_put 52 = .ok (.goto 4, 3) := by decide +kernel
theorem dX7_put_55 : decode cX7_put 55 = .ok (.lload_n 3, 1) := by decide +kernel
theorem dX7_put_56 : decode cX7_put 56 = .ok (.lastore, 1) := by decide +kernel
theorem dX7_put_57 : decode cX7_put 57 = .ok (.iconst 1, 1) := by decide +kernel
theorem dX7_put_58 : decode cX7_put 58 = .ok (.ireturn, 1) := by decide +kernel
set_option maxHeartbeats 4000000 in
set_option maxRecDepth 100000 in
theorem k_X7_put {l : Launch} {D : va_G} {cy : Nat → ClassId} {Bd : Nat} {xa : Xa} {ad : Nat → Nat} {N : Nat} {sc : Nat → Int32} {ar : Nat → Nat → Int32} {la : Nat → Nat → Int64} {a1 : Int32} {a2 : Int32} {a3 : Int64} {out : Int32 × (Nat → Nat → Int32) × (Nat → Nat → Int64)} (hf : f_X7_put N ar la a1 a2 a3 = some out) : KC l yX7_put cX7_put 5 (some .int) 2 44 false D cy Bd xa [.ref (ad 0), .int a1, .int a2, .long a3] (mC cy ad sc ar la) (some (.int out.1)) (mC cy ad sc out.2.1 out.2.2) := by
  refine kc_start (own := RX7) (by decide +kernel) rfl (Nat.le_of_ble_eq_true rfl) ?_
  intro p e s m args below meth c A C
  unfold f_X7_put at hf
  refine tt_locs (L' := [(0, .ref (ad 0)), (1, .int a1), (2, .int a2), (3, .long a3)]) [0, 1, 2, 3] rfl ?_
  refine tt_iload_n (pc := 0) (k := 1) C dX7_put_0 rfl rfl ?_
  obtain ⟨r1, hr1, hf⟩ := bind_some hf
  refine tt_callS (pc := 1) (ws := (mC cy ad sc ar la)) (rest := []) (st' := [.int r1]) C (k_X7_isShelf hr1) okX7_isShelf q6_82 (fun _ h => absurd h List.not_mem_nil) rfl rfl rfl (Nat.le_of_ble_eq_true rfl) ⟨Nat.le_of_ble_eq_true rfl, Nat.le_of_ble_eq_true rfl⟩ dX7_put_1 ?_
  refine tt_if_ne (pc := 4) (tgt := 13) C dX7_put_4 (by decide) hf (fun hf => ?_) (fun hf => ?_)
  · refine tt_aload_n (pc := 13) (k := 0) C dX7_put_13 rfl rfl ?_
    refine tt_iload_n (pc := 14) (k := 1) C dX7_put_14 rfl rfl ?_
    refine tt_iload_n (pc := 15) (k := 2) C dX7_put_15 rfl rfl ?_
    obtain ⟨r2, hr2, hf⟩ := bind_some hf
    refine tt_callR (pc := 16) (ws := (mC cy ad sc ar la)) (q0 := 0) (ci := 7) (rest := []) (st' := [.int r2]) C (k_X7_barred hr2) okX7_barred q6_97 rfl mC_obj (fun _ h => h) rfl rfl rfl (Nat.le_of_ble_eq_true rfl) ⟨Nat.le_of_ble_eq_true rfl, Nat.le_of_ble_eq_true rfl⟩ dX7_put_16 ?_
    refine tt_if_ge (pc := 19) (tgt := 29) C dX7_put_19 (by decide) hf (fun hf => ?_) (fun hf => ?_)
    · refine tt_aload_n (pc := 29) (k := 0) C dX7_put_29 rfl rfl ?_
      refine tt_get (pc := 30) (ws := (mC cy ad sc ar la)) (ci := 7) (v := .ref (ad 32)) C fiX7 rfl 0 mC_obj 32 (by decide) q4_192 rfl dX7_put_30 ?_
      refine tt_bipush (pc := 33) (v := (20 : Int32)) C dX7_put_33 (by decide) ?_
      refine tt_iload_n (pc := 35) (k := 1) C dX7_put_35 rfl rfl ?_
      refine tt_imul (pc := 36) C dX7_put_36 ?_
      refine tt_iload_n (pc := 37) (k := 2) C dX7_put_37 rfl rfl ?_
      refine tt_iadd (pc := 38) C dX7_put_38 ?_
      refine tt_aload_n (pc := 39) (k := 0) C dX7_put_39 rfl rfl ?_
      refine tt_get (pc := 40) (ws := (mC cy ad sc ar la)) (ci := 7) (v := .ref (ad 30)) C fiX7 rfl 0 mC_obj 30 (by decide) q4_190 rfl dX7_put_40 ?_
      refine tt_iload_n (pc := 43) (k := 1) C dX7_put_43 rfl rfl ?_
      refine tt_iaload (pc := 44) (ws := (mC cy ad sc ar la)) (n := 4) (f := (ar 30)) C 22 0 mC_get30 rfl hf dX7_put_44 (fun hf => ?_)
      have k4 : TT p l e { frames := 2, cells := 0, slots := 0, locals := 44 } s m args below meth c 5 D A false (some (.int out.1)) (mC cy ad sc out.2.1 out.2.2) 56 [] [.long (if ((ar 30) (ix a1)) = 0 then (((a3 : Int64).toInt32 : Int32).toInt8.toInt32 : Int32).toInt64 else a3), .int (((20 : Int32) * a1) + a2), .ref (ad 32)] (mC cy ad sc ar la) := by
        refine tt_lastore (pc := 56) (ws := (mC cy ad sc ar la)) (n := 80) (f := (la 32)) (ws' := (mC cy ad sc ar (va_up la 32 (vp_updL (la 32) (ix (((20 : Int32) * a1) + a2)) (if ((ar 30) (ix a1)) = 0 then (((a3 : Int64).toInt32 : Int32).toInt8.toInt32 : Int32).toInt64 else a3))))) C rfl 24 1 mC_get32 rfl hf dX7_put_56 mC_set32 (fun hf => ?_)
        refine tt_iconst (pc := 57) (v := (1 : Int32)) C dX7_put_57 (by decide) ?_
        obtain rfl := Option.some.inj hf
        exact tt_ireturn (pc := 58) C rfl rfl rfl dX7_put_58
      refine tr_if_ne (pc := 45) (tgt := 55) C dX7_put_45 (by decide) (fun c3 => ?_) (fun c3 => ?_)
      · refine tt_lload_n (pc := 55) (k := 3) C dX7_put_55 rfl rfl ?_
        try simp only [if_neg c3] at k4 ⊢
        exact tt_locs [] rfl k4
      · refine tt_lload_n (pc := 48) (k := 3) C dX7_put_48 rfl rfl ?_
        refine tt_l2i (pc := 49) C dX7_put_49 ?_
        refine tt_i2b (pc := 50) C dX7_put_50 ?_
        refine tt_i2l (pc := 51) C dX7_put_51 ?_
        refine tt_goto (pc := 52) (tgt := 56) C dX7_put_52 (by decide) ?_
        try simp only [if_pos c3] at k4 ⊢
        exact tt_locs [] rfl k4
    · refine tt_aload_n (pc := 22) (k := 0) C dX7_put_22 rfl rfl ?_
      refine tt_iload_n (pc := 23) (k := 1) C dX7_put_23 rfl rfl ?_
      refine tt_iload_n (pc := 24) (k := 2) C dX7_put_24 rfl rfl ?_
      obtain ⟨r5, hr5, hf⟩ := bind_some hf
      refine tt_callR (pc := 25) (ws := (mC cy ad sc ar la)) (q0 := 0) (ci := 7) (rest := []) (st' := [.int r5]) C (k_X7_barred hr5) okX7_barred q6_97 rfl mC_obj (fun _ h => h) rfl rfl rfl (Nat.le_of_ble_eq_true rfl) ⟨Nat.le_of_ble_eq_true rfl, Nat.le_of_ble_eq_true rfl⟩ dX7_put_25 ?_
      obtain rfl := Option.some.inj hf
      exact tt_ireturn (pc := 28) C rfl rfl rfl dX7_put_28
  · refine tt_aload_n (pc := 7) (k := 0) C dX7_put_7 rfl rfl ?_
    refine tt_iconst (pc := 8) (v := (-1 : Int32)) C dX7_put_8 (by decide) ?_
    obtain ⟨r6, hr6, hf⟩ := bind_some hf
    refine tt_callM (pc := 9) (ws := (mC cy ad sc ar la)) (q0 := 0) (ci := 7) (rest := []) (st' := [.int r6.1]) C rfl (k_X7_no hr6) okX7_no q5_36 rfl mC_obj rfl rfl rfl (Nat.le_of_ble_eq_true rfl) ⟨Nat.le_of_ble_eq_true rfl, Nat.le_of_ble_eq_true rfl⟩ dX7_put_9 ?_
    obtain rfl := Option.some.inj hf
    exact tt_ireturn (pc := 12) C rfl rfl rfl dX7_put_12
theorem dX7_look_0 : decode cX7_look 0 = .ok (.iload_n 1, 1) := by decide +kernel
theorem dX7_look_1 : decode cX7_look 1 = .ok (.invokestatic 251, 3) := by decide +kernel
theorem dX7_look_4 : decode cX7_look 4 = .ok (.ifCond .ne 9, 3) := by decide +kernel
theorem dX7_look_7 : decode cX7_look 7 = .ok (.aload_n 0, 1) := by decide +kernel
theorem dX7_look_8 : decode cX7_look 8 = .ok (.iconst (-1), 1) := by decide +kernel
theorem dX7_look_9 : decode cX7_look 9 = .ok (.invokevirtual 214, 3) := by decide +kernel
theorem dX7_look_12 : decode cX7_look 12 = .ok (.lreturn, 1) := by decide +kernel
theorem dX7_look_13 : decode cX7_look 13 = .ok (.aload_n 0, 1) := by decide +kernel
theorem dX7_look_14 : decode cX7_look 14 = .ok (.iload_n 1, 1) := by decide +kernel
theorem dX7_look_15 : decode cX7_look 15 = .ok (.iload_n 2, 1) := by decide +kernel
theorem dX7_look_16 : decode cX7_look 16 = .ok (.invokevirtual 258, 3) := by decide +kernel
theorem dX7_look_19 : decode cX7_look 19 = .ok (.ifCond .ge 17, 3) := by decide +kernel
theorem dX7_look_22 : decode cX7_look 22 = .ok (.ldc2_w 96, 3) := by decide +kernel
theorem dX7_look_25 : decode cX7_look 25 = .ok (.aload_n 0, 1) := by decide +kernel
theorem dX7_look_26 : decode cX7_look 26 = .ok (.iload_n 1, 1) := by decide +kernel
theorem dX7_look_27 : decode cX7_look 27 = .ok (.iload_n 2, 1) := by decide +kernel
theorem dX7_look_28 : decode cX7_look 28 = .ok (.invokevirtual 258, 3) := by decide +kernel
theorem dX7_look_31 : decode cX7_look 31 = .ok (.i2l, 1) := by decide +kernel
theorem dX7_look_32 : decode cX7_look 32 = .ok (.lsub, 1) := by decide +kernel
theorem dX7_look_33 : decode cX7_look 33 = .ok (.goto 14, 3) := by decide +kernel
theorem dX7_look_36 : decode cX7_look 36 = .ok (.aload_n 0, 1) := by decide +kernel
theorem dX7_look_37 : decode cX7_look 37 = .ok (.getfield 86, 3) := by decide +kernel
theorem dX7_look_40 : decode cX7_look 40 = .ok (.bipush 20, 2) := by decide +kernel
theorem dX7_look_42 : decode cX7_look 42 = .ok (.iload_n 1, 1) := by decide +kernel
theorem dX7_look_43 : decode cX7_look 43 = .ok (.imul, 1) := by decide +kernel
theorem dX7_look_44 : decode cX7_look 44 = .ok (.iload_n 2, 1) := by decide +kernel
theorem dX7_look_45 : decode cX7_look 45 = .ok (.iadd, 1) := by decide +kernel
theorem dX7_look_46 : decode cX7_look 46 = .ok (.laload, 1) := by decide +kernel
theorem dX7_look_47 : decode cX7_look 47 = .ok (.lreturn, 1) := by decide +kernel
set_option maxHeartbeats 4000000 in
set_option maxRecDepth 100000 in
theorem k_X7_look {l : Launch} {D : va_G} {cy : Nat → ClassId} {Bd : Nat} {xa : Xa} {ad : Nat → Nat} {N : Nat} {sc : Nat → Int32} {ar : Nat → Nat → Int32} {la : Nat → Nat → Int64} {a1 : Int32} {a2 : Int32} {out : Int64 × (Nat → Nat → Int32)} (hf : f_X7_look N ar la a1 a2 = some out) : KC l yX7_look cX7_look 3 (some .long) 2 44 false D cy Bd xa [.ref (ad 0), .int a1, .int a2] (mC cy ad sc ar la) (some (.long out.1)) (mC cy ad sc out.2 la) := by
  refine kc_start (own := RX7) (by decide +kernel) rfl (Nat.le_of_ble_eq_true rfl) ?_
  intro p e s m args below meth c A C
  unfold f_X7_look at hf
  refine tt_locs (L' := [(0, .ref (ad 0)), (1, .int a1), (2, .int a2)]) [0, 1, 2] rfl ?_
  refine tt_iload_n (pc := 0) (k := 1) C dX7_look_0 rfl rfl ?_
  obtain ⟨r1, hr1, hf⟩ := bind_some hf
  refine tt_callS (pc := 1) (ws := (mC cy ad sc ar la)) (rest := []) (st' := [.int r1]) C (k_X7_isShelf hr1) okX7_isShelf q6_82 (fun _ h => absurd h List.not_mem_nil) rfl rfl rfl (Nat.le_of_ble_eq_true rfl) ⟨Nat.le_of_ble_eq_true rfl, Nat.le_of_ble_eq_true rfl⟩ dX7_look_1 ?_
  refine tt_if_ne (pc := 4) (tgt := 13) C dX7_look_4 (by decide) hf (fun hf => ?_) (fun hf => ?_)
  · refine tt_aload_n (pc := 13) (k := 0) C dX7_look_13 rfl rfl ?_
    refine tt_iload_n (pc := 14) (k := 1) C dX7_look_14 rfl rfl ?_
    refine tt_iload_n (pc := 15) (k := 2) C dX7_look_15 rfl rfl ?_
    obtain ⟨r2, hr2, hf⟩ := bind_some hf
    refine tt_callR (pc := 16) (ws := (mC cy ad sc ar la)) (q0 := 0) (ci := 7) (rest := []) (st' := [.int r2]) C (k_X7_barred hr2) okX7_barred q6_97 rfl mC_obj (fun _ h => h) rfl rfl rfl (Nat.le_of_ble_eq_true rfl) ⟨Nat.le_of_ble_eq_true rfl, Nat.le_of_ble_eq_true rfl⟩ dX7_look_16 ?_
    obtain ⟨j3, hj3, hf⟩ := bind_some hf
    have k4 : TT p l e { frames := 2, cells := 0, slots := 0, locals := 44 } s m args below meth c 3 D A false (some (.long out.1)) (mC cy ad sc out.2 la) 47 [] [.long j3] (mC cy ad sc ar la) := by
      obtain rfl := Option.some.inj hf
      exact tt_lreturn (pc := 47) C rfl rfl rfl dX7_look_47
    refine tt_if_ge (pc := 19) (tgt := 36) C dX7_look_19 (by decide) hj3 (fun hj3 => ?_) (fun hj3 => ?_)
    · refine tt_aload_n (pc := 36) (k := 0) C dX7_look_36 rfl rfl ?_
      refine tt_get (pc := 37) (ws := (mC cy ad sc ar la)) (ci := 7) (v := .ref (ad 32)) C fiX7 rfl 0 mC_obj 32 (by decide) q4_192 rfl dX7_look_37 ?_
      refine tt_bipush (pc := 40) (v := (20 : Int32)) C dX7_look_40 (by decide) ?_
      refine tt_iload_n (pc := 42) (k := 1) C dX7_look_42 rfl rfl ?_
      refine tt_imul (pc := 43) C dX7_look_43 ?_
      refine tt_iload_n (pc := 44) (k := 2) C dX7_look_44 rfl rfl ?_
      refine tt_iadd (pc := 45) C dX7_look_45 ?_
      refine tt_laload (pc := 46) (ws := (mC cy ad sc ar la)) (n := 80) (f := (la 32)) C 24 1 mC_get32 rfl hj3 dX7_look_46 (fun hj3 => ?_)
      obtain rfl := Option.some.inj hj3
      exact tt_locs [] rfl k4
    · refine tt_ldc2 (pc := 22) (v := (4000000000000000000 : Int64)) C dX7_look_22 q5_231 ?_
      refine tt_aload_n (pc := 25) (k := 0) C dX7_look_25 rfl rfl ?_
      refine tt_iload_n (pc := 26) (k := 1) C dX7_look_26 rfl rfl ?_
      refine tt_iload_n (pc := 27) (k := 2) C dX7_look_27 rfl rfl ?_
      obtain ⟨r5, hr5, hj3⟩ := bind_some hj3
      refine tt_callR (pc := 28) (ws := (mC cy ad sc ar la)) (q0 := 0) (ci := 7) (rest := [.long (4000000000000000000 : Int64)]) (st' := [.int r5, .long (4000000000000000000 : Int64)]) C (k_X7_barred hr5) okX7_barred q6_97 rfl mC_obj (fun _ h => h) rfl rfl rfl (Nat.le_of_ble_eq_true rfl) ⟨Nat.le_of_ble_eq_true rfl, Nat.le_of_ble_eq_true rfl⟩ dX7_look_28 ?_
      refine tt_i2l (pc := 31) C dX7_look_31 ?_
      refine tt_lsub (pc := 32) C dX7_look_32 ?_
      refine tt_goto (pc := 33) (tgt := 47) C dX7_look_33 (by decide) ?_
      obtain rfl := Option.some.inj hj3
      exact tt_locs [] rfl k4
  · refine tt_aload_n (pc := 7) (k := 0) C dX7_look_7 rfl rfl ?_
    refine tt_iconst (pc := 8) (v := (-1 : Int32)) C dX7_look_8 (by decide) ?_
    obtain ⟨r6, hr6, hf⟩ := bind_some hf
    refine tt_callM (pc := 9) (ws := (mC cy ad sc ar la)) (q0 := 0) (ci := 7) (rest := []) (st' := [.long r6.1]) C rfl (k_X7_far hr6) okX7_far q5_227 rfl mC_obj rfl rfl rfl (Nat.le_of_ble_eq_true rfl) ⟨Nat.le_of_ble_eq_true rfl, Nat.le_of_ble_eq_true rfl⟩ dX7_look_9 ?_
    obtain rfl := Option.some.inj hf
    exact tt_lreturn (pc := 12) C rfl rfl rfl dX7_look_12
theorem dX7_isUnder_0 : decode cX7_isUnder 0 = .ok (.iload_n 0, 1) := by decide +kernel
theorem dX7_isUnder_1 : decode cX7_isUnder 1 = .ok (.iload_n 1, 1) := by decide +kernel
theorem dX7_isUnder_2 : decode cX7_isUnder 2 = .ok (.if_icmp .eq 32, 3) := by decide +kernel
theorem dX7_isUnder_5 : decode cX7_isUnder 5 = .ok (.iload_n 1, 1) := by decide +kernel
theorem dX7_isUnder_6 : decode cX7_isUnder 6 = .ok (.ifCond .eq 28, 3) := by decide +kernel
theorem dX7_isUnder_9 : decode cX7_isUnder 9 = .ok (.iload_n 1, 1) := by decide +kernel
theorem dX7_isUnder_10 : decode cX7_isUnder 10 = .ok (.iconst 1, 1) := by decide +kernel
theorem dX7_isUnder_11 : decode cX7_isUnder 11 = .ok (.if_icmp .ne 13, 3) := by decide +kernel
theorem dX7_isUnder_14 : decode cX7_isUnder 14 = .ok (.iload_n 0, 1) := by decide +kernel
theorem dX7_isUnder_15 : decode cX7_isUnder 15 = .ok (.iconst 3, 1) := by decide +kernel
theorem dX7_isUnder_16 : decode cX7_isUnder 16 = .ok (.if_icmp .eq 18, 3) := by decide +kernel
theorem dX7_isUnder_19 : decode cX7_isUnder 19 = .ok (.iload_n 0, 1) := by decide +kernel
theorem dX7_isUnder_20 : decode cX7_isUnder 20 = .ok (.iconst 5, 1) := by decide +kernel
theorem dX7_isUnder_21 : decode cX7_isUnder 21 = .ok (.if_icmp .eq 13, 3) := by decide +kernel
theorem dX7_isUnder_24 : decode cX7_isUnder 24 = .ok (.iload_n 1, 1) := by decide +kernel
theorem dX7_isUnder_25 : decode cX7_isUnder 25 = .ok (.iconst 2, 1) := by decide +kernel
theorem dX7_isUnder_26 : decode cX7_isUnder 26 = .ok (.if_icmp .ne 12, 3) := by decide +kernel
theorem dX7_isUnder_29 : decode cX7_isUnder 29 = .ok (.iload_n 0, 1) := by decide +kernel
theorem dX7_isUnder_30 : decode cX7_isUnder 30 = .ok (.iconst 4, 1) := by decide +kernel
theorem dX7_isUnder_31 : decode cX7_isUnder 31 = .ok (.if_icmp .ne 7, 3) := by decide +kernel
theorem dX7_isUnder_34 : decode cX7_isUnder 34 = .ok (.iconst 1, 1) := by decide +kernel
theorem dX7_isUnder_35 : decode cX7_isUnder 35 = .ok (.goto 4, 3) := by decide +kernel
theorem dX7_isUnder_38 : decode cX7_isUnder 38 = .ok (.iconst 0, 1) := by decide +kernel
theorem dX7_isUnder_39 : decode cX7_isUnder 39 = .ok (.ireturn, 1) := by decide +kernel
set_option maxHeartbeats 4000000 in
set_option maxRecDepth 100000 in
theorem k_X7_isUnder {l : Launch} {D : va_G} {cy : Nat → ClassId} {Bd : Nat} {xa : Xa}  {N : Nat} {a1 : Int32} {a2 : Int32} {out : Int32} (hf : f_X7_isUnder N a1 a2 = some out) : KC l yX7_isUnder cX7_isUnder 2 (some .boolean) 0 0 true D cy Bd xa [.int a1, .int a2] [] (some (.int out)) [] := by
  refine kc_start (own := RX7) (by decide +kernel) rfl (Nat.le_of_ble_eq_true rfl) ?_
  intro p e s m args below meth c A C
  unfold f_X7_isUnder at hf
  refine tt_locs (L' := [(0, .int a1), (1, .int a2)]) [0, 1] rfl ?_
  refine tt_iload_n (pc := 0) (k := 0) C dX7_isUnder_0 rfl rfl ?_
  refine tt_iload_n (pc := 1) (k := 1) C dX7_isUnder_1 rfl rfl ?_
  have k10 : TT p l e { frames := 0, cells := 0, slots := 0, locals := 0 } s m args below meth c 2 D A true (some (.int out)) [] 39 [] [.int (if a1 = a2 then (1 : Int32) else (if a2 = 0 then (1 : Int32) else (if a2 = (1 : Int32) then (if a1 = (3 : Int32) then (1 : Int32) else (if a1 = (5 : Int32) then (1 : Int32) else (if a2 = (2 : Int32) then (if a1 = (4 : Int32) then (1 : Int32) else (0 : Int32)) else (0 : Int32)))) else (if a2 = (2 : Int32) then (if a1 = (4 : Int32) then (1 : Int32) else (0 : Int32)) else (0 : Int32)))))] [] := by
    obtain rfl := Option.some.inj hf
    exact tt_zreturn (pc := 39) C rfl (nb_if rfl (nb_if rfl (nb_if (nb_if rfl (nb_if rfl (nb_if (nb_if rfl rfl) rfl))) (nb_if (nb_if rfl rfl) rfl)))) rfl rfl dX7_isUnder_39
  refine tr_icmp_eq (pc := 2) (tgt := 34) C dX7_isUnder_2 (by decide) (fun c1 => ?_) (fun c1 => ?_)
  · refine tt_iconst (pc := 34) (v := (1 : Int32)) C dX7_isUnder_34 (by decide) ?_
    refine tt_goto (pc := 35) (tgt := 39) C dX7_isUnder_35 (by decide) ?_
    try simp only [if_pos c1] at k10 ⊢
    exact tt_locs [] rfl k10
  · refine tt_iload_n (pc := 5) (k := 1) C dX7_isUnder_5 rfl rfl ?_
    refine tr_if_eq (pc := 6) (tgt := 34) C dX7_isUnder_6 (by decide) (fun c2 => ?_) (fun c2 => ?_)
    · refine tt_iconst (pc := 34) (v := (1 : Int32)) C dX7_isUnder_34 (by decide) ?_
      refine tt_goto (pc := 35) (tgt := 39) C dX7_isUnder_35 (by decide) ?_
      try simp only [if_neg c1, if_pos c2] at k10 ⊢
      exact tt_locs [] rfl k10
    · refine tt_iload_n (pc := 9) (k := 1) C dX7_isUnder_9 rfl rfl ?_
      refine tt_iconst (pc := 10) (v := (1 : Int32)) C dX7_isUnder_10 (by decide) ?_
      refine tr_icmp_ne (pc := 11) (tgt := 24) C dX7_isUnder_11 (by decide) (fun c3 => ?_) (fun c3 => ?_)
      · refine tt_iload_n (pc := 24) (k := 1) C dX7_isUnder_24 rfl rfl ?_
        refine tt_iconst (pc := 25) (v := (2 : Int32)) C dX7_isUnder_25 (by decide) ?_
        refine tr_icmp_ne (pc := 26) (tgt := 38) C dX7_isUnder_26 (by decide) (fun c4 => ?_) (fun c4 => ?_)
        · refine tt_iconst (pc := 38) (v := (0 : Int32)) C dX7_isUnder_38 (by decide) ?_
          try simp only [if_neg c1, if_neg c2, if_neg c3, if_neg c4] at k10 ⊢
          exact tt_locs [] rfl k10
        · refine tt_iload_n (pc := 29) (k := 0) C dX7_isUnder_29 rfl rfl ?_
          refine tt_iconst (pc := 30) (v := (4 : Int32)) C dX7_isUnder_30 (by decide) ?_
          refine tr_icmp_ne (pc := 31) (tgt := 38) C dX7_isUnder_31 (by decide) (fun c5 => ?_) (fun c5 => ?_)
          · refine tt_iconst (pc := 38) (v := (0 : Int32)) C dX7_isUnder_38 (by decide) ?_
            try simp only [if_neg c1, if_neg c2, if_neg c3, if_pos c4, if_neg c5] at k10 ⊢
            exact tt_locs [] rfl k10
          · refine tt_iconst (pc := 34) (v := (1 : Int32)) C dX7_isUnder_34 (by decide) ?_
            refine tt_goto (pc := 35) (tgt := 39) C dX7_isUnder_35 (by decide) ?_
            try simp only [if_neg c1, if_neg c2, if_neg c3, if_pos c4, if_pos c5] at k10 ⊢
            exact tt_locs [] rfl k10
      · refine tt_iload_n (pc := 14) (k := 0) C dX7_isUnder_14 rfl rfl ?_
        refine tt_iconst (pc := 15) (v := (3 : Int32)) C dX7_isUnder_15 (by decide) ?_
        refine tr_icmp_eq (pc := 16) (tgt := 34) C dX7_isUnder_16 (by decide) (fun c6 => ?_) (fun c6 => ?_)
        · refine tt_iconst (pc := 34) (v := (1 : Int32)) C dX7_isUnder_34 (by decide) ?_
          refine tt_goto (pc := 35) (tgt := 39) C dX7_isUnder_35 (by decide) ?_
          try simp only [if_neg c1, if_neg c2, if_pos c3, if_pos c6] at k10 ⊢
          exact tt_locs [] rfl k10
        · refine tt_iload_n (pc := 19) (k := 0) C dX7_isUnder_19 rfl rfl ?_
          refine tt_iconst (pc := 20) (v := (5 : Int32)) C dX7_isUnder_20 (by decide) ?_
          refine tr_icmp_eq (pc := 21) (tgt := 34) C dX7_isUnder_21 (by decide) (fun c7 => ?_) (fun c7 => ?_)
          · refine tt_iconst (pc := 34) (v := (1 : Int32)) C dX7_isUnder_34 (by decide) ?_
            refine tt_goto (pc := 35) (tgt := 39) C dX7_isUnder_35 (by decide) ?_
            try simp only [if_neg c1, if_neg c2, if_pos c3, if_neg c6, if_pos c7] at k10 ⊢
            exact tt_locs [] rfl k10
          · refine tt_iload_n (pc := 24) (k := 1) C dX7_isUnder_24 rfl rfl ?_
            refine tt_iconst (pc := 25) (v := (2 : Int32)) C dX7_isUnder_25 (by decide) ?_
            refine tr_icmp_ne (pc := 26) (tgt := 38) C dX7_isUnder_26 (by decide) (fun c8 => ?_) (fun c8 => ?_)
            · refine tt_iconst (pc := 38) (v := (0 : Int32)) C dX7_isUnder_38 (by decide) ?_
              try simp only [if_neg c1, if_neg c2, if_pos c3, if_neg c6, if_neg c7, if_neg c8] at k10 ⊢
              exact tt_locs [] rfl k10
            · refine tt_iload_n (pc := 29) (k := 0) C dX7_isUnder_29 rfl rfl ?_
              refine tt_iconst (pc := 30) (v := (4 : Int32)) C dX7_isUnder_30 (by decide) ?_
              refine tr_icmp_ne (pc := 31) (tgt := 38) C dX7_isUnder_31 (by decide) (fun c9 => ?_) (fun c9 => ?_)
              · refine tt_iconst (pc := 38) (v := (0 : Int32)) C dX7_isUnder_38 (by decide) ?_
                try simp only [if_neg c1, if_neg c2, if_pos c3, if_neg c6, if_neg c7, if_pos c8, if_neg c9] at k10 ⊢
                exact tt_locs [] rfl k10
              · refine tt_iconst (pc := 34) (v := (1 : Int32)) C dX7_isUnder_34 (by decide) ?_
                refine tt_goto (pc := 35) (tgt := 39) C dX7_isUnder_35 (by decide) ?_
                try simp only [if_neg c1, if_neg c2, if_pos c3, if_neg c6, if_neg c7, if_pos c8, if_pos c9] at k10 ⊢
                exact tt_locs [] rfl k10
theorem dX7_taken_0 : decode cX7_taken 0 = .ok (.iload_n 1, 1) := by decide +kernel
theorem dX7_taken_1 : decode cX7_taken 1 = .ok (.invokestatic 251, 3) := by decide +kernel
theorem dX7_taken_4 : decode cX7_taken 4 = .ok (.ifCond .ne 9, 3) := by decide +kernel
theorem dX7_taken_7 : decode cX7_taken 7 = .ok (.aload_n 0, 1) := by decide +kernel
theorem dX7_taken_8 : decode cX7_taken 8 = .ok (.iconst (-1), 1) := by decide +kernel
theorem dX7_taken_9 : decode cX7_taken 9 = .ok (.invokevirtual 98, 3) := by decide +kernel
theorem dX7_taken_12 : decode cX7_taken 12 = .ok (.ireturn, 1) := by decide +kernel
theorem dX7_taken_13 : decode cX7_taken 13 = .ok (.iload_n 2, 1) := by decide +kernel
theorem dX7_taken_14 : decode cX7_taken 14 = .ok (.iconst 0, 1) := by decide +kernel
theorem dX7_taken_15 : decode cX7_taken 15 = .ok (.iconst 5, 1) := by decide +kernel
theorem dX7_taken_16 : decode cX7_taken 16 = .ok (.invokestatic 102, 3) := by decide +kernel
theorem dX7_taken_19 : decode cX7_taken 19 = .ok (.ifCond .ne 10, 3) := by decide +kernel
theorem dX7_taken_22 : decode cX7_taken 22 = .ok (.aload_n 0, 1) := by decide +kernel
theorem dX7_taken_23 : decode cX7_taken 23 = .ok (.bipush (-2), 2) := by decide +kernel
theorem dX7_taken_25 : decode cX7_taken 25 = .ok (.invokevirtual 98, 3) := by decide +kernel
theorem dX7_taken_28 : decode cX7_taken 28 = .ok (.ireturn, 1) := by decide +kernel
theorem dX7_taken_29 : decode cX7_taken 29 = .ok (.aload_n 0, 1) := by decide +kernel
theorem dX7_taken_30 : decode cX7_taken 30 = .ok (.getfield 80, 3) := by decide +kernel
theorem dX7_taken_33 : decode cX7_taken 33 = .ok (.iload_n 1, 1) := by decide +kernel
theorem dX7_taken_34 : decode cX7_taken 34 = .ok (.iaload, 1) := by decide +kernel
theorem dX7_taken_35 : decode cX7_taken 35 = .ok (.ifCond .ge 6, 3) := by decide +kernel
theorem dX7_taken_38 : decode cX7_taken 38 = .ok (.bipush (-11), 2) := by decide +kernel
theorem dX7_taken_40 : decode cX7_taken 40 = .ok (.ireturn, 1) := by decide +kernel
theorem dX7_taken_41 : decode cX7_taken 41 = .ok (.aload_n 0, 1) := by decide +kernel
theorem dX7_taken_42 : decode cX7_taken 42 = .ok (.getfield 86, 3) := by decide +kernel
theorem dX7_taken_45 : decode cX7_taken 45 = .ok (.bipush 20, 2) := by decide +kernel
theorem dX7_taken_47 : decode cX7_taken 47 = .ok (.iload_n 1, 1) := by decide +kernel
theorem dX7_taken_48 : decode cX7_taken 48 = .ok (.imul, 1) := by decide +kernel
theorem dX7_taken_49 : decode cX7_taken 49 = .ok (.laload, 1) := by decide +kernel
theorem dX7_taken_50 : decode cX7_taken 50 = .ok (.l2i, 1) := by decide +kernel
theorem dX7_taken_51 : decode cX7_taken 51 = .ok (.istore_n 3, 1) := by decide +kernel
theorem dX7_taken_52 : decode cX7_taken 52 = .ok (.aload_n 0, 1) := by decide +kernel
theorem dX7_taken_53 : decode cX7_taken 53 = .ok (.getfield 80, 3) := by decide +kernel
theorem dX7_taken_56 : decode cX7_taken 56 = .ok (.iload_n 1, 1) := by decide +kernel
theorem dX7_taken_57 : decode cX7_taken 57 = .ok (.iaload, 1) := by decide +kernel
theorem dX7_taken_58 : decode cX7_taken 58 = .ok (.iconst 2, 1) := by decide +kernel
theorem dX7_taken_59 : decode cX7_taken 59 = .ok (.if_icmp .ne 30, 3) := by decide +kernel
theorem dX7_taken_62 : decode cX7_taken 62 = .ok (.iload_n 3, 1) := by decide +kernel
theorem dX7_taken_63 : decode cX7_taken 63 = .ok (.iload_n 2, 1) := by decide +kernel
theorem dX7_taken_64 : decode cX7_taken 64 = .ok (.invokestatic 261, 3) := by decide +kernel
theorem dX7_taken_67 : decode cX7_taken 67 = .ok (.ifCond .eq 22, 3) := by decide +kernel
theorem dX7_taken_70 : decode cX7_taken 70 = .ok (.iload_n 3, 1) := by decide +kernel
theorem dX7_taken_71 : decode cX7_taken 71 = .ok (.aload_n 0, 1) := by decide +kernel
theorem dX7_taken_72 : decode cX7_taken 72 = .ok (.getfield 86, 3) := by decide +kernel
theorem dX7_taken_75 : decode cX7_taken 75 = .ok (.bipush 20, 2) := by decide +kernel
theorem dX7_taken_77 : decode cX7_taken 77 = .ok (.iload_n 1, 1) := by decide +kernel
theorem dX7_taken_78 : decode cX7_taken 78 = .ok (.imul, 1) := by decide +kernel
theorem dX7_taken_79 : decode cX7_taken 79 = .ok (.iconst 1, 1) := by decide +kernel
theorem dX7_taken_80 : decode cX7_taken 80 = .ok (.iadd, 1) := by decide +kernel
theorem dX7_taken_81 : decode cX7_taken 81 = .ok (.laload, 1) := by decide +kernel
theorem dX7_taken_82 : decode cX7_taken 82 = .ok (.l2i, 1) := by decide +kernel
theorem dX7_taken_83 : decode cX7_taken 83 = .ok (.invokestatic 134, 3) := by decide +kernel
theorem dX7_taken_86 : decode cX7_taken 86 = .ok (.goto 5, 3) := by decide +kernel
theorem dX7_taken_89 : decode cX7_taken 89 = .ok (.bipush (-12), 2) := by decide +kernel
theorem dX7_taken_91 : decode cX7_taken 91 = .ok (.ireturn, 1) := by decide +kernel
set_option maxHeartbeats 4000000 in
set_option maxRecDepth 100000 in
theorem k_X7_taken {l : Launch} {D : va_G} {cy : Nat → ClassId} {Bd : Nat} {xa : Xa} {ad : Nat → Nat} {N : Nat} {sc : Nat → Int32} {ar : Nat → Nat → Int32} {la : Nat → Nat → Int64} {a1 : Int32} {a2 : Int32} {out : Int32 × (Nat → Nat → Int32)} (hf : f_X7_taken N ar la a1 a2 = some out) : KC l yX7_taken cX7_taken 4 (some .int) 2 42 false D cy Bd xa [.ref (ad 0), .int a1, .int a2] (mC cy ad sc ar la) (some (.int out.1)) (mC cy ad sc out.2 la) := by
  refine kc_start (own := RX7) (by decide +kernel) rfl (Nat.le_of_ble_eq_true rfl) ?_
  intro p e s m args below meth c A C
  unfold f_X7_taken at hf
  refine tt_locs (L' := [(0, .ref (ad 0)), (1, .int a1), (2, .int a2)]) [0, 1, 2] rfl ?_
  refine tt_iload_n (pc := 0) (k := 1) C dX7_taken_0 rfl rfl ?_
  obtain ⟨r1, hr1, hf⟩ := bind_some hf
  refine tt_callS (pc := 1) (ws := (mC cy ad sc ar la)) (rest := []) (st' := [.int r1]) C (k_X7_isShelf hr1) okX7_isShelf q6_82 (fun _ h => absurd h List.not_mem_nil) rfl rfl rfl (Nat.le_of_ble_eq_true rfl) ⟨Nat.le_of_ble_eq_true rfl, Nat.le_of_ble_eq_true rfl⟩ dX7_taken_1 ?_
  refine tt_if_ne (pc := 4) (tgt := 13) C dX7_taken_4 (by decide) hf (fun hf => ?_) (fun hf => ?_)
  · refine tt_iload_n (pc := 13) (k := 2) C dX7_taken_13 rfl rfl ?_
    refine tt_iconst (pc := 14) (v := (0 : Int32)) C dX7_taken_14 (by decide) ?_
    refine tt_iconst (pc := 15) (v := (5 : Int32)) C dX7_taken_15 (by decide) ?_
    obtain ⟨r2, hr2, hf⟩ := bind_some hf
    refine tt_callS (pc := 16) (ws := (mC cy ad sc ar la)) (rest := []) (st' := [.int r2]) C (k_X7_in hr2) okX7_in q5_52 (fun _ h => absurd h List.not_mem_nil) rfl rfl rfl (Nat.le_of_ble_eq_true rfl) ⟨Nat.le_of_ble_eq_true rfl, Nat.le_of_ble_eq_true rfl⟩ dX7_taken_16 ?_
    refine tt_if_ne (pc := 19) (tgt := 29) C dX7_taken_19 (by decide) hf (fun hf => ?_) (fun hf => ?_)
    · refine tt_aload_n (pc := 29) (k := 0) C dX7_taken_29 rfl rfl ?_
      refine tt_get (pc := 30) (ws := (mC cy ad sc ar la)) (ci := 7) (v := .ref (ad 30)) C fiX7 rfl 0 mC_obj 30 (by decide) q4_190 rfl dX7_taken_30 ?_
      refine tt_iload_n (pc := 33) (k := 1) C dX7_taken_33 rfl rfl ?_
      refine tt_iaload (pc := 34) (ws := (mC cy ad sc ar la)) (n := 4) (f := (ar 30)) C 22 0 mC_get30 rfl hf dX7_taken_34 (fun hf => ?_)
      refine tt_if_ge (pc := 35) (tgt := 41) C dX7_taken_35 (by decide) hf (fun hf => ?_) (fun hf => ?_)
      · refine tt_aload_n (pc := 41) (k := 0) C dX7_taken_41 rfl rfl ?_
        refine tt_get (pc := 42) (ws := (mC cy ad sc ar la)) (ci := 7) (v := .ref (ad 32)) C fiX7 rfl 0 mC_obj 32 (by decide) q4_192 rfl dX7_taken_42 ?_
        refine tt_bipush (pc := 45) (v := (20 : Int32)) C dX7_taken_45 (by decide) ?_
        refine tt_iload_n (pc := 47) (k := 1) C dX7_taken_47 rfl rfl ?_
        refine tt_imul (pc := 48) C dX7_taken_48 ?_
        refine tt_laload (pc := 49) (ws := (mC cy ad sc ar la)) (n := 80) (f := (la 32)) C 24 1 mC_get32 rfl hf dX7_taken_49 (fun hf => ?_)
        refine tt_l2i (pc := 50) C dX7_taken_50 ?_
        refine tt_istore_n (pc := 51) (L' := [(3, .int (((la 32) (ix ((20 : Int32) * a1))) : Int64).toInt32), (0, .ref (ad 0)), (1, .int a1), (2, .int a2)]) C dX7_taken_51 rfl (by decide) rfl ?_
        refine tt_aload_n (pc := 52) (k := 1) C dX7_taken_52 rfl rfl ?_
        refine tt_get (pc := 53) (ws := (mC cy ad sc ar la)) (ci := 7) (v := .ref (ad 30)) C fiX7 rfl 0 mC_obj 30 (by decide) q4_190 rfl dX7_taken_53 ?_
        refine tt_iload_n (pc := 56) (k := 2) C dX7_taken_56 rfl rfl ?_
        refine tt_iaload (pc := 57) (ws := (mC cy ad sc ar la)) (n := 4) (f := (ar 30)) C 22 0 mC_get30 rfl hf dX7_taken_57 (fun hf => ?_)
        refine tt_iconst (pc := 58) (v := (2 : Int32)) C dX7_taken_58 (by decide) ?_
        obtain ⟨j3, hj3, hf⟩ := bind_some hf
        have k4 : TT p l e { frames := 2, cells := 0, slots := 0, locals := 42 } s m args below meth c 4 D A false (some (.int out.1)) (mC cy ad sc out.2 la) 91 [] [.int j3] (mC cy ad sc ar la) := by
          obtain rfl := Option.some.inj hf
          exact tt_ireturn (pc := 91) C rfl rfl rfl dX7_taken_91
        refine tt_icmp_ne (pc := 59) (tgt := 89) C dX7_taken_59 (by decide) hj3 (fun hj3 => ?_) (fun hj3 => ?_)
        · refine tt_bipush (pc := 89) (v := (-12 : Int32)) C dX7_taken_89 (by decide) ?_
          obtain rfl := Option.some.inj hj3
          exact tt_locs [] rfl k4
        · refine tt_iload_n (pc := 62) (k := 0) C dX7_taken_62 rfl rfl ?_
          refine tt_iload_n (pc := 63) (k := 3) C dX7_taken_63 rfl rfl ?_
          obtain ⟨r5, hr5, hj3⟩ := bind_some hj3
          refine tt_callS (pc := 64) (ws := (mC cy ad sc ar la)) (rest := []) (st' := [.int r5]) C (k_X7_isUnder hr5) okX7_isUnder q6_109 (fun _ h => absurd h List.not_mem_nil) rfl rfl rfl (Nat.le_of_ble_eq_true rfl) ⟨Nat.le_of_ble_eq_true rfl, Nat.le_of_ble_eq_true rfl⟩ dX7_taken_64 ?_
          obtain ⟨j6, hj6, hj3⟩ := bind_some hj3
          have k7 : TT p l e { frames := 2, cells := 0, slots := 0, locals := 42 } s m args below meth c 4 D A false (some (.int out.1)) (mC cy ad sc out.2 la) 91 [] [.int j6] (mC cy ad sc ar la) := by
            obtain rfl := Option.some.inj hj3
            exact tt_locs [] rfl k4
          refine tt_if_eq (pc := 67) (tgt := 89) C dX7_taken_67 (by decide) hj6 (fun hj6 => ?_) (fun hj6 => ?_)
          · refine tt_bipush (pc := 89) (v := (-12 : Int32)) C dX7_taken_89 (by decide) ?_
            obtain rfl := Option.some.inj hj6
            exact tt_locs [] rfl k7
          · refine tt_iload_n (pc := 70) (k := 0) C dX7_taken_70 rfl rfl ?_
            refine tt_aload_n (pc := 71) (k := 1) C dX7_taken_71 rfl rfl ?_
            refine tt_get (pc := 72) (ws := (mC cy ad sc ar la)) (ci := 7) (v := .ref (ad 32)) C fiX7 rfl 0 mC_obj 32 (by decide) q4_192 rfl dX7_taken_72 ?_
            refine tt_bipush (pc := 75) (v := (20 : Int32)) C dX7_taken_75 (by decide) ?_
            refine tt_iload_n (pc := 77) (k := 2) C dX7_taken_77 rfl rfl ?_
            refine tt_imul (pc := 78) C dX7_taken_78 ?_
            refine tt_iconst (pc := 79) (v := (1 : Int32)) C dX7_taken_79 (by decide) ?_
            refine tt_iadd (pc := 80) C dX7_taken_80 ?_
            refine tt_laload (pc := 81) (ws := (mC cy ad sc ar la)) (n := 80) (f := (la 32)) C 24 1 mC_get32 rfl hj6 dX7_taken_81 (fun hj6 => ?_)
            refine tt_l2i (pc := 82) C dX7_taken_82 ?_
            obtain ⟨r8, hr8, hj6⟩ := bind_some hj6
            refine tt_callS (pc := 83) (ws := (mC cy ad sc ar la)) (rest := []) (st' := [.int r8]) C (k_X7_eyeBy hr8) okX7_eyeBy q5_111 (fun _ h => absurd h List.not_mem_nil) rfl rfl rfl (Nat.le_of_ble_eq_true rfl) ⟨Nat.le_of_ble_eq_true rfl, Nat.le_of_ble_eq_true rfl⟩ dX7_taken_83 ?_
            refine tt_goto (pc := 86) (tgt := 91) C dX7_taken_86 (by decide) ?_
            obtain rfl := Option.some.inj hj6
            exact tt_locs [] rfl k7
      · refine tt_bipush (pc := 38) (v := (-11 : Int32)) C dX7_taken_38 (by decide) ?_
        obtain rfl := Option.some.inj hf
        exact tt_ireturn (pc := 40) C rfl rfl rfl dX7_taken_40
    · refine tt_aload_n (pc := 22) (k := 0) C dX7_taken_22 rfl rfl ?_
      refine tt_bipush (pc := 23) (v := (-2 : Int32)) C dX7_taken_23 (by decide) ?_
      obtain ⟨r9, hr9, hf⟩ := bind_some hf
      refine tt_callM (pc := 25) (ws := (mC cy ad sc ar la)) (q0 := 0) (ci := 7) (rest := []) (st' := [.int r9.1]) C rfl (k_X7_no hr9) okX7_no q5_36 rfl mC_obj rfl rfl rfl (Nat.le_of_ble_eq_true rfl) ⟨Nat.le_of_ble_eq_true rfl, Nat.le_of_ble_eq_true rfl⟩ dX7_taken_25 ?_
      obtain rfl := Option.some.inj hf
      exact tt_ireturn (pc := 28) C rfl rfl rfl dX7_taken_28
  · refine tt_aload_n (pc := 7) (k := 0) C dX7_taken_7 rfl rfl ?_
    refine tt_iconst (pc := 8) (v := (-1 : Int32)) C dX7_taken_8 (by decide) ?_
    obtain ⟨r10, hr10, hf⟩ := bind_some hf
    refine tt_callM (pc := 9) (ws := (mC cy ad sc ar la)) (q0 := 0) (ci := 7) (rest := []) (st' := [.int r10.1]) C rfl (k_X7_no hr10) okX7_no q5_36 rfl mC_obj rfl rfl rfl (Nat.le_of_ble_eq_true rfl) ⟨Nat.le_of_ble_eq_true rfl, Nat.le_of_ble_eq_true rfl⟩ dX7_taken_9 ?_
    obtain rfl := Option.some.inj hf
    exact tt_ireturn (pc := 12) C rfl rfl rfl dX7_taken_12
theorem dX7_areTimes_0 : decode cX7_areTimes 0 = .ok (.iconst 0, 1) := by decide +kernel
theorem dX7_areTimes_1 : decode cX7_areTimes 1 = .ok (.istore 5, 2) := by decide +kernel
theorem dX7_areTimes_3 : decode cX7_areTimes 3 = .ok (.iload 5, 2) := by decide +kernel
theorem dX7_areTimes_5 : decode cX7_areTimes 5 = .ok (.aload_n 0, 1) := by decide +kernel
theorem dX7_areTimes_6 : decode cX7_areTimes 6 = .ok (.getfield 7, 3) := by decide +kernel
theorem dX7_areTimes_9 : decode cX7_areTimes 9 = .ok (.if_icmp .ge 60, 3) := by decide +kernel
theorem dX7_areTimes_12 : decode cX7_areTimes 12 = .ok (.iload 5, 2) := by decide +kernel
theorem dX7_areTimes_14 : decode cX7_areTimes 14 = .ok (.aload_n 0, 1) := by decide +kernel
theorem dX7_areTimes_15 : decode cX7_areTimes 15 = .ok (.getfield 83, 3) := by decide +kernel
theorem dX7_areTimes_18 : decode cX7_areTimes 18 = .ok (.iload_n 1, 1) := by decide +kernel
theorem dX7_areTimes_19 : decode cX7_areTimes 19 = .ok (.iaload, 1) := by decide +kernel
theorem dX7_areTimes_20 : decode cX7_areTimes 20 = .ok (.if_icmp .ge 49, 3) := by decide +kernel
theorem dX7_areTimes_23 : decode cX7_areTimes 23 = .ok (.aload_n 0, 1) := by decide +kernel
theorem dX7_areTimes_24 : decode cX7_areTimes 24 = .ok (.iload_n 3, 1) := by decide +kernel
theorem dX7_areTimes_25 : decode cX7_areTimes 25 = .ok (.iload 4, 2) := by decide +kernel
theorem dX7_areTimes_27 : decode cX7_areTimes 27 = .ok (.aload_n 0, 1) := by decide +kernel
theorem dX7_areTimes_28 : decode cX7_areTimes 28 = .ok (.getfield 38, 3) := by decide +kernel
theorem dX7_areTimes_31 : decode cX7_areTimes 31 = .ok (.iload_n 2, 1) := by decide +kernel
theorem dX7_areTimes_32 : decode cX7_areTimes 32 = .ok (.iaload, 1) := by decide +kernel
theorem dX7_areTimes_33 : decode cX7_areTimes 33 = .ok (.aload_n 0, 1) := by decide +kernel
theorem dX7_areTimes_34 : decode cX7_areTimes 34 = .ok (.getfield 41, 3) := by decide +kernel
theorem dX7_areTimes_37 : decode cX7_areTimes 37 = .ok (.iload_n 2, 1) := by decide +kernel
theorem dX7_areTimes_38 : decode cX7_areTimes 38 = .ok (.iaload, 1) := by decide +kernel
theorem dX7_areTimes_39 : decode cX7_areTimes 39 = .ok (.iload 5, 2) := by decide +kernel
theorem dX7_areTimes_41 : decode cX7_areTimes 41 = .ok (.invokevirtual 152, 3) := by decide +kernel
theorem dX7_areTimes_44 : decode cX7_areTimes 44 = .ok (.i2l, 1) := by decide +kernel
theorem dX7_areTimes_45 : decode cX7_areTimes 45 = .ok (.aload_n 0, 1) := by decide +kernel
theorem dX7_areTimes_46 : decode cX7_areTimes 46 = .ok (.getfield 86, 3) := by decide +kernel
theorem dX7_areTimes_49 : decode cX7_areTimes 49 = .ok (.bipush 20, 2) := by decide +kernel
theorem dX7_areTimes_51 : decode cX7_areTimes 51 = .ok (.iload_n 1, 1) := by decide +kernel
theorem dX7_areTimes_52 : decode cX7_areTimes 52 = .ok (.imul, 1) := by decide +kernel
theorem dX7_areTimes_53 : decode cX7_areTimes 53 = .ok (.iload 5, 2) := by decide +kernel
theorem dX7_areTimes_55 : decode cX7_areTimes 55 = .ok (.iadd, 1) := by decide +kernel
theorem dX7_areTimes_56 : decode cX7_areTimes 56 = .ok (.laload, 1) := by decide +kernel
theorem dX7_areTimes_57 : decode cX7_areTimes 57 = .ok (.lcmp, 1) := by decide +kernel
theorem dX7_areTimes_58 : decode cX7_areTimes 58 = .ok (.ifCond .eq 5, 3) := by decide +kernel
theorem dX7_areTimes_61 : decode cX7_areTimes 61 = .ok (.iconst 0, 1) := by decide +kernel
theorem dX7_areTimes_62 : decode cX7_areTimes 62 = .ok (.ireturn, 1) := by decide +kernel
theorem dX7_areTimes_63 : decode cX7_areTimes 63 = .ok (.iinc 5 1, 3) := by decide +kernel
theorem dX7_areTimes_66 : decode cX7_areTimes 66 = .ok (.goto (-63), 3) := by decide +kernel
theorem dX7_areTimes_69 : decode cX7_areTimes 69 = .ok (.iconst 1, 1) := by decide +kernel
theorem dX7_areTimes_70 : decode cX7_areTimes 70 = .ok (.ireturn, 1) := by decide +kernel
set_option maxHeartbeats 4000000 in
set_option maxRecDepth 100000 in
theorem l_X7_areTimes_3 {p : Program} {l : Launch} {e : Env} {s : State} {m : MethodId} {args : Array Value} {below : List Frame} {meth : Method} {c : Code} {D : va_G} {cy : Nat → ClassId} {A : Nat → Prop} {Bd : Nat} {xa : Xa} {ad : Nat → Nat} {N : Nat} {sc : Nat → Int32} {ar : Nat → Nat → Int32} {la : Nat → Nat → Int64} {v1 : Int32} {v2 : Int32} {v3 : Int32} {v4 : Int32} {kx : Unit → Option (Int32)} {out : Int32} (C : CC p s m args meth c cX7_areTimes RX7 6 (some .boolean) D cy A true Bd xa) (hk : ∀ (uu : Unit), kx uu = some out → TT p l e { frames := 3, cells := 0, slots := 0, locals := 71 } s m args below meth c 6 D A true (some (.int out)) (mC cy ad sc ar la) 69 [] [] (mC cy ad sc ar la)) {n : Nat} {v5 : Int32} (hf : f_X7_areTimes_L3 N sc ar la v1 v2 v3 v4 kx n v5 = some out) : TT p l e { frames := 3, cells := 0, slots := 0, locals := 71 } s m args below meth c 6 D A true (some (.int out)) (mC cy ad sc ar la) 3 [(0, .ref (ad 0)), (1, .int v1), (2, .int v2), (3, .int v3), (4, .int v4), (5, .int v5)] [] (mC cy ad sc ar la) := by
  induction n generalizing v5 with
  | zero => cases hf
  | succ n ih =>
    rw [f_X7_areTimes_L3] at hf
    refine tt_iload (pc := 3) (k := 5) C dX7_areTimes_3 rfl ?_
    refine tt_aload_n (pc := 5) (k := 0) C dX7_areTimes_5 rfl rfl ?_
    refine tt_get (pc := 6) (ws := (mC cy ad sc ar la)) (ci := 7) (v := .int (sc 0)) C fiX7 rfl 0 mC_obj 0 (by decide) q4_160 rfl dX7_areTimes_6 ?_
    refine tt_icmp_ge (pc := 9) (tgt := 69) C dX7_areTimes_9 (by decide) hf (fun hf => ?_) (fun hf => ?_)
    · exact tt_locs [] rfl (hk () hf)
    · refine tt_iload (pc := 12) (k := 5) C dX7_areTimes_12 rfl ?_
      refine tt_aload_n (pc := 14) (k := 0) C dX7_areTimes_14 rfl rfl ?_
      refine tt_get (pc := 15) (ws := (mC cy ad sc ar la)) (ci := 7) (v := .ref (ad 31)) C fiX7 rfl 0 mC_obj 31 (by decide) q4_191 rfl dX7_areTimes_15 ?_
      refine tt_iload_n (pc := 18) (k := 1) C dX7_areTimes_18 rfl rfl ?_
      refine tt_iaload (pc := 19) (ws := (mC cy ad sc ar la)) (n := 4) (f := (ar 31)) C 23 0 mC_get31 rfl hf dX7_areTimes_19 (fun hf => ?_)
      refine tt_icmp_ge (pc := 20) (tgt := 69) C dX7_areTimes_20 (by decide) hf (fun hf => ?_) (fun hf => ?_)
      · exact tt_locs [] rfl (hk () hf)
      · refine tt_aload_n (pc := 23) (k := 0) C dX7_areTimes_23 rfl rfl ?_
        refine tt_iload_n (pc := 24) (k := 3) C dX7_areTimes_24 rfl rfl ?_
        refine tt_iload (pc := 25) (k := 4) C dX7_areTimes_25 rfl ?_
        refine tt_aload_n (pc := 27) (k := 0) C dX7_areTimes_27 rfl rfl ?_
        refine tt_get (pc := 28) (ws := (mC cy ad sc ar la)) (ci := 7) (v := .ref (ad 12)) C fiX7 rfl 0 mC_obj 12 (by decide) q4_172 rfl dX7_areTimes_28 ?_
        refine tt_iload_n (pc := 31) (k := 2) C dX7_areTimes_31 rfl rfl ?_
        refine tt_iaload (pc := 32) (ws := (mC cy ad sc ar la)) (n := 4) (f := (ar 12)) C 9 0 mC_get12 rfl hf dX7_areTimes_32 (fun hf => ?_)
        refine tt_aload_n (pc := 33) (k := 0) C dX7_areTimes_33 rfl rfl ?_
        refine tt_get (pc := 34) (ws := (mC cy ad sc ar la)) (ci := 7) (v := .ref (ad 13)) C fiX7 rfl 0 mC_obj 13 (by decide) q4_173 rfl dX7_areTimes_34 ?_
        refine tt_iload_n (pc := 37) (k := 2) C dX7_areTimes_37 rfl rfl ?_
        refine tt_iaload (pc := 38) (ws := (mC cy ad sc ar la)) (n := 4) (f := (ar 13)) C 10 0 mC_get13 rfl hf dX7_areTimes_38 (fun hf => ?_)
        refine tt_iload (pc := 39) (k := 5) C dX7_areTimes_39 rfl ?_
        obtain ⟨r1, hr1, hf⟩ := bind_some hf
        refine tt_callR (pc := 41) (ws := (mC cy ad sc ar la)) (q0 := 0) (ci := 7) (rest := []) (st' := [.int r1]) C (k_X7_timeBy hr1) okX7_timeBy q5_126 rfl mC_obj (fun _ h => h) rfl rfl rfl (Nat.le_of_ble_eq_true rfl) ⟨Nat.le_of_ble_eq_true rfl, Nat.le_of_ble_eq_true rfl⟩ dX7_areTimes_41 ?_
        refine tt_i2l (pc := 44) C dX7_areTimes_44 ?_
        refine tt_aload_n (pc := 45) (k := 0) C dX7_areTimes_45 rfl rfl ?_
        refine tt_get (pc := 46) (ws := (mC cy ad sc ar la)) (ci := 7) (v := .ref (ad 32)) C fiX7 rfl 0 mC_obj 32 (by decide) q4_192 rfl dX7_areTimes_46 ?_
        refine tt_bipush (pc := 49) (v := (20 : Int32)) C dX7_areTimes_49 (by decide) ?_
        refine tt_iload_n (pc := 51) (k := 1) C dX7_areTimes_51 rfl rfl ?_
        refine tt_imul (pc := 52) C dX7_areTimes_52 ?_
        refine tt_iload (pc := 53) (k := 5) C dX7_areTimes_53 rfl ?_
        refine tt_iadd (pc := 55) C dX7_areTimes_55 ?_
        refine tt_laload (pc := 56) (ws := (mC cy ad sc ar la)) (n := 80) (f := (la 32)) C 24 1 mC_get32 rfl hf dX7_areTimes_56 (fun hf => ?_)
        refine tt_lcmp (pc := 57) C dX7_areTimes_57 ?_
        refine tt_if_eq (pc := 58) (tgt := 63) C dX7_areTimes_58 (by decide) hf (fun hf => ?_) (fun hf => ?_)
        · refine tt_iinc (pc := 63) (k := 5) (v := (v5 + 1)) (L' := [(5, .int (v5 + 1)), (0, .ref (ad 0)), (1, .int v1), (2, .int v2), (3, .int v3), (4, .int v4)]) C dX7_areTimes_63 rfl rfl (by decide) rfl ?_
          refine tt_goto (pc := 66) (tgt := 3) C dX7_areTimes_66 (by decide) ?_
          exact tt_locs [1, 2, 3, 4, 5, 0] rfl (ih hf)
        · refine tt_iconst (pc := 61) (v := (0 : Int32)) C dX7_areTimes_61 (by decide) ?_
          obtain rfl := Option.some.inj hf
          exact tt_zreturn (pc := 62) C rfl rfl rfl rfl dX7_areTimes_62
set_option maxHeartbeats 4000000 in
set_option maxRecDepth 100000 in
theorem k_X7_areTimes {l : Launch} {D : va_G} {cy : Nat → ClassId} {Bd : Nat} {xa : Xa} {ad : Nat → Nat} {N : Nat} {sc : Nat → Int32} {ar : Nat → Nat → Int32} {la : Nat → Nat → Int64} {a1 : Int32} {a2 : Int32} {a3 : Int32} {a4 : Int32} {out : Int32} (hf : f_X7_areTimes N sc ar la a1 a2 a3 a4 = some out) : KC l yX7_areTimes cX7_areTimes 6 (some .boolean) 3 71 true D cy Bd xa [.ref (ad 0), .int a1, .int a2, .int a3, .int a4] (mC cy ad sc ar la) (some (.int out)) (mC cy ad sc ar la) := by
  refine kc_start (own := RX7) (by decide +kernel) rfl (Nat.le_of_ble_eq_true rfl) ?_
  intro p e s m args below meth c A C
  unfold f_X7_areTimes at hf
  refine tt_locs (L' := [(0, .ref (ad 0)), (1, .int a1), (2, .int a2), (3, .int a3), (4, .int a4)]) [0, 1, 2, 3, 4] rfl ?_
  refine tt_iconst (pc := 0) (v := (0 : Int32)) C dX7_areTimes_0 (by decide) ?_
  refine tt_istore (pc := 1) (L' := [(5, .int (0 : Int32)), (0, .ref (ad 0)), (1, .int a1), (2, .int a2), (3, .int a3), (4, .int a4)]) C dX7_areTimes_1 (by decide) rfl ?_
  refine tt_locs (L' := [(0, .ref (ad 0)), (1, .int a1), (2, .int a2), (3, .int a3), (4, .int a4), (5, .int (0 : Int32))]) [1, 2, 3, 4, 5, 0] rfl (l_X7_areTimes_3 C (fun _ hf => ?_) hf)
  refine tt_iconst (pc := 69) (v := (1 : Int32)) C dX7_areTimes_69 (by decide) ?_
  obtain rfl := Option.some.inj hf
  exact tt_zreturn (pc := 70) C rfl rfl rfl rfl dX7_areTimes_70
theorem dX7_whatIs_0 : decode cX7_whatIs 0 = .ok (.iload_n 1, 1) := by decide +kernel
theorem dX7_whatIs_1 : decode cX7_whatIs 1 = .ok (.invokestatic 251, 3) := by decide +kernel
theorem dX7_whatIs_4 : decode cX7_whatIs 4 = .ok (.ifCond .eq 11, 3) := by decide +kernel
theorem dX7_whatIs_7 : decode cX7_whatIs 7 = .ok (.aload_n 0, 1) := by decide +kernel
theorem dX7_whatIs_8 : decode cX7_whatIs 8 = .ok (.iload_n 2, 1) := by decide +kernel
theorem dX7_whatIs_9 : decode cX7_whatIs 9 = .ok (.invokevirtual 138, 3) := by decide +kernel
theorem dX7_whatIs_12 : decode cX7_whatIs 12 = .ok (.ifCond .ne 9, 3) := by decide +kernel
theorem dX7_whatIs_15 : decode cX7_whatIs 15 = .ok (.aload_n 0, 1) := by decide +kernel
theorem dX7_whatIs_16 : decode cX7_whatIs 16 = .ok (.iconst (-1), 1) := by decide +kernel
theorem dX7_whatIs_17 : decode cX7_whatIs 17 = .ok (.invokevirtual 98, 3) := by decide +kernel
theorem dX7_whatIs_20 : decode cX7_whatIs 20 = .ok (.ireturn, 1) := by decide +kernel
theorem dX7_whatIs_21 : decode cX7_whatIs 21 = .ok (.iload_n 3, 1) := by decide +kernel
theorem dX7_whatIs_22 : decode cX7_whatIs 22 = .ok (.iconst 0, 1) := by decide +kernel
theorem dX7_whatIs_23 : decode cX7_whatIs 23 = .ok (.iconst 1, 1) := by decide +kernel
theorem dX7_whatIs_24 : decode cX7_whatIs 24 = .ok (.invokestatic 102, 3) := by decide +kernel
theorem dX7_whatIs_27 : decode cX7_whatIs 27 = .ok (.ifCond .ne 10, 3) := by decide +kernel
theorem dX7_whatIs_30 : decode cX7_whatIs 30 = .ok (.aload_n 0, 1) := by decide +kernel
theorem dX7_whatIs_31 : decode cX7_whatIs 31 = .ok (.bipush (-2), 2) := by decide +kernel
theorem dX7_whatIs_33 : decode cX7_whatIs 33 = .ok (.invokevirtual 98, 3) := by decide +kernel
theorem dX7_whatIs_36 : decode cX7_whatIs 36 = .ok (.ireturn, 1) := by decide +kernel
theorem dX7_whatIs_37 : decode cX7_whatIs 37 = .ok (.aload_n 0, 1) := by decide +kernel
theorem dX7_whatIs_38 : decode cX7_whatIs 38 = .ok (.getfield 80, 3) := by decide +kernel
theorem dX7_whatIs_41 : decode cX7_whatIs 41 = .ok (.iload_n 1, 1) := by decide +kernel
theorem dX7_whatIs_42 : decode cX7_whatIs 42 = .ok (.iaload, 1) := by decide +kernel
theorem dX7_whatIs_43 : decode cX7_whatIs 43 = .ok (.ifCond .ge 6, 3) := by decide +kernel
theorem dX7_whatIs_46 : decode cX7_whatIs 46 = .ok (.bipush (-11), 2) := by decide +kernel
theorem dX7_whatIs_48 : decode cX7_whatIs 48 = .ok (.ireturn, 1) := by decide +kernel
theorem dX7_whatIs_49 : decode cX7_whatIs 49 = .ok (.aload_n 0, 1) := by decide +kernel
theorem dX7_whatIs_50 : decode cX7_whatIs 50 = .ok (.getfield 80, 3) := by decide +kernel
theorem dX7_whatIs_53 : decode cX7_whatIs 53 = .ok (.iload_n 1, 1) := by decide +kernel
theorem dX7_whatIs_54 : decode cX7_whatIs 54 = .ok (.iaload, 1) := by decide +kernel
theorem dX7_whatIs_55 : decode cX7_whatIs 55 = .ok (.ifCond .eq 6, 3) := by decide +kernel
theorem dX7_whatIs_58 : decode cX7_whatIs 58 = .ok (.bipush (-12), 2) := by decide +kernel
theorem dX7_whatIs_60 : decode cX7_whatIs 60 = .ok (.ireturn, 1) := by decide +kernel
theorem dX7_whatIs_61 : decode cX7_whatIs 61 = .ok (.iconst 0, 1) := by decide +kernel
theorem dX7_whatIs_62 : decode cX7_whatIs 62 = .ok (.istore 4, 2) := by decide +kernel
theorem dX7_whatIs_64 : decode cX7_whatIs 64 = .ok (.iconst 0, 1) := by decide +kernel
theorem dX7_whatIs_65 : decode cX7_whatIs 65 = .ok (.istore 5, 2) := by decide +kernel
theorem dX7_whatIs_67 : decode cX7_whatIs 67 = .ok (.iload 5, 2) := by decide +kernel
theorem dX7_whatIs_69 : decode cX7_whatIs 69 = .ok (.iload_n 3, 1) := by decide +kernel
theorem dX7_whatIs_70 : decode cX7_whatIs 70 = .ok (.ifCond .ne 8, 3) := by decide +kernel
theorem dX7_whatIs_73 : decode cX7_whatIs 73 = .ok (.bipush 6, 2) := by decide +kernel
theorem dX7_whatIs_75 : decode cX7_whatIs 75 = .ok (.goto 5, 3) := by decide +kernel
theorem dX7_whatIs_78 : decode cX7_whatIs 78 = .ok (.bipush 10, 2) := by decide +kernel
theorem dX7_whatIs_80 : decode cX7_whatIs 80 = .ok (.if_icmp .ge 61, 3) := by decide +kernel
theorem dX7_whatIs_83 : decode cX7_whatIs 83 = .ok (.iload 4, 2) := by decide +kernel
theorem dX7_whatIs_85 : decode cX7_whatIs 85 = .ok (.aload_n 0, 1) := by decide +kernel
theorem dX7_whatIs_86 : decode cX7_whatIs 86 = .ok (.iload_n 1, 1) := by decide +kernel
theorem dX7_whatIs_87 : decode cX7_whatIs 87 = .ok (.iload_n 2, 1) := by decide +kernel
theorem dX7_whatIs_88 : decode cX7_whatIs 88 = .ok (.iload_n 3, 1) := by decide +kernel
theorem dX7_whatIs_89 : decode cX7_whatIs 89 = .ok (.ifCond .ne 8, 3) := by decide +kernel
theorem dX7_whatIs_92 : decode cX7_whatIs 92 = .ok (.iload 5, 2) := by decide +kernel
theorem dX7_whatIs_94 : decode cX7_whatIs 94 = .ok (.goto 9, 3) := by decide +kernel
theorem dX7_whatIs_97 : decode cX7_whatIs 97 = .ok (.aload_n 0, 1) := by decide +kernel
theorem dX7_whatIs_98 : decode cX7_whatIs 98 = .ok (.getfield 32, 3) := by decide +kernel
theorem dX7_whatIs_101 : decode cX7_whatIs 101 = .ok (.iload_n 2, 1) := by decide +kernel
theorem dX7_whatIs_102 : decode cX7_whatIs 102 = .ok (.iaload, 1) := by decide +kernel
theorem dX7_whatIs_103 : decode cX7_whatIs 103 = .ok (.iload_n 3, 1) := by decide +kernel
theorem dX7_whatIs_104 : decode cX7_whatIs 104 = .ok (.ifCond .ne 12, 3) := by decide +kernel
theorem dX7_whatIs_107 : decode cX7_whatIs 107 = .ok (.aload_n 0, 1) := by decide +kernel
theorem dX7_whatIs_108 : decode cX7_whatIs 108 = .ok (.getfield 35, 3) := by decide +kernel
theorem dX7_whatIs_111 : decode cX7_whatIs 111 = .ok (.iload_n 2, 1) := by decide +kernel
theorem dX7_whatIs_112 : decode cX7_whatIs 112 = .ok (.iaload, 1) := by decide +kernel
theorem dX7_whatIs_113 : decode cX7_whatIs 113 = .ok (.goto 5, 3) := by decide +kernel
theorem dX7_whatIs_116 : decode cX7_whatIs 116 = .ok (.iload 5, 2) := by decide +kernel
theorem dX7_whatIs_118 : decode cX7_whatIs 118 = .ok (.invokevirtual 264, 3) := by decide +kernel
theorem dX7_whatIs_121 : decode cX7_whatIs 121 = .ok (.ifCond .eq 10, 3) := by decide +kernel
theorem dX7_whatIs_124 : decode cX7_whatIs 124 = .ok (.iconst 1, 1) := by decide +kernel
theorem dX7_whatIs_125 : decode cX7_whatIs 125 = .ok (.iload 5, 2) := by decide +kernel
theorem dX7_whatIs_127 : decode cX7_whatIs 127 = .ok (.ishl, 1) := by decide +kernel
theorem dX7_whatIs_128 : decode cX7_whatIs 128 = .ok (.goto 4, 3) := by decide +kernel
theorem dX7_whatIs_131 : decode cX7_whatIs 131 = .ok (.iconst 0, 1) := by decide +kernel
theorem dX7_whatIs_132 : decode cX7_whatIs 132 = .ok (.ior, 1) := by decide +kernel
theorem dX7_whatIs_133 : decode cX7_whatIs 133 = .ok (.istore 4, 2) := by decide +kernel
theorem dX7_whatIs_135 : decode cX7_whatIs 135 = .ok (.iinc 5 1, 3) := by decide +kernel
theorem dX7_whatIs_138 : decode cX7_whatIs 138 = .ok (.goto (-71), 3) := by decide +kernel
theorem dX7_whatIs_141 : decode cX7_whatIs 141 = .ok (.iload 4, 2) := by decide +kernel
theorem dX7_whatIs_143 : decode cX7_whatIs 143 = .ok (.ireturn, 1) := by decide +kernel
set_option maxHeartbeats 4000000 in
set_option maxRecDepth 100000 in
theorem l_X7_whatIs_67 {p : Program} {l : Launch} {e : Env} {s : State} {m : MethodId} {args : Array Value} {below : List Frame} {meth : Method} {c : Code} {D : va_G} {cy : Nat → ClassId} {A : Nat → Prop} {Bd : Nat} {xa : Xa} {ad : Nat → Nat} {β : Type} {vO : Option Value} {wO : va_W} {N : Nat} {sc : Nat → Int32} {ar : Nat → Nat → Int32} {la : Nat → Nat → Int64} {v1 : Int32} {v2 : Int32} {v3 : Int32} {kx : Int32 → Option (β)} {out : β} (C : CC p s m args meth c cX7_whatIs RX7 6 (some .int) D cy A false Bd xa) (hk : ∀ (x4 : Int32), kx x4 = some out → TT p l e { frames := 4, cells := 0, slots := 0, locals := 96 } s m args below meth c 6 D A false vO wO 141 [(4, .int x4)] [] (mC cy ad sc ar la)) {n : Nat} {v4 : Int32} {v5 : Int32} (hf : f_X7_whatIs_L67 N sc ar la v1 v2 v3 kx n v4 v5 = some out) : TT p l e { frames := 4, cells := 0, slots := 0, locals := 96 } s m args below meth c 6 D A false vO wO 67 [(0, .ref (ad 0)), (1, .int v1), (2, .int v2), (3, .int v3), (4, .int v4), (5, .int v5)] [] (mC cy ad sc ar la) := by
  induction n generalizing v4 v5 with
  | zero => cases hf
  | succ n ih =>
    rw [f_X7_whatIs_L67] at hf
    refine tt_iload (pc := 67) (k := 5) C dX7_whatIs_67 rfl ?_
    refine tt_iload_n (pc := 69) (k := 3) C dX7_whatIs_69 rfl rfl ?_
    have k6 : TT p l e { frames := 4, cells := 0, slots := 0, locals := 96 } s m args below meth c 6 D A false vO wO 80 [(0, .ref (ad 0)), (1, .int v1), (2, .int v2), (3, .int v3), (4, .int v4), (5, .int v5)] [.int (if v3 = 0 then (6 : Int32) else (10 : Int32)), .int v5] (mC cy ad sc ar la) := by
      refine tt_icmp_ge (pc := 80) (tgt := 141) C dX7_whatIs_80 (by decide) hf (fun hf => ?_) (fun hf => ?_)
      · exact tt_locs [4] rfl (hk _ hf)
      · refine tt_iload (pc := 83) (k := 4) C dX7_whatIs_83 rfl ?_
        refine tt_aload_n (pc := 85) (k := 0) C dX7_whatIs_85 rfl rfl ?_
        refine tt_iload_n (pc := 86) (k := 1) C dX7_whatIs_86 rfl rfl ?_
        refine tt_iload_n (pc := 87) (k := 2) C dX7_whatIs_87 rfl rfl ?_
        refine tt_iload_n (pc := 88) (k := 3) C dX7_whatIs_88 rfl rfl ?_
        obtain ⟨j7, hj7, hf⟩ := bind_some hf
        have k8 : TT p l e { frames := 4, cells := 0, slots := 0, locals := 96 } s m args below meth c 6 D A false vO wO 103 [(0, .ref (ad 0)), (1, .int v1), (2, .int v2), (3, .int v3), (5, .int v5)] [.int j7, .int v2, .int v1, .ref (ad 0), .int v4] (mC cy ad sc ar la) := by
          refine tt_iload_n (pc := 103) (k := 3) C dX7_whatIs_103 rfl rfl ?_
          obtain ⟨j9, hj9, hf⟩ := bind_some hf
          have k10 : TT p l e { frames := 4, cells := 0, slots := 0, locals := 96 } s m args below meth c 6 D A false vO wO 118 [(0, .ref (ad 0)), (1, .int v1), (2, .int v2), (3, .int v3), (5, .int v5)] [.int j9, .int j7, .int v2, .int v1, .ref (ad 0), .int v4] (mC cy ad sc ar la) := by
            obtain ⟨r11, hr11, hf⟩ := bind_some hf
            refine tt_callR (pc := 118) (ws := (mC cy ad sc ar la)) (q0 := 0) (ci := 7) (rest := [.int v4]) (st' := [.int r11, .int v4]) C (k_X7_areTimes hr11) okX7_areTimes q6_116 rfl mC_obj (fun _ h => h) rfl rfl rfl (Nat.le_of_ble_eq_true rfl) ⟨Nat.le_of_ble_eq_true rfl, Nat.le_of_ble_eq_true rfl⟩ dX7_whatIs_118 ?_
            have k13 : TT p l e { frames := 4, cells := 0, slots := 0, locals := 96 } s m args below meth c 6 D A false vO wO 132 [(0, .ref (ad 0)), (1, .int v1), (2, .int v2), (3, .int v3), (5, .int v5)] [.int (if r11 = 0 then (0 : Int32) else ((1 : Int32) <<< (v5 &&& 31))), .int v4] (mC cy ad sc ar la) := by
              refine tt_ior (pc := 132) C dX7_whatIs_132 ?_
              refine tt_istore (pc := 133) (L' := [(4, .int (v4 ||| (if r11 = 0 then (0 : Int32) else ((1 : Int32) <<< (v5 &&& 31))))), (0, .ref (ad 0)), (1, .int v1), (2, .int v2), (3, .int v3), (5, .int v5)]) C dX7_whatIs_133 (by decide) rfl ?_
              refine tt_iinc (pc := 135) (k := 5) (v := (v5 + 1)) (L' := [(5, .int (v5 + 1)), (4, .int (v4 ||| (if r11 = 0 then (0 : Int32) else ((1 : Int32) <<< (v5 &&& 31))))), (0, .ref (ad 0)), (1, .int v1), (2, .int v2), (3, .int v3)]) C dX7_whatIs_135 rfl rfl (by decide) rfl ?_
              refine tt_goto (pc := 138) (tgt := 67) C dX7_whatIs_138 (by decide) ?_
              exact tt_locs [2, 3, 4, 5, 1, 0] rfl (ih hf)
            refine tr_if_eq (pc := 121) (tgt := 131) C dX7_whatIs_121 (by decide) (fun c12 => ?_) (fun c12 => ?_)
            · refine tt_iconst (pc := 131) (v := (0 : Int32)) C dX7_whatIs_131 (by decide) ?_
              try simp only [if_pos c12] at k13 ⊢
              exact tt_locs [0, 1, 2, 3, 4] rfl k13
            · refine tt_iconst (pc := 124) (v := (1 : Int32)) C dX7_whatIs_124 (by decide) ?_
              refine tt_iload (pc := 125) (k := 4) C dX7_whatIs_125 rfl ?_
              refine tt_ishl (pc := 127) C dX7_whatIs_127 ?_
              refine tt_goto (pc := 128) (tgt := 132) C dX7_whatIs_128 (by decide) ?_
              try simp only [if_neg c12] at k13 ⊢
              exact tt_locs [0, 1, 2, 3, 4] rfl k13
          refine tt_if_ne (pc := 104) (tgt := 116) C dX7_whatIs_104 (by decide) hj9 (fun hj9 => ?_) (fun hj9 => ?_)
          · refine tt_iload (pc := 116) (k := 4) C dX7_whatIs_116 rfl ?_
            obtain rfl := Option.some.inj hj9
            exact tt_locs [0, 1, 2, 3, 4] rfl k10
          · refine tt_aload_n (pc := 107) (k := 0) C dX7_whatIs_107 rfl rfl ?_
            refine tt_get (pc := 108) (ws := (mC cy ad sc ar la)) (ci := 7) (v := .ref (ad 11)) C fiX7 rfl 0 mC_obj 11 (by decide) q4_171 rfl dX7_whatIs_108 ?_
            refine tt_iload_n (pc := 111) (k := 2) C dX7_whatIs_111 rfl rfl ?_
            refine tt_iaload (pc := 112) (ws := (mC cy ad sc ar la)) (n := 4) (f := (ar 11)) C 8 0 mC_get11 rfl hj9 dX7_whatIs_112 (fun hj9 => ?_)
            refine tt_goto (pc := 113) (tgt := 118) C dX7_whatIs_113 (by decide) ?_
            obtain rfl := Option.some.inj hj9
            exact tt_locs [0, 1, 2, 3, 4] rfl k10
        refine tt_if_ne (pc := 89) (tgt := 97) C dX7_whatIs_89 (by decide) hj7 (fun hj7 => ?_) (fun hj7 => ?_)
        · refine tt_aload_n (pc := 97) (k := 0) C dX7_whatIs_97 rfl rfl ?_
          refine tt_get (pc := 98) (ws := (mC cy ad sc ar la)) (ci := 7) (v := .ref (ad 10)) C fiX7 rfl 0 mC_obj 10 (by decide) q4_170 rfl dX7_whatIs_98 ?_
          refine tt_iload_n (pc := 101) (k := 2) C dX7_whatIs_101 rfl rfl ?_
          refine tt_iaload (pc := 102) (ws := (mC cy ad sc ar la)) (n := 4) (f := (ar 10)) C 7 0 mC_get10 rfl hj7 dX7_whatIs_102 (fun hj7 => ?_)
          obtain rfl := Option.some.inj hj7
          exact tt_locs [0, 1, 2, 3, 5] rfl k8
        · refine tt_iload (pc := 92) (k := 5) C dX7_whatIs_92 rfl ?_
          refine tt_goto (pc := 94) (tgt := 103) C dX7_whatIs_94 (by decide) ?_
          obtain rfl := Option.some.inj hj7
          exact tt_locs [0, 1, 2, 3, 5] rfl k8
    refine tr_if_ne (pc := 70) (tgt := 78) C dX7_whatIs_70 (by decide) (fun c5 => ?_) (fun c5 => ?_)
    · refine tt_bipush (pc := 78) (v := (10 : Int32)) C dX7_whatIs_78 (by decide) ?_
      try simp only [if_neg c5] at k6 ⊢
      exact tt_locs [0, 1, 2, 3, 4, 5] rfl k6
    · refine tt_bipush (pc := 73) (v := (6 : Int32)) C dX7_whatIs_73 (by decide) ?_
      refine tt_goto (pc := 75) (tgt := 80) C dX7_whatIs_75 (by decide) ?_
      try simp only [if_pos c5] at k6 ⊢
      exact tt_locs [0, 1, 2, 3, 4, 5] rfl k6
set_option maxHeartbeats 4000000 in
set_option maxRecDepth 100000 in
theorem k_X7_whatIs {l : Launch} {D : va_G} {cy : Nat → ClassId} {Bd : Nat} {xa : Xa} {ad : Nat → Nat} {N : Nat} {sc : Nat → Int32} {ar : Nat → Nat → Int32} {la : Nat → Nat → Int64} {a1 : Int32} {a2 : Int32} {a3 : Int32} {out : Int32 × (Nat → Nat → Int32)} (hf : f_X7_whatIs N sc ar la a1 a2 a3 = some out) : KC l yX7_whatIs cX7_whatIs 6 (some .int) 4 96 false D cy Bd xa [.ref (ad 0), .int a1, .int a2, .int a3] (mC cy ad sc ar la) (some (.int out.1)) (mC cy ad sc out.2 la) := by
  refine kc_start (own := RX7) (by decide +kernel) rfl (Nat.le_of_ble_eq_true rfl) ?_
  intro p e s m args below meth c A C
  unfold f_X7_whatIs at hf
  refine tt_locs (L' := [(0, .ref (ad 0)), (1, .int a1), (2, .int a2), (3, .int a3)]) [0, 1, 2, 3] rfl ?_
  refine tt_iload_n (pc := 0) (k := 1) C dX7_whatIs_0 rfl rfl ?_
  obtain ⟨r1, hr1, hf⟩ := bind_some hf
  refine tt_callS (pc := 1) (ws := (mC cy ad sc ar la)) (rest := []) (st' := [.int r1]) C (k_X7_isShelf hr1) okX7_isShelf q6_82 (fun _ h => absurd h List.not_mem_nil) rfl rfl rfl (Nat.le_of_ble_eq_true rfl) ⟨Nat.le_of_ble_eq_true rfl, Nat.le_of_ble_eq_true rfl⟩ dX7_whatIs_1 ?_
  refine tt_if_eq (pc := 4) (tgt := 15) C dX7_whatIs_4 (by decide) hf (fun hf => ?_) (fun hf => ?_)
  · refine tt_aload_n (pc := 15) (k := 0) C dX7_whatIs_15 rfl rfl ?_
    refine tt_iconst (pc := 16) (v := (-1 : Int32)) C dX7_whatIs_16 (by decide) ?_
    obtain ⟨r2, hr2, hf⟩ := bind_some hf
    refine tt_callM (pc := 17) (ws := (mC cy ad sc ar la)) (q0 := 0) (ci := 7) (rest := []) (st' := [.int r2.1]) C rfl (k_X7_no hr2) okX7_no q5_36 rfl mC_obj rfl rfl rfl (Nat.le_of_ble_eq_true rfl) ⟨Nat.le_of_ble_eq_true rfl, Nat.le_of_ble_eq_true rfl⟩ dX7_whatIs_17 ?_
    obtain rfl := Option.some.inj hf
    exact tt_ireturn (pc := 20) C rfl rfl rfl dX7_whatIs_20
  · refine tt_aload_n (pc := 7) (k := 0) C dX7_whatIs_7 rfl rfl ?_
    refine tt_iload_n (pc := 8) (k := 2) C dX7_whatIs_8 rfl rfl ?_
    obtain ⟨r3, hr3, hf⟩ := bind_some hf
    refine tt_callR (pc := 9) (ws := (mC cy ad sc ar la)) (q0 := 0) (ci := 7) (rest := []) (st' := [.int r3]) C (k_X7_isTrain hr3) okX7_isTrain q5_103 rfl mC_obj (fun _ h => h) rfl rfl rfl (Nat.le_of_ble_eq_true rfl) ⟨Nat.le_of_ble_eq_true rfl, Nat.le_of_ble_eq_true rfl⟩ dX7_whatIs_9 ?_
    refine tt_if_ne (pc := 12) (tgt := 21) C dX7_whatIs_12 (by decide) hf (fun hf => ?_) (fun hf => ?_)
    · refine tt_iload_n (pc := 21) (k := 3) C dX7_whatIs_21 rfl rfl ?_
      refine tt_iconst (pc := 22) (v := (0 : Int32)) C dX7_whatIs_22 (by decide) ?_
      refine tt_iconst (pc := 23) (v := (1 : Int32)) C dX7_whatIs_23 (by decide) ?_
      obtain ⟨r4, hr4, hf⟩ := bind_some hf
      refine tt_callS (pc := 24) (ws := (mC cy ad sc ar la)) (rest := []) (st' := [.int r4]) C (k_X7_in hr4) okX7_in q5_52 (fun _ h => absurd h List.not_mem_nil) rfl rfl rfl (Nat.le_of_ble_eq_true rfl) ⟨Nat.le_of_ble_eq_true rfl, Nat.le_of_ble_eq_true rfl⟩ dX7_whatIs_24 ?_
      refine tt_if_ne (pc := 27) (tgt := 37) C dX7_whatIs_27 (by decide) hf (fun hf => ?_) (fun hf => ?_)
      · refine tt_aload_n (pc := 37) (k := 0) C dX7_whatIs_37 rfl rfl ?_
        refine tt_get (pc := 38) (ws := (mC cy ad sc ar la)) (ci := 7) (v := .ref (ad 30)) C fiX7 rfl 0 mC_obj 30 (by decide) q4_190 rfl dX7_whatIs_38 ?_
        refine tt_iload_n (pc := 41) (k := 1) C dX7_whatIs_41 rfl rfl ?_
        refine tt_iaload (pc := 42) (ws := (mC cy ad sc ar la)) (n := 4) (f := (ar 30)) C 22 0 mC_get30 rfl hf dX7_whatIs_42 (fun hf => ?_)
        refine tt_if_ge (pc := 43) (tgt := 49) C dX7_whatIs_43 (by decide) hf (fun hf => ?_) (fun hf => ?_)
        · refine tt_aload_n (pc := 49) (k := 0) C dX7_whatIs_49 rfl rfl ?_
          refine tt_get (pc := 50) (ws := (mC cy ad sc ar la)) (ci := 7) (v := .ref (ad 30)) C fiX7 rfl 0 mC_obj 30 (by decide) q4_190 rfl dX7_whatIs_50 ?_
          refine tt_iload_n (pc := 53) (k := 1) C dX7_whatIs_53 rfl rfl ?_
          refine tt_iaload (pc := 54) (ws := (mC cy ad sc ar la)) (n := 4) (f := (ar 30)) C 22 0 mC_get30 rfl hf dX7_whatIs_54 (fun hf => ?_)
          refine tt_if_eq (pc := 55) (tgt := 61) C dX7_whatIs_55 (by decide) hf (fun hf => ?_) (fun hf => ?_)
          · refine tt_iconst (pc := 61) (v := (0 : Int32)) C dX7_whatIs_61 (by decide) ?_
            refine tt_istore (pc := 62) (L' := [(4, .int (0 : Int32)), (0, .ref (ad 0)), (1, .int a1), (2, .int a2), (3, .int a3)]) C dX7_whatIs_62 (by decide) rfl ?_
            refine tt_iconst (pc := 64) (v := (0 : Int32)) C dX7_whatIs_64 (by decide) ?_
            refine tt_istore (pc := 65) (L' := [(5, .int (0 : Int32)), (4, .int (0 : Int32)), (0, .ref (ad 0)), (1, .int a1), (2, .int a2), (3, .int a3)]) C dX7_whatIs_65 (by decide) rfl ?_
            refine tt_locs (L' := [(0, .ref (ad 0)), (1, .int a1), (2, .int a2), (3, .int a3), (4, .int (0 : Int32)), (5, .int (0 : Int32))]) [2, 3, 4, 5, 1, 0] rfl (l_X7_whatIs_67 C (fun x4_14 hf => ?_) hf)
            refine tt_iload (pc := 141) (k := 0) C dX7_whatIs_141 rfl ?_
            obtain rfl := Option.some.inj hf
            exact tt_ireturn (pc := 143) C rfl rfl rfl dX7_whatIs_143
          · refine tt_bipush (pc := 58) (v := (-12 : Int32)) C dX7_whatIs_58 (by decide) ?_
            obtain rfl := Option.some.inj hf
            exact tt_ireturn (pc := 60) C rfl rfl rfl dX7_whatIs_60
        · refine tt_bipush (pc := 46) (v := (-11 : Int32)) C dX7_whatIs_46 (by decide) ?_
          obtain rfl := Option.some.inj hf
          exact tt_ireturn (pc := 48) C rfl rfl rfl dX7_whatIs_48
      · refine tt_aload_n (pc := 30) (k := 0) C dX7_whatIs_30 rfl rfl ?_
        refine tt_bipush (pc := 31) (v := (-2 : Int32)) C dX7_whatIs_31 (by decide) ?_
        obtain ⟨r14, hr14, hf⟩ := bind_some hf
        refine tt_callM (pc := 33) (ws := (mC cy ad sc ar la)) (q0 := 0) (ci := 7) (rest := []) (st' := [.int r14.1]) C rfl (k_X7_no hr14) okX7_no q5_36 rfl mC_obj rfl rfl rfl (Nat.le_of_ble_eq_true rfl) ⟨Nat.le_of_ble_eq_true rfl, Nat.le_of_ble_eq_true rfl⟩ dX7_whatIs_33 ?_
        obtain rfl := Option.some.inj hf
        exact tt_ireturn (pc := 36) C rfl rfl rfl dX7_whatIs_36
    · refine tt_aload_n (pc := 15) (k := 0) C dX7_whatIs_15 rfl rfl ?_
      refine tt_iconst (pc := 16) (v := (-1 : Int32)) C dX7_whatIs_16 (by decide) ?_
      obtain ⟨r15, hr15, hf⟩ := bind_some hf
      refine tt_callM (pc := 17) (ws := (mC cy ad sc ar la)) (q0 := 0) (ci := 7) (rest := []) (st' := [.int r15.1]) C rfl (k_X7_no hr15) okX7_no q5_36 rfl mC_obj rfl rfl rfl (Nat.le_of_ble_eq_true rfl) ⟨Nat.le_of_ble_eq_true rfl, Nat.le_of_ble_eq_true rfl⟩ dX7_whatIs_17 ?_
      obtain rfl := Option.some.inj hf
      exact tt_ireturn (pc := 20) C rfl rfl rfl dX7_whatIs_20
theorem dX7_judge_0 : decode cX7_judge 0 = .ok (.iload_n 1, 1) := by decide +kernel
theorem dX7_judge_1 : decode cX7_judge 1 = .ok (.invokestatic 251, 3) := by decide +kernel
theorem dX7_judge_4 : decode cX7_judge 4 = .ok (.ifCond .eq 11, 3) := by decide +kernel
theorem dX7_judge_7 : decode cX7_judge 7 = .ok (.aload_n 0, 1) := by decide +kernel
theorem dX7_judge_8 : decode cX7_judge 8 = .ok (.iload_n 2, 1) := by decide +kernel
theorem dX7_judge_9 : decode cX7_judge 9 = .ok (.invokevirtual 138, 3) := by decide +kernel
theorem dX7_judge_12 : decode cX7_judge 12 = .ok (.ifCond .ne 9, 3) := by decide +kernel
theorem dX7_judge_15 : decode cX7_judge 15 = .ok (.aload_n 0, 1) := by decide +kernel
theorem dX7_judge_16 : decode cX7_judge 16 = .ok (.iconst (-1), 1) := by decide +kernel
theorem dX7_judge_17 : decode cX7_judge 17 = .ok (.invokevirtual 98, 3) := by decide +kernel
theorem dX7_judge_20 : decode cX7_judge 20 = .ok (.ireturn, 1) := by decide +kernel
theorem dX7_judge_21 : decode cX7_judge 21 = .ok (.aload_n 0, 1) := by decide +kernel
theorem dX7_judge_22 : decode cX7_judge 22 = .ok (.getfield 80, 3) := by decide +kernel
theorem dX7_judge_25 : decode cX7_judge 25 = .ok (.iload_n 1, 1) := by decide +kernel
theorem dX7_judge_26 : decode cX7_judge 26 = .ok (.iaload, 1) := by decide +kernel
theorem dX7_judge_27 : decode cX7_judge 27 = .ok (.ifCond .ge 6, 3) := by decide +kernel
theorem dX7_judge_30 : decode cX7_judge 30 = .ok (.bipush (-11), 2) := by decide +kernel
theorem dX7_judge_32 : decode cX7_judge 32 = .ok (.ireturn, 1) := by decide +kernel
theorem dX7_judge_33 : decode cX7_judge 33 = .ok (.aload_n 0, 1) := by decide +kernel
theorem dX7_judge_34 : decode cX7_judge 34 = .ok (.getfield 80, 3) := by decide +kernel
theorem dX7_judge_37 : decode cX7_judge 37 = .ok (.iload_n 1, 1) := by decide +kernel
theorem dX7_judge_38 : decode cX7_judge 38 = .ok (.iaload, 1) := by decide +kernel
theorem dX7_judge_39 : decode cX7_judge 39 = .ok (.iconst 1, 1) := by decide +kernel
theorem dX7_judge_40 : decode cX7_judge 40 = .ok (.if_icmp .eq 6, 3) := by decide +kernel
theorem dX7_judge_43 : decode cX7_judge 43 = .ok (.bipush (-12), 2) := by decide +kernel
theorem dX7_judge_45 : decode cX7_judge 45 = .ok (.ireturn, 1) := by decide +kernel
theorem dX7_judge_46 : decode cX7_judge 46 = .ok (.iconst 0, 1) := by decide +kernel
theorem dX7_judge_47 : decode cX7_judge 47 = .ok (.istore_n 3, 1) := by decide +kernel
theorem dX7_judge_48 : decode cX7_judge 48 = .ok (.iload_n 3, 1) := by decide +kernel
theorem dX7_judge_49 : decode cX7_judge 49 = .ok (.aload_n 0, 1) := by decide +kernel
theorem dX7_judge_50 : decode cX7_judge 50 = .ok (.getfield 83, 3) := by decide +kernel
theorem dX7_judge_53 : decode cX7_judge 53 = .ok (.iload_n 1, 1) := by decide +kernel
theorem dX7_judge_54 : decode cX7_judge 54 = .ok (.iaload, 1) := by decide +kernel
theorem dX7_judge_55 : decode cX7_judge 55 = .ok (.if_icmp .ge 41, 3) := by decide +kernel
theorem dX7_judge_58 : decode cX7_judge 58 = .ok (.iload_n 3, 1) := by decide +kernel
theorem dX7_judge_59 : decode cX7_judge 59 = .ok (.aload_n 0, 1) := by decide +kernel
theorem dX7_judge_60 : decode cX7_judge 60 = .ok (.getfield 109, 3) := by decide +kernel
theorem dX7_judge_63 : decode cX7_judge 63 = .ok (.if_icmp .ge 25, 3) := by decide +kernel
theorem dX7_judge_66 : decode cX7_judge 66 = .ok (.aload_n 0, 1) := by decide +kernel
theorem dX7_judge_67 : decode cX7_judge 67 = .ok (.iload_n 2, 1) := by decide +kernel
theorem dX7_judge_68 : decode cX7_judge 68 = .ok (.iload_n 3, 1) := by decide +kernel
theorem dX7_judge_69 : decode cX7_judge 69 = .ok (.invokevirtual 179, 3) := by decide +kernel
theorem dX7_judge_72 : decode cX7_judge 72 = .ok (.i2l, 1) := by decide +kernel
theorem dX7_judge_73 : decode cX7_judge 73 = .ok (.aload_n 0, 1) := by decide +kernel
theorem dX7_judge_74 : decode cX7_judge 74 = .ok (.getfield 86, 3) := by decide +kernel
theorem dX7_judge_77 : decode cX7_judge 77 = .ok (.bipush 20, 2) := by decide +kernel
theorem dX7_judge_79 : decode cX7_judge 79 = .ok (.iload_n 1, 1) := by decide +kernel
theorem dX7_judge_80 : decode cX7_judge 80 = .ok (.imul, 1) := by decide +kernel
theorem dX7_judge_81 : decode cX7_judge 81 = .ok (.iload_n 3, 1) := by decide +kernel
theorem dX7_judge_82 : decode cX7_judge 82 = .ok (.iadd, 1) := by decide +kernel
theorem dX7_judge_83 : decode cX7_judge 83 = .ok (.laload, 1) := by decide +kernel
theorem dX7_judge_84 : decode cX7_judge 84 = .ok (.lcmp, 1) := by decide +kernel
theorem dX7_judge_85 : decode cX7_judge 85 = .ok (.ifCond .eq 5, 3) := by decide +kernel
theorem dX7_judge_88 : decode cX7_judge 88 = .ok (.iload_n 3, 1) := by decide +kernel
theorem dX7_judge_89 : decode cX7_judge 89 = .ok (.ireturn, 1) := by decide +kernel
theorem dX7_judge_90 : decode cX7_judge 90 = .ok (.iinc 3 1, 3) := by decide +kernel
theorem dX7_judge_93 : decode cX7_judge 93 = .ok (.goto (-45), 3) := by decide +kernel
theorem dX7_judge_96 : decode cX7_judge 96 = .ok (.bipush (-9), 2) := by decide +kernel
theorem dX7_judge_98 : decode cX7_judge 98 = .ok (.ireturn, 1) := by decide +kernel
set_option maxHeartbeats 4000000 in
set_option maxRecDepth 100000 in
theorem l_X7_judge_48 {p : Program} {l : Launch} {e : Env} {s : State} {m : MethodId} {args : Array Value} {below : List Frame} {meth : Method} {c : Code} {D : va_G} {cy : Nat → ClassId} {A : Nat → Prop} {Bd : Nat} {xa : Xa} {ad : Nat → Nat} {N : Nat} {sc : Nat → Int32} {ar : Nat → Nat → Int32} {la : Nat → Nat → Int64} {v1 : Int32} {v2 : Int32} {kx : Unit → Option (Int32 × (Nat → Nat → Int32))} {out : Int32 × (Nat → Nat → Int32)} (C : CC p s m args meth c cX7_judge RX7 4 (some .int) D cy A false Bd xa) (hk : ∀ (uu : Unit), kx uu = some out → TT p l e { frames := 5, cells := 0, slots := 0, locals := 126 } s m args below meth c 4 D A false (some (.int out.1)) (mC cy ad sc out.2 la) 96 [] [] (mC cy ad sc ar la)) {n : Nat} {v3 : Int32} (hf : f_X7_judge_L48 N sc ar la v1 v2 kx n v3 = some out) : TT p l e { frames := 5, cells := 0, slots := 0, locals := 126 } s m args below meth c 4 D A false (some (.int out.1)) (mC cy ad sc out.2 la) 48 [(0, .ref (ad 0)), (1, .int v1), (2, .int v2), (3, .int v3)] [] (mC cy ad sc ar la) := by
  induction n generalizing v3 with
  | zero => cases hf
  | succ n ih =>
    rw [f_X7_judge_L48] at hf
    refine tt_iload_n (pc := 48) (k := 3) C dX7_judge_48 rfl rfl ?_
    refine tt_aload_n (pc := 49) (k := 0) C dX7_judge_49 rfl rfl ?_
    refine tt_get (pc := 50) (ws := (mC cy ad sc ar la)) (ci := 7) (v := .ref (ad 31)) C fiX7 rfl 0 mC_obj 31 (by decide) q4_191 rfl dX7_judge_50 ?_
    refine tt_iload_n (pc := 53) (k := 1) C dX7_judge_53 rfl rfl ?_
    refine tt_iaload (pc := 54) (ws := (mC cy ad sc ar la)) (n := 4) (f := (ar 31)) C 23 0 mC_get31 rfl hf dX7_judge_54 (fun hf => ?_)
    refine tt_icmp_ge (pc := 55) (tgt := 96) C dX7_judge_55 (by decide) hf (fun hf => ?_) (fun hf => ?_)
    · exact tt_locs [] rfl (hk () hf)
    · refine tt_iload_n (pc := 58) (k := 3) C dX7_judge_58 rfl rfl ?_
      refine tt_aload_n (pc := 59) (k := 0) C dX7_judge_59 rfl rfl ?_
      refine tt_get (pc := 60) (ws := (mC cy ad sc ar la)) (ci := 7) (v := .int (sc 6)) C fiX7 rfl 0 mC_obj 6 (by decide) q4_166 rfl dX7_judge_60 ?_
      refine tt_icmp_ge (pc := 63) (tgt := 88) C dX7_judge_63 (by decide) hf (fun hf => ?_) (fun hf => ?_)
      · refine tt_iload_n (pc := 88) (k := 3) C dX7_judge_88 rfl rfl ?_
        obtain rfl := Option.some.inj hf
        exact tt_ireturn (pc := 89) C rfl rfl rfl dX7_judge_89
      · refine tt_aload_n (pc := 66) (k := 0) C dX7_judge_66 rfl rfl ?_
        refine tt_iload_n (pc := 67) (k := 2) C dX7_judge_67 rfl rfl ?_
        refine tt_iload_n (pc := 68) (k := 3) C dX7_judge_68 rfl rfl ?_
        obtain ⟨r4, hr4, hf⟩ := bind_some hf
        refine tt_callR (pc := 69) (ws := (mC cy ad sc ar la)) (q0 := 0) (ci := 7) (rest := []) (st' := [.int r4]) C (k_X7_warnedOf hr4) okX7_warnedOf q5_171 rfl mC_obj (fun _ h => h) rfl rfl rfl (Nat.le_of_ble_eq_true rfl) ⟨Nat.le_of_ble_eq_true rfl, Nat.le_of_ble_eq_true rfl⟩ dX7_judge_69 ?_
        refine tt_i2l (pc := 72) C dX7_judge_72 ?_
        refine tt_aload_n (pc := 73) (k := 0) C dX7_judge_73 rfl rfl ?_
        refine tt_get (pc := 74) (ws := (mC cy ad sc ar la)) (ci := 7) (v := .ref (ad 32)) C fiX7 rfl 0 mC_obj 32 (by decide) q4_192 rfl dX7_judge_74 ?_
        refine tt_bipush (pc := 77) (v := (20 : Int32)) C dX7_judge_77 (by decide) ?_
        refine tt_iload_n (pc := 79) (k := 1) C dX7_judge_79 rfl rfl ?_
        refine tt_imul (pc := 80) C dX7_judge_80 ?_
        refine tt_iload_n (pc := 81) (k := 3) C dX7_judge_81 rfl rfl ?_
        refine tt_iadd (pc := 82) C dX7_judge_82 ?_
        refine tt_laload (pc := 83) (ws := (mC cy ad sc ar la)) (n := 80) (f := (la 32)) C 24 1 mC_get32 rfl hf dX7_judge_83 (fun hf => ?_)
        refine tt_lcmp (pc := 84) C dX7_judge_84 ?_
        refine tt_if_eq (pc := 85) (tgt := 90) C dX7_judge_85 (by decide) hf (fun hf => ?_) (fun hf => ?_)
        · refine tt_iinc (pc := 90) (k := 3) (v := (v3 + 1)) (L' := [(3, .int (v3 + 1)), (0, .ref (ad 0)), (1, .int v1), (2, .int v2)]) C dX7_judge_90 rfl rfl (by decide) rfl ?_
          refine tt_goto (pc := 93) (tgt := 48) C dX7_judge_93 (by decide) ?_
          exact tt_locs [1, 2, 3, 0] rfl (ih hf)
        · refine tt_iload_n (pc := 88) (k := 3) C dX7_judge_88 rfl rfl ?_
          obtain rfl := Option.some.inj hf
          exact tt_ireturn (pc := 89) C rfl rfl rfl dX7_judge_89
set_option maxHeartbeats 4000000 in
set_option maxRecDepth 100000 in
theorem k_X7_judge {l : Launch} {D : va_G} {cy : Nat → ClassId} {Bd : Nat} {xa : Xa} {ad : Nat → Nat} {N : Nat} {sc : Nat → Int32} {ar : Nat → Nat → Int32} {la : Nat → Nat → Int64} {a1 : Int32} {a2 : Int32} {out : Int32 × (Nat → Nat → Int32)} (hf : f_X7_judge N sc ar la a1 a2 = some out) : KC l yX7_judge cX7_judge 4 (some .int) 5 126 false D cy Bd xa [.ref (ad 0), .int a1, .int a2] (mC cy ad sc ar la) (some (.int out.1)) (mC cy ad sc out.2 la) := by
  refine kc_start (own := RX7) (by decide +kernel) rfl (Nat.le_of_ble_eq_true rfl) ?_
  intro p e s m args below meth c A C
  unfold f_X7_judge at hf
  refine tt_locs (L' := [(0, .ref (ad 0)), (1, .int a1), (2, .int a2)]) [0, 1, 2] rfl ?_
  refine tt_iload_n (pc := 0) (k := 1) C dX7_judge_0 rfl rfl ?_
  obtain ⟨r1, hr1, hf⟩ := bind_some hf
  refine tt_callS (pc := 1) (ws := (mC cy ad sc ar la)) (rest := []) (st' := [.int r1]) C (k_X7_isShelf hr1) okX7_isShelf q6_82 (fun _ h => absurd h List.not_mem_nil) rfl rfl rfl (Nat.le_of_ble_eq_true rfl) ⟨Nat.le_of_ble_eq_true rfl, Nat.le_of_ble_eq_true rfl⟩ dX7_judge_1 ?_
  refine tt_if_eq (pc := 4) (tgt := 15) C dX7_judge_4 (by decide) hf (fun hf => ?_) (fun hf => ?_)
  · refine tt_aload_n (pc := 15) (k := 0) C dX7_judge_15 rfl rfl ?_
    refine tt_iconst (pc := 16) (v := (-1 : Int32)) C dX7_judge_16 (by decide) ?_
    obtain ⟨r2, hr2, hf⟩ := bind_some hf
    refine tt_callM (pc := 17) (ws := (mC cy ad sc ar la)) (q0 := 0) (ci := 7) (rest := []) (st' := [.int r2.1]) C rfl (k_X7_no hr2) okX7_no q5_36 rfl mC_obj rfl rfl rfl (Nat.le_of_ble_eq_true rfl) ⟨Nat.le_of_ble_eq_true rfl, Nat.le_of_ble_eq_true rfl⟩ dX7_judge_17 ?_
    obtain rfl := Option.some.inj hf
    exact tt_ireturn (pc := 20) C rfl rfl rfl dX7_judge_20
  · refine tt_aload_n (pc := 7) (k := 0) C dX7_judge_7 rfl rfl ?_
    refine tt_iload_n (pc := 8) (k := 2) C dX7_judge_8 rfl rfl ?_
    obtain ⟨r3, hr3, hf⟩ := bind_some hf
    refine tt_callR (pc := 9) (ws := (mC cy ad sc ar la)) (q0 := 0) (ci := 7) (rest := []) (st' := [.int r3]) C (k_X7_isTrain hr3) okX7_isTrain q5_103 rfl mC_obj (fun _ h => h) rfl rfl rfl (Nat.le_of_ble_eq_true rfl) ⟨Nat.le_of_ble_eq_true rfl, Nat.le_of_ble_eq_true rfl⟩ dX7_judge_9 ?_
    refine tt_if_ne (pc := 12) (tgt := 21) C dX7_judge_12 (by decide) hf (fun hf => ?_) (fun hf => ?_)
    · refine tt_aload_n (pc := 21) (k := 0) C dX7_judge_21 rfl rfl ?_
      refine tt_get (pc := 22) (ws := (mC cy ad sc ar la)) (ci := 7) (v := .ref (ad 30)) C fiX7 rfl 0 mC_obj 30 (by decide) q4_190 rfl dX7_judge_22 ?_
      refine tt_iload_n (pc := 25) (k := 1) C dX7_judge_25 rfl rfl ?_
      refine tt_iaload (pc := 26) (ws := (mC cy ad sc ar la)) (n := 4) (f := (ar 30)) C 22 0 mC_get30 rfl hf dX7_judge_26 (fun hf => ?_)
      refine tt_if_ge (pc := 27) (tgt := 33) C dX7_judge_27 (by decide) hf (fun hf => ?_) (fun hf => ?_)
      · refine tt_aload_n (pc := 33) (k := 0) C dX7_judge_33 rfl rfl ?_
        refine tt_get (pc := 34) (ws := (mC cy ad sc ar la)) (ci := 7) (v := .ref (ad 30)) C fiX7 rfl 0 mC_obj 30 (by decide) q4_190 rfl dX7_judge_34 ?_
        refine tt_iload_n (pc := 37) (k := 1) C dX7_judge_37 rfl rfl ?_
        refine tt_iaload (pc := 38) (ws := (mC cy ad sc ar la)) (n := 4) (f := (ar 30)) C 22 0 mC_get30 rfl hf dX7_judge_38 (fun hf => ?_)
        refine tt_iconst (pc := 39) (v := (1 : Int32)) C dX7_judge_39 (by decide) ?_
        refine tt_icmp_eq (pc := 40) (tgt := 46) C dX7_judge_40 (by decide) hf (fun hf => ?_) (fun hf => ?_)
        · refine tt_iconst (pc := 46) (v := (0 : Int32)) C dX7_judge_46 (by decide) ?_
          refine tt_istore_n (pc := 47) (L' := [(3, .int (0 : Int32)), (0, .ref (ad 0)), (1, .int a1), (2, .int a2)]) C dX7_judge_47 rfl (by decide) rfl ?_
          refine tt_locs (L' := [(0, .ref (ad 0)), (1, .int a1), (2, .int a2), (3, .int (0 : Int32))]) [1, 2, 3, 0] rfl (l_X7_judge_48 C (fun _ hf => ?_) hf)
          refine tt_bipush (pc := 96) (v := (-9 : Int32)) C dX7_judge_96 (by decide) ?_
          obtain rfl := Option.some.inj hf
          exact tt_ireturn (pc := 98) C rfl rfl rfl dX7_judge_98
        · refine tt_bipush (pc := 43) (v := (-12 : Int32)) C dX7_judge_43 (by decide) ?_
          obtain rfl := Option.some.inj hf
          exact tt_ireturn (pc := 45) C rfl rfl rfl dX7_judge_45
      · refine tt_bipush (pc := 30) (v := (-11 : Int32)) C dX7_judge_30 (by decide) ?_
        obtain rfl := Option.some.inj hf
        exact tt_ireturn (pc := 32) C rfl rfl rfl dX7_judge_32
    · refine tt_aload_n (pc := 15) (k := 0) C dX7_judge_15 rfl rfl ?_
      refine tt_iconst (pc := 16) (v := (-1 : Int32)) C dX7_judge_16 (by decide) ?_
      obtain ⟨r5, hr5, hf⟩ := bind_some hf
      refine tt_callM (pc := 17) (ws := (mC cy ad sc ar la)) (q0 := 0) (ci := 7) (rest := []) (st' := [.int r5.1]) C rfl (k_X7_no hr5) okX7_no q5_36 rfl mC_obj rfl rfl rfl (Nat.le_of_ble_eq_true rfl) ⟨Nat.le_of_ble_eq_true rfl, Nat.le_of_ble_eq_true rfl⟩ dX7_judge_17 ?_
      obtain rfl := Option.some.inj hf
      exact tt_ireturn (pc := 20) C rfl rfl rfl dX7_judge_20
theorem dX7_letter_0 : decode cX7_letter 0 = .ok (.iload_n 1, 1) := by decide +kernel
theorem dX7_letter_1 : decode cX7_letter 1 = .ok (.ifCond .ge 10, 3) := by decide +kernel
theorem dX7_letter_4 : decode cX7_letter 4 = .ok (.aload_n 0, 1) := by decide +kernel
theorem dX7_letter_5 : decode cX7_letter 5 = .ok (.bipush (-4), 2) := by decide +kernel
theorem dX7_letter_7 : decode cX7_letter 7 = .ok (.invokevirtual 98, 3) := by decide +kernel
theorem dX7_letter_10 : decode cX7_letter 10 = .ok (.ireturn, 1) := by decide +kernel
theorem dX7_letter_11 : decode cX7_letter 11 = .ok (.iload_n 1, 1) := by decide +kernel
theorem dX7_letter_12 : decode cX7_letter 12 = .ok (.sipush 255, 3) := by decide +kernel
theorem dX7_letter_15 : decode cX7_letter 15 = .ok (.if_icmp .gt 12, 3) := by decide +kernel
theorem dX7_letter_18 : decode cX7_letter 18 = .ok (.aload_n 0, 1) := by decide +kernel
theorem dX7_letter_19 : decode cX7_letter 19 = .ok (.getfield 267, 3) := by decide +kernel
theorem dX7_letter_22 : decode cX7_letter 22 = .ok (.bipush 120, 2) := by decide +kernel
theorem dX7_letter_24 : decode cX7_letter 24 = .ok (.if_icmp .ne 10, 3) := by decide +kernel
theorem dX7_letter_27 : decode cX7_letter 27 = .ok (.aload_n 0, 1) := by decide +kernel
theorem dX7_letter_28 : decode cX7_letter 28 = .ok (.bipush (-6), 2) := by decide +kernel
theorem dX7_letter_30 : decode cX7_letter 30 = .ok (.invokevirtual 98, 3) := by decide +kernel
theorem dX7_letter_33 : decode cX7_letter 33 = .ok (.ireturn, 1) := by decide +kernel
theorem dX7_letter_34 : decode cX7_letter 34 = .ok (.aload_n 0, 1) := by decide +kernel
theorem dX7_letter_35 : decode cX7_letter 35 = .ok (.getfield 56, 3) := by decide +kernel
theorem dX7_letter_38 : decode cX7_letter 38 = .ok (.aload_n 0, 1) := by decide +kernel
theorem dX7_letter_39 : decode cX7_letter 39 = .ok (.getfield 267, 3) := by decide +kernel
theorem dX7_letter_42 : decode cX7_letter 42 = .ok (.iload_n 1, 1) := by decide +kernel
theorem dX7_letter_43 : decode cX7_letter 43 = .ok (.iastore, 1) := by decide +kernel
theorem dX7_letter_44 : decode cX7_letter 44 = .ok (.aload_n 0, 1) := by decide +kernel
theorem dX7_letter_45 : decode cX7_letter 45 = .ok (.dup, 1) := by decide +kernel
theorem dX7_letter_46 : decode cX7_letter 46 = .ok (.getfield 267, 3) := by decide +kernel
theorem dX7_letter_49 : decode cX7_letter 49 = .ok (.iconst 1, 1) := by decide +kernel
theorem dX7_letter_50 : decode cX7_letter 50 = .ok (.iadd, 1) := by decide +kernel
theorem dX7_letter_51 : decode cX7_letter 51 = .ok (.putfield 267, 3) := by decide +kernel
theorem dX7_letter_54 : decode cX7_letter 54 = .ok (.aload_n 0, 1) := by decide +kernel
theorem dX7_letter_55 : decode cX7_letter 55 = .ok (.getfield 267, 3) := by decide +kernel
theorem dX7_letter_58 : decode cX7_letter 58 = .ok (.ireturn, 1) := by decide +kernel
set_option maxHeartbeats 4000000 in
set_option maxRecDepth 100000 in
theorem k_X7_letter {l : Launch} {D : va_G} {cy : Nat → ClassId} {Bd : Nat} {xa : Xa} {ad : Nat → Nat} {N : Nat} {sc : Nat → Int32} {ar : Nat → Nat → Int32} {la : Nat → Nat → Int64} {a1 : Int32} {out : Int32 × (Nat → Int32) × (Nat → Nat → Int32)} (hf : f_X7_letter N sc ar a1 = some out) : KC l yX7_letter cX7_letter 2 (some .int) 1 21 false D cy Bd xa [.ref (ad 0), .int a1] (mC cy ad sc ar la) (some (.int out.1)) (mC cy ad out.2.1 out.2.2 la) := by
  refine kc_start (own := RX7) (by decide +kernel) rfl (Nat.le_of_ble_eq_true rfl) ?_
  intro p e s m args below meth c A C
  unfold f_X7_letter at hf
  refine tt_locs (L' := [(0, .ref (ad 0)), (1, .int a1)]) [0, 1] rfl ?_
  refine tt_iload_n (pc := 0) (k := 1) C dX7_letter_0 rfl rfl ?_
  refine tt_if_ge (pc := 1) (tgt := 11) C dX7_letter_1 (by decide) hf (fun hf => ?_) (fun hf => ?_)
  · refine tt_iload_n (pc := 11) (k := 1) C dX7_letter_11 rfl rfl ?_
    refine tt_sipush (pc := 12) (v := (255 : Int32)) C dX7_letter_12 (by decide) ?_
    refine tt_icmp_gt (pc := 15) (tgt := 27) C dX7_letter_15 (by decide) hf (fun hf => ?_) (fun hf => ?_)
    · refine tt_aload_n (pc := 27) (k := 0) C dX7_letter_27 rfl rfl ?_
      refine tt_bipush (pc := 28) (v := (-6 : Int32)) C dX7_letter_28 (by decide) ?_
      obtain ⟨r1, hr1, hf⟩ := bind_some hf
      refine tt_callM (pc := 30) (ws := (mC cy ad sc ar la)) (q0 := 0) (ci := 7) (rest := []) (st' := [.int r1.1]) C rfl (k_X7_no hr1) okX7_no q5_36 rfl mC_obj rfl rfl rfl (Nat.le_of_ble_eq_true rfl) ⟨Nat.le_of_ble_eq_true rfl, Nat.le_of_ble_eq_true rfl⟩ dX7_letter_30 ?_
      obtain rfl := Option.some.inj hf
      exact tt_ireturn (pc := 33) C rfl rfl rfl dX7_letter_33
    · refine tt_aload_n (pc := 18) (k := 0) C dX7_letter_18 rfl rfl ?_
      refine tt_get (pc := 19) (ws := (mC cy ad sc ar la)) (ci := 7) (v := .int (sc 20)) C fiX7 rfl 0 mC_obj 20 (by decide) q4_180 rfl dX7_letter_19 ?_
      refine tt_bipush (pc := 22) (v := (120 : Int32)) C dX7_letter_22 (by decide) ?_
      refine tt_icmp_ne (pc := 24) (tgt := 34) C dX7_letter_24 (by decide) hf (fun hf => ?_) (fun hf => ?_)
      · refine tt_aload_n (pc := 34) (k := 0) C dX7_letter_34 rfl rfl ?_
        refine tt_get (pc := 35) (ws := (mC cy ad sc ar la)) (ci := 7) (v := .ref (ad 19)) C fiX7 rfl 0 mC_obj 19 (by decide) q4_179 rfl dX7_letter_35 ?_
        refine tt_aload_n (pc := 38) (k := 0) C dX7_letter_38 rfl rfl ?_
        refine tt_get (pc := 39) (ws := (mC cy ad sc ar la)) (ci := 7) (v := .int (sc 20)) C fiX7 rfl 0 mC_obj 20 (by decide) q4_180 rfl dX7_letter_39 ?_
        refine tt_iload_n (pc := 42) (k := 1) C dX7_letter_42 rfl rfl ?_
        refine tt_iastore (pc := 43) (ws := (mC cy ad sc ar la)) (n := 120) (f := (ar 19)) (ws' := (mC cy ad sc (va_up ar 19 (upd (ar 19) (ix (sc 20)) a1)) la)) C rfl 14 0 mC_get19 rfl hf dX7_letter_43 mC_set19 (fun hf => ?_)
        refine tt_aload_n (pc := 44) (k := 0) C dX7_letter_44 rfl rfl ?_
        refine tt_dup (pc := 45) C dX7_letter_45 rfl ?_
        refine tt_get (pc := 46) (ws := (mC cy ad sc (va_up ar 19 (upd (ar 19) (ix (sc 20)) a1)) la)) (ci := 7) (v := .int (sc 20)) C fiX7 rfl 0 mC_obj 20 (by decide) q4_180 rfl dX7_letter_46 ?_
        refine tt_iconst (pc := 49) (v := (1 : Int32)) C dX7_letter_49 (by decide) ?_
        refine tt_iadd (pc := 50) C dX7_letter_50 ?_
        refine tt_put (pc := 51) (ws := (mC cy ad sc (va_up ar 19 (upd (ar 19) (ix (sc 20)) a1)) la)) (ci := 7) (ty := .int) (ws' := (mC cy ad (upd sc 20 ((sc 20) + (1 : Int32))) (va_up ar 19 (upd (ar 19) (ix (sc 20)) a1)) la)) C rfl fiX7 rfl 0 mC_obj 20 (by decide) q4_180 rfl rfl rfl rfl (Nat.le_of_ble_eq_true rfl) dX7_letter_51 mC_put20 ?_
        refine tt_aload_n (pc := 54) (k := 0) C dX7_letter_54 rfl rfl ?_
        refine tt_get (pc := 55) (ws := (mC cy ad (upd sc 20 ((sc 20) + (1 : Int32))) (va_up ar 19 (upd (ar 19) (ix (sc 20)) a1)) la)) (ci := 7) (v := .int ((sc 20) + (1 : Int32))) C fiX7 rfl 0 mC_obj 20 (by decide) q4_180 rfl dX7_letter_55 ?_
        obtain rfl := Option.some.inj hf
        exact tt_ireturn (pc := 58) C rfl rfl rfl dX7_letter_58
      · refine tt_aload_n (pc := 27) (k := 0) C dX7_letter_27 rfl rfl ?_
        refine tt_bipush (pc := 28) (v := (-6 : Int32)) C dX7_letter_28 (by decide) ?_
        obtain ⟨r2, hr2, hf⟩ := bind_some hf
        refine tt_callM (pc := 30) (ws := (mC cy ad sc ar la)) (q0 := 0) (ci := 7) (rest := []) (st' := [.int r2.1]) C rfl (k_X7_no hr2) okX7_no q5_36 rfl mC_obj rfl rfl rfl (Nat.le_of_ble_eq_true rfl) ⟨Nat.le_of_ble_eq_true rfl, Nat.le_of_ble_eq_true rfl⟩ dX7_letter_30 ?_
        obtain rfl := Option.some.inj hf
        exact tt_ireturn (pc := 33) C rfl rfl rfl dX7_letter_33
  · refine tt_aload_n (pc := 4) (k := 0) C dX7_letter_4 rfl rfl ?_
    refine tt_bipush (pc := 5) (v := (-4 : Int32)) C dX7_letter_5 (by decide) ?_
    obtain ⟨r3, hr3, hf⟩ := bind_some hf
    refine tt_callM (pc := 7) (ws := (mC cy ad sc ar la)) (q0 := 0) (ci := 7) (rest := []) (st' := [.int r3.1]) C rfl (k_X7_no hr3) okX7_no q5_36 rfl mC_obj rfl rfl rfl (Nat.le_of_ble_eq_true rfl) ⟨Nat.le_of_ble_eq_true rfl, Nat.le_of_ble_eq_true rfl⟩ dX7_letter_7 ?_
    obtain rfl := Option.some.inj hf
    exact tt_ireturn (pc := 10) C rfl rfl rfl dX7_letter_10
theorem dX7_word_0 : decode cX7_word 0 = .ok (.iload_n 0, 1) := by decide +kernel
theorem dX7_word_1 : decode cX7_word 1 = .ok (.tableswitch 63 0 5 #[39, 43, 47, 51, 55, 59], 39) := by decide +kernel
theorem dX7_word_40 : decode cX7_word 40 = .ok (.ldc_w 270, 3) := by decide +kernel
theorem dX7_word_43 : decode cX7_word 43 = .ok (.areturn, 1) := by decide +kernel
theorem dX7_word_44 : decode cX7_word 44 = .ok (.ldc_w 271, 3) := by decide +kernel
theorem dX7_word_47 : decode cX7_word 47 = .ok (.areturn, 1) := by decide +kernel
theorem dX7_word_48 : decode cX7_word 48 = .ok (.ldc_w 273, 3) := by decide +kernel
theorem dX7_word_51 : decode cX7_word 51 = .ok (.areturn, 1) := by decide +kernel
theorem dX7_word_52 : decode cX7_word 52 = .ok (.ldc_w 275, 3) := by decide +kernel
theorem dX7_word_55 : decode cX7_word 55 = .ok (.areturn, 1) := by decide +kernel
theorem dX7_word_56 : decode cX7_word 56 = .ok (.ldc_w 277, 3) := by decide +kernel
theorem dX7_word_59 : decode cX7_word 59 = .ok (.areturn, 1) := by decide +kernel
theorem dX7_word_60 : decode cX7_word 60 = .ok (.ldc_w 278, 3) := by decide +kernel
theorem dX7_word_63 : decode cX7_word 63 = .ok (.areturn, 1) := by decide +kernel
theorem dX7_word_64 : decode cX7_word 64 = .ok (.ldc_w 279, 3) := by decide +kernel
theorem dX7_word_67 : decode cX7_word 67 = .ok (.areturn, 1) := by decide +kernel
set_option maxHeartbeats 4000000 in
set_option maxRecDepth 100000 in
theorem k_X7_word {l : Launch} {D : va_G} {cy : Nat → ClassId} {Bd : Nat} {xa : Xa}  {N : Nat} {a1 : Int32} {out : Nat} (hf : f_X7_word N a1 = some out) : KC l yX7_word cX7_word 1 (some (.object "java/lang/String")) 0 0 true D cy Bd xa [.int a1] [] (some (.ref (xa.2.2.1 out))) [] := by
  refine kc_start (own := RX7) (by decide +kernel) rfl (Nat.le_of_ble_eq_true rfl) ?_
  intro p e s m args below meth c A C
  unfold f_X7_word at hf
  refine tt_locs (L' := [(0, .int a1)]) [0] rfl ?_
  refine tt_iload_n (pc := 0) (k := 0) C dX7_word_0 rfl rfl ?_
  refine sw_eq (x := a1) (k := 0) hf (fun hx hf => ?_) (fun n0 hf => ?_)
  · rw [hx]
    refine tt_tabIn (pc := 1) (tgt := 40) (x := 0) C dX7_word_1 (by decide) (by decide) rfl (by decide) ?_
    refine tt_ldcM (pc := 40) (j := 0) C rfl (by decide) rfl dX7_word_40 ?_
    obtain rfl := Option.some.inj hf
    exact tt_areturn (pc := 43) C rfl (Or.inl ⟨_, rfl⟩) rfl rfl dX7_word_43
  · refine sw_eq (x := a1) (k := 1) hf (fun hx hf => ?_) (fun n1 hf => ?_)
    · rw [hx]
      refine tt_tabIn (pc := 1) (tgt := 44) (x := 1) C dX7_word_1 (by decide) (by decide) rfl (by decide) ?_
      refine tt_ldcM (pc := 44) (j := 1) C rfl (by decide) rfl dX7_word_44 ?_
      obtain rfl := Option.some.inj hf
      exact tt_areturn (pc := 47) C rfl (Or.inl ⟨_, rfl⟩) rfl rfl dX7_word_47
    · refine sw_eq (x := a1) (k := 2) hf (fun hx hf => ?_) (fun n2 hf => ?_)
      · rw [hx]
        refine tt_tabIn (pc := 1) (tgt := 48) (x := 2) C dX7_word_1 (by decide) (by decide) rfl (by decide) ?_
        refine tt_ldcM (pc := 48) (j := 2) C rfl (by decide) rfl dX7_word_48 ?_
        obtain rfl := Option.some.inj hf
        exact tt_areturn (pc := 51) C rfl (Or.inl ⟨_, rfl⟩) rfl rfl dX7_word_51
      · refine sw_eq (x := a1) (k := 3) hf (fun hx hf => ?_) (fun n3 hf => ?_)
        · rw [hx]
          refine tt_tabIn (pc := 1) (tgt := 52) (x := 3) C dX7_word_1 (by decide) (by decide) rfl (by decide) ?_
          refine tt_ldcM (pc := 52) (j := 3) C rfl (by decide) rfl dX7_word_52 ?_
          obtain rfl := Option.some.inj hf
          exact tt_areturn (pc := 55) C rfl (Or.inl ⟨_, rfl⟩) rfl rfl dX7_word_55
        · refine sw_eq (x := a1) (k := 4) hf (fun hx hf => ?_) (fun n4 hf => ?_)
          · rw [hx]
            refine tt_tabIn (pc := 1) (tgt := 56) (x := 4) C dX7_word_1 (by decide) (by decide) rfl (by decide) ?_
            refine tt_ldcM (pc := 56) (j := 4) C rfl (by decide) rfl dX7_word_56 ?_
            obtain rfl := Option.some.inj hf
            exact tt_areturn (pc := 59) C rfl (Or.inl ⟨_, rfl⟩) rfl rfl dX7_word_59
          · refine sw_eq (x := a1) (k := 5) hf (fun hx hf => ?_) (fun n5 hf => ?_)
            · rw [hx]
              refine tt_tabIn (pc := 1) (tgt := 60) (x := 5) C dX7_word_1 (by decide) (by decide) rfl (by decide) ?_
              refine tt_ldcM (pc := 60) (j := 5) C rfl (by decide) rfl dX7_word_60 ?_
              obtain rfl := Option.some.inj hf
              exact tt_areturn (pc := 63) C rfl (Or.inl ⟨_, rfl⟩) rfl rfl dX7_word_63
            · have g0 := sw_ne n0 (z := 0) (by decide)
              have g1 := sw_ne n1 (z := 1) (by decide)
              have g2 := sw_ne n2 (z := 2) (by decide)
              have g3 := sw_ne n3 (z := 3) (by decide)
              have g4 := sw_ne n4 (z := 4) (by decide)
              have g5 := sw_ne n5 (z := 5) (by decide)
              refine tt_tabOut (pc := 1) (tgt := 64) C dX7_word_1 (by omega) (by decide) ?_
              refine tt_ldcM (pc := 64) (j := 6) C rfl (by decide) rfl dX7_word_64 ?_
              obtain rfl := Option.some.inj hf
              exact tt_areturn (pc := 67) C rfl (Or.inl ⟨_, rfl⟩) rfl rfl dX7_word_67
theorem dX7_here_0 : decode cX7_here 0 = .ok (.aload_n 0, 1) := by decide +kernel
theorem dX7_here_1 : decode cX7_here 1 = .ok (.getfield 280, 3) := by decide +kernel
theorem dX7_here_4 : decode cX7_here 4 = .ok (.aload_n 0, 1) := by decide +kernel
theorem dX7_here_5 : decode cX7_here 5 = .ok (.getfield 267, 3) := by decide +kernel
theorem dX7_here_8 : decode cX7_here 8 = .ok (.if_icmp .ge 15, 3) := by decide +kernel
theorem dX7_here_11 : decode cX7_here 11 = .ok (.aload_n 0, 1) := by decide +kernel
theorem dX7_here_12 : decode cX7_here 12 = .ok (.getfield 56, 3) := by decide +kernel
theorem dX7_here_15 : decode cX7_here 15 = .ok (.aload_n 0, 1) := by decide +kernel
theorem dX7_here_16 : decode cX7_here 16 = .ok (.getfield 280, 3) := by decide +kernel
theorem dX7_here_19 : decode cX7_here 19 = .ok (.iaload, 1) := by decide +kernel
theorem dX7_here_20 : decode cX7_here 20 = .ok (.goto 4, 3) := by decide +kernel
theorem dX7_here_23 : decode cX7_here 23 = .ok (.iconst (-1), 1) := by decide +kernel
theorem dX7_here_24 : decode cX7_here 24 = .ok (.ireturn, 1) := by decide +kernel
set_option maxHeartbeats 4000000 in
set_option maxRecDepth 100000 in
theorem k_X7_here {l : Launch} {D : va_G} {cy : Nat → ClassId} {Bd : Nat} {xa : Xa} {ad : Nat → Nat} {N : Nat} {sc : Nat → Int32} {ar : Nat → Nat → Int32} {la : Nat → Nat → Int64} {out : Int32} (hf : f_X7_here N sc ar = some out) : KC l yX7_here cX7_here 1 (some .int) 0 0 true D cy Bd xa [.ref (ad 0)] (mC cy ad sc ar la) (some (.int out)) (mC cy ad sc ar la) := by
  refine kc_start (own := RX7) (by decide +kernel) rfl (Nat.le_of_ble_eq_true rfl) ?_
  intro p e s m args below meth c A C
  unfold f_X7_here at hf
  refine tt_locs (L' := [(0, .ref (ad 0))]) [0] rfl ?_
  refine tt_aload_n (pc := 0) (k := 0) C dX7_here_0 rfl rfl ?_
  refine tt_get (pc := 1) (ws := (mC cy ad sc ar la)) (ci := 7) (v := .int (sc 33)) C fiX7 rfl 0 mC_obj 33 (by decide) q4_193 rfl dX7_here_1 ?_
  refine tt_aload_n (pc := 4) (k := 0) C dX7_here_4 rfl rfl ?_
  refine tt_get (pc := 5) (ws := (mC cy ad sc ar la)) (ci := 7) (v := .int (sc 20)) C fiX7 rfl 0 mC_obj 20 (by decide) q4_180 rfl dX7_here_5 ?_
  obtain ⟨j1, hj1, hf⟩ := bind_some hf
  have k2 : TT p l e { frames := 0, cells := 0, slots := 0, locals := 0 } s m args below meth c 1 D A true (some (.int out)) (mC cy ad sc ar la) 24 [] [.int j1] (mC cy ad sc ar la) := by
    obtain rfl := Option.some.inj hf
    exact tt_ireturn (pc := 24) C rfl rfl rfl dX7_here_24
  refine tt_icmp_ge (pc := 8) (tgt := 23) C dX7_here_8 (by decide) hj1 (fun hj1 => ?_) (fun hj1 => ?_)
  · refine tt_iconst (pc := 23) (v := (-1 : Int32)) C dX7_here_23 (by decide) ?_
    obtain rfl := Option.some.inj hj1
    exact tt_locs [] rfl k2
  · refine tt_aload_n (pc := 11) (k := 0) C dX7_here_11 rfl rfl ?_
    refine tt_get (pc := 12) (ws := (mC cy ad sc ar la)) (ci := 7) (v := .ref (ad 19)) C fiX7 rfl 0 mC_obj 19 (by decide) q4_179 rfl dX7_here_12 ?_
    refine tt_aload_n (pc := 15) (k := 0) C dX7_here_15 rfl rfl ?_
    refine tt_get (pc := 16) (ws := (mC cy ad sc ar la)) (ci := 7) (v := .int (sc 33)) C fiX7 rfl 0 mC_obj 33 (by decide) q4_193 rfl dX7_here_16 ?_
    refine tt_iaload (pc := 19) (ws := (mC cy ad sc ar la)) (n := 120) (f := (ar 19)) C 14 0 mC_get19 rfl hj1 dX7_here_19 (fun hj1 => ?_)
    refine tt_goto (pc := 20) (tgt := 24) C dX7_here_20 (by decide) ?_
    obtain rfl := Option.some.inj hj1
    exact tt_locs [] rfl k2
theorem dX7_readWord_0 : decode cX7_readWord 0 = .ok (.bipush 127, 2) := by decide +kernel
theorem dX7_readWord_2 : decode cX7_readWord 2 = .ok (.istore_n 1, 1) := by decide +kernel
theorem dX7_readWord_3 : decode cX7_readWord 3 = .ok (.iconst 0, 1) := by decide +kernel
theorem dX7_readWord_4 : decode cX7_readWord 4 = .ok (.istore_n 2, 1) := by decide +kernel
theorem dX7_readWord_5 : decode cX7_readWord 5 = .ok (.iload_n 1, 1) := by decide +kernel
theorem dX7_readWord_6 : decode cX7_readWord 6 = .ok (.ifCond .eq 107, 3) := by decide +kernel
theorem dX7_readWord_9 : decode cX7_readWord 9 = .ok (.iconst 0, 1) := by decide +kernel
theorem dX7_readWord_10 : decode cX7_readWord 10 = .ok (.istore_n 3, 1) := by decide +kernel
theorem dX7_readWord_11 : decode cX7_readWord 11 = .ok (.iconst 0, 1) := by decide +kernel
theorem dX7_readWord_12 : decode cX7_readWord 12 = .ok (.istore 4, 2) := by decide +kernel
theorem dX7_readWord_14 : decode cX7_readWord 14 = .ok (.iload 4, 2) := by decide +kernel
theorem dX7_readWord_16 : decode cX7_readWord 16 = .ok (.bipush 7, 2) := by decide +kernel
theorem dX7_readWord_18 : decode cX7_readWord 18 = .ok (.if_icmp .ge 69, 3) := by decide +kernel
theorem dX7_readWord_21 : decode cX7_readWord 21 = .ok (.iload_n 1, 1) := by decide +kernel
theorem dX7_readWord_22 : decode cX7_readWord 22 = .ok (.iload 4, 2) := by decide +kernel
theorem dX7_readWord_24 : decode cX7_readWord 24 = .ok (.invokestatic 168, 3) := by decide +kernel
theorem dX7_readWord_27 : decode cX7_readWord 27 = .ok (.ifCond .eq 18, 3) := by decide +kernel
theorem dX7_readWord_30 : decode cX7_readWord 30 = .ok (.iload_n 2, 1) := by decide +kernel
theorem dX7_readWord_31 : decode cX7_readWord 31 = .ok (.iload 4, 2) := by decide +kernel
theorem dX7_readWord_33 : decode cX7_readWord 33 = .ok (.invokestatic 286, 3) := by decide +kernel
theorem dX7_readWord_36 : decode cX7_readWord 36 = .ok (.invokevirtual 290, 3) := by decide +kernel
theorem dX7_readWord_39 : decode cX7_readWord 39 = .ok (.if_icmp .ne 6, 3) := by decide +kernel
theorem dX7_readWord_42 : decode cX7_readWord 42 = .ok (.iload 4, 2) := by decide +kernel
theorem dX7_readWord_44 : decode cX7_readWord 44 = .ok (.ireturn, 1) := by decide +kernel
theorem dX7_readWord_45 : decode cX7_readWord 45 = .ok (.iload_n 3, 1) := by decide +kernel
theorem dX7_readWord_46 : decode cX7_readWord 46 = .ok (.iload_n 1, 1) := by decide +kernel
theorem dX7_readWord_47 : decode cX7_readWord 47 = .ok (.iload 4, 2) := by decide +kernel
theorem dX7_readWord_49 : decode cX7_readWord 49 = .ok (.invokestatic 168, 3) := by decide +kernel
theorem dX7_readWord_52 : decode cX7_readWord 52 = .ok (.ifCond .eq 26, 3) := by decide +kernel
theorem dX7_readWord_55 : decode cX7_readWord 55 = .ok (.iload 4, 2) := by decide +kernel
theorem dX7_readWord_57 : decode cX7_readWord 57 = .ok (.invokestatic 286, 3) := by decide +kernel
theorem dX7_readWord_60 : decode cX7_readWord 60 = .ok (.iload_n 2, 1) := by decide +kernel
theorem dX7_readWord_61 : decode cX7_readWord 61 = .ok (.invokevirtual 295, 3) := by decide +kernel
theorem dX7_readWord_64 : decode cX7_readWord 64 = .ok (.aload_n 0, 1) := by decide +kernel
theorem dX7_readWord_65 : decode cX7_readWord 65 = .ok (.invokevirtual 283, 3) := by decide +kernel
theorem dX7_readWord_68 : decode cX7_readWord 68 = .ok (.if_icmp .ne 10, 3) := by decide +kernel
theorem dX7_readWord_71 : decode cX7_readWord 71 = .ok (.iconst 1, 1) := by decide +kernel
theorem dX7_readWord_72 : decode cX7_readWord 72 = .ok (.iload 4, 2) := by decide +kernel
theorem dX7_readWord_74 : decode cX7_readWord 74 = .ok (.ishl, 1) := by decide +kernel
theorem dX7_readWord_75 : decode cX7_readWord 75 = .ok (.goto 4, 3) := by decide +kernel
theorem dX7_readWord_78 : decode cX7_readWord 78 = .ok (.iconst 0, 1) := by decide +kernel
theorem dX7_readWord_79 : decode cX7_readWord 79 = .ok (.ior, 1) := by decide +kernel
theorem dX7_readWord_80 : decode cX7_readWord 80 = .ok (.istore_n 3, 1) := by decide +kernel
theorem dX7_readWord_81 : decode cX7_readWord 81 = .ok (.iinc 4 1, 3) := by decide +kernel
theorem dX7_readWord_84 : decode cX7_readWord 84 = .ok (.goto (-70), 3) := by decide +kernel
theorem dX7_readWord_87 : decode cX7_readWord 87 = .ok (.aload_n 0, 1) := by decide +kernel
theorem dX7_readWord_88 : decode cX7_readWord 88 = .ok (.dup, 1) := by decide +kernel
theorem dX7_readWord_89 : decode cX7_readWord 89 = .ok (.getfield 280, 3) := by decide +kernel
theorem dX7_readWord_92 : decode cX7_readWord 92 = .ok (.iload_n 3, 1) := by decide +kernel
theorem dX7_readWord_93 : decode cX7_readWord 93 = .ok (.ifCond .eq 7, 3) := by decide +kernel
theorem dX7_readWord_96 : decode cX7_readWord 96 = .ok (.iconst 1, 1) := by decide +kernel
theorem dX7_readWord_97 : decode cX7_readWord 97 = .ok (.goto 4, 3) := by decide +kernel
theorem dX7_readWord_100 : decode cX7_readWord 100 = .ok (.iconst 0, 1) := by decide +kernel
theorem dX7_readWord_101 : decode cX7_readWord 101 = .ok (.iadd, 1) := by decide +kernel
theorem dX7_readWord_102 : decode cX7_readWord 102 = .ok (.putfield 280, 3) := by decide +kernel
theorem dX7_readWord_105 : decode cX7_readWord 105 = .ok (.iload_n 3, 1) := by decide +kernel
theorem dX7_readWord_106 : decode cX7_readWord 106 = .ok (.istore_n 1, 1) := by decide +kernel
theorem dX7_readWord_107 : decode cX7_readWord 107 = .ok (.iinc 2 1, 3) := by decide +kernel
theorem dX7_readWord_110 : decode cX7_readWord 110 = .ok (.goto (-105), 3) := by decide +kernel
theorem dX7_readWord_113 : decode cX7_readWord 113 = .ok (.bipush (-9), 2) := by decide +kernel
theorem dX7_readWord_115 : decode cX7_readWord 115 = .ok (.ireturn, 1) := by decide +kernel
set_option maxHeartbeats 4000000 in
set_option maxRecDepth 100000 in
theorem l_X7_readWord_14 {p : Program} {l : Launch} {e : Env} {s : State} {m : MethodId} {args : Array Value} {below : List Frame} {meth : Method} {c : Code} {D : va_G} {cy : Nat → ClassId} {A : Nat → Prop} {Bd : Nat} {xa : Xa} {ad : Nat → Nat} {N : Nat} {sc : Nat → Int32} {ar : Nat → Nat → Int32} {la : Nat → Nat → Int64} {v1 : Int32} {v2 : Int32} {kx : Int32 → Option (Int32 × (Nat → Int32))} {out : Int32 × (Nat → Int32)} (C : CC p s m args meth c cX7_readWord RX7 5 (some .int) D cy A false Bd xa) (hk : ∀ (x3 : Int32), kx x3 = some out → TT p l e { frames := 4, cells := 0, slots := 0, locals := 85 } s m args below meth c 5 D A false (some (.int out.1)) (mC cy ad out.2 ar la) 87 [(0, .ref (ad 0)), (2, .int v2), (3, .int x3)] [] (mC cy ad sc ar la)) {n : Nat} {v3 : Int32} {v4 : Int32} (hf : f_X7_readWord_L14 N sc ar v1 v2 kx n v3 v4 = some out) : TT p l e { frames := 4, cells := 0, slots := 0, locals := 85 } s m args below meth c 5 D A false (some (.int out.1)) (mC cy ad out.2 ar la) 14 [(0, .ref (ad 0)), (1, .int v1), (2, .int v2), (3, .int v3), (4, .int v4)] [] (mC cy ad sc ar la) := by
  induction n generalizing v3 v4 with
  | zero => cases hf
  | succ n ih =>
    rw [f_X7_readWord_L14] at hf
    refine tt_iload (pc := 14) (k := 4) C dX7_readWord_14 rfl ?_
    refine tt_bipush (pc := 16) (v := (7 : Int32)) C dX7_readWord_16 (by decide) ?_
    refine tt_icmp_ge (pc := 18) (tgt := 87) C dX7_readWord_18 (by decide) hf (fun hf => ?_) (fun hf => ?_)
    · exact tt_locs [0, 2, 3] rfl (hk _ hf)
    · refine tt_iload_n (pc := 21) (k := 1) C dX7_readWord_21 rfl rfl ?_
      refine tt_iload (pc := 22) (k := 4) C dX7_readWord_22 rfl ?_
      obtain ⟨r1, hr1, hf⟩ := bind_some hf
      refine tt_callS (pc := 24) (ws := (mC cy ad sc ar la)) (rest := []) (st' := [.int r1]) C (k_X7_has hr1) okX7_has q5_148 (fun _ h => absurd h List.not_mem_nil) rfl rfl rfl (Nat.le_of_ble_eq_true rfl) ⟨Nat.le_of_ble_eq_true rfl, Nat.le_of_ble_eq_true rfl⟩ dX7_readWord_24 ?_
      refine tt_if_eq (pc := 27) (tgt := 45) C dX7_readWord_27 (by decide) hf (fun hf => ?_) (fun hf => ?_)
      · refine tt_iload_n (pc := 45) (k := 3) C dX7_readWord_45 rfl rfl ?_
        refine tt_iload_n (pc := 46) (k := 1) C dX7_readWord_46 rfl rfl ?_
        refine tt_iload (pc := 47) (k := 4) C dX7_readWord_47 rfl ?_
        obtain ⟨r2, hr2, hf⟩ := bind_some hf
        refine tt_callS (pc := 49) (ws := (mC cy ad sc ar la)) (rest := [.int v3]) (st' := [.int r2, .int v3]) C (k_X7_has hr2) okX7_has q5_148 (fun _ h => absurd h List.not_mem_nil) rfl rfl rfl (Nat.le_of_ble_eq_true rfl) ⟨Nat.le_of_ble_eq_true rfl, Nat.le_of_ble_eq_true rfl⟩ dX7_readWord_49 ?_
        obtain ⟨j3, hj3, hf⟩ := bind_some hf
        have k4 : TT p l e { frames := 4, cells := 0, slots := 0, locals := 85 } s m args below meth c 5 D A false (some (.int out.1)) (mC cy ad out.2 ar la) 79 [(0, .ref (ad 0)), (1, .int v1), (2, .int v2), (4, .int v4)] [.int j3, .int v3] (mC cy ad sc ar la) := by
          refine tt_ior (pc := 79) C dX7_readWord_79 ?_
          refine tt_istore_n (pc := 80) (L' := [(3, .int (v3 ||| j3)), (0, .ref (ad 0)), (1, .int v1), (2, .int v2), (4, .int v4)]) C dX7_readWord_80 rfl (by decide) rfl ?_
          refine tt_iinc (pc := 81) (k := 4) (v := (v4 + 1)) (L' := [(4, .int (v4 + 1)), (3, .int (v3 ||| j3)), (0, .ref (ad 0)), (1, .int v1), (2, .int v2)]) C dX7_readWord_81 rfl rfl (by decide) rfl ?_
          refine tt_goto (pc := 84) (tgt := 14) C dX7_readWord_84 (by decide) ?_
          exact tt_locs [2, 3, 4, 1, 0] rfl (ih hf)
        refine tt_if_eq (pc := 52) (tgt := 78) C dX7_readWord_52 (by decide) hj3 (fun hj3 => ?_) (fun hj3 => ?_)
        · refine tt_iconst (pc := 78) (v := (0 : Int32)) C dX7_readWord_78 (by decide) ?_
          obtain rfl := Option.some.inj hj3
          exact tt_locs [0, 1, 2, 4] rfl k4
        · refine tt_iload (pc := 55) (k := 4) C dX7_readWord_55 rfl ?_
          obtain ⟨r5, hr5, hj3⟩ := bind_some hj3
          refine tt_callS (pc := 57) (ws := (mC cy ad sc ar la)) (rest := [.int v3]) (st' := [.ref (xa.2.2.1 r5), .int v3]) C (k_X7_word hr5) okX7_word q6_144 (fun _ h => absurd h List.not_mem_nil) rfl rfl rfl (Nat.le_of_ble_eq_true rfl) ⟨Nat.le_of_ble_eq_true rfl, Nat.le_of_ble_eq_true rfl⟩ dX7_readWord_57 ?_
          refine tt_iload_n (pc := 60) (k := 2) C dX7_readWord_60 rfl rfl ?_
          refine tt_sat (pc := 61) (j := r5) C hj3 q6_155 (Nat.le_of_ble_eq_true rfl) ⟨Nat.le_of_ble_eq_true rfl, Nat.le_of_ble_eq_true rfl⟩ dX7_readWord_61 (fun hj3 => ?_)
          refine tt_aload_n (pc := 64) (k := 0) C dX7_readWord_64 rfl rfl ?_
          obtain ⟨r6, hr6, hj3⟩ := bind_some hj3
          refine tt_callR (pc := 65) (ws := (mC cy ad sc ar la)) (q0 := 0) (ci := 7) (rest := [.int (sAt r5 v2), .int v3]) (st' := [.int r6, .int (sAt r5 v2), .int v3]) C (k_X7_here hr6) okX7_here q6_156 rfl mC_obj (fun _ h => h) rfl rfl rfl (Nat.le_of_ble_eq_true rfl) ⟨Nat.le_of_ble_eq_true rfl, Nat.le_of_ble_eq_true rfl⟩ dX7_readWord_65 ?_
          have k8 : TT p l e { frames := 4, cells := 0, slots := 0, locals := 85 } s m args below meth c 5 D A false (some (.int out.1)) (mC cy ad out.2 ar la) 79 [(0, .ref (ad 0)), (1, .int v1), (2, .int v2), (4, .int v4)] [.int (if (sAt r5 v2) = r6 then ((1 : Int32) <<< (v4 &&& 31)) else (0 : Int32)), .int v3] (mC cy ad sc ar la) := by
            obtain rfl := Option.some.inj hj3
            exact tt_locs [0, 1, 2, 3] rfl k4
          refine tr_icmp_ne (pc := 68) (tgt := 78) C dX7_readWord_68 (by decide) (fun c7 => ?_) (fun c7 => ?_)
          · refine tt_iconst (pc := 78) (v := (0 : Int32)) C dX7_readWord_78 (by decide) ?_
            try simp only [if_neg c7] at k8 ⊢
            exact tt_locs [0, 1, 2, 4] rfl k8
          · refine tt_iconst (pc := 71) (v := (1 : Int32)) C dX7_readWord_71 (by decide) ?_
            refine tt_iload (pc := 72) (k := 4) C dX7_readWord_72 rfl ?_
            refine tt_ishl (pc := 74) C dX7_readWord_74 ?_
            refine tt_goto (pc := 75) (tgt := 79) C dX7_readWord_75 (by decide) ?_
            try simp only [if_pos c7] at k8 ⊢
            exact tt_locs [0, 1, 2, 4] rfl k8
      · refine tt_iload_n (pc := 30) (k := 2) C dX7_readWord_30 rfl rfl ?_
        refine tt_iload (pc := 31) (k := 4) C dX7_readWord_31 rfl ?_
        obtain ⟨r9, hr9, hf⟩ := bind_some hf
        refine tt_callS (pc := 33) (ws := (mC cy ad sc ar la)) (rest := [.int v2]) (st' := [.ref (xa.2.2.1 r9), .int v2]) C (k_X7_word hr9) okX7_word q6_144 (fun _ h => absurd h List.not_mem_nil) rfl rfl rfl (Nat.le_of_ble_eq_true rfl) ⟨Nat.le_of_ble_eq_true rfl, Nat.le_of_ble_eq_true rfl⟩ dX7_readWord_33 ?_
        refine tt_slen (pc := 36) (j := r9) C hf q6_154 (Nat.le_of_ble_eq_true rfl) ⟨Nat.le_of_ble_eq_true rfl, Nat.le_of_ble_eq_true rfl⟩ dX7_readWord_36 (fun hf => ?_)
        refine tt_icmp_ne (pc := 39) (tgt := 45) C dX7_readWord_39 (by decide) hf (fun hf => ?_) (fun hf => ?_)
        · refine tt_iload_n (pc := 45) (k := 3) C dX7_readWord_45 rfl rfl ?_
          refine tt_iload_n (pc := 46) (k := 1) C dX7_readWord_46 rfl rfl ?_
          refine tt_iload (pc := 47) (k := 4) C dX7_readWord_47 rfl ?_
          obtain ⟨r10, hr10, hf⟩ := bind_some hf
          refine tt_callS (pc := 49) (ws := (mC cy ad sc ar la)) (rest := [.int v3]) (st' := [.int r10, .int v3]) C (k_X7_has hr10) okX7_has q5_148 (fun _ h => absurd h List.not_mem_nil) rfl rfl rfl (Nat.le_of_ble_eq_true rfl) ⟨Nat.le_of_ble_eq_true rfl, Nat.le_of_ble_eq_true rfl⟩ dX7_readWord_49 ?_
          obtain ⟨j11, hj11, hf⟩ := bind_some hf
          have k12 : TT p l e { frames := 4, cells := 0, slots := 0, locals := 85 } s m args below meth c 5 D A false (some (.int out.1)) (mC cy ad out.2 ar la) 79 [(0, .ref (ad 0)), (1, .int v1), (2, .int v2), (4, .int v4)] [.int j11, .int v3] (mC cy ad sc ar la) := by
            refine tt_ior (pc := 79) C dX7_readWord_79 ?_
            refine tt_istore_n (pc := 80) (L' := [(3, .int (v3 ||| j11)), (0, .ref (ad 0)), (1, .int v1), (2, .int v2), (4, .int v4)]) C dX7_readWord_80 rfl (by decide) rfl ?_
            refine tt_iinc (pc := 81) (k := 4) (v := (v4 + 1)) (L' := [(4, .int (v4 + 1)), (3, .int (v3 ||| j11)), (0, .ref (ad 0)), (1, .int v1), (2, .int v2)]) C dX7_readWord_81 rfl rfl (by decide) rfl ?_
            refine tt_goto (pc := 84) (tgt := 14) C dX7_readWord_84 (by decide) ?_
            exact tt_locs [2, 3, 4, 1, 0] rfl (ih hf)
          refine tt_if_eq (pc := 52) (tgt := 78) C dX7_readWord_52 (by decide) hj11 (fun hj11 => ?_) (fun hj11 => ?_)
          · refine tt_iconst (pc := 78) (v := (0 : Int32)) C dX7_readWord_78 (by decide) ?_
            obtain rfl := Option.some.inj hj11
            exact tt_locs [0, 1, 2, 4] rfl k12
          · refine tt_iload (pc := 55) (k := 4) C dX7_readWord_55 rfl ?_
            obtain ⟨r13, hr13, hj11⟩ := bind_some hj11
            refine tt_callS (pc := 57) (ws := (mC cy ad sc ar la)) (rest := [.int v3]) (st' := [.ref (xa.2.2.1 r13), .int v3]) C (k_X7_word hr13) okX7_word q6_144 (fun _ h => absurd h List.not_mem_nil) rfl rfl rfl (Nat.le_of_ble_eq_true rfl) ⟨Nat.le_of_ble_eq_true rfl, Nat.le_of_ble_eq_true rfl⟩ dX7_readWord_57 ?_
            refine tt_iload_n (pc := 60) (k := 2) C dX7_readWord_60 rfl rfl ?_
            refine tt_sat (pc := 61) (j := r13) C hj11 q6_155 (Nat.le_of_ble_eq_true rfl) ⟨Nat.le_of_ble_eq_true rfl, Nat.le_of_ble_eq_true rfl⟩ dX7_readWord_61 (fun hj11 => ?_)
            refine tt_aload_n (pc := 64) (k := 0) C dX7_readWord_64 rfl rfl ?_
            obtain ⟨r14, hr14, hj11⟩ := bind_some hj11
            refine tt_callR (pc := 65) (ws := (mC cy ad sc ar la)) (q0 := 0) (ci := 7) (rest := [.int (sAt r13 v2), .int v3]) (st' := [.int r14, .int (sAt r13 v2), .int v3]) C (k_X7_here hr14) okX7_here q6_156 rfl mC_obj (fun _ h => h) rfl rfl rfl (Nat.le_of_ble_eq_true rfl) ⟨Nat.le_of_ble_eq_true rfl, Nat.le_of_ble_eq_true rfl⟩ dX7_readWord_65 ?_
            have k16 : TT p l e { frames := 4, cells := 0, slots := 0, locals := 85 } s m args below meth c 5 D A false (some (.int out.1)) (mC cy ad out.2 ar la) 79 [(0, .ref (ad 0)), (1, .int v1), (2, .int v2), (4, .int v4)] [.int (if (sAt r13 v2) = r14 then ((1 : Int32) <<< (v4 &&& 31)) else (0 : Int32)), .int v3] (mC cy ad sc ar la) := by
              obtain rfl := Option.some.inj hj11
              exact tt_locs [0, 1, 2, 3] rfl k12
            refine tr_icmp_ne (pc := 68) (tgt := 78) C dX7_readWord_68 (by decide) (fun c15 => ?_) (fun c15 => ?_)
            · refine tt_iconst (pc := 78) (v := (0 : Int32)) C dX7_readWord_78 (by decide) ?_
              try simp only [if_neg c15] at k16 ⊢
              exact tt_locs [0, 1, 2, 4] rfl k16
            · refine tt_iconst (pc := 71) (v := (1 : Int32)) C dX7_readWord_71 (by decide) ?_
              refine tt_iload (pc := 72) (k := 4) C dX7_readWord_72 rfl ?_
              refine tt_ishl (pc := 74) C dX7_readWord_74 ?_
              refine tt_goto (pc := 75) (tgt := 79) C dX7_readWord_75 (by decide) ?_
              try simp only [if_pos c15] at k16 ⊢
              exact tt_locs [0, 1, 2, 4] rfl k16
        · refine tt_iload (pc := 42) (k := 4) C dX7_readWord_42 rfl ?_
          obtain rfl := Option.some.inj hf
          exact tt_ireturn (pc := 44) C rfl rfl rfl dX7_readWord_44
set_option maxHeartbeats 4000000 in
set_option maxRecDepth 100000 in
theorem l_X7_readWord_5 {p : Program} {l : Launch} {e : Env} {s : State} {m : MethodId} {args : Array Value} {below : List Frame} {meth : Method} {c : Code} {D : va_G} {cy : Nat → ClassId} {A : Nat → Prop} {Bd : Nat} {xa : Xa} {ad : Nat → Nat} {N : Nat} {ar : Nat → Nat → Int32} {la : Nat → Nat → Int64} {kx : (Nat → Int32) → Option (Int32 × (Nat → Int32))} {out : Int32 × (Nat → Int32)} (C : CC p s m args meth c cX7_readWord RX7 5 (some .int) D cy A false Bd xa) (hk : ∀ (sc1 : Nat → Int32), kx sc1 = some out → TT p l e { frames := 4, cells := 0, slots := 0, locals := 85 } s m args below meth c 5 D A false (some (.int out.1)) (mC cy ad out.2 ar la) 113 [] [] (mC cy ad sc1 ar la)) {n : Nat} {v1 : Int32} {v2 : Int32} {sc : Nat → Int32} (hf : f_X7_readWord_L5 N ar kx n v1 v2 sc = some out) : TT p l e { frames := 4, cells := 0, slots := 0, locals := 85 } s m args below meth c 5 D A false (some (.int out.1)) (mC cy ad out.2 ar la) 5 [(0, .ref (ad 0)), (1, .int v1), (2, .int v2)] [] (mC cy ad sc ar la) := by
  induction n generalizing v1 v2 sc with
  | zero => cases hf
  | succ n ih =>
    rw [f_X7_readWord_L5] at hf
    refine tt_iload_n (pc := 5) (k := 1) C dX7_readWord_5 rfl rfl ?_
    refine tt_if_eq (pc := 6) (tgt := 113) C dX7_readWord_6 (by decide) hf (fun hf => ?_) (fun hf => ?_)
    · exact tt_locs [] rfl (hk _ hf)
    · refine tt_iconst (pc := 9) (v := (0 : Int32)) C dX7_readWord_9 (by decide) ?_
      refine tt_istore_n (pc := 10) (L' := [(3, .int (0 : Int32)), (0, .ref (ad 0)), (1, .int v1), (2, .int v2)]) C dX7_readWord_10 rfl (by decide) rfl ?_
      refine tt_iconst (pc := 11) (v := (0 : Int32)) C dX7_readWord_11 (by decide) ?_
      refine tt_istore (pc := 12) (L' := [(4, .int (0 : Int32)), (3, .int (0 : Int32)), (0, .ref (ad 0)), (1, .int v1), (2, .int v2)]) C dX7_readWord_12 (by decide) rfl ?_
      refine tt_locs (L' := [(0, .ref (ad 0)), (1, .int v1), (2, .int v2), (3, .int (0 : Int32)), (4, .int (0 : Int32))]) [2, 3, 4, 1, 0] rfl (l_X7_readWord_14 C (fun x3_17 hf => ?_) hf)
      refine tt_aload_n (pc := 87) (k := 0) C dX7_readWord_87 rfl rfl ?_
      refine tt_dup (pc := 88) C dX7_readWord_88 rfl ?_
      refine tt_get (pc := 89) (ws := (mC cy ad sc ar la)) (ci := 7) (v := .int (sc 33)) C fiX7 rfl 0 mC_obj 33 (by decide) q4_193 rfl dX7_readWord_89 ?_
      refine tt_iload_n (pc := 92) (k := 2) C dX7_readWord_92 rfl rfl ?_
      have k18 : TT p l e { frames := 4, cells := 0, slots := 0, locals := 85 } s m args below meth c 5 D A false (some (.int out.1)) (mC cy ad out.2 ar la) 101 [(0, .ref (ad 0)), (2, .int v2), (3, .int x3_17)] [.int (if x3_17 = 0 then (0 : Int32) else (1 : Int32)), .int (sc 33), .ref (ad 0)] (mC cy ad sc ar la) := by
        refine tt_iadd (pc := 101) C dX7_readWord_101 ?_
        refine tt_put (pc := 102) (ws := (mC cy ad sc ar la)) (ci := 7) (ty := .int) (ws' := (mC cy ad (upd sc 33 ((sc 33) + (if x3_17 = 0 then (0 : Int32) else (1 : Int32)))) ar la)) C rfl fiX7 rfl 0 mC_obj 33 (by decide) q4_193 rfl rfl rfl rfl (Nat.le_of_ble_eq_true rfl) dX7_readWord_102 mC_put33 ?_
        refine tt_iload_n (pc := 105) (k := 2) C dX7_readWord_105 rfl rfl ?_
        refine tt_istore_n (pc := 106) (L' := [(1, .int x3_17), (0, .ref (ad 0)), (2, .int v2), (3, .int x3_17)]) C dX7_readWord_106 rfl (by decide) rfl ?_
        refine tt_iinc (pc := 107) (k := 2) (v := (v2 + 1)) (L' := [(2, .int (v2 + 1)), (1, .int x3_17), (0, .ref (ad 0)), (3, .int x3_17)]) C dX7_readWord_107 rfl rfl (by decide) rfl ?_
        refine tt_goto (pc := 110) (tgt := 5) C dX7_readWord_110 (by decide) ?_
        exact tt_locs [2, 1, 0] rfl (ih hf)
      refine tr_if_eq (pc := 93) (tgt := 100) C dX7_readWord_93 (by decide) (fun c17 => ?_) (fun c17 => ?_)
      · refine tt_iconst (pc := 100) (v := (0 : Int32)) C dX7_readWord_100 (by decide) ?_
        try simp only [if_pos c17] at k18 ⊢
        exact tt_locs [0, 1, 2] rfl k18
      · refine tt_iconst (pc := 96) (v := (1 : Int32)) C dX7_readWord_96 (by decide) ?_
        refine tt_goto (pc := 97) (tgt := 101) C dX7_readWord_97 (by decide) ?_
        try simp only [if_neg c17] at k18 ⊢
        exact tt_locs [0, 1, 2] rfl k18
set_option maxHeartbeats 4000000 in
set_option maxRecDepth 100000 in
theorem k_X7_readWord {l : Launch} {D : va_G} {cy : Nat → ClassId} {Bd : Nat} {xa : Xa} {ad : Nat → Nat} {N : Nat} {sc : Nat → Int32} {ar : Nat → Nat → Int32} {la : Nat → Nat → Int64} {out : Int32 × (Nat → Int32)} (hf : f_X7_readWord N sc ar = some out) : KC l yX7_readWord cX7_readWord 5 (some .int) 4 85 false D cy Bd xa [.ref (ad 0)] (mC cy ad sc ar la) (some (.int out.1)) (mC cy ad out.2 ar la) := by
  refine kc_start (own := RX7) (by decide +kernel) rfl (Nat.le_of_ble_eq_true rfl) ?_
  intro p e s m args below meth c A C
  unfold f_X7_readWord at hf
  refine tt_locs (L' := [(0, .ref (ad 0))]) [0] rfl ?_
  refine tt_bipush (pc := 0) (v := (127 : Int32)) C dX7_readWord_0 (by decide) ?_
  refine tt_istore_n (pc := 2) (L' := [(1, .int (127 : Int32)), (0, .ref (ad 0))]) C dX7_readWord_2 rfl (by decide) rfl ?_
  refine tt_iconst (pc := 3) (v := (0 : Int32)) C dX7_readWord_3 (by decide) ?_
  refine tt_istore_n (pc := 4) (L' := [(2, .int (0 : Int32)), (1, .int (127 : Int32)), (0, .ref (ad 0))]) C dX7_readWord_4 rfl (by decide) rfl ?_
  refine tt_locs (L' := [(0, .ref (ad 0)), (1, .int (127 : Int32)), (2, .int (0 : Int32))]) [2, 1, 0] rfl (l_X7_readWord_5 C (fun t19 hf => ?_) hf)
  refine tt_bipush (pc := 113) (v := (-9 : Int32)) C dX7_readWord_113 (by decide) ?_
  obtain rfl := Option.some.inj hf
  exact tt_ireturn (pc := 115) C rfl rfl rfl dX7_readWord_115
theorem dX7_numbersOf_0 : decode cX7_numbersOf 0 = .ok (.iload_n 0, 1) := by decide +kernel
theorem dX7_numbersOf_1 : decode cX7_numbersOf 1 = .ok (.tableswitch 37 0 3 #[31, 33, 31, 35], 31) := by decide +kernel
theorem dX7_numbersOf_32 : decode cX7_numbersOf 32 = .ok (.iconst 2, 1) := by decide +kernel
theorem dX7_numbersOf_33 : decode cX7_numbersOf 33 = .ok (.ireturn, 1) := by decide +kernel
theorem dX7_numbersOf_34 : decode cX7_numbersOf 34 = .ok (.iconst 3, 1) := by decide +kernel
theorem dX7_numbersOf_35 : decode cX7_numbersOf 35 = .ok (.ireturn, 1) := by decide +kernel
theorem dX7_numbersOf_36 : decode cX7_numbersOf 36 = .ok (.iconst 4, 1) := by decide +kernel
theorem dX7_numbersOf_37 : decode cX7_numbersOf 37 = .ok (.ireturn, 1) := by decide +kernel
theorem dX7_numbersOf_38 : decode cX7_numbersOf 38 = .ok (.iconst 1, 1) := by decide +kernel
theorem dX7_numbersOf_39 : decode cX7_numbersOf 39 = .ok (.ireturn, 1) := by decide +kernel
set_option maxHeartbeats 4000000 in
set_option maxRecDepth 100000 in
theorem k_X7_numbersOf {l : Launch} {D : va_G} {cy : Nat → ClassId} {Bd : Nat} {xa : Xa}  {N : Nat} {a1 : Int32} {out : Int32} (hf : f_X7_numbersOf N a1 = some out) : KC l yX7_numbersOf cX7_numbersOf 1 (some .int) 0 0 true D cy Bd xa [.int a1] [] (some (.int out)) [] := by
  refine kc_start (own := RX7) (by decide +kernel) rfl (Nat.le_of_ble_eq_true rfl) ?_
  intro p e s m args below meth c A C
  unfold f_X7_numbersOf at hf
  refine tt_locs (L' := [(0, .int a1)]) [0] rfl ?_
  refine tt_iload_n (pc := 0) (k := 0) C dX7_numbersOf_0 rfl rfl ?_
  refine sw_eq (x := a1) (k := 0) hf (fun hx hf => ?_) (fun n0 hf => ?_)
  · rw [hx]
    refine tt_tabIn (pc := 1) (tgt := 32) (x := 0) C dX7_numbersOf_1 (by decide) (by decide) rfl (by decide) ?_
    refine tt_iconst (pc := 32) (v := (2 : Int32)) C dX7_numbersOf_32 (by decide) ?_
    obtain rfl := Option.some.inj hf
    exact tt_ireturn (pc := 33) C rfl rfl rfl dX7_numbersOf_33
  · refine sw_eq (x := a1) (k := 1) hf (fun hx hf => ?_) (fun n1 hf => ?_)
    · rw [hx]
      refine tt_tabIn (pc := 1) (tgt := 34) (x := 1) C dX7_numbersOf_1 (by decide) (by decide) rfl (by decide) ?_
      refine tt_iconst (pc := 34) (v := (3 : Int32)) C dX7_numbersOf_34 (by decide) ?_
      obtain rfl := Option.some.inj hf
      exact tt_ireturn (pc := 35) C rfl rfl rfl dX7_numbersOf_35
    · refine sw_eq (x := a1) (k := 2) hf (fun hx hf => ?_) (fun n2 hf => ?_)
      · rw [hx]
        refine tt_tabIn (pc := 1) (tgt := 32) (x := 2) C dX7_numbersOf_1 (by decide) (by decide) rfl (by decide) ?_
        refine tt_iconst (pc := 32) (v := (2 : Int32)) C dX7_numbersOf_32 (by decide) ?_
        obtain rfl := Option.some.inj hf
        exact tt_ireturn (pc := 33) C rfl rfl rfl dX7_numbersOf_33
      · refine sw_eq (x := a1) (k := 3) hf (fun hx hf => ?_) (fun n3 hf => ?_)
        · rw [hx]
          refine tt_tabIn (pc := 1) (tgt := 36) (x := 3) C dX7_numbersOf_1 (by decide) (by decide) rfl (by decide) ?_
          refine tt_iconst (pc := 36) (v := (4 : Int32)) C dX7_numbersOf_36 (by decide) ?_
          obtain rfl := Option.some.inj hf
          exact tt_ireturn (pc := 37) C rfl rfl rfl dX7_numbersOf_37
        · have g0 := sw_ne n0 (z := 0) (by decide)
          have g1 := sw_ne n1 (z := 1) (by decide)
          have g2 := sw_ne n2 (z := 2) (by decide)
          have g3 := sw_ne n3 (z := 3) (by decide)
          refine tt_tabOut (pc := 1) (tgt := 38) C dX7_numbersOf_1 (by omega) (by decide) ?_
          refine tt_iconst (pc := 38) (v := (1 : Int32)) C dX7_numbersOf_38 (by decide) ?_
          obtain rfl := Option.some.inj hf
          exact tt_ireturn (pc := 39) C rfl rfl rfl dX7_numbersOf_39
theorem dX7_takes_0 : decode cX7_takes 0 = .ok (.aload_n 0, 1) := by decide +kernel
theorem dX7_takes_1 : decode cX7_takes 1 = .ok (.invokevirtual 283, 3) := by decide +kernel
theorem dX7_takes_4 : decode cX7_takes 4 = .ok (.iload_n 1, 1) := by decide +kernel
theorem dX7_takes_5 : decode cX7_takes 5 = .ok (.if_icmp .eq 5, 3) := by decide +kernel
theorem dX7_takes_8 : decode cX7_takes 8 = .ok (.iconst 0, 1) := by decide +kernel
theorem dX7_takes_9 : decode cX7_takes 9 = .ok (.ireturn, 1) := by decide +kernel
theorem dX7_takes_10 : decode cX7_takes 10 = .ok (.aload_n 0, 1) := by decide +kernel
theorem dX7_takes_11 : decode cX7_takes 11 = .ok (.dup, 1) := by decide +kernel
theorem dX7_takes_12 : decode cX7_takes 12 = .ok (.getfield 280, 3) := by decide +kernel
theorem dX7_takes_15 : decode cX7_takes 15 = .ok (.iconst 1, 1) := by decide +kernel
theorem dX7_takes_16 : decode cX7_takes 16 = .ok (.iadd, 1) := by decide +kernel
theorem dX7_takes_17 : decode cX7_takes 17 = .ok (.putfield 280, 3) := by decide +kernel
theorem dX7_takes_20 : decode cX7_takes 20 = .ok (.iconst 1, 1) := by decide +kernel
theorem dX7_takes_21 : decode cX7_takes 21 = .ok (.ireturn, 1) := by decide +kernel
set_option maxHeartbeats 4000000 in
set_option maxRecDepth 100000 in
theorem k_X7_takes {l : Launch} {D : va_G} {cy : Nat → ClassId} {Bd : Nat} {xa : Xa} {ad : Nat → Nat} {N : Nat} {sc : Nat → Int32} {ar : Nat → Nat → Int32} {la : Nat → Nat → Int64} {a1 : Int32} {out : Int32 × (Nat → Int32)} (hf : f_X7_takes N sc ar a1 = some out) : KC l yX7_takes cX7_takes 2 (some .boolean) 1 20 false D cy Bd xa [.ref (ad 0), .int a1] (mC cy ad sc ar la) (some (.int out.1)) (mC cy ad out.2 ar la) := by
  refine kc_start (own := RX7) (by decide +kernel) rfl (Nat.le_of_ble_eq_true rfl) ?_
  intro p e s m args below meth c A C
  unfold f_X7_takes at hf
  refine tt_locs (L' := [(0, .ref (ad 0)), (1, .int a1)]) [0, 1] rfl ?_
  refine tt_aload_n (pc := 0) (k := 0) C dX7_takes_0 rfl rfl ?_
  obtain ⟨r1, hr1, hf⟩ := bind_some hf
  refine tt_callR (pc := 1) (ws := (mC cy ad sc ar la)) (q0 := 0) (ci := 7) (rest := []) (st' := [.int r1]) C (k_X7_here hr1) okX7_here q6_156 rfl mC_obj (fun _ h => h) rfl rfl rfl (Nat.le_of_ble_eq_true rfl) ⟨Nat.le_of_ble_eq_true rfl, Nat.le_of_ble_eq_true rfl⟩ dX7_takes_1 ?_
  refine tt_iload_n (pc := 4) (k := 1) C dX7_takes_4 rfl rfl ?_
  refine tt_icmp_eq (pc := 5) (tgt := 10) C dX7_takes_5 (by decide) hf (fun hf => ?_) (fun hf => ?_)
  · refine tt_aload_n (pc := 10) (k := 0) C dX7_takes_10 rfl rfl ?_
    refine tt_dup (pc := 11) C dX7_takes_11 rfl ?_
    refine tt_get (pc := 12) (ws := (mC cy ad sc ar la)) (ci := 7) (v := .int (sc 33)) C fiX7 rfl 0 mC_obj 33 (by decide) q4_193 rfl dX7_takes_12 ?_
    refine tt_iconst (pc := 15) (v := (1 : Int32)) C dX7_takes_15 (by decide) ?_
    refine tt_iadd (pc := 16) C dX7_takes_16 ?_
    refine tt_put (pc := 17) (ws := (mC cy ad sc ar la)) (ci := 7) (ty := .int) (ws' := (mC cy ad (upd sc 33 ((sc 33) + (1 : Int32))) ar la)) C rfl fiX7 rfl 0 mC_obj 33 (by decide) q4_193 rfl rfl rfl rfl (Nat.le_of_ble_eq_true rfl) dX7_takes_17 mC_put33 ?_
    refine tt_iconst (pc := 20) (v := (1 : Int32)) C dX7_takes_20 (by decide) ?_
    obtain rfl := Option.some.inj hf
    exact tt_zreturn (pc := 21) C rfl rfl rfl rfl dX7_takes_21
  · refine tt_iconst (pc := 8) (v := (0 : Int32)) C dX7_takes_8 (by decide) ?_
    obtain rfl := Option.some.inj hf
    exact tt_zreturn (pc := 9) C rfl rfl rfl rfl dX7_takes_9
theorem dX7_readNumber_0 : decode cX7_readNumber 0 = .ok (.aload_n 0, 1) := by decide +kernel
theorem dX7_readNumber_1 : decode cX7_readNumber 1 = .ok (.bipush 32, 2) := by decide +kernel
theorem dX7_readNumber_3 : decode cX7_readNumber 3 = .ok (.invokevirtual 299, 3) := by decide +kernel
theorem dX7_readNumber_6 : decode cX7_readNumber 6 = .ok (.ifCond .eq 17, 3) := by decide +kernel
theorem dX7_readNumber_9 : decode cX7_readNumber 9 = .ok (.aload_n 0, 1) := by decide +kernel
theorem dX7_readNumber_10 : decode cX7_readNumber 10 = .ok (.invokevirtual 283, 3) := by decide +kernel
theorem dX7_readNumber_13 : decode cX7_readNumber 13 = .ok (.bipush 48, 2) := by decide +kernel
theorem dX7_readNumber_15 : decode cX7_readNumber 15 = .ok (.bipush 57, 2) := by decide +kernel
theorem dX7_readNumber_17 : decode cX7_readNumber 17 = .ok (.invokestatic 102, 3) := by decide +kernel
theorem dX7_readNumber_20 : decode cX7_readNumber 20 = .ok (.ifCond .ne 5, 3) := by decide +kernel
theorem dX7_readNumber_23 : decode cX7_readNumber 23 = .ok (.iconst 0, 1) := by decide +kernel
theorem dX7_readNumber_24 : decode cX7_readNumber 24 = .ok (.ireturn, 1) := by decide +kernel
theorem dX7_readNumber_25 : decode cX7_readNumber 25 = .ok (.aload_n 0, 1) := by decide +kernel
theorem dX7_readNumber_26 : decode cX7_readNumber 26 = .ok (.getfield 90, 3) := by decide +kernel
theorem dX7_readNumber_29 : decode cX7_readNumber 29 = .ok (.iload_n 1, 1) := by decide +kernel
theorem dX7_readNumber_30 : decode cX7_readNumber 30 = .ok (.aload_n 0, 1) := by decide +kernel
theorem dX7_readNumber_31 : decode cX7_readNumber 31 = .ok (.invokevirtual 283, 3) := by decide +kernel
theorem dX7_readNumber_34 : decode cX7_readNumber 34 = .ok (.bipush 48, 2) := by decide +kernel
theorem dX7_readNumber_36 : decode cX7_readNumber 36 = .ok (.isub, 1) := by decide +kernel
theorem dX7_readNumber_37 : decode cX7_readNumber 37 = .ok (.iastore, 1) := by decide +kernel
theorem dX7_readNumber_38 : decode cX7_readNumber 38 = .ok (.aload_n 0, 1) := by decide +kernel
theorem dX7_readNumber_39 : decode cX7_readNumber 39 = .ok (.dup, 1) := by decide +kernel
theorem dX7_readNumber_40 : decode cX7_readNumber 40 = .ok (.getfield 280, 3) := by decide +kernel
theorem dX7_readNumber_43 : decode cX7_readNumber 43 = .ok (.iconst 1, 1) := by decide +kernel
theorem dX7_readNumber_44 : decode cX7_readNumber 44 = .ok (.iadd, 1) := by decide +kernel
theorem dX7_readNumber_45 : decode cX7_readNumber 45 = .ok (.putfield 280, 3) := by decide +kernel
theorem dX7_readNumber_48 : decode cX7_readNumber 48 = .ok (.aload_n 0, 1) := by decide +kernel
theorem dX7_readNumber_49 : decode cX7_readNumber 49 = .ok (.invokevirtual 283, 3) := by decide +kernel
theorem dX7_readNumber_52 : decode cX7_readNumber 52 = .ok (.bipush 48, 2) := by decide +kernel
theorem dX7_readNumber_54 : decode cX7_readNumber 54 = .ok (.bipush 57, 2) := by decide +kernel
theorem dX7_readNumber_56 : decode cX7_readNumber 56 = .ok (.invokestatic 102, 3) := by decide +kernel
theorem dX7_readNumber_59 : decode cX7_readNumber 59 = .ok (.ifCond .eq 36, 3) := by decide +kernel
theorem dX7_readNumber_62 : decode cX7_readNumber 62 = .ok (.aload_n 0, 1) := by decide +kernel
theorem dX7_readNumber_63 : decode cX7_readNumber 63 = .ok (.getfield 90, 3) := by decide +kernel
theorem dX7_readNumber_66 : decode cX7_readNumber 66 = .ok (.iload_n 1, 1) := by decide +kernel
theorem dX7_readNumber_67 : decode cX7_readNumber 67 = .ok (.bipush 10, 2) := by decide +kernel
theorem dX7_readNumber_69 : decode cX7_readNumber 69 = .ok (.aload_n 0, 1) := by decide +kernel
theorem dX7_readNumber_70 : decode cX7_readNumber 70 = .ok (.getfield 90, 3) := by decide +kernel
theorem dX7_readNumber_73 : decode cX7_readNumber 73 = .ok (.iload_n 1, 1) := by decide +kernel
theorem dX7_readNumber_74 : decode cX7_readNumber 74 = .ok (.iaload, 1) := by decide +kernel
theorem dX7_readNumber_75 : decode cX7_readNumber 75 = .ok (.imul, 1) := by decide +kernel
theorem dX7_readNumber_76 : decode cX7_readNumber 76 = .ok (.aload_n 0, 1) := by decide +kernel
theorem dX7_readNumber_77 : decode cX7_readNumber 77 = .ok (.invokevirtual 283, 3) := by decide +kernel
theorem dX7_readNumber_80 : decode cX7_readNumber 80 = .ok (.iadd, 1) := by decide +kernel
theorem dX7_readNumber_81 : decode cX7_readNumber 81 = .ok (.bipush 48, 2) := by decide +kernel
theorem dX7_readNumber_83 : decode cX7_readNumber 83 = .ok (.isub, 1) := by decide +kernel
theorem dX7_readNumber_84 : decode cX7_readNumber 84 = .ok (.iastore, 1) := by decide +kernel
theorem dX7_readNumber_85 : decode cX7_readNumber 85 = .ok (.aload_n 0, 1) := by decide +kernel
theorem dX7_readNumber_86 : decode cX7_readNumber 86 = .ok (.dup, 1) := by decide +kernel
theorem dX7_readNumber_87 : decode cX7_readNumber 87 = .ok (.getfield 280, 3) := by decide +kernel
theorem dX7_readNumber_90 : decode cX7_readNumber 90 = .ok (.iconst 1, 1) := by decide +kernel
theorem dX7_readNumber_91 : decode cX7_readNumber 91 = .ok (.iadd, 1) := by decide +kernel
theorem dX7_readNumber_92 : decode cX7_readNumber 92 = .ok (.putfield 280, 3) := by decide +kernel
theorem dX7_readNumber_95 : decode cX7_readNumber 95 = .ok (.iconst 1, 1) := by decide +kernel
theorem dX7_readNumber_96 : decode cX7_readNumber 96 = .ok (.ireturn, 1) := by decide +kernel
set_option maxHeartbeats 4000000 in
set_option maxRecDepth 100000 in
theorem k_X7_readNumber {l : Launch} {D : va_G} {cy : Nat → ClassId} {Bd : Nat} {xa : Xa} {ad : Nat → Nat} {N : Nat} {sc : Nat → Int32} {ar : Nat → Nat → Int32} {la : Nat → Nat → Int64} {a1 : Int32} {out : Int32 × (Nat → Int32) × (Nat → Nat → Int32)} (hf : f_X7_readNumber N sc ar a1 = some out) : KC l yX7_readNumber cX7_readNumber 2 (some .boolean) 2 41 false D cy Bd xa [.ref (ad 0), .int a1] (mC cy ad sc ar la) (some (.int out.1)) (mC cy ad out.2.1 out.2.2 la) := by
  refine kc_start (own := RX7) (by decide +kernel) rfl (Nat.le_of_ble_eq_true rfl) ?_
  intro p e s m args below meth c A C
  unfold f_X7_readNumber at hf
  refine tt_locs (L' := [(0, .ref (ad 0)), (1, .int a1)]) [0, 1] rfl ?_
  refine tt_aload_n (pc := 0) (k := 0) C dX7_readNumber_0 rfl rfl ?_
  refine tt_bipush (pc := 1) (v := (32 : Int32)) C dX7_readNumber_1 (by decide) ?_
  obtain ⟨r1, hr1, hf⟩ := bind_some hf
  refine tt_callM (pc := 3) (ws := (mC cy ad sc ar la)) (q0 := 0) (ci := 7) (rest := []) (st' := [.int r1.1]) C rfl (k_X7_takes hr1) okX7_takes q6_164 rfl mC_obj rfl rfl rfl (Nat.le_of_ble_eq_true rfl) ⟨Nat.le_of_ble_eq_true rfl, Nat.le_of_ble_eq_true rfl⟩ dX7_readNumber_3 ?_
  refine tt_if_eq (pc := 6) (tgt := 23) C dX7_readNumber_6 (by decide) hf (fun hf => ?_) (fun hf => ?_)
  · refine tt_iconst (pc := 23) (v := (0 : Int32)) C dX7_readNumber_23 (by decide) ?_
    obtain rfl := Option.some.inj hf
    exact tt_zreturn (pc := 24) C rfl rfl rfl rfl dX7_readNumber_24
  · refine tt_aload_n (pc := 9) (k := 0) C dX7_readNumber_9 rfl rfl ?_
    obtain ⟨r2, hr2, hf⟩ := bind_some hf
    refine tt_callR (pc := 10) (ws := (mC cy ad r1.2 ar la)) (q0 := 0) (ci := 7) (rest := []) (st' := [.int r2]) C (k_X7_here hr2) okX7_here q6_156 rfl mC_obj (fun _ h => h) rfl rfl rfl (Nat.le_of_ble_eq_true rfl) ⟨Nat.le_of_ble_eq_true rfl, Nat.le_of_ble_eq_true rfl⟩ dX7_readNumber_10 ?_
    refine tt_bipush (pc := 13) (v := (48 : Int32)) C dX7_readNumber_13 (by decide) ?_
    refine tt_bipush (pc := 15) (v := (57 : Int32)) C dX7_readNumber_15 (by decide) ?_
    obtain ⟨r3, hr3, hf⟩ := bind_some hf
    refine tt_callS (pc := 17) (ws := (mC cy ad r1.2 ar la)) (rest := []) (st' := [.int r3]) C (k_X7_in hr3) okX7_in q5_52 (fun _ h => absurd h List.not_mem_nil) rfl rfl rfl (Nat.le_of_ble_eq_true rfl) ⟨Nat.le_of_ble_eq_true rfl, Nat.le_of_ble_eq_true rfl⟩ dX7_readNumber_17 ?_
    refine tt_if_ne (pc := 20) (tgt := 25) C dX7_readNumber_20 (by decide) hf (fun hf => ?_) (fun hf => ?_)
    · refine tt_aload_n (pc := 25) (k := 0) C dX7_readNumber_25 rfl rfl ?_
      refine tt_get (pc := 26) (ws := (mC cy ad r1.2 ar la)) (ci := 7) (v := .ref (ad 34)) C fiX7 rfl 0 mC_obj 34 (by decide) q4_194 rfl dX7_readNumber_26 ?_
      refine tt_iload_n (pc := 29) (k := 1) C dX7_readNumber_29 rfl rfl ?_
      refine tt_aload_n (pc := 30) (k := 0) C dX7_readNumber_30 rfl rfl ?_
      obtain ⟨r4, hr4, hf⟩ := bind_some hf
      refine tt_callR (pc := 31) (ws := (mC cy ad r1.2 ar la)) (q0 := 0) (ci := 7) (rest := [.int a1, .ref (ad 34)]) (st' := [.int r4, .int a1, .ref (ad 34)]) C (k_X7_here hr4) okX7_here q6_156 rfl mC_obj (fun _ h => h) rfl rfl rfl (Nat.le_of_ble_eq_true rfl) ⟨Nat.le_of_ble_eq_true rfl, Nat.le_of_ble_eq_true rfl⟩ dX7_readNumber_31 ?_
      refine tt_bipush (pc := 34) (v := (48 : Int32)) C dX7_readNumber_34 (by decide) ?_
      refine tt_isub (pc := 36) C dX7_readNumber_36 ?_
      refine tt_iastore (pc := 37) (ws := (mC cy ad r1.2 ar la)) (n := 4) (f := (ar 34)) (ws' := (mC cy ad r1.2 (va_up ar 34 (upd (ar 34) (ix a1) (r4 - (48 : Int32)))) la)) C rfl 25 0 mC_get34 rfl hf dX7_readNumber_37 mC_set34 (fun hf => ?_)
      refine tt_aload_n (pc := 38) (k := 0) C dX7_readNumber_38 rfl rfl ?_
      refine tt_dup (pc := 39) C dX7_readNumber_39 rfl ?_
      refine tt_get (pc := 40) (ws := (mC cy ad r1.2 (va_up ar 34 (upd (ar 34) (ix a1) (r4 - (48 : Int32)))) la)) (ci := 7) (v := .int (r1.2 33)) C fiX7 rfl 0 mC_obj 33 (by decide) q4_193 rfl dX7_readNumber_40 ?_
      refine tt_iconst (pc := 43) (v := (1 : Int32)) C dX7_readNumber_43 (by decide) ?_
      refine tt_iadd (pc := 44) C dX7_readNumber_44 ?_
      refine tt_put (pc := 45) (ws := (mC cy ad r1.2 (va_up ar 34 (upd (ar 34) (ix a1) (r4 - (48 : Int32)))) la)) (ci := 7) (ty := .int) (ws' := (mC cy ad (upd r1.2 33 ((r1.2 33) + (1 : Int32))) (va_up ar 34 (upd (ar 34) (ix a1) (r4 - (48 : Int32)))) la)) C rfl fiX7 rfl 0 mC_obj 33 (by decide) q4_193 rfl rfl rfl rfl (Nat.le_of_ble_eq_true rfl) dX7_readNumber_45 mC_put33 ?_
      refine tt_aload_n (pc := 48) (k := 0) C dX7_readNumber_48 rfl rfl ?_
      obtain ⟨r5, hr5, hf⟩ := bind_some hf
      refine tt_callR (pc := 49) (ws := (mC cy ad (upd r1.2 33 ((r1.2 33) + (1 : Int32))) (va_up ar 34 (upd (ar 34) (ix a1) (r4 - (48 : Int32)))) la)) (q0 := 0) (ci := 7) (rest := []) (st' := [.int r5]) C (k_X7_here hr5) okX7_here q6_156 rfl mC_obj (fun _ h => h) rfl rfl rfl (Nat.le_of_ble_eq_true rfl) ⟨Nat.le_of_ble_eq_true rfl, Nat.le_of_ble_eq_true rfl⟩ dX7_readNumber_49 ?_
      refine tt_bipush (pc := 52) (v := (48 : Int32)) C dX7_readNumber_52 (by decide) ?_
      refine tt_bipush (pc := 54) (v := (57 : Int32)) C dX7_readNumber_54 (by decide) ?_
      obtain ⟨r6, hr6, hf⟩ := bind_some hf
      refine tt_callS (pc := 56) (ws := (mC cy ad (upd r1.2 33 ((r1.2 33) + (1 : Int32))) (va_up ar 34 (upd (ar 34) (ix a1) (r4 - (48 : Int32)))) la)) (rest := []) (st' := [.int r6]) C (k_X7_in hr6) okX7_in q5_52 (fun _ h => absurd h List.not_mem_nil) rfl rfl rfl (Nat.le_of_ble_eq_true rfl) ⟨Nat.le_of_ble_eq_true rfl, Nat.le_of_ble_eq_true rfl⟩ dX7_readNumber_56 ?_
      obtain ⟨j7, hj7, hf⟩ := bind_some hf
      have k8 : TT p l e { frames := 2, cells := 0, slots := 0, locals := 41 } s m args below meth c 2 D A false (some (.int out.1)) (mC cy ad out.2.1 out.2.2 la) 95 [] [] (mC cy ad j7.1 j7.2 la) := by
        refine tt_iconst (pc := 95) (v := (1 : Int32)) C dX7_readNumber_95 (by decide) ?_
        obtain rfl := Option.some.inj hf
        exact tt_zreturn (pc := 96) C rfl rfl rfl rfl dX7_readNumber_96
      refine tt_if_eq (pc := 59) (tgt := 95) C dX7_readNumber_59 (by decide) hj7 (fun hj7 => ?_) (fun hj7 => ?_)
      · obtain rfl := Option.some.inj hj7
        exact tt_locs [] rfl k8
      · refine tt_aload_n (pc := 62) (k := 0) C dX7_readNumber_62 rfl rfl ?_
        refine tt_get (pc := 63) (ws := (mC cy ad (upd r1.2 33 ((r1.2 33) + (1 : Int32))) (va_up ar 34 (upd (ar 34) (ix a1) (r4 - (48 : Int32)))) la)) (ci := 7) (v := .ref (ad 34)) C fiX7 rfl 0 mC_obj 34 (by decide) q4_194 rfl dX7_readNumber_63 ?_
        refine tt_iload_n (pc := 66) (k := 1) C dX7_readNumber_66 rfl rfl ?_
        refine tt_bipush (pc := 67) (v := (10 : Int32)) C dX7_readNumber_67 (by decide) ?_
        refine tt_aload_n (pc := 69) (k := 0) C dX7_readNumber_69 rfl rfl ?_
        refine tt_get (pc := 70) (ws := (mC cy ad (upd r1.2 33 ((r1.2 33) + (1 : Int32))) (va_up ar 34 (upd (ar 34) (ix a1) (r4 - (48 : Int32)))) la)) (ci := 7) (v := .ref (ad 34)) C fiX7 rfl 0 mC_obj 34 (by decide) q4_194 rfl dX7_readNumber_70 ?_
        refine tt_iload_n (pc := 73) (k := 1) C dX7_readNumber_73 rfl rfl ?_
        refine tt_iaload (pc := 74) (ws := (mC cy ad (upd r1.2 33 ((r1.2 33) + (1 : Int32))) (va_up ar 34 (upd (ar 34) (ix a1) (r4 - (48 : Int32)))) la)) (n := 4) (f := (upd (ar 34) (ix a1) (r4 - (48 : Int32)))) C 25 0 mC_get34 rfl hj7 dX7_readNumber_74 (fun hj7 => ?_)
        refine tt_imul (pc := 75) C dX7_readNumber_75 ?_
        refine tt_aload_n (pc := 76) (k := 0) C dX7_readNumber_76 rfl rfl ?_
        obtain ⟨r9, hr9, hj7⟩ := bind_some hj7
        refine tt_callR (pc := 77) (ws := (mC cy ad (upd r1.2 33 ((r1.2 33) + (1 : Int32))) (va_up ar 34 (upd (ar 34) (ix a1) (r4 - (48 : Int32)))) la)) (q0 := 0) (ci := 7) (rest := [.int ((10 : Int32) * ((upd (ar 34) (ix a1) (r4 - (48 : Int32))) (ix a1))), .int a1, .ref (ad 34)]) (st' := [.int r9, .int ((10 : Int32) * ((upd (ar 34) (ix a1) (r4 - (48 : Int32))) (ix a1))), .int a1, .ref (ad 34)]) C (k_X7_here hr9) okX7_here q6_156 rfl mC_obj (fun _ h => h) rfl rfl rfl (Nat.le_of_ble_eq_true rfl) ⟨Nat.le_of_ble_eq_true rfl, Nat.le_of_ble_eq_true rfl⟩ dX7_readNumber_77 ?_
        refine tt_iadd (pc := 80) C dX7_readNumber_80 ?_
        refine tt_bipush (pc := 81) (v := (48 : Int32)) C dX7_readNumber_81 (by decide) ?_
        refine tt_isub (pc := 83) C dX7_readNumber_83 ?_
        refine tt_iastore (pc := 84) (ws := (mC cy ad (upd r1.2 33 ((r1.2 33) + (1 : Int32))) (va_up ar 34 (upd (ar 34) (ix a1) (r4 - (48 : Int32)))) la)) (n := 4) (f := (upd (ar 34) (ix a1) (r4 - (48 : Int32)))) (ws' := (mC cy ad (upd r1.2 33 ((r1.2 33) + (1 : Int32))) (va_up (va_up ar 34 (upd (ar 34) (ix a1) (r4 - (48 : Int32)))) 34 (upd (upd (ar 34) (ix a1) (r4 - (48 : Int32))) (ix a1) ((((10 : Int32) * ((upd (ar 34) (ix a1) (r4 - (48 : Int32))) (ix a1))) + r9) - (48 : Int32)))) la)) C rfl 25 0 mC_get34 rfl hj7 dX7_readNumber_84 mC_set34 (fun hj7 => ?_)
        refine tt_aload_n (pc := 85) (k := 0) C dX7_readNumber_85 rfl rfl ?_
        refine tt_dup (pc := 86) C dX7_readNumber_86 rfl ?_
        refine tt_get (pc := 87) (ws := (mC cy ad (upd r1.2 33 ((r1.2 33) + (1 : Int32))) (va_up (va_up ar 34 (upd (ar 34) (ix a1) (r4 - (48 : Int32)))) 34 (upd (upd (ar 34) (ix a1) (r4 - (48 : Int32))) (ix a1) ((((10 : Int32) * ((upd (ar 34) (ix a1) (r4 - (48 : Int32))) (ix a1))) + r9) - (48 : Int32)))) la)) (ci := 7) (v := .int ((r1.2 33) + (1 : Int32))) C fiX7 rfl 0 mC_obj 33 (by decide) q4_193 rfl dX7_readNumber_87 ?_
        refine tt_iconst (pc := 90) (v := (1 : Int32)) C dX7_readNumber_90 (by decide) ?_
        refine tt_iadd (pc := 91) C dX7_readNumber_91 ?_
        refine tt_put (pc := 92) (ws := (mC cy ad (upd r1.2 33 ((r1.2 33) + (1 : Int32))) (va_up (va_up ar 34 (upd (ar 34) (ix a1) (r4 - (48 : Int32)))) 34 (upd (upd (ar 34) (ix a1) (r4 - (48 : Int32))) (ix a1) ((((10 : Int32) * ((upd (ar 34) (ix a1) (r4 - (48 : Int32))) (ix a1))) + r9) - (48 : Int32)))) la)) (ci := 7) (ty := .int) (ws' := (mC cy ad (upd (upd r1.2 33 ((r1.2 33) + (1 : Int32))) 33 (((r1.2 33) + (1 : Int32)) + (1 : Int32))) (va_up (va_up ar 34 (upd (ar 34) (ix a1) (r4 - (48 : Int32)))) 34 (upd (upd (ar 34) (ix a1) (r4 - (48 : Int32))) (ix a1) ((((10 : Int32) * ((upd (ar 34) (ix a1) (r4 - (48 : Int32))) (ix a1))) + r9) - (48 : Int32)))) la)) C rfl fiX7 rfl 0 mC_obj 33 (by decide) q4_193 rfl rfl rfl rfl (Nat.le_of_ble_eq_true rfl) dX7_readNumber_92 mC_put33 ?_
        obtain rfl := Option.some.inj hj7
        exact tt_locs [] rfl k8
    · refine tt_iconst (pc := 23) (v := (0 : Int32)) C dX7_readNumber_23 (by decide) ?_
      obtain rfl := Option.some.inj hf
      exact tt_zreturn (pc := 24) C rfl rfl rfl rfl dX7_readNumber_24
theorem dX7_reads_0 : decode cX7_reads 0 = .ok (.aload_n 0, 1) := by decide +kernel
theorem dX7_reads_1 : decode cX7_reads 1 = .ok (.iconst 0, 1) := by decide +kernel
theorem dX7_reads_2 : decode cX7_reads 2 = .ok (.putfield 302, 3) := by decide +kernel
theorem dX7_reads_5 : decode cX7_reads 5 = .ok (.aload_n 0, 1) := by decide +kernel
theorem dX7_reads_6 : decode cX7_reads 6 = .ok (.bipush 32, 2) := by decide +kernel
theorem dX7_reads_8 : decode cX7_reads 8 = .ok (.invokevirtual 299, 3) := by decide +kernel
theorem dX7_reads_11 : decode cX7_reads 11 = .ok (.ifCond .ne 5, 3) := by decide +kernel
theorem dX7_reads_14 : decode cX7_reads 14 = .ok (.iconst 0, 1) := by decide +kernel
theorem dX7_reads_15 : decode cX7_reads 15 = .ok (.ireturn, 1) := by decide +kernel
theorem dX7_reads_16 : decode cX7_reads 16 = .ok (.aload_n 0, 1) := by decide +kernel
theorem dX7_reads_17 : decode cX7_reads 17 = .ok (.getfield 302, 3) := by decide +kernel
theorem dX7_reads_20 : decode cX7_reads 20 = .ok (.bipush 7, 2) := by decide +kernel
theorem dX7_reads_22 : decode cX7_reads 22 = .ok (.if_icmp .ge 53, 3) := by decide +kernel
theorem dX7_reads_25 : decode cX7_reads 25 = .ok (.aload_n 0, 1) := by decide +kernel
theorem dX7_reads_26 : decode cX7_reads 26 = .ok (.invokevirtual 283, 3) := by decide +kernel
theorem dX7_reads_29 : decode cX7_reads 29 = .ok (.bipush 97, 2) := by decide +kernel
theorem dX7_reads_31 : decode cX7_reads 31 = .ok (.bipush 122, 2) := by decide +kernel
theorem dX7_reads_33 : decode cX7_reads 33 = .ok (.invokestatic 102, 3) := by decide +kernel
theorem dX7_reads_36 : decode cX7_reads 36 = .ok (.ifCond .eq 39, 3) := by decide +kernel
theorem dX7_reads_39 : decode cX7_reads 39 = .ok (.aload_n 0, 1) := by decide +kernel
theorem dX7_reads_40 : decode cX7_reads 40 = .ok (.getfield 93, 3) := by decide +kernel
theorem dX7_reads_43 : decode cX7_reads 43 = .ok (.aload_n 0, 1) := by decide +kernel
theorem dX7_reads_44 : decode cX7_reads 44 = .ok (.getfield 302, 3) := by decide +kernel
theorem dX7_reads_47 : decode cX7_reads 47 = .ok (.aload_n 0, 1) := by decide +kernel
theorem dX7_reads_48 : decode cX7_reads 48 = .ok (.invokevirtual 283, 3) := by decide +kernel
theorem dX7_reads_51 : decode cX7_reads 51 = .ok (.iastore, 1) := by decide +kernel
theorem dX7_reads_52 : decode cX7_reads 52 = .ok (.aload_n 0, 1) := by decide +kernel
theorem dX7_reads_53 : decode cX7_reads 53 = .ok (.dup, 1) := by decide +kernel
theorem dX7_reads_54 : decode cX7_reads 54 = .ok (.getfield 302, 3) := by decide +kernel
theorem dX7_reads_57 : decode cX7_reads 57 = .ok (.iconst 1, 1) := by decide +kernel
theorem dX7_reads_58 : decode cX7_reads 58 = .ok (.iadd, 1) := by decide +kernel
theorem dX7_reads_59 : decode cX7_reads 59 = .ok (.putfield 302, 3) := by decide +kernel
theorem dX7_reads_62 : decode cX7_reads 62 = .ok (.aload_n 0, 1) := by decide +kernel
theorem dX7_reads_63 : decode cX7_reads 63 = .ok (.dup, 1) := by decide +kernel
theorem dX7_reads_64 : decode cX7_reads 64 = .ok (.getfield 280, 3) := by decide +kernel
theorem dX7_reads_67 : decode cX7_reads 67 = .ok (.iconst 1, 1) := by decide +kernel
theorem dX7_reads_68 : decode cX7_reads 68 = .ok (.iadd, 1) := by decide +kernel
theorem dX7_reads_69 : decode cX7_reads 69 = .ok (.putfield 280, 3) := by decide +kernel
theorem dX7_reads_72 : decode cX7_reads 72 = .ok (.goto (-56), 3) := by decide +kernel
theorem dX7_reads_75 : decode cX7_reads 75 = .ok (.aload_n 0, 1) := by decide +kernel
theorem dX7_reads_76 : decode cX7_reads 76 = .ok (.getfield 302, 3) := by decide +kernel
theorem dX7_reads_79 : decode cX7_reads 79 = .ok (.ifCond .le 7, 3) := by decide +kernel
theorem dX7_reads_82 : decode cX7_reads 82 = .ok (.iconst 1, 1) := by decide +kernel
theorem dX7_reads_83 : decode cX7_reads 83 = .ok (.goto 4, 3) := by decide +kernel
theorem dX7_reads_86 : decode cX7_reads 86 = .ok (.iconst 0, 1) := by decide +kernel
theorem dX7_reads_87 : decode cX7_reads 87 = .ok (.ireturn, 1) := by decide +kernel
set_option maxHeartbeats 4000000 in
set_option maxRecDepth 100000 in
theorem l_X7_reads_16 {p : Program} {l : Launch} {e : Env} {s : State} {m : MethodId} {args : Array Value} {below : List Frame} {meth : Method} {c : Code} {D : va_G} {cy : Nat → ClassId} {A : Nat → Prop} {Bd : Nat} {xa : Xa} {ad : Nat → Nat} {β : Type} {vO : Option Value} {wO : va_W} {N : Nat} {la : Nat → Nat → Int64} {kx : (Nat → Int32) → (Nat → Nat → Int32) → Option (β)} {out : β} (C : CC p s m args meth c cX7_reads RX7 1 (some .boolean) D cy A false Bd xa) (hk : ∀ (sc1 : Nat → Int32) (ar1 : Nat → Nat → Int32), kx sc1 ar1 = some out → TT p l e { frames := 2, cells := 0, slots := 0, locals := 41 } s m args below meth c 1 D A false vO wO 75 [(0, .ref (ad 0))] [] (mC cy ad sc1 ar1 la)) {n : Nat} {sc : Nat → Int32} {ar : Nat → Nat → Int32} (hf : f_X7_reads_L16 N kx n sc ar = some out) : TT p l e { frames := 2, cells := 0, slots := 0, locals := 41 } s m args below meth c 1 D A false vO wO 16 [(0, .ref (ad 0))] [] (mC cy ad sc ar la) := by
  induction n generalizing sc ar with
  | zero => cases hf
  | succ n ih =>
    rw [f_X7_reads_L16] at hf
    refine tt_aload_n (pc := 16) (k := 0) C dX7_reads_16 rfl rfl ?_
    refine tt_get (pc := 17) (ws := (mC cy ad sc ar la)) (ci := 7) (v := .int (sc 36)) C fiX7 rfl 0 mC_obj 36 (by decide) q4_196 rfl dX7_reads_17 ?_
    refine tt_bipush (pc := 20) (v := (7 : Int32)) C dX7_reads_20 (by decide) ?_
    refine tt_icmp_ge (pc := 22) (tgt := 75) C dX7_reads_22 (by decide) hf (fun hf => ?_) (fun hf => ?_)
    · exact tt_locs [0] rfl (hk _ _ hf)
    · refine tt_aload_n (pc := 25) (k := 0) C dX7_reads_25 rfl rfl ?_
      obtain ⟨r2, hr2, hf⟩ := bind_some hf
      refine tt_callR (pc := 26) (ws := (mC cy ad sc ar la)) (q0 := 0) (ci := 7) (rest := []) (st' := [.int r2]) C (k_X7_here hr2) okX7_here q6_156 rfl mC_obj (fun _ h => h) rfl rfl rfl (Nat.le_of_ble_eq_true rfl) ⟨Nat.le_of_ble_eq_true rfl, Nat.le_of_ble_eq_true rfl⟩ dX7_reads_26 ?_
      refine tt_bipush (pc := 29) (v := (97 : Int32)) C dX7_reads_29 (by decide) ?_
      refine tt_bipush (pc := 31) (v := (122 : Int32)) C dX7_reads_31 (by decide) ?_
      obtain ⟨r3, hr3, hf⟩ := bind_some hf
      refine tt_callS (pc := 33) (ws := (mC cy ad sc ar la)) (rest := []) (st' := [.int r3]) C (k_X7_in hr3) okX7_in q5_52 (fun _ h => absurd h List.not_mem_nil) rfl rfl rfl (Nat.le_of_ble_eq_true rfl) ⟨Nat.le_of_ble_eq_true rfl, Nat.le_of_ble_eq_true rfl⟩ dX7_reads_33 ?_
      refine tt_if_eq (pc := 36) (tgt := 75) C dX7_reads_36 (by decide) hf (fun hf => ?_) (fun hf => ?_)
      · exact tt_locs [0] rfl (hk _ _ hf)
      · refine tt_aload_n (pc := 39) (k := 0) C dX7_reads_39 rfl rfl ?_
        refine tt_get (pc := 40) (ws := (mC cy ad sc ar la)) (ci := 7) (v := .ref (ad 35)) C fiX7 rfl 0 mC_obj 35 (by decide) q4_195 rfl dX7_reads_40 ?_
        refine tt_aload_n (pc := 43) (k := 0) C dX7_reads_43 rfl rfl ?_
        refine tt_get (pc := 44) (ws := (mC cy ad sc ar la)) (ci := 7) (v := .int (sc 36)) C fiX7 rfl 0 mC_obj 36 (by decide) q4_196 rfl dX7_reads_44 ?_
        refine tt_aload_n (pc := 47) (k := 0) C dX7_reads_47 rfl rfl ?_
        obtain ⟨r4, hr4, hf⟩ := bind_some hf
        refine tt_callR (pc := 48) (ws := (mC cy ad sc ar la)) (q0 := 0) (ci := 7) (rest := [.int (sc 36), .ref (ad 35)]) (st' := [.int r4, .int (sc 36), .ref (ad 35)]) C (k_X7_here hr4) okX7_here q6_156 rfl mC_obj (fun _ h => h) rfl rfl rfl (Nat.le_of_ble_eq_true rfl) ⟨Nat.le_of_ble_eq_true rfl, Nat.le_of_ble_eq_true rfl⟩ dX7_reads_48 ?_
        refine tt_iastore (pc := 51) (ws := (mC cy ad sc ar la)) (n := 7) (f := (ar 35)) (ws' := (mC cy ad sc (va_up ar 35 (upd (ar 35) (ix (sc 36)) r4)) la)) C rfl 26 0 mC_get35 rfl hf dX7_reads_51 mC_set35 (fun hf => ?_)
        refine tt_aload_n (pc := 52) (k := 0) C dX7_reads_52 rfl rfl ?_
        refine tt_dup (pc := 53) C dX7_reads_53 rfl ?_
        refine tt_get (pc := 54) (ws := (mC cy ad sc (va_up ar 35 (upd (ar 35) (ix (sc 36)) r4)) la)) (ci := 7) (v := .int (sc 36)) C fiX7 rfl 0 mC_obj 36 (by decide) q4_196 rfl dX7_reads_54 ?_
        refine tt_iconst (pc := 57) (v := (1 : Int32)) C dX7_reads_57 (by decide) ?_
        refine tt_iadd (pc := 58) C dX7_reads_58 ?_
        refine tt_put (pc := 59) (ws := (mC cy ad sc (va_up ar 35 (upd (ar 35) (ix (sc 36)) r4)) la)) (ci := 7) (ty := .int) (ws' := (mC cy ad (upd sc 36 ((sc 36) + (1 : Int32))) (va_up ar 35 (upd (ar 35) (ix (sc 36)) r4)) la)) C rfl fiX7 rfl 0 mC_obj 36 (by decide) q4_196 rfl rfl rfl rfl (Nat.le_of_ble_eq_true rfl) dX7_reads_59 mC_put36 ?_
        refine tt_aload_n (pc := 62) (k := 0) C dX7_reads_62 rfl rfl ?_
        refine tt_dup (pc := 63) C dX7_reads_63 rfl ?_
        refine tt_get (pc := 64) (ws := (mC cy ad (upd sc 36 ((sc 36) + (1 : Int32))) (va_up ar 35 (upd (ar 35) (ix (sc 36)) r4)) la)) (ci := 7) (v := .int (sc 33)) C fiX7 rfl 0 mC_obj 33 (by decide) q4_193 rfl dX7_reads_64 ?_
        refine tt_iconst (pc := 67) (v := (1 : Int32)) C dX7_reads_67 (by decide) ?_
        refine tt_iadd (pc := 68) C dX7_reads_68 ?_
        refine tt_put (pc := 69) (ws := (mC cy ad (upd sc 36 ((sc 36) + (1 : Int32))) (va_up ar 35 (upd (ar 35) (ix (sc 36)) r4)) la)) (ci := 7) (ty := .int) (ws' := (mC cy ad (upd (upd sc 36 ((sc 36) + (1 : Int32))) 33 ((sc 33) + (1 : Int32))) (va_up ar 35 (upd (ar 35) (ix (sc 36)) r4)) la)) C rfl fiX7 rfl 0 mC_obj 33 (by decide) q4_193 rfl rfl rfl rfl (Nat.le_of_ble_eq_true rfl) dX7_reads_69 mC_put33 ?_
        refine tt_goto (pc := 72) (tgt := 16) C dX7_reads_72 (by decide) ?_
        exact tt_locs [0] rfl (ih hf)
set_option maxHeartbeats 4000000 in
set_option maxRecDepth 100000 in
theorem k_X7_reads {l : Launch} {D : va_G} {cy : Nat → ClassId} {Bd : Nat} {xa : Xa} {ad : Nat → Nat} {N : Nat} {sc : Nat → Int32} {ar : Nat → Nat → Int32} {la : Nat → Nat → Int64} {out : Int32 × (Nat → Int32) × (Nat → Nat → Int32)} (hf : f_X7_reads N sc ar = some out) : KC l yX7_reads cX7_reads 1 (some .boolean) 2 41 false D cy Bd xa [.ref (ad 0)] (mC cy ad sc ar la) (some (.int out.1)) (mC cy ad out.2.1 out.2.2 la) := by
  refine kc_start (own := RX7) (by decide +kernel) rfl (Nat.le_of_ble_eq_true rfl) ?_
  intro p e s m args below meth c A C
  unfold f_X7_reads at hf
  refine tt_locs (L' := [(0, .ref (ad 0))]) [0] rfl ?_
  refine tt_aload_n (pc := 0) (k := 0) C dX7_reads_0 rfl rfl ?_
  refine tt_iconst (pc := 1) (v := (0 : Int32)) C dX7_reads_1 (by decide) ?_
  refine tt_put (pc := 2) (ws := (mC cy ad sc ar la)) (ci := 7) (ty := .int) (ws' := (mC cy ad (upd sc 36 (0 : Int32)) ar la)) C rfl fiX7 rfl 0 mC_obj 36 (by decide) q4_196 rfl rfl rfl rfl (Nat.le_of_ble_eq_true rfl) dX7_reads_2 mC_put36 ?_
  refine tt_aload_n (pc := 5) (k := 0) C dX7_reads_5 rfl rfl ?_
  refine tt_bipush (pc := 6) (v := (32 : Int32)) C dX7_reads_6 (by decide) ?_
  obtain ⟨r1, hr1, hf⟩ := bind_some hf
  refine tt_callM (pc := 8) (ws := (mC cy ad (upd sc 36 (0 : Int32)) ar la)) (q0 := 0) (ci := 7) (rest := []) (st' := [.int r1.1]) C rfl (k_X7_takes hr1) okX7_takes q6_164 rfl mC_obj rfl rfl rfl (Nat.le_of_ble_eq_true rfl) ⟨Nat.le_of_ble_eq_true rfl, Nat.le_of_ble_eq_true rfl⟩ dX7_reads_8 ?_
  refine tt_if_ne (pc := 11) (tgt := 16) C dX7_reads_11 (by decide) hf (fun hf => ?_) (fun hf => ?_)
  · refine tt_locs (L' := [(0, .ref (ad 0))]) [0] rfl (l_X7_reads_16 C (fun t5 t6 hf => ?_) hf)
    refine tt_aload_n (pc := 75) (k := 0) C dX7_reads_75 rfl rfl ?_
    refine tt_get (pc := 76) (ws := (mC cy ad t5 t6 la)) (ci := 7) (v := .int (t5 36)) C fiX7 rfl 0 mC_obj 36 (by decide) q4_196 rfl dX7_reads_76 ?_
    have k8 : TT p l e { frames := 2, cells := 0, slots := 0, locals := 41 } s m args below meth c 1 D A false (some (.int out.1)) (mC cy ad out.2.1 out.2.2 la) 87 [] [.int (if (t5 36) ≤ 0 then (0 : Int32) else (1 : Int32))] (mC cy ad t5 t6 la) := by
      obtain rfl := Option.some.inj hf
      exact tt_zreturn (pc := 87) C rfl (nb_if rfl rfl) rfl rfl dX7_reads_87
    refine tr_if_le (pc := 79) (tgt := 86) C dX7_reads_79 (by decide) (fun c7 => ?_) (fun c7 => ?_)
    · refine tt_iconst (pc := 86) (v := (0 : Int32)) C dX7_reads_86 (by decide) ?_
      try simp only [if_pos c7] at k8 ⊢
      exact tt_locs [] rfl k8
    · refine tt_iconst (pc := 82) (v := (1 : Int32)) C dX7_reads_82 (by decide) ?_
      refine tt_goto (pc := 83) (tgt := 87) C dX7_reads_83 (by decide) ?_
      try simp only [if_neg c7] at k8 ⊢
      exact tt_locs [] rfl k8
  · refine tt_iconst (pc := 14) (v := (0 : Int32)) C dX7_reads_14 (by decide) ?_
    obtain rfl := Option.some.inj hf
    exact tt_zreturn (pc := 15) C rfl rfl rfl rfl dX7_reads_15
theorem dX7_statement_0 : decode cX7_statement 0 = .ok (.aload_n 0, 1) := by decide +kernel
theorem dX7_statement_1 : decode cX7_statement 1 = .ok (.invokevirtual 305, 3) := by decide +kernel
theorem dX7_statement_4 : decode cX7_statement 4 = .ok (.istore_n 1, 1) := by decide +kernel
theorem dX7_statement_5 : decode cX7_statement 5 = .ok (.iload_n 1, 1) := by decide +kernel
theorem dX7_statement_6 : decode cX7_statement 6 = .ok (.bipush (-9), 2) := by decide +kernel
theorem dX7_statement_8 : decode cX7_statement 8 = .ok (.if_icmp .eq 16, 3) := by decide +kernel
theorem dX7_statement_11 : decode cX7_statement 11 = .ok (.iload_n 1, 1) := by decide +kernel
theorem dX7_statement_12 : decode cX7_statement 12 = .ok (.bipush 6, 2) := by decide +kernel
theorem dX7_statement_14 : decode cX7_statement 14 = .ok (.if_icmp .ne 13, 3) := by decide +kernel
theorem dX7_statement_17 : decode cX7_statement 17 = .ok (.aload_n 0, 1) := by decide +kernel
theorem dX7_statement_18 : decode cX7_statement 18 = .ok (.invokevirtual 308, 3) := by decide +kernel
theorem dX7_statement_21 : decode cX7_statement 21 = .ok (.ifCond .ne 6, 3) := by decide +kernel
theorem dX7_statement_24 : decode cX7_statement 24 = .ok (.bipush (-9), 2) := by decide +kernel
theorem dX7_statement_26 : decode cX7_statement 26 = .ok (.ireturn, 1) := by decide +kernel
theorem dX7_statement_27 : decode cX7_statement 27 = .ok (.iconst 0, 1) := by decide +kernel
theorem dX7_statement_28 : decode cX7_statement 28 = .ok (.istore_n 2, 1) := by decide +kernel
theorem dX7_statement_29 : decode cX7_statement 29 = .ok (.iload_n 2, 1) := by decide +kernel
theorem dX7_statement_30 : decode cX7_statement 30 = .ok (.iload_n 1, 1) := by decide +kernel
theorem dX7_statement_31 : decode cX7_statement 31 = .ok (.invokestatic 311, 3) := by decide +kernel
theorem dX7_statement_34 : decode cX7_statement 34 = .ok (.if_icmp .ge 20, 3) := by decide +kernel
theorem dX7_statement_37 : decode cX7_statement 37 = .ok (.aload_n 0, 1) := by decide +kernel
theorem dX7_statement_38 : decode cX7_statement 38 = .ok (.iload_n 2, 1) := by decide +kernel
theorem dX7_statement_39 : decode cX7_statement 39 = .ok (.invokevirtual 314, 3) := by decide +kernel
theorem dX7_statement_42 : decode cX7_statement 42 = .ok (.ifCond .ne 6, 3) := by decide +kernel
theorem dX7_statement_45 : decode cX7_statement 45 = .ok (.bipush (-9), 2) := by decide +kernel
theorem dX7_statement_47 : decode cX7_statement 47 = .ok (.ireturn, 1) := by decide +kernel
theorem dX7_statement_48 : decode cX7_statement 48 = .ok (.iinc 2 1, 3) := by decide +kernel
theorem dX7_statement_51 : decode cX7_statement 51 = .ok (.goto (-22), 3) := by decide +kernel
theorem dX7_statement_54 : decode cX7_statement 54 = .ok (.aload_n 0, 1) := by decide +kernel
theorem dX7_statement_55 : decode cX7_statement 55 = .ok (.bipush 59, 2) := by decide +kernel
theorem dX7_statement_57 : decode cX7_statement 57 = .ok (.invokevirtual 299, 3) := by decide +kernel
theorem dX7_statement_60 : decode cX7_statement 60 = .ok (.ifCond .eq 7, 3) := by decide +kernel
theorem dX7_statement_63 : decode cX7_statement 63 = .ok (.iload_n 1, 1) := by decide +kernel
theorem dX7_statement_64 : decode cX7_statement 64 = .ok (.goto 5, 3) := by decide +kernel
theorem dX7_statement_67 : decode cX7_statement 67 = .ok (.bipush (-9), 2) := by decide +kernel
theorem dX7_statement_69 : decode cX7_statement 69 = .ok (.ireturn, 1) := by decide +kernel
set_option maxHeartbeats 4000000 in
set_option maxRecDepth 100000 in
theorem l_X7_statement_29 {p : Program} {l : Launch} {e : Env} {s : State} {m : MethodId} {args : Array Value} {below : List Frame} {meth : Method} {c : Code} {D : va_G} {cy : Nat → ClassId} {A : Nat → Prop} {Bd : Nat} {xa : Xa} {ad : Nat → Nat} {N : Nat} {la : Nat → Nat → Int64} {v1 : Int32} {kx : (Nat → Int32) → (Nat → Nat → Int32) → Option (Int32 × (Nat → Int32) × (Nat → Nat → Int32))} {out : Int32 × (Nat → Int32) × (Nat → Nat → Int32)} (C : CC p s m args meth c cX7_statement RX7 3 (some .int) D cy A false Bd xa) (hk : ∀ (sc1 : Nat → Int32) (ar1 : Nat → Nat → Int32), kx sc1 ar1 = some out → TT p l e { frames := 5, cells := 0, slots := 0, locals := 109 } s m args below meth c 3 D A false (some (.int out.1)) (mC cy ad out.2.1 out.2.2 la) 54 [(0, .ref (ad 0)), (1, .int v1)] [] (mC cy ad sc1 ar1 la)) {n : Nat} {v2 : Int32} {sc : Nat → Int32} {ar : Nat → Nat → Int32} (hf : f_X7_statement_L29 N v1 kx n v2 sc ar = some out) : TT p l e { frames := 5, cells := 0, slots := 0, locals := 109 } s m args below meth c 3 D A false (some (.int out.1)) (mC cy ad out.2.1 out.2.2 la) 29 [(0, .ref (ad 0)), (1, .int v1), (2, .int v2)] [] (mC cy ad sc ar la) := by
  induction n generalizing v2 sc ar with
  | zero => cases hf
  | succ n ih =>
    rw [f_X7_statement_L29] at hf
    refine tt_iload_n (pc := 29) (k := 2) C dX7_statement_29 rfl rfl ?_
    refine tt_iload_n (pc := 30) (k := 1) C dX7_statement_30 rfl rfl ?_
    obtain ⟨r2, hr2, hf⟩ := bind_some hf
    refine tt_callS (pc := 31) (ws := (mC cy ad sc ar la)) (rest := [.int v2]) (st' := [.int r2, .int v2]) C (k_X7_numbersOf hr2) okX7_numbersOf q6_168 (fun _ h => absurd h List.not_mem_nil) rfl rfl rfl (Nat.le_of_ble_eq_true rfl) ⟨Nat.le_of_ble_eq_true rfl, Nat.le_of_ble_eq_true rfl⟩ dX7_statement_31 ?_
    refine tt_icmp_ge (pc := 34) (tgt := 54) C dX7_statement_34 (by decide) hf (fun hf => ?_) (fun hf => ?_)
    · exact tt_locs [0, 1] rfl (hk _ _ hf)
    · refine tt_aload_n (pc := 37) (k := 0) C dX7_statement_37 rfl rfl ?_
      refine tt_iload_n (pc := 38) (k := 2) C dX7_statement_38 rfl rfl ?_
      obtain ⟨r3, hr3, hf⟩ := bind_some hf
      refine tt_callM (pc := 39) (ws := (mC cy ad sc ar la)) (q0 := 0) (ci := 7) (rest := []) (st' := [.int r3.1]) C rfl (k_X7_readNumber hr3) okX7_readNumber q6_171 rfl mC_obj rfl rfl rfl (Nat.le_of_ble_eq_true rfl) ⟨Nat.le_of_ble_eq_true rfl, Nat.le_of_ble_eq_true rfl⟩ dX7_statement_39 ?_
      refine tt_if_ne (pc := 42) (tgt := 48) C dX7_statement_42 (by decide) hf (fun hf => ?_) (fun hf => ?_)
      · refine tt_iinc (pc := 48) (k := 2) (v := (v2 + 1)) (L' := [(2, .int (v2 + 1)), (0, .ref (ad 0)), (1, .int v1)]) C dX7_statement_48 rfl rfl (by decide) rfl ?_
        refine tt_goto (pc := 51) (tgt := 29) C dX7_statement_51 (by decide) ?_
        exact tt_locs [1, 2, 0] rfl (ih hf)
      · refine tt_bipush (pc := 45) (v := (-9 : Int32)) C dX7_statement_45 (by decide) ?_
        obtain rfl := Option.some.inj hf
        exact tt_ireturn (pc := 47) C rfl rfl rfl dX7_statement_47
set_option maxHeartbeats 4000000 in
set_option maxRecDepth 100000 in
theorem k_X7_statement {l : Launch} {D : va_G} {cy : Nat → ClassId} {Bd : Nat} {xa : Xa} {ad : Nat → Nat} {N : Nat} {sc : Nat → Int32} {ar : Nat → Nat → Int32} {la : Nat → Nat → Int64} {out : Int32 × (Nat → Int32) × (Nat → Nat → Int32)} (hf : f_X7_statement N sc ar = some out) : KC l yX7_statement cX7_statement 3 (some .int) 5 109 false D cy Bd xa [.ref (ad 0)] (mC cy ad sc ar la) (some (.int out.1)) (mC cy ad out.2.1 out.2.2 la) := by
  refine kc_start (own := RX7) (by decide +kernel) rfl (Nat.le_of_ble_eq_true rfl) ?_
  intro p e s m args below meth c A C
  unfold f_X7_statement at hf
  refine tt_locs (L' := [(0, .ref (ad 0))]) [0] rfl ?_
  refine tt_aload_n (pc := 0) (k := 0) C dX7_statement_0 rfl rfl ?_
  obtain ⟨r1, hr1, hf⟩ := bind_some hf
  refine tt_callM (pc := 1) (ws := (mC cy ad sc ar la)) (q0 := 0) (ci := 7) (rest := []) (st' := [.int r1.1]) C rfl (k_X7_readWord hr1) okX7_readWord q6_140 rfl mC_obj rfl rfl rfl (Nat.le_of_ble_eq_true rfl) ⟨Nat.le_of_ble_eq_true rfl, Nat.le_of_ble_eq_true rfl⟩ dX7_statement_1 ?_
  refine tt_istore_n (pc := 4) (L' := [(1, .int r1.1), (0, .ref (ad 0))]) C dX7_statement_4 rfl (by decide) rfl ?_
  refine tt_iload_n (pc := 5) (k := 0) C dX7_statement_5 rfl rfl ?_
  refine tt_bipush (pc := 6) (v := (-9 : Int32)) C dX7_statement_6 (by decide) ?_
  refine tt_icmp_eq (pc := 8) (tgt := 24) C dX7_statement_8 (by decide) hf (fun hf => ?_) (fun hf => ?_)
  · refine tt_bipush (pc := 24) (v := (-9 : Int32)) C dX7_statement_24 (by decide) ?_
    obtain rfl := Option.some.inj hf
    exact tt_ireturn (pc := 26) C rfl rfl rfl dX7_statement_26
  · refine tt_iload_n (pc := 11) (k := 0) C dX7_statement_11 rfl rfl ?_
    refine tt_bipush (pc := 12) (v := (6 : Int32)) C dX7_statement_12 (by decide) ?_
    refine tt_icmp_ne (pc := 14) (tgt := 27) C dX7_statement_14 (by decide) hf (fun hf => ?_) (fun hf => ?_)
    · refine tt_iconst (pc := 27) (v := (0 : Int32)) C dX7_statement_27 (by decide) ?_
      refine tt_istore_n (pc := 28) (L' := [(2, .int (0 : Int32)), (1, .int r1.1), (0, .ref (ad 0))]) C dX7_statement_28 rfl (by decide) rfl ?_
      refine tt_locs (L' := [(0, .ref (ad 0)), (1, .int r1.1), (2, .int (0 : Int32))]) [2, 1, 0] rfl (l_X7_statement_29 C (fun t4 t5 hf => ?_) hf)
      refine tt_aload_n (pc := 54) (k := 0) C dX7_statement_54 rfl rfl ?_
      refine tt_bipush (pc := 55) (v := (59 : Int32)) C dX7_statement_55 (by decide) ?_
      obtain ⟨r6, hr6, hf⟩ := bind_some hf
      refine tt_callM (pc := 57) (ws := (mC cy ad t4 t5 la)) (q0 := 0) (ci := 7) (rest := []) (st' := [.int r6.1]) C rfl (k_X7_takes hr6) okX7_takes q6_164 rfl mC_obj rfl rfl rfl (Nat.le_of_ble_eq_true rfl) ⟨Nat.le_of_ble_eq_true rfl, Nat.le_of_ble_eq_true rfl⟩ dX7_statement_57 ?_
      have k8 : TT p l e { frames := 5, cells := 0, slots := 0, locals := 109 } s m args below meth c 3 D A false (some (.int out.1)) (mC cy ad out.2.1 out.2.2 la) 69 [] [.int (if r6.1 = 0 then (-9 : Int32) else r1.1)] (mC cy ad r6.2 t5 la) := by
        obtain rfl := Option.some.inj hf
        exact tt_ireturn (pc := 69) C rfl rfl rfl dX7_statement_69
      refine tr_if_eq (pc := 60) (tgt := 67) C dX7_statement_60 (by decide) (fun c7 => ?_) (fun c7 => ?_)
      · refine tt_bipush (pc := 67) (v := (-9 : Int32)) C dX7_statement_67 (by decide) ?_
        try simp only [if_pos c7] at k8 ⊢
        exact tt_locs [] rfl k8
      · refine tt_iload_n (pc := 63) (k := 1) C dX7_statement_63 rfl rfl ?_
        refine tt_goto (pc := 64) (tgt := 69) C dX7_statement_64 (by decide) ?_
        try simp only [if_neg c7] at k8 ⊢
        exact tt_locs [] rfl k8
    · refine tt_aload_n (pc := 17) (k := 1) C dX7_statement_17 rfl rfl ?_
      obtain ⟨r9, hr9, hf⟩ := bind_some hf
      refine tt_callM (pc := 18) (ws := (mC cy ad r1.2 ar la)) (q0 := 0) (ci := 7) (rest := []) (st' := [.int r9.1]) C rfl (k_X7_reads hr9) okX7_reads q6_160 rfl mC_obj rfl rfl rfl (Nat.le_of_ble_eq_true rfl) ⟨Nat.le_of_ble_eq_true rfl, Nat.le_of_ble_eq_true rfl⟩ dX7_statement_18 ?_
      refine tt_if_ne (pc := 21) (tgt := 27) C dX7_statement_21 (by decide) hf (fun hf => ?_) (fun hf => ?_)
      · refine tt_iconst (pc := 27) (v := (0 : Int32)) C dX7_statement_27 (by decide) ?_
        refine tt_istore_n (pc := 28) (L' := [(2, .int (0 : Int32)), (1, .int r1.1), (0, .ref (ad 0))]) C dX7_statement_28 rfl (by decide) rfl ?_
        refine tt_locs (L' := [(0, .ref (ad 0)), (1, .int r1.1), (2, .int (0 : Int32))]) [2, 1, 0] rfl (l_X7_statement_29 C (fun t10 t11 hf => ?_) hf)
        refine tt_aload_n (pc := 54) (k := 0) C dX7_statement_54 rfl rfl ?_
        refine tt_bipush (pc := 55) (v := (59 : Int32)) C dX7_statement_55 (by decide) ?_
        obtain ⟨r12, hr12, hf⟩ := bind_some hf
        refine tt_callM (pc := 57) (ws := (mC cy ad t10 t11 la)) (q0 := 0) (ci := 7) (rest := []) (st' := [.int r12.1]) C rfl (k_X7_takes hr12) okX7_takes q6_164 rfl mC_obj rfl rfl rfl (Nat.le_of_ble_eq_true rfl) ⟨Nat.le_of_ble_eq_true rfl, Nat.le_of_ble_eq_true rfl⟩ dX7_statement_57 ?_
        have k14 : TT p l e { frames := 5, cells := 0, slots := 0, locals := 109 } s m args below meth c 3 D A false (some (.int out.1)) (mC cy ad out.2.1 out.2.2 la) 69 [] [.int (if r12.1 = 0 then (-9 : Int32) else r1.1)] (mC cy ad r12.2 t11 la) := by
          obtain rfl := Option.some.inj hf
          exact tt_ireturn (pc := 69) C rfl rfl rfl dX7_statement_69
        refine tr_if_eq (pc := 60) (tgt := 67) C dX7_statement_60 (by decide) (fun c13 => ?_) (fun c13 => ?_)
        · refine tt_bipush (pc := 67) (v := (-9 : Int32)) C dX7_statement_67 (by decide) ?_
          try simp only [if_pos c13] at k14 ⊢
          exact tt_locs [] rfl k14
        · refine tt_iload_n (pc := 63) (k := 1) C dX7_statement_63 rfl rfl ?_
          refine tt_goto (pc := 64) (tgt := 69) C dX7_statement_64 (by decide) ?_
          try simp only [if_neg c13] at k14 ⊢
          exact tt_locs [] rfl k14
      · refine tt_bipush (pc := 24) (v := (-9 : Int32)) C dX7_statement_24 (by decide) ?_
        obtain rfl := Option.some.inj hf
        exact tt_ireturn (pc := 26) C rfl rfl rfl dX7_statement_26
