theorem dX7_sight_0 : decode cX7_sight 0 = .ok (.aload_n 0, 1) := by decide +kernel
theorem dX7_sight_1 : decode cX7_sight 1 = .ok (.iload_n 1, 1) := by decide +kernel
theorem dX7_sight_2 : decode cX7_sight 2 = .ok (.invokevirtual 121, 3) := by decide +kernel
theorem dX7_sight_5 : decode cX7_sight 5 = .ok (.ifCond .eq 16, 3) := by decide +kernel
theorem dX7_sight_8 : decode cX7_sight 8 = .ok (.aload_n 0, 1) := by decide +kernel
theorem dX7_sight_9 : decode cX7_sight 9 = .ok (.iload_n 3, 1) := by decide +kernel
theorem dX7_sight_10 : decode cX7_sight 10 = .ok (.invokevirtual 121, 3) := by decide +kernel
theorem dX7_sight_13 : decode cX7_sight 13 = .ok (.ifCond .eq 8, 3) := by decide +kernel
theorem dX7_sight_16 : decode cX7_sight 16 = .ok (.iload_n 1, 1) := by decide +kernel
theorem dX7_sight_17 : decode cX7_sight 17 = .ok (.iload_n 3, 1) := by decide +kernel
theorem dX7_sight_18 : decode cX7_sight 18 = .ok (.if_icmp .ne 9, 3) := by decide +kernel
theorem dX7_sight_21 : decode cX7_sight 21 = .ok (.aload_n 0, 1) := by decide +kernel
theorem dX7_sight_22 : decode cX7_sight 22 = .ok (.iconst (-1), 1) := by decide +kernel
theorem dX7_sight_23 : decode cX7_sight 23 = .ok (.invokevirtual 98, 3) := by decide +kernel
theorem dX7_sight_26 : decode cX7_sight 26 = .ok (.ireturn, 1) := by decide +kernel
theorem dX7_sight_27 : decode cX7_sight 27 = .ok (.iload_n 2, 1) := by decide +kernel
theorem dX7_sight_28 : decode cX7_sight 28 = .ok (.ifCond .lt 8, 3) := by decide +kernel
theorem dX7_sight_31 : decode cX7_sight 31 = .ok (.iload 4, 2) := by decide +kernel
theorem dX7_sight_33 : decode cX7_sight 33 = .ok (.ifCond .ge 10, 3) := by decide +kernel
theorem dX7_sight_36 : decode cX7_sight 36 = .ok (.aload_n 0, 1) := by decide +kernel
theorem dX7_sight_37 : decode cX7_sight 37 = .ok (.bipush (-4), 2) := by decide +kernel
theorem dX7_sight_39 : decode cX7_sight 39 = .ok (.invokevirtual 98, 3) := by decide +kernel
theorem dX7_sight_42 : decode cX7_sight 42 = .ok (.ireturn, 1) := by decide +kernel
theorem dX7_sight_43 : decode cX7_sight 43 = .ok (.iload_n 2, 1) := by decide +kernel
theorem dX7_sight_44 : decode cX7_sight 44 = .ok (.bipush 60, 2) := by decide +kernel
theorem dX7_sight_46 : decode cX7_sight 46 = .ok (.if_icmp .gt 10, 3) := by decide +kernel
theorem dX7_sight_49 : decode cX7_sight 49 = .ok (.iload 4, 2) := by decide +kernel
theorem dX7_sight_51 : decode cX7_sight 51 = .ok (.bipush 60, 2) := by decide +kernel
theorem dX7_sight_53 : decode cX7_sight 53 = .ok (.if_icmp .le 10, 3) := by decide +kernel
theorem dX7_sight_56 : decode cX7_sight 56 = .ok (.aload_n 0, 1) := by decide +kernel
theorem dX7_sight_57 : decode cX7_sight 57 = .ok (.bipush (-6), 2) := by decide +kernel
theorem dX7_sight_59 : decode cX7_sight 59 = .ok (.invokevirtual 98, 3) := by decide +kernel
theorem dX7_sight_62 : decode cX7_sight 62 = .ok (.ireturn, 1) := by decide +kernel
theorem dX7_sight_63 : decode cX7_sight 63 = .ok (.aload_n 0, 1) := by decide +kernel
theorem dX7_sight_64 : decode cX7_sight 64 = .ok (.iload_n 1, 1) := by decide +kernel
theorem dX7_sight_65 : decode cX7_sight 65 = .ok (.iload_n 2, 1) := by decide +kernel
theorem dX7_sight_66 : decode cX7_sight 66 = .ok (.iload_n 3, 1) := by decide +kernel
theorem dX7_sight_67 : decode cX7_sight 67 = .ok (.iload 4, 2) := by decide +kernel
theorem dX7_sight_69 : decode cX7_sight 69 = .ok (.invokevirtual 172, 3) := by decide +kernel
theorem dX7_sight_72 : decode cX7_sight 72 = .ok (.ifCond .eq 7, 3) := by decide +kernel
theorem dX7_sight_75 : decode cX7_sight 75 = .ok (.iconst 1, 1) := by decide +kernel
theorem dX7_sight_76 : decode cX7_sight 76 = .ok (.goto 4, 3) := by decide +kernel
theorem dX7_sight_79 : decode cX7_sight 79 = .ok (.iconst 0, 1) := by decide +kernel
theorem dX7_sight_80 : decode cX7_sight 80 = .ok (.ireturn, 1) := by decide +kernel
set_option maxHeartbeats 4000000 in
set_option maxRecDepth 100000 in
theorem k_X7_sight {l : Launch} {D : va_G} {cy : Nat → ClassId} {Bd : Nat} {xa : Xa} {ad : Nat → Nat} {N : Nat} {sc : Nat → Int32} {ar : Nat → Nat → Int32} {la : Nat → Nat → Int64} {a1 : Int32} {a2 : Int32} {a3 : Int32} {a4 : Int32} {out : Int32 × (Nat → Nat → Int32)} (hf : f_X7_sight N sc ar a1 a2 a3 a4 = some out) : KC l yX7_sight cX7_sight 5 (some .int) 3 77 false D cy Bd xa [.ref (ad 0), .int a1, .int a2, .int a3, .int a4] (mC cy ad sc ar la) (some (.int out.1)) (mC cy ad sc out.2 la) := by
  refine kc_start (own := RX7) (by decide +kernel) rfl (Nat.le_of_ble_eq_true rfl) ?_
  intro p e s m args below meth c A C
  unfold f_X7_sight at hf
  refine tt_locs (L' := [(0, .ref (ad 0)), (1, .int a1), (2, .int a2), (3, .int a3), (4, .int a4)]) [0, 1, 2, 3, 4] rfl ?_
  refine tt_aload_n (pc := 0) (k := 0) C dX7_sight_0 rfl rfl ?_
  refine tt_iload_n (pc := 1) (k := 1) C dX7_sight_1 rfl rfl ?_
  obtain ⟨r1, hr1, hf⟩ := bind_some hf
  refine tt_callR (pc := 2) (ws := (mC cy ad sc ar la)) (q0 := 0) (ci := 7) (rest := []) (st' := [.int r1]) C (k_X7_isCell hr1) okX7_isCell q5_48 rfl mC_obj (fun _ h => h) rfl rfl rfl (Nat.le_of_ble_eq_true rfl) ⟨Nat.le_of_ble_eq_true rfl, Nat.le_of_ble_eq_true rfl⟩ dX7_sight_2 ?_
  refine tt_if_eq (pc := 5) (tgt := 21) C dX7_sight_5 (by decide) hf (fun hf => ?_) (fun hf => ?_)
  · refine tt_aload_n (pc := 21) (k := 0) C dX7_sight_21 rfl rfl ?_
    refine tt_iconst (pc := 22) (v := (-1 : Int32)) C dX7_sight_22 (by decide) ?_
    obtain ⟨r2, hr2, hf⟩ := bind_some hf
    refine tt_callM (pc := 23) (ws := (mC cy ad sc ar la)) (q0 := 0) (ci := 7) (rest := []) (st' := [.int r2.1]) C rfl (k_X7_no hr2) okX7_no q5_36 rfl mC_obj rfl rfl rfl (Nat.le_of_ble_eq_true rfl) ⟨Nat.le_of_ble_eq_true rfl, Nat.le_of_ble_eq_true rfl⟩ dX7_sight_23 ?_
    obtain rfl := Option.some.inj hf
    exact tt_ireturn (pc := 26) C rfl rfl rfl dX7_sight_26
  · refine tt_aload_n (pc := 8) (k := 0) C dX7_sight_8 rfl rfl ?_
    refine tt_iload_n (pc := 9) (k := 3) C dX7_sight_9 rfl rfl ?_
    obtain ⟨r3, hr3, hf⟩ := bind_some hf
    refine tt_callR (pc := 10) (ws := (mC cy ad sc ar la)) (q0 := 0) (ci := 7) (rest := []) (st' := [.int r3]) C (k_X7_isCell hr3) okX7_isCell q5_48 rfl mC_obj (fun _ h => h) rfl rfl rfl (Nat.le_of_ble_eq_true rfl) ⟨Nat.le_of_ble_eq_true rfl, Nat.le_of_ble_eq_true rfl⟩ dX7_sight_10 ?_
    refine tt_if_eq (pc := 13) (tgt := 21) C dX7_sight_13 (by decide) hf (fun hf => ?_) (fun hf => ?_)
    · refine tt_aload_n (pc := 21) (k := 0) C dX7_sight_21 rfl rfl ?_
      refine tt_iconst (pc := 22) (v := (-1 : Int32)) C dX7_sight_22 (by decide) ?_
      obtain ⟨r4, hr4, hf⟩ := bind_some hf
      refine tt_callM (pc := 23) (ws := (mC cy ad sc ar la)) (q0 := 0) (ci := 7) (rest := []) (st' := [.int r4.1]) C rfl (k_X7_no hr4) okX7_no q5_36 rfl mC_obj rfl rfl rfl (Nat.le_of_ble_eq_true rfl) ⟨Nat.le_of_ble_eq_true rfl, Nat.le_of_ble_eq_true rfl⟩ dX7_sight_23 ?_
      obtain rfl := Option.some.inj hf
      exact tt_ireturn (pc := 26) C rfl rfl rfl dX7_sight_26
    · refine tt_iload_n (pc := 16) (k := 1) C dX7_sight_16 rfl rfl ?_
      refine tt_iload_n (pc := 17) (k := 3) C dX7_sight_17 rfl rfl ?_
      refine tt_icmp_ne (pc := 18) (tgt := 27) C dX7_sight_18 (by decide) hf (fun hf => ?_) (fun hf => ?_)
      · refine tt_iload_n (pc := 27) (k := 2) C dX7_sight_27 rfl rfl ?_
        refine tt_if_lt (pc := 28) (tgt := 36) C dX7_sight_28 (by decide) hf (fun hf => ?_) (fun hf => ?_)
        · refine tt_aload_n (pc := 36) (k := 0) C dX7_sight_36 rfl rfl ?_
          refine tt_bipush (pc := 37) (v := (-4 : Int32)) C dX7_sight_37 (by decide) ?_
          obtain ⟨r5, hr5, hf⟩ := bind_some hf
          refine tt_callM (pc := 39) (ws := (mC cy ad sc ar la)) (q0 := 0) (ci := 7) (rest := []) (st' := [.int r5.1]) C rfl (k_X7_no hr5) okX7_no q5_36 rfl mC_obj rfl rfl rfl (Nat.le_of_ble_eq_true rfl) ⟨Nat.le_of_ble_eq_true rfl, Nat.le_of_ble_eq_true rfl⟩ dX7_sight_39 ?_
          obtain rfl := Option.some.inj hf
          exact tt_ireturn (pc := 42) C rfl rfl rfl dX7_sight_42
        · refine tt_iload (pc := 31) (k := 4) C dX7_sight_31 rfl ?_
          refine tt_if_ge (pc := 33) (tgt := 43) C dX7_sight_33 (by decide) hf (fun hf => ?_) (fun hf => ?_)
          · refine tt_iload_n (pc := 43) (k := 2) C dX7_sight_43 rfl rfl ?_
            refine tt_bipush (pc := 44) (v := (60 : Int32)) C dX7_sight_44 (by decide) ?_
            refine tt_icmp_gt (pc := 46) (tgt := 56) C dX7_sight_46 (by decide) hf (fun hf => ?_) (fun hf => ?_)
            · refine tt_aload_n (pc := 56) (k := 0) C dX7_sight_56 rfl rfl ?_
              refine tt_bipush (pc := 57) (v := (-6 : Int32)) C dX7_sight_57 (by decide) ?_
              obtain ⟨r6, hr6, hf⟩ := bind_some hf
              refine tt_callM (pc := 59) (ws := (mC cy ad sc ar la)) (q0 := 0) (ci := 7) (rest := []) (st' := [.int r6.1]) C rfl (k_X7_no hr6) okX7_no q5_36 rfl mC_obj rfl rfl rfl (Nat.le_of_ble_eq_true rfl) ⟨Nat.le_of_ble_eq_true rfl, Nat.le_of_ble_eq_true rfl⟩ dX7_sight_59 ?_
              obtain rfl := Option.some.inj hf
              exact tt_ireturn (pc := 62) C rfl rfl rfl dX7_sight_62
            · refine tt_iload (pc := 49) (k := 4) C dX7_sight_49 rfl ?_
              refine tt_bipush (pc := 51) (v := (60 : Int32)) C dX7_sight_51 (by decide) ?_
              refine tt_icmp_le (pc := 53) (tgt := 63) C dX7_sight_53 (by decide) hf (fun hf => ?_) (fun hf => ?_)
              · refine tt_aload_n (pc := 63) (k := 0) C dX7_sight_63 rfl rfl ?_
                refine tt_iload_n (pc := 64) (k := 1) C dX7_sight_64 rfl rfl ?_
                refine tt_iload_n (pc := 65) (k := 2) C dX7_sight_65 rfl rfl ?_
                refine tt_iload_n (pc := 66) (k := 3) C dX7_sight_66 rfl rfl ?_
                refine tt_iload (pc := 67) (k := 4) C dX7_sight_67 rfl ?_
                obtain ⟨r7, hr7, hf⟩ := bind_some hf
                refine tt_callR (pc := 69) (ws := (mC cy ad sc ar la)) (q0 := 0) (ci := 7) (rest := []) (st' := [.int r7]) C (k_X7_isClear hr7) okX7_isClear q5_139 rfl mC_obj (fun _ h => h) rfl rfl rfl (Nat.le_of_ble_eq_true rfl) ⟨Nat.le_of_ble_eq_true rfl, Nat.le_of_ble_eq_true rfl⟩ dX7_sight_69 ?_
                have k9 : TT p l e { frames := 3, cells := 0, slots := 0, locals := 77 } s m args below meth c 5 D A false (some (.int out.1)) (mC cy ad sc out.2 la) 80 [] [.int (if r7 = 0 then (0 : Int32) else (1 : Int32))] (mC cy ad sc ar la) := by
                  obtain rfl := Option.some.inj hf
                  exact tt_ireturn (pc := 80) C rfl rfl rfl dX7_sight_80
                refine tr_if_eq (pc := 72) (tgt := 79) C dX7_sight_72 (by decide) (fun c8 => ?_) (fun c8 => ?_)
                · refine tt_iconst (pc := 79) (v := (0 : Int32)) C dX7_sight_79 (by decide) ?_
                  try simp only [if_pos c8] at k9 ⊢
                  exact tt_locs [] rfl k9
                · refine tt_iconst (pc := 75) (v := (1 : Int32)) C dX7_sight_75 (by decide) ?_
                  refine tt_goto (pc := 76) (tgt := 80) C dX7_sight_76 (by decide) ?_
                  try simp only [if_neg c8] at k9 ⊢
                  exact tt_locs [] rfl k9
              · refine tt_aload_n (pc := 56) (k := 0) C dX7_sight_56 rfl rfl ?_
                refine tt_bipush (pc := 57) (v := (-6 : Int32)) C dX7_sight_57 (by decide) ?_
                obtain ⟨r10, hr10, hf⟩ := bind_some hf
                refine tt_callM (pc := 59) (ws := (mC cy ad sc ar la)) (q0 := 0) (ci := 7) (rest := []) (st' := [.int r10.1]) C rfl (k_X7_no hr10) okX7_no q5_36 rfl mC_obj rfl rfl rfl (Nat.le_of_ble_eq_true rfl) ⟨Nat.le_of_ble_eq_true rfl, Nat.le_of_ble_eq_true rfl⟩ dX7_sight_59 ?_
                obtain rfl := Option.some.inj hf
                exact tt_ireturn (pc := 62) C rfl rfl rfl dX7_sight_62
          · refine tt_aload_n (pc := 36) (k := 0) C dX7_sight_36 rfl rfl ?_
            refine tt_bipush (pc := 37) (v := (-4 : Int32)) C dX7_sight_37 (by decide) ?_
            obtain ⟨r11, hr11, hf⟩ := bind_some hf
            refine tt_callM (pc := 39) (ws := (mC cy ad sc ar la)) (q0 := 0) (ci := 7) (rest := []) (st' := [.int r11.1]) C rfl (k_X7_no hr11) okX7_no q5_36 rfl mC_obj rfl rfl rfl (Nat.le_of_ble_eq_true rfl) ⟨Nat.le_of_ble_eq_true rfl, Nat.le_of_ble_eq_true rfl⟩ dX7_sight_39 ?_
            obtain rfl := Option.some.inj hf
            exact tt_ireturn (pc := 42) C rfl rfl rfl dX7_sight_42
      · refine tt_aload_n (pc := 21) (k := 0) C dX7_sight_21 rfl rfl ?_
        refine tt_iconst (pc := 22) (v := (-1 : Int32)) C dX7_sight_22 (by decide) ?_
        obtain ⟨r12, hr12, hf⟩ := bind_some hf
        refine tt_callM (pc := 23) (ws := (mC cy ad sc ar la)) (q0 := 0) (ci := 7) (rest := []) (st' := [.int r12.1]) C rfl (k_X7_no hr12) okX7_no q5_36 rfl mC_obj rfl rfl rfl (Nat.le_of_ble_eq_true rfl) ⟨Nat.le_of_ble_eq_true rfl, Nat.le_of_ble_eq_true rfl⟩ dX7_sight_23 ?_
        obtain rfl := Option.some.inj hf
        exact tt_ireturn (pc := 26) C rfl rfl rfl dX7_sight_26
theorem dX7_isSeen_0 : decode cX7_isSeen 0 = .ok (.aload_n 0, 1) := by decide +kernel
theorem dX7_isSeen_1 : decode cX7_isSeen 1 = .ok (.getfield 41, 3) := by decide +kernel
theorem dX7_isSeen_4 : decode cX7_isSeen 4 = .ok (.iload_n 1, 1) := by decide +kernel
theorem dX7_isSeen_5 : decode cX7_isSeen 5 = .ok (.iaload, 1) := by decide +kernel
theorem dX7_isSeen_6 : decode cX7_isSeen 6 = .ok (.ifCond .ne 21, 3) := by decide +kernel
theorem dX7_isSeen_9 : decode cX7_isSeen 9 = .ok (.aload_n 0, 1) := by decide +kernel
theorem dX7_isSeen_10 : decode cX7_isSeen 10 = .ok (.getfield 26, 3) := by decide +kernel
theorem dX7_isSeen_13 : decode cX7_isSeen 13 = .ok (.iload_n 2, 1) := by decide +kernel
theorem dX7_isSeen_14 : decode cX7_isSeen 14 = .ok (.iaload, 1) := by decide +kernel
theorem dX7_isSeen_15 : decode cX7_isSeen 15 = .ok (.iload_n 3, 1) := by decide +kernel
theorem dX7_isSeen_16 : decode cX7_isSeen 16 = .ok (.if_icmp .le 7, 3) := by decide +kernel
theorem dX7_isSeen_19 : decode cX7_isSeen 19 = .ok (.iconst 1, 1) := by decide +kernel
theorem dX7_isSeen_20 : decode cX7_isSeen 20 = .ok (.goto 22, 3) := by decide +kernel
theorem dX7_isSeen_23 : decode cX7_isSeen 23 = .ok (.iconst 0, 1) := by decide +kernel
theorem dX7_isSeen_24 : decode cX7_isSeen 24 = .ok (.goto 18, 3) := by decide +kernel
theorem dX7_isSeen_27 : decode cX7_isSeen 27 = .ok (.aload_n 0, 1) := by decide +kernel
theorem dX7_isSeen_28 : decode cX7_isSeen 28 = .ok (.getfield 26, 3) := by decide +kernel
theorem dX7_isSeen_31 : decode cX7_isSeen 31 = .ok (.iload_n 2, 1) := by decide +kernel
theorem dX7_isSeen_32 : decode cX7_isSeen 32 = .ok (.iaload, 1) := by decide +kernel
theorem dX7_isSeen_33 : decode cX7_isSeen 33 = .ok (.iload_n 3, 1) := by decide +kernel
theorem dX7_isSeen_34 : decode cX7_isSeen 34 = .ok (.if_icmp .ge 7, 3) := by decide +kernel
theorem dX7_isSeen_37 : decode cX7_isSeen 37 = .ok (.iconst 1, 1) := by decide +kernel
theorem dX7_isSeen_38 : decode cX7_isSeen 38 = .ok (.goto 4, 3) := by decide +kernel
theorem dX7_isSeen_41 : decode cX7_isSeen 41 = .ok (.iconst 0, 1) := by decide +kernel
theorem dX7_isSeen_42 : decode cX7_isSeen 42 = .ok (.istore 4, 2) := by decide +kernel
theorem dX7_isSeen_44 : decode cX7_isSeen 44 = .ok (.iload 4, 2) := by decide +kernel
theorem dX7_isSeen_46 : decode cX7_isSeen 46 = .ok (.ifCond .eq 32, 3) := by decide +kernel
theorem dX7_isSeen_49 : decode cX7_isSeen 49 = .ok (.aload_n 0, 1) := by decide +kernel
theorem dX7_isSeen_50 : decode cX7_isSeen 50 = .ok (.iload_n 3, 1) := by decide +kernel
theorem dX7_isSeen_51 : decode cX7_isSeen 51 = .ok (.aload_n 0, 1) := by decide +kernel
theorem dX7_isSeen_52 : decode cX7_isSeen 52 = .ok (.iload_n 1, 1) := by decide +kernel
theorem dX7_isSeen_53 : decode cX7_isSeen 53 = .ok (.invokevirtual 141, 3) := by decide +kernel
theorem dX7_isSeen_56 : decode cX7_isSeen 56 = .ok (.aload_n 0, 1) := by decide +kernel
theorem dX7_isSeen_57 : decode cX7_isSeen 57 = .ok (.getfield 26, 3) := by decide +kernel
theorem dX7_isSeen_60 : decode cX7_isSeen 60 = .ok (.iload_n 2, 1) := by decide +kernel
theorem dX7_isSeen_61 : decode cX7_isSeen 61 = .ok (.iaload, 1) := by decide +kernel
theorem dX7_isSeen_62 : decode cX7_isSeen 62 = .ok (.aload_n 0, 1) := by decide +kernel
theorem dX7_isSeen_63 : decode cX7_isSeen 63 = .ok (.getfield 29, 3) := by decide +kernel
theorem dX7_isSeen_66 : decode cX7_isSeen 66 = .ok (.iload_n 2, 1) := by decide +kernel
theorem dX7_isSeen_67 : decode cX7_isSeen 67 = .ok (.iaload, 1) := by decide +kernel
theorem dX7_isSeen_68 : decode cX7_isSeen 68 = .ok (.invokevirtual 172, 3) := by decide +kernel
theorem dX7_isSeen_71 : decode cX7_isSeen 71 = .ok (.ifCond .eq 7, 3) := by decide +kernel
theorem dX7_isSeen_74 : decode cX7_isSeen 74 = .ok (.iconst 1, 1) := by decide +kernel
theorem dX7_isSeen_75 : decode cX7_isSeen 75 = .ok (.goto 4, 3) := by decide +kernel
theorem dX7_isSeen_78 : decode cX7_isSeen 78 = .ok (.iconst 0, 1) := by decide +kernel
theorem dX7_isSeen_79 : decode cX7_isSeen 79 = .ok (.ireturn, 1) := by decide +kernel
set_option maxHeartbeats 4000000 in
set_option maxRecDepth 100000 in
theorem k_X7_isSeen {l : Launch} {D : va_G} {cy : Nat → ClassId} {Bd : Nat} {xa : Xa} {ad : Nat → Nat} {N : Nat} {sc : Nat → Int32} {ar : Nat → Nat → Int32} {la : Nat → Nat → Int64} {a1 : Int32} {a2 : Int32} {a3 : Int32} {out : Int32} (hf : f_X7_isSeen N sc ar a1 a2 a3 = some out) : KC l yX7_isSeen cX7_isSeen 5 (some .boolean) 3 77 true D cy Bd xa [.ref (ad 0), .int a1, .int a2, .int a3] (mC cy ad sc ar la) (some (.int out)) (mC cy ad sc ar la) := by
  refine kc_start (own := RX7) (by decide +kernel) rfl (Nat.le_of_ble_eq_true rfl) ?_
  intro p e s m args below meth c A C
  unfold f_X7_isSeen at hf
  refine tt_locs (L' := [(0, .ref (ad 0)), (1, .int a1), (2, .int a2), (3, .int a3)]) [0, 1, 2, 3] rfl ?_
  refine tt_aload_n (pc := 0) (k := 0) C dX7_isSeen_0 rfl rfl ?_
  refine tt_get (pc := 1) (ws := (mC cy ad sc ar la)) (ci := 7) (v := .ref (ad 13)) C fiX7 rfl 0 mC_obj 13 (by decide) q4_173 rfl dX7_isSeen_1 ?_
  refine tt_iload_n (pc := 4) (k := 1) C dX7_isSeen_4 rfl rfl ?_
  refine tt_iaload (pc := 5) (ws := (mC cy ad sc ar la)) (n := 4) (f := (ar 13)) C 10 0 mC_get13 rfl hf dX7_isSeen_5 (fun hf => ?_)
  obtain ⟨j1, hj1, hf⟩ := bind_some hf
  have k2 : TT p l e { frames := 3, cells := 0, slots := 0, locals := 77 } s m args below meth c 5 D A true (some (.int out)) (mC cy ad sc ar la) 42 [(0, .ref (ad 0)), (1, .int a1), (2, .int a2), (3, .int a3)] [.int j1] (mC cy ad sc ar la) := by
    refine tt_istore (pc := 42) (L' := [(4, .int j1), (0, .ref (ad 0)), (1, .int a1), (2, .int a2), (3, .int a3)]) C dX7_isSeen_42 (by decide) rfl ?_
    refine tt_iload (pc := 44) (k := 0) C dX7_isSeen_44 rfl ?_
    obtain ⟨j7, hj7, hf⟩ := bind_some hf
    have k8 : TT p l e { frames := 3, cells := 0, slots := 0, locals := 77 } s m args below meth c 5 D A true (some (.int out)) (mC cy ad sc ar la) 79 [] [.int j7] (mC cy ad sc ar la) := by
      obtain ⟨hz, hf⟩ := zchk hf
      obtain rfl := Option.some.inj hf
      exact tt_zreturn (pc := 79) C rfl hz rfl rfl dX7_isSeen_79
    refine tt_if_eq (pc := 46) (tgt := 78) C dX7_isSeen_46 (by decide) hj7 (fun hj7 => ?_) (fun hj7 => ?_)
    · refine tt_iconst (pc := 78) (v := (0 : Int32)) C dX7_isSeen_78 (by decide) ?_
      obtain rfl := Option.some.inj hj7
      exact tt_locs [] rfl k8
    · refine tt_aload_n (pc := 49) (k := 1) C dX7_isSeen_49 rfl rfl ?_
      refine tt_iload_n (pc := 50) (k := 4) C dX7_isSeen_50 rfl rfl ?_
      refine tt_aload_n (pc := 51) (k := 1) C dX7_isSeen_51 rfl rfl ?_
      refine tt_iload_n (pc := 52) (k := 2) C dX7_isSeen_52 rfl rfl ?_
      obtain ⟨r9, hr9, hj7⟩ := bind_some hj7
      refine tt_callR (pc := 53) (ws := (mC cy ad sc ar la)) (q0 := 0) (ci := 7) (rest := [.int a3, .ref (ad 0)]) (st' := [.int r9, .int a3, .ref (ad 0)]) C (k_X7_eye hr9) okX7_eye q5_107 rfl mC_obj (fun _ h => h) rfl rfl rfl (Nat.le_of_ble_eq_true rfl) ⟨Nat.le_of_ble_eq_true rfl, Nat.le_of_ble_eq_true rfl⟩ dX7_isSeen_53 ?_
      refine tt_aload_n (pc := 56) (k := 1) C dX7_isSeen_56 rfl rfl ?_
      refine tt_get (pc := 57) (ws := (mC cy ad sc ar la)) (ci := 7) (v := .ref (ad 7)) C fiX7 rfl 0 mC_obj 7 (by decide) q4_167 rfl dX7_isSeen_57 ?_
      refine tt_iload_n (pc := 60) (k := 3) C dX7_isSeen_60 rfl rfl ?_
      refine tt_iaload (pc := 61) (ws := (mC cy ad sc ar la)) (n := 5) (f := (ar 7)) C 5 0 mC_get7 rfl hj7 dX7_isSeen_61 (fun hj7 => ?_)
      refine tt_aload_n (pc := 62) (k := 1) C dX7_isSeen_62 rfl rfl ?_
      refine tt_get (pc := 63) (ws := (mC cy ad sc ar la)) (ci := 7) (v := .ref (ad 8)) C fiX7 rfl 0 mC_obj 8 (by decide) q4_168 rfl dX7_isSeen_63 ?_
      refine tt_iload_n (pc := 66) (k := 3) C dX7_isSeen_66 rfl rfl ?_
      refine tt_iaload (pc := 67) (ws := (mC cy ad sc ar la)) (n := 5) (f := (ar 8)) C 6 0 mC_get8 rfl hj7 dX7_isSeen_67 (fun hj7 => ?_)
      obtain ⟨r10, hr10, hj7⟩ := bind_some hj7
      refine tt_callR (pc := 68) (ws := (mC cy ad sc ar la)) (q0 := 0) (ci := 7) (rest := []) (st' := [.int r10]) C (k_X7_isClear hr10) okX7_isClear q5_139 rfl mC_obj (fun _ h => h) rfl rfl rfl (Nat.le_of_ble_eq_true rfl) ⟨Nat.le_of_ble_eq_true rfl, Nat.le_of_ble_eq_true rfl⟩ dX7_isSeen_68 ?_
      have k12 : TT p l e { frames := 3, cells := 0, slots := 0, locals := 77 } s m args below meth c 5 D A true (some (.int out)) (mC cy ad sc ar la) 79 [] [.int (if r10 = 0 then (0 : Int32) else (1 : Int32))] (mC cy ad sc ar la) := by
        obtain rfl := Option.some.inj hj7
        exact tt_locs [] rfl k8
      refine tr_if_eq (pc := 71) (tgt := 78) C dX7_isSeen_71 (by decide) (fun c11 => ?_) (fun c11 => ?_)
      · refine tt_iconst (pc := 78) (v := (0 : Int32)) C dX7_isSeen_78 (by decide) ?_
        try simp only [if_pos c11] at k12 ⊢
        exact tt_locs [] rfl k12
      · refine tt_iconst (pc := 74) (v := (1 : Int32)) C dX7_isSeen_74 (by decide) ?_
        refine tt_goto (pc := 75) (tgt := 79) C dX7_isSeen_75 (by decide) ?_
        try simp only [if_neg c11] at k12 ⊢
        exact tt_locs [] rfl k12
  refine tt_if_ne (pc := 6) (tgt := 27) C dX7_isSeen_6 (by decide) hj1 (fun hj1 => ?_) (fun hj1 => ?_)
  · refine tt_aload_n (pc := 27) (k := 0) C dX7_isSeen_27 rfl rfl ?_
    refine tt_get (pc := 28) (ws := (mC cy ad sc ar la)) (ci := 7) (v := .ref (ad 7)) C fiX7 rfl 0 mC_obj 7 (by decide) q4_167 rfl dX7_isSeen_28 ?_
    refine tt_iload_n (pc := 31) (k := 2) C dX7_isSeen_31 rfl rfl ?_
    refine tt_iaload (pc := 32) (ws := (mC cy ad sc ar la)) (n := 5) (f := (ar 7)) C 5 0 mC_get7 rfl hj1 dX7_isSeen_32 (fun hj1 => ?_)
    refine tt_iload_n (pc := 33) (k := 3) C dX7_isSeen_33 rfl rfl ?_
    have k4 : TT p l e { frames := 3, cells := 0, slots := 0, locals := 77 } s m args below meth c 5 D A true (some (.int out)) (mC cy ad sc ar la) 42 [(0, .ref (ad 0)), (1, .int a1), (2, .int a2), (3, .int a3)] [.int (if a3 ≤ ((ar 7) (ix a2)) then (0 : Int32) else (1 : Int32))] (mC cy ad sc ar la) := by
      obtain rfl := Option.some.inj hj1
      exact tt_locs [0, 1, 2, 3] rfl k2
    refine tr_icmp_ge (pc := 34) (tgt := 41) C dX7_isSeen_34 (by decide) (fun c3 => ?_) (fun c3 => ?_)
    · refine tt_iconst (pc := 41) (v := (0 : Int32)) C dX7_isSeen_41 (by decide) ?_
      try simp only [if_pos c3] at k4 ⊢
      exact tt_locs [0, 1, 2, 3] rfl k4
    · refine tt_iconst (pc := 37) (v := (1 : Int32)) C dX7_isSeen_37 (by decide) ?_
      refine tt_goto (pc := 38) (tgt := 42) C dX7_isSeen_38 (by decide) ?_
      try simp only [if_neg c3] at k4 ⊢
      exact tt_locs [0, 1, 2, 3] rfl k4
  · refine tt_aload_n (pc := 9) (k := 0) C dX7_isSeen_9 rfl rfl ?_
    refine tt_get (pc := 10) (ws := (mC cy ad sc ar la)) (ci := 7) (v := .ref (ad 7)) C fiX7 rfl 0 mC_obj 7 (by decide) q4_167 rfl dX7_isSeen_10 ?_
    refine tt_iload_n (pc := 13) (k := 2) C dX7_isSeen_13 rfl rfl ?_
    refine tt_iaload (pc := 14) (ws := (mC cy ad sc ar la)) (n := 5) (f := (ar 7)) C 5 0 mC_get7 rfl hj1 dX7_isSeen_14 (fun hj1 => ?_)
    refine tt_iload_n (pc := 15) (k := 3) C dX7_isSeen_15 rfl rfl ?_
    have k6 : TT p l e { frames := 3, cells := 0, slots := 0, locals := 77 } s m args below meth c 5 D A true (some (.int out)) (mC cy ad sc ar la) 42 [(0, .ref (ad 0)), (1, .int a1), (2, .int a2), (3, .int a3)] [.int (if ((ar 7) (ix a2)) ≤ a3 then (0 : Int32) else (1 : Int32))] (mC cy ad sc ar la) := by
      obtain rfl := Option.some.inj hj1
      exact tt_locs [0, 1, 2, 3] rfl k2
    refine tr_icmp_le (pc := 16) (tgt := 23) C dX7_isSeen_16 (by decide) (fun c5 => ?_) (fun c5 => ?_)
    · refine tt_iconst (pc := 23) (v := (0 : Int32)) C dX7_isSeen_23 (by decide) ?_
      refine tt_goto (pc := 24) (tgt := 42) C dX7_isSeen_24 (by decide) ?_
      try simp only [if_pos c5] at k6 ⊢
      exact tt_locs [0, 1, 2, 3] rfl k6
    · refine tt_iconst (pc := 19) (v := (1 : Int32)) C dX7_isSeen_19 (by decide) ?_
      refine tt_goto (pc := 20) (tgt := 42) C dX7_isSeen_20 (by decide) ?_
      try simp only [if_neg c5] at k6 ⊢
      exact tt_locs [0, 1, 2, 3] rfl k6
theorem dX7_sees_0 : decode cX7_sees 0 = .ok (.aload_n 0, 1) := by decide +kernel
theorem dX7_sees_1 : decode cX7_sees 1 = .ok (.iload_n 1, 1) := by decide +kernel
theorem dX7_sees_2 : decode cX7_sees 2 = .ok (.invokevirtual 138, 3) := by decide +kernel
theorem dX7_sees_5 : decode cX7_sees 5 = .ok (.ifCond .eq 19, 3) := by decide +kernel
theorem dX7_sees_8 : decode cX7_sees 8 = .ok (.aload_n 0, 1) := by decide +kernel
theorem dX7_sees_9 : decode cX7_sees 9 = .ok (.iload_n 2, 1) := by decide +kernel
theorem dX7_sees_10 : decode cX7_sees 10 = .ok (.invokevirtual 131, 3) := by decide +kernel
theorem dX7_sees_13 : decode cX7_sees 13 = .ok (.ifCond .eq 11, 3) := by decide +kernel
theorem dX7_sees_16 : decode cX7_sees 16 = .ok (.aload_n 0, 1) := by decide +kernel
theorem dX7_sees_17 : decode cX7_sees 17 = .ok (.iload_n 3, 1) := by decide +kernel
theorem dX7_sees_18 : decode cX7_sees 18 = .ok (.invokevirtual 121, 3) := by decide +kernel
theorem dX7_sees_21 : decode cX7_sees 21 = .ok (.ifCond .ne 9, 3) := by decide +kernel
theorem dX7_sees_24 : decode cX7_sees 24 = .ok (.aload_n 0, 1) := by decide +kernel
theorem dX7_sees_25 : decode cX7_sees 25 = .ok (.iconst (-1), 1) := by decide +kernel
theorem dX7_sees_26 : decode cX7_sees 26 = .ok (.invokevirtual 98, 3) := by decide +kernel
theorem dX7_sees_29 : decode cX7_sees 29 = .ok (.ireturn, 1) := by decide +kernel
theorem dX7_sees_30 : decode cX7_sees 30 = .ok (.aload_n 0, 1) := by decide +kernel
theorem dX7_sees_31 : decode cX7_sees 31 = .ok (.iload_n 1, 1) := by decide +kernel
theorem dX7_sees_32 : decode cX7_sees 32 = .ok (.iload_n 2, 1) := by decide +kernel
theorem dX7_sees_33 : decode cX7_sees 33 = .ok (.iload_n 3, 1) := by decide +kernel
theorem dX7_sees_34 : decode cX7_sees 34 = .ok (.invokevirtual 176, 3) := by decide +kernel
theorem dX7_sees_37 : decode cX7_sees 37 = .ok (.ifCond .eq 7, 3) := by decide +kernel
theorem dX7_sees_40 : decode cX7_sees 40 = .ok (.iconst 1, 1) := by decide +kernel
theorem dX7_sees_41 : decode cX7_sees 41 = .ok (.goto 4, 3) := by decide +kernel
theorem dX7_sees_44 : decode cX7_sees 44 = .ok (.iconst 0, 1) := by decide +kernel
theorem dX7_sees_45 : decode cX7_sees 45 = .ok (.ireturn, 1) := by decide +kernel
set_option maxHeartbeats 4000000 in
set_option maxRecDepth 100000 in
theorem k_X7_sees {l : Launch} {D : va_G} {cy : Nat → ClassId} {Bd : Nat} {xa : Xa} {ad : Nat → Nat} {N : Nat} {sc : Nat → Int32} {ar : Nat → Nat → Int32} {la : Nat → Nat → Int64} {a1 : Int32} {a2 : Int32} {a3 : Int32} {out : Int32 × (Nat → Nat → Int32)} (hf : f_X7_sees N sc ar a1 a2 a3 = some out) : KC l yX7_sees cX7_sees 4 (some .int) 4 101 false D cy Bd xa [.ref (ad 0), .int a1, .int a2, .int a3] (mC cy ad sc ar la) (some (.int out.1)) (mC cy ad sc out.2 la) := by
  refine kc_start (own := RX7) (by decide +kernel) rfl (Nat.le_of_ble_eq_true rfl) ?_
  intro p e s m args below meth c A C
  unfold f_X7_sees at hf
  refine tt_locs (L' := [(0, .ref (ad 0)), (1, .int a1), (2, .int a2), (3, .int a3)]) [0, 1, 2, 3] rfl ?_
  refine tt_aload_n (pc := 0) (k := 0) C dX7_sees_0 rfl rfl ?_
  refine tt_iload_n (pc := 1) (k := 1) C dX7_sees_1 rfl rfl ?_
  obtain ⟨r1, hr1, hf⟩ := bind_some hf
  refine tt_callR (pc := 2) (ws := (mC cy ad sc ar la)) (q0 := 0) (ci := 7) (rest := []) (st' := [.int r1]) C (k_X7_isTrain hr1) okX7_isTrain q5_103 rfl mC_obj (fun _ h => h) rfl rfl rfl (Nat.le_of_ble_eq_true rfl) ⟨Nat.le_of_ble_eq_true rfl, Nat.le_of_ble_eq_true rfl⟩ dX7_sees_2 ?_
  refine tt_if_eq (pc := 5) (tgt := 24) C dX7_sees_5 (by decide) hf (fun hf => ?_) (fun hf => ?_)
  · refine tt_aload_n (pc := 24) (k := 0) C dX7_sees_24 rfl rfl ?_
    refine tt_iconst (pc := 25) (v := (-1 : Int32)) C dX7_sees_25 (by decide) ?_
    obtain ⟨r2, hr2, hf⟩ := bind_some hf
    refine tt_callM (pc := 26) (ws := (mC cy ad sc ar la)) (q0 := 0) (ci := 7) (rest := []) (st' := [.int r2.1]) C rfl (k_X7_no hr2) okX7_no q5_36 rfl mC_obj rfl rfl rfl (Nat.le_of_ble_eq_true rfl) ⟨Nat.le_of_ble_eq_true rfl, Nat.le_of_ble_eq_true rfl⟩ dX7_sees_26 ?_
    obtain rfl := Option.some.inj hf
    exact tt_ireturn (pc := 29) C rfl rfl rfl dX7_sees_29
  · refine tt_aload_n (pc := 8) (k := 0) C dX7_sees_8 rfl rfl ?_
    refine tt_iload_n (pc := 9) (k := 2) C dX7_sees_9 rfl rfl ?_
    obtain ⟨r3, hr3, hf⟩ := bind_some hf
    refine tt_callR (pc := 10) (ws := (mC cy ad sc ar la)) (q0 := 0) (ci := 7) (rest := []) (st' := [.int r3]) C (k_X7_isPost hr3) okX7_isPost q5_79 rfl mC_obj (fun _ h => h) rfl rfl rfl (Nat.le_of_ble_eq_true rfl) ⟨Nat.le_of_ble_eq_true rfl, Nat.le_of_ble_eq_true rfl⟩ dX7_sees_10 ?_
    refine tt_if_eq (pc := 13) (tgt := 24) C dX7_sees_13 (by decide) hf (fun hf => ?_) (fun hf => ?_)
    · refine tt_aload_n (pc := 24) (k := 0) C dX7_sees_24 rfl rfl ?_
      refine tt_iconst (pc := 25) (v := (-1 : Int32)) C dX7_sees_25 (by decide) ?_
      obtain ⟨r4, hr4, hf⟩ := bind_some hf
      refine tt_callM (pc := 26) (ws := (mC cy ad sc ar la)) (q0 := 0) (ci := 7) (rest := []) (st' := [.int r4.1]) C rfl (k_X7_no hr4) okX7_no q5_36 rfl mC_obj rfl rfl rfl (Nat.le_of_ble_eq_true rfl) ⟨Nat.le_of_ble_eq_true rfl, Nat.le_of_ble_eq_true rfl⟩ dX7_sees_26 ?_
      obtain rfl := Option.some.inj hf
      exact tt_ireturn (pc := 29) C rfl rfl rfl dX7_sees_29
    · refine tt_aload_n (pc := 16) (k := 0) C dX7_sees_16 rfl rfl ?_
      refine tt_iload_n (pc := 17) (k := 3) C dX7_sees_17 rfl rfl ?_
      obtain ⟨r5, hr5, hf⟩ := bind_some hf
      refine tt_callR (pc := 18) (ws := (mC cy ad sc ar la)) (q0 := 0) (ci := 7) (rest := []) (st' := [.int r5]) C (k_X7_isCell hr5) okX7_isCell q5_48 rfl mC_obj (fun _ h => h) rfl rfl rfl (Nat.le_of_ble_eq_true rfl) ⟨Nat.le_of_ble_eq_true rfl, Nat.le_of_ble_eq_true rfl⟩ dX7_sees_18 ?_
      refine tt_if_ne (pc := 21) (tgt := 30) C dX7_sees_21 (by decide) hf (fun hf => ?_) (fun hf => ?_)
      · refine tt_aload_n (pc := 30) (k := 0) C dX7_sees_30 rfl rfl ?_
        refine tt_iload_n (pc := 31) (k := 1) C dX7_sees_31 rfl rfl ?_
        refine tt_iload_n (pc := 32) (k := 2) C dX7_sees_32 rfl rfl ?_
        refine tt_iload_n (pc := 33) (k := 3) C dX7_sees_33 rfl rfl ?_
        obtain ⟨r6, hr6, hf⟩ := bind_some hf
        refine tt_callR (pc := 34) (ws := (mC cy ad sc ar la)) (q0 := 0) (ci := 7) (rest := []) (st' := [.int r6]) C (k_X7_isSeen hr6) okX7_isSeen q5_155 rfl mC_obj (fun _ h => h) rfl rfl rfl (Nat.le_of_ble_eq_true rfl) ⟨Nat.le_of_ble_eq_true rfl, Nat.le_of_ble_eq_true rfl⟩ dX7_sees_34 ?_
        have k8 : TT p l e { frames := 4, cells := 0, slots := 0, locals := 101 } s m args below meth c 4 D A false (some (.int out.1)) (mC cy ad sc out.2 la) 45 [] [.int (if r6 = 0 then (0 : Int32) else (1 : Int32))] (mC cy ad sc ar la) := by
          obtain rfl := Option.some.inj hf
          exact tt_ireturn (pc := 45) C rfl rfl rfl dX7_sees_45
        refine tr_if_eq (pc := 37) (tgt := 44) C dX7_sees_37 (by decide) (fun c7 => ?_) (fun c7 => ?_)
        · refine tt_iconst (pc := 44) (v := (0 : Int32)) C dX7_sees_44 (by decide) ?_
          try simp only [if_pos c7] at k8 ⊢
          exact tt_locs [] rfl k8
        · refine tt_iconst (pc := 40) (v := (1 : Int32)) C dX7_sees_40 (by decide) ?_
          refine tt_goto (pc := 41) (tgt := 45) C dX7_sees_41 (by decide) ?_
          try simp only [if_neg c7] at k8 ⊢
          exact tt_locs [] rfl k8
      · refine tt_aload_n (pc := 24) (k := 0) C dX7_sees_24 rfl rfl ?_
        refine tt_iconst (pc := 25) (v := (-1 : Int32)) C dX7_sees_25 (by decide) ?_
        obtain ⟨r9, hr9, hf⟩ := bind_some hf
        refine tt_callM (pc := 26) (ws := (mC cy ad sc ar la)) (q0 := 0) (ci := 7) (rest := []) (st' := [.int r9.1]) C rfl (k_X7_no hr9) okX7_no q5_36 rfl mC_obj rfl rfl rfl (Nat.le_of_ble_eq_true rfl) ⟨Nat.le_of_ble_eq_true rfl, Nat.le_of_ble_eq_true rfl⟩ dX7_sees_26 ?_
        obtain rfl := Option.some.inj hf
        exact tt_ireturn (pc := 29) C rfl rfl rfl dX7_sees_29
theorem dX7_firstOf_0 : decode cX7_firstOf 0 = .ok (.aload_n 0, 1) := by decide +kernel
theorem dX7_firstOf_1 : decode cX7_firstOf 1 = .ok (.getfield 41, 3) := by decide +kernel
theorem dX7_firstOf_4 : decode cX7_firstOf 4 = .ok (.iload_n 1, 1) := by decide +kernel
theorem dX7_firstOf_5 : decode cX7_firstOf 5 = .ok (.iaload, 1) := by decide +kernel
theorem dX7_firstOf_6 : decode cX7_firstOf 6 = .ok (.ifCond .ne 7, 3) := by decide +kernel
theorem dX7_firstOf_9 : decode cX7_firstOf 9 = .ok (.iconst (-1), 1) := by decide +kernel
theorem dX7_firstOf_10 : decode cX7_firstOf 10 = .ok (.goto 4, 3) := by decide +kernel
theorem dX7_firstOf_13 : decode cX7_firstOf 13 = .ok (.iconst 1, 1) := by decide +kernel
theorem dX7_firstOf_14 : decode cX7_firstOf 14 = .ok (.istore_n 3, 1) := by decide +kernel
theorem dX7_firstOf_15 : decode cX7_firstOf 15 = .ok (.bipush (-9), 2) := by decide +kernel
theorem dX7_firstOf_17 : decode cX7_firstOf 17 = .ok (.istore 4, 2) := by decide +kernel
theorem dX7_firstOf_19 : decode cX7_firstOf 19 = .ok (.aload_n 0, 1) := by decide +kernel
theorem dX7_firstOf_20 : decode cX7_firstOf 20 = .ok (.getfield 26, 3) := by decide +kernel
theorem dX7_firstOf_23 : decode cX7_firstOf 23 = .ok (.iload_n 2, 1) := by decide +kernel
theorem dX7_firstOf_24 : decode cX7_firstOf 24 = .ok (.iaload, 1) := by decide +kernel
theorem dX7_firstOf_25 : decode cX7_firstOf 25 = .ok (.iload_n 3, 1) := by decide +kernel
theorem dX7_firstOf_26 : decode cX7_firstOf 26 = .ok (.iadd, 1) := by decide +kernel
theorem dX7_firstOf_27 : decode cX7_firstOf 27 = .ok (.istore 5, 2) := by decide +kernel
theorem dX7_firstOf_29 : decode cX7_firstOf 29 = .ok (.aload_n 0, 1) := by decide +kernel
theorem dX7_firstOf_30 : decode cX7_firstOf 30 = .ok (.iload 5, 2) := by decide +kernel
theorem dX7_firstOf_32 : decode cX7_firstOf 32 = .ok (.invokevirtual 121, 3) := by decide +kernel
theorem dX7_firstOf_35 : decode cX7_firstOf 35 = .ok (.ifCond .eq 27, 3) := by decide +kernel
theorem dX7_firstOf_38 : decode cX7_firstOf 38 = .ok (.aload_n 0, 1) := by decide +kernel
theorem dX7_firstOf_39 : decode cX7_firstOf 39 = .ok (.iload_n 1, 1) := by decide +kernel
theorem dX7_firstOf_40 : decode cX7_firstOf 40 = .ok (.iload_n 2, 1) := by decide +kernel
theorem dX7_firstOf_41 : decode cX7_firstOf 41 = .ok (.iload 5, 2) := by decide +kernel
theorem dX7_firstOf_43 : decode cX7_firstOf 43 = .ok (.invokevirtual 176, 3) := by decide +kernel
theorem dX7_firstOf_46 : decode cX7_firstOf 46 = .ok (.ifCond .eq 16, 3) := by decide +kernel
theorem dX7_firstOf_49 : decode cX7_firstOf 49 = .ok (.iload 5, 2) := by decide +kernel
theorem dX7_firstOf_51 : decode cX7_firstOf 51 = .ok (.istore 4, 2) := by decide +kernel
theorem dX7_firstOf_53 : decode cX7_firstOf 53 = .ok (.iload 5, 2) := by decide +kernel
theorem dX7_firstOf_55 : decode cX7_firstOf 55 = .ok (.iload_n 3, 1) := by decide +kernel
theorem dX7_firstOf_56 : decode cX7_firstOf 56 = .ok (.iadd, 1) := by decide +kernel
theorem dX7_firstOf_57 : decode cX7_firstOf 57 = .ok (.istore 5, 2) := by decide +kernel
theorem dX7_firstOf_59 : decode cX7_firstOf 59 = .ok (.goto (-30), 3) := by decide +kernel
theorem dX7_firstOf_62 : decode cX7_firstOf 62 = .ok (.iload 4, 2) := by decide +kernel
theorem dX7_firstOf_64 : decode cX7_firstOf 64 = .ok (.ireturn, 1) := by decide +kernel
set_option maxHeartbeats 4000000 in
set_option maxRecDepth 100000 in
theorem l_X7_firstOf_29 {p : Program} {l : Launch} {e : Env} {s : State} {m : MethodId} {args : Array Value} {below : List Frame} {meth : Method} {c : Code} {D : va_G} {cy : Nat → ClassId} {A : Nat → Prop} {Bd : Nat} {xa : Xa} {ad : Nat → Nat} {β : Type} {vO : Option Value} {wO : va_W} {N : Nat} {sc : Nat → Int32} {ar : Nat → Nat → Int32} {la : Nat → Nat → Int64} {v1 : Int32} {v2 : Int32} {v3 : Int32} {kx : Int32 → Option (β)} {out : β} (C : CC p s m args meth c cX7_firstOf RX7 6 (some .int) D cy A true Bd xa) (hk : ∀ (x4 : Int32), kx x4 = some out → TT p l e { frames := 4, cells := 0, slots := 0, locals := 101 } s m args below meth c 6 D A true vO wO 62 [(4, .int x4)] [] (mC cy ad sc ar la)) {n : Nat} {v4 : Int32} {v5 : Int32} (hf : f_X7_firstOf_L29 N sc ar v1 v2 v3 kx n v4 v5 = some out) : TT p l e { frames := 4, cells := 0, slots := 0, locals := 101 } s m args below meth c 6 D A true vO wO 29 [(0, .ref (ad 0)), (1, .int v1), (2, .int v2), (3, .int v3), (4, .int v4), (5, .int v5)] [] (mC cy ad sc ar la) := by
  induction n generalizing v4 v5 with
  | zero => cases hf
  | succ n ih =>
    rw [f_X7_firstOf_L29] at hf
    refine tt_aload_n (pc := 29) (k := 0) C dX7_firstOf_29 rfl rfl ?_
    refine tt_iload (pc := 30) (k := 5) C dX7_firstOf_30 rfl ?_
    obtain ⟨r3, hr3, hf⟩ := bind_some hf
    refine tt_callR (pc := 32) (ws := (mC cy ad sc ar la)) (q0 := 0) (ci := 7) (rest := []) (st' := [.int r3]) C (k_X7_isCell hr3) okX7_isCell q5_48 rfl mC_obj (fun _ h => h) rfl rfl rfl (Nat.le_of_ble_eq_true rfl) ⟨Nat.le_of_ble_eq_true rfl, Nat.le_of_ble_eq_true rfl⟩ dX7_firstOf_32 ?_
    refine tt_if_eq (pc := 35) (tgt := 62) C dX7_firstOf_35 (by decide) hf (fun hf => ?_) (fun hf => ?_)
    · exact tt_locs [4] rfl (hk _ hf)
    · refine tt_aload_n (pc := 38) (k := 0) C dX7_firstOf_38 rfl rfl ?_
      refine tt_iload_n (pc := 39) (k := 1) C dX7_firstOf_39 rfl rfl ?_
      refine tt_iload_n (pc := 40) (k := 2) C dX7_firstOf_40 rfl rfl ?_
      refine tt_iload (pc := 41) (k := 5) C dX7_firstOf_41 rfl ?_
      obtain ⟨r4, hr4, hf⟩ := bind_some hf
      refine tt_callR (pc := 43) (ws := (mC cy ad sc ar la)) (q0 := 0) (ci := 7) (rest := []) (st' := [.int r4]) C (k_X7_isSeen hr4) okX7_isSeen q5_155 rfl mC_obj (fun _ h => h) rfl rfl rfl (Nat.le_of_ble_eq_true rfl) ⟨Nat.le_of_ble_eq_true rfl, Nat.le_of_ble_eq_true rfl⟩ dX7_firstOf_43 ?_
      refine tt_if_eq (pc := 46) (tgt := 62) C dX7_firstOf_46 (by decide) hf (fun hf => ?_) (fun hf => ?_)
      · exact tt_locs [4] rfl (hk _ hf)
      · refine tt_iload (pc := 49) (k := 5) C dX7_firstOf_49 rfl ?_
        refine tt_istore (pc := 51) (L' := [(4, .int v5), (0, .ref (ad 0)), (1, .int v1), (2, .int v2), (3, .int v3), (5, .int v5)]) C dX7_firstOf_51 (by decide) rfl ?_
        refine tt_iload (pc := 53) (k := 5) C dX7_firstOf_53 rfl ?_
        refine tt_iload_n (pc := 55) (k := 4) C dX7_firstOf_55 rfl rfl ?_
        refine tt_iadd (pc := 56) C dX7_firstOf_56 ?_
        refine tt_istore (pc := 57) (L' := [(5, .int (v5 + v3)), (4, .int v5), (0, .ref (ad 0)), (1, .int v1), (2, .int v2), (3, .int v3)]) C dX7_firstOf_57 (by decide) rfl ?_
        refine tt_goto (pc := 59) (tgt := 29) C dX7_firstOf_59 (by decide) ?_
        exact tt_locs [2, 3, 4, 5, 1, 0] rfl (ih hf)
set_option maxHeartbeats 4000000 in
set_option maxRecDepth 100000 in
theorem k_X7_firstOf {l : Launch} {D : va_G} {cy : Nat → ClassId} {Bd : Nat} {xa : Xa} {ad : Nat → Nat} {N : Nat} {sc : Nat → Int32} {ar : Nat → Nat → Int32} {la : Nat → Nat → Int64} {a1 : Int32} {a2 : Int32} {out : Int32} (hf : f_X7_firstOf N sc ar a1 a2 = some out) : KC l yX7_firstOf cX7_firstOf 6 (some .int) 4 101 true D cy Bd xa [.ref (ad 0), .int a1, .int a2] (mC cy ad sc ar la) (some (.int out)) (mC cy ad sc ar la) := by
  refine kc_start (own := RX7) (by decide +kernel) rfl (Nat.le_of_ble_eq_true rfl) ?_
  intro p e s m args below meth c A C
  unfold f_X7_firstOf at hf
  refine tt_locs (L' := [(0, .ref (ad 0)), (1, .int a1), (2, .int a2)]) [0, 1, 2] rfl ?_
  refine tt_aload_n (pc := 0) (k := 0) C dX7_firstOf_0 rfl rfl ?_
  refine tt_get (pc := 1) (ws := (mC cy ad sc ar la)) (ci := 7) (v := .ref (ad 13)) C fiX7 rfl 0 mC_obj 13 (by decide) q4_173 rfl dX7_firstOf_1 ?_
  refine tt_iload_n (pc := 4) (k := 1) C dX7_firstOf_4 rfl rfl ?_
  refine tt_iaload (pc := 5) (ws := (mC cy ad sc ar la)) (n := 4) (f := (ar 13)) C 10 0 mC_get13 rfl hf dX7_firstOf_5 (fun hf => ?_)
  have k2 : TT p l e { frames := 4, cells := 0, slots := 0, locals := 101 } s m args below meth c 6 D A true (some (.int out)) (mC cy ad sc ar la) 14 [(0, .ref (ad 0)), (1, .int a1), (2, .int a2)] [.int (if ((ar 13) (ix a1)) = 0 then (-1 : Int32) else (1 : Int32))] (mC cy ad sc ar la) := by
    refine tt_istore_n (pc := 14) (L' := [(3, .int (if ((ar 13) (ix a1)) = 0 then (-1 : Int32) else (1 : Int32))), (0, .ref (ad 0)), (1, .int a1), (2, .int a2)]) C dX7_firstOf_14 rfl (by decide) rfl ?_
    refine tt_bipush (pc := 15) (v := (-9 : Int32)) C dX7_firstOf_15 (by decide) ?_
    refine tt_istore (pc := 17) (L' := [(4, .int (-9 : Int32)), (3, .int (if ((ar 13) (ix a1)) = 0 then (-1 : Int32) else (1 : Int32))), (0, .ref (ad 0)), (1, .int a1), (2, .int a2)]) C dX7_firstOf_17 (by decide) rfl ?_
    refine tt_aload_n (pc := 19) (k := 2) C dX7_firstOf_19 rfl rfl ?_
    refine tt_get (pc := 20) (ws := (mC cy ad sc ar la)) (ci := 7) (v := .ref (ad 7)) C fiX7 rfl 0 mC_obj 7 (by decide) q4_167 rfl dX7_firstOf_20 ?_
    refine tt_iload_n (pc := 23) (k := 4) C dX7_firstOf_23 rfl rfl ?_
    refine tt_iaload (pc := 24) (ws := (mC cy ad sc ar la)) (n := 5) (f := (ar 7)) C 5 0 mC_get7 rfl hf dX7_firstOf_24 (fun hf => ?_)
    refine tt_iload_n (pc := 25) (k := 1) C dX7_firstOf_25 rfl rfl ?_
    refine tt_iadd (pc := 26) C dX7_firstOf_26 ?_
    refine tt_istore (pc := 27) (L' := [(5, .int (((ar 7) (ix a2)) + (if ((ar 13) (ix a1)) = 0 then (-1 : Int32) else (1 : Int32)))), (4, .int (-9 : Int32)), (3, .int (if ((ar 13) (ix a1)) = 0 then (-1 : Int32) else (1 : Int32))), (0, .ref (ad 0)), (1, .int a1), (2, .int a2)]) C dX7_firstOf_27 (by decide) rfl ?_
    refine tt_locs (L' := [(0, .ref (ad 0)), (1, .int a1), (2, .int a2), (3, .int (if ((ar 13) (ix a1)) = 0 then (-1 : Int32) else (1 : Int32))), (4, .int (-9 : Int32)), (5, .int (((ar 7) (ix a2)) + (if ((ar 13) (ix a1)) = 0 then (-1 : Int32) else (1 : Int32))))]) [3, 4, 5, 2, 1, 0] rfl (l_X7_firstOf_29 C (fun x4_5 hf => ?_) hf)
    refine tt_iload (pc := 62) (k := 0) C dX7_firstOf_62 rfl ?_
    obtain rfl := Option.some.inj hf
    exact tt_ireturn (pc := 64) C rfl rfl rfl dX7_firstOf_64
  refine tr_if_ne (pc := 6) (tgt := 13) C dX7_firstOf_6 (by decide) (fun c1 => ?_) (fun c1 => ?_)
  · refine tt_iconst (pc := 13) (v := (1 : Int32)) C dX7_firstOf_13 (by decide) ?_
    try simp only [if_neg c1] at k2 ⊢
    exact tt_locs [0, 1, 2] rfl k2
  · refine tt_iconst (pc := 9) (v := (-1 : Int32)) C dX7_firstOf_9 (by decide) ?_
    refine tt_goto (pc := 10) (tgt := 14) C dX7_firstOf_10 (by decide) ?_
    try simp only [if_pos c1] at k2 ⊢
    exact tt_locs [0, 1, 2] rfl k2
theorem dX7_first_0 : decode cX7_first 0 = .ok (.aload_n 0, 1) := by decide +kernel
theorem dX7_first_1 : decode cX7_first 1 = .ok (.iload_n 1, 1) := by decide +kernel
theorem dX7_first_2 : decode cX7_first 2 = .ok (.invokevirtual 138, 3) := by decide +kernel
theorem dX7_first_5 : decode cX7_first 5 = .ok (.ifCond .eq 20, 3) := by decide +kernel
theorem dX7_first_8 : decode cX7_first 8 = .ok (.aload_n 0, 1) := by decide +kernel
theorem dX7_first_9 : decode cX7_first 9 = .ok (.iload_n 2, 1) := by decide +kernel
theorem dX7_first_10 : decode cX7_first 10 = .ok (.invokevirtual 131, 3) := by decide +kernel
theorem dX7_first_13 : decode cX7_first 13 = .ok (.ifCond .eq 12, 3) := by decide +kernel
theorem dX7_first_16 : decode cX7_first 16 = .ok (.aload_n 0, 1) := by decide +kernel
theorem dX7_first_17 : decode cX7_first 17 = .ok (.iload_n 1, 1) := by decide +kernel
theorem dX7_first_18 : decode cX7_first 18 = .ok (.iload_n 2, 1) := by decide +kernel
theorem dX7_first_19 : decode cX7_first 19 = .ok (.invokevirtual 188, 3) := by decide +kernel
theorem dX7_first_22 : decode cX7_first 22 = .ok (.goto 8, 3) := by decide +kernel
theorem dX7_first_25 : decode cX7_first 25 = .ok (.aload_n 0, 1) := by decide +kernel
theorem dX7_first_26 : decode cX7_first 26 = .ok (.iconst (-1), 1) := by decide +kernel
theorem dX7_first_27 : decode cX7_first 27 = .ok (.invokevirtual 98, 3) := by decide +kernel
theorem dX7_first_30 : decode cX7_first 30 = .ok (.ireturn, 1) := by decide +kernel
set_option maxHeartbeats 4000000 in
set_option maxRecDepth 100000 in
theorem k_X7_first {l : Launch} {D : va_G} {cy : Nat → ClassId} {Bd : Nat} {xa : Xa} {ad : Nat → Nat} {N : Nat} {sc : Nat → Int32} {ar : Nat → Nat → Int32} {la : Nat → Nat → Int64} {a1 : Int32} {a2 : Int32} {out : Int32 × (Nat → Nat → Int32)} (hf : f_X7_first N sc ar a1 a2 = some out) : KC l yX7_first cX7_first 3 (some .int) 5 126 false D cy Bd xa [.ref (ad 0), .int a1, .int a2] (mC cy ad sc ar la) (some (.int out.1)) (mC cy ad sc out.2 la) := by
  refine kc_start (own := RX7) (by decide +kernel) rfl (Nat.le_of_ble_eq_true rfl) ?_
  intro p e s m args below meth c A C
  unfold f_X7_first at hf
  refine tt_locs (L' := [(0, .ref (ad 0)), (1, .int a1), (2, .int a2)]) [0, 1, 2] rfl ?_
  refine tt_aload_n (pc := 0) (k := 0) C dX7_first_0 rfl rfl ?_
  refine tt_iload_n (pc := 1) (k := 1) C dX7_first_1 rfl rfl ?_
  obtain ⟨r1, hr1, hf⟩ := bind_some hf
  refine tt_callR (pc := 2) (ws := (mC cy ad sc ar la)) (q0 := 0) (ci := 7) (rest := []) (st' := [.int r1]) C (k_X7_isTrain hr1) okX7_isTrain q5_103 rfl mC_obj (fun _ h => h) rfl rfl rfl (Nat.le_of_ble_eq_true rfl) ⟨Nat.le_of_ble_eq_true rfl, Nat.le_of_ble_eq_true rfl⟩ dX7_first_2 ?_
  obtain ⟨j2, hj2, hf⟩ := bind_some hf
  have k3 : TT p l e { frames := 5, cells := 0, slots := 0, locals := 126 } s m args below meth c 3 D A false (some (.int out.1)) (mC cy ad sc out.2 la) 30 [] [.int j2.1] (mC cy ad sc j2.2 la) := by
    obtain rfl := Option.some.inj hf
    exact tt_ireturn (pc := 30) C rfl rfl rfl dX7_first_30
  refine tt_if_eq (pc := 5) (tgt := 25) C dX7_first_5 (by decide) hj2 (fun hj2 => ?_) (fun hj2 => ?_)
  · refine tt_aload_n (pc := 25) (k := 0) C dX7_first_25 rfl rfl ?_
    refine tt_iconst (pc := 26) (v := (-1 : Int32)) C dX7_first_26 (by decide) ?_
    obtain ⟨r4, hr4, hj2⟩ := bind_some hj2
    refine tt_callM (pc := 27) (ws := (mC cy ad sc ar la)) (q0 := 0) (ci := 7) (rest := []) (st' := [.int r4.1]) C rfl (k_X7_no hr4) okX7_no q5_36 rfl mC_obj rfl rfl rfl (Nat.le_of_ble_eq_true rfl) ⟨Nat.le_of_ble_eq_true rfl, Nat.le_of_ble_eq_true rfl⟩ dX7_first_27 ?_
    obtain rfl := Option.some.inj hj2
    exact tt_locs [] rfl k3
  · refine tt_aload_n (pc := 8) (k := 0) C dX7_first_8 rfl rfl ?_
    refine tt_iload_n (pc := 9) (k := 2) C dX7_first_9 rfl rfl ?_
    obtain ⟨r5, hr5, hj2⟩ := bind_some hj2
    refine tt_callR (pc := 10) (ws := (mC cy ad sc ar la)) (q0 := 0) (ci := 7) (rest := []) (st' := [.int r5]) C (k_X7_isPost hr5) okX7_isPost q5_79 rfl mC_obj (fun _ h => h) rfl rfl rfl (Nat.le_of_ble_eq_true rfl) ⟨Nat.le_of_ble_eq_true rfl, Nat.le_of_ble_eq_true rfl⟩ dX7_first_10 ?_
    obtain ⟨j6, hj6, hj2⟩ := bind_some hj2
    have k7 : TT p l e { frames := 5, cells := 0, slots := 0, locals := 126 } s m args below meth c 3 D A false (some (.int out.1)) (mC cy ad sc out.2 la) 30 [] [.int j6.1] (mC cy ad sc j6.2 la) := by
      obtain rfl := Option.some.inj hj2
      exact tt_locs [] rfl k3
    refine tt_if_eq (pc := 13) (tgt := 25) C dX7_first_13 (by decide) hj6 (fun hj6 => ?_) (fun hj6 => ?_)
    · refine tt_aload_n (pc := 25) (k := 0) C dX7_first_25 rfl rfl ?_
      refine tt_iconst (pc := 26) (v := (-1 : Int32)) C dX7_first_26 (by decide) ?_
      obtain ⟨r8, hr8, hj6⟩ := bind_some hj6
      refine tt_callM (pc := 27) (ws := (mC cy ad sc ar la)) (q0 := 0) (ci := 7) (rest := []) (st' := [.int r8.1]) C rfl (k_X7_no hr8) okX7_no q5_36 rfl mC_obj rfl rfl rfl (Nat.le_of_ble_eq_true rfl) ⟨Nat.le_of_ble_eq_true rfl, Nat.le_of_ble_eq_true rfl⟩ dX7_first_27 ?_
      obtain rfl := Option.some.inj hj6
      exact tt_locs [] rfl k7
    · refine tt_aload_n (pc := 16) (k := 0) C dX7_first_16 rfl rfl ?_
      refine tt_iload_n (pc := 17) (k := 1) C dX7_first_17 rfl rfl ?_
      refine tt_iload_n (pc := 18) (k := 2) C dX7_first_18 rfl rfl ?_
      obtain ⟨r9, hr9, hj6⟩ := bind_some hj6
      refine tt_callR (pc := 19) (ws := (mC cy ad sc ar la)) (q0 := 0) (ci := 7) (rest := []) (st' := [.int r9]) C (k_X7_firstOf hr9) okX7_firstOf q5_163 rfl mC_obj (fun _ h => h) rfl rfl rfl (Nat.le_of_ble_eq_true rfl) ⟨Nat.le_of_ble_eq_true rfl, Nat.le_of_ble_eq_true rfl⟩ dX7_first_19 ?_
      refine tt_goto (pc := 22) (tgt := 30) C dX7_first_22 (by decide) ?_
      obtain rfl := Option.some.inj hj6
      exact tt_locs [] rfl k7
theorem dX7_warnedOf_0 : decode cX7_warnedOf 0 = .ok (.aload_n 0, 1) := by decide +kernel
theorem dX7_warnedOf_1 : decode cX7_warnedOf 1 = .ok (.getfield 41, 3) := by decide +kernel
theorem dX7_warnedOf_4 : decode cX7_warnedOf 4 = .ok (.iload_n 1, 1) := by decide +kernel
theorem dX7_warnedOf_5 : decode cX7_warnedOf 5 = .ok (.iaload, 1) := by decide +kernel
theorem dX7_warnedOf_6 : decode cX7_warnedOf 6 = .ok (.ifCond .ne 7, 3) := by decide +kernel
theorem dX7_warnedOf_9 : decode cX7_warnedOf 9 = .ok (.iconst (-1), 1) := by decide +kernel
theorem dX7_warnedOf_10 : decode cX7_warnedOf 10 = .ok (.goto 4, 3) := by decide +kernel
theorem dX7_warnedOf_13 : decode cX7_warnedOf 13 = .ok (.iconst 1, 1) := by decide +kernel
theorem dX7_warnedOf_14 : decode cX7_warnedOf 14 = .ok (.istore_n 3, 1) := by decide +kernel
theorem dX7_warnedOf_15 : decode cX7_warnedOf 15 = .ok (.iconst 0, 1) := by decide +kernel
theorem dX7_warnedOf_16 : decode cX7_warnedOf 16 = .ok (.istore 4, 2) := by decide +kernel
theorem dX7_warnedOf_18 : decode cX7_warnedOf 18 = .ok (.aload_n 0, 1) := by decide +kernel
theorem dX7_warnedOf_19 : decode cX7_warnedOf 19 = .ok (.getfield 26, 3) := by decide +kernel
theorem dX7_warnedOf_22 : decode cX7_warnedOf 22 = .ok (.iload_n 2, 1) := by decide +kernel
theorem dX7_warnedOf_23 : decode cX7_warnedOf 23 = .ok (.iaload, 1) := by decide +kernel
theorem dX7_warnedOf_24 : decode cX7_warnedOf 24 = .ok (.iload_n 3, 1) := by decide +kernel
theorem dX7_warnedOf_25 : decode cX7_warnedOf 25 = .ok (.iadd, 1) := by decide +kernel
theorem dX7_warnedOf_26 : decode cX7_warnedOf 26 = .ok (.istore 5, 2) := by decide +kernel
theorem dX7_warnedOf_28 : decode cX7_warnedOf 28 = .ok (.aload_n 0, 1) := by decide +kernel
theorem dX7_warnedOf_29 : decode cX7_warnedOf 29 = .ok (.iload 5, 2) := by decide +kernel
theorem dX7_warnedOf_31 : decode cX7_warnedOf 31 = .ok (.invokevirtual 121, 3) := by decide +kernel
theorem dX7_warnedOf_34 : decode cX7_warnedOf 34 = .ok (.ifCond .eq 35, 3) := by decide +kernel
theorem dX7_warnedOf_37 : decode cX7_warnedOf 37 = .ok (.aload_n 0, 1) := by decide +kernel
theorem dX7_warnedOf_38 : decode cX7_warnedOf 38 = .ok (.iload_n 1, 1) := by decide +kernel
theorem dX7_warnedOf_39 : decode cX7_warnedOf 39 = .ok (.iload_n 2, 1) := by decide +kernel
theorem dX7_warnedOf_40 : decode cX7_warnedOf 40 = .ok (.iload 5, 2) := by decide +kernel
theorem dX7_warnedOf_42 : decode cX7_warnedOf 42 = .ok (.invokevirtual 176, 3) := by decide +kernel
theorem dX7_warnedOf_45 : decode cX7_warnedOf 45 = .ok (.ifCond .eq 24, 3) := by decide +kernel
theorem dX7_warnedOf_48 : decode cX7_warnedOf 48 = .ok (.iload 4, 2) := by decide +kernel
theorem dX7_warnedOf_50 : decode cX7_warnedOf 50 = .ok (.aload_n 0, 1) := by decide +kernel
theorem dX7_warnedOf_51 : decode cX7_warnedOf 51 = .ok (.iload_n 1, 1) := by decide +kernel
theorem dX7_warnedOf_52 : decode cX7_warnedOf 52 = .ok (.iload 5, 2) := by decide +kernel
theorem dX7_warnedOf_54 : decode cX7_warnedOf 54 = .ok (.invokevirtual 156, 3) := by decide +kernel
theorem dX7_warnedOf_57 : decode cX7_warnedOf 57 = .ok (.iadd, 1) := by decide +kernel
theorem dX7_warnedOf_58 : decode cX7_warnedOf 58 = .ok (.istore 4, 2) := by decide +kernel
theorem dX7_warnedOf_60 : decode cX7_warnedOf 60 = .ok (.iload 5, 2) := by decide +kernel
theorem dX7_warnedOf_62 : decode cX7_warnedOf 62 = .ok (.iload_n 3, 1) := by decide +kernel
theorem dX7_warnedOf_63 : decode cX7_warnedOf 63 = .ok (.iadd, 1) := by decide +kernel
theorem dX7_warnedOf_64 : decode cX7_warnedOf 64 = .ok (.istore 5, 2) := by decide +kernel
theorem dX7_warnedOf_66 : decode cX7_warnedOf 66 = .ok (.goto (-38), 3) := by decide +kernel
theorem dX7_warnedOf_69 : decode cX7_warnedOf 69 = .ok (.iload 4, 2) := by decide +kernel
theorem dX7_warnedOf_71 : decode cX7_warnedOf 71 = .ok (.ireturn, 1) := by decide +kernel
set_option maxHeartbeats 4000000 in
set_option maxRecDepth 100000 in
theorem l_X7_warnedOf_28 {p : Program} {l : Launch} {e : Env} {s : State} {m : MethodId} {args : Array Value} {below : List Frame} {meth : Method} {c : Code} {D : va_G} {cy : Nat → ClassId} {A : Nat → Prop} {Bd : Nat} {xa : Xa} {ad : Nat → Nat} {β : Type} {vO : Option Value} {wO : va_W} {N : Nat} {sc : Nat → Int32} {ar : Nat → Nat → Int32} {la : Nat → Nat → Int64} {v1 : Int32} {v2 : Int32} {v3 : Int32} {kx : Int32 → Option (β)} {out : β} (C : CC p s m args meth c cX7_warnedOf RX7 6 (some .int) D cy A true Bd xa) (hk : ∀ (x4 : Int32), kx x4 = some out → TT p l e { frames := 4, cells := 0, slots := 0, locals := 101 } s m args below meth c 6 D A true vO wO 69 [(4, .int x4)] [] (mC cy ad sc ar la)) {n : Nat} {v4 : Int32} {v5 : Int32} (hf : f_X7_warnedOf_L28 N sc ar v1 v2 v3 kx n v4 v5 = some out) : TT p l e { frames := 4, cells := 0, slots := 0, locals := 101 } s m args below meth c 6 D A true vO wO 28 [(0, .ref (ad 0)), (1, .int v1), (2, .int v2), (3, .int v3), (4, .int v4), (5, .int v5)] [] (mC cy ad sc ar la) := by
  induction n generalizing v4 v5 with
  | zero => cases hf
  | succ n ih =>
    rw [f_X7_warnedOf_L28] at hf
    refine tt_aload_n (pc := 28) (k := 0) C dX7_warnedOf_28 rfl rfl ?_
    refine tt_iload (pc := 29) (k := 5) C dX7_warnedOf_29 rfl ?_
    obtain ⟨r3, hr3, hf⟩ := bind_some hf
    refine tt_callR (pc := 31) (ws := (mC cy ad sc ar la)) (q0 := 0) (ci := 7) (rest := []) (st' := [.int r3]) C (k_X7_isCell hr3) okX7_isCell q5_48 rfl mC_obj (fun _ h => h) rfl rfl rfl (Nat.le_of_ble_eq_true rfl) ⟨Nat.le_of_ble_eq_true rfl, Nat.le_of_ble_eq_true rfl⟩ dX7_warnedOf_31 ?_
    refine tt_if_eq (pc := 34) (tgt := 69) C dX7_warnedOf_34 (by decide) hf (fun hf => ?_) (fun hf => ?_)
    · exact tt_locs [4] rfl (hk _ hf)
    · refine tt_aload_n (pc := 37) (k := 0) C dX7_warnedOf_37 rfl rfl ?_
      refine tt_iload_n (pc := 38) (k := 1) C dX7_warnedOf_38 rfl rfl ?_
      refine tt_iload_n (pc := 39) (k := 2) C dX7_warnedOf_39 rfl rfl ?_
      refine tt_iload (pc := 40) (k := 5) C dX7_warnedOf_40 rfl ?_
      obtain ⟨r4, hr4, hf⟩ := bind_some hf
      refine tt_callR (pc := 42) (ws := (mC cy ad sc ar la)) (q0 := 0) (ci := 7) (rest := []) (st' := [.int r4]) C (k_X7_isSeen hr4) okX7_isSeen q5_155 rfl mC_obj (fun _ h => h) rfl rfl rfl (Nat.le_of_ble_eq_true rfl) ⟨Nat.le_of_ble_eq_true rfl, Nat.le_of_ble_eq_true rfl⟩ dX7_warnedOf_42 ?_
      refine tt_if_eq (pc := 45) (tgt := 69) C dX7_warnedOf_45 (by decide) hf (fun hf => ?_) (fun hf => ?_)
      · exact tt_locs [4] rfl (hk _ hf)
      · refine tt_iload (pc := 48) (k := 4) C dX7_warnedOf_48 rfl ?_
        refine tt_aload_n (pc := 50) (k := 0) C dX7_warnedOf_50 rfl rfl ?_
        refine tt_iload_n (pc := 51) (k := 1) C dX7_warnedOf_51 rfl rfl ?_
        refine tt_iload (pc := 52) (k := 5) C dX7_warnedOf_52 rfl ?_
        obtain ⟨r5, hr5, hf⟩ := bind_some hf
        refine tt_callR (pc := 54) (ws := (mC cy ad sc ar la)) (q0 := 0) (ci := 7) (rest := [.int v4]) (st' := [.int r5, .int v4]) C (k_X7_timeOf hr5) okX7_timeOf q5_122 rfl mC_obj (fun _ h => h) rfl rfl rfl (Nat.le_of_ble_eq_true rfl) ⟨Nat.le_of_ble_eq_true rfl, Nat.le_of_ble_eq_true rfl⟩ dX7_warnedOf_54 ?_
        refine tt_iadd (pc := 57) C dX7_warnedOf_57 ?_
        refine tt_istore (pc := 58) (L' := [(4, .int (v4 + r5)), (0, .ref (ad 0)), (1, .int v1), (2, .int v2), (3, .int v3), (5, .int v5)]) C dX7_warnedOf_58 (by decide) rfl ?_
        refine tt_iload (pc := 60) (k := 5) C dX7_warnedOf_60 rfl ?_
        refine tt_iload_n (pc := 62) (k := 4) C dX7_warnedOf_62 rfl rfl ?_
        refine tt_iadd (pc := 63) C dX7_warnedOf_63 ?_
        refine tt_istore (pc := 64) (L' := [(5, .int (v5 + v3)), (4, .int (v4 + r5)), (0, .ref (ad 0)), (1, .int v1), (2, .int v2), (3, .int v3)]) C dX7_warnedOf_64 (by decide) rfl ?_
        refine tt_goto (pc := 66) (tgt := 28) C dX7_warnedOf_66 (by decide) ?_
        exact tt_locs [2, 3, 4, 5, 1, 0] rfl (ih hf)
set_option maxHeartbeats 4000000 in
set_option maxRecDepth 100000 in
theorem k_X7_warnedOf {l : Launch} {D : va_G} {cy : Nat → ClassId} {Bd : Nat} {xa : Xa} {ad : Nat → Nat} {N : Nat} {sc : Nat → Int32} {ar : Nat → Nat → Int32} {la : Nat → Nat → Int64} {a1 : Int32} {a2 : Int32} {out : Int32} (hf : f_X7_warnedOf N sc ar a1 a2 = some out) : KC l yX7_warnedOf cX7_warnedOf 6 (some .int) 4 101 true D cy Bd xa [.ref (ad 0), .int a1, .int a2] (mC cy ad sc ar la) (some (.int out)) (mC cy ad sc ar la) := by
  refine kc_start (own := RX7) (by decide +kernel) rfl (Nat.le_of_ble_eq_true rfl) ?_
  intro p e s m args below meth c A C
  unfold f_X7_warnedOf at hf
  refine tt_locs (L' := [(0, .ref (ad 0)), (1, .int a1), (2, .int a2)]) [0, 1, 2] rfl ?_
  refine tt_aload_n (pc := 0) (k := 0) C dX7_warnedOf_0 rfl rfl ?_
  refine tt_get (pc := 1) (ws := (mC cy ad sc ar la)) (ci := 7) (v := .ref (ad 13)) C fiX7 rfl 0 mC_obj 13 (by decide) q4_173 rfl dX7_warnedOf_1 ?_
  refine tt_iload_n (pc := 4) (k := 1) C dX7_warnedOf_4 rfl rfl ?_
  refine tt_iaload (pc := 5) (ws := (mC cy ad sc ar la)) (n := 4) (f := (ar 13)) C 10 0 mC_get13 rfl hf dX7_warnedOf_5 (fun hf => ?_)
  have k2 : TT p l e { frames := 4, cells := 0, slots := 0, locals := 101 } s m args below meth c 6 D A true (some (.int out)) (mC cy ad sc ar la) 14 [(0, .ref (ad 0)), (1, .int a1), (2, .int a2)] [.int (if ((ar 13) (ix a1)) = 0 then (-1 : Int32) else (1 : Int32))] (mC cy ad sc ar la) := by
    refine tt_istore_n (pc := 14) (L' := [(3, .int (if ((ar 13) (ix a1)) = 0 then (-1 : Int32) else (1 : Int32))), (0, .ref (ad 0)), (1, .int a1), (2, .int a2)]) C dX7_warnedOf_14 rfl (by decide) rfl ?_
    refine tt_iconst (pc := 15) (v := (0 : Int32)) C dX7_warnedOf_15 (by decide) ?_
    refine tt_istore (pc := 16) (L' := [(4, .int (0 : Int32)), (3, .int (if ((ar 13) (ix a1)) = 0 then (-1 : Int32) else (1 : Int32))), (0, .ref (ad 0)), (1, .int a1), (2, .int a2)]) C dX7_warnedOf_16 (by decide) rfl ?_
    refine tt_aload_n (pc := 18) (k := 2) C dX7_warnedOf_18 rfl rfl ?_
    refine tt_get (pc := 19) (ws := (mC cy ad sc ar la)) (ci := 7) (v := .ref (ad 7)) C fiX7 rfl 0 mC_obj 7 (by decide) q4_167 rfl dX7_warnedOf_19 ?_
    refine tt_iload_n (pc := 22) (k := 4) C dX7_warnedOf_22 rfl rfl ?_
    refine tt_iaload (pc := 23) (ws := (mC cy ad sc ar la)) (n := 5) (f := (ar 7)) C 5 0 mC_get7 rfl hf dX7_warnedOf_23 (fun hf => ?_)
    refine tt_iload_n (pc := 24) (k := 1) C dX7_warnedOf_24 rfl rfl ?_
    refine tt_iadd (pc := 25) C dX7_warnedOf_25 ?_
    refine tt_istore (pc := 26) (L' := [(5, .int (((ar 7) (ix a2)) + (if ((ar 13) (ix a1)) = 0 then (-1 : Int32) else (1 : Int32)))), (4, .int (0 : Int32)), (3, .int (if ((ar 13) (ix a1)) = 0 then (-1 : Int32) else (1 : Int32))), (0, .ref (ad 0)), (1, .int a1), (2, .int a2)]) C dX7_warnedOf_26 (by decide) rfl ?_
    refine tt_locs (L' := [(0, .ref (ad 0)), (1, .int a1), (2, .int a2), (3, .int (if ((ar 13) (ix a1)) = 0 then (-1 : Int32) else (1 : Int32))), (4, .int (0 : Int32)), (5, .int (((ar 7) (ix a2)) + (if ((ar 13) (ix a1)) = 0 then (-1 : Int32) else (1 : Int32))))]) [3, 4, 5, 2, 1, 0] rfl (l_X7_warnedOf_28 C (fun x4_6 hf => ?_) hf)
    refine tt_iload (pc := 69) (k := 0) C dX7_warnedOf_69 rfl ?_
    obtain rfl := Option.some.inj hf
    exact tt_ireturn (pc := 71) C rfl rfl rfl dX7_warnedOf_71
  refine tr_if_ne (pc := 6) (tgt := 13) C dX7_warnedOf_6 (by decide) (fun c1 => ?_) (fun c1 => ?_)
  · refine tt_iconst (pc := 13) (v := (1 : Int32)) C dX7_warnedOf_13 (by decide) ?_
    try simp only [if_neg c1] at k2 ⊢
    exact tt_locs [0, 1, 2] rfl k2
  · refine tt_iconst (pc := 9) (v := (-1 : Int32)) C dX7_warnedOf_9 (by decide) ?_
    refine tt_goto (pc := 10) (tgt := 14) C dX7_warnedOf_10 (by decide) ?_
    try simp only [if_pos c1] at k2 ⊢
    exact tt_locs [0, 1, 2] rfl k2
theorem dX7_warned_0 : decode cX7_warned 0 = .ok (.aload_n 0, 1) := by decide +kernel
theorem dX7_warned_1 : decode cX7_warned 1 = .ok (.iload_n 1, 1) := by decide +kernel
theorem dX7_warned_2 : decode cX7_warned 2 = .ok (.invokevirtual 138, 3) := by decide +kernel
theorem dX7_warned_5 : decode cX7_warned 5 = .ok (.ifCond .eq 20, 3) := by decide +kernel
theorem dX7_warned_8 : decode cX7_warned 8 = .ok (.aload_n 0, 1) := by decide +kernel
theorem dX7_warned_9 : decode cX7_warned 9 = .ok (.iload_n 2, 1) := by decide +kernel
theorem dX7_warned_10 : decode cX7_warned 10 = .ok (.invokevirtual 131, 3) := by decide +kernel
theorem dX7_warned_13 : decode cX7_warned 13 = .ok (.ifCond .eq 12, 3) := by decide +kernel
theorem dX7_warned_16 : decode cX7_warned 16 = .ok (.aload_n 0, 1) := by decide +kernel
theorem dX7_warned_17 : decode cX7_warned 17 = .ok (.iload_n 1, 1) := by decide +kernel
theorem dX7_warned_18 : decode cX7_warned 18 = .ok (.iload_n 2, 1) := by decide +kernel
theorem dX7_warned_19 : decode cX7_warned 19 = .ok (.invokevirtual 179, 3) := by decide +kernel
theorem dX7_warned_22 : decode cX7_warned 22 = .ok (.goto 8, 3) := by decide +kernel
theorem dX7_warned_25 : decode cX7_warned 25 = .ok (.aload_n 0, 1) := by decide +kernel
theorem dX7_warned_26 : decode cX7_warned 26 = .ok (.iconst (-1), 1) := by decide +kernel
theorem dX7_warned_27 : decode cX7_warned 27 = .ok (.invokevirtual 98, 3) := by decide +kernel
theorem dX7_warned_30 : decode cX7_warned 30 = .ok (.ireturn, 1) := by decide +kernel
set_option maxHeartbeats 4000000 in
set_option maxRecDepth 100000 in
theorem k_X7_warned {l : Launch} {D : va_G} {cy : Nat → ClassId} {Bd : Nat} {xa : Xa} {ad : Nat → Nat} {N : Nat} {sc : Nat → Int32} {ar : Nat → Nat → Int32} {la : Nat → Nat → Int64} {a1 : Int32} {a2 : Int32} {out : Int32 × (Nat → Nat → Int32)} (hf : f_X7_warned N sc ar a1 a2 = some out) : KC l yX7_warned cX7_warned 3 (some .int) 5 126 false D cy Bd xa [.ref (ad 0), .int a1, .int a2] (mC cy ad sc ar la) (some (.int out.1)) (mC cy ad sc out.2 la) := by
  refine kc_start (own := RX7) (by decide +kernel) rfl (Nat.le_of_ble_eq_true rfl) ?_
  intro p e s m args below meth c A C
  unfold f_X7_warned at hf
  refine tt_locs (L' := [(0, .ref (ad 0)), (1, .int a1), (2, .int a2)]) [0, 1, 2] rfl ?_
  refine tt_aload_n (pc := 0) (k := 0) C dX7_warned_0 rfl rfl ?_
  refine tt_iload_n (pc := 1) (k := 1) C dX7_warned_1 rfl rfl ?_
  obtain ⟨r1, hr1, hf⟩ := bind_some hf
  refine tt_callR (pc := 2) (ws := (mC cy ad sc ar la)) (q0 := 0) (ci := 7) (rest := []) (st' := [.int r1]) C (k_X7_isTrain hr1) okX7_isTrain q5_103 rfl mC_obj (fun _ h => h) rfl rfl rfl (Nat.le_of_ble_eq_true rfl) ⟨Nat.le_of_ble_eq_true rfl, Nat.le_of_ble_eq_true rfl⟩ dX7_warned_2 ?_
  obtain ⟨j2, hj2, hf⟩ := bind_some hf
  have k3 : TT p l e { frames := 5, cells := 0, slots := 0, locals := 126 } s m args below meth c 3 D A false (some (.int out.1)) (mC cy ad sc out.2 la) 30 [] [.int j2.1] (mC cy ad sc j2.2 la) := by
    obtain rfl := Option.some.inj hf
    exact tt_ireturn (pc := 30) C rfl rfl rfl dX7_warned_30
  refine tt_if_eq (pc := 5) (tgt := 25) C dX7_warned_5 (by decide) hj2 (fun hj2 => ?_) (fun hj2 => ?_)
  · refine tt_aload_n (pc := 25) (k := 0) C dX7_warned_25 rfl rfl ?_
    refine tt_iconst (pc := 26) (v := (-1 : Int32)) C dX7_warned_26 (by decide) ?_
    obtain ⟨r4, hr4, hj2⟩ := bind_some hj2
    refine tt_callM (pc := 27) (ws := (mC cy ad sc ar la)) (q0 := 0) (ci := 7) (rest := []) (st' := [.int r4.1]) C rfl (k_X7_no hr4) okX7_no q5_36 rfl mC_obj rfl rfl rfl (Nat.le_of_ble_eq_true rfl) ⟨Nat.le_of_ble_eq_true rfl, Nat.le_of_ble_eq_true rfl⟩ dX7_warned_27 ?_
    obtain rfl := Option.some.inj hj2
    exact tt_locs [] rfl k3
  · refine tt_aload_n (pc := 8) (k := 0) C dX7_warned_8 rfl rfl ?_
    refine tt_iload_n (pc := 9) (k := 2) C dX7_warned_9 rfl rfl ?_
    obtain ⟨r5, hr5, hj2⟩ := bind_some hj2
    refine tt_callR (pc := 10) (ws := (mC cy ad sc ar la)) (q0 := 0) (ci := 7) (rest := []) (st' := [.int r5]) C (k_X7_isPost hr5) okX7_isPost q5_79 rfl mC_obj (fun _ h => h) rfl rfl rfl (Nat.le_of_ble_eq_true rfl) ⟨Nat.le_of_ble_eq_true rfl, Nat.le_of_ble_eq_true rfl⟩ dX7_warned_10 ?_
    obtain ⟨j6, hj6, hj2⟩ := bind_some hj2
    have k7 : TT p l e { frames := 5, cells := 0, slots := 0, locals := 126 } s m args below meth c 3 D A false (some (.int out.1)) (mC cy ad sc out.2 la) 30 [] [.int j6.1] (mC cy ad sc j6.2 la) := by
      obtain rfl := Option.some.inj hj2
      exact tt_locs [] rfl k3
    refine tt_if_eq (pc := 13) (tgt := 25) C dX7_warned_13 (by decide) hj6 (fun hj6 => ?_) (fun hj6 => ?_)
    · refine tt_aload_n (pc := 25) (k := 0) C dX7_warned_25 rfl rfl ?_
      refine tt_iconst (pc := 26) (v := (-1 : Int32)) C dX7_warned_26 (by decide) ?_
      obtain ⟨r8, hr8, hj6⟩ := bind_some hj6
      refine tt_callM (pc := 27) (ws := (mC cy ad sc ar la)) (q0 := 0) (ci := 7) (rest := []) (st' := [.int r8.1]) C rfl (k_X7_no hr8) okX7_no q5_36 rfl mC_obj rfl rfl rfl (Nat.le_of_ble_eq_true rfl) ⟨Nat.le_of_ble_eq_true rfl, Nat.le_of_ble_eq_true rfl⟩ dX7_warned_27 ?_
      obtain rfl := Option.some.inj hj6
      exact tt_locs [] rfl k7
    · refine tt_aload_n (pc := 16) (k := 0) C dX7_warned_16 rfl rfl ?_
      refine tt_iload_n (pc := 17) (k := 1) C dX7_warned_17 rfl rfl ?_
      refine tt_iload_n (pc := 18) (k := 2) C dX7_warned_18 rfl rfl ?_
      obtain ⟨r9, hr9, hj6⟩ := bind_some hj6
      refine tt_callR (pc := 19) (ws := (mC cy ad sc ar la)) (q0 := 0) (ci := 7) (rest := []) (st' := [.int r9]) C (k_X7_warnedOf hr9) okX7_warnedOf q5_171 rfl mC_obj (fun _ h => h) rfl rfl rfl (Nat.le_of_ble_eq_true rfl) ⟨Nat.le_of_ble_eq_true rfl, Nat.le_of_ble_eq_true rfl⟩ dX7_warned_19 ?_
      refine tt_goto (pc := 22) (tgt := 30) C dX7_warned_22 (by decide) ?_
      obtain rfl := Option.some.inj hj6
      exact tt_locs [] rfl k7
theorem dX7_isKept_0 : decode cX7_isKept 0 = .ok (.aload_n 0, 1) := by decide +kernel
theorem dX7_isKept_1 : decode cX7_isKept 1 = .ok (.iload_n 1, 1) := by decide +kernel
theorem dX7_isKept_2 : decode cX7_isKept 2 = .ok (.iload_n 2, 1) := by decide +kernel
theorem dX7_isKept_3 : decode cX7_isKept 3 = .ok (.invokevirtual 179, 3) := by decide +kernel
theorem dX7_isKept_6 : decode cX7_isKept 6 = .ok (.aload_n 0, 1) := by decide +kernel
theorem dX7_isKept_7 : decode cX7_isKept 7 = .ok (.getfield 44, 3) := by decide +kernel
theorem dX7_isKept_10 : decode cX7_isKept 10 = .ok (.if_icmp .lt 7, 3) := by decide +kernel
theorem dX7_isKept_13 : decode cX7_isKept 13 = .ok (.iconst 1, 1) := by decide +kernel
theorem dX7_isKept_14 : decode cX7_isKept 14 = .ok (.goto 4, 3) := by decide +kernel
theorem dX7_isKept_17 : decode cX7_isKept 17 = .ok (.iconst 0, 1) := by decide +kernel
theorem dX7_isKept_18 : decode cX7_isKept 18 = .ok (.ireturn, 1) := by decide +kernel
set_option maxHeartbeats 4000000 in
set_option maxRecDepth 100000 in
theorem k_X7_isKept {l : Launch} {D : va_G} {cy : Nat → ClassId} {Bd : Nat} {xa : Xa} {ad : Nat → Nat} {N : Nat} {sc : Nat → Int32} {ar : Nat → Nat → Int32} {la : Nat → Nat → Int64} {a1 : Int32} {a2 : Int32} {out : Int32} (hf : f_X7_isKept N sc ar a1 a2 = some out) : KC l yX7_isKept cX7_isKept 3 (some .boolean) 5 126 true D cy Bd xa [.ref (ad 0), .int a1, .int a2] (mC cy ad sc ar la) (some (.int out)) (mC cy ad sc ar la) := by
  refine kc_start (own := RX7) (by decide +kernel) rfl (Nat.le_of_ble_eq_true rfl) ?_
  intro p e s m args below meth c A C
  unfold f_X7_isKept at hf
  refine tt_locs (L' := [(0, .ref (ad 0)), (1, .int a1), (2, .int a2)]) [0, 1, 2] rfl ?_
  refine tt_aload_n (pc := 0) (k := 0) C dX7_isKept_0 rfl rfl ?_
  refine tt_iload_n (pc := 1) (k := 1) C dX7_isKept_1 rfl rfl ?_
  refine tt_iload_n (pc := 2) (k := 2) C dX7_isKept_2 rfl rfl ?_
  obtain ⟨r1, hr1, hf⟩ := bind_some hf
  refine tt_callR (pc := 3) (ws := (mC cy ad sc ar la)) (q0 := 0) (ci := 7) (rest := []) (st' := [.int r1]) C (k_X7_warnedOf hr1) okX7_warnedOf q5_171 rfl mC_obj (fun _ h => h) rfl rfl rfl (Nat.le_of_ble_eq_true rfl) ⟨Nat.le_of_ble_eq_true rfl, Nat.le_of_ble_eq_true rfl⟩ dX7_isKept_3 ?_
  refine tt_aload_n (pc := 6) (k := 0) C dX7_isKept_6 rfl rfl ?_
  refine tt_get (pc := 7) (ws := (mC cy ad sc ar la)) (ci := 7) (v := .int (sc 14)) C fiX7 rfl 0 mC_obj 14 (by decide) q4_174 rfl dX7_isKept_7 ?_
  have k3 : TT p l e { frames := 5, cells := 0, slots := 0, locals := 126 } s m args below meth c 3 D A true (some (.int out)) (mC cy ad sc ar la) 18 [] [.int (if r1 < (sc 14) then (0 : Int32) else (1 : Int32))] (mC cy ad sc ar la) := by
    obtain rfl := Option.some.inj hf
    exact tt_zreturn (pc := 18) C rfl (nb_if rfl rfl) rfl rfl dX7_isKept_18
  refine tr_icmp_lt (pc := 10) (tgt := 17) C dX7_isKept_10 (by decide) (fun c2 => ?_) (fun c2 => ?_)
  · refine tt_iconst (pc := 17) (v := (0 : Int32)) C dX7_isKept_17 (by decide) ?_
    try simp only [if_pos c2] at k3 ⊢
    exact tt_locs [] rfl k3
  · refine tt_iconst (pc := 13) (v := (1 : Int32)) C dX7_isKept_13 (by decide) ?_
    refine tt_goto (pc := 14) (tgt := 18) C dX7_isKept_14 (by decide) ?_
    try simp only [if_neg c2] at k3 ⊢
    exact tt_locs [] rfl k3
theorem dX7_isKeptByAll_0 : decode cX7_isKeptByAll 0 = .ok (.iconst 0, 1) := by decide +kernel
theorem dX7_isKeptByAll_1 : decode cX7_isKeptByAll 1 = .ok (.istore_n 2, 1) := by decide +kernel
theorem dX7_isKeptByAll_2 : decode cX7_isKeptByAll 2 = .ok (.iload_n 2, 1) := by decide +kernel
theorem dX7_isKeptByAll_3 : decode cX7_isKeptByAll 3 = .ok (.aload_n 0, 1) := by decide +kernel
theorem dX7_isKeptByAll_4 : decode cX7_isKeptByAll 4 = .ok (.getfield 112, 3) := by decide +kernel
theorem dX7_isKeptByAll_7 : decode cX7_isKeptByAll 7 = .ok (.if_icmp .ge 20, 3) := by decide +kernel
theorem dX7_isKeptByAll_10 : decode cX7_isKeptByAll 10 = .ok (.aload_n 0, 1) := by decide +kernel
theorem dX7_isKeptByAll_11 : decode cX7_isKeptByAll 11 = .ok (.iload_n 2, 1) := by decide +kernel
theorem dX7_isKeptByAll_12 : decode cX7_isKeptByAll 12 = .ok (.iload_n 1, 1) := by decide +kernel
theorem dX7_isKeptByAll_13 : decode cX7_isKeptByAll 13 = .ok (.invokevirtual 182, 3) := by decide +kernel
theorem dX7_isKeptByAll_16 : decode cX7_isKeptByAll 16 = .ok (.ifCond .ne 5, 3) := by decide +kernel
theorem dX7_isKeptByAll_19 : decode cX7_isKeptByAll 19 = .ok (.iconst 0, 1) := by decide +kernel
theorem dX7_isKeptByAll_20 : decode cX7_isKeptByAll 20 = .ok (.ireturn, 1) := by decide +kernel
theorem dX7_isKeptByAll_21 : decode cX7_isKeptByAll 21 = .ok (.iinc 2 1, 3) := by decide +kernel
theorem dX7_isKeptByAll_24 : decode cX7_isKeptByAll 24 = .ok (.goto (-22), 3) := by decide +kernel
theorem dX7_isKeptByAll_27 : decode cX7_isKeptByAll 27 = .ok (.iconst 1, 1) := by decide +kernel
theorem dX7_isKeptByAll_28 : decode cX7_isKeptByAll 28 = .ok (.ireturn, 1) := by decide +kernel
set_option maxHeartbeats 4000000 in
set_option maxRecDepth 100000 in
theorem l_X7_isKeptByAll_2 {p : Program} {l : Launch} {e : Env} {s : State} {m : MethodId} {args : Array Value} {below : List Frame} {meth : Method} {c : Code} {D : va_G} {cy : Nat → ClassId} {A : Nat → Prop} {Bd : Nat} {xa : Xa} {ad : Nat → Nat} {N : Nat} {sc : Nat → Int32} {ar : Nat → Nat → Int32} {la : Nat → Nat → Int64} {v1 : Int32} {kx : Unit → Option (Int32)} {out : Int32} (C : CC p s m args meth c cX7_isKeptByAll RX7 3 (some .boolean) D cy A true Bd xa) (hk : ∀ (uu : Unit), kx uu = some out → TT p l e { frames := 6, cells := 0, slots := 0, locals := 148 } s m args below meth c 3 D A true (some (.int out)) (mC cy ad sc ar la) 27 [] [] (mC cy ad sc ar la)) {n : Nat} {v2 : Int32} (hf : f_X7_isKeptByAll_L2 N sc ar v1 kx n v2 = some out) : TT p l e { frames := 6, cells := 0, slots := 0, locals := 148 } s m args below meth c 3 D A true (some (.int out)) (mC cy ad sc ar la) 2 [(0, .ref (ad 0)), (1, .int v1), (2, .int v2)] [] (mC cy ad sc ar la) := by
  induction n generalizing v2 with
  | zero => cases hf
  | succ n ih =>
    rw [f_X7_isKeptByAll_L2] at hf
    refine tt_iload_n (pc := 2) (k := 2) C dX7_isKeptByAll_2 rfl rfl ?_
    refine tt_aload_n (pc := 3) (k := 0) C dX7_isKeptByAll_3 rfl rfl ?_
    refine tt_get (pc := 4) (ws := (mC cy ad sc ar la)) (ci := 7) (v := .int (sc 9)) C fiX7 rfl 0 mC_obj 9 (by decide) q4_169 rfl dX7_isKeptByAll_4 ?_
    refine tt_icmp_ge (pc := 7) (tgt := 27) C dX7_isKeptByAll_7 (by decide) hf (fun hf => ?_) (fun hf => ?_)
    · exact tt_locs [] rfl (hk () hf)
    · refine tt_aload_n (pc := 10) (k := 0) C dX7_isKeptByAll_10 rfl rfl ?_
      refine tt_iload_n (pc := 11) (k := 2) C dX7_isKeptByAll_11 rfl rfl ?_
      refine tt_iload_n (pc := 12) (k := 1) C dX7_isKeptByAll_12 rfl rfl ?_
      obtain ⟨r1, hr1, hf⟩ := bind_some hf
      refine tt_callR (pc := 13) (ws := (mC cy ad sc ar la)) (q0 := 0) (ci := 7) (rest := []) (st' := [.int r1]) C (k_X7_isKept hr1) okX7_isKept q5_187 rfl mC_obj (fun _ h => h) rfl rfl rfl (Nat.le_of_ble_eq_true rfl) ⟨Nat.le_of_ble_eq_true rfl, Nat.le_of_ble_eq_true rfl⟩ dX7_isKeptByAll_13 ?_
      refine tt_if_ne (pc := 16) (tgt := 21) C dX7_isKeptByAll_16 (by decide) hf (fun hf => ?_) (fun hf => ?_)
      · refine tt_iinc (pc := 21) (k := 2) (v := (v2 + 1)) (L' := [(2, .int (v2 + 1)), (0, .ref (ad 0)), (1, .int v1)]) C dX7_isKeptByAll_21 rfl rfl (by decide) rfl ?_
        refine tt_goto (pc := 24) (tgt := 2) C dX7_isKeptByAll_24 (by decide) ?_
        exact tt_locs [1, 2, 0] rfl (ih hf)
      · refine tt_iconst (pc := 19) (v := (0 : Int32)) C dX7_isKeptByAll_19 (by decide) ?_
        obtain rfl := Option.some.inj hf
        exact tt_zreturn (pc := 20) C rfl rfl rfl rfl dX7_isKeptByAll_20
set_option maxHeartbeats 4000000 in
set_option maxRecDepth 100000 in
theorem k_X7_isKeptByAll {l : Launch} {D : va_G} {cy : Nat → ClassId} {Bd : Nat} {xa : Xa} {ad : Nat → Nat} {N : Nat} {sc : Nat → Int32} {ar : Nat → Nat → Int32} {la : Nat → Nat → Int64} {a1 : Int32} {out : Int32} (hf : f_X7_isKeptByAll N sc ar a1 = some out) : KC l yX7_isKeptByAll cX7_isKeptByAll 3 (some .boolean) 6 148 true D cy Bd xa [.ref (ad 0), .int a1] (mC cy ad sc ar la) (some (.int out)) (mC cy ad sc ar la) := by
  refine kc_start (own := RX7) (by decide +kernel) rfl (Nat.le_of_ble_eq_true rfl) ?_
  intro p e s m args below meth c A C
  unfold f_X7_isKeptByAll at hf
  refine tt_locs (L' := [(0, .ref (ad 0)), (1, .int a1)]) [0, 1] rfl ?_
  refine tt_iconst (pc := 0) (v := (0 : Int32)) C dX7_isKeptByAll_0 (by decide) ?_
  refine tt_istore_n (pc := 1) (L' := [(2, .int (0 : Int32)), (0, .ref (ad 0)), (1, .int a1)]) C dX7_isKeptByAll_1 rfl (by decide) rfl ?_
  refine tt_locs (L' := [(0, .ref (ad 0)), (1, .int a1), (2, .int (0 : Int32))]) [1, 2, 0] rfl (l_X7_isKeptByAll_2 C (fun _ hf => ?_) hf)
  refine tt_iconst (pc := 27) (v := (1 : Int32)) C dX7_isKeptByAll_27 (by decide) ?_
  obtain rfl := Option.some.inj hf
  exact tt_zreturn (pc := 28) C rfl rfl rfl rfl dX7_isKeptByAll_28
theorem dX7_isSafe_0 : decode cX7_isSafe 0 = .ok (.iconst 0, 1) := by decide +kernel
theorem dX7_isSafe_1 : decode cX7_isSafe 1 = .ok (.istore_n 1, 1) := by decide +kernel
theorem dX7_isSafe_2 : decode cX7_isSafe 2 = .ok (.iload_n 1, 1) := by decide +kernel
theorem dX7_isSafe_3 : decode cX7_isSafe 3 = .ok (.aload_n 0, 1) := by decide +kernel
theorem dX7_isSafe_4 : decode cX7_isSafe 4 = .ok (.getfield 109, 3) := by decide +kernel
theorem dX7_isSafe_7 : decode cX7_isSafe 7 = .ok (.if_icmp .ge 19, 3) := by decide +kernel
theorem dX7_isSafe_10 : decode cX7_isSafe 10 = .ok (.aload_n 0, 1) := by decide +kernel
theorem dX7_isSafe_11 : decode cX7_isSafe 11 = .ok (.iload_n 1, 1) := by decide +kernel
theorem dX7_isSafe_12 : decode cX7_isSafe 12 = .ok (.invokevirtual 185, 3) := by decide +kernel
theorem dX7_isSafe_15 : decode cX7_isSafe 15 = .ok (.ifCond .ne 5, 3) := by decide +kernel
theorem dX7_isSafe_18 : decode cX7_isSafe 18 = .ok (.iconst 0, 1) := by decide +kernel
theorem dX7_isSafe_19 : decode cX7_isSafe 19 = .ok (.ireturn, 1) := by decide +kernel
theorem dX7_isSafe_20 : decode cX7_isSafe 20 = .ok (.iinc 1 1, 3) := by decide +kernel
theorem dX7_isSafe_23 : decode cX7_isSafe 23 = .ok (.goto (-21), 3) := by decide +kernel
theorem dX7_isSafe_26 : decode cX7_isSafe 26 = .ok (.iconst 1, 1) := by decide +kernel
theorem dX7_isSafe_27 : decode cX7_isSafe 27 = .ok (.ireturn, 1) := by decide +kernel
set_option maxHeartbeats 4000000 in
set_option maxRecDepth 100000 in
theorem l_X7_isSafe_2 {p : Program} {l : Launch} {e : Env} {s : State} {m : MethodId} {args : Array Value} {below : List Frame} {meth : Method} {c : Code} {D : va_G} {cy : Nat → ClassId} {A : Nat → Prop} {Bd : Nat} {xa : Xa} {ad : Nat → Nat} {N : Nat} {sc : Nat → Int32} {ar : Nat → Nat → Int32} {la : Nat → Nat → Int64} {kx : Unit → Option (Int32)} {out : Int32} (C : CC p s m args meth c cX7_isSafe RX7 2 (some .boolean) D cy A true Bd xa) (hk : ∀ (uu : Unit), kx uu = some out → TT p l e { frames := 7, cells := 0, slots := 0, locals := 170 } s m args below meth c 2 D A true (some (.int out)) (mC cy ad sc ar la) 26 [] [] (mC cy ad sc ar la)) {n : Nat} {v1 : Int32} (hf : f_X7_isSafe_L2 N sc ar kx n v1 = some out) : TT p l e { frames := 7, cells := 0, slots := 0, locals := 170 } s m args below meth c 2 D A true (some (.int out)) (mC cy ad sc ar la) 2 [(0, .ref (ad 0)), (1, .int v1)] [] (mC cy ad sc ar la) := by
  induction n generalizing v1 with
  | zero => cases hf
  | succ n ih =>
    rw [f_X7_isSafe_L2] at hf
    refine tt_iload_n (pc := 2) (k := 1) C dX7_isSafe_2 rfl rfl ?_
    refine tt_aload_n (pc := 3) (k := 0) C dX7_isSafe_3 rfl rfl ?_
    refine tt_get (pc := 4) (ws := (mC cy ad sc ar la)) (ci := 7) (v := .int (sc 6)) C fiX7 rfl 0 mC_obj 6 (by decide) q4_166 rfl dX7_isSafe_4 ?_
    refine tt_icmp_ge (pc := 7) (tgt := 26) C dX7_isSafe_7 (by decide) hf (fun hf => ?_) (fun hf => ?_)
    · exact tt_locs [] rfl (hk () hf)
    · refine tt_aload_n (pc := 10) (k := 0) C dX7_isSafe_10 rfl rfl ?_
      refine tt_iload_n (pc := 11) (k := 1) C dX7_isSafe_11 rfl rfl ?_
      obtain ⟨r1, hr1, hf⟩ := bind_some hf
      refine tt_callR (pc := 12) (ws := (mC cy ad sc ar la)) (q0 := 0) (ci := 7) (rest := []) (st' := [.int r1]) C (k_X7_isKeptByAll hr1) okX7_isKeptByAll q5_183 rfl mC_obj (fun _ h => h) rfl rfl rfl (Nat.le_of_ble_eq_true rfl) ⟨Nat.le_of_ble_eq_true rfl, Nat.le_of_ble_eq_true rfl⟩ dX7_isSafe_12 ?_
      refine tt_if_ne (pc := 15) (tgt := 20) C dX7_isSafe_15 (by decide) hf (fun hf => ?_) (fun hf => ?_)
      · refine tt_iinc (pc := 20) (k := 1) (v := (v1 + 1)) (L' := [(1, .int (v1 + 1)), (0, .ref (ad 0))]) C dX7_isSafe_20 rfl rfl (by decide) rfl ?_
        refine tt_goto (pc := 23) (tgt := 2) C dX7_isSafe_23 (by decide) ?_
        exact tt_locs [1, 0] rfl (ih hf)
      · refine tt_iconst (pc := 18) (v := (0 : Int32)) C dX7_isSafe_18 (by decide) ?_
        obtain rfl := Option.some.inj hf
        exact tt_zreturn (pc := 19) C rfl rfl rfl rfl dX7_isSafe_19
set_option maxHeartbeats 4000000 in
set_option maxRecDepth 100000 in
theorem k_X7_isSafe {l : Launch} {D : va_G} {cy : Nat → ClassId} {Bd : Nat} {xa : Xa} {ad : Nat → Nat} {N : Nat} {sc : Nat → Int32} {ar : Nat → Nat → Int32} {la : Nat → Nat → Int64} {out : Int32} (hf : f_X7_isSafe N sc ar = some out) : KC l yX7_isSafe cX7_isSafe 2 (some .boolean) 7 170 true D cy Bd xa [.ref (ad 0)] (mC cy ad sc ar la) (some (.int out)) (mC cy ad sc ar la) := by
  refine kc_start (own := RX7) (by decide +kernel) rfl (Nat.le_of_ble_eq_true rfl) ?_
  intro p e s m args below meth c A C
  unfold f_X7_isSafe at hf
  refine tt_locs (L' := [(0, .ref (ad 0))]) [0] rfl ?_
  refine tt_iconst (pc := 0) (v := (0 : Int32)) C dX7_isSafe_0 (by decide) ?_
  refine tt_istore_n (pc := 1) (L' := [(1, .int (0 : Int32)), (0, .ref (ad 0))]) C dX7_isSafe_1 rfl (by decide) rfl ?_
  refine tt_locs (L' := [(0, .ref (ad 0)), (1, .int (0 : Int32))]) [1, 0] rfl (l_X7_isSafe_2 C (fun _ hf => ?_) hf)
  refine tt_iconst (pc := 26) (v := (1 : Int32)) C dX7_isSafe_26 (by decide) ?_
  obtain rfl := Option.some.inj hf
  exact tt_zreturn (pc := 27) C rfl rfl rfl rfl dX7_isSafe_27
theorem dX7_safe_0 : decode cX7_safe 0 = .ok (.aload_n 0, 1) := by decide +kernel
theorem dX7_safe_1 : decode cX7_safe 1 = .ok (.invokevirtual 191, 3) := by decide +kernel
theorem dX7_safe_4 : decode cX7_safe 4 = .ok (.ifCond .eq 7, 3) := by decide +kernel
theorem dX7_safe_7 : decode cX7_safe 7 = .ok (.iconst 1, 1) := by decide +kernel
theorem dX7_safe_8 : decode cX7_safe 8 = .ok (.goto 4, 3) := by decide +kernel
theorem dX7_safe_11 : decode cX7_safe 11 = .ok (.iconst 0, 1) := by decide +kernel
theorem dX7_safe_12 : decode cX7_safe 12 = .ok (.ireturn, 1) := by decide +kernel
set_option maxHeartbeats 4000000 in
set_option maxRecDepth 100000 in
theorem k_X7_safe {l : Launch} {D : va_G} {cy : Nat → ClassId} {Bd : Nat} {xa : Xa} {ad : Nat → Nat} {N : Nat} {sc : Nat → Int32} {ar : Nat → Nat → Int32} {la : Nat → Nat → Int64} {out : Int32} (hf : f_X7_safe N sc ar = some out) : KC l yX7_safe cX7_safe 1 (some .int) 8 191 true D cy Bd xa [.ref (ad 0)] (mC cy ad sc ar la) (some (.int out)) (mC cy ad sc ar la) := by
  refine kc_start (own := RX7) (by decide +kernel) rfl (Nat.le_of_ble_eq_true rfl) ?_
  intro p e s m args below meth c A C
  unfold f_X7_safe at hf
  refine tt_locs (L' := [(0, .ref (ad 0))]) [0] rfl ?_
  refine tt_aload_n (pc := 0) (k := 0) C dX7_safe_0 rfl rfl ?_
  obtain ⟨r1, hr1, hf⟩ := bind_some hf
  refine tt_callR (pc := 1) (ws := (mC cy ad sc ar la)) (q0 := 0) (ci := 7) (rest := []) (st' := [.int r1]) C (k_X7_isSafe hr1) okX7_isSafe q5_179 rfl mC_obj (fun _ h => h) rfl rfl rfl (Nat.le_of_ble_eq_true rfl) ⟨Nat.le_of_ble_eq_true rfl, Nat.le_of_ble_eq_true rfl⟩ dX7_safe_1 ?_
  have k3 : TT p l e { frames := 8, cells := 0, slots := 0, locals := 191 } s m args below meth c 1 D A true (some (.int out)) (mC cy ad sc ar la) 12 [] [.int (if r1 = 0 then (0 : Int32) else (1 : Int32))] (mC cy ad sc ar la) := by
    obtain rfl := Option.some.inj hf
    exact tt_ireturn (pc := 12) C rfl rfl rfl dX7_safe_12
  refine tr_if_eq (pc := 4) (tgt := 11) C dX7_safe_4 (by decide) (fun c2 => ?_) (fun c2 => ?_)
  · refine tt_iconst (pc := 11) (v := (0 : Int32)) C dX7_safe_11 (by decide) ?_
    try simp only [if_pos c2] at k3 ⊢
    exact tt_locs [] rfl k3
  · refine tt_iconst (pc := 7) (v := (1 : Int32)) C dX7_safe_7 (by decide) ?_
    refine tt_goto (pc := 8) (tgt := 12) C dX7_safe_8 (by decide) ?_
    try simp only [if_neg c2] at k3 ⊢
    exact tt_locs [] rfl k3
theorem dX7_looksWhere_0 : decode cX7_looksWhere 0 = .ok (.iconst 0, 1) := by decide +kernel
theorem dX7_looksWhere_1 : decode cX7_looksWhere 1 = .ok (.istore_n 1, 1) := by decide +kernel
theorem dX7_looksWhere_2 : decode cX7_looksWhere 2 = .ok (.iload_n 1, 1) := by decide +kernel
theorem dX7_looksWhere_3 : decode cX7_looksWhere 3 = .ok (.aload_n 0, 1) := by decide +kernel
theorem dX7_looksWhere_4 : decode cX7_looksWhere 4 = .ok (.getfield 109, 3) := by decide +kernel
theorem dX7_looksWhere_7 : decode cX7_looksWhere 7 = .ok (.if_icmp .ge 77, 3) := by decide +kernel
theorem dX7_looksWhere_10 : decode cX7_looksWhere 10 = .ok (.aload_n 0, 1) := by decide +kernel
theorem dX7_looksWhere_11 : decode cX7_looksWhere 11 = .ok (.getfield 26, 3) := by decide +kernel
theorem dX7_looksWhere_14 : decode cX7_looksWhere 14 = .ok (.iload_n 1, 1) := by decide +kernel
theorem dX7_looksWhere_15 : decode cX7_looksWhere 15 = .ok (.iaload, 1) := by decide +kernel
theorem dX7_looksWhere_16 : decode cX7_looksWhere 16 = .ok (.istore_n 2, 1) := by decide +kernel
theorem dX7_looksWhere_17 : decode cX7_looksWhere 17 = .ok (.aload_n 0, 1) := by decide +kernel
theorem dX7_looksWhere_18 : decode cX7_looksWhere 18 = .ok (.getfield 68, 3) := by decide +kernel
theorem dX7_looksWhere_21 : decode cX7_looksWhere 21 = .ok (.iload_n 1, 1) := by decide +kernel
theorem dX7_looksWhere_22 : decode cX7_looksWhere 22 = .ok (.iconst 0, 1) := by decide +kernel
theorem dX7_looksWhere_23 : decode cX7_looksWhere 23 = .ok (.iastore, 1) := by decide +kernel
theorem dX7_looksWhere_24 : decode cX7_looksWhere 24 = .ok (.iconst 0, 1) := by decide +kernel
theorem dX7_looksWhere_25 : decode cX7_looksWhere 25 = .ok (.istore_n 3, 1) := by decide +kernel
theorem dX7_looksWhere_26 : decode cX7_looksWhere 26 = .ok (.iload_n 3, 1) := by decide +kernel
theorem dX7_looksWhere_27 : decode cX7_looksWhere 27 = .ok (.aload_n 0, 1) := by decide +kernel
theorem dX7_looksWhere_28 : decode cX7_looksWhere 28 = .ok (.getfield 7, 3) := by decide +kernel
theorem dX7_looksWhere_31 : decode cX7_looksWhere 31 = .ok (.if_icmp .ge 40, 3) := by decide +kernel
theorem dX7_looksWhere_34 : decode cX7_looksWhere 34 = .ok (.aload_n 0, 1) := by decide +kernel
theorem dX7_looksWhere_35 : decode cX7_looksWhere 35 = .ok (.getfield 26, 3) := by decide +kernel
theorem dX7_looksWhere_38 : decode cX7_looksWhere 38 = .ok (.iload_n 1, 1) := by decide +kernel
theorem dX7_looksWhere_39 : decode cX7_looksWhere 39 = .ok (.iload_n 3, 1) := by decide +kernel
theorem dX7_looksWhere_40 : decode cX7_looksWhere 40 = .ok (.iastore, 1) := by decide +kernel
theorem dX7_looksWhere_41 : decode cX7_looksWhere 41 = .ok (.aload_n 0, 1) := by decide +kernel
theorem dX7_looksWhere_42 : decode cX7_looksWhere 42 = .ok (.getfield 68, 3) := by decide +kernel
theorem dX7_looksWhere_45 : decode cX7_looksWhere 45 = .ok (.iload_n 1, 1) := by decide +kernel
theorem dX7_looksWhere_46 : decode cX7_looksWhere 46 = .ok (.dup2, 1) := by decide +kernel
theorem dX7_looksWhere_47 : decode cX7_looksWhere 47 = .ok (.iaload, 1) := by decide +kernel
theorem dX7_looksWhere_48 : decode cX7_looksWhere 48 = .ok (.aload_n 0, 1) := by decide +kernel
theorem dX7_looksWhere_49 : decode cX7_looksWhere 49 = .ok (.iload_n 1, 1) := by decide +kernel
theorem dX7_looksWhere_50 : decode cX7_looksWhere 50 = .ok (.invokevirtual 185, 3) := by decide +kernel
theorem dX7_looksWhere_53 : decode cX7_looksWhere 53 = .ok (.ifCond .eq 9, 3) := by decide +kernel
theorem dX7_looksWhere_56 : decode cX7_looksWhere 56 = .ok (.iconst 1, 1) := by decide +kernel
theorem dX7_looksWhere_57 : decode cX7_looksWhere 57 = .ok (.iload_n 3, 1) := by decide +kernel
theorem dX7_looksWhere_58 : decode cX7_looksWhere 58 = .ok (.ishl, 1) := by decide +kernel
theorem dX7_looksWhere_59 : decode cX7_looksWhere 59 = .ok (.goto 4, 3) := by decide +kernel
theorem dX7_looksWhere_62 : decode cX7_looksWhere 62 = .ok (.iconst 0, 1) := by decide +kernel
theorem dX7_looksWhere_63 : decode cX7_looksWhere 63 = .ok (.ior, 1) := by decide +kernel
theorem dX7_looksWhere_64 : decode cX7_looksWhere 64 = .ok (.iastore, 1) := by decide +kernel
theorem dX7_looksWhere_65 : decode cX7_looksWhere 65 = .ok (.iinc 3 1, 3) := by decide +kernel
theorem dX7_looksWhere_68 : decode cX7_looksWhere 68 = .ok (.goto (-42), 3) := by decide +kernel
theorem dX7_looksWhere_71 : decode cX7_looksWhere 71 = .ok (.aload_n 0, 1) := by decide +kernel
theorem dX7_looksWhere_72 : decode cX7_looksWhere 72 = .ok (.getfield 26, 3) := by decide +kernel
theorem dX7_looksWhere_75 : decode cX7_looksWhere 75 = .ok (.iload_n 1, 1) := by decide +kernel
theorem dX7_looksWhere_76 : decode cX7_looksWhere 76 = .ok (.iload_n 2, 1) := by decide +kernel
theorem dX7_looksWhere_77 : decode cX7_looksWhere 77 = .ok (.iastore, 1) := by decide +kernel
theorem dX7_looksWhere_78 : decode cX7_looksWhere 78 = .ok (.iinc 1 1, 3) := by decide +kernel
theorem dX7_looksWhere_81 : decode cX7_looksWhere 81 = .ok (.goto (-79), 3) := by decide +kernel
theorem dX7_looksWhere_84 : decode cX7_looksWhere 84 = .ok (.return_, 1) := by decide +kernel
set_option maxHeartbeats 4000000 in
set_option maxRecDepth 100000 in
theorem l_X7_looksWhere_26 {p : Program} {l : Launch} {e : Env} {s : State} {m : MethodId} {args : Array Value} {below : List Frame} {meth : Method} {c : Code} {D : va_G} {cy : Nat → ClassId} {A : Nat → Prop} {Bd : Nat} {xa : Xa} {ad : Nat → Nat} {β : Type} {vO : Option Value} {wO : va_W} {N : Nat} {sc : Nat → Int32} {la : Nat → Nat → Int64} {v1 : Int32} {v2 : Int32} {kx : (Nat → Nat → Int32) → Option (β)} {out : β} (C : CC p s m args meth c cX7_looksWhere RX7 4 none D cy A false Bd xa) (hk : ∀ (ar1 : Nat → Nat → Int32), kx ar1 = some out → TT p l e { frames := 7, cells := 0, slots := 0, locals := 170 } s m args below meth c 4 D A false vO wO 71 [(0, .ref (ad 0)), (1, .int v1), (2, .int v2)] [] (mC cy ad sc ar1 la)) {n : Nat} {v3 : Int32} {ar : Nat → Nat → Int32} (hf : f_X7_looksWhere_L26 N sc v1 v2 kx n v3 ar = some out) : TT p l e { frames := 7, cells := 0, slots := 0, locals := 170 } s m args below meth c 4 D A false vO wO 26 [(0, .ref (ad 0)), (1, .int v1), (2, .int v2), (3, .int v3)] [] (mC cy ad sc ar la) := by
  induction n generalizing v3 ar with
  | zero => cases hf
  | succ n ih =>
    rw [f_X7_looksWhere_L26] at hf
    refine tt_iload_n (pc := 26) (k := 3) C dX7_looksWhere_26 rfl rfl ?_
    refine tt_aload_n (pc := 27) (k := 0) C dX7_looksWhere_27 rfl rfl ?_
    refine tt_get (pc := 28) (ws := (mC cy ad sc ar la)) (ci := 7) (v := .int (sc 0)) C fiX7 rfl 0 mC_obj 0 (by decide) q4_160 rfl dX7_looksWhere_28 ?_
    refine tt_icmp_ge (pc := 31) (tgt := 71) C dX7_looksWhere_31 (by decide) hf (fun hf => ?_) (fun hf => ?_)
    · exact tt_locs [0, 1, 2] rfl (hk _ hf)
    · refine tt_aload_n (pc := 34) (k := 0) C dX7_looksWhere_34 rfl rfl ?_
      refine tt_get (pc := 35) (ws := (mC cy ad sc ar la)) (ci := 7) (v := .ref (ad 7)) C fiX7 rfl 0 mC_obj 7 (by decide) q4_167 rfl dX7_looksWhere_35 ?_
      refine tt_iload_n (pc := 38) (k := 1) C dX7_looksWhere_38 rfl rfl ?_
      refine tt_iload_n (pc := 39) (k := 3) C dX7_looksWhere_39 rfl rfl ?_
      refine tt_iastore (pc := 40) (ws := (mC cy ad sc ar la)) (n := 5) (f := (ar 7)) (ws' := (mC cy ad sc (va_up ar 7 (upd (ar 7) (ix v1) v3)) la)) C rfl 5 0 mC_get7 rfl hf dX7_looksWhere_40 mC_set7 (fun hf => ?_)
      refine tt_aload_n (pc := 41) (k := 0) C dX7_looksWhere_41 rfl rfl ?_
      refine tt_get (pc := 42) (ws := (mC cy ad sc (va_up ar 7 (upd (ar 7) (ix v1) v3)) la)) (ci := 7) (v := .ref (ad 26)) C fiX7 rfl 0 mC_obj 26 (by decide) q4_186 rfl dX7_looksWhere_42 ?_
      refine tt_iload_n (pc := 45) (k := 1) C dX7_looksWhere_45 rfl rfl ?_
      refine tt_dup2 (pc := 46) C dX7_looksWhere_46 rfl rfl ?_
      refine tt_iaload (pc := 47) (ws := (mC cy ad sc (va_up ar 7 (upd (ar 7) (ix v1) v3)) la)) (n := 5) (f := (ar 26)) C 18 0 mC_get26 rfl hf dX7_looksWhere_47 (fun hf => ?_)
      refine tt_aload_n (pc := 48) (k := 0) C dX7_looksWhere_48 rfl rfl ?_
      refine tt_iload_n (pc := 49) (k := 1) C dX7_looksWhere_49 rfl rfl ?_
      obtain ⟨r1, hr1, hf⟩ := bind_some hf
      refine tt_callR (pc := 50) (ws := (mC cy ad sc (va_up ar 7 (upd (ar 7) (ix v1) v3)) la)) (q0 := 0) (ci := 7) (rest := [.int ((ar 26) (ix v1)), .int v1, .ref (ad 26)]) (st' := [.int r1, .int ((ar 26) (ix v1)), .int v1, .ref (ad 26)]) C (k_X7_isKeptByAll hr1) okX7_isKeptByAll q5_183 rfl mC_obj (fun _ h => h) rfl rfl rfl (Nat.le_of_ble_eq_true rfl) ⟨Nat.le_of_ble_eq_true rfl, Nat.le_of_ble_eq_true rfl⟩ dX7_looksWhere_50 ?_
      have k3 : TT p l e { frames := 7, cells := 0, slots := 0, locals := 170 } s m args below meth c 4 D A false vO wO 63 [(0, .ref (ad 0)), (1, .int v1), (2, .int v2), (3, .int v3)] [.int (if r1 = 0 then (0 : Int32) else ((1 : Int32) <<< (v3 &&& 31))), .int ((ar 26) (ix v1)), .int v1, .ref (ad 26)] (mC cy ad sc (va_up ar 7 (upd (ar 7) (ix v1) v3)) la) := by
        refine tt_ior (pc := 63) C dX7_looksWhere_63 ?_
        refine tt_iastore (pc := 64) (ws := (mC cy ad sc (va_up ar 7 (upd (ar 7) (ix v1) v3)) la)) (n := 5) (f := (ar 26)) (ws' := (mC cy ad sc (va_up (va_up ar 7 (upd (ar 7) (ix v1) v3)) 26 (upd (ar 26) (ix v1) (((ar 26) (ix v1)) ||| (if r1 = 0 then (0 : Int32) else ((1 : Int32) <<< (v3 &&& 31)))))) la)) C rfl 18 0 mC_get26 rfl hf dX7_looksWhere_64 mC_set26 (fun hf => ?_)
        refine tt_iinc (pc := 65) (k := 3) (v := (v3 + 1)) (L' := [(3, .int (v3 + 1)), (0, .ref (ad 0)), (1, .int v1), (2, .int v2)]) C dX7_looksWhere_65 rfl rfl (by decide) rfl ?_
        refine tt_goto (pc := 68) (tgt := 26) C dX7_looksWhere_68 (by decide) ?_
        exact tt_locs [1, 2, 3, 0] rfl (ih hf)
      refine tr_if_eq (pc := 53) (tgt := 62) C dX7_looksWhere_53 (by decide) (fun c2 => ?_) (fun c2 => ?_)
      · refine tt_iconst (pc := 62) (v := (0 : Int32)) C dX7_looksWhere_62 (by decide) ?_
        try simp only [if_pos c2] at k3 ⊢
        exact tt_locs [0, 1, 2, 3] rfl k3
      · refine tt_iconst (pc := 56) (v := (1 : Int32)) C dX7_looksWhere_56 (by decide) ?_
        refine tt_iload_n (pc := 57) (k := 3) C dX7_looksWhere_57 rfl rfl ?_
        refine tt_ishl (pc := 58) C dX7_looksWhere_58 ?_
        refine tt_goto (pc := 59) (tgt := 63) C dX7_looksWhere_59 (by decide) ?_
        try simp only [if_neg c2] at k3 ⊢
        exact tt_locs [0, 1, 2, 3] rfl k3
set_option maxHeartbeats 4000000 in
set_option maxRecDepth 100000 in
theorem l_X7_looksWhere_2 {p : Program} {l : Launch} {e : Env} {s : State} {m : MethodId} {args : Array Value} {below : List Frame} {meth : Method} {c : Code} {D : va_G} {cy : Nat → ClassId} {A : Nat → Prop} {Bd : Nat} {xa : Xa} {ad : Nat → Nat} {β : Type} {vO : Option Value} {wO : va_W} {N : Nat} {sc : Nat → Int32} {la : Nat → Nat → Int64} {kx : (Nat → Nat → Int32) → Option (β)} {out : β} (C : CC p s m args meth c cX7_looksWhere RX7 4 none D cy A false Bd xa) (hk : ∀ (ar1 : Nat → Nat → Int32), kx ar1 = some out → TT p l e { frames := 7, cells := 0, slots := 0, locals := 170 } s m args below meth c 4 D A false vO wO 84 [] [] (mC cy ad sc ar1 la)) {n : Nat} {v1 : Int32} {ar : Nat → Nat → Int32} (hf : f_X7_looksWhere_L2 N sc kx n v1 ar = some out) : TT p l e { frames := 7, cells := 0, slots := 0, locals := 170 } s m args below meth c 4 D A false vO wO 2 [(0, .ref (ad 0)), (1, .int v1)] [] (mC cy ad sc ar la) := by
  induction n generalizing v1 ar with
  | zero => cases hf
  | succ n ih =>
    rw [f_X7_looksWhere_L2] at hf
    refine tt_iload_n (pc := 2) (k := 1) C dX7_looksWhere_2 rfl rfl ?_
    refine tt_aload_n (pc := 3) (k := 0) C dX7_looksWhere_3 rfl rfl ?_
    refine tt_get (pc := 4) (ws := (mC cy ad sc ar la)) (ci := 7) (v := .int (sc 6)) C fiX7 rfl 0 mC_obj 6 (by decide) q4_166 rfl dX7_looksWhere_4 ?_
    refine tt_icmp_ge (pc := 7) (tgt := 84) C dX7_looksWhere_7 (by decide) hf (fun hf => ?_) (fun hf => ?_)
    · exact tt_locs [] rfl (hk _ hf)
    · refine tt_aload_n (pc := 10) (k := 0) C dX7_looksWhere_10 rfl rfl ?_
      refine tt_get (pc := 11) (ws := (mC cy ad sc ar la)) (ci := 7) (v := .ref (ad 7)) C fiX7 rfl 0 mC_obj 7 (by decide) q4_167 rfl dX7_looksWhere_11 ?_
      refine tt_iload_n (pc := 14) (k := 1) C dX7_looksWhere_14 rfl rfl ?_
      refine tt_iaload (pc := 15) (ws := (mC cy ad sc ar la)) (n := 5) (f := (ar 7)) C 5 0 mC_get7 rfl hf dX7_looksWhere_15 (fun hf => ?_)
      refine tt_istore_n (pc := 16) (L' := [(2, .int ((ar 7) (ix v1))), (0, .ref (ad 0)), (1, .int v1)]) C dX7_looksWhere_16 rfl (by decide) rfl ?_
      refine tt_aload_n (pc := 17) (k := 1) C dX7_looksWhere_17 rfl rfl ?_
      refine tt_get (pc := 18) (ws := (mC cy ad sc ar la)) (ci := 7) (v := .ref (ad 26)) C fiX7 rfl 0 mC_obj 26 (by decide) q4_186 rfl dX7_looksWhere_18 ?_
      refine tt_iload_n (pc := 21) (k := 2) C dX7_looksWhere_21 rfl rfl ?_
      refine tt_iconst (pc := 22) (v := (0 : Int32)) C dX7_looksWhere_22 (by decide) ?_
      refine tt_iastore (pc := 23) (ws := (mC cy ad sc ar la)) (n := 5) (f := (ar 26)) (ws' := (mC cy ad sc (va_up ar 26 (upd (ar 26) (ix v1) (0 : Int32))) la)) C rfl 18 0 mC_get26 rfl hf dX7_looksWhere_23 mC_set26 (fun hf => ?_)
      refine tt_iconst (pc := 24) (v := (0 : Int32)) C dX7_looksWhere_24 (by decide) ?_
      refine tt_istore_n (pc := 25) (L' := [(3, .int (0 : Int32)), (2, .int ((ar 7) (ix v1))), (0, .ref (ad 0)), (1, .int v1)]) C dX7_looksWhere_25 rfl (by decide) rfl ?_
      refine tt_locs (L' := [(0, .ref (ad 0)), (1, .int v1), (2, .int ((ar 7) (ix v1))), (3, .int (0 : Int32))]) [2, 3, 1, 0] rfl (l_X7_looksWhere_26 C (fun t4 hf => ?_) hf)
      refine tt_aload_n (pc := 71) (k := 0) C dX7_looksWhere_71 rfl rfl ?_
      refine tt_get (pc := 72) (ws := (mC cy ad sc t4 la)) (ci := 7) (v := .ref (ad 7)) C fiX7 rfl 0 mC_obj 7 (by decide) q4_167 rfl dX7_looksWhere_72 ?_
      refine tt_iload_n (pc := 75) (k := 1) C dX7_looksWhere_75 rfl rfl ?_
      refine tt_iload_n (pc := 76) (k := 2) C dX7_looksWhere_76 rfl rfl ?_
      refine tt_iastore (pc := 77) (ws := (mC cy ad sc t4 la)) (n := 5) (f := (t4 7)) (ws' := (mC cy ad sc (va_up t4 7 (upd (t4 7) (ix v1) ((ar 7) (ix v1)))) la)) C rfl 5 0 mC_get7 rfl hf dX7_looksWhere_77 mC_set7 (fun hf => ?_)
      refine tt_iinc (pc := 78) (k := 1) (v := (v1 + 1)) (L' := [(1, .int (v1 + 1)), (0, .ref (ad 0)), (2, .int ((ar 7) (ix v1)))]) C dX7_looksWhere_78 rfl rfl (by decide) rfl ?_
      refine tt_goto (pc := 81) (tgt := 2) C dX7_looksWhere_81 (by decide) ?_
      exact tt_locs [1, 0] rfl (ih hf)
set_option maxHeartbeats 4000000 in
set_option maxRecDepth 100000 in
theorem k_X7_looksWhere {l : Launch} {D : va_G} {cy : Nat → ClassId} {Bd : Nat} {xa : Xa} {ad : Nat → Nat} {N : Nat} {sc : Nat → Int32} {ar : Nat → Nat → Int32} {la : Nat → Nat → Int64} {out : (Nat → Nat → Int32)} (hf : f_X7_looksWhere N sc ar = some out) : KC l yX7_looksWhere cX7_looksWhere 4 none 7 170 false D cy Bd xa [.ref (ad 0)] (mC cy ad sc ar la) none (mC cy ad sc out la) := by
  refine kc_start (own := RX7) (by decide +kernel) rfl (Nat.le_of_ble_eq_true rfl) ?_
  intro p e s m args below meth c A C
  unfold f_X7_looksWhere at hf
  refine tt_locs (L' := [(0, .ref (ad 0))]) [0] rfl ?_
  refine tt_iconst (pc := 0) (v := (0 : Int32)) C dX7_looksWhere_0 (by decide) ?_
  refine tt_istore_n (pc := 1) (L' := [(1, .int (0 : Int32)), (0, .ref (ad 0))]) C dX7_looksWhere_1 rfl (by decide) rfl ?_
  refine tt_locs (L' := [(0, .ref (ad 0)), (1, .int (0 : Int32))]) [1, 0] rfl (l_X7_looksWhere_2 C (fun t5 hf => ?_) hf)
  obtain rfl := Option.some.inj hf
  exact tt_vreturn (pc := 84) C rfl rfl rfl dX7_looksWhere_84
theorem dX7_lines_0 : decode cX7_lines 0 = .ok (.iconst 0, 1) := by decide +kernel
theorem dX7_lines_1 : decode cX7_lines 1 = .ok (.istore_n 1, 1) := by decide +kernel
theorem dX7_lines_2 : decode cX7_lines 2 = .ok (.iload_n 1, 1) := by decide +kernel
theorem dX7_lines_3 : decode cX7_lines 3 = .ok (.aload_n 0, 1) := by decide +kernel
theorem dX7_lines_4 : decode cX7_lines 4 = .ok (.getfield 109, 3) := by decide +kernel
theorem dX7_lines_7 : decode cX7_lines 7 = .ok (.if_icmp .ge 57, 3) := by decide +kernel
theorem dX7_lines_10 : decode cX7_lines 10 = .ok (.iconst 0, 1) := by decide +kernel
theorem dX7_lines_11 : decode cX7_lines 11 = .ok (.istore_n 2, 1) := by decide +kernel
theorem dX7_lines_12 : decode cX7_lines 12 = .ok (.iconst 0, 1) := by decide +kernel
theorem dX7_lines_13 : decode cX7_lines 13 = .ok (.istore_n 3, 1) := by decide +kernel
theorem dX7_lines_14 : decode cX7_lines 14 = .ok (.iload_n 3, 1) := by decide +kernel
theorem dX7_lines_15 : decode cX7_lines 15 = .ok (.aload_n 0, 1) := by decide +kernel
theorem dX7_lines_16 : decode cX7_lines 16 = .ok (.getfield 109, 3) := by decide +kernel
theorem dX7_lines_19 : decode cX7_lines 19 = .ok (.if_icmp .ge 32, 3) := by decide +kernel
theorem dX7_lines_22 : decode cX7_lines 22 = .ok (.iload_n 2, 1) := by decide +kernel
theorem dX7_lines_23 : decode cX7_lines 23 = .ok (.aload_n 0, 1) := by decide +kernel
theorem dX7_lines_24 : decode cX7_lines 24 = .ok (.getfield 26, 3) := by decide +kernel
theorem dX7_lines_27 : decode cX7_lines 27 = .ok (.iload_n 3, 1) := by decide +kernel
theorem dX7_lines_28 : decode cX7_lines 28 = .ok (.iaload, 1) := by decide +kernel
theorem dX7_lines_29 : decode cX7_lines 29 = .ok (.aload_n 0, 1) := by decide +kernel
theorem dX7_lines_30 : decode cX7_lines 30 = .ok (.getfield 26, 3) := by decide +kernel
theorem dX7_lines_33 : decode cX7_lines 33 = .ok (.iload_n 1, 1) := by decide +kernel
theorem dX7_lines_34 : decode cX7_lines 34 = .ok (.iaload, 1) := by decide +kernel
theorem dX7_lines_35 : decode cX7_lines 35 = .ok (.if_icmp .ge 7, 3) := by decide +kernel
theorem dX7_lines_38 : decode cX7_lines 38 = .ok (.iconst 1, 1) := by decide +kernel
theorem dX7_lines_39 : decode cX7_lines 39 = .ok (.goto 4, 3) := by decide +kernel
theorem dX7_lines_42 : decode cX7_lines 42 = .ok (.iconst 0, 1) := by decide +kernel
theorem dX7_lines_43 : decode cX7_lines 43 = .ok (.iadd, 1) := by decide +kernel
theorem dX7_lines_44 : decode cX7_lines 44 = .ok (.istore_n 2, 1) := by decide +kernel
theorem dX7_lines_45 : decode cX7_lines 45 = .ok (.iinc 3 1, 3) := by decide +kernel
theorem dX7_lines_48 : decode cX7_lines 48 = .ok (.goto (-34), 3) := by decide +kernel
theorem dX7_lines_51 : decode cX7_lines 51 = .ok (.aload_n 0, 1) := by decide +kernel
theorem dX7_lines_52 : decode cX7_lines 52 = .ok (.getfield 71, 3) := by decide +kernel
theorem dX7_lines_55 : decode cX7_lines 55 = .ok (.iload_n 2, 1) := by decide +kernel
theorem dX7_lines_56 : decode cX7_lines 56 = .ok (.iload_n 1, 1) := by decide +kernel
theorem dX7_lines_57 : decode cX7_lines 57 = .ok (.iastore, 1) := by decide +kernel
theorem dX7_lines_58 : decode cX7_lines 58 = .ok (.iinc 1 1, 3) := by decide +kernel
theorem dX7_lines_61 : decode cX7_lines 61 = .ok (.goto (-59), 3) := by decide +kernel
theorem dX7_lines_64 : decode cX7_lines 64 = .ok (.return_, 1) := by decide +kernel
set_option maxHeartbeats 4000000 in
set_option maxRecDepth 100000 in
theorem l_X7_lines_14 {p : Program} {l : Launch} {e : Env} {s : State} {m : MethodId} {args : Array Value} {below : List Frame} {meth : Method} {c : Code} {D : va_G} {cy : Nat → ClassId} {A : Nat → Prop} {Bd : Nat} {xa : Xa} {ad : Nat → Nat} {β : Type} {vO : Option Value} {wO : va_W} {N : Nat} {sc : Nat → Int32} {ar : Nat → Nat → Int32} {la : Nat → Nat → Int64} {v1 : Int32} {kx : Int32 → Option (β)} {out : β} (C : CC p s m args meth c cX7_lines RX7 4 none D cy A false Bd xa) (hk : ∀ (x2 : Int32), kx x2 = some out → TT p l e { frames := 0, cells := 0, slots := 0, locals := 0 } s m args below meth c 4 D A false vO wO 51 [(0, .ref (ad 0)), (1, .int v1), (2, .int x2)] [] (mC cy ad sc ar la)) {n : Nat} {v2 : Int32} {v3 : Int32} (hf : f_X7_lines_L14 N sc ar v1 kx n v2 v3 = some out) : TT p l e { frames := 0, cells := 0, slots := 0, locals := 0 } s m args below meth c 4 D A false vO wO 14 [(0, .ref (ad 0)), (1, .int v1), (2, .int v2), (3, .int v3)] [] (mC cy ad sc ar la) := by
  induction n generalizing v2 v3 with
  | zero => cases hf
  | succ n ih =>
    rw [f_X7_lines_L14] at hf
    refine tt_iload_n (pc := 14) (k := 3) C dX7_lines_14 rfl rfl ?_
    refine tt_aload_n (pc := 15) (k := 0) C dX7_lines_15 rfl rfl ?_
    refine tt_get (pc := 16) (ws := (mC cy ad sc ar la)) (ci := 7) (v := .int (sc 6)) C fiX7 rfl 0 mC_obj 6 (by decide) q4_166 rfl dX7_lines_16 ?_
    refine tt_icmp_ge (pc := 19) (tgt := 51) C dX7_lines_19 (by decide) hf (fun hf => ?_) (fun hf => ?_)
    · exact tt_locs [0, 1, 2] rfl (hk _ hf)
    · refine tt_iload_n (pc := 22) (k := 2) C dX7_lines_22 rfl rfl ?_
      refine tt_aload_n (pc := 23) (k := 0) C dX7_lines_23 rfl rfl ?_
      refine tt_get (pc := 24) (ws := (mC cy ad sc ar la)) (ci := 7) (v := .ref (ad 7)) C fiX7 rfl 0 mC_obj 7 (by decide) q4_167 rfl dX7_lines_24 ?_
      refine tt_iload_n (pc := 27) (k := 3) C dX7_lines_27 rfl rfl ?_
      refine tt_iaload (pc := 28) (ws := (mC cy ad sc ar la)) (n := 5) (f := (ar 7)) C 5 0 mC_get7 rfl hf dX7_lines_28 (fun hf => ?_)
      refine tt_aload_n (pc := 29) (k := 0) C dX7_lines_29 rfl rfl ?_
      refine tt_get (pc := 30) (ws := (mC cy ad sc ar la)) (ci := 7) (v := .ref (ad 7)) C fiX7 rfl 0 mC_obj 7 (by decide) q4_167 rfl dX7_lines_30 ?_
      refine tt_iload_n (pc := 33) (k := 1) C dX7_lines_33 rfl rfl ?_
      refine tt_iaload (pc := 34) (ws := (mC cy ad sc ar la)) (n := 5) (f := (ar 7)) C 5 0 mC_get7 rfl hf dX7_lines_34 (fun hf => ?_)
      have k2 : TT p l e { frames := 0, cells := 0, slots := 0, locals := 0 } s m args below meth c 4 D A false vO wO 43 [(0, .ref (ad 0)), (1, .int v1), (3, .int v3)] [.int (if ((ar 7) (ix v1)) ≤ ((ar 7) (ix v3)) then (0 : Int32) else (1 : Int32)), .int v2] (mC cy ad sc ar la) := by
        refine tt_iadd (pc := 43) C dX7_lines_43 ?_
        refine tt_istore_n (pc := 44) (L' := [(2, .int (v2 + (if ((ar 7) (ix v1)) ≤ ((ar 7) (ix v3)) then (0 : Int32) else (1 : Int32)))), (0, .ref (ad 0)), (1, .int v1), (3, .int v3)]) C dX7_lines_44 rfl (by decide) rfl ?_
        refine tt_iinc (pc := 45) (k := 3) (v := (v3 + 1)) (L' := [(3, .int (v3 + 1)), (2, .int (v2 + (if ((ar 7) (ix v1)) ≤ ((ar 7) (ix v3)) then (0 : Int32) else (1 : Int32)))), (0, .ref (ad 0)), (1, .int v1)]) C dX7_lines_45 rfl rfl (by decide) rfl ?_
        refine tt_goto (pc := 48) (tgt := 14) C dX7_lines_48 (by decide) ?_
        exact tt_locs [2, 3, 1, 0] rfl (ih hf)
      refine tr_icmp_ge (pc := 35) (tgt := 42) C dX7_lines_35 (by decide) (fun c1 => ?_) (fun c1 => ?_)
      · refine tt_iconst (pc := 42) (v := (0 : Int32)) C dX7_lines_42 (by decide) ?_
        try simp only [if_pos c1] at k2 ⊢
        exact tt_locs [0, 1, 3] rfl k2
      · refine tt_iconst (pc := 38) (v := (1 : Int32)) C dX7_lines_38 (by decide) ?_
        refine tt_goto (pc := 39) (tgt := 43) C dX7_lines_39 (by decide) ?_
        try simp only [if_neg c1] at k2 ⊢
        exact tt_locs [0, 1, 3] rfl k2
set_option maxHeartbeats 4000000 in
set_option maxRecDepth 100000 in
theorem l_X7_lines_2 {p : Program} {l : Launch} {e : Env} {s : State} {m : MethodId} {args : Array Value} {below : List Frame} {meth : Method} {c : Code} {D : va_G} {cy : Nat → ClassId} {A : Nat → Prop} {Bd : Nat} {xa : Xa} {ad : Nat → Nat} {β : Type} {vO : Option Value} {wO : va_W} {N : Nat} {sc : Nat → Int32} {la : Nat → Nat → Int64} {kx : (Nat → Nat → Int32) → Option (β)} {out : β} (C : CC p s m args meth c cX7_lines RX7 4 none D cy A false Bd xa) (hk : ∀ (ar1 : Nat → Nat → Int32), kx ar1 = some out → TT p l e { frames := 0, cells := 0, slots := 0, locals := 0 } s m args below meth c 4 D A false vO wO 64 [] [] (mC cy ad sc ar1 la)) {n : Nat} {v1 : Int32} {ar : Nat → Nat → Int32} (hf : f_X7_lines_L2 N sc kx n v1 ar = some out) : TT p l e { frames := 0, cells := 0, slots := 0, locals := 0 } s m args below meth c 4 D A false vO wO 2 [(0, .ref (ad 0)), (1, .int v1)] [] (mC cy ad sc ar la) := by
  induction n generalizing v1 ar with
  | zero => cases hf
  | succ n ih =>
    rw [f_X7_lines_L2] at hf
    refine tt_iload_n (pc := 2) (k := 1) C dX7_lines_2 rfl rfl ?_
    refine tt_aload_n (pc := 3) (k := 0) C dX7_lines_3 rfl rfl ?_
    refine tt_get (pc := 4) (ws := (mC cy ad sc ar la)) (ci := 7) (v := .int (sc 6)) C fiX7 rfl 0 mC_obj 6 (by decide) q4_166 rfl dX7_lines_4 ?_
    refine tt_icmp_ge (pc := 7) (tgt := 64) C dX7_lines_7 (by decide) hf (fun hf => ?_) (fun hf => ?_)
    · exact tt_locs [] rfl (hk _ hf)
    · refine tt_iconst (pc := 10) (v := (0 : Int32)) C dX7_lines_10 (by decide) ?_
      refine tt_istore_n (pc := 11) (L' := [(2, .int (0 : Int32)), (0, .ref (ad 0)), (1, .int v1)]) C dX7_lines_11 rfl (by decide) rfl ?_
      refine tt_iconst (pc := 12) (v := (0 : Int32)) C dX7_lines_12 (by decide) ?_
      refine tt_istore_n (pc := 13) (L' := [(3, .int (0 : Int32)), (2, .int (0 : Int32)), (0, .ref (ad 0)), (1, .int v1)]) C dX7_lines_13 rfl (by decide) rfl ?_
      refine tt_locs (L' := [(0, .ref (ad 0)), (1, .int v1), (2, .int (0 : Int32)), (3, .int (0 : Int32))]) [2, 3, 1, 0] rfl (l_X7_lines_14 C (fun x2_3 hf => ?_) hf)
      refine tt_aload_n (pc := 51) (k := 0) C dX7_lines_51 rfl rfl ?_
      refine tt_get (pc := 52) (ws := (mC cy ad sc ar la)) (ci := 7) (v := .ref (ad 27)) C fiX7 rfl 0 mC_obj 27 (by decide) q4_187 rfl dX7_lines_52 ?_
      refine tt_iload_n (pc := 55) (k := 2) C dX7_lines_55 rfl rfl ?_
      refine tt_iload_n (pc := 56) (k := 1) C dX7_lines_56 rfl rfl ?_
      refine tt_iastore (pc := 57) (ws := (mC cy ad sc ar la)) (n := 5) (f := (ar 27)) (ws' := (mC cy ad sc (va_up ar 27 (upd (ar 27) (ix x2_3) v1)) la)) C rfl 19 0 mC_get27 rfl hf dX7_lines_57 mC_set27 (fun hf => ?_)
      refine tt_iinc (pc := 58) (k := 1) (v := (v1 + 1)) (L' := [(1, .int (v1 + 1)), (0, .ref (ad 0)), (2, .int x2_3)]) C dX7_lines_58 rfl rfl (by decide) rfl ?_
      refine tt_goto (pc := 61) (tgt := 2) C dX7_lines_61 (by decide) ?_
      exact tt_locs [1, 0] rfl (ih hf)
set_option maxHeartbeats 4000000 in
set_option maxRecDepth 100000 in
theorem k_X7_lines {l : Launch} {D : va_G} {cy : Nat → ClassId} {Bd : Nat} {xa : Xa} {ad : Nat → Nat} {N : Nat} {sc : Nat → Int32} {ar : Nat → Nat → Int32} {la : Nat → Nat → Int64} {out : (Nat → Nat → Int32)} (hf : f_X7_lines N sc ar = some out) : KC l yX7_lines cX7_lines 4 none 0 0 false D cy Bd xa [.ref (ad 0)] (mC cy ad sc ar la) none (mC cy ad sc out la) := by
  refine kc_start (own := RX7) (by decide +kernel) rfl (Nat.le_of_ble_eq_true rfl) ?_
  intro p e s m args below meth c A C
  unfold f_X7_lines at hf
  refine tt_locs (L' := [(0, .ref (ad 0))]) [0] rfl ?_
  refine tt_iconst (pc := 0) (v := (0 : Int32)) C dX7_lines_0 (by decide) ?_
  refine tt_istore_n (pc := 1) (L' := [(1, .int (0 : Int32)), (0, .ref (ad 0))]) C dX7_lines_1 rfl (by decide) rfl ?_
  refine tt_locs (L' := [(0, .ref (ad 0)), (1, .int (0 : Int32))]) [1, 0] rfl (l_X7_lines_2 C (fun t3 hf => ?_) hf)
  obtain rfl := Option.some.inj hf
  exact tt_vreturn (pc := 64) C rfl rfl rfl dX7_lines_64
theorem dX7_nextFor_0 : decode cX7_nextFor 0 = .ok (.iload_n 2, 1) := by decide +kernel
theorem dX7_nextFor_1 : decode cX7_nextFor 1 = .ok (.istore_n 3, 1) := by decide +kernel
theorem dX7_nextFor_2 : decode cX7_nextFor 2 = .ok (.iload_n 3, 1) := by decide +kernel
theorem dX7_nextFor_3 : decode cX7_nextFor 3 = .ok (.aload_n 0, 1) := by decide +kernel
theorem dX7_nextFor_4 : decode cX7_nextFor 4 = .ok (.getfield 7, 3) := by decide +kernel
theorem dX7_nextFor_7 : decode cX7_nextFor 7 = .ok (.if_icmp .ge 29, 3) := by decide +kernel
theorem dX7_nextFor_10 : decode cX7_nextFor 10 = .ok (.aload_n 0, 1) := by decide +kernel
theorem dX7_nextFor_11 : decode cX7_nextFor 11 = .ok (.getfield 68, 3) := by decide +kernel
theorem dX7_nextFor_14 : decode cX7_nextFor 14 = .ok (.aload_n 0, 1) := by decide +kernel
theorem dX7_nextFor_15 : decode cX7_nextFor 15 = .ok (.getfield 71, 3) := by decide +kernel
theorem dX7_nextFor_18 : decode cX7_nextFor 18 = .ok (.iload_n 1, 1) := by decide +kernel
theorem dX7_nextFor_19 : decode cX7_nextFor 19 = .ok (.iaload, 1) := by decide +kernel
theorem dX7_nextFor_20 : decode cX7_nextFor 20 = .ok (.iaload, 1) := by decide +kernel
theorem dX7_nextFor_21 : decode cX7_nextFor 21 = .ok (.iload_n 3, 1) := by decide +kernel
theorem dX7_nextFor_22 : decode cX7_nextFor 22 = .ok (.invokestatic 168, 3) := by decide +kernel
theorem dX7_nextFor_25 : decode cX7_nextFor 25 = .ok (.ifCond .eq 5, 3) := by decide +kernel
theorem dX7_nextFor_28 : decode cX7_nextFor 28 = .ok (.iload_n 3, 1) := by decide +kernel
theorem dX7_nextFor_29 : decode cX7_nextFor 29 = .ok (.ireturn, 1) := by decide +kernel
theorem dX7_nextFor_30 : decode cX7_nextFor 30 = .ok (.iinc 3 1, 3) := by decide +kernel
theorem dX7_nextFor_33 : decode cX7_nextFor 33 = .ok (.goto (-31), 3) := by decide +kernel
theorem dX7_nextFor_36 : decode cX7_nextFor 36 = .ok (.bipush (-9), 2) := by decide +kernel
theorem dX7_nextFor_38 : decode cX7_nextFor 38 = .ok (.ireturn, 1) := by decide +kernel
set_option maxHeartbeats 4000000 in
set_option maxRecDepth 100000 in
theorem l_X7_nextFor_2 {p : Program} {l : Launch} {e : Env} {s : State} {m : MethodId} {args : Array Value} {below : List Frame} {meth : Method} {c : Code} {D : va_G} {cy : Nat → ClassId} {A : Nat → Prop} {Bd : Nat} {xa : Xa} {ad : Nat → Nat} {N : Nat} {sc : Nat → Int32} {ar : Nat → Nat → Int32} {la : Nat → Nat → Int64} {v1 : Int32} {kx : Unit → Option (Int32)} {out : Int32} (C : CC p s m args meth c cX7_nextFor RX7 4 (some .int) D cy A true Bd xa) (hk : ∀ (uu : Unit), kx uu = some out → TT p l e { frames := 1, cells := 0, slots := 0, locals := 21 } s m args below meth c 4 D A true (some (.int out)) (mC cy ad sc ar la) 36 [] [] (mC cy ad sc ar la)) {n : Nat} {v3 : Int32} (hf : f_X7_nextFor_L2 N sc ar v1 kx n v3 = some out) : TT p l e { frames := 1, cells := 0, slots := 0, locals := 21 } s m args below meth c 4 D A true (some (.int out)) (mC cy ad sc ar la) 2 [(0, .ref (ad 0)), (1, .int v1), (3, .int v3)] [] (mC cy ad sc ar la) := by
  induction n generalizing v3 with
  | zero => cases hf
  | succ n ih =>
    rw [f_X7_nextFor_L2] at hf
    refine tt_iload_n (pc := 2) (k := 2) C dX7_nextFor_2 rfl rfl ?_
    refine tt_aload_n (pc := 3) (k := 0) C dX7_nextFor_3 rfl rfl ?_
    refine tt_get (pc := 4) (ws := (mC cy ad sc ar la)) (ci := 7) (v := .int (sc 0)) C fiX7 rfl 0 mC_obj 0 (by decide) q4_160 rfl dX7_nextFor_4 ?_
    refine tt_icmp_ge (pc := 7) (tgt := 36) C dX7_nextFor_7 (by decide) hf (fun hf => ?_) (fun hf => ?_)
    · exact tt_locs [] rfl (hk () hf)
    · refine tt_aload_n (pc := 10) (k := 0) C dX7_nextFor_10 rfl rfl ?_
      refine tt_get (pc := 11) (ws := (mC cy ad sc ar la)) (ci := 7) (v := .ref (ad 26)) C fiX7 rfl 0 mC_obj 26 (by decide) q4_186 rfl dX7_nextFor_11 ?_
      refine tt_aload_n (pc := 14) (k := 0) C dX7_nextFor_14 rfl rfl ?_
      refine tt_get (pc := 15) (ws := (mC cy ad sc ar la)) (ci := 7) (v := .ref (ad 27)) C fiX7 rfl 0 mC_obj 27 (by decide) q4_187 rfl dX7_nextFor_15 ?_
      refine tt_iload_n (pc := 18) (k := 1) C dX7_nextFor_18 rfl rfl ?_
      refine tt_iaload (pc := 19) (ws := (mC cy ad sc ar la)) (n := 5) (f := (ar 27)) C 19 0 mC_get27 rfl hf dX7_nextFor_19 (fun hf => ?_)
      refine tt_iaload (pc := 20) (ws := (mC cy ad sc ar la)) (n := 5) (f := (ar 26)) C 18 0 mC_get26 rfl hf dX7_nextFor_20 (fun hf => ?_)
      refine tt_iload_n (pc := 21) (k := 2) C dX7_nextFor_21 rfl rfl ?_
      obtain ⟨r1, hr1, hf⟩ := bind_some hf
      refine tt_callS (pc := 22) (ws := (mC cy ad sc ar la)) (rest := []) (st' := [.int r1]) C (k_X7_has hr1) okX7_has q5_148 (fun _ h => absurd h List.not_mem_nil) rfl rfl rfl (Nat.le_of_ble_eq_true rfl) ⟨Nat.le_of_ble_eq_true rfl, Nat.le_of_ble_eq_true rfl⟩ dX7_nextFor_22 ?_
      refine tt_if_eq (pc := 25) (tgt := 30) C dX7_nextFor_25 (by decide) hf (fun hf => ?_) (fun hf => ?_)
      · refine tt_iinc (pc := 30) (k := 2) (v := (v3 + 1)) (L' := [(3, .int (v3 + 1)), (0, .ref (ad 0)), (1, .int v1)]) C dX7_nextFor_30 rfl rfl (by decide) rfl ?_
        refine tt_goto (pc := 33) (tgt := 2) C dX7_nextFor_33 (by decide) ?_
        exact tt_locs [1, 2, 0] rfl (ih hf)
      · refine tt_iload_n (pc := 28) (k := 2) C dX7_nextFor_28 rfl rfl ?_
        obtain rfl := Option.some.inj hf
        exact tt_ireturn (pc := 29) C rfl rfl rfl dX7_nextFor_29
set_option maxHeartbeats 4000000 in
set_option maxRecDepth 100000 in
theorem k_X7_nextFor {l : Launch} {D : va_G} {cy : Nat → ClassId} {Bd : Nat} {xa : Xa} {ad : Nat → Nat} {N : Nat} {sc : Nat → Int32} {ar : Nat → Nat → Int32} {la : Nat → Nat → Int64} {a1 : Int32} {a2 : Int32} {out : Int32} (hf : f_X7_nextFor N sc ar a1 a2 = some out) : KC l yX7_nextFor cX7_nextFor 4 (some .int) 1 21 true D cy Bd xa [.ref (ad 0), .int a1, .int a2] (mC cy ad sc ar la) (some (.int out)) (mC cy ad sc ar la) := by
  refine kc_start (own := RX7) (by decide +kernel) rfl (Nat.le_of_ble_eq_true rfl) ?_
  intro p e s m args below meth c A C
  unfold f_X7_nextFor at hf
  refine tt_locs (L' := [(0, .ref (ad 0)), (1, .int a1), (2, .int a2)]) [0, 1, 2] rfl ?_
  refine tt_iload_n (pc := 0) (k := 2) C dX7_nextFor_0 rfl rfl ?_
  refine tt_istore_n (pc := 1) (L' := [(3, .int a2), (0, .ref (ad 0)), (1, .int a1), (2, .int a2)]) C dX7_nextFor_1 rfl (by decide) rfl ?_
  refine tt_locs (L' := [(0, .ref (ad 0)), (1, .int a1), (3, .int a2)]) [1, 2, 0] rfl (l_X7_nextFor_2 C (fun _ hf => ?_) hf)
  refine tt_bipush (pc := 36) (v := (-9 : Int32)) C dX7_nextFor_36 (by decide) ?_
  obtain rfl := Option.some.inj hf
  exact tt_ireturn (pc := 38) C rfl rfl rfl dX7_nextFor_38
theorem dX7_movedBy_0 : decode cX7_movedBy 0 = .ok (.iconst 0, 1) := by decide +kernel
theorem dX7_movedBy_1 : decode cX7_movedBy 1 = .ok (.istore_n 1, 1) := by decide +kernel
theorem dX7_movedBy_2 : decode cX7_movedBy 2 = .ok (.iconst 0, 1) := by decide +kernel
theorem dX7_movedBy_3 : decode cX7_movedBy 3 = .ok (.istore_n 2, 1) := by decide +kernel
theorem dX7_movedBy_4 : decode cX7_movedBy 4 = .ok (.iload_n 2, 1) := by decide +kernel
theorem dX7_movedBy_5 : decode cX7_movedBy 5 = .ok (.aload_n 0, 1) := by decide +kernel
theorem dX7_movedBy_6 : decode cX7_movedBy 6 = .ok (.getfield 109, 3) := by decide +kernel
theorem dX7_movedBy_9 : decode cX7_movedBy 9 = .ok (.if_icmp .ge 28, 3) := by decide +kernel
theorem dX7_movedBy_12 : decode cX7_movedBy 12 = .ok (.iload_n 1, 1) := by decide +kernel
theorem dX7_movedBy_13 : decode cX7_movedBy 13 = .ok (.aload_n 0, 1) := by decide +kernel
theorem dX7_movedBy_14 : decode cX7_movedBy 14 = .ok (.getfield 74, 3) := by decide +kernel
theorem dX7_movedBy_17 : decode cX7_movedBy 17 = .ok (.iload_n 2, 1) := by decide +kernel
theorem dX7_movedBy_18 : decode cX7_movedBy 18 = .ok (.iaload, 1) := by decide +kernel
theorem dX7_movedBy_19 : decode cX7_movedBy 19 = .ok (.aload_n 0, 1) := by decide +kernel
theorem dX7_movedBy_20 : decode cX7_movedBy 20 = .ok (.getfield 26, 3) := by decide +kernel
theorem dX7_movedBy_23 : decode cX7_movedBy 23 = .ok (.iload_n 2, 1) := by decide +kernel
theorem dX7_movedBy_24 : decode cX7_movedBy 24 = .ok (.iaload, 1) := by decide +kernel
theorem dX7_movedBy_25 : decode cX7_movedBy 25 = .ok (.isub, 1) := by decide +kernel
theorem dX7_movedBy_26 : decode cX7_movedBy 26 = .ok (.invokestatic 159, 3) := by decide +kernel
theorem dX7_movedBy_29 : decode cX7_movedBy 29 = .ok (.iadd, 1) := by decide +kernel
theorem dX7_movedBy_30 : decode cX7_movedBy 30 = .ok (.istore_n 1, 1) := by decide +kernel
theorem dX7_movedBy_31 : decode cX7_movedBy 31 = .ok (.iinc 2 1, 3) := by decide +kernel
theorem dX7_movedBy_34 : decode cX7_movedBy 34 = .ok (.goto (-30), 3) := by decide +kernel
theorem dX7_movedBy_37 : decode cX7_movedBy 37 = .ok (.iload_n 1, 1) := by decide +kernel
theorem dX7_movedBy_38 : decode cX7_movedBy 38 = .ok (.ireturn, 1) := by decide +kernel
set_option maxHeartbeats 4000000 in
set_option maxRecDepth 100000 in
theorem l_X7_movedBy_4 {p : Program} {l : Launch} {e : Env} {s : State} {m : MethodId} {args : Array Value} {below : List Frame} {meth : Method} {c : Code} {D : va_G} {cy : Nat → ClassId} {A : Nat → Prop} {Bd : Nat} {xa : Xa} {ad : Nat → Nat} {β : Type} {vO : Option Value} {wO : va_W} {N : Nat} {sc : Nat → Int32} {ar : Nat → Nat → Int32} {la : Nat → Nat → Int64} {kx : Int32 → Option (β)} {out : β} (C : CC p s m args meth c cX7_movedBy RX7 3 (some .int) D cy A true Bd xa) (hk : ∀ (x1 : Int32), kx x1 = some out → TT p l e { frames := 1, cells := 0, slots := 0, locals := 21 } s m args below meth c 3 D A true vO wO 37 [(1, .int x1)] [] (mC cy ad sc ar la)) {n : Nat} {v1 : Int32} {v2 : Int32} (hf : f_X7_movedBy_L4 N sc ar kx n v1 v2 = some out) : TT p l e { frames := 1, cells := 0, slots := 0, locals := 21 } s m args below meth c 3 D A true vO wO 4 [(0, .ref (ad 0)), (1, .int v1), (2, .int v2)] [] (mC cy ad sc ar la) := by
  induction n generalizing v1 v2 with
  | zero => cases hf
  | succ n ih =>
    rw [f_X7_movedBy_L4] at hf
    refine tt_iload_n (pc := 4) (k := 2) C dX7_movedBy_4 rfl rfl ?_
    refine tt_aload_n (pc := 5) (k := 0) C dX7_movedBy_5 rfl rfl ?_
    refine tt_get (pc := 6) (ws := (mC cy ad sc ar la)) (ci := 7) (v := .int (sc 6)) C fiX7 rfl 0 mC_obj 6 (by decide) q4_166 rfl dX7_movedBy_6 ?_
    refine tt_icmp_ge (pc := 9) (tgt := 37) C dX7_movedBy_9 (by decide) hf (fun hf => ?_) (fun hf => ?_)
    · exact tt_locs [1] rfl (hk _ hf)
    · refine tt_iload_n (pc := 12) (k := 1) C dX7_movedBy_12 rfl rfl ?_
      refine tt_aload_n (pc := 13) (k := 0) C dX7_movedBy_13 rfl rfl ?_
      refine tt_get (pc := 14) (ws := (mC cy ad sc ar la)) (ci := 7) (v := .ref (ad 28)) C fiX7 rfl 0 mC_obj 28 (by decide) q4_188 rfl dX7_movedBy_14 ?_
      refine tt_iload_n (pc := 17) (k := 2) C dX7_movedBy_17 rfl rfl ?_
      refine tt_iaload (pc := 18) (ws := (mC cy ad sc ar la)) (n := 5) (f := (ar 28)) C 20 0 mC_get28 rfl hf dX7_movedBy_18 (fun hf => ?_)
      refine tt_aload_n (pc := 19) (k := 0) C dX7_movedBy_19 rfl rfl ?_
      refine tt_get (pc := 20) (ws := (mC cy ad sc ar la)) (ci := 7) (v := .ref (ad 7)) C fiX7 rfl 0 mC_obj 7 (by decide) q4_167 rfl dX7_movedBy_20 ?_
      refine tt_iload_n (pc := 23) (k := 2) C dX7_movedBy_23 rfl rfl ?_
      refine tt_iaload (pc := 24) (ws := (mC cy ad sc ar la)) (n := 5) (f := (ar 7)) C 5 0 mC_get7 rfl hf dX7_movedBy_24 (fun hf => ?_)
      refine tt_isub (pc := 25) C dX7_movedBy_25 ?_
      refine tt_abs (pc := 26) C q5_143 q3_165 q1_14 q3_166 (Nat.le_of_ble_eq_true rfl) (Nat.le_of_ble_eq_true rfl) dX7_movedBy_26 ?_
      refine tt_iadd (pc := 29) C dX7_movedBy_29 ?_
      refine tt_istore_n (pc := 30) (L' := [(1, .int (v1 + (if 0 ≤ (((ar 28) (ix v2)) - ((ar 7) (ix v2))) then (((ar 28) (ix v2)) - ((ar 7) (ix v2))) else 0 - (((ar 28) (ix v2)) - ((ar 7) (ix v2)))))), (0, .ref (ad 0)), (2, .int v2)]) C dX7_movedBy_30 rfl (by decide) rfl ?_
      refine tt_iinc (pc := 31) (k := 2) (v := (v2 + 1)) (L' := [(2, .int (v2 + 1)), (1, .int (v1 + (if 0 ≤ (((ar 28) (ix v2)) - ((ar 7) (ix v2))) then (((ar 28) (ix v2)) - ((ar 7) (ix v2))) else 0 - (((ar 28) (ix v2)) - ((ar 7) (ix v2)))))), (0, .ref (ad 0))]) C dX7_movedBy_31 rfl rfl (by decide) rfl ?_
      refine tt_goto (pc := 34) (tgt := 4) C dX7_movedBy_34 (by decide) ?_
      exact tt_locs [2, 1, 0] rfl (ih hf)
set_option maxHeartbeats 4000000 in
set_option maxRecDepth 100000 in
theorem k_X7_movedBy {l : Launch} {D : va_G} {cy : Nat → ClassId} {Bd : Nat} {xa : Xa} {ad : Nat → Nat} {N : Nat} {sc : Nat → Int32} {ar : Nat → Nat → Int32} {la : Nat → Nat → Int64} {out : Int32} (hf : f_X7_movedBy N sc ar = some out) : KC l yX7_movedBy cX7_movedBy 3 (some .int) 1 21 true D cy Bd xa [.ref (ad 0)] (mC cy ad sc ar la) (some (.int out)) (mC cy ad sc ar la) := by
  refine kc_start (own := RX7) (by decide +kernel) rfl (Nat.le_of_ble_eq_true rfl) ?_
  intro p e s m args below meth c A C
  unfold f_X7_movedBy at hf
  refine tt_locs (L' := [(0, .ref (ad 0))]) [0] rfl ?_
  refine tt_iconst (pc := 0) (v := (0 : Int32)) C dX7_movedBy_0 (by decide) ?_
  refine tt_istore_n (pc := 1) (L' := [(1, .int (0 : Int32)), (0, .ref (ad 0))]) C dX7_movedBy_1 rfl (by decide) rfl ?_
  refine tt_iconst (pc := 2) (v := (0 : Int32)) C dX7_movedBy_2 (by decide) ?_
  refine tt_istore_n (pc := 3) (L' := [(2, .int (0 : Int32)), (1, .int (0 : Int32)), (0, .ref (ad 0))]) C dX7_movedBy_3 rfl (by decide) rfl ?_
  refine tt_locs (L' := [(0, .ref (ad 0)), (1, .int (0 : Int32)), (2, .int (0 : Int32))]) [2, 1, 0] rfl (l_X7_movedBy_4 C (fun x1_1 hf => ?_) hf)
  refine tt_iload_n (pc := 37) (k := 0) C dX7_movedBy_37 rfl rfl ?_
  obtain rfl := Option.some.inj hf
  exact tt_ireturn (pc := 38) C rfl rfl rfl dX7_movedBy_38
theorem dX7_isEarlier_0 : decode cX7_isEarlier 0 = .ok (.iconst 0, 1) := by decide +kernel
theorem dX7_isEarlier_1 : decode cX7_isEarlier 1 = .ok (.istore_n 1, 1) := by decide +kernel
theorem dX7_isEarlier_2 : decode cX7_isEarlier 2 = .ok (.iload_n 1, 1) := by decide +kernel
theorem dX7_isEarlier_3 : decode cX7_isEarlier 3 = .ok (.aload_n 0, 1) := by decide +kernel
theorem dX7_isEarlier_4 : decode cX7_isEarlier 4 = .ok (.getfield 109, 3) := by decide +kernel
theorem dX7_isEarlier_7 : decode cX7_isEarlier 7 = .ok (.if_icmp .ge 45, 3) := by decide +kernel
theorem dX7_isEarlier_10 : decode cX7_isEarlier 10 = .ok (.aload_n 0, 1) := by decide +kernel
theorem dX7_isEarlier_11 : decode cX7_isEarlier 11 = .ok (.getfield 74, 3) := by decide +kernel
theorem dX7_isEarlier_14 : decode cX7_isEarlier 14 = .ok (.iload_n 1, 1) := by decide +kernel
theorem dX7_isEarlier_15 : decode cX7_isEarlier 15 = .ok (.iaload, 1) := by decide +kernel
theorem dX7_isEarlier_16 : decode cX7_isEarlier 16 = .ok (.aload_n 0, 1) := by decide +kernel
theorem dX7_isEarlier_17 : decode cX7_isEarlier 17 = .ok (.getfield 77, 3) := by decide +kernel
theorem dX7_isEarlier_20 : decode cX7_isEarlier 20 = .ok (.iload_n 1, 1) := by decide +kernel
theorem dX7_isEarlier_21 : decode cX7_isEarlier 21 = .ok (.iaload, 1) := by decide +kernel
theorem dX7_isEarlier_22 : decode cX7_isEarlier 22 = .ok (.if_icmp .eq 24, 3) := by decide +kernel
theorem dX7_isEarlier_25 : decode cX7_isEarlier 25 = .ok (.aload_n 0, 1) := by decide +kernel
theorem dX7_isEarlier_26 : decode cX7_isEarlier 26 = .ok (.getfield 74, 3) := by decide +kernel
theorem dX7_isEarlier_29 : decode cX7_isEarlier 29 = .ok (.iload_n 1, 1) := by decide +kernel
theorem dX7_isEarlier_30 : decode cX7_isEarlier 30 = .ok (.iaload, 1) := by decide +kernel
theorem dX7_isEarlier_31 : decode cX7_isEarlier 31 = .ok (.aload_n 0, 1) := by decide +kernel
theorem dX7_isEarlier_32 : decode cX7_isEarlier 32 = .ok (.getfield 77, 3) := by decide +kernel
theorem dX7_isEarlier_35 : decode cX7_isEarlier 35 = .ok (.iload_n 1, 1) := by decide +kernel
theorem dX7_isEarlier_36 : decode cX7_isEarlier 36 = .ok (.iaload, 1) := by decide +kernel
theorem dX7_isEarlier_37 : decode cX7_isEarlier 37 = .ok (.if_icmp .ge 7, 3) := by decide +kernel
theorem dX7_isEarlier_40 : decode cX7_isEarlier 40 = .ok (.iconst 1, 1) := by decide +kernel
theorem dX7_isEarlier_41 : decode cX7_isEarlier 41 = .ok (.goto 4, 3) := by decide +kernel
theorem dX7_isEarlier_44 : decode cX7_isEarlier 44 = .ok (.iconst 0, 1) := by decide +kernel
theorem dX7_isEarlier_45 : decode cX7_isEarlier 45 = .ok (.ireturn, 1) := by decide +kernel
theorem dX7_isEarlier_46 : decode cX7_isEarlier 46 = .ok (.iinc 1 1, 3) := by decide +kernel
theorem dX7_isEarlier_49 : decode cX7_isEarlier 49 = .ok (.goto (-47), 3) := by decide +kernel
theorem dX7_isEarlier_52 : decode cX7_isEarlier 52 = .ok (.iconst 0, 1) := by decide +kernel
theorem dX7_isEarlier_53 : decode cX7_isEarlier 53 = .ok (.ireturn, 1) := by decide +kernel
set_option maxHeartbeats 4000000 in
set_option maxRecDepth 100000 in
theorem l_X7_isEarlier_2 {p : Program} {l : Launch} {e : Env} {s : State} {m : MethodId} {args : Array Value} {below : List Frame} {meth : Method} {c : Code} {D : va_G} {cy : Nat → ClassId} {A : Nat → Prop} {Bd : Nat} {xa : Xa} {ad : Nat → Nat} {N : Nat} {sc : Nat → Int32} {ar : Nat → Nat → Int32} {la : Nat → Nat → Int64} {kx : Unit → Option (Int32)} {out : Int32} (C : CC p s m args meth c cX7_isEarlier RX7 2 (some .boolean) D cy A true Bd xa) (hk : ∀ (uu : Unit), kx uu = some out → TT p l e { frames := 0, cells := 0, slots := 0, locals := 0 } s m args below meth c 2 D A true (some (.int out)) (mC cy ad sc ar la) 52 [] [] (mC cy ad sc ar la)) {n : Nat} {v1 : Int32} (hf : f_X7_isEarlier_L2 N sc ar kx n v1 = some out) : TT p l e { frames := 0, cells := 0, slots := 0, locals := 0 } s m args below meth c 2 D A true (some (.int out)) (mC cy ad sc ar la) 2 [(0, .ref (ad 0)), (1, .int v1)] [] (mC cy ad sc ar la) := by
  induction n generalizing v1 with
  | zero => cases hf
  | succ n ih =>
    rw [f_X7_isEarlier_L2] at hf
    refine tt_iload_n (pc := 2) (k := 1) C dX7_isEarlier_2 rfl rfl ?_
    refine tt_aload_n (pc := 3) (k := 0) C dX7_isEarlier_3 rfl rfl ?_
    refine tt_get (pc := 4) (ws := (mC cy ad sc ar la)) (ci := 7) (v := .int (sc 6)) C fiX7 rfl 0 mC_obj 6 (by decide) q4_166 rfl dX7_isEarlier_4 ?_
    refine tt_icmp_ge (pc := 7) (tgt := 52) C dX7_isEarlier_7 (by decide) hf (fun hf => ?_) (fun hf => ?_)
    · exact tt_locs [] rfl (hk () hf)
    · refine tt_aload_n (pc := 10) (k := 0) C dX7_isEarlier_10 rfl rfl ?_
      refine tt_get (pc := 11) (ws := (mC cy ad sc ar la)) (ci := 7) (v := .ref (ad 28)) C fiX7 rfl 0 mC_obj 28 (by decide) q4_188 rfl dX7_isEarlier_11 ?_
      refine tt_iload_n (pc := 14) (k := 1) C dX7_isEarlier_14 rfl rfl ?_
      refine tt_iaload (pc := 15) (ws := (mC cy ad sc ar la)) (n := 5) (f := (ar 28)) C 20 0 mC_get28 rfl hf dX7_isEarlier_15 (fun hf => ?_)
      refine tt_aload_n (pc := 16) (k := 0) C dX7_isEarlier_16 rfl rfl ?_
      refine tt_get (pc := 17) (ws := (mC cy ad sc ar la)) (ci := 7) (v := .ref (ad 29)) C fiX7 rfl 0 mC_obj 29 (by decide) q4_189 rfl dX7_isEarlier_17 ?_
      refine tt_iload_n (pc := 20) (k := 1) C dX7_isEarlier_20 rfl rfl ?_
      refine tt_iaload (pc := 21) (ws := (mC cy ad sc ar la)) (n := 5) (f := (ar 29)) C 21 0 mC_get29 rfl hf dX7_isEarlier_21 (fun hf => ?_)
      refine tt_icmp_eq (pc := 22) (tgt := 46) C dX7_isEarlier_22 (by decide) hf (fun hf => ?_) (fun hf => ?_)
      · refine tt_iinc (pc := 46) (k := 1) (v := (v1 + 1)) (L' := [(1, .int (v1 + 1)), (0, .ref (ad 0))]) C dX7_isEarlier_46 rfl rfl (by decide) rfl ?_
        refine tt_goto (pc := 49) (tgt := 2) C dX7_isEarlier_49 (by decide) ?_
        exact tt_locs [1, 0] rfl (ih hf)
      · refine tt_aload_n (pc := 25) (k := 0) C dX7_isEarlier_25 rfl rfl ?_
        refine tt_get (pc := 26) (ws := (mC cy ad sc ar la)) (ci := 7) (v := .ref (ad 28)) C fiX7 rfl 0 mC_obj 28 (by decide) q4_188 rfl dX7_isEarlier_26 ?_
        refine tt_iload_n (pc := 29) (k := 1) C dX7_isEarlier_29 rfl rfl ?_
        refine tt_iaload (pc := 30) (ws := (mC cy ad sc ar la)) (n := 5) (f := (ar 28)) C 20 0 mC_get28 rfl hf dX7_isEarlier_30 (fun hf => ?_)
        refine tt_aload_n (pc := 31) (k := 0) C dX7_isEarlier_31 rfl rfl ?_
        refine tt_get (pc := 32) (ws := (mC cy ad sc ar la)) (ci := 7) (v := .ref (ad 29)) C fiX7 rfl 0 mC_obj 29 (by decide) q4_189 rfl dX7_isEarlier_32 ?_
        refine tt_iload_n (pc := 35) (k := 1) C dX7_isEarlier_35 rfl rfl ?_
        refine tt_iaload (pc := 36) (ws := (mC cy ad sc ar la)) (n := 5) (f := (ar 29)) C 21 0 mC_get29 rfl hf dX7_isEarlier_36 (fun hf => ?_)
        have k2 : TT p l e { frames := 0, cells := 0, slots := 0, locals := 0 } s m args below meth c 2 D A true (some (.int out)) (mC cy ad sc ar la) 45 [] [.int (if ((ar 29) (ix v1)) ≤ ((ar 28) (ix v1)) then (0 : Int32) else (1 : Int32))] (mC cy ad sc ar la) := by
          obtain rfl := Option.some.inj hf
          exact tt_zreturn (pc := 45) C rfl (nb_if rfl rfl) rfl rfl dX7_isEarlier_45
        refine tr_icmp_ge (pc := 37) (tgt := 44) C dX7_isEarlier_37 (by decide) (fun c1 => ?_) (fun c1 => ?_)
        · refine tt_iconst (pc := 44) (v := (0 : Int32)) C dX7_isEarlier_44 (by decide) ?_
          try simp only [if_pos c1] at k2 ⊢
          exact tt_locs [] rfl k2
        · refine tt_iconst (pc := 40) (v := (1 : Int32)) C dX7_isEarlier_40 (by decide) ?_
          refine tt_goto (pc := 41) (tgt := 45) C dX7_isEarlier_41 (by decide) ?_
          try simp only [if_neg c1] at k2 ⊢
          exact tt_locs [] rfl k2
set_option maxHeartbeats 4000000 in
set_option maxRecDepth 100000 in
theorem k_X7_isEarlier {l : Launch} {D : va_G} {cy : Nat → ClassId} {Bd : Nat} {xa : Xa} {ad : Nat → Nat} {N : Nat} {sc : Nat → Int32} {ar : Nat → Nat → Int32} {la : Nat → Nat → Int64} {out : Int32} (hf : f_X7_isEarlier N sc ar = some out) : KC l yX7_isEarlier cX7_isEarlier 2 (some .boolean) 0 0 true D cy Bd xa [.ref (ad 0)] (mC cy ad sc ar la) (some (.int out)) (mC cy ad sc ar la) := by
  refine kc_start (own := RX7) (by decide +kernel) rfl (Nat.le_of_ble_eq_true rfl) ?_
  intro p e s m args below meth c A C
  unfold f_X7_isEarlier at hf
  refine tt_locs (L' := [(0, .ref (ad 0))]) [0] rfl ?_
  refine tt_iconst (pc := 0) (v := (0 : Int32)) C dX7_isEarlier_0 (by decide) ?_
  refine tt_istore_n (pc := 1) (L' := [(1, .int (0 : Int32)), (0, .ref (ad 0))]) C dX7_isEarlier_1 rfl (by decide) rfl ?_
  refine tt_locs (L' := [(0, .ref (ad 0)), (1, .int (0 : Int32))]) [1, 0] rfl (l_X7_isEarlier_2 C (fun _ hf => ?_) hf)
  refine tt_iconst (pc := 52) (v := (0 : Int32)) C dX7_isEarlier_52 (by decide) ?_
  obtain rfl := Option.some.inj hf
  exact tt_zreturn (pc := 53) C rfl rfl rfl rfl dX7_isEarlier_53
theorem dX7_moves_0 : decode cX7_moves 0 = .ok (.aload_n 0, 1) := by decide +kernel
theorem dX7_moves_1 : decode cX7_moves 1 = .ok (.invokevirtual 195, 3) := by decide +kernel
theorem dX7_moves_4 : decode cX7_moves 4 = .ok (.aload_n 0, 1) := by decide +kernel
theorem dX7_moves_5 : decode cX7_moves 5 = .ok (.invokevirtual 198, 3) := by decide +kernel
theorem dX7_moves_8 : decode cX7_moves 8 = .ok (.bipush (-9), 2) := by decide +kernel
theorem dX7_moves_10 : decode cX7_moves 10 = .ok (.istore_n 1, 1) := by decide +kernel
theorem dX7_moves_11 : decode cX7_moves 11 = .ok (.iconst 0, 1) := by decide +kernel
theorem dX7_moves_12 : decode cX7_moves 12 = .ok (.istore_n 2, 1) := by decide +kernel
theorem dX7_moves_13 : decode cX7_moves 13 = .ok (.iconst 0, 1) := by decide +kernel
theorem dX7_moves_14 : decode cX7_moves 14 = .ok (.istore_n 3, 1) := by decide +kernel
theorem dX7_moves_15 : decode cX7_moves 15 = .ok (.iconst 1, 1) := by decide +kernel
theorem dX7_moves_16 : decode cX7_moves 16 = .ok (.istore 4, 2) := by decide +kernel
theorem dX7_moves_18 : decode cX7_moves 18 = .ok (.iload 4, 2) := by decide +kernel
theorem dX7_moves_20 : decode cX7_moves 20 = .ok (.ifCond .eq 167, 3) := by decide +kernel
theorem dX7_moves_23 : decode cX7_moves 23 = .ok (.iload_n 2, 1) := by decide +kernel
theorem dX7_moves_24 : decode cX7_moves 24 = .ok (.aload_n 0, 1) := by decide +kernel
theorem dX7_moves_25 : decode cX7_moves 25 = .ok (.getfield 109, 3) := by decide +kernel
theorem dX7_moves_28 : decode cX7_moves 28 = .ok (.if_icmp .ge 45, 3) := by decide +kernel
theorem dX7_moves_31 : decode cX7_moves 31 = .ok (.aload_n 0, 1) := by decide +kernel
theorem dX7_moves_32 : decode cX7_moves 32 = .ok (.iload_n 2, 1) := by decide +kernel
theorem dX7_moves_33 : decode cX7_moves 33 = .ok (.iload_n 3, 1) := by decide +kernel
theorem dX7_moves_34 : decode cX7_moves 34 = .ok (.invokevirtual 201, 3) := by decide +kernel
theorem dX7_moves_37 : decode cX7_moves 37 = .ok (.istore 5, 2) := by decide +kernel
theorem dX7_moves_39 : decode cX7_moves 39 = .ok (.iload 5, 2) := by decide +kernel
theorem dX7_moves_41 : decode cX7_moves 41 = .ok (.bipush (-9), 2) := by decide +kernel
theorem dX7_moves_43 : decode cX7_moves 43 = .ok (.if_icmp .ne 6, 3) := by decide +kernel
theorem dX7_moves_46 : decode cX7_moves 46 = .ok (.goto 27, 3) := by decide +kernel
theorem dX7_moves_49 : decode cX7_moves 49 = .ok (.aload_n 0, 1) := by decide +kernel
theorem dX7_moves_50 : decode cX7_moves 50 = .ok (.getfield 74, 3) := by decide +kernel
theorem dX7_moves_53 : decode cX7_moves 53 = .ok (.aload_n 0, 1) := by decide +kernel
theorem dX7_moves_54 : decode cX7_moves 54 = .ok (.getfield 71, 3) := by decide +kernel
theorem dX7_moves_57 : decode cX7_moves 57 = .ok (.iload_n 2, 1) := by decide +kernel
theorem dX7_moves_58 : decode cX7_moves 58 = .ok (.iaload, 1) := by decide +kernel
theorem dX7_moves_59 : decode cX7_moves 59 = .ok (.iload 5, 2) := by decide +kernel
theorem dX7_moves_61 : decode cX7_moves 61 = .ok (.iastore, 1) := by decide +kernel
theorem dX7_moves_62 : decode cX7_moves 62 = .ok (.iload 5, 2) := by decide +kernel
theorem dX7_moves_64 : decode cX7_moves 64 = .ok (.iconst 1, 1) := by decide +kernel
theorem dX7_moves_65 : decode cX7_moves 65 = .ok (.iadd, 1) := by decide +kernel
theorem dX7_moves_66 : decode cX7_moves 66 = .ok (.istore_n 3, 1) := by decide +kernel
theorem dX7_moves_67 : decode cX7_moves 67 = .ok (.iinc 2 1, 3) := by decide +kernel
theorem dX7_moves_70 : decode cX7_moves 70 = .ok (.goto (-47), 3) := by decide +kernel
theorem dX7_moves_73 : decode cX7_moves 73 = .ok (.iload_n 2, 1) := by decide +kernel
theorem dX7_moves_74 : decode cX7_moves 74 = .ok (.aload_n 0, 1) := by decide +kernel
theorem dX7_moves_75 : decode cX7_moves 75 = .ok (.getfield 109, 3) := by decide +kernel
theorem dX7_moves_78 : decode cX7_moves 78 = .ok (.if_icmp .ne 69, 3) := by decide +kernel
theorem dX7_moves_81 : decode cX7_moves 81 = .ok (.aload_n 0, 1) := by decide +kernel
theorem dX7_moves_82 : decode cX7_moves 82 = .ok (.invokevirtual 204, 3) := by decide +kernel
theorem dX7_moves_85 : decode cX7_moves 85 = .ok (.istore 5, 2) := by decide +kernel
theorem dX7_moves_87 : decode cX7_moves 87 = .ok (.iload_n 1, 1) := by decide +kernel
theorem dX7_moves_88 : decode cX7_moves 88 = .ok (.bipush (-9), 2) := by decide +kernel
theorem dX7_moves_90 : decode cX7_moves 90 = .ok (.if_icmp .eq 22, 3) := by decide +kernel
theorem dX7_moves_93 : decode cX7_moves 93 = .ok (.iload 5, 2) := by decide +kernel
theorem dX7_moves_95 : decode cX7_moves 95 = .ok (.iload_n 1, 1) := by decide +kernel
theorem dX7_moves_96 : decode cX7_moves 96 = .ok (.if_icmp .lt 16, 3) := by decide +kernel
theorem dX7_moves_99 : decode cX7_moves 99 = .ok (.iload 5, 2) := by decide +kernel
theorem dX7_moves_101 : decode cX7_moves 101 = .ok (.iload_n 1, 1) := by decide +kernel
theorem dX7_moves_102 : decode cX7_moves 102 = .ok (.if_icmp .ne 45, 3) := by decide +kernel
theorem dX7_moves_105 : decode cX7_moves 105 = .ok (.aload_n 0, 1) := by decide +kernel
theorem dX7_moves_106 : decode cX7_moves 106 = .ok (.invokevirtual 208, 3) := by decide +kernel
theorem dX7_moves_109 : decode cX7_moves 109 = .ok (.ifCond .eq 38, 3) := by decide +kernel
theorem dX7_moves_112 : decode cX7_moves 112 = .ok (.iload 5, 2) := by decide +kernel
theorem dX7_moves_114 : decode cX7_moves 114 = .ok (.istore_n 1, 1) := by decide +kernel
theorem dX7_moves_115 : decode cX7_moves 115 = .ok (.iconst 0, 1) := by decide +kernel
theorem dX7_moves_116 : decode cX7_moves 116 = .ok (.istore 6, 2) := by decide +kernel
theorem dX7_moves_118 : decode cX7_moves 118 = .ok (.iload 6, 2) := by decide +kernel
theorem dX7_moves_120 : decode cX7_moves 120 = .ok (.aload_n 0, 1) := by decide +kernel
theorem dX7_moves_121 : decode cX7_moves 121 = .ok (.getfield 109, 3) := by decide +kernel
theorem dX7_moves_124 : decode cX7_moves 124 = .ok (.if_icmp .ge 23, 3) := by decide +kernel
theorem dX7_moves_127 : decode cX7_moves 127 = .ok (.aload_n 0, 1) := by decide +kernel
theorem dX7_moves_128 : decode cX7_moves 128 = .ok (.getfield 77, 3) := by decide +kernel
theorem dX7_moves_131 : decode cX7_moves 131 = .ok (.iload 6, 2) := by decide +kernel
theorem dX7_moves_133 : decode cX7_moves 133 = .ok (.aload_n 0, 1) := by decide +kernel
theorem dX7_moves_134 : decode cX7_moves 134 = .ok (.getfield 74, 3) := by decide +kernel
theorem dX7_moves_137 : decode cX7_moves 137 = .ok (.iload 6, 2) := by decide +kernel
theorem dX7_moves_139 : decode cX7_moves 139 = .ok (.iaload, 1) := by decide +kernel
theorem dX7_moves_140 : decode cX7_moves 140 = .ok (.iastore, 1) := by decide +kernel
theorem dX7_moves_141 : decode cX7_moves 141 = .ok (.iinc 6 1, 3) := by decide +kernel
theorem dX7_moves_144 : decode cX7_moves 144 = .ok (.goto (-26), 3) := by decide +kernel
theorem dX7_moves_147 : decode cX7_moves 147 = .ok (.iinc 2 (-1), 3) := by decide +kernel
theorem dX7_moves_150 : decode cX7_moves 150 = .ok (.iload_n 2, 1) := by decide +kernel
theorem dX7_moves_151 : decode cX7_moves 151 = .ok (.ifCond .lt 7, 3) := by decide +kernel
theorem dX7_moves_154 : decode cX7_moves 154 = .ok (.iconst 1, 1) := by decide +kernel
theorem dX7_moves_155 : decode cX7_moves 155 = .ok (.goto 4, 3) := by decide +kernel
theorem dX7_moves_158 : decode cX7_moves 158 = .ok (.iconst 0, 1) := by decide +kernel
theorem dX7_moves_159 : decode cX7_moves 159 = .ok (.istore 4, 2) := by decide +kernel
theorem dX7_moves_161 : decode cX7_moves 161 = .ok (.iload 4, 2) := by decide +kernel
theorem dX7_moves_163 : decode cX7_moves 163 = .ok (.ifCond .eq 19, 3) := by decide +kernel
theorem dX7_moves_166 : decode cX7_moves 166 = .ok (.aload_n 0, 1) := by decide +kernel
theorem dX7_moves_167 : decode cX7_moves 167 = .ok (.getfield 74, 3) := by decide +kernel
theorem dX7_moves_170 : decode cX7_moves 170 = .ok (.aload_n 0, 1) := by decide +kernel
theorem dX7_moves_171 : decode cX7_moves 171 = .ok (.getfield 71, 3) := by decide +kernel
theorem dX7_moves_174 : decode cX7_moves 174 = .ok (.iload_n 2, 1) := by decide +kernel
theorem dX7_moves_175 : decode cX7_moves 175 = .ok (.iaload, 1) := by decide +kernel
theorem dX7_moves_176 : decode cX7_moves 176 = .ok (.iaload, 1) := by decide +kernel
theorem dX7_moves_177 : decode cX7_moves 177 = .ok (.iconst 1, 1) := by decide +kernel
theorem dX7_moves_178 : decode cX7_moves 178 = .ok (.iadd, 1) := by decide +kernel
theorem dX7_moves_179 : decode cX7_moves 179 = .ok (.goto 4, 3) := by decide +kernel
theorem dX7_moves_182 : decode cX7_moves 182 = .ok (.iconst 0, 1) := by decide +kernel
theorem dX7_moves_183 : decode cX7_moves 183 = .ok (.istore_n 3, 1) := by decide +kernel
theorem dX7_moves_184 : decode cX7_moves 184 = .ok (.goto (-166), 3) := by decide +kernel
theorem dX7_moves_187 : decode cX7_moves 187 = .ok (.iload_n 1, 1) := by decide +kernel
theorem dX7_moves_188 : decode cX7_moves 188 = .ok (.ireturn, 1) := by decide +kernel
set_option maxHeartbeats 4000000 in
set_option maxRecDepth 100000 in
theorem l_X7_moves_23 {p : Program} {l : Launch} {e : Env} {s : State} {m : MethodId} {args : Array Value} {below : List Frame} {meth : Method} {c : Code} {D : va_G} {cy : Nat → ClassId} {A : Nat → Prop} {Bd : Nat} {xa : Xa} {ad : Nat → Nat} {β : Type} {vO : Option Value} {wO : va_W} {N : Nat} {sc : Nat → Int32} {la : Nat → Nat → Int64} {v1 : Int32} {kx : Int32 → (Nat → Nat → Int32) → Option (β)} {out : β} (C : CC p s m args meth c cX7_moves RX7 7 (some .int) D cy A false Bd xa) (hk : ∀ (x2 : Int32) (ar1 : Nat → Nat → Int32), kx x2 ar1 = some out → TT p l e { frames := 8, cells := 0, slots := 0, locals := 193 } s m args below meth c 7 D A false vO wO 73 [(0, .ref (ad 0)), (1, .int v1), (2, .int x2)] [] (mC cy ad sc ar1 la)) {n : Nat} {v2 : Int32} {v3 : Int32} {ar : Nat → Nat → Int32} (hf : f_X7_moves_L23 N sc v1 kx n v2 v3 ar = some out) : TT p l e { frames := 8, cells := 0, slots := 0, locals := 193 } s m args below meth c 7 D A false vO wO 23 [(0, .ref (ad 0)), (1, .int v1), (2, .int v2), (3, .int v3)] [] (mC cy ad sc ar la) := by
  induction n generalizing v2 v3 ar with
  | zero => cases hf
  | succ n ih =>
    rw [f_X7_moves_L23] at hf
    refine tt_iload_n (pc := 23) (k := 2) C dX7_moves_23 rfl rfl ?_
    refine tt_aload_n (pc := 24) (k := 0) C dX7_moves_24 rfl rfl ?_
    refine tt_get (pc := 25) (ws := (mC cy ad sc ar la)) (ci := 7) (v := .int (sc 6)) C fiX7 rfl 0 mC_obj 6 (by decide) q4_166 rfl dX7_moves_25 ?_
    refine tt_icmp_ge (pc := 28) (tgt := 73) C dX7_moves_28 (by decide) hf (fun hf => ?_) (fun hf => ?_)
    · exact tt_locs [0, 1, 2] rfl (hk _ _ hf)
    · refine tt_aload_n (pc := 31) (k := 0) C dX7_moves_31 rfl rfl ?_
      refine tt_iload_n (pc := 32) (k := 2) C dX7_moves_32 rfl rfl ?_
      refine tt_iload_n (pc := 33) (k := 3) C dX7_moves_33 rfl rfl ?_
      obtain ⟨r3, hr3, hf⟩ := bind_some hf
      refine tt_callR (pc := 34) (ws := (mC cy ad sc ar la)) (q0 := 0) (ci := 7) (rest := []) (st' := [.int r3]) C (k_X7_nextFor hr3) okX7_nextFor q5_207 rfl mC_obj (fun _ h => h) rfl rfl rfl (Nat.le_of_ble_eq_true rfl) ⟨Nat.le_of_ble_eq_true rfl, Nat.le_of_ble_eq_true rfl⟩ dX7_moves_34 ?_
      refine tt_istore (pc := 37) (L' := [(5, .int r3), (0, .ref (ad 0)), (1, .int v1), (2, .int v2), (3, .int v3)]) C dX7_moves_37 (by decide) rfl ?_
      refine tt_iload (pc := 39) (k := 0) C dX7_moves_39 rfl ?_
      refine tt_bipush (pc := 41) (v := (-9 : Int32)) C dX7_moves_41 (by decide) ?_
      refine tt_icmp_ne (pc := 43) (tgt := 49) C dX7_moves_43 (by decide) hf (fun hf => ?_) (fun hf => ?_)
      · refine tt_aload_n (pc := 49) (k := 1) C dX7_moves_49 rfl rfl ?_
        refine tt_get (pc := 50) (ws := (mC cy ad sc ar la)) (ci := 7) (v := .ref (ad 28)) C fiX7 rfl 0 mC_obj 28 (by decide) q4_188 rfl dX7_moves_50 ?_
        refine tt_aload_n (pc := 53) (k := 1) C dX7_moves_53 rfl rfl ?_
        refine tt_get (pc := 54) (ws := (mC cy ad sc ar la)) (ci := 7) (v := .ref (ad 27)) C fiX7 rfl 0 mC_obj 27 (by decide) q4_187 rfl dX7_moves_54 ?_
        refine tt_iload_n (pc := 57) (k := 3) C dX7_moves_57 rfl rfl ?_
        refine tt_iaload (pc := 58) (ws := (mC cy ad sc ar la)) (n := 5) (f := (ar 27)) C 19 0 mC_get27 rfl hf dX7_moves_58 (fun hf => ?_)
        refine tt_iload (pc := 59) (k := 0) C dX7_moves_59 rfl ?_
        refine tt_iastore (pc := 61) (ws := (mC cy ad sc ar la)) (n := 5) (f := (ar 28)) (ws' := (mC cy ad sc (va_up ar 28 (upd (ar 28) (ix ((ar 27) (ix v2))) r3)) la)) C rfl 20 0 mC_get28 rfl hf dX7_moves_61 mC_set28 (fun hf => ?_)
        refine tt_iload (pc := 62) (k := 0) C dX7_moves_62 rfl ?_
        refine tt_iconst (pc := 64) (v := (1 : Int32)) C dX7_moves_64 (by decide) ?_
        refine tt_iadd (pc := 65) C dX7_moves_65 ?_
        refine tt_istore_n (pc := 66) (L' := [(3, .int (r3 + (1 : Int32))), (5, .int r3), (0, .ref (ad 0)), (1, .int v1), (2, .int v2)]) C dX7_moves_66 rfl (by decide) rfl ?_
        refine tt_iinc (pc := 67) (k := 4) (v := (v2 + 1)) (L' := [(2, .int (v2 + 1)), (3, .int (r3 + (1 : Int32))), (5, .int r3), (0, .ref (ad 0)), (1, .int v1)]) C dX7_moves_67 rfl rfl (by decide) rfl ?_
        refine tt_goto (pc := 70) (tgt := 23) C dX7_moves_70 (by decide) ?_
        exact tt_locs [3, 4, 0, 1] rfl (ih hf)
      · refine tt_goto (pc := 46) (tgt := 73) C dX7_moves_46 (by decide) ?_
        exact tt_locs [1, 2, 3] rfl (hk _ _ hf)
set_option maxHeartbeats 4000000 in
set_option maxRecDepth 100000 in
theorem l_X7_moves_118 {p : Program} {l : Launch} {e : Env} {s : State} {m : MethodId} {args : Array Value} {below : List Frame} {meth : Method} {c : Code} {D : va_G} {cy : Nat → ClassId} {A : Nat → Prop} {Bd : Nat} {xa : Xa} {ad : Nat → Nat} {β : Type} {vO : Option Value} {wO : va_W} {N : Nat} {sc : Nat → Int32} {la : Nat → Nat → Int64} {v1 : Int32} {v2 : Int32} {kx : (Nat → Nat → Int32) → Option (β)} {out : β} (C : CC p s m args meth c cX7_moves RX7 7 (some .int) D cy A false Bd xa) (hk : ∀ (ar1 : Nat → Nat → Int32), kx ar1 = some out → TT p l e { frames := 8, cells := 0, slots := 0, locals := 193 } s m args below meth c 7 D A false vO wO 147 [(0, .ref (ad 0)), (1, .int v1), (2, .int v2)] [] (mC cy ad sc ar1 la)) {n : Nat} {v6 : Int32} {ar : Nat → Nat → Int32} (hf : f_X7_moves_L118 N sc v1 v2 kx n v6 ar = some out) : TT p l e { frames := 8, cells := 0, slots := 0, locals := 193 } s m args below meth c 7 D A false vO wO 118 [(0, .ref (ad 0)), (1, .int v1), (2, .int v2), (6, .int v6)] [] (mC cy ad sc ar la) := by
  induction n generalizing v6 ar with
  | zero => cases hf
  | succ n ih =>
    rw [f_X7_moves_L118] at hf
    refine tt_iload (pc := 118) (k := 3) C dX7_moves_118 rfl ?_
    refine tt_aload_n (pc := 120) (k := 0) C dX7_moves_120 rfl rfl ?_
    refine tt_get (pc := 121) (ws := (mC cy ad sc ar la)) (ci := 7) (v := .int (sc 6)) C fiX7 rfl 0 mC_obj 6 (by decide) q4_166 rfl dX7_moves_121 ?_
    refine tt_icmp_ge (pc := 124) (tgt := 147) C dX7_moves_124 (by decide) hf (fun hf => ?_) (fun hf => ?_)
    · exact tt_locs [0, 1, 2] rfl (hk _ hf)
    · refine tt_aload_n (pc := 127) (k := 0) C dX7_moves_127 rfl rfl ?_
      refine tt_get (pc := 128) (ws := (mC cy ad sc ar la)) (ci := 7) (v := .ref (ad 29)) C fiX7 rfl 0 mC_obj 29 (by decide) q4_189 rfl dX7_moves_128 ?_
      refine tt_iload (pc := 131) (k := 3) C dX7_moves_131 rfl ?_
      refine tt_aload_n (pc := 133) (k := 0) C dX7_moves_133 rfl rfl ?_
      refine tt_get (pc := 134) (ws := (mC cy ad sc ar la)) (ci := 7) (v := .ref (ad 28)) C fiX7 rfl 0 mC_obj 28 (by decide) q4_188 rfl dX7_moves_134 ?_
      refine tt_iload (pc := 137) (k := 3) C dX7_moves_137 rfl ?_
      refine tt_iaload (pc := 139) (ws := (mC cy ad sc ar la)) (n := 5) (f := (ar 28)) C 20 0 mC_get28 rfl hf dX7_moves_139 (fun hf => ?_)
      refine tt_iastore (pc := 140) (ws := (mC cy ad sc ar la)) (n := 5) (f := (ar 29)) (ws' := (mC cy ad sc (va_up ar 29 (upd (ar 29) (ix v6) ((ar 28) (ix v6)))) la)) C rfl 21 0 mC_get29 rfl hf dX7_moves_140 mC_set29 (fun hf => ?_)
      refine tt_iinc (pc := 141) (k := 3) (v := (v6 + 1)) (L' := [(6, .int (v6 + 1)), (0, .ref (ad 0)), (1, .int v1), (2, .int v2)]) C dX7_moves_141 rfl rfl (by decide) rfl ?_
      refine tt_goto (pc := 144) (tgt := 118) C dX7_moves_144 (by decide) ?_
      exact tt_locs [1, 2, 3, 0] rfl (ih hf)
set_option maxHeartbeats 4000000 in
set_option maxRecDepth 100000 in
theorem l_X7_moves_18 {p : Program} {l : Launch} {e : Env} {s : State} {m : MethodId} {args : Array Value} {below : List Frame} {meth : Method} {c : Code} {D : va_G} {cy : Nat → ClassId} {A : Nat → Prop} {Bd : Nat} {xa : Xa} {ad : Nat → Nat} {β : Type} {vO : Option Value} {wO : va_W} {N : Nat} {sc : Nat → Int32} {la : Nat → Nat → Int64} {kx : Int32 → (Nat → Nat → Int32) → Option (β)} {out : β} (C : CC p s m args meth c cX7_moves RX7 7 (some .int) D cy A false Bd xa) (hk : ∀ (x1 : Int32) (ar1 : Nat → Nat → Int32), kx x1 ar1 = some out → TT p l e { frames := 8, cells := 0, slots := 0, locals := 193 } s m args below meth c 7 D A false vO wO 187 [(1, .int x1)] [] (mC cy ad sc ar1 la)) {n : Nat} {v1 : Int32} {v2 : Int32} {v3 : Int32} {v4 : Int32} {ar : Nat → Nat → Int32} (hf : f_X7_moves_L18 N sc kx n v1 v2 v3 v4 ar = some out) : TT p l e { frames := 8, cells := 0, slots := 0, locals := 193 } s m args below meth c 7 D A false vO wO 18 [(0, .ref (ad 0)), (1, .int v1), (2, .int v2), (3, .int v3), (4, .int v4)] [] (mC cy ad sc ar la) := by
  induction n generalizing v1 v2 v3 v4 ar with
  | zero => cases hf
  | succ n ih =>
    rw [f_X7_moves_L18] at hf
    refine tt_iload (pc := 18) (k := 4) C dX7_moves_18 rfl ?_
    refine tt_if_eq (pc := 20) (tgt := 187) C dX7_moves_20 (by decide) hf (fun hf => ?_) (fun hf => ?_)
    · exact tt_locs [1] rfl (hk _ _ hf)
    · refine tt_locs (L' := [(0, .ref (ad 0)), (1, .int v1), (2, .int v2), (3, .int v3)]) [0, 1, 2, 3] rfl (l_X7_moves_23 C (fun x2_4 t4 hf => ?_) hf)
      refine tt_iload_n (pc := 73) (k := 2) C dX7_moves_73 rfl rfl ?_
      refine tt_aload_n (pc := 74) (k := 0) C dX7_moves_74 rfl rfl ?_
      refine tt_get (pc := 75) (ws := (mC cy ad sc t4 la)) (ci := 7) (v := .int (sc 6)) C fiX7 rfl 0 mC_obj 6 (by decide) q4_166 rfl dX7_moves_75 ?_
      obtain ⟨j5, hj5, hf⟩ := bind_some hf
      have k6 : TT p l e { frames := 8, cells := 0, slots := 0, locals := 193 } s m args below meth c 7 D A false vO wO 147 [(0, .ref (ad 0)), (1, .int j5.1), (2, .int x2_4)] [] (mC cy ad sc j5.2 la) := by
        refine tt_iinc (pc := 147) (k := 2) (v := (x2_4 + (-1))) (L' := [(2, .int (x2_4 + (-1))), (0, .ref (ad 0)), (1, .int j5.1)]) C dX7_moves_147 rfl rfl (by decide) rfl ?_
        refine tt_iload_n (pc := 150) (k := 0) C dX7_moves_150 rfl rfl ?_
        have k21 : TT p l e { frames := 8, cells := 0, slots := 0, locals := 193 } s m args below meth c 7 D A false vO wO 159 [(0, .ref (ad 0)), (1, .int j5.1), (2, .int (x2_4 + (-1)))] [.int (if (x2_4 + (-1)) < 0 then (0 : Int32) else (1 : Int32))] (mC cy ad sc j5.2 la) := by
          refine tt_istore (pc := 159) (L' := [(4, .int (if (x2_4 + (-1)) < 0 then (0 : Int32) else (1 : Int32))), (0, .ref (ad 0)), (1, .int j5.1), (2, .int (x2_4 + (-1)))]) C dX7_moves_159 (by decide) rfl ?_
          refine tt_iload (pc := 161) (k := 0) C dX7_moves_161 rfl ?_
          obtain ⟨j22, hj22, hf⟩ := bind_some hf
          have k23 : TT p l e { frames := 8, cells := 0, slots := 0, locals := 193 } s m args below meth c 7 D A false vO wO 183 [(0, .ref (ad 0)), (1, .int j5.1), (2, .int (x2_4 + (-1))), (4, .int (if (x2_4 + (-1)) < 0 then (0 : Int32) else (1 : Int32)))] [.int j22] (mC cy ad sc j5.2 la) := by
            refine tt_istore_n (pc := 183) (L' := [(3, .int j22), (0, .ref (ad 0)), (1, .int j5.1), (2, .int (x2_4 + (-1))), (4, .int (if (x2_4 + (-1)) < 0 then (0 : Int32) else (1 : Int32)))]) C dX7_moves_183 rfl (by decide) rfl ?_
            refine tt_goto (pc := 184) (tgt := 18) C dX7_moves_184 (by decide) ?_
            exact tt_locs [1, 2, 3, 0, 4] rfl (ih hf)
          refine tt_if_eq (pc := 163) (tgt := 182) C dX7_moves_163 (by decide) hj22 (fun hj22 => ?_) (fun hj22 => ?_)
          · refine tt_iconst (pc := 182) (v := (0 : Int32)) C dX7_moves_182 (by decide) ?_
            obtain rfl := Option.some.inj hj22
            exact tt_locs [1, 2, 3, 0] rfl k23
          · refine tt_aload_n (pc := 166) (k := 1) C dX7_moves_166 rfl rfl ?_
            refine tt_get (pc := 167) (ws := (mC cy ad sc j5.2 la)) (ci := 7) (v := .ref (ad 28)) C fiX7 rfl 0 mC_obj 28 (by decide) q4_188 rfl dX7_moves_167 ?_
            refine tt_aload_n (pc := 170) (k := 1) C dX7_moves_170 rfl rfl ?_
            refine tt_get (pc := 171) (ws := (mC cy ad sc j5.2 la)) (ci := 7) (v := .ref (ad 27)) C fiX7 rfl 0 mC_obj 27 (by decide) q4_187 rfl dX7_moves_171 ?_
            refine tt_iload_n (pc := 174) (k := 3) C dX7_moves_174 rfl rfl ?_
            refine tt_iaload (pc := 175) (ws := (mC cy ad sc j5.2 la)) (n := 5) (f := (j5.2 27)) C 19 0 mC_get27 rfl hj22 dX7_moves_175 (fun hj22 => ?_)
            refine tt_iaload (pc := 176) (ws := (mC cy ad sc j5.2 la)) (n := 5) (f := (j5.2 28)) C 20 0 mC_get28 rfl hj22 dX7_moves_176 (fun hj22 => ?_)
            refine tt_iconst (pc := 177) (v := (1 : Int32)) C dX7_moves_177 (by decide) ?_
            refine tt_iadd (pc := 178) C dX7_moves_178 ?_
            refine tt_goto (pc := 179) (tgt := 183) C dX7_moves_179 (by decide) ?_
            obtain rfl := Option.some.inj hj22
            exact tt_locs [1, 2, 3, 0] rfl k23
        refine tr_if_lt (pc := 151) (tgt := 158) C dX7_moves_151 (by decide) (fun c20 => ?_) (fun c20 => ?_)
        · refine tt_iconst (pc := 158) (v := (0 : Int32)) C dX7_moves_158 (by decide) ?_
          try simp only [if_pos c20] at k21 ⊢
          exact tt_locs [1, 2, 0] rfl k21
        · refine tt_iconst (pc := 154) (v := (1 : Int32)) C dX7_moves_154 (by decide) ?_
          refine tt_goto (pc := 155) (tgt := 159) C dX7_moves_155 (by decide) ?_
          try simp only [if_neg c20] at k21 ⊢
          exact tt_locs [1, 2, 0] rfl k21
      refine tt_icmp_ne (pc := 78) (tgt := 147) C dX7_moves_78 (by decide) hj5 (fun hj5 => ?_) (fun hj5 => ?_)
      · obtain rfl := Option.some.inj hj5
        exact tt_locs [0, 1, 2] rfl k6
      · refine tt_aload_n (pc := 81) (k := 0) C dX7_moves_81 rfl rfl ?_
        obtain ⟨r7, hr7, hj5⟩ := bind_some hj5
        refine tt_callR (pc := 82) (ws := (mC cy ad sc t4 la)) (q0 := 0) (ci := 7) (rest := []) (st' := [.int r7]) C (k_X7_movedBy hr7) okX7_movedBy q5_211 rfl mC_obj (fun _ h => h) rfl rfl rfl (Nat.le_of_ble_eq_true rfl) ⟨Nat.le_of_ble_eq_true rfl, Nat.le_of_ble_eq_true rfl⟩ dX7_moves_82 ?_
        refine tt_istore (pc := 85) (L' := [(5, .int r7), (0, .ref (ad 0)), (1, .int v1), (2, .int x2_4)]) C dX7_moves_85 (by decide) rfl ?_
        refine tt_iload_n (pc := 87) (k := 2) C dX7_moves_87 rfl rfl ?_
        refine tt_bipush (pc := 88) (v := (-9 : Int32)) C dX7_moves_88 (by decide) ?_
        obtain ⟨j8, hj8, hj5⟩ := bind_some hj5
        have k9 : TT p l e { frames := 8, cells := 0, slots := 0, locals := 193 } s m args below meth c 7 D A false vO wO 147 [(0, .ref (ad 0)), (1, .int j8.1), (2, .int x2_4)] [] (mC cy ad sc j8.2 la) := by
          obtain rfl := Option.some.inj hj5
          exact tt_locs [0, 1, 2] rfl k6
        refine tt_icmp_eq (pc := 90) (tgt := 112) C dX7_moves_90 (by decide) hj8 (fun hj8 => ?_) (fun hj8 => ?_)
        · refine tt_iload (pc := 112) (k := 0) C dX7_moves_112 rfl ?_
          refine tt_istore_n (pc := 114) (L' := [(1, .int r7), (5, .int r7), (0, .ref (ad 0)), (2, .int x2_4)]) C dX7_moves_114 rfl (by decide) rfl ?_
          refine tt_iconst (pc := 115) (v := (0 : Int32)) C dX7_moves_115 (by decide) ?_
          refine tt_istore (pc := 116) (L' := [(6, .int (0 : Int32)), (1, .int r7), (5, .int r7), (0, .ref (ad 0)), (2, .int x2_4)]) C dX7_moves_116 (by decide) rfl ?_
          refine tt_locs (L' := [(0, .ref (ad 0)), (1, .int r7), (2, .int x2_4), (6, .int (0 : Int32))]) [3, 1, 4, 0] rfl (l_X7_moves_118 C (fun t10 hj8 => ?_) hj8)
          obtain rfl := Option.some.inj hj8
          exact tt_locs [0, 1, 2] rfl k9
        · refine tt_iload (pc := 93) (k := 0) C dX7_moves_93 rfl ?_
          refine tt_iload_n (pc := 95) (k := 2) C dX7_moves_95 rfl rfl ?_
          obtain ⟨j11, hj11, hj8⟩ := bind_some hj8
          have k12 : TT p l e { frames := 8, cells := 0, slots := 0, locals := 193 } s m args below meth c 7 D A false vO wO 147 [(0, .ref (ad 0)), (1, .int j11.1), (2, .int x2_4)] [] (mC cy ad sc j11.2 la) := by
            obtain rfl := Option.some.inj hj8
            exact tt_locs [0, 1, 2] rfl k9
          refine tt_icmp_lt (pc := 96) (tgt := 112) C dX7_moves_96 (by decide) hj11 (fun hj11 => ?_) (fun hj11 => ?_)
          · refine tt_iload (pc := 112) (k := 0) C dX7_moves_112 rfl ?_
            refine tt_istore_n (pc := 114) (L' := [(1, .int r7), (5, .int r7), (0, .ref (ad 0)), (2, .int x2_4)]) C dX7_moves_114 rfl (by decide) rfl ?_
            refine tt_iconst (pc := 115) (v := (0 : Int32)) C dX7_moves_115 (by decide) ?_
            refine tt_istore (pc := 116) (L' := [(6, .int (0 : Int32)), (1, .int r7), (5, .int r7), (0, .ref (ad 0)), (2, .int x2_4)]) C dX7_moves_116 (by decide) rfl ?_
            refine tt_locs (L' := [(0, .ref (ad 0)), (1, .int r7), (2, .int x2_4), (6, .int (0 : Int32))]) [3, 1, 4, 0] rfl (l_X7_moves_118 C (fun t13 hj11 => ?_) hj11)
            obtain rfl := Option.some.inj hj11
            exact tt_locs [0, 1, 2] rfl k12
          · refine tt_iload (pc := 99) (k := 0) C dX7_moves_99 rfl ?_
            refine tt_iload_n (pc := 101) (k := 2) C dX7_moves_101 rfl rfl ?_
            obtain ⟨j14, hj14, hj11⟩ := bind_some hj11
            have k15 : TT p l e { frames := 8, cells := 0, slots := 0, locals := 193 } s m args below meth c 7 D A false vO wO 147 [(0, .ref (ad 0)), (1, .int j14.1), (2, .int x2_4)] [] (mC cy ad sc j14.2 la) := by
              obtain rfl := Option.some.inj hj11
              exact tt_locs [0, 1, 2] rfl k12
            refine tt_icmp_ne (pc := 102) (tgt := 147) C dX7_moves_102 (by decide) hj14 (fun hj14 => ?_) (fun hj14 => ?_)
            · obtain rfl := Option.some.inj hj14
              exact tt_locs [1, 2, 3] rfl k15
            · refine tt_aload_n (pc := 105) (k := 1) C dX7_moves_105 rfl rfl ?_
              obtain ⟨r16, hr16, hj14⟩ := bind_some hj14
              refine tt_callR (pc := 106) (ws := (mC cy ad sc t4 la)) (q0 := 0) (ci := 7) (rest := []) (st' := [.int r16]) C (k_X7_isEarlier hr16) okX7_isEarlier q5_215 rfl mC_obj (fun _ h => h) rfl rfl rfl (Nat.le_of_ble_eq_true rfl) ⟨Nat.le_of_ble_eq_true rfl, Nat.le_of_ble_eq_true rfl⟩ dX7_moves_106 ?_
              obtain ⟨j17, hj17, hj14⟩ := bind_some hj14
              have k18 : TT p l e { frames := 8, cells := 0, slots := 0, locals := 193 } s m args below meth c 7 D A false vO wO 147 [(0, .ref (ad 0)), (1, .int j17.1), (2, .int x2_4)] [] (mC cy ad sc j17.2 la) := by
                obtain rfl := Option.some.inj hj14
                exact tt_locs [0, 1, 2] rfl k15
              refine tt_if_eq (pc := 109) (tgt := 147) C dX7_moves_109 (by decide) hj17 (fun hj17 => ?_) (fun hj17 => ?_)
              · obtain rfl := Option.some.inj hj17
                exact tt_locs [1, 2, 3] rfl k18
              · refine tt_iload (pc := 112) (k := 0) C dX7_moves_112 rfl ?_
                refine tt_istore_n (pc := 114) (L' := [(1, .int r7), (5, .int r7), (0, .ref (ad 0)), (2, .int x2_4)]) C dX7_moves_114 rfl (by decide) rfl ?_
                refine tt_iconst (pc := 115) (v := (0 : Int32)) C dX7_moves_115 (by decide) ?_
                refine tt_istore (pc := 116) (L' := [(6, .int (0 : Int32)), (1, .int r7), (5, .int r7), (0, .ref (ad 0)), (2, .int x2_4)]) C dX7_moves_116 (by decide) rfl ?_
                refine tt_locs (L' := [(0, .ref (ad 0)), (1, .int r7), (2, .int x2_4), (6, .int (0 : Int32))]) [3, 1, 4, 0] rfl (l_X7_moves_118 C (fun t19 hj17 => ?_) hj17)
                obtain rfl := Option.some.inj hj17
                exact tt_locs [0, 1, 2] rfl k18
set_option maxHeartbeats 4000000 in
set_option maxRecDepth 100000 in
theorem k_X7_moves {l : Launch} {D : va_G} {cy : Nat → ClassId} {Bd : Nat} {xa : Xa} {ad : Nat → Nat} {N : Nat} {sc : Nat → Int32} {ar : Nat → Nat → Int32} {la : Nat → Nat → Int64} {out : Int32 × (Nat → Nat → Int32)} (hf : f_X7_moves N sc ar = some out) : KC l yX7_moves cX7_moves 7 (some .int) 8 193 false D cy Bd xa [.ref (ad 0)] (mC cy ad sc ar la) (some (.int out.1)) (mC cy ad sc out.2 la) := by
  refine kc_start (own := RX7) (by decide +kernel) rfl (Nat.le_of_ble_eq_true rfl) ?_
  intro p e s m args below meth c A C
  unfold f_X7_moves at hf
  refine tt_locs (L' := [(0, .ref (ad 0))]) [0] rfl ?_
  refine tt_aload_n (pc := 0) (k := 0) C dX7_moves_0 rfl rfl ?_
  obtain ⟨r1, hr1, hf⟩ := bind_some hf
  refine tt_callM (pc := 1) (ws := (mC cy ad sc ar la)) (q0 := 0) (ci := 7) (rest := []) (st' := []) C rfl (k_X7_looksWhere hr1) okX7_looksWhere q5_199 rfl mC_obj rfl rfl rfl (Nat.le_of_ble_eq_true rfl) ⟨Nat.le_of_ble_eq_true rfl, Nat.le_of_ble_eq_true rfl⟩ dX7_moves_1 ?_
  refine tt_aload_n (pc := 4) (k := 0) C dX7_moves_4 rfl rfl ?_
  obtain ⟨r2, hr2, hf⟩ := bind_some hf
  refine tt_callM (pc := 5) (ws := (mC cy ad sc r1 la)) (q0 := 0) (ci := 7) (rest := []) (st' := []) C rfl (k_X7_lines hr2) okX7_lines q5_203 rfl mC_obj rfl rfl rfl (Nat.le_of_ble_eq_true rfl) ⟨Nat.le_of_ble_eq_true rfl, Nat.le_of_ble_eq_true rfl⟩ dX7_moves_5 ?_
  refine tt_bipush (pc := 8) (v := (-9 : Int32)) C dX7_moves_8 (by decide) ?_
  refine tt_istore_n (pc := 10) (L' := [(1, .int (-9 : Int32)), (0, .ref (ad 0))]) C dX7_moves_10 rfl (by decide) rfl ?_
  refine tt_iconst (pc := 11) (v := (0 : Int32)) C dX7_moves_11 (by decide) ?_
  refine tt_istore_n (pc := 12) (L' := [(2, .int (0 : Int32)), (1, .int (-9 : Int32)), (0, .ref (ad 0))]) C dX7_moves_12 rfl (by decide) rfl ?_
  refine tt_iconst (pc := 13) (v := (0 : Int32)) C dX7_moves_13 (by decide) ?_
  refine tt_istore_n (pc := 14) (L' := [(3, .int (0 : Int32)), (2, .int (0 : Int32)), (1, .int (-9 : Int32)), (0, .ref (ad 0))]) C dX7_moves_14 rfl (by decide) rfl ?_
  refine tt_iconst (pc := 15) (v := (1 : Int32)) C dX7_moves_15 (by decide) ?_
  refine tt_istore (pc := 16) (L' := [(4, .int (1 : Int32)), (3, .int (0 : Int32)), (2, .int (0 : Int32)), (1, .int (-9 : Int32)), (0, .ref (ad 0))]) C dX7_moves_16 (by decide) rfl ?_
  refine tt_locs (L' := [(0, .ref (ad 0)), (1, .int (-9 : Int32)), (2, .int (0 : Int32)), (3, .int (0 : Int32)), (4, .int (1 : Int32))]) [4, 3, 2, 1, 0] rfl (l_X7_moves_18 C (fun x1_24 t24 hf => ?_) hf)
  refine tt_iload_n (pc := 187) (k := 0) C dX7_moves_187 rfl rfl ?_
  obtain rfl := Option.some.inj hf
  exact tt_ireturn (pc := 188) C rfl rfl rfl dX7_moves_188
theorem dX7_moved_0 : decode cX7_moved 0 = .ok (.iload_n 1, 1) := by decide +kernel
theorem dX7_moved_1 : decode cX7_moved 1 = .ok (.iconst (-1), 1) := by decide +kernel
theorem dX7_moved_2 : decode cX7_moved 2 = .ok (.aload_n 0, 1) := by decide +kernel
theorem dX7_moved_3 : decode cX7_moved 3 = .ok (.getfield 109, 3) := by decide +kernel
theorem dX7_moved_6 : decode cX7_moved 6 = .ok (.iconst 1, 1) := by decide +kernel
theorem dX7_moved_7 : decode cX7_moved 7 = .ok (.isub, 1) := by decide +kernel
theorem dX7_moved_8 : decode cX7_moved 8 = .ok (.invokestatic 102, 3) := by decide +kernel
theorem dX7_moved_11 : decode cX7_moved 11 = .ok (.ifCond .ne 9, 3) := by decide +kernel
theorem dX7_moved_14 : decode cX7_moved 14 = .ok (.aload_n 0, 1) := by decide +kernel
theorem dX7_moved_15 : decode cX7_moved 15 = .ok (.iconst (-1), 1) := by decide +kernel
theorem dX7_moved_16 : decode cX7_moved 16 = .ok (.invokevirtual 98, 3) := by decide +kernel
theorem dX7_moved_19 : decode cX7_moved 19 = .ok (.ireturn, 1) := by decide +kernel
theorem dX7_moved_20 : decode cX7_moved 20 = .ok (.aload_n 0, 1) := by decide +kernel
theorem dX7_moved_21 : decode cX7_moved 21 = .ok (.invokevirtual 211, 3) := by decide +kernel
theorem dX7_moved_24 : decode cX7_moved 24 = .ok (.istore_n 2, 1) := by decide +kernel
theorem dX7_moved_25 : decode cX7_moved 25 = .ok (.iload_n 1, 1) := by decide +kernel
theorem dX7_moved_26 : decode cX7_moved 26 = .ok (.ifCond .lt 9, 3) := by decide +kernel
theorem dX7_moved_29 : decode cX7_moved 29 = .ok (.iload_n 2, 1) := by decide +kernel
theorem dX7_moved_30 : decode cX7_moved 30 = .ok (.bipush (-9), 2) := by decide +kernel
theorem dX7_moved_32 : decode cX7_moved 32 = .ok (.if_icmp .ne 7, 3) := by decide +kernel
theorem dX7_moved_35 : decode cX7_moved 35 = .ok (.iload_n 2, 1) := by decide +kernel
theorem dX7_moved_36 : decode cX7_moved 36 = .ok (.goto 9, 3) := by decide +kernel
theorem dX7_moved_39 : decode cX7_moved 39 = .ok (.aload_n 0, 1) := by decide +kernel
theorem dX7_moved_40 : decode cX7_moved 40 = .ok (.getfield 77, 3) := by decide +kernel
theorem dX7_moved_43 : decode cX7_moved 43 = .ok (.iload_n 1, 1) := by decide +kernel
theorem dX7_moved_44 : decode cX7_moved 44 = .ok (.iaload, 1) := by decide +kernel
theorem dX7_moved_45 : decode cX7_moved 45 = .ok (.ireturn, 1) := by decide +kernel
set_option maxHeartbeats 4000000 in
set_option maxRecDepth 100000 in
theorem k_X7_moved {l : Launch} {D : va_G} {cy : Nat → ClassId} {Bd : Nat} {xa : Xa} {ad : Nat → Nat} {N : Nat} {sc : Nat → Int32} {ar : Nat → Nat → Int32} {la : Nat → Nat → Int64} {a1 : Int32} {out : Int32 × (Nat → Nat → Int32)} (hf : f_X7_moved N sc ar a1 = some out) : KC l yX7_moved cX7_moved 3 (some .int) 9 219 false D cy Bd xa [.ref (ad 0), .int a1] (mC cy ad sc ar la) (some (.int out.1)) (mC cy ad sc out.2 la) := by
  refine kc_start (own := RX7) (by decide +kernel) rfl (Nat.le_of_ble_eq_true rfl) ?_
  intro p e s m args below meth c A C
  unfold f_X7_moved at hf
  refine tt_locs (L' := [(0, .ref (ad 0)), (1, .int a1)]) [0, 1] rfl ?_
  refine tt_iload_n (pc := 0) (k := 1) C dX7_moved_0 rfl rfl ?_
  refine tt_iconst (pc := 1) (v := (-1 : Int32)) C dX7_moved_1 (by decide) ?_
  refine tt_aload_n (pc := 2) (k := 0) C dX7_moved_2 rfl rfl ?_
  refine tt_get (pc := 3) (ws := (mC cy ad sc ar la)) (ci := 7) (v := .int (sc 6)) C fiX7 rfl 0 mC_obj 6 (by decide) q4_166 rfl dX7_moved_3 ?_
  refine tt_iconst (pc := 6) (v := (1 : Int32)) C dX7_moved_6 (by decide) ?_
  refine tt_isub (pc := 7) C dX7_moved_7 ?_
  obtain ⟨r1, hr1, hf⟩ := bind_some hf
  refine tt_callS (pc := 8) (ws := (mC cy ad sc ar la)) (rest := []) (st' := [.int r1]) C (k_X7_in hr1) okX7_in q5_52 (fun _ h => absurd h List.not_mem_nil) rfl rfl rfl (Nat.le_of_ble_eq_true rfl) ⟨Nat.le_of_ble_eq_true rfl, Nat.le_of_ble_eq_true rfl⟩ dX7_moved_8 ?_
  refine tt_if_ne (pc := 11) (tgt := 20) C dX7_moved_11 (by decide) hf (fun hf => ?_) (fun hf => ?_)
  · refine tt_aload_n (pc := 20) (k := 0) C dX7_moved_20 rfl rfl ?_
    obtain ⟨r2, hr2, hf⟩ := bind_some hf
    refine tt_callM (pc := 21) (ws := (mC cy ad sc ar la)) (q0 := 0) (ci := 7) (rest := []) (st' := [.int r2.1]) C rfl (k_X7_moves hr2) okX7_moves q5_195 rfl mC_obj rfl rfl rfl (Nat.le_of_ble_eq_true rfl) ⟨Nat.le_of_ble_eq_true rfl, Nat.le_of_ble_eq_true rfl⟩ dX7_moved_21 ?_
    refine tt_istore_n (pc := 24) (L' := [(2, .int r2.1), (0, .ref (ad 0)), (1, .int a1)]) C dX7_moved_24 rfl (by decide) rfl ?_
    refine tt_iload_n (pc := 25) (k := 2) C dX7_moved_25 rfl rfl ?_
    obtain ⟨j3, hj3, hf⟩ := bind_some hf
    have k4 : TT p l e { frames := 9, cells := 0, slots := 0, locals := 219 } s m args below meth c 3 D A false (some (.int out.1)) (mC cy ad sc out.2 la) 45 [] [.int j3] (mC cy ad sc r2.2 la) := by
      obtain rfl := Option.some.inj hf
      exact tt_ireturn (pc := 45) C rfl rfl rfl dX7_moved_45
    refine tt_if_lt (pc := 26) (tgt := 35) C dX7_moved_26 (by decide) hj3 (fun hj3 => ?_) (fun hj3 => ?_)
    · refine tt_iload_n (pc := 35) (k := 0) C dX7_moved_35 rfl rfl ?_
      refine tt_goto (pc := 36) (tgt := 45) C dX7_moved_36 (by decide) ?_
      obtain rfl := Option.some.inj hj3
      exact tt_locs [] rfl k4
    · refine tt_iload_n (pc := 29) (k := 0) C dX7_moved_29 rfl rfl ?_
      refine tt_bipush (pc := 30) (v := (-9 : Int32)) C dX7_moved_30 (by decide) ?_
      obtain ⟨j5, hj5, hj3⟩ := bind_some hj3
      have k6 : TT p l e { frames := 9, cells := 0, slots := 0, locals := 219 } s m args below meth c 3 D A false (some (.int out.1)) (mC cy ad sc out.2 la) 45 [] [.int j5] (mC cy ad sc r2.2 la) := by
        obtain rfl := Option.some.inj hj3
        exact tt_locs [] rfl k4
      refine tt_icmp_ne (pc := 32) (tgt := 39) C dX7_moved_32 (by decide) hj5 (fun hj5 => ?_) (fun hj5 => ?_)
      · refine tt_aload_n (pc := 39) (k := 1) C dX7_moved_39 rfl rfl ?_
        refine tt_get (pc := 40) (ws := (mC cy ad sc r2.2 la)) (ci := 7) (v := .ref (ad 29)) C fiX7 rfl 0 mC_obj 29 (by decide) q4_189 rfl dX7_moved_40 ?_
        refine tt_iload_n (pc := 43) (k := 2) C dX7_moved_43 rfl rfl ?_
        refine tt_iaload (pc := 44) (ws := (mC cy ad sc r2.2 la)) (n := 5) (f := (r2.2 29)) C 21 0 mC_get29 rfl hj5 dX7_moved_44 (fun hj5 => ?_)
        obtain rfl := Option.some.inj hj5
        exact tt_locs [] rfl k6
      · refine tt_iload_n (pc := 35) (k := 0) C dX7_moved_35 rfl rfl ?_
        refine tt_goto (pc := 36) (tgt := 45) C dX7_moved_36 (by decide) ?_
        obtain rfl := Option.some.inj hj5
        exact tt_locs [] rfl k6
  · refine tt_aload_n (pc := 14) (k := 0) C dX7_moved_14 rfl rfl ?_
    refine tt_iconst (pc := 15) (v := (-1 : Int32)) C dX7_moved_15 (by decide) ?_
    obtain ⟨r7, hr7, hf⟩ := bind_some hf
    refine tt_callM (pc := 16) (ws := (mC cy ad sc ar la)) (q0 := 0) (ci := 7) (rest := []) (st' := [.int r7.1]) C rfl (k_X7_no hr7) okX7_no q5_36 rfl mC_obj rfl rfl rfl (Nat.le_of_ble_eq_true rfl) ⟨Nat.le_of_ble_eq_true rfl, Nat.le_of_ble_eq_true rfl⟩ dX7_moved_16 ?_
    obtain rfl := Option.some.inj hf
    exact tt_ireturn (pc := 19) C rfl rfl rfl dX7_moved_19
theorem dX7_raised_0 : decode cX7_raised 0 = .ok (.aload_n 0, 1) := by decide +kernel
theorem dX7_raised_1 : decode cX7_raised 1 = .ok (.iload_n 1, 1) := by decide +kernel
theorem dX7_raised_2 : decode cX7_raised 2 = .ok (.invokevirtual 131, 3) := by decide +kernel
theorem dX7_raised_5 : decode cX7_raised 5 = .ok (.ifCond .ne 9, 3) := by decide +kernel
theorem dX7_raised_8 : decode cX7_raised 8 = .ok (.aload_n 0, 1) := by decide +kernel
theorem dX7_raised_9 : decode cX7_raised 9 = .ok (.iconst (-1), 1) := by decide +kernel
theorem dX7_raised_10 : decode cX7_raised 10 = .ok (.invokevirtual 98, 3) := by decide +kernel
theorem dX7_raised_13 : decode cX7_raised 13 = .ok (.ireturn, 1) := by decide +kernel
theorem dX7_raised_14 : decode cX7_raised 14 = .ok (.aload_n 0, 1) := by decide +kernel
theorem dX7_raised_15 : decode cX7_raised 15 = .ok (.getfield 29, 3) := by decide +kernel
theorem dX7_raised_18 : decode cX7_raised 18 = .ok (.iload_n 1, 1) := by decide +kernel
theorem dX7_raised_19 : decode cX7_raised 19 = .ok (.iaload, 1) := by decide +kernel
theorem dX7_raised_20 : decode cX7_raised 20 = .ok (.istore_n 2, 1) := by decide +kernel
theorem dX7_raised_21 : decode cX7_raised 21 = .ok (.bipush (-9), 2) := by decide +kernel
theorem dX7_raised_23 : decode cX7_raised 23 = .ok (.istore_n 3, 1) := by decide +kernel
theorem dX7_raised_24 : decode cX7_raised 24 = .ok (.bipush 15, 2) := by decide +kernel
theorem dX7_raised_26 : decode cX7_raised 26 = .ok (.istore 4, 2) := by decide +kernel
theorem dX7_raised_28 : decode cX7_raised 28 = .ok (.iload 4, 2) := by decide +kernel
theorem dX7_raised_30 : decode cX7_raised 30 = .ok (.ifCond .lt 32, 3) := by decide +kernel
theorem dX7_raised_33 : decode cX7_raised 33 = .ok (.aload_n 0, 1) := by decide +kernel
theorem dX7_raised_34 : decode cX7_raised 34 = .ok (.getfield 29, 3) := by decide +kernel
theorem dX7_raised_37 : decode cX7_raised 37 = .ok (.iload_n 1, 1) := by decide +kernel
theorem dX7_raised_38 : decode cX7_raised 38 = .ok (.iload 4, 2) := by decide +kernel
theorem dX7_raised_40 : decode cX7_raised 40 = .ok (.iastore, 1) := by decide +kernel
theorem dX7_raised_41 : decode cX7_raised 41 = .ok (.aload_n 0, 1) := by decide +kernel
theorem dX7_raised_42 : decode cX7_raised 42 = .ok (.iload_n 1, 1) := by decide +kernel
theorem dX7_raised_43 : decode cX7_raised 43 = .ok (.invokevirtual 185, 3) := by decide +kernel
theorem dX7_raised_46 : decode cX7_raised 46 = .ok (.ifCond .eq 8, 3) := by decide +kernel
theorem dX7_raised_49 : decode cX7_raised 49 = .ok (.iload 4, 2) := by decide +kernel
theorem dX7_raised_51 : decode cX7_raised 51 = .ok (.goto 4, 3) := by decide +kernel
theorem dX7_raised_54 : decode cX7_raised 54 = .ok (.iload_n 3, 1) := by decide +kernel
theorem dX7_raised_55 : decode cX7_raised 55 = .ok (.istore_n 3, 1) := by decide +kernel
theorem dX7_raised_56 : decode cX7_raised 56 = .ok (.iinc 4 (-1), 3) := by decide +kernel
theorem dX7_raised_59 : decode cX7_raised 59 = .ok (.goto (-31), 3) := by decide +kernel
theorem dX7_raised_62 : decode cX7_raised 62 = .ok (.aload_n 0, 1) := by decide +kernel
theorem dX7_raised_63 : decode cX7_raised 63 = .ok (.getfield 29, 3) := by decide +kernel
theorem dX7_raised_66 : decode cX7_raised 66 = .ok (.iload_n 1, 1) := by decide +kernel
theorem dX7_raised_67 : decode cX7_raised 67 = .ok (.iload_n 2, 1) := by decide +kernel
theorem dX7_raised_68 : decode cX7_raised 68 = .ok (.iastore, 1) := by decide +kernel
theorem dX7_raised_69 : decode cX7_raised 69 = .ok (.iload_n 3, 1) := by decide +kernel
theorem dX7_raised_70 : decode cX7_raised 70 = .ok (.ireturn, 1) := by decide +kernel
set_option maxHeartbeats 4000000 in
set_option maxRecDepth 100000 in
theorem l_X7_raised_28 {p : Program} {l : Launch} {e : Env} {s : State} {m : MethodId} {args : Array Value} {below : List Frame} {meth : Method} {c : Code} {D : va_G} {cy : Nat → ClassId} {A : Nat → Prop} {Bd : Nat} {xa : Xa} {ad : Nat → Nat} {β : Type} {vO : Option Value} {wO : va_W} {N : Nat} {sc : Nat → Int32} {la : Nat → Nat → Int64} {v1 : Int32} {v2 : Int32} {kx : Int32 → (Nat → Nat → Int32) → Option (β)} {out : β} (C : CC p s m args meth c cX7_raised RX7 5 (some .int) D cy A false Bd xa) (hk : ∀ (x3 : Int32) (ar1 : Nat → Nat → Int32), kx x3 ar1 = some out → TT p l e { frames := 7, cells := 0, slots := 0, locals := 170 } s m args below meth c 5 D A false vO wO 62 [(0, .ref (ad 0)), (1, .int v1), (2, .int v2), (3, .int x3)] [] (mC cy ad sc ar1 la)) {n : Nat} {v3 : Int32} {v4 : Int32} {ar : Nat → Nat → Int32} (hf : f_X7_raised_L28 N sc v1 v2 kx n v3 v4 ar = some out) : TT p l e { frames := 7, cells := 0, slots := 0, locals := 170 } s m args below meth c 5 D A false vO wO 28 [(0, .ref (ad 0)), (1, .int v1), (2, .int v2), (3, .int v3), (4, .int v4)] [] (mC cy ad sc ar la) := by
  induction n generalizing v3 v4 ar with
  | zero => cases hf
  | succ n ih =>
    rw [f_X7_raised_L28] at hf
    refine tt_iload (pc := 28) (k := 4) C dX7_raised_28 rfl ?_
    refine tt_if_lt (pc := 30) (tgt := 62) C dX7_raised_30 (by decide) hf (fun hf => ?_) (fun hf => ?_)
    · exact tt_locs [0, 1, 2, 3] rfl (hk _ _ hf)
    · refine tt_aload_n (pc := 33) (k := 0) C dX7_raised_33 rfl rfl ?_
      refine tt_get (pc := 34) (ws := (mC cy ad sc ar la)) (ci := 7) (v := .ref (ad 8)) C fiX7 rfl 0 mC_obj 8 (by decide) q4_168 rfl dX7_raised_34 ?_
      refine tt_iload_n (pc := 37) (k := 1) C dX7_raised_37 rfl rfl ?_
      refine tt_iload (pc := 38) (k := 4) C dX7_raised_38 rfl ?_
      refine tt_iastore (pc := 40) (ws := (mC cy ad sc ar la)) (n := 5) (f := (ar 8)) (ws' := (mC cy ad sc (va_up ar 8 (upd (ar 8) (ix v1) v4)) la)) C rfl 6 0 mC_get8 rfl hf dX7_raised_40 mC_set8 (fun hf => ?_)
      refine tt_aload_n (pc := 41) (k := 0) C dX7_raised_41 rfl rfl ?_
      refine tt_iload_n (pc := 42) (k := 1) C dX7_raised_42 rfl rfl ?_
      obtain ⟨r2, hr2, hf⟩ := bind_some hf
      refine tt_callR (pc := 43) (ws := (mC cy ad sc (va_up ar 8 (upd (ar 8) (ix v1) v4)) la)) (q0 := 0) (ci := 7) (rest := []) (st' := [.int r2]) C (k_X7_isKeptByAll hr2) okX7_isKeptByAll q5_183 rfl mC_obj (fun _ h => h) rfl rfl rfl (Nat.le_of_ble_eq_true rfl) ⟨Nat.le_of_ble_eq_true rfl, Nat.le_of_ble_eq_true rfl⟩ dX7_raised_43 ?_
      have k4 : TT p l e { frames := 7, cells := 0, slots := 0, locals := 170 } s m args below meth c 5 D A false vO wO 55 [(0, .ref (ad 0)), (1, .int v1), (2, .int v2), (4, .int v4)] [.int (if r2 = 0 then v3 else v4)] (mC cy ad sc (va_up ar 8 (upd (ar 8) (ix v1) v4)) la) := by
        refine tt_istore_n (pc := 55) (L' := [(3, .int (if r2 = 0 then v3 else v4)), (0, .ref (ad 0)), (1, .int v1), (2, .int v2), (4, .int v4)]) C dX7_raised_55 rfl (by decide) rfl ?_
        refine tt_iinc (pc := 56) (k := 4) (v := (v4 + (-1))) (L' := [(4, .int (v4 + (-1))), (3, .int (if r2 = 0 then v3 else v4)), (0, .ref (ad 0)), (1, .int v1), (2, .int v2)]) C dX7_raised_56 rfl rfl (by decide) rfl ?_
        refine tt_goto (pc := 59) (tgt := 28) C dX7_raised_59 (by decide) ?_
        exact tt_locs [2, 3, 4, 1, 0] rfl (ih hf)
      refine tr_if_eq (pc := 46) (tgt := 54) C dX7_raised_46 (by decide) (fun c3 => ?_) (fun c3 => ?_)
      · refine tt_iload_n (pc := 54) (k := 3) C dX7_raised_54 rfl rfl ?_
        try simp only [if_pos c3] at k4 ⊢
        exact tt_locs [0, 1, 2, 4] rfl k4
      · refine tt_iload (pc := 49) (k := 4) C dX7_raised_49 rfl ?_
        refine tt_goto (pc := 51) (tgt := 55) C dX7_raised_51 (by decide) ?_
        try simp only [if_neg c3] at k4 ⊢
        exact tt_locs [0, 1, 2, 4] rfl k4
set_option maxHeartbeats 4000000 in
set_option maxRecDepth 100000 in
theorem k_X7_raised {l : Launch} {D : va_G} {cy : Nat → ClassId} {Bd : Nat} {xa : Xa} {ad : Nat → Nat} {N : Nat} {sc : Nat → Int32} {ar : Nat → Nat → Int32} {la : Nat → Nat → Int64} {a1 : Int32} {out : Int32 × (Nat → Nat → Int32)} (hf : f_X7_raised N sc ar a1 = some out) : KC l yX7_raised cX7_raised 5 (some .int) 7 170 false D cy Bd xa [.ref (ad 0), .int a1] (mC cy ad sc ar la) (some (.int out.1)) (mC cy ad sc out.2 la) := by
  refine kc_start (own := RX7) (by decide +kernel) rfl (Nat.le_of_ble_eq_true rfl) ?_
  intro p e s m args below meth c A C
  unfold f_X7_raised at hf
  refine tt_locs (L' := [(0, .ref (ad 0)), (1, .int a1)]) [0, 1] rfl ?_
  refine tt_aload_n (pc := 0) (k := 0) C dX7_raised_0 rfl rfl ?_
  refine tt_iload_n (pc := 1) (k := 1) C dX7_raised_1 rfl rfl ?_
  obtain ⟨r1, hr1, hf⟩ := bind_some hf
  refine tt_callR (pc := 2) (ws := (mC cy ad sc ar la)) (q0 := 0) (ci := 7) (rest := []) (st' := [.int r1]) C (k_X7_isPost hr1) okX7_isPost q5_79 rfl mC_obj (fun _ h => h) rfl rfl rfl (Nat.le_of_ble_eq_true rfl) ⟨Nat.le_of_ble_eq_true rfl, Nat.le_of_ble_eq_true rfl⟩ dX7_raised_2 ?_
  refine tt_if_ne (pc := 5) (tgt := 14) C dX7_raised_5 (by decide) hf (fun hf => ?_) (fun hf => ?_)
  · refine tt_aload_n (pc := 14) (k := 0) C dX7_raised_14 rfl rfl ?_
    refine tt_get (pc := 15) (ws := (mC cy ad sc ar la)) (ci := 7) (v := .ref (ad 8)) C fiX7 rfl 0 mC_obj 8 (by decide) q4_168 rfl dX7_raised_15 ?_
    refine tt_iload_n (pc := 18) (k := 1) C dX7_raised_18 rfl rfl ?_
    refine tt_iaload (pc := 19) (ws := (mC cy ad sc ar la)) (n := 5) (f := (ar 8)) C 6 0 mC_get8 rfl hf dX7_raised_19 (fun hf => ?_)
    refine tt_istore_n (pc := 20) (L' := [(2, .int ((ar 8) (ix a1))), (0, .ref (ad 0)), (1, .int a1)]) C dX7_raised_20 rfl (by decide) rfl ?_
    refine tt_bipush (pc := 21) (v := (-9 : Int32)) C dX7_raised_21 (by decide) ?_
    refine tt_istore_n (pc := 23) (L' := [(3, .int (-9 : Int32)), (2, .int ((ar 8) (ix a1))), (0, .ref (ad 0)), (1, .int a1)]) C dX7_raised_23 rfl (by decide) rfl ?_
    refine tt_bipush (pc := 24) (v := (15 : Int32)) C dX7_raised_24 (by decide) ?_
    refine tt_istore (pc := 26) (L' := [(4, .int (15 : Int32)), (3, .int (-9 : Int32)), (2, .int ((ar 8) (ix a1))), (0, .ref (ad 0)), (1, .int a1)]) C dX7_raised_26 (by decide) rfl ?_
    refine tt_locs (L' := [(0, .ref (ad 0)), (1, .int a1), (2, .int ((ar 8) (ix a1))), (3, .int (-9 : Int32)), (4, .int (15 : Int32))]) [3, 4, 2, 1, 0] rfl (l_X7_raised_28 C (fun x3_5 t5 hf => ?_) hf)
    refine tt_aload_n (pc := 62) (k := 0) C dX7_raised_62 rfl rfl ?_
    refine tt_get (pc := 63) (ws := (mC cy ad sc t5 la)) (ci := 7) (v := .ref (ad 8)) C fiX7 rfl 0 mC_obj 8 (by decide) q4_168 rfl dX7_raised_63 ?_
    refine tt_iload_n (pc := 66) (k := 1) C dX7_raised_66 rfl rfl ?_
    refine tt_iload_n (pc := 67) (k := 2) C dX7_raised_67 rfl rfl ?_
    refine tt_iastore (pc := 68) (ws := (mC cy ad sc t5 la)) (n := 5) (f := (t5 8)) (ws' := (mC cy ad sc (va_up t5 8 (upd (t5 8) (ix a1) ((ar 8) (ix a1)))) la)) C rfl 6 0 mC_get8 rfl hf dX7_raised_68 mC_set8 (fun hf => ?_)
    refine tt_iload_n (pc := 69) (k := 3) C dX7_raised_69 rfl rfl ?_
    obtain rfl := Option.some.inj hf
    exact tt_ireturn (pc := 70) C rfl rfl rfl dX7_raised_70
  · refine tt_aload_n (pc := 8) (k := 0) C dX7_raised_8 rfl rfl ?_
    refine tt_iconst (pc := 9) (v := (-1 : Int32)) C dX7_raised_9 (by decide) ?_
    obtain ⟨r6, hr6, hf⟩ := bind_some hf
    refine tt_callM (pc := 10) (ws := (mC cy ad sc ar la)) (q0 := 0) (ci := 7) (rest := []) (st' := [.int r6.1]) C rfl (k_X7_no hr6) okX7_no q5_36 rfl mC_obj rfl rfl rfl (Nat.le_of_ble_eq_true rfl) ⟨Nat.le_of_ble_eq_true rfl, Nat.le_of_ble_eq_true rfl⟩ dX7_raised_10 ?_
    obtain rfl := Option.some.inj hf
    exact tt_ireturn (pc := 13) C rfl rfl rfl dX7_raised_13
theorem dX7_keptMany_0 : decode cX7_keptMany 0 = .ok (.iconst 0, 1) := by decide +kernel
theorem dX7_keptMany_1 : decode cX7_keptMany 1 = .ok (.istore_n 1, 1) := by decide +kernel
theorem dX7_keptMany_2 : decode cX7_keptMany 2 = .ok (.iconst 0, 1) := by decide +kernel
theorem dX7_keptMany_3 : decode cX7_keptMany 3 = .ok (.istore_n 2, 1) := by decide +kernel
theorem dX7_keptMany_4 : decode cX7_keptMany 4 = .ok (.iload_n 2, 1) := by decide +kernel
theorem dX7_keptMany_5 : decode cX7_keptMany 5 = .ok (.aload_n 0, 1) := by decide +kernel
theorem dX7_keptMany_6 : decode cX7_keptMany 6 = .ok (.getfield 109, 3) := by decide +kernel
theorem dX7_keptMany_9 : decode cX7_keptMany 9 = .ok (.if_icmp .ge 42, 3) := by decide +kernel
theorem dX7_keptMany_12 : decode cX7_keptMany 12 = .ok (.iconst 0, 1) := by decide +kernel
theorem dX7_keptMany_13 : decode cX7_keptMany 13 = .ok (.istore_n 3, 1) := by decide +kernel
theorem dX7_keptMany_14 : decode cX7_keptMany 14 = .ok (.iload_n 3, 1) := by decide +kernel
theorem dX7_keptMany_15 : decode cX7_keptMany 15 = .ok (.aload_n 0, 1) := by decide +kernel
theorem dX7_keptMany_16 : decode cX7_keptMany 16 = .ok (.getfield 112, 3) := by decide +kernel
theorem dX7_keptMany_19 : decode cX7_keptMany 19 = .ok (.if_icmp .ge 26, 3) := by decide +kernel
theorem dX7_keptMany_22 : decode cX7_keptMany 22 = .ok (.iload_n 1, 1) := by decide +kernel
theorem dX7_keptMany_23 : decode cX7_keptMany 23 = .ok (.aload_n 0, 1) := by decide +kernel
theorem dX7_keptMany_24 : decode cX7_keptMany 24 = .ok (.iload_n 3, 1) := by decide +kernel
theorem dX7_keptMany_25 : decode cX7_keptMany 25 = .ok (.iload_n 2, 1) := by decide +kernel
theorem dX7_keptMany_26 : decode cX7_keptMany 26 = .ok (.invokevirtual 182, 3) := by decide +kernel
theorem dX7_keptMany_29 : decode cX7_keptMany 29 = .ok (.ifCond .eq 7, 3) := by decide +kernel
theorem dX7_keptMany_32 : decode cX7_keptMany 32 = .ok (.iconst 1, 1) := by decide +kernel
theorem dX7_keptMany_33 : decode cX7_keptMany 33 = .ok (.goto 4, 3) := by decide +kernel
theorem dX7_keptMany_36 : decode cX7_keptMany 36 = .ok (.iconst 0, 1) := by decide +kernel
theorem dX7_keptMany_37 : decode cX7_keptMany 37 = .ok (.iadd, 1) := by decide +kernel
theorem dX7_keptMany_38 : decode cX7_keptMany 38 = .ok (.istore_n 1, 1) := by decide +kernel
theorem dX7_keptMany_39 : decode cX7_keptMany 39 = .ok (.iinc 3 1, 3) := by decide +kernel
theorem dX7_keptMany_42 : decode cX7_keptMany 42 = .ok (.goto (-28), 3) := by decide +kernel
theorem dX7_keptMany_45 : decode cX7_keptMany 45 = .ok (.iinc 2 1, 3) := by decide +kernel
theorem dX7_keptMany_48 : decode cX7_keptMany 48 = .ok (.goto (-44), 3) := by decide +kernel
theorem dX7_keptMany_51 : decode cX7_keptMany 51 = .ok (.iload_n 1, 1) := by decide +kernel
theorem dX7_keptMany_52 : decode cX7_keptMany 52 = .ok (.ireturn, 1) := by decide +kernel
set_option maxHeartbeats 4000000 in
set_option maxRecDepth 100000 in
theorem l_X7_keptMany_14 {p : Program} {l : Launch} {e : Env} {s : State} {m : MethodId} {args : Array Value} {below : List Frame} {meth : Method} {c : Code} {D : va_G} {cy : Nat → ClassId} {A : Nat → Prop} {Bd : Nat} {xa : Xa} {ad : Nat → Nat} {β : Type} {vO : Option Value} {wO : va_W} {N : Nat} {sc : Nat → Int32} {ar : Nat → Nat → Int32} {la : Nat → Nat → Int64} {v2 : Int32} {kx : Int32 → Option (β)} {out : β} (C : CC p s m args meth c cX7_keptMany RX7 4 (some .int) D cy A true Bd xa) (hk : ∀ (x1 : Int32), kx x1 = some out → TT p l e { frames := 6, cells := 0, slots := 0, locals := 148 } s m args below meth c 4 D A true vO wO 45 [(0, .ref (ad 0)), (1, .int x1), (2, .int v2)] [] (mC cy ad sc ar la)) {n : Nat} {v1 : Int32} {v3 : Int32} (hf : f_X7_keptMany_L14 N sc ar v2 kx n v1 v3 = some out) : TT p l e { frames := 6, cells := 0, slots := 0, locals := 148 } s m args below meth c 4 D A true vO wO 14 [(0, .ref (ad 0)), (1, .int v1), (2, .int v2), (3, .int v3)] [] (mC cy ad sc ar la) := by
  induction n generalizing v1 v3 with
  | zero => cases hf
  | succ n ih =>
    rw [f_X7_keptMany_L14] at hf
    refine tt_iload_n (pc := 14) (k := 3) C dX7_keptMany_14 rfl rfl ?_
    refine tt_aload_n (pc := 15) (k := 0) C dX7_keptMany_15 rfl rfl ?_
    refine tt_get (pc := 16) (ws := (mC cy ad sc ar la)) (ci := 7) (v := .int (sc 9)) C fiX7 rfl 0 mC_obj 9 (by decide) q4_169 rfl dX7_keptMany_16 ?_
    refine tt_icmp_ge (pc := 19) (tgt := 45) C dX7_keptMany_19 (by decide) hf (fun hf => ?_) (fun hf => ?_)
    · exact tt_locs [0, 1, 2] rfl (hk _ hf)
    · refine tt_iload_n (pc := 22) (k := 1) C dX7_keptMany_22 rfl rfl ?_
      refine tt_aload_n (pc := 23) (k := 0) C dX7_keptMany_23 rfl rfl ?_
      refine tt_iload_n (pc := 24) (k := 3) C dX7_keptMany_24 rfl rfl ?_
      refine tt_iload_n (pc := 25) (k := 2) C dX7_keptMany_25 rfl rfl ?_
      obtain ⟨r1, hr1, hf⟩ := bind_some hf
      refine tt_callR (pc := 26) (ws := (mC cy ad sc ar la)) (q0 := 0) (ci := 7) (rest := [.int v1]) (st' := [.int r1, .int v1]) C (k_X7_isKept hr1) okX7_isKept q5_187 rfl mC_obj (fun _ h => h) rfl rfl rfl (Nat.le_of_ble_eq_true rfl) ⟨Nat.le_of_ble_eq_true rfl, Nat.le_of_ble_eq_true rfl⟩ dX7_keptMany_26 ?_
      have k3 : TT p l e { frames := 6, cells := 0, slots := 0, locals := 148 } s m args below meth c 4 D A true vO wO 37 [(0, .ref (ad 0)), (2, .int v2), (3, .int v3)] [.int (if r1 = 0 then (0 : Int32) else (1 : Int32)), .int v1] (mC cy ad sc ar la) := by
        refine tt_iadd (pc := 37) C dX7_keptMany_37 ?_
        refine tt_istore_n (pc := 38) (L' := [(1, .int (v1 + (if r1 = 0 then (0 : Int32) else (1 : Int32)))), (0, .ref (ad 0)), (2, .int v2), (3, .int v3)]) C dX7_keptMany_38 rfl (by decide) rfl ?_
        refine tt_iinc (pc := 39) (k := 3) (v := (v3 + 1)) (L' := [(3, .int (v3 + 1)), (1, .int (v1 + (if r1 = 0 then (0 : Int32) else (1 : Int32)))), (0, .ref (ad 0)), (2, .int v2)]) C dX7_keptMany_39 rfl rfl (by decide) rfl ?_
        refine tt_goto (pc := 42) (tgt := 14) C dX7_keptMany_42 (by decide) ?_
        exact tt_locs [2, 1, 3, 0] rfl (ih hf)
      refine tr_if_eq (pc := 29) (tgt := 36) C dX7_keptMany_29 (by decide) (fun c2 => ?_) (fun c2 => ?_)
      · refine tt_iconst (pc := 36) (v := (0 : Int32)) C dX7_keptMany_36 (by decide) ?_
        try simp only [if_pos c2] at k3 ⊢
        exact tt_locs [0, 2, 3] rfl k3
      · refine tt_iconst (pc := 32) (v := (1 : Int32)) C dX7_keptMany_32 (by decide) ?_
        refine tt_goto (pc := 33) (tgt := 37) C dX7_keptMany_33 (by decide) ?_
        try simp only [if_neg c2] at k3 ⊢
        exact tt_locs [0, 2, 3] rfl k3
set_option maxHeartbeats 4000000 in
set_option maxRecDepth 100000 in
theorem l_X7_keptMany_4 {p : Program} {l : Launch} {e : Env} {s : State} {m : MethodId} {args : Array Value} {below : List Frame} {meth : Method} {c : Code} {D : va_G} {cy : Nat → ClassId} {A : Nat → Prop} {Bd : Nat} {xa : Xa} {ad : Nat → Nat} {β : Type} {vO : Option Value} {wO : va_W} {N : Nat} {sc : Nat → Int32} {ar : Nat → Nat → Int32} {la : Nat → Nat → Int64} {kx : Int32 → Option (β)} {out : β} (C : CC p s m args meth c cX7_keptMany RX7 4 (some .int) D cy A true Bd xa) (hk : ∀ (x1 : Int32), kx x1 = some out → TT p l e { frames := 6, cells := 0, slots := 0, locals := 148 } s m args below meth c 4 D A true vO wO 51 [(1, .int x1)] [] (mC cy ad sc ar la)) {n : Nat} {v1 : Int32} {v2 : Int32} (hf : f_X7_keptMany_L4 N sc ar kx n v1 v2 = some out) : TT p l e { frames := 6, cells := 0, slots := 0, locals := 148 } s m args below meth c 4 D A true vO wO 4 [(0, .ref (ad 0)), (1, .int v1), (2, .int v2)] [] (mC cy ad sc ar la) := by
  induction n generalizing v1 v2 with
  | zero => cases hf
  | succ n ih =>
    rw [f_X7_keptMany_L4] at hf
    refine tt_iload_n (pc := 4) (k := 2) C dX7_keptMany_4 rfl rfl ?_
    refine tt_aload_n (pc := 5) (k := 0) C dX7_keptMany_5 rfl rfl ?_
    refine tt_get (pc := 6) (ws := (mC cy ad sc ar la)) (ci := 7) (v := .int (sc 6)) C fiX7 rfl 0 mC_obj 6 (by decide) q4_166 rfl dX7_keptMany_6 ?_
    refine tt_icmp_ge (pc := 9) (tgt := 51) C dX7_keptMany_9 (by decide) hf (fun hf => ?_) (fun hf => ?_)
    · exact tt_locs [1] rfl (hk _ hf)
    · refine tt_iconst (pc := 12) (v := (0 : Int32)) C dX7_keptMany_12 (by decide) ?_
      refine tt_istore_n (pc := 13) (L' := [(3, .int (0 : Int32)), (0, .ref (ad 0)), (1, .int v1), (2, .int v2)]) C dX7_keptMany_13 rfl (by decide) rfl ?_
      refine tt_locs (L' := [(0, .ref (ad 0)), (1, .int v1), (2, .int v2), (3, .int (0 : Int32))]) [1, 2, 3, 0] rfl (l_X7_keptMany_14 C (fun x1_4 hf => ?_) hf)
      refine tt_iinc (pc := 45) (k := 2) (v := (v2 + 1)) (L' := [(2, .int (v2 + 1)), (0, .ref (ad 0)), (1, .int x1_4)]) C dX7_keptMany_45 rfl rfl (by decide) rfl ?_
      refine tt_goto (pc := 48) (tgt := 4) C dX7_keptMany_48 (by decide) ?_
      exact tt_locs [1, 2, 0] rfl (ih hf)
set_option maxHeartbeats 4000000 in
set_option maxRecDepth 100000 in
theorem k_X7_keptMany {l : Launch} {D : va_G} {cy : Nat → ClassId} {Bd : Nat} {xa : Xa} {ad : Nat → Nat} {N : Nat} {sc : Nat → Int32} {ar : Nat → Nat → Int32} {la : Nat → Nat → Int64} {out : Int32} (hf : f_X7_keptMany N sc ar = some out) : KC l yX7_keptMany cX7_keptMany 4 (some .int) 6 148 true D cy Bd xa [.ref (ad 0)] (mC cy ad sc ar la) (some (.int out)) (mC cy ad sc ar la) := by
  refine kc_start (own := RX7) (by decide +kernel) rfl (Nat.le_of_ble_eq_true rfl) ?_
  intro p e s m args below meth c A C
  unfold f_X7_keptMany at hf
  refine tt_locs (L' := [(0, .ref (ad 0))]) [0] rfl ?_
  refine tt_iconst (pc := 0) (v := (0 : Int32)) C dX7_keptMany_0 (by decide) ?_
  refine tt_istore_n (pc := 1) (L' := [(1, .int (0 : Int32)), (0, .ref (ad 0))]) C dX7_keptMany_1 rfl (by decide) rfl ?_
  refine tt_iconst (pc := 2) (v := (0 : Int32)) C dX7_keptMany_2 (by decide) ?_
  refine tt_istore_n (pc := 3) (L' := [(2, .int (0 : Int32)), (1, .int (0 : Int32)), (0, .ref (ad 0))]) C dX7_keptMany_3 rfl (by decide) rfl ?_
  refine tt_locs (L' := [(0, .ref (ad 0)), (1, .int (0 : Int32)), (2, .int (0 : Int32))]) [2, 1, 0] rfl (l_X7_keptMany_4 C (fun x1_4 hf => ?_) hf)
  refine tt_iload_n (pc := 51) (k := 0) C dX7_keptMany_51 rfl rfl ?_
  obtain rfl := Option.some.inj hf
  exact tt_ireturn (pc := 52) C rfl rfl rfl dX7_keptMany_52
theorem dX7_keeps_0 : decode cX7_keeps 0 = .ok (.iconst 0, 1) := by decide +kernel
theorem dX7_keeps_1 : decode cX7_keeps 1 = .ok (.istore_n 2, 1) := by decide +kernel
theorem dX7_keeps_2 : decode cX7_keeps 2 = .ok (.iload_n 2, 1) := by decide +kernel
theorem dX7_keeps_3 : decode cX7_keeps 3 = .ok (.bipush 24, 2) := by decide +kernel
theorem dX7_keeps_5 : decode cX7_keeps 5 = .ok (.if_icmp .ge 18, 3) := by decide +kernel
theorem dX7_keeps_8 : decode cX7_keeps 8 = .ok (.aload_n 1, 1) := by decide +kernel
theorem dX7_keeps_9 : decode cX7_keeps 9 = .ok (.iload_n 2, 1) := by decide +kernel
theorem dX7_keeps_10 : decode cX7_keeps 10 = .ok (.aload_n 0, 1) := by decide +kernel
theorem dX7_keeps_11 : decode cX7_keeps 11 = .ok (.getfield 13, 3) := by decide +kernel
theorem dX7_keeps_14 : decode cX7_keeps 14 = .ok (.iload_n 2, 1) := by decide +kernel
theorem dX7_keeps_15 : decode cX7_keeps 15 = .ok (.iaload, 1) := by decide +kernel
theorem dX7_keeps_16 : decode cX7_keeps 16 = .ok (.iastore, 1) := by decide +kernel
theorem dX7_keeps_17 : decode cX7_keeps 17 = .ok (.iinc 2 1, 3) := by decide +kernel
theorem dX7_keeps_20 : decode cX7_keeps 20 = .ok (.goto (-18), 3) := by decide +kernel
theorem dX7_keeps_23 : decode cX7_keeps 23 = .ok (.iconst 0, 1) := by decide +kernel
theorem dX7_keeps_24 : decode cX7_keeps 24 = .ok (.istore_n 2, 1) := by decide +kernel
theorem dX7_keeps_25 : decode cX7_keeps 25 = .ok (.iload_n 2, 1) := by decide +kernel
theorem dX7_keeps_26 : decode cX7_keeps 26 = .ok (.iconst 4, 1) := by decide +kernel
theorem dX7_keeps_27 : decode cX7_keeps 27 = .ok (.if_icmp .ge 93, 3) := by decide +kernel
theorem dX7_keeps_30 : decode cX7_keeps 30 = .ok (.aload_n 1, 1) := by decide +kernel
theorem dX7_keeps_31 : decode cX7_keeps 31 = .ok (.bipush 24, 2) := by decide +kernel
theorem dX7_keeps_33 : decode cX7_keeps 33 = .ok (.iload_n 2, 1) := by decide +kernel
theorem dX7_keeps_34 : decode cX7_keeps 34 = .ok (.iadd, 1) := by decide +kernel
theorem dX7_keeps_35 : decode cX7_keeps 35 = .ok (.aload_n 0, 1) := by decide +kernel
theorem dX7_keeps_36 : decode cX7_keeps 36 = .ok (.getfield 17, 3) := by decide +kernel
theorem dX7_keeps_39 : decode cX7_keeps 39 = .ok (.iload_n 2, 1) := by decide +kernel
theorem dX7_keeps_40 : decode cX7_keeps 40 = .ok (.iaload, 1) := by decide +kernel
theorem dX7_keeps_41 : decode cX7_keeps 41 = .ok (.iastore, 1) := by decide +kernel
theorem dX7_keeps_42 : decode cX7_keeps 42 = .ok (.aload_n 1, 1) := by decide +kernel
theorem dX7_keeps_43 : decode cX7_keeps 43 = .ok (.bipush 28, 2) := by decide +kernel
theorem dX7_keeps_45 : decode cX7_keeps 45 = .ok (.iload_n 2, 1) := by decide +kernel
theorem dX7_keeps_46 : decode cX7_keeps 46 = .ok (.iadd, 1) := by decide +kernel
theorem dX7_keeps_47 : decode cX7_keeps 47 = .ok (.aload_n 0, 1) := by decide +kernel
theorem dX7_keeps_48 : decode cX7_keeps 48 = .ok (.getfield 20, 3) := by decide +kernel
theorem dX7_keeps_51 : decode cX7_keeps 51 = .ok (.iload_n 2, 1) := by decide +kernel
theorem dX7_keeps_52 : decode cX7_keeps 52 = .ok (.iaload, 1) := by decide +kernel
theorem dX7_keeps_53 : decode cX7_keeps 53 = .ok (.iastore, 1) := by decide +kernel
theorem dX7_keeps_54 : decode cX7_keeps 54 = .ok (.aload_n 1, 1) := by decide +kernel
theorem dX7_keeps_55 : decode cX7_keeps 55 = .ok (.bipush 32, 2) := by decide +kernel
theorem dX7_keeps_57 : decode cX7_keeps 57 = .ok (.iload_n 2, 1) := by decide +kernel
theorem dX7_keeps_58 : decode cX7_keeps 58 = .ok (.iadd, 1) := by decide +kernel
theorem dX7_keeps_59 : decode cX7_keeps 59 = .ok (.aload_n 0, 1) := by decide +kernel
theorem dX7_keeps_60 : decode cX7_keeps 60 = .ok (.getfield 23, 3) := by decide +kernel
theorem dX7_keeps_63 : decode cX7_keeps 63 = .ok (.iload_n 2, 1) := by decide +kernel
theorem dX7_keeps_64 : decode cX7_keeps 64 = .ok (.iaload, 1) := by decide +kernel
theorem dX7_keeps_65 : decode cX7_keeps 65 = .ok (.iastore, 1) := by decide +kernel
theorem dX7_keeps_66 : decode cX7_keeps 66 = .ok (.aload_n 1, 1) := by decide +kernel
theorem dX7_keeps_67 : decode cX7_keeps 67 = .ok (.bipush 36, 2) := by decide +kernel
theorem dX7_keeps_69 : decode cX7_keeps 69 = .ok (.iload_n 2, 1) := by decide +kernel
theorem dX7_keeps_70 : decode cX7_keeps 70 = .ok (.iadd, 1) := by decide +kernel
theorem dX7_keeps_71 : decode cX7_keeps 71 = .ok (.aload_n 0, 1) := by decide +kernel
theorem dX7_keeps_72 : decode cX7_keeps 72 = .ok (.getfield 32, 3) := by decide +kernel
theorem dX7_keeps_75 : decode cX7_keeps 75 = .ok (.iload_n 2, 1) := by decide +kernel
theorem dX7_keeps_76 : decode cX7_keeps 76 = .ok (.iaload, 1) := by decide +kernel
theorem dX7_keeps_77 : decode cX7_keeps 77 = .ok (.iastore, 1) := by decide +kernel
theorem dX7_keeps_78 : decode cX7_keeps 78 = .ok (.aload_n 1, 1) := by decide +kernel
theorem dX7_keeps_79 : decode cX7_keeps 79 = .ok (.bipush 40, 2) := by decide +kernel
theorem dX7_keeps_81 : decode cX7_keeps 81 = .ok (.iload_n 2, 1) := by decide +kernel
theorem dX7_keeps_82 : decode cX7_keeps 82 = .ok (.iadd, 1) := by decide +kernel
theorem dX7_keeps_83 : decode cX7_keeps 83 = .ok (.aload_n 0, 1) := by decide +kernel
theorem dX7_keeps_84 : decode cX7_keeps 84 = .ok (.getfield 35, 3) := by decide +kernel
theorem dX7_keeps_87 : decode cX7_keeps 87 = .ok (.iload_n 2, 1) := by decide +kernel
theorem dX7_keeps_88 : decode cX7_keeps 88 = .ok (.iaload, 1) := by decide +kernel
theorem dX7_keeps_89 : decode cX7_keeps 89 = .ok (.iastore, 1) := by decide +kernel
theorem dX7_keeps_90 : decode cX7_keeps 90 = .ok (.aload_n 1, 1) := by decide +kernel
theorem dX7_keeps_91 : decode cX7_keeps 91 = .ok (.bipush 44, 2) := by decide +kernel
theorem dX7_keeps_93 : decode cX7_keeps 93 = .ok (.iload_n 2, 1) := by decide +kernel
theorem dX7_keeps_94 : decode cX7_keeps 94 = .ok (.iadd, 1) := by decide +kernel
theorem dX7_keeps_95 : decode cX7_keeps 95 = .ok (.aload_n 0, 1) := by decide +kernel
theorem dX7_keeps_96 : decode cX7_keeps 96 = .ok (.getfield 38, 3) := by decide +kernel
theorem dX7_keeps_99 : decode cX7_keeps 99 = .ok (.iload_n 2, 1) := by decide +kernel
theorem dX7_keeps_100 : decode cX7_keeps 100 = .ok (.iaload, 1) := by decide +kernel
theorem dX7_keeps_101 : decode cX7_keeps 101 = .ok (.iastore, 1) := by decide +kernel
theorem dX7_keeps_102 : decode cX7_keeps 102 = .ok (.aload_n 1, 1) := by decide +kernel
theorem dX7_keeps_103 : decode cX7_keeps 103 = .ok (.bipush 48, 2) := by decide +kernel
theorem dX7_keeps_105 : decode cX7_keeps 105 = .ok (.iload_n 2, 1) := by decide +kernel
theorem dX7_keeps_106 : decode cX7_keeps 106 = .ok (.iadd, 1) := by decide +kernel
theorem dX7_keeps_107 : decode cX7_keeps 107 = .ok (.aload_n 0, 1) := by decide +kernel
theorem dX7_keeps_108 : decode cX7_keeps 108 = .ok (.getfield 41, 3) := by decide +kernel
theorem dX7_keeps_111 : decode cX7_keeps 111 = .ok (.iload_n 2, 1) := by decide +kernel
theorem dX7_keeps_112 : decode cX7_keeps 112 = .ok (.iaload, 1) := by decide +kernel
theorem dX7_keeps_113 : decode cX7_keeps 113 = .ok (.iastore, 1) := by decide +kernel
theorem dX7_keeps_114 : decode cX7_keeps 114 = .ok (.iinc 2 1, 3) := by decide +kernel
theorem dX7_keeps_117 : decode cX7_keeps 117 = .ok (.goto (-92), 3) := by decide +kernel
theorem dX7_keeps_120 : decode cX7_keeps 120 = .ok (.iconst 0, 1) := by decide +kernel
theorem dX7_keeps_121 : decode cX7_keeps 121 = .ok (.istore_n 2, 1) := by decide +kernel
theorem dX7_keeps_122 : decode cX7_keeps 122 = .ok (.iload_n 2, 1) := by decide +kernel
theorem dX7_keeps_123 : decode cX7_keeps 123 = .ok (.iconst 5, 1) := by decide +kernel
theorem dX7_keeps_124 : decode cX7_keeps 124 = .ok (.if_icmp .ge 33, 3) := by decide +kernel
theorem dX7_keeps_127 : decode cX7_keeps 127 = .ok (.aload_n 1, 1) := by decide +kernel
theorem dX7_keeps_128 : decode cX7_keeps 128 = .ok (.bipush 52, 2) := by decide +kernel
theorem dX7_keeps_130 : decode cX7_keeps 130 = .ok (.iload_n 2, 1) := by decide +kernel
theorem dX7_keeps_131 : decode cX7_keeps 131 = .ok (.iadd, 1) := by decide +kernel
theorem dX7_keeps_132 : decode cX7_keeps 132 = .ok (.aload_n 0, 1) := by decide +kernel
theorem dX7_keeps_133 : decode cX7_keeps 133 = .ok (.getfield 26, 3) := by decide +kernel
theorem dX7_keeps_136 : decode cX7_keeps 136 = .ok (.iload_n 2, 1) := by decide +kernel
theorem dX7_keeps_137 : decode cX7_keeps 137 = .ok (.iaload, 1) := by decide +kernel
theorem dX7_keeps_138 : decode cX7_keeps 138 = .ok (.iastore, 1) := by decide +kernel
theorem dX7_keeps_139 : decode cX7_keeps 139 = .ok (.aload_n 1, 1) := by decide +kernel
theorem dX7_keeps_140 : decode cX7_keeps 140 = .ok (.bipush 57, 2) := by decide +kernel
theorem dX7_keeps_142 : decode cX7_keeps 142 = .ok (.iload_n 2, 1) := by decide +kernel
theorem dX7_keeps_143 : decode cX7_keeps 143 = .ok (.iadd, 1) := by decide +kernel
theorem dX7_keeps_144 : decode cX7_keeps 144 = .ok (.aload_n 0, 1) := by decide +kernel
theorem dX7_keeps_145 : decode cX7_keeps 145 = .ok (.getfield 29, 3) := by decide +kernel
theorem dX7_keeps_148 : decode cX7_keeps 148 = .ok (.iload_n 2, 1) := by decide +kernel
theorem dX7_keeps_149 : decode cX7_keeps 149 = .ok (.iaload, 1) := by decide +kernel
theorem dX7_keeps_150 : decode cX7_keeps 150 = .ok (.iastore, 1) := by decide +kernel
theorem dX7_keeps_151 : decode cX7_keeps 151 = .ok (.iinc 2 1, 3) := by decide +kernel
theorem dX7_keeps_154 : decode cX7_keeps 154 = .ok (.goto (-32), 3) := by decide +kernel
theorem dX7_keeps_157 : decode cX7_keeps 157 = .ok (.iconst 0, 1) := by decide +kernel
theorem dX7_keeps_158 : decode cX7_keeps 158 = .ok (.istore_n 2, 1) := by decide +kernel
theorem dX7_keeps_159 : decode cX7_keeps 159 = .ok (.iload_n 2, 1) := by decide +kernel
theorem dX7_keeps_160 : decode cX7_keeps 160 = .ok (.bipush 56, 2) := by decide +kernel
theorem dX7_keeps_162 : decode cX7_keeps 162 = .ok (.if_icmp .ge 21, 3) := by decide +kernel
theorem dX7_keeps_165 : decode cX7_keeps 165 = .ok (.aload_n 1, 1) := by decide +kernel
theorem dX7_keeps_166 : decode cX7_keeps 166 = .ok (.bipush 62, 2) := by decide +kernel
theorem dX7_keeps_168 : decode cX7_keeps 168 = .ok (.iload_n 2, 1) := by decide +kernel
theorem dX7_keeps_169 : decode cX7_keeps 169 = .ok (.iadd, 1) := by decide +kernel
theorem dX7_keeps_170 : decode cX7_keeps 170 = .ok (.aload_n 0, 1) := by decide +kernel
theorem dX7_keeps_171 : decode cX7_keeps 171 = .ok (.getfield 47, 3) := by decide +kernel
theorem dX7_keeps_174 : decode cX7_keeps 174 = .ok (.iload_n 2, 1) := by decide +kernel
theorem dX7_keeps_175 : decode cX7_keeps 175 = .ok (.iaload, 1) := by decide +kernel
theorem dX7_keeps_176 : decode cX7_keeps 176 = .ok (.iastore, 1) := by decide +kernel
theorem dX7_keeps_177 : decode cX7_keeps 177 = .ok (.iinc 2 1, 3) := by decide +kernel
theorem dX7_keeps_180 : decode cX7_keeps 180 = .ok (.goto (-21), 3) := by decide +kernel
theorem dX7_keeps_183 : decode cX7_keeps 183 = .ok (.iconst 0, 1) := by decide +kernel
theorem dX7_keeps_184 : decode cX7_keeps 184 = .ok (.istore_n 2, 1) := by decide +kernel
theorem dX7_keeps_185 : decode cX7_keeps 185 = .ok (.iload_n 2, 1) := by decide +kernel
theorem dX7_keeps_186 : decode cX7_keeps 186 = .ok (.bipush 8, 2) := by decide +kernel
theorem dX7_keeps_188 : decode cX7_keeps 188 = .ok (.if_icmp .ge 33, 3) := by decide +kernel
theorem dX7_keeps_191 : decode cX7_keeps 191 = .ok (.aload_n 1, 1) := by decide +kernel
theorem dX7_keeps_192 : decode cX7_keeps 192 = .ok (.bipush 118, 2) := by decide +kernel
theorem dX7_keeps_194 : decode cX7_keeps 194 = .ok (.iload_n 2, 1) := by decide +kernel
theorem dX7_keeps_195 : decode cX7_keeps 195 = .ok (.iadd, 1) := by decide +kernel
theorem dX7_keeps_196 : decode cX7_keeps 196 = .ok (.aload_n 0, 1) := by decide +kernel
theorem dX7_keeps_197 : decode cX7_keeps 197 = .ok (.getfield 50, 3) := by decide +kernel
theorem dX7_keeps_200 : decode cX7_keeps 200 = .ok (.iload_n 2, 1) := by decide +kernel
theorem dX7_keeps_201 : decode cX7_keeps 201 = .ok (.iaload, 1) := by decide +kernel
theorem dX7_keeps_202 : decode cX7_keeps 202 = .ok (.iastore, 1) := by decide +kernel
theorem dX7_keeps_203 : decode cX7_keeps 203 = .ok (.aload_n 1, 1) := by decide +kernel
theorem dX7_keeps_204 : decode cX7_keeps 204 = .ok (.bipush 126, 2) := by decide +kernel
theorem dX7_keeps_206 : decode cX7_keeps 206 = .ok (.iload_n 2, 1) := by decide +kernel
theorem dX7_keeps_207 : decode cX7_keeps 207 = .ok (.iadd, 1) := by decide +kernel
theorem dX7_keeps_208 : decode cX7_keeps 208 = .ok (.aload_n 0, 1) := by decide +kernel
theorem dX7_keeps_209 : decode cX7_keeps 209 = .ok (.getfield 53, 3) := by decide +kernel
theorem dX7_keeps_212 : decode cX7_keeps 212 = .ok (.iload_n 2, 1) := by decide +kernel
theorem dX7_keeps_213 : decode cX7_keeps 213 = .ok (.iaload, 1) := by decide +kernel
theorem dX7_keeps_214 : decode cX7_keeps 214 = .ok (.iastore, 1) := by decide +kernel
theorem dX7_keeps_215 : decode cX7_keeps 215 = .ok (.iinc 2 1, 3) := by decide +kernel
theorem dX7_keeps_218 : decode cX7_keeps 218 = .ok (.goto (-33), 3) := by decide +kernel
theorem dX7_keeps_221 : decode cX7_keeps 221 = .ok (.aload_n 1, 1) := by decide +kernel
theorem dX7_keeps_222 : decode cX7_keeps 222 = .ok (.sipush 134, 3) := by decide +kernel
theorem dX7_keeps_225 : decode cX7_keeps 225 = .ok (.aload_n 0, 1) := by decide +kernel
theorem dX7_keeps_226 : decode cX7_keeps 226 = .ok (.getfield 7, 3) := by decide +kernel
theorem dX7_keeps_229 : decode cX7_keeps 229 = .ok (.iastore, 1) := by decide +kernel
theorem dX7_keeps_230 : decode cX7_keeps 230 = .ok (.aload_n 1, 1) := by decide +kernel
theorem dX7_keeps_231 : decode cX7_keeps 231 = .ok (.sipush 135, 3) := by decide +kernel
theorem dX7_keeps_234 : decode cX7_keeps 234 = .ok (.aload_n 0, 1) := by decide +kernel
theorem dX7_keeps_235 : decode cX7_keeps 235 = .ok (.getfield 106, 3) := by decide +kernel
theorem dX7_keeps_238 : decode cX7_keeps 238 = .ok (.iastore, 1) := by decide +kernel
theorem dX7_keeps_239 : decode cX7_keeps 239 = .ok (.aload_n 1, 1) := by decide +kernel
theorem dX7_keeps_240 : decode cX7_keeps 240 = .ok (.sipush 136, 3) := by decide +kernel
theorem dX7_keeps_243 : decode cX7_keeps 243 = .ok (.aload_n 0, 1) := by decide +kernel
theorem dX7_keeps_244 : decode cX7_keeps 244 = .ok (.getfield 109, 3) := by decide +kernel
theorem dX7_keeps_247 : decode cX7_keeps 247 = .ok (.iastore, 1) := by decide +kernel
theorem dX7_keeps_248 : decode cX7_keeps 248 = .ok (.aload_n 1, 1) := by decide +kernel
theorem dX7_keeps_249 : decode cX7_keeps 249 = .ok (.sipush 137, 3) := by decide +kernel
theorem dX7_keeps_252 : decode cX7_keeps 252 = .ok (.aload_n 0, 1) := by decide +kernel
theorem dX7_keeps_253 : decode cX7_keeps 253 = .ok (.getfield 112, 3) := by decide +kernel
theorem dX7_keeps_256 : decode cX7_keeps 256 = .ok (.iastore, 1) := by decide +kernel
theorem dX7_keeps_257 : decode cX7_keeps 257 = .ok (.aload_n 1, 1) := by decide +kernel
theorem dX7_keeps_258 : decode cX7_keeps 258 = .ok (.sipush 138, 3) := by decide +kernel
theorem dX7_keeps_261 : decode cX7_keeps 261 = .ok (.aload_n 0, 1) := by decide +kernel
theorem dX7_keeps_262 : decode cX7_keeps 262 = .ok (.getfield 44, 3) := by decide +kernel
theorem dX7_keeps_265 : decode cX7_keeps 265 = .ok (.iastore, 1) := by decide +kernel
theorem dX7_keeps_266 : decode cX7_keeps 266 = .ok (.aload_n 1, 1) := by decide +kernel
theorem dX7_keeps_267 : decode cX7_keeps 267 = .ok (.sipush 139, 3) := by decide +kernel
theorem dX7_keeps_270 : decode cX7_keeps 270 = .ok (.aload_n 0, 1) := by decide +kernel
theorem dX7_keeps_271 : decode cX7_keeps 271 = .ok (.getfield 115, 3) := by decide +kernel
theorem dX7_keeps_274 : decode cX7_keeps 274 = .ok (.iastore, 1) := by decide +kernel
theorem dX7_keeps_275 : decode cX7_keeps 275 = .ok (.return_, 1) := by decide +kernel
set_option maxHeartbeats 4000000 in
set_option maxRecDepth 100000 in
theorem l_X7_keeps_23_2 {p : Program} {l : Launch} {e : Env} {s : State} {m : MethodId} {args : Array Value} {below : List Frame} {meth : Method} {c : Code} {D : va_G} {cy : Nat → ClassId} {A : Nat → Prop} {Bd : Nat} {xa : Xa} {ad : Nat → Nat} {β : Type} {vO : Option Value} {wO : va_W} {N : Nat} {sc : Nat → Int32} {la : Nat → Nat → Int64} {kx : (Nat → Nat → Int32) → Option (β)} {out : β} (C : CC p s m args meth c cX7_keeps RX7 3 none D cy A false Bd xa) (hk : ∀ (ar1 : Nat → Nat → Int32), kx ar1 = some out → TT p l e { frames := 0, cells := 0, slots := 0, locals := 0 } s m args below meth c 3 D A false vO wO 23 [(0, .ref (ad 0)), (1, .ref (ad 23))] [] (mC cy ad sc ar1 la)) {n : Nat} {v2 : Int32} {ar : Nat → Nat → Int32} (hf : f_X7_keeps_23_L2 N sc kx n v2 ar = some out) : TT p l e { frames := 0, cells := 0, slots := 0, locals := 0 } s m args below meth c 3 D A false vO wO 2 [(0, .ref (ad 0)), (1, .ref (ad 23)), (2, .int v2)] [] (mC cy ad sc ar la) := by
  induction n generalizing v2 ar with
  | zero => cases hf
  | succ n ih =>
    rw [f_X7_keeps_23_L2] at hf
    refine tt_iload_n (pc := 2) (k := 2) C dX7_keeps_2 rfl rfl ?_
    refine tt_bipush (pc := 3) (v := (24 : Int32)) C dX7_keeps_3 (by decide) ?_
    refine tt_icmp_ge (pc := 5) (tgt := 23) C dX7_keeps_5 (by decide) hf (fun hf => ?_) (fun hf => ?_)
    · exact tt_locs [0, 1] rfl (hk _ hf)
    · refine tt_aload_n (pc := 8) (k := 1) C dX7_keeps_8 rfl rfl ?_
      refine tt_iload_n (pc := 9) (k := 2) C dX7_keeps_9 rfl rfl ?_
      refine tt_aload_n (pc := 10) (k := 0) C dX7_keeps_10 rfl rfl ?_
      refine tt_get (pc := 11) (ws := (mC cy ad sc ar la)) (ci := 7) (v := .ref (ad 1)) C fiX7 rfl 0 mC_obj 1 (by decide) q4_161 rfl dX7_keeps_11 ?_
      refine tt_iload_n (pc := 14) (k := 2) C dX7_keeps_14 rfl rfl ?_
      refine tt_iaload (pc := 15) (ws := (mC cy ad sc ar la)) (n := 24) (f := (ar 1)) C 1 0 mC_get1 rfl hf dX7_keeps_15 (fun hf => ?_)
      refine tt_iastore (pc := 16) (ws := (mC cy ad sc ar la)) (n := 150) (f := (ar 23)) (ws' := (mC cy ad sc (va_up ar 23 (upd (ar 23) (ix v2) ((ar 1) (ix v2)))) la)) C rfl 17 0 mC_get23 rfl hf dX7_keeps_16 mC_set23 (fun hf => ?_)
      refine tt_iinc (pc := 17) (k := 2) (v := (v2 + 1)) (L' := [(2, .int (v2 + 1)), (0, .ref (ad 0)), (1, .ref (ad 23))]) C dX7_keeps_17 rfl rfl (by decide) rfl ?_
      refine tt_goto (pc := 20) (tgt := 2) C dX7_keeps_20 (by decide) ?_
      exact tt_locs [1, 2, 0] rfl (ih hf)
set_option maxHeartbeats 4000000 in
set_option maxRecDepth 100000 in
theorem l_X7_keeps_23_25 {p : Program} {l : Launch} {e : Env} {s : State} {m : MethodId} {args : Array Value} {below : List Frame} {meth : Method} {c : Code} {D : va_G} {cy : Nat → ClassId} {A : Nat → Prop} {Bd : Nat} {xa : Xa} {ad : Nat → Nat} {β : Type} {vO : Option Value} {wO : va_W} {N : Nat} {sc : Nat → Int32} {la : Nat → Nat → Int64} {kx : (Nat → Nat → Int32) → Option (β)} {out : β} (C : CC p s m args meth c cX7_keeps RX7 3 none D cy A false Bd xa) (hk : ∀ (ar1 : Nat → Nat → Int32), kx ar1 = some out → TT p l e { frames := 0, cells := 0, slots := 0, locals := 0 } s m args below meth c 3 D A false vO wO 120 [(0, .ref (ad 0)), (1, .ref (ad 23))] [] (mC cy ad sc ar1 la)) {n : Nat} {v2 : Int32} {ar : Nat → Nat → Int32} (hf : f_X7_keeps_23_L25 N sc kx n v2 ar = some out) : TT p l e { frames := 0, cells := 0, slots := 0, locals := 0 } s m args below meth c 3 D A false vO wO 25 [(0, .ref (ad 0)), (1, .ref (ad 23)), (2, .int v2)] [] (mC cy ad sc ar la) := by
  induction n generalizing v2 ar with
  | zero => cases hf
  | succ n ih =>
    rw [f_X7_keeps_23_L25] at hf
    refine tt_iload_n (pc := 25) (k := 2) C dX7_keeps_25 rfl rfl ?_
    refine tt_iconst (pc := 26) (v := (4 : Int32)) C dX7_keeps_26 (by decide) ?_
    refine tt_icmp_ge (pc := 27) (tgt := 120) C dX7_keeps_27 (by decide) hf (fun hf => ?_) (fun hf => ?_)
    · exact tt_locs [0, 1] rfl (hk _ hf)
    · refine tt_aload_n (pc := 30) (k := 1) C dX7_keeps_30 rfl rfl ?_
      refine tt_bipush (pc := 31) (v := (24 : Int32)) C dX7_keeps_31 (by decide) ?_
      refine tt_iload_n (pc := 33) (k := 2) C dX7_keeps_33 rfl rfl ?_
      refine tt_iadd (pc := 34) C dX7_keeps_34 ?_
      refine tt_aload_n (pc := 35) (k := 0) C dX7_keeps_35 rfl rfl ?_
      refine tt_get (pc := 36) (ws := (mC cy ad sc ar la)) (ci := 7) (v := .ref (ad 3)) C fiX7 rfl 0 mC_obj 3 (by decide) q4_163 rfl dX7_keeps_36 ?_
      refine tt_iload_n (pc := 39) (k := 2) C dX7_keeps_39 rfl rfl ?_
      refine tt_iaload (pc := 40) (ws := (mC cy ad sc ar la)) (n := 4) (f := (ar 3)) C 2 0 mC_get3 rfl hf dX7_keeps_40 (fun hf => ?_)
      refine tt_iastore (pc := 41) (ws := (mC cy ad sc ar la)) (n := 150) (f := (ar 23)) (ws' := (mC cy ad sc (va_up ar 23 (upd (ar 23) (ix ((24 : Int32) + v2)) ((ar 3) (ix v2)))) la)) C rfl 17 0 mC_get23 rfl hf dX7_keeps_41 mC_set23 (fun hf => ?_)
      refine tt_aload_n (pc := 42) (k := 1) C dX7_keeps_42 rfl rfl ?_
      refine tt_bipush (pc := 43) (v := (28 : Int32)) C dX7_keeps_43 (by decide) ?_
      refine tt_iload_n (pc := 45) (k := 2) C dX7_keeps_45 rfl rfl ?_
      refine tt_iadd (pc := 46) C dX7_keeps_46 ?_
      refine tt_aload_n (pc := 47) (k := 0) C dX7_keeps_47 rfl rfl ?_
      refine tt_get (pc := 48) (ws := (mC cy ad sc (va_up ar 23 (upd (ar 23) (ix ((24 : Int32) + v2)) ((ar 3) (ix v2)))) la)) (ci := 7) (v := .ref (ad 4)) C fiX7 rfl 0 mC_obj 4 (by decide) q4_164 rfl dX7_keeps_48 ?_
      refine tt_iload_n (pc := 51) (k := 2) C dX7_keeps_51 rfl rfl ?_
      refine tt_iaload (pc := 52) (ws := (mC cy ad sc (va_up ar 23 (upd (ar 23) (ix ((24 : Int32) + v2)) ((ar 3) (ix v2)))) la)) (n := 4) (f := (ar 4)) C 3 0 mC_get4 rfl hf dX7_keeps_52 (fun hf => ?_)
      refine tt_iastore (pc := 53) (ws := (mC cy ad sc (va_up ar 23 (upd (ar 23) (ix ((24 : Int32) + v2)) ((ar 3) (ix v2)))) la)) (n := 150) (f := (upd (ar 23) (ix ((24 : Int32) + v2)) ((ar 3) (ix v2)))) (ws' := (mC cy ad sc (va_up (va_up ar 23 (upd (ar 23) (ix ((24 : Int32) + v2)) ((ar 3) (ix v2)))) 23 (upd (upd (ar 23) (ix ((24 : Int32) + v2)) ((ar 3) (ix v2))) (ix ((28 : Int32) + v2)) ((ar 4) (ix v2)))) la)) C rfl 17 0 mC_get23 rfl hf dX7_keeps_53 mC_set23 (fun hf => ?_)
      refine tt_aload_n (pc := 54) (k := 1) C dX7_keeps_54 rfl rfl ?_
      refine tt_bipush (pc := 55) (v := (32 : Int32)) C dX7_keeps_55 (by decide) ?_
      refine tt_iload_n (pc := 57) (k := 2) C dX7_keeps_57 rfl rfl ?_
      refine tt_iadd (pc := 58) C dX7_keeps_58 ?_
      refine tt_aload_n (pc := 59) (k := 0) C dX7_keeps_59 rfl rfl ?_
      refine tt_get (pc := 60) (ws := (mC cy ad sc (va_up (va_up ar 23 (upd (ar 23) (ix ((24 : Int32) + v2)) ((ar 3) (ix v2)))) 23 (upd (upd (ar 23) (ix ((24 : Int32) + v2)) ((ar 3) (ix v2))) (ix ((28 : Int32) + v2)) ((ar 4) (ix v2)))) la)) (ci := 7) (v := .ref (ad 5)) C fiX7 rfl 0 mC_obj 5 (by decide) q4_165 rfl dX7_keeps_60 ?_
      refine tt_iload_n (pc := 63) (k := 2) C dX7_keeps_63 rfl rfl ?_
      refine tt_iaload (pc := 64) (ws := (mC cy ad sc (va_up (va_up ar 23 (upd (ar 23) (ix ((24 : Int32) + v2)) ((ar 3) (ix v2)))) 23 (upd (upd (ar 23) (ix ((24 : Int32) + v2)) ((ar 3) (ix v2))) (ix ((28 : Int32) + v2)) ((ar 4) (ix v2)))) la)) (n := 4) (f := (ar 5)) C 4 0 mC_get5 rfl hf dX7_keeps_64 (fun hf => ?_)
      refine tt_iastore (pc := 65) (ws := (mC cy ad sc (va_up (va_up ar 23 (upd (ar 23) (ix ((24 : Int32) + v2)) ((ar 3) (ix v2)))) 23 (upd (upd (ar 23) (ix ((24 : Int32) + v2)) ((ar 3) (ix v2))) (ix ((28 : Int32) + v2)) ((ar 4) (ix v2)))) la)) (n := 150) (f := (upd (upd (ar 23) (ix ((24 : Int32) + v2)) ((ar 3) (ix v2))) (ix ((28 : Int32) + v2)) ((ar 4) (ix v2)))) (ws' := (mC cy ad sc (va_up (va_up (va_up ar 23 (upd (ar 23) (ix ((24 : Int32) + v2)) ((ar 3) (ix v2)))) 23 (upd (upd (ar 23) (ix ((24 : Int32) + v2)) ((ar 3) (ix v2))) (ix ((28 : Int32) + v2)) ((ar 4) (ix v2)))) 23 (upd (upd (upd (ar 23) (ix ((24 : Int32) + v2)) ((ar 3) (ix v2))) (ix ((28 : Int32) + v2)) ((ar 4) (ix v2))) (ix ((32 : Int32) + v2)) ((ar 5) (ix v2)))) la)) C rfl 17 0 mC_get23 rfl hf dX7_keeps_65 mC_set23 (fun hf => ?_)
      refine tt_aload_n (pc := 66) (k := 1) C dX7_keeps_66 rfl rfl ?_
      refine tt_bipush (pc := 67) (v := (36 : Int32)) C dX7_keeps_67 (by decide) ?_
      refine tt_iload_n (pc := 69) (k := 2) C dX7_keeps_69 rfl rfl ?_
      refine tt_iadd (pc := 70) C dX7_keeps_70 ?_
      refine tt_aload_n (pc := 71) (k := 0) C dX7_keeps_71 rfl rfl ?_
      refine tt_get (pc := 72) (ws := (mC cy ad sc (va_up (va_up (va_up ar 23 (upd (ar 23) (ix ((24 : Int32) + v2)) ((ar 3) (ix v2)))) 23 (upd (upd (ar 23) (ix ((24 : Int32) + v2)) ((ar 3) (ix v2))) (ix ((28 : Int32) + v2)) ((ar 4) (ix v2)))) 23 (upd (upd (upd (ar 23) (ix ((24 : Int32) + v2)) ((ar 3) (ix v2))) (ix ((28 : Int32) + v2)) ((ar 4) (ix v2))) (ix ((32 : Int32) + v2)) ((ar 5) (ix v2)))) la)) (ci := 7) (v := .ref (ad 10)) C fiX7 rfl 0 mC_obj 10 (by decide) q4_170 rfl dX7_keeps_72 ?_
      refine tt_iload_n (pc := 75) (k := 2) C dX7_keeps_75 rfl rfl ?_
      refine tt_iaload (pc := 76) (ws := (mC cy ad sc (va_up (va_up (va_up ar 23 (upd (ar 23) (ix ((24 : Int32) + v2)) ((ar 3) (ix v2)))) 23 (upd (upd (ar 23) (ix ((24 : Int32) + v2)) ((ar 3) (ix v2))) (ix ((28 : Int32) + v2)) ((ar 4) (ix v2)))) 23 (upd (upd (upd (ar 23) (ix ((24 : Int32) + v2)) ((ar 3) (ix v2))) (ix ((28 : Int32) + v2)) ((ar 4) (ix v2))) (ix ((32 : Int32) + v2)) ((ar 5) (ix v2)))) la)) (n := 4) (f := (ar 10)) C 7 0 mC_get10 rfl hf dX7_keeps_76 (fun hf => ?_)
      refine tt_iastore (pc := 77) (ws := (mC cy ad sc (va_up (va_up (va_up ar 23 (upd (ar 23) (ix ((24 : Int32) + v2)) ((ar 3) (ix v2)))) 23 (upd (upd (ar 23) (ix ((24 : Int32) + v2)) ((ar 3) (ix v2))) (ix ((28 : Int32) + v2)) ((ar 4) (ix v2)))) 23 (upd (upd (upd (ar 23) (ix ((24 : Int32) + v2)) ((ar 3) (ix v2))) (ix ((28 : Int32) + v2)) ((ar 4) (ix v2))) (ix ((32 : Int32) + v2)) ((ar 5) (ix v2)))) la)) (n := 150) (f := (upd (upd (upd (ar 23) (ix ((24 : Int32) + v2)) ((ar 3) (ix v2))) (ix ((28 : Int32) + v2)) ((ar 4) (ix v2))) (ix ((32 : Int32) + v2)) ((ar 5) (ix v2)))) (ws' := (mC cy ad sc (va_up (va_up (va_up (va_up ar 23 (upd (ar 23) (ix ((24 : Int32) + v2)) ((ar 3) (ix v2)))) 23 (upd (upd (ar 23) (ix ((24 : Int32) + v2)) ((ar 3) (ix v2))) (ix ((28 : Int32) + v2)) ((ar 4) (ix v2)))) 23 (upd (upd (upd (ar 23) (ix ((24 : Int32) + v2)) ((ar 3) (ix v2))) (ix ((28 : Int32) + v2)) ((ar 4) (ix v2))) (ix ((32 : Int32) + v2)) ((ar 5) (ix v2)))) 23 (upd (upd (upd (upd (ar 23) (ix ((24 : Int32) + v2)) ((ar 3) (ix v2))) (ix ((28 : Int32) + v2)) ((ar 4) (ix v2))) (ix ((32 : Int32) + v2)) ((ar 5) (ix v2))) (ix ((36 : Int32) + v2)) ((ar 10) (ix v2)))) la)) C rfl 17 0 mC_get23 rfl hf dX7_keeps_77 mC_set23 (fun hf => ?_)
      refine tt_aload_n (pc := 78) (k := 1) C dX7_keeps_78 rfl rfl ?_
      refine tt_bipush (pc := 79) (v := (40 : Int32)) C dX7_keeps_79 (by decide) ?_
      refine tt_iload_n (pc := 81) (k := 2) C dX7_keeps_81 rfl rfl ?_
      refine tt_iadd (pc := 82) C dX7_keeps_82 ?_
      refine tt_aload_n (pc := 83) (k := 0) C dX7_keeps_83 rfl rfl ?_
      refine tt_get (pc := 84) (ws := (mC cy ad sc (va_up (va_up (va_up (va_up ar 23 (upd (ar 23) (ix ((24 : Int32) + v2)) ((ar 3) (ix v2)))) 23 (upd (upd (ar 23) (ix ((24 : Int32) + v2)) ((ar 3) (ix v2))) (ix ((28 : Int32) + v2)) ((ar 4) (ix v2)))) 23 (upd (upd (upd (ar 23) (ix ((24 : Int32) + v2)) ((ar 3) (ix v2))) (ix ((28 : Int32) + v2)) ((ar 4) (ix v2))) (ix ((32 : Int32) + v2)) ((ar 5) (ix v2)))) 23 (upd (upd (upd (upd (ar 23) (ix ((24 : Int32) + v2)) ((ar 3) (ix v2))) (ix ((28 : Int32) + v2)) ((ar 4) (ix v2))) (ix ((32 : Int32) + v2)) ((ar 5) (ix v2))) (ix ((36 : Int32) + v2)) ((ar 10) (ix v2)))) la)) (ci := 7) (v := .ref (ad 11)) C fiX7 rfl 0 mC_obj 11 (by decide) q4_171 rfl dX7_keeps_84 ?_
      refine tt_iload_n (pc := 87) (k := 2) C dX7_keeps_87 rfl rfl ?_
      refine tt_iaload (pc := 88) (ws := (mC cy ad sc (va_up (va_up (va_up (va_up ar 23 (upd (ar 23) (ix ((24 : Int32) + v2)) ((ar 3) (ix v2)))) 23 (upd (upd (ar 23) (ix ((24 : Int32) + v2)) ((ar 3) (ix v2))) (ix ((28 : Int32) + v2)) ((ar 4) (ix v2)))) 23 (upd (upd (upd (ar 23) (ix ((24 : Int32) + v2)) ((ar 3) (ix v2))) (ix ((28 : Int32) + v2)) ((ar 4) (ix v2))) (ix ((32 : Int32) + v2)) ((ar 5) (ix v2)))) 23 (upd (upd (upd (upd (ar 23) (ix ((24 : Int32) + v2)) ((ar 3) (ix v2))) (ix ((28 : Int32) + v2)) ((ar 4) (ix v2))) (ix ((32 : Int32) + v2)) ((ar 5) (ix v2))) (ix ((36 : Int32) + v2)) ((ar 10) (ix v2)))) la)) (n := 4) (f := (ar 11)) C 8 0 mC_get11 rfl hf dX7_keeps_88 (fun hf => ?_)
      refine tt_iastore (pc := 89) (ws := (mC cy ad sc (va_up (va_up (va_up (va_up ar 23 (upd (ar 23) (ix ((24 : Int32) + v2)) ((ar 3) (ix v2)))) 23 (upd (upd (ar 23) (ix ((24 : Int32) + v2)) ((ar 3) (ix v2))) (ix ((28 : Int32) + v2)) ((ar 4) (ix v2)))) 23 (upd (upd (upd (ar 23) (ix ((24 : Int32) + v2)) ((ar 3) (ix v2))) (ix ((28 : Int32) + v2)) ((ar 4) (ix v2))) (ix ((32 : Int32) + v2)) ((ar 5) (ix v2)))) 23 (upd (upd (upd (upd (ar 23) (ix ((24 : Int32) + v2)) ((ar 3) (ix v2))) (ix ((28 : Int32) + v2)) ((ar 4) (ix v2))) (ix ((32 : Int32) + v2)) ((ar 5) (ix v2))) (ix ((36 : Int32) + v2)) ((ar 10) (ix v2)))) la)) (n := 150) (f := (upd (upd (upd (upd (ar 23) (ix ((24 : Int32) + v2)) ((ar 3) (ix v2))) (ix ((28 : Int32) + v2)) ((ar 4) (ix v2))) (ix ((32 : Int32) + v2)) ((ar 5) (ix v2))) (ix ((36 : Int32) + v2)) ((ar 10) (ix v2)))) (ws' := (mC cy ad sc (va_up (va_up (va_up (va_up (va_up ar 23 (upd (ar 23) (ix ((24 : Int32) + v2)) ((ar 3) (ix v2)))) 23 (upd (upd (ar 23) (ix ((24 : Int32) + v2)) ((ar 3) (ix v2))) (ix ((28 : Int32) + v2)) ((ar 4) (ix v2)))) 23 (upd (upd (upd (ar 23) (ix ((24 : Int32) + v2)) ((ar 3) (ix v2))) (ix ((28 : Int32) + v2)) ((ar 4) (ix v2))) (ix ((32 : Int32) + v2)) ((ar 5) (ix v2)))) 23 (upd (upd (upd (upd (ar 23) (ix ((24 : Int32) + v2)) ((ar 3) (ix v2))) (ix ((28 : Int32) + v2)) ((ar 4) (ix v2))) (ix ((32 : Int32) + v2)) ((ar 5) (ix v2))) (ix ((36 : Int32) + v2)) ((ar 10) (ix v2)))) 23 (upd (upd (upd (upd (upd (ar 23) (ix ((24 : Int32) + v2)) ((ar 3) (ix v2))) (ix ((28 : Int32) + v2)) ((ar 4) (ix v2))) (ix ((32 : Int32) + v2)) ((ar 5) (ix v2))) (ix ((36 : Int32) + v2)) ((ar 10) (ix v2))) (ix ((40 : Int32) + v2)) ((ar 11) (ix v2)))) la)) C rfl 17 0 mC_get23 rfl hf dX7_keeps_89 mC_set23 (fun hf => ?_)
      refine tt_aload_n (pc := 90) (k := 1) C dX7_keeps_90 rfl rfl ?_
      refine tt_bipush (pc := 91) (v := (44 : Int32)) C dX7_keeps_91 (by decide) ?_
      refine tt_iload_n (pc := 93) (k := 2) C dX7_keeps_93 rfl rfl ?_
      refine tt_iadd (pc := 94) C dX7_keeps_94 ?_
      refine tt_aload_n (pc := 95) (k := 0) C dX7_keeps_95 rfl rfl ?_
      refine tt_get (pc := 96) (ws := (mC cy ad sc (va_up (va_up (va_up (va_up (va_up ar 23 (upd (ar 23) (ix ((24 : Int32) + v2)) ((ar 3) (ix v2)))) 23 (upd (upd (ar 23) (ix ((24 : Int32) + v2)) ((ar 3) (ix v2))) (ix ((28 : Int32) + v2)) ((ar 4) (ix v2)))) 23 (upd (upd (upd (ar 23) (ix ((24 : Int32) + v2)) ((ar 3) (ix v2))) (ix ((28 : Int32) + v2)) ((ar 4) (ix v2))) (ix ((32 : Int32) + v2)) ((ar 5) (ix v2)))) 23 (upd (upd (upd (upd (ar 23) (ix ((24 : Int32) + v2)) ((ar 3) (ix v2))) (ix ((28 : Int32) + v2)) ((ar 4) (ix v2))) (ix ((32 : Int32) + v2)) ((ar 5) (ix v2))) (ix ((36 : Int32) + v2)) ((ar 10) (ix v2)))) 23 (upd (upd (upd (upd (upd (ar 23) (ix ((24 : Int32) + v2)) ((ar 3) (ix v2))) (ix ((28 : Int32) + v2)) ((ar 4) (ix v2))) (ix ((32 : Int32) + v2)) ((ar 5) (ix v2))) (ix ((36 : Int32) + v2)) ((ar 10) (ix v2))) (ix ((40 : Int32) + v2)) ((ar 11) (ix v2)))) la)) (ci := 7) (v := .ref (ad 12)) C fiX7 rfl 0 mC_obj 12 (by decide) q4_172 rfl dX7_keeps_96 ?_
      refine tt_iload_n (pc := 99) (k := 2) C dX7_keeps_99 rfl rfl ?_
      refine tt_iaload (pc := 100) (ws := (mC cy ad sc (va_up (va_up (va_up (va_up (va_up ar 23 (upd (ar 23) (ix ((24 : Int32) + v2)) ((ar 3) (ix v2)))) 23 (upd (upd (ar 23) (ix ((24 : Int32) + v2)) ((ar 3) (ix v2))) (ix ((28 : Int32) + v2)) ((ar 4) (ix v2)))) 23 (upd (upd (upd (ar 23) (ix ((24 : Int32) + v2)) ((ar 3) (ix v2))) (ix ((28 : Int32) + v2)) ((ar 4) (ix v2))) (ix ((32 : Int32) + v2)) ((ar 5) (ix v2)))) 23 (upd (upd (upd (upd (ar 23) (ix ((24 : Int32) + v2)) ((ar 3) (ix v2))) (ix ((28 : Int32) + v2)) ((ar 4) (ix v2))) (ix ((32 : Int32) + v2)) ((ar 5) (ix v2))) (ix ((36 : Int32) + v2)) ((ar 10) (ix v2)))) 23 (upd (upd (upd (upd (upd (ar 23) (ix ((24 : Int32) + v2)) ((ar 3) (ix v2))) (ix ((28 : Int32) + v2)) ((ar 4) (ix v2))) (ix ((32 : Int32) + v2)) ((ar 5) (ix v2))) (ix ((36 : Int32) + v2)) ((ar 10) (ix v2))) (ix ((40 : Int32) + v2)) ((ar 11) (ix v2)))) la)) (n := 4) (f := (ar 12)) C 9 0 mC_get12 rfl hf dX7_keeps_100 (fun hf => ?_)
      refine tt_iastore (pc := 101) (ws := (mC cy ad sc (va_up (va_up (va_up (va_up (va_up ar 23 (upd (ar 23) (ix ((24 : Int32) + v2)) ((ar 3) (ix v2)))) 23 (upd (upd (ar 23) (ix ((24 : Int32) + v2)) ((ar 3) (ix v2))) (ix ((28 : Int32) + v2)) ((ar 4) (ix v2)))) 23 (upd (upd (upd (ar 23) (ix ((24 : Int32) + v2)) ((ar 3) (ix v2))) (ix ((28 : Int32) + v2)) ((ar 4) (ix v2))) (ix ((32 : Int32) + v2)) ((ar 5) (ix v2)))) 23 (upd (upd (upd (upd (ar 23) (ix ((24 : Int32) + v2)) ((ar 3) (ix v2))) (ix ((28 : Int32) + v2)) ((ar 4) (ix v2))) (ix ((32 : Int32) + v2)) ((ar 5) (ix v2))) (ix ((36 : Int32) + v2)) ((ar 10) (ix v2)))) 23 (upd (upd (upd (upd (upd (ar 23) (ix ((24 : Int32) + v2)) ((ar 3) (ix v2))) (ix ((28 : Int32) + v2)) ((ar 4) (ix v2))) (ix ((32 : Int32) + v2)) ((ar 5) (ix v2))) (ix ((36 : Int32) + v2)) ((ar 10) (ix v2))) (ix ((40 : Int32) + v2)) ((ar 11) (ix v2)))) la)) (n := 150) (f := (upd (upd (upd (upd (upd (ar 23) (ix ((24 : Int32) + v2)) ((ar 3) (ix v2))) (ix ((28 : Int32) + v2)) ((ar 4) (ix v2))) (ix ((32 : Int32) + v2)) ((ar 5) (ix v2))) (ix ((36 : Int32) + v2)) ((ar 10) (ix v2))) (ix ((40 : Int32) + v2)) ((ar 11) (ix v2)))) (ws' := (mC cy ad sc (va_up (va_up (va_up (va_up (va_up (va_up ar 23 (upd (ar 23) (ix ((24 : Int32) + v2)) ((ar 3) (ix v2)))) 23 (upd (upd (ar 23) (ix ((24 : Int32) + v2)) ((ar 3) (ix v2))) (ix ((28 : Int32) + v2)) ((ar 4) (ix v2)))) 23 (upd (upd (upd (ar 23) (ix ((24 : Int32) + v2)) ((ar 3) (ix v2))) (ix ((28 : Int32) + v2)) ((ar 4) (ix v2))) (ix ((32 : Int32) + v2)) ((ar 5) (ix v2)))) 23 (upd (upd (upd (upd (ar 23) (ix ((24 : Int32) + v2)) ((ar 3) (ix v2))) (ix ((28 : Int32) + v2)) ((ar 4) (ix v2))) (ix ((32 : Int32) + v2)) ((ar 5) (ix v2))) (ix ((36 : Int32) + v2)) ((ar 10) (ix v2)))) 23 (upd (upd (upd (upd (upd (ar 23) (ix ((24 : Int32) + v2)) ((ar 3) (ix v2))) (ix ((28 : Int32) + v2)) ((ar 4) (ix v2))) (ix ((32 : Int32) + v2)) ((ar 5) (ix v2))) (ix ((36 : Int32) + v2)) ((ar 10) (ix v2))) (ix ((40 : Int32) + v2)) ((ar 11) (ix v2)))) 23 (upd (upd (upd (upd (upd (upd (ar 23) (ix ((24 : Int32) + v2)) ((ar 3) (ix v2))) (ix ((28 : Int32) + v2)) ((ar 4) (ix v2))) (ix ((32 : Int32) + v2)) ((ar 5) (ix v2))) (ix ((36 : Int32) + v2)) ((ar 10) (ix v2))) (ix ((40 : Int32) + v2)) ((ar 11) (ix v2))) (ix ((44 : Int32) + v2)) ((ar 12) (ix v2)))) la)) C rfl 17 0 mC_get23 rfl hf dX7_keeps_101 mC_set23 (fun hf => ?_)
      refine tt_aload_n (pc := 102) (k := 1) C dX7_keeps_102 rfl rfl ?_
      refine tt_bipush (pc := 103) (v := (48 : Int32)) C dX7_keeps_103 (by decide) ?_
      refine tt_iload_n (pc := 105) (k := 2) C dX7_keeps_105 rfl rfl ?_
      refine tt_iadd (pc := 106) C dX7_keeps_106 ?_
      refine tt_aload_n (pc := 107) (k := 0) C dX7_keeps_107 rfl rfl ?_
      refine tt_get (pc := 108) (ws := (mC cy ad sc (va_up (va_up (va_up (va_up (va_up (va_up ar 23 (upd (ar 23) (ix ((24 : Int32) + v2)) ((ar 3) (ix v2)))) 23 (upd (upd (ar 23) (ix ((24 : Int32) + v2)) ((ar 3) (ix v2))) (ix ((28 : Int32) + v2)) ((ar 4) (ix v2)))) 23 (upd (upd (upd (ar 23) (ix ((24 : Int32) + v2)) ((ar 3) (ix v2))) (ix ((28 : Int32) + v2)) ((ar 4) (ix v2))) (ix ((32 : Int32) + v2)) ((ar 5) (ix v2)))) 23 (upd (upd (upd (upd (ar 23) (ix ((24 : Int32) + v2)) ((ar 3) (ix v2))) (ix ((28 : Int32) + v2)) ((ar 4) (ix v2))) (ix ((32 : Int32) + v2)) ((ar 5) (ix v2))) (ix ((36 : Int32) + v2)) ((ar 10) (ix v2)))) 23 (upd (upd (upd (upd (upd (ar 23) (ix ((24 : Int32) + v2)) ((ar 3) (ix v2))) (ix ((28 : Int32) + v2)) ((ar 4) (ix v2))) (ix ((32 : Int32) + v2)) ((ar 5) (ix v2))) (ix ((36 : Int32) + v2)) ((ar 10) (ix v2))) (ix ((40 : Int32) + v2)) ((ar 11) (ix v2)))) 23 (upd (upd (upd (upd (upd (upd (ar 23) (ix ((24 : Int32) + v2)) ((ar 3) (ix v2))) (ix ((28 : Int32) + v2)) ((ar 4) (ix v2))) (ix ((32 : Int32) + v2)) ((ar 5) (ix v2))) (ix ((36 : Int32) + v2)) ((ar 10) (ix v2))) (ix ((40 : Int32) + v2)) ((ar 11) (ix v2))) (ix ((44 : Int32) + v2)) ((ar 12) (ix v2)))) la)) (ci := 7) (v := .ref (ad 13)) C fiX7 rfl 0 mC_obj 13 (by decide) q4_173 rfl dX7_keeps_108 ?_
      refine tt_iload_n (pc := 111) (k := 2) C dX7_keeps_111 rfl rfl ?_
      refine tt_iaload (pc := 112) (ws := (mC cy ad sc (va_up (va_up (va_up (va_up (va_up (va_up ar 23 (upd (ar 23) (ix ((24 : Int32) + v2)) ((ar 3) (ix v2)))) 23 (upd (upd (ar 23) (ix ((24 : Int32) + v2)) ((ar 3) (ix v2))) (ix ((28 : Int32) + v2)) ((ar 4) (ix v2)))) 23 (upd (upd (upd (ar 23) (ix ((24 : Int32) + v2)) ((ar 3) (ix v2))) (ix ((28 : Int32) + v2)) ((ar 4) (ix v2))) (ix ((32 : Int32) + v2)) ((ar 5) (ix v2)))) 23 (upd (upd (upd (upd (ar 23) (ix ((24 : Int32) + v2)) ((ar 3) (ix v2))) (ix ((28 : Int32) + v2)) ((ar 4) (ix v2))) (ix ((32 : Int32) + v2)) ((ar 5) (ix v2))) (ix ((36 : Int32) + v2)) ((ar 10) (ix v2)))) 23 (upd (upd (upd (upd (upd (ar 23) (ix ((24 : Int32) + v2)) ((ar 3) (ix v2))) (ix ((28 : Int32) + v2)) ((ar 4) (ix v2))) (ix ((32 : Int32) + v2)) ((ar 5) (ix v2))) (ix ((36 : Int32) + v2)) ((ar 10) (ix v2))) (ix ((40 : Int32) + v2)) ((ar 11) (ix v2)))) 23 (upd (upd (upd (upd (upd (upd (ar 23) (ix ((24 : Int32) + v2)) ((ar 3) (ix v2))) (ix ((28 : Int32) + v2)) ((ar 4) (ix v2))) (ix ((32 : Int32) + v2)) ((ar 5) (ix v2))) (ix ((36 : Int32) + v2)) ((ar 10) (ix v2))) (ix ((40 : Int32) + v2)) ((ar 11) (ix v2))) (ix ((44 : Int32) + v2)) ((ar 12) (ix v2)))) la)) (n := 4) (f := (ar 13)) C 10 0 mC_get13 rfl hf dX7_keeps_112 (fun hf => ?_)
      refine tt_iastore (pc := 113) (ws := (mC cy ad sc (va_up (va_up (va_up (va_up (va_up (va_up ar 23 (upd (ar 23) (ix ((24 : Int32) + v2)) ((ar 3) (ix v2)))) 23 (upd (upd (ar 23) (ix ((24 : Int32) + v2)) ((ar 3) (ix v2))) (ix ((28 : Int32) + v2)) ((ar 4) (ix v2)))) 23 (upd (upd (upd (ar 23) (ix ((24 : Int32) + v2)) ((ar 3) (ix v2))) (ix ((28 : Int32) + v2)) ((ar 4) (ix v2))) (ix ((32 : Int32) + v2)) ((ar 5) (ix v2)))) 23 (upd (upd (upd (upd (ar 23) (ix ((24 : Int32) + v2)) ((ar 3) (ix v2))) (ix ((28 : Int32) + v2)) ((ar 4) (ix v2))) (ix ((32 : Int32) + v2)) ((ar 5) (ix v2))) (ix ((36 : Int32) + v2)) ((ar 10) (ix v2)))) 23 (upd (upd (upd (upd (upd (ar 23) (ix ((24 : Int32) + v2)) ((ar 3) (ix v2))) (ix ((28 : Int32) + v2)) ((ar 4) (ix v2))) (ix ((32 : Int32) + v2)) ((ar 5) (ix v2))) (ix ((36 : Int32) + v2)) ((ar 10) (ix v2))) (ix ((40 : Int32) + v2)) ((ar 11) (ix v2)))) 23 (upd (upd (upd (upd (upd (upd (ar 23) (ix ((24 : Int32) + v2)) ((ar 3) (ix v2))) (ix ((28 : Int32) + v2)) ((ar 4) (ix v2))) (ix ((32 : Int32) + v2)) ((ar 5) (ix v2))) (ix ((36 : Int32) + v2)) ((ar 10) (ix v2))) (ix ((40 : Int32) + v2)) ((ar 11) (ix v2))) (ix ((44 : Int32) + v2)) ((ar 12) (ix v2)))) la)) (n := 150) (f := (upd (upd (upd (upd (upd (upd (ar 23) (ix ((24 : Int32) + v2)) ((ar 3) (ix v2))) (ix ((28 : Int32) + v2)) ((ar 4) (ix v2))) (ix ((32 : Int32) + v2)) ((ar 5) (ix v2))) (ix ((36 : Int32) + v2)) ((ar 10) (ix v2))) (ix ((40 : Int32) + v2)) ((ar 11) (ix v2))) (ix ((44 : Int32) + v2)) ((ar 12) (ix v2)))) (ws' := (mC cy ad sc (va_up (va_up (va_up (va_up (va_up (va_up (va_up ar 23 (upd (ar 23) (ix ((24 : Int32) + v2)) ((ar 3) (ix v2)))) 23 (upd (upd (ar 23) (ix ((24 : Int32) + v2)) ((ar 3) (ix v2))) (ix ((28 : Int32) + v2)) ((ar 4) (ix v2)))) 23 (upd (upd (upd (ar 23) (ix ((24 : Int32) + v2)) ((ar 3) (ix v2))) (ix ((28 : Int32) + v2)) ((ar 4) (ix v2))) (ix ((32 : Int32) + v2)) ((ar 5) (ix v2)))) 23 (upd (upd (upd (upd (ar 23) (ix ((24 : Int32) + v2)) ((ar 3) (ix v2))) (ix ((28 : Int32) + v2)) ((ar 4) (ix v2))) (ix ((32 : Int32) + v2)) ((ar 5) (ix v2))) (ix ((36 : Int32) + v2)) ((ar 10) (ix v2)))) 23 (upd (upd (upd (upd (upd (ar 23) (ix ((24 : Int32) + v2)) ((ar 3) (ix v2))) (ix ((28 : Int32) + v2)) ((ar 4) (ix v2))) (ix ((32 : Int32) + v2)) ((ar 5) (ix v2))) (ix ((36 : Int32) + v2)) ((ar 10) (ix v2))) (ix ((40 : Int32) + v2)) ((ar 11) (ix v2)))) 23 (upd (upd (upd (upd (upd (upd (ar 23) (ix ((24 : Int32) + v2)) ((ar 3) (ix v2))) (ix ((28 : Int32) + v2)) ((ar 4) (ix v2))) (ix ((32 : Int32) + v2)) ((ar 5) (ix v2))) (ix ((36 : Int32) + v2)) ((ar 10) (ix v2))) (ix ((40 : Int32) + v2)) ((ar 11) (ix v2))) (ix ((44 : Int32) + v2)) ((ar 12) (ix v2)))) 23 (upd (upd (upd (upd (upd (upd (upd (ar 23) (ix ((24 : Int32) + v2)) ((ar 3) (ix v2))) (ix ((28 : Int32) + v2)) ((ar 4) (ix v2))) (ix ((32 : Int32) + v2)) ((ar 5) (ix v2))) (ix ((36 : Int32) + v2)) ((ar 10) (ix v2))) (ix ((40 : Int32) + v2)) ((ar 11) (ix v2))) (ix ((44 : Int32) + v2)) ((ar 12) (ix v2))) (ix ((48 : Int32) + v2)) ((ar 13) (ix v2)))) la)) C rfl 17 0 mC_get23 rfl hf dX7_keeps_113 mC_set23 (fun hf => ?_)
      refine tt_iinc (pc := 114) (k := 2) (v := (v2 + 1)) (L' := [(2, .int (v2 + 1)), (0, .ref (ad 0)), (1, .ref (ad 23))]) C dX7_keeps_114 rfl rfl (by decide) rfl ?_
      refine tt_goto (pc := 117) (tgt := 25) C dX7_keeps_117 (by decide) ?_
      exact tt_locs [1, 2, 0] rfl (ih hf)
set_option maxHeartbeats 4000000 in
set_option maxRecDepth 100000 in
theorem l_X7_keeps_23_122 {p : Program} {l : Launch} {e : Env} {s : State} {m : MethodId} {args : Array Value} {below : List Frame} {meth : Method} {c : Code} {D : va_G} {cy : Nat → ClassId} {A : Nat → Prop} {Bd : Nat} {xa : Xa} {ad : Nat → Nat} {β : Type} {vO : Option Value} {wO : va_W} {N : Nat} {sc : Nat → Int32} {la : Nat → Nat → Int64} {kx : (Nat → Nat → Int32) → Option (β)} {out : β} (C : CC p s m args meth c cX7_keeps RX7 3 none D cy A false Bd xa) (hk : ∀ (ar1 : Nat → Nat → Int32), kx ar1 = some out → TT p l e { frames := 0, cells := 0, slots := 0, locals := 0 } s m args below meth c 3 D A false vO wO 157 [(0, .ref (ad 0)), (1, .ref (ad 23))] [] (mC cy ad sc ar1 la)) {n : Nat} {v2 : Int32} {ar : Nat → Nat → Int32} (hf : f_X7_keeps_23_L122 N sc kx n v2 ar = some out) : TT p l e { frames := 0, cells := 0, slots := 0, locals := 0 } s m args below meth c 3 D A false vO wO 122 [(0, .ref (ad 0)), (1, .ref (ad 23)), (2, .int v2)] [] (mC cy ad sc ar la) := by
  induction n generalizing v2 ar with
  | zero => cases hf
  | succ n ih =>
    rw [f_X7_keeps_23_L122] at hf
    refine tt_iload_n (pc := 122) (k := 2) C dX7_keeps_122 rfl rfl ?_
    refine tt_iconst (pc := 123) (v := (5 : Int32)) C dX7_keeps_123 (by decide) ?_
    refine tt_icmp_ge (pc := 124) (tgt := 157) C dX7_keeps_124 (by decide) hf (fun hf => ?_) (fun hf => ?_)
    · exact tt_locs [0, 1] rfl (hk _ hf)
    · refine tt_aload_n (pc := 127) (k := 1) C dX7_keeps_127 rfl rfl ?_
      refine tt_bipush (pc := 128) (v := (52 : Int32)) C dX7_keeps_128 (by decide) ?_
      refine tt_iload_n (pc := 130) (k := 2) C dX7_keeps_130 rfl rfl ?_
      refine tt_iadd (pc := 131) C dX7_keeps_131 ?_
      refine tt_aload_n (pc := 132) (k := 0) C dX7_keeps_132 rfl rfl ?_
      refine tt_get (pc := 133) (ws := (mC cy ad sc ar la)) (ci := 7) (v := .ref (ad 7)) C fiX7 rfl 0 mC_obj 7 (by decide) q4_167 rfl dX7_keeps_133 ?_
      refine tt_iload_n (pc := 136) (k := 2) C dX7_keeps_136 rfl rfl ?_
      refine tt_iaload (pc := 137) (ws := (mC cy ad sc ar la)) (n := 5) (f := (ar 7)) C 5 0 mC_get7 rfl hf dX7_keeps_137 (fun hf => ?_)
      refine tt_iastore (pc := 138) (ws := (mC cy ad sc ar la)) (n := 150) (f := (ar 23)) (ws' := (mC cy ad sc (va_up ar 23 (upd (ar 23) (ix ((52 : Int32) + v2)) ((ar 7) (ix v2)))) la)) C rfl 17 0 mC_get23 rfl hf dX7_keeps_138 mC_set23 (fun hf => ?_)
      refine tt_aload_n (pc := 139) (k := 1) C dX7_keeps_139 rfl rfl ?_
      refine tt_bipush (pc := 140) (v := (57 : Int32)) C dX7_keeps_140 (by decide) ?_
      refine tt_iload_n (pc := 142) (k := 2) C dX7_keeps_142 rfl rfl ?_
      refine tt_iadd (pc := 143) C dX7_keeps_143 ?_
      refine tt_aload_n (pc := 144) (k := 0) C dX7_keeps_144 rfl rfl ?_
      refine tt_get (pc := 145) (ws := (mC cy ad sc (va_up ar 23 (upd (ar 23) (ix ((52 : Int32) + v2)) ((ar 7) (ix v2)))) la)) (ci := 7) (v := .ref (ad 8)) C fiX7 rfl 0 mC_obj 8 (by decide) q4_168 rfl dX7_keeps_145 ?_
      refine tt_iload_n (pc := 148) (k := 2) C dX7_keeps_148 rfl rfl ?_
      refine tt_iaload (pc := 149) (ws := (mC cy ad sc (va_up ar 23 (upd (ar 23) (ix ((52 : Int32) + v2)) ((ar 7) (ix v2)))) la)) (n := 5) (f := (ar 8)) C 6 0 mC_get8 rfl hf dX7_keeps_149 (fun hf => ?_)
      refine tt_iastore (pc := 150) (ws := (mC cy ad sc (va_up ar 23 (upd (ar 23) (ix ((52 : Int32) + v2)) ((ar 7) (ix v2)))) la)) (n := 150) (f := (upd (ar 23) (ix ((52 : Int32) + v2)) ((ar 7) (ix v2)))) (ws' := (mC cy ad sc (va_up (va_up ar 23 (upd (ar 23) (ix ((52 : Int32) + v2)) ((ar 7) (ix v2)))) 23 (upd (upd (ar 23) (ix ((52 : Int32) + v2)) ((ar 7) (ix v2))) (ix ((57 : Int32) + v2)) ((ar 8) (ix v2)))) la)) C rfl 17 0 mC_get23 rfl hf dX7_keeps_150 mC_set23 (fun hf => ?_)
      refine tt_iinc (pc := 151) (k := 2) (v := (v2 + 1)) (L' := [(2, .int (v2 + 1)), (0, .ref (ad 0)), (1, .ref (ad 23))]) C dX7_keeps_151 rfl rfl (by decide) rfl ?_
      refine tt_goto (pc := 154) (tgt := 122) C dX7_keeps_154 (by decide) ?_
      exact tt_locs [1, 2, 0] rfl (ih hf)
set_option maxHeartbeats 4000000 in
set_option maxRecDepth 100000 in
theorem l_X7_keeps_23_159 {p : Program} {l : Launch} {e : Env} {s : State} {m : MethodId} {args : Array Value} {below : List Frame} {meth : Method} {c : Code} {D : va_G} {cy : Nat → ClassId} {A : Nat → Prop} {Bd : Nat} {xa : Xa} {ad : Nat → Nat} {β : Type} {vO : Option Value} {wO : va_W} {N : Nat} {sc : Nat → Int32} {la : Nat → Nat → Int64} {kx : (Nat → Nat → Int32) → Option (β)} {out : β} (C : CC p s m args meth c cX7_keeps RX7 3 none D cy A false Bd xa) (hk : ∀ (ar1 : Nat → Nat → Int32), kx ar1 = some out → TT p l e { frames := 0, cells := 0, slots := 0, locals := 0 } s m args below meth c 3 D A false vO wO 183 [(0, .ref (ad 0)), (1, .ref (ad 23))] [] (mC cy ad sc ar1 la)) {n : Nat} {v2 : Int32} {ar : Nat → Nat → Int32} (hf : f_X7_keeps_23_L159 N sc kx n v2 ar = some out) : TT p l e { frames := 0, cells := 0, slots := 0, locals := 0 } s m args below meth c 3 D A false vO wO 159 [(0, .ref (ad 0)), (1, .ref (ad 23)), (2, .int v2)] [] (mC cy ad sc ar la) := by
  induction n generalizing v2 ar with
  | zero => cases hf
  | succ n ih =>
    rw [f_X7_keeps_23_L159] at hf
    refine tt_iload_n (pc := 159) (k := 2) C dX7_keeps_159 rfl rfl ?_
    refine tt_bipush (pc := 160) (v := (56 : Int32)) C dX7_keeps_160 (by decide) ?_
    refine tt_icmp_ge (pc := 162) (tgt := 183) C dX7_keeps_162 (by decide) hf (fun hf => ?_) (fun hf => ?_)
    · exact tt_locs [0, 1] rfl (hk _ hf)
    · refine tt_aload_n (pc := 165) (k := 1) C dX7_keeps_165 rfl rfl ?_
      refine tt_bipush (pc := 166) (v := (62 : Int32)) C dX7_keeps_166 (by decide) ?_
      refine tt_iload_n (pc := 168) (k := 2) C dX7_keeps_168 rfl rfl ?_
      refine tt_iadd (pc := 169) C dX7_keeps_169 ?_
      refine tt_aload_n (pc := 170) (k := 0) C dX7_keeps_170 rfl rfl ?_
      refine tt_get (pc := 171) (ws := (mC cy ad sc ar la)) (ci := 7) (v := .ref (ad 16)) C fiX7 rfl 0 mC_obj 16 (by decide) q4_176 rfl dX7_keeps_171 ?_
      refine tt_iload_n (pc := 174) (k := 2) C dX7_keeps_174 rfl rfl ?_
      refine tt_iaload (pc := 175) (ws := (mC cy ad sc ar la)) (n := 56) (f := (ar 16)) C 11 0 mC_get16 rfl hf dX7_keeps_175 (fun hf => ?_)
      refine tt_iastore (pc := 176) (ws := (mC cy ad sc ar la)) (n := 150) (f := (ar 23)) (ws' := (mC cy ad sc (va_up ar 23 (upd (ar 23) (ix ((62 : Int32) + v2)) ((ar 16) (ix v2)))) la)) C rfl 17 0 mC_get23 rfl hf dX7_keeps_176 mC_set23 (fun hf => ?_)
      refine tt_iinc (pc := 177) (k := 2) (v := (v2 + 1)) (L' := [(2, .int (v2 + 1)), (0, .ref (ad 0)), (1, .ref (ad 23))]) C dX7_keeps_177 rfl rfl (by decide) rfl ?_
      refine tt_goto (pc := 180) (tgt := 159) C dX7_keeps_180 (by decide) ?_
      exact tt_locs [1, 2, 0] rfl (ih hf)
set_option maxHeartbeats 4000000 in
set_option maxRecDepth 100000 in
theorem l_X7_keeps_23_185 {p : Program} {l : Launch} {e : Env} {s : State} {m : MethodId} {args : Array Value} {below : List Frame} {meth : Method} {c : Code} {D : va_G} {cy : Nat → ClassId} {A : Nat → Prop} {Bd : Nat} {xa : Xa} {ad : Nat → Nat} {β : Type} {vO : Option Value} {wO : va_W} {N : Nat} {sc : Nat → Int32} {la : Nat → Nat → Int64} {kx : (Nat → Nat → Int32) → Option (β)} {out : β} (C : CC p s m args meth c cX7_keeps RX7 3 none D cy A false Bd xa) (hk : ∀ (ar1 : Nat → Nat → Int32), kx ar1 = some out → TT p l e { frames := 0, cells := 0, slots := 0, locals := 0 } s m args below meth c 3 D A false vO wO 221 [(0, .ref (ad 0)), (1, .ref (ad 23))] [] (mC cy ad sc ar1 la)) {n : Nat} {v2 : Int32} {ar : Nat → Nat → Int32} (hf : f_X7_keeps_23_L185 N sc kx n v2 ar = some out) : TT p l e { frames := 0, cells := 0, slots := 0, locals := 0 } s m args below meth c 3 D A false vO wO 185 [(0, .ref (ad 0)), (1, .ref (ad 23)), (2, .int v2)] [] (mC cy ad sc ar la) := by
  induction n generalizing v2 ar with
  | zero => cases hf
  | succ n ih =>
    rw [f_X7_keeps_23_L185] at hf
    refine tt_iload_n (pc := 185) (k := 2) C dX7_keeps_185 rfl rfl ?_
    refine tt_bipush (pc := 186) (v := (8 : Int32)) C dX7_keeps_186 (by decide) ?_
    refine tt_icmp_ge (pc := 188) (tgt := 221) C dX7_keeps_188 (by decide) hf (fun hf => ?_) (fun hf => ?_)
    · exact tt_locs [0, 1] rfl (hk _ hf)
    · refine tt_aload_n (pc := 191) (k := 1) C dX7_keeps_191 rfl rfl ?_
      refine tt_bipush (pc := 192) (v := (118 : Int32)) C dX7_keeps_192 (by decide) ?_
      refine tt_iload_n (pc := 194) (k := 2) C dX7_keeps_194 rfl rfl ?_
      refine tt_iadd (pc := 195) C dX7_keeps_195 ?_
      refine tt_aload_n (pc := 196) (k := 0) C dX7_keeps_196 rfl rfl ?_
      refine tt_get (pc := 197) (ws := (mC cy ad sc ar la)) (ci := 7) (v := .ref (ad 17)) C fiX7 rfl 0 mC_obj 17 (by decide) q4_177 rfl dX7_keeps_197 ?_
      refine tt_iload_n (pc := 200) (k := 2) C dX7_keeps_200 rfl rfl ?_
      refine tt_iaload (pc := 201) (ws := (mC cy ad sc ar la)) (n := 8) (f := (ar 17)) C 12 0 mC_get17 rfl hf dX7_keeps_201 (fun hf => ?_)
      refine tt_iastore (pc := 202) (ws := (mC cy ad sc ar la)) (n := 150) (f := (ar 23)) (ws' := (mC cy ad sc (va_up ar 23 (upd (ar 23) (ix ((118 : Int32) + v2)) ((ar 17) (ix v2)))) la)) C rfl 17 0 mC_get23 rfl hf dX7_keeps_202 mC_set23 (fun hf => ?_)
      refine tt_aload_n (pc := 203) (k := 1) C dX7_keeps_203 rfl rfl ?_
      refine tt_bipush (pc := 204) (v := (126 : Int32)) C dX7_keeps_204 (by decide) ?_
      refine tt_iload_n (pc := 206) (k := 2) C dX7_keeps_206 rfl rfl ?_
      refine tt_iadd (pc := 207) C dX7_keeps_207 ?_
      refine tt_aload_n (pc := 208) (k := 0) C dX7_keeps_208 rfl rfl ?_
      refine tt_get (pc := 209) (ws := (mC cy ad sc (va_up ar 23 (upd (ar 23) (ix ((118 : Int32) + v2)) ((ar 17) (ix v2)))) la)) (ci := 7) (v := .ref (ad 18)) C fiX7 rfl 0 mC_obj 18 (by decide) q4_178 rfl dX7_keeps_209 ?_
      refine tt_iload_n (pc := 212) (k := 2) C dX7_keeps_212 rfl rfl ?_
      refine tt_iaload (pc := 213) (ws := (mC cy ad sc (va_up ar 23 (upd (ar 23) (ix ((118 : Int32) + v2)) ((ar 17) (ix v2)))) la)) (n := 8) (f := (ar 18)) C 13 0 mC_get18 rfl hf dX7_keeps_213 (fun hf => ?_)
      refine tt_iastore (pc := 214) (ws := (mC cy ad sc (va_up ar 23 (upd (ar 23) (ix ((118 : Int32) + v2)) ((ar 17) (ix v2)))) la)) (n := 150) (f := (upd (ar 23) (ix ((118 : Int32) + v2)) ((ar 17) (ix v2)))) (ws' := (mC cy ad sc (va_up (va_up ar 23 (upd (ar 23) (ix ((118 : Int32) + v2)) ((ar 17) (ix v2)))) 23 (upd (upd (ar 23) (ix ((118 : Int32) + v2)) ((ar 17) (ix v2))) (ix ((126 : Int32) + v2)) ((ar 18) (ix v2)))) la)) C rfl 17 0 mC_get23 rfl hf dX7_keeps_214 mC_set23 (fun hf => ?_)
      refine tt_iinc (pc := 215) (k := 2) (v := (v2 + 1)) (L' := [(2, .int (v2 + 1)), (0, .ref (ad 0)), (1, .ref (ad 23))]) C dX7_keeps_215 rfl rfl (by decide) rfl ?_
      refine tt_goto (pc := 218) (tgt := 185) C dX7_keeps_218 (by decide) ?_
      exact tt_locs [1, 2, 0] rfl (ih hf)
set_option maxHeartbeats 4000000 in
set_option maxRecDepth 100000 in
theorem k_X7_keeps_23 {l : Launch} {D : va_G} {cy : Nat → ClassId} {Bd : Nat} {xa : Xa} {ad : Nat → Nat} {N : Nat} {sc : Nat → Int32} {ar : Nat → Nat → Int32} {la : Nat → Nat → Int64} {out : (Nat → Nat → Int32)} (hf : f_X7_keeps_23 N sc ar = some out) : KC l yX7_keeps cX7_keeps 3 none 0 0 false D cy Bd xa [.ref (ad 0), .ref (ad 23)] (mC cy ad sc ar la) none (mC cy ad sc out la) := by
  refine kc_start (own := RX7) (by decide +kernel) rfl (Nat.le_of_ble_eq_true rfl) ?_
  intro p e s m args below meth c A C
  unfold f_X7_keeps_23 at hf
  refine tt_locs (L' := [(0, .ref (ad 0)), (1, .ref (ad 23))]) [0, 1] rfl ?_
  refine tt_iconst (pc := 0) (v := (0 : Int32)) C dX7_keeps_0 (by decide) ?_
  refine tt_istore_n (pc := 1) (L' := [(2, .int (0 : Int32)), (0, .ref (ad 0)), (1, .ref (ad 23))]) C dX7_keeps_1 rfl (by decide) rfl ?_
  refine tt_locs (L' := [(0, .ref (ad 0)), (1, .ref (ad 23)), (2, .int (0 : Int32))]) [1, 2, 0] rfl (l_X7_keeps_23_2 C (fun t1 hf => ?_) hf)
  refine tt_iconst (pc := 23) (v := (0 : Int32)) C dX7_keeps_23 (by decide) ?_
  refine tt_istore_n (pc := 24) (L' := [(2, .int (0 : Int32)), (0, .ref (ad 0)), (1, .ref (ad 23))]) C dX7_keeps_24 rfl (by decide) rfl ?_
  refine tt_locs (L' := [(0, .ref (ad 0)), (1, .ref (ad 23)), (2, .int (0 : Int32))]) [1, 2, 0] rfl (l_X7_keeps_23_25 C (fun t2 hf => ?_) hf)
  refine tt_iconst (pc := 120) (v := (0 : Int32)) C dX7_keeps_120 (by decide) ?_
  refine tt_istore_n (pc := 121) (L' := [(2, .int (0 : Int32)), (0, .ref (ad 0)), (1, .ref (ad 23))]) C dX7_keeps_121 rfl (by decide) rfl ?_
  refine tt_locs (L' := [(0, .ref (ad 0)), (1, .ref (ad 23)), (2, .int (0 : Int32))]) [1, 2, 0] rfl (l_X7_keeps_23_122 C (fun t3 hf => ?_) hf)
  refine tt_iconst (pc := 157) (v := (0 : Int32)) C dX7_keeps_157 (by decide) ?_
  refine tt_istore_n (pc := 158) (L' := [(2, .int (0 : Int32)), (0, .ref (ad 0)), (1, .ref (ad 23))]) C dX7_keeps_158 rfl (by decide) rfl ?_
  refine tt_locs (L' := [(0, .ref (ad 0)), (1, .ref (ad 23)), (2, .int (0 : Int32))]) [1, 2, 0] rfl (l_X7_keeps_23_159 C (fun t4 hf => ?_) hf)
  refine tt_iconst (pc := 183) (v := (0 : Int32)) C dX7_keeps_183 (by decide) ?_
  refine tt_istore_n (pc := 184) (L' := [(2, .int (0 : Int32)), (0, .ref (ad 0)), (1, .ref (ad 23))]) C dX7_keeps_184 rfl (by decide) rfl ?_
  refine tt_locs (L' := [(0, .ref (ad 0)), (1, .ref (ad 23)), (2, .int (0 : Int32))]) [1, 2, 0] rfl (l_X7_keeps_23_185 C (fun t5 hf => ?_) hf)
  refine tt_aload_n (pc := 221) (k := 1) C dX7_keeps_221 rfl rfl ?_
  refine tt_sipush (pc := 222) (v := (134 : Int32)) C dX7_keeps_222 (by decide) ?_
  refine tt_aload_n (pc := 225) (k := 0) C dX7_keeps_225 rfl rfl ?_
  refine tt_get (pc := 226) (ws := (mC cy ad sc t5 la)) (ci := 7) (v := .int (sc 0)) C fiX7 rfl 0 mC_obj 0 (by decide) q4_160 rfl dX7_keeps_226 ?_
  refine tt_iastore (pc := 229) (ws := (mC cy ad sc t5 la)) (n := 150) (f := (t5 23)) (ws' := (mC cy ad sc (va_up t5 23 (upd (t5 23) (ix (134 : Int32)) (sc 0))) la)) C rfl 17 0 mC_get23 rfl hf dX7_keeps_229 mC_set23 (fun hf => ?_)
  refine tt_aload_n (pc := 230) (k := 1) C dX7_keeps_230 rfl rfl ?_
  refine tt_sipush (pc := 231) (v := (135 : Int32)) C dX7_keeps_231 (by decide) ?_
  refine tt_aload_n (pc := 234) (k := 0) C dX7_keeps_234 rfl rfl ?_
  refine tt_get (pc := 235) (ws := (mC cy ad sc (va_up t5 23 (upd (t5 23) (ix (134 : Int32)) (sc 0))) la)) (ci := 7) (v := .int (sc 2)) C fiX7 rfl 0 mC_obj 2 (by decide) q4_162 rfl dX7_keeps_235 ?_
  refine tt_iastore (pc := 238) (ws := (mC cy ad sc (va_up t5 23 (upd (t5 23) (ix (134 : Int32)) (sc 0))) la)) (n := 150) (f := (upd (t5 23) (ix (134 : Int32)) (sc 0))) (ws' := (mC cy ad sc (va_up (va_up t5 23 (upd (t5 23) (ix (134 : Int32)) (sc 0))) 23 (upd (upd (t5 23) (ix (134 : Int32)) (sc 0)) (ix (135 : Int32)) (sc 2))) la)) C rfl 17 0 mC_get23 rfl hf dX7_keeps_238 mC_set23 (fun hf => ?_)
  refine tt_aload_n (pc := 239) (k := 1) C dX7_keeps_239 rfl rfl ?_
  refine tt_sipush (pc := 240) (v := (136 : Int32)) C dX7_keeps_240 (by decide) ?_
  refine tt_aload_n (pc := 243) (k := 0) C dX7_keeps_243 rfl rfl ?_
  refine tt_get (pc := 244) (ws := (mC cy ad sc (va_up (va_up t5 23 (upd (t5 23) (ix (134 : Int32)) (sc 0))) 23 (upd (upd (t5 23) (ix (134 : Int32)) (sc 0)) (ix (135 : Int32)) (sc 2))) la)) (ci := 7) (v := .int (sc 6)) C fiX7 rfl 0 mC_obj 6 (by decide) q4_166 rfl dX7_keeps_244 ?_
  refine tt_iastore (pc := 247) (ws := (mC cy ad sc (va_up (va_up t5 23 (upd (t5 23) (ix (134 : Int32)) (sc 0))) 23 (upd (upd (t5 23) (ix (134 : Int32)) (sc 0)) (ix (135 : Int32)) (sc 2))) la)) (n := 150) (f := (upd (upd (t5 23) (ix (134 : Int32)) (sc 0)) (ix (135 : Int32)) (sc 2))) (ws' := (mC cy ad sc (va_up (va_up (va_up t5 23 (upd (t5 23) (ix (134 : Int32)) (sc 0))) 23 (upd (upd (t5 23) (ix (134 : Int32)) (sc 0)) (ix (135 : Int32)) (sc 2))) 23 (upd (upd (upd (t5 23) (ix (134 : Int32)) (sc 0)) (ix (135 : Int32)) (sc 2)) (ix (136 : Int32)) (sc 6))) la)) C rfl 17 0 mC_get23 rfl hf dX7_keeps_247 mC_set23 (fun hf => ?_)
  refine tt_aload_n (pc := 248) (k := 1) C dX7_keeps_248 rfl rfl ?_
  refine tt_sipush (pc := 249) (v := (137 : Int32)) C dX7_keeps_249 (by decide) ?_
  refine tt_aload_n (pc := 252) (k := 0) C dX7_keeps_252 rfl rfl ?_
  refine tt_get (pc := 253) (ws := (mC cy ad sc (va_up (va_up (va_up t5 23 (upd (t5 23) (ix (134 : Int32)) (sc 0))) 23 (upd (upd (t5 23) (ix (134 : Int32)) (sc 0)) (ix (135 : Int32)) (sc 2))) 23 (upd (upd (upd (t5 23) (ix (134 : Int32)) (sc 0)) (ix (135 : Int32)) (sc 2)) (ix (136 : Int32)) (sc 6))) la)) (ci := 7) (v := .int (sc 9)) C fiX7 rfl 0 mC_obj 9 (by decide) q4_169 rfl dX7_keeps_253 ?_
  refine tt_iastore (pc := 256) (ws := (mC cy ad sc (va_up (va_up (va_up t5 23 (upd (t5 23) (ix (134 : Int32)) (sc 0))) 23 (upd (upd (t5 23) (ix (134 : Int32)) (sc 0)) (ix (135 : Int32)) (sc 2))) 23 (upd (upd (upd (t5 23) (ix (134 : Int32)) (sc 0)) (ix (135 : Int32)) (sc 2)) (ix (136 : Int32)) (sc 6))) la)) (n := 150) (f := (upd (upd (upd (t5 23) (ix (134 : Int32)) (sc 0)) (ix (135 : Int32)) (sc 2)) (ix (136 : Int32)) (sc 6))) (ws' := (mC cy ad sc (va_up (va_up (va_up (va_up t5 23 (upd (t5 23) (ix (134 : Int32)) (sc 0))) 23 (upd (upd (t5 23) (ix (134 : Int32)) (sc 0)) (ix (135 : Int32)) (sc 2))) 23 (upd (upd (upd (t5 23) (ix (134 : Int32)) (sc 0)) (ix (135 : Int32)) (sc 2)) (ix (136 : Int32)) (sc 6))) 23 (upd (upd (upd (upd (t5 23) (ix (134 : Int32)) (sc 0)) (ix (135 : Int32)) (sc 2)) (ix (136 : Int32)) (sc 6)) (ix (137 : Int32)) (sc 9))) la)) C rfl 17 0 mC_get23 rfl hf dX7_keeps_256 mC_set23 (fun hf => ?_)
  refine tt_aload_n (pc := 257) (k := 1) C dX7_keeps_257 rfl rfl ?_
  refine tt_sipush (pc := 258) (v := (138 : Int32)) C dX7_keeps_258 (by decide) ?_
  refine tt_aload_n (pc := 261) (k := 0) C dX7_keeps_261 rfl rfl ?_
  refine tt_get (pc := 262) (ws := (mC cy ad sc (va_up (va_up (va_up (va_up t5 23 (upd (t5 23) (ix (134 : Int32)) (sc 0))) 23 (upd (upd (t5 23) (ix (134 : Int32)) (sc 0)) (ix (135 : Int32)) (sc 2))) 23 (upd (upd (upd (t5 23) (ix (134 : Int32)) (sc 0)) (ix (135 : Int32)) (sc 2)) (ix (136 : Int32)) (sc 6))) 23 (upd (upd (upd (upd (t5 23) (ix (134 : Int32)) (sc 0)) (ix (135 : Int32)) (sc 2)) (ix (136 : Int32)) (sc 6)) (ix (137 : Int32)) (sc 9))) la)) (ci := 7) (v := .int (sc 14)) C fiX7 rfl 0 mC_obj 14 (by decide) q4_174 rfl dX7_keeps_262 ?_
  refine tt_iastore (pc := 265) (ws := (mC cy ad sc (va_up (va_up (va_up (va_up t5 23 (upd (t5 23) (ix (134 : Int32)) (sc 0))) 23 (upd (upd (t5 23) (ix (134 : Int32)) (sc 0)) (ix (135 : Int32)) (sc 2))) 23 (upd (upd (upd (t5 23) (ix (134 : Int32)) (sc 0)) (ix (135 : Int32)) (sc 2)) (ix (136 : Int32)) (sc 6))) 23 (upd (upd (upd (upd (t5 23) (ix (134 : Int32)) (sc 0)) (ix (135 : Int32)) (sc 2)) (ix (136 : Int32)) (sc 6)) (ix (137 : Int32)) (sc 9))) la)) (n := 150) (f := (upd (upd (upd (upd (t5 23) (ix (134 : Int32)) (sc 0)) (ix (135 : Int32)) (sc 2)) (ix (136 : Int32)) (sc 6)) (ix (137 : Int32)) (sc 9))) (ws' := (mC cy ad sc (va_up (va_up (va_up (va_up (va_up t5 23 (upd (t5 23) (ix (134 : Int32)) (sc 0))) 23 (upd (upd (t5 23) (ix (134 : Int32)) (sc 0)) (ix (135 : Int32)) (sc 2))) 23 (upd (upd (upd (t5 23) (ix (134 : Int32)) (sc 0)) (ix (135 : Int32)) (sc 2)) (ix (136 : Int32)) (sc 6))) 23 (upd (upd (upd (upd (t5 23) (ix (134 : Int32)) (sc 0)) (ix (135 : Int32)) (sc 2)) (ix (136 : Int32)) (sc 6)) (ix (137 : Int32)) (sc 9))) 23 (upd (upd (upd (upd (upd (t5 23) (ix (134 : Int32)) (sc 0)) (ix (135 : Int32)) (sc 2)) (ix (136 : Int32)) (sc 6)) (ix (137 : Int32)) (sc 9)) (ix (138 : Int32)) (sc 14))) la)) C rfl 17 0 mC_get23 rfl hf dX7_keeps_265 mC_set23 (fun hf => ?_)
  refine tt_aload_n (pc := 266) (k := 1) C dX7_keeps_266 rfl rfl ?_
  refine tt_sipush (pc := 267) (v := (139 : Int32)) C dX7_keeps_267 (by decide) ?_
  refine tt_aload_n (pc := 270) (k := 0) C dX7_keeps_270 rfl rfl ?_
  refine tt_get (pc := 271) (ws := (mC cy ad sc (va_up (va_up (va_up (va_up (va_up t5 23 (upd (t5 23) (ix (134 : Int32)) (sc 0))) 23 (upd (upd (t5 23) (ix (134 : Int32)) (sc 0)) (ix (135 : Int32)) (sc 2))) 23 (upd (upd (upd (t5 23) (ix (134 : Int32)) (sc 0)) (ix (135 : Int32)) (sc 2)) (ix (136 : Int32)) (sc 6))) 23 (upd (upd (upd (upd (t5 23) (ix (134 : Int32)) (sc 0)) (ix (135 : Int32)) (sc 2)) (ix (136 : Int32)) (sc 6)) (ix (137 : Int32)) (sc 9))) 23 (upd (upd (upd (upd (upd (t5 23) (ix (134 : Int32)) (sc 0)) (ix (135 : Int32)) (sc 2)) (ix (136 : Int32)) (sc 6)) (ix (137 : Int32)) (sc 9)) (ix (138 : Int32)) (sc 14))) la)) (ci := 7) (v := .int (sc 15)) C fiX7 rfl 0 mC_obj 15 (by decide) q4_175 rfl dX7_keeps_271 ?_
  refine tt_iastore (pc := 274) (ws := (mC cy ad sc (va_up (va_up (va_up (va_up (va_up t5 23 (upd (t5 23) (ix (134 : Int32)) (sc 0))) 23 (upd (upd (t5 23) (ix (134 : Int32)) (sc 0)) (ix (135 : Int32)) (sc 2))) 23 (upd (upd (upd (t5 23) (ix (134 : Int32)) (sc 0)) (ix (135 : Int32)) (sc 2)) (ix (136 : Int32)) (sc 6))) 23 (upd (upd (upd (upd (t5 23) (ix (134 : Int32)) (sc 0)) (ix (135 : Int32)) (sc 2)) (ix (136 : Int32)) (sc 6)) (ix (137 : Int32)) (sc 9))) 23 (upd (upd (upd (upd (upd (t5 23) (ix (134 : Int32)) (sc 0)) (ix (135 : Int32)) (sc 2)) (ix (136 : Int32)) (sc 6)) (ix (137 : Int32)) (sc 9)) (ix (138 : Int32)) (sc 14))) la)) (n := 150) (f := (upd (upd (upd (upd (upd (t5 23) (ix (134 : Int32)) (sc 0)) (ix (135 : Int32)) (sc 2)) (ix (136 : Int32)) (sc 6)) (ix (137 : Int32)) (sc 9)) (ix (138 : Int32)) (sc 14))) (ws' := (mC cy ad sc (va_up (va_up (va_up (va_up (va_up (va_up t5 23 (upd (t5 23) (ix (134 : Int32)) (sc 0))) 23 (upd (upd (t5 23) (ix (134 : Int32)) (sc 0)) (ix (135 : Int32)) (sc 2))) 23 (upd (upd (upd (t5 23) (ix (134 : Int32)) (sc 0)) (ix (135 : Int32)) (sc 2)) (ix (136 : Int32)) (sc 6))) 23 (upd (upd (upd (upd (t5 23) (ix (134 : Int32)) (sc 0)) (ix (135 : Int32)) (sc 2)) (ix (136 : Int32)) (sc 6)) (ix (137 : Int32)) (sc 9))) 23 (upd (upd (upd (upd (upd (t5 23) (ix (134 : Int32)) (sc 0)) (ix (135 : Int32)) (sc 2)) (ix (136 : Int32)) (sc 6)) (ix (137 : Int32)) (sc 9)) (ix (138 : Int32)) (sc 14))) 23 (upd (upd (upd (upd (upd (upd (t5 23) (ix (134 : Int32)) (sc 0)) (ix (135 : Int32)) (sc 2)) (ix (136 : Int32)) (sc 6)) (ix (137 : Int32)) (sc 9)) (ix (138 : Int32)) (sc 14)) (ix (139 : Int32)) (sc 15))) la)) C rfl 17 0 mC_get23 rfl hf dX7_keeps_274 mC_set23 (fun hf => ?_)
  obtain rfl := Option.some.inj hf
  exact tt_vreturn (pc := 275) C rfl rfl rfl dX7_keeps_275
