theorem dX6_oneIf_0 : decode cX6_oneIf 0 = .ok (.iload_n 0, 1) := by decide +kernel
theorem dX6_oneIf_1 : decode cX6_oneIf 1 = .ok (.ifCond .eq 7, 3) := by decide +kernel
theorem dX6_oneIf_4 : decode cX6_oneIf 4 = .ok (.iconst 1, 1) := by decide +kernel
theorem dX6_oneIf_5 : decode cX6_oneIf 5 = .ok (.goto 4, 3) := by decide +kernel
theorem dX6_oneIf_8 : decode cX6_oneIf 8 = .ok (.iconst 0, 1) := by decide +kernel
theorem dX6_oneIf_9 : decode cX6_oneIf 9 = .ok (.ireturn, 1) := by decide +kernel
set_option maxHeartbeats 4000000 in
set_option maxRecDepth 100000 in
theorem k_X6_oneIf {l : Launch} {D : va_G} {cy : Nat → ClassId} {Bd : Nat} {xa : Xa}  {N : Nat} {a1 : Int32} {out : Int32} (hf : f_X6_oneIf N a1 = some out) : KC l yX6_oneIf cX6_oneIf 1 (some .int) 0 0 true D cy Bd xa [.int a1] [] (some (.int out)) [] := by
  refine kc_start (own := RX6) (by decide +kernel) rfl (Nat.le_of_ble_eq_true rfl) ?_
  intro p e s m args below meth c A C
  unfold f_X6_oneIf at hf
  refine tt_locs (L' := [(0, .int a1)]) [0] rfl ?_
  refine tt_iload_n (pc := 0) (k := 0) C dX6_oneIf_0 rfl rfl ?_
  have k2 : TT p l e { frames := 0, cells := 0, slots := 0, locals := 0 } s m args below meth c 1 D A true (some (.int out)) [] 9 [] [.int (if a1 = 0 then (0 : Int32) else (1 : Int32))] [] := by
    obtain rfl := Option.some.inj hf
    exact tt_ireturn (pc := 9) C rfl rfl rfl dX6_oneIf_9
  refine tr_if_eq (pc := 1) (tgt := 8) C dX6_oneIf_1 (by decide) (fun c1 => ?_) (fun c1 => ?_)
  · refine tt_iconst (pc := 8) (v := (0 : Int32)) C dX6_oneIf_8 (by decide) ?_
    try simp only [if_pos c1] at k2 ⊢
    exact tt_locs [] rfl k2
  · refine tt_iconst (pc := 4) (v := (1 : Int32)) C dX6_oneIf_4 (by decide) ?_
    refine tt_goto (pc := 5) (tgt := 9) C dX6_oneIf_5 (by decide) ?_
    try simp only [if_neg c1] at k2 ⊢
    exact tt_locs [] rfl k2
theorem dX6_sight_0 : decode cX6_sight 0 = .ok (.aload_n 0, 1) := by decide +kernel
theorem dX6_sight_1 : decode cX6_sight 1 = .ok (.getfield 10, 3) := by decide +kernel
theorem dX6_sight_4 : decode cX6_sight 4 = .ok (.iload_n 1, 1) := by decide +kernel
theorem dX6_sight_5 : decode cX6_sight 5 = .ok (.invokevirtual 151, 3) := by decide +kernel
theorem dX6_sight_8 : decode cX6_sight 8 = .ok (.ifCond .eq 19, 3) := by decide +kernel
theorem dX6_sight_11 : decode cX6_sight 11 = .ok (.aload_n 0, 1) := by decide +kernel
theorem dX6_sight_12 : decode cX6_sight 12 = .ok (.getfield 10, 3) := by decide +kernel
theorem dX6_sight_15 : decode cX6_sight 15 = .ok (.iload_n 3, 1) := by decide +kernel
theorem dX6_sight_16 : decode cX6_sight 16 = .ok (.invokevirtual 151, 3) := by decide +kernel
theorem dX6_sight_19 : decode cX6_sight 19 = .ok (.ifCond .eq 8, 3) := by decide +kernel
theorem dX6_sight_22 : decode cX6_sight 22 = .ok (.iload_n 1, 1) := by decide +kernel
theorem dX6_sight_23 : decode cX6_sight 23 = .ok (.iload_n 3, 1) := by decide +kernel
theorem dX6_sight_24 : decode cX6_sight 24 = .ok (.if_icmp .ne 9, 3) := by decide +kernel
theorem dX6_sight_27 : decode cX6_sight 27 = .ok (.aload_n 0, 1) := by decide +kernel
theorem dX6_sight_28 : decode cX6_sight 28 = .ok (.iconst (-1), 1) := by decide +kernel
theorem dX6_sight_29 : decode cX6_sight 29 = .ok (.invokevirtual 87, 3) := by decide +kernel
theorem dX6_sight_32 : decode cX6_sight 32 = .ok (.ireturn, 1) := by decide +kernel
theorem dX6_sight_33 : decode cX6_sight 33 = .ok (.iload_n 2, 1) := by decide +kernel
theorem dX6_sight_34 : decode cX6_sight 34 = .ok (.ifCond .lt 8, 3) := by decide +kernel
theorem dX6_sight_37 : decode cX6_sight 37 = .ok (.iload 4, 2) := by decide +kernel
theorem dX6_sight_39 : decode cX6_sight 39 = .ok (.ifCond .ge 10, 3) := by decide +kernel
theorem dX6_sight_42 : decode cX6_sight 42 = .ok (.aload_n 0, 1) := by decide +kernel
theorem dX6_sight_43 : decode cX6_sight 43 = .ok (.bipush (-4), 2) := by decide +kernel
theorem dX6_sight_45 : decode cX6_sight 45 = .ok (.invokevirtual 87, 3) := by decide +kernel
theorem dX6_sight_48 : decode cX6_sight 48 = .ok (.ireturn, 1) := by decide +kernel
theorem dX6_sight_49 : decode cX6_sight 49 = .ok (.iload_n 2, 1) := by decide +kernel
theorem dX6_sight_50 : decode cX6_sight 50 = .ok (.bipush 60, 2) := by decide +kernel
theorem dX6_sight_52 : decode cX6_sight 52 = .ok (.if_icmp .gt 10, 3) := by decide +kernel
theorem dX6_sight_55 : decode cX6_sight 55 = .ok (.iload 4, 2) := by decide +kernel
theorem dX6_sight_57 : decode cX6_sight 57 = .ok (.bipush 60, 2) := by decide +kernel
theorem dX6_sight_59 : decode cX6_sight 59 = .ok (.if_icmp .le 10, 3) := by decide +kernel
theorem dX6_sight_62 : decode cX6_sight 62 = .ok (.aload_n 0, 1) := by decide +kernel
theorem dX6_sight_63 : decode cX6_sight 63 = .ok (.bipush (-6), 2) := by decide +kernel
theorem dX6_sight_65 : decode cX6_sight 65 = .ok (.invokevirtual 87, 3) := by decide +kernel
theorem dX6_sight_68 : decode cX6_sight 68 = .ok (.ireturn, 1) := by decide +kernel
theorem dX6_sight_69 : decode cX6_sight 69 = .ok (.aload_n 0, 1) := by decide +kernel
theorem dX6_sight_70 : decode cX6_sight 70 = .ok (.getfield 10, 3) := by decide +kernel
theorem dX6_sight_73 : decode cX6_sight 73 = .ok (.iload_n 1, 1) := by decide +kernel
theorem dX6_sight_74 : decode cX6_sight 74 = .ok (.iload_n 2, 1) := by decide +kernel
theorem dX6_sight_75 : decode cX6_sight 75 = .ok (.iload_n 3, 1) := by decide +kernel
theorem dX6_sight_76 : decode cX6_sight 76 = .ok (.iload 4, 2) := by decide +kernel
theorem dX6_sight_78 : decode cX6_sight 78 = .ok (.aload_n 0, 1) := by decide +kernel
theorem dX6_sight_79 : decode cX6_sight 79 = .ok (.getfield 10, 3) := by decide +kernel
theorem dX6_sight_82 : decode cX6_sight 82 = .ok (.invokevirtual 157, 3) := by decide +kernel
theorem dX6_sight_85 : decode cX6_sight 85 = .ok (.invokevirtual 164, 3) := by decide +kernel
theorem dX6_sight_88 : decode cX6_sight 88 = .ok (.invokestatic 168, 3) := by decide +kernel
theorem dX6_sight_91 : decode cX6_sight 91 = .ok (.ireturn, 1) := by decide +kernel
set_option maxHeartbeats 4000000 in
set_option maxRecDepth 100000 in
theorem k_X6_sight {l : Launch} {D : va_G} {cy : Nat → ClassId} {Bd : Nat} {xa : Xa} {xd : Nat → Nat → Nat} {N : Nat} {sX : Nat → Int32} {aX : Nat → Nat → Int32} {uG : Nat → Int32} {es : Nat → Int32} {ea : Nat → Nat → Int32} {sT : Nat → Int32} {aT : Nat → Nat → Int32} {tT : Nat → Nat → Int32} {pT : Nat → Int32} {qT : Nat → Nat → Int32} {ma : Nat → Nat → Int32} {sL : Nat → Int32} {aL : Nat → Nat → Int32} {tL : Nat → Nat → Int32} {pL : Nat → Int32} {qL : Nat → Nat → Int32} {sK : Nat → Int32} {aK : Nat → Nat → Int32} {tK : Nat → Nat → Int32} {pK : Nat → Int32} {qK : Nat → Nat → Int32} {sH : Nat → Nat → Int32} {rH : Nat → Nat → Int64} {uH : Nat → Nat → Int32} {a1 : Int32} {a2 : Int32} {a3 : Int32} {a4 : Int32} {out : Int32 × (Nat → Nat → Int32)} (hf : f_X6_sight N aX sL aL a1 a2 a3 a4 = some out) : KC l yX6_sight cX6_sight 5 (some .int) 2 54 false D cy Bd xa [.ref (xd 0 0), .int a1, .int a2, .int a3, .int a4] (xC cy xd sX aX uG es ea sT aT tT pT qT ma sL aL tL pL qL sK aK tK pK qK sH rH uH) (some (.int out.1)) (xC cy xd sX out.2 uG es ea sT aT tT pT qT ma sL aL tL pL qL sK aK tK pK qK sH rH uH) := by
  refine kc_start (own := RX6) (by decide +kernel) rfl (Nat.le_of_ble_eq_true rfl) ?_
  intro p e s m args below meth c A C
  unfold f_X6_sight at hf
  refine tt_locs (L' := [(0, .ref (xd 0 0)), (1, .int a1), (2, .int a2), (3, .int a3), (4, .int a4)]) [0, 1, 2, 3, 4] rfl ?_
  refine tt_aload_n (pc := 0) (k := 0) C dX6_sight_0 rfl rfl ?_
  refine tt_get (pc := 1) (ws := (xC cy xd sX aX uG es ea sT aT tT pT qT ma sL aL tL pL qL sK aK tK pK qK sH rH uH)) (ci := 6) (v := .ref ((xd 1) 0)) C fiX6 rfl 0 xC_obj 0 (by decide) q1_219 rfl dX6_sight_1 ?_
  refine tt_iload_n (pc := 4) (k := 1) C dX6_sight_4 rfl rfl ?_
  obtain ⟨r1, hr1, hf⟩ := bind_some hf
  refine tt_callR (pc := 5) (ws := (xC cy xd sX aX uG es ea sT aT tT pT qT ma sL aL tL pL qL sK aK tK pK qK sH rH uH)) (q0 := 28) (ci := 1) (rest := []) (st' := [.int r1]) C (k_X1_hasCell hr1) okX1_hasCell q3_55 rfl rfl xC_subL rfl rfl rfl (Nat.le_of_ble_eq_true rfl) ⟨Nat.le_of_ble_eq_true rfl, Nat.le_of_ble_eq_true rfl⟩ dX6_sight_5 ?_
  refine tt_if_eq (pc := 8) (tgt := 27) C dX6_sight_8 (by decide) hf (fun hf => ?_) (fun hf => ?_)
  · refine tt_aload_n (pc := 27) (k := 0) C dX6_sight_27 rfl rfl ?_
    refine tt_iconst (pc := 28) (v := (-1 : Int32)) C dX6_sight_28 (by decide) ?_
    obtain ⟨r2, hr2, hf⟩ := bind_some hf
    refine tt_callM (pc := 29) (ws := (xC cy xd sX aX uG es ea sT aT tT pT qT ma sL aL tL pL qL sK aK tK pK qK sH rH uH)) (q0 := 0) (ci := 6) (rest := []) (st' := [.int r2.1]) C rfl (k_X6_refused hr2) okX6_refused q2_19 rfl xC_obj rfl rfl rfl (Nat.le_of_ble_eq_true rfl) ⟨Nat.le_of_ble_eq_true rfl, Nat.le_of_ble_eq_true rfl⟩ dX6_sight_29 ?_
    obtain rfl := Option.some.inj hf
    exact tt_ireturn (pc := 32) C rfl rfl rfl dX6_sight_32
  · refine tt_aload_n (pc := 11) (k := 0) C dX6_sight_11 rfl rfl ?_
    refine tt_get (pc := 12) (ws := (xC cy xd sX aX uG es ea sT aT tT pT qT ma sL aL tL pL qL sK aK tK pK qK sH rH uH)) (ci := 6) (v := .ref ((xd 1) 0)) C fiX6 rfl 0 xC_obj 0 (by decide) q1_219 rfl dX6_sight_12 ?_
    refine tt_iload_n (pc := 15) (k := 3) C dX6_sight_15 rfl rfl ?_
    obtain ⟨r3, hr3, hf⟩ := bind_some hf
    refine tt_callR (pc := 16) (ws := (xC cy xd sX aX uG es ea sT aT tT pT qT ma sL aL tL pL qL sK aK tK pK qK sH rH uH)) (q0 := 28) (ci := 1) (rest := []) (st' := [.int r3]) C (k_X1_hasCell hr3) okX1_hasCell q3_55 rfl rfl xC_subL rfl rfl rfl (Nat.le_of_ble_eq_true rfl) ⟨Nat.le_of_ble_eq_true rfl, Nat.le_of_ble_eq_true rfl⟩ dX6_sight_16 ?_
    refine tt_if_eq (pc := 19) (tgt := 27) C dX6_sight_19 (by decide) hf (fun hf => ?_) (fun hf => ?_)
    · refine tt_aload_n (pc := 27) (k := 0) C dX6_sight_27 rfl rfl ?_
      refine tt_iconst (pc := 28) (v := (-1 : Int32)) C dX6_sight_28 (by decide) ?_
      obtain ⟨r4, hr4, hf⟩ := bind_some hf
      refine tt_callM (pc := 29) (ws := (xC cy xd sX aX uG es ea sT aT tT pT qT ma sL aL tL pL qL sK aK tK pK qK sH rH uH)) (q0 := 0) (ci := 6) (rest := []) (st' := [.int r4.1]) C rfl (k_X6_refused hr4) okX6_refused q2_19 rfl xC_obj rfl rfl rfl (Nat.le_of_ble_eq_true rfl) ⟨Nat.le_of_ble_eq_true rfl, Nat.le_of_ble_eq_true rfl⟩ dX6_sight_29 ?_
      obtain rfl := Option.some.inj hf
      exact tt_ireturn (pc := 32) C rfl rfl rfl dX6_sight_32
    · refine tt_iload_n (pc := 22) (k := 1) C dX6_sight_22 rfl rfl ?_
      refine tt_iload_n (pc := 23) (k := 3) C dX6_sight_23 rfl rfl ?_
      refine tt_icmp_ne (pc := 24) (tgt := 33) C dX6_sight_24 (by decide) hf (fun hf => ?_) (fun hf => ?_)
      · refine tt_iload_n (pc := 33) (k := 2) C dX6_sight_33 rfl rfl ?_
        refine tt_if_lt (pc := 34) (tgt := 42) C dX6_sight_34 (by decide) hf (fun hf => ?_) (fun hf => ?_)
        · refine tt_aload_n (pc := 42) (k := 0) C dX6_sight_42 rfl rfl ?_
          refine tt_bipush (pc := 43) (v := (-4 : Int32)) C dX6_sight_43 (by decide) ?_
          obtain ⟨r5, hr5, hf⟩ := bind_some hf
          refine tt_callM (pc := 45) (ws := (xC cy xd sX aX uG es ea sT aT tT pT qT ma sL aL tL pL qL sK aK tK pK qK sH rH uH)) (q0 := 0) (ci := 6) (rest := []) (st' := [.int r5.1]) C rfl (k_X6_refused hr5) okX6_refused q2_19 rfl xC_obj rfl rfl rfl (Nat.le_of_ble_eq_true rfl) ⟨Nat.le_of_ble_eq_true rfl, Nat.le_of_ble_eq_true rfl⟩ dX6_sight_45 ?_
          obtain rfl := Option.some.inj hf
          exact tt_ireturn (pc := 48) C rfl rfl rfl dX6_sight_48
        · refine tt_iload (pc := 37) (k := 4) C dX6_sight_37 rfl ?_
          refine tt_if_ge (pc := 39) (tgt := 49) C dX6_sight_39 (by decide) hf (fun hf => ?_) (fun hf => ?_)
          · refine tt_iload_n (pc := 49) (k := 2) C dX6_sight_49 rfl rfl ?_
            refine tt_bipush (pc := 50) (v := (60 : Int32)) C dX6_sight_50 (by decide) ?_
            refine tt_icmp_gt (pc := 52) (tgt := 62) C dX6_sight_52 (by decide) hf (fun hf => ?_) (fun hf => ?_)
            · refine tt_aload_n (pc := 62) (k := 0) C dX6_sight_62 rfl rfl ?_
              refine tt_bipush (pc := 63) (v := (-6 : Int32)) C dX6_sight_63 (by decide) ?_
              obtain ⟨r6, hr6, hf⟩ := bind_some hf
              refine tt_callM (pc := 65) (ws := (xC cy xd sX aX uG es ea sT aT tT pT qT ma sL aL tL pL qL sK aK tK pK qK sH rH uH)) (q0 := 0) (ci := 6) (rest := []) (st' := [.int r6.1]) C rfl (k_X6_refused hr6) okX6_refused q2_19 rfl xC_obj rfl rfl rfl (Nat.le_of_ble_eq_true rfl) ⟨Nat.le_of_ble_eq_true rfl, Nat.le_of_ble_eq_true rfl⟩ dX6_sight_65 ?_
              obtain rfl := Option.some.inj hf
              exact tt_ireturn (pc := 68) C rfl rfl rfl dX6_sight_68
            · refine tt_iload (pc := 55) (k := 4) C dX6_sight_55 rfl ?_
              refine tt_bipush (pc := 57) (v := (60 : Int32)) C dX6_sight_57 (by decide) ?_
              refine tt_icmp_le (pc := 59) (tgt := 69) C dX6_sight_59 (by decide) hf (fun hf => ?_) (fun hf => ?_)
              · refine tt_aload_n (pc := 69) (k := 0) C dX6_sight_69 rfl rfl ?_
                refine tt_get (pc := 70) (ws := (xC cy xd sX aX uG es ea sT aT tT pT qT ma sL aL tL pL qL sK aK tK pK qK sH rH uH)) (ci := 6) (v := .ref ((xd 1) 0)) C fiX6 rfl 0 xC_obj 0 (by decide) q1_219 rfl dX6_sight_70 ?_
                refine tt_iload_n (pc := 73) (k := 1) C dX6_sight_73 rfl rfl ?_
                refine tt_iload_n (pc := 74) (k := 2) C dX6_sight_74 rfl rfl ?_
                refine tt_iload_n (pc := 75) (k := 3) C dX6_sight_75 rfl rfl ?_
                refine tt_iload (pc := 76) (k := 4) C dX6_sight_76 rfl ?_
                refine tt_aload_n (pc := 78) (k := 0) C dX6_sight_78 rfl rfl ?_
                refine tt_get (pc := 79) (ws := (xC cy xd sX aX uG es ea sT aT tT pT qT ma sL aL tL pL qL sK aK tK pK qK sH rH uH)) (ci := 6) (v := .ref ((xd 1) 0)) C fiX6 rfl 0 xC_obj 0 (by decide) q1_219 rfl dX6_sight_79 ?_
                obtain ⟨r7, hr7, hf⟩ := bind_some hf
                refine tt_callR (pc := 82) (ws := (xC cy xd sX aX uG es ea sT aT tT pT qT ma sL aL tL pL qL sK aK tK pK qK sH rH uH)) (q0 := 28) (ci := 1) (rest := [.int a4, .int a3, .int a2, .int a1, .ref ((xd 1) 0)]) (st' := [.int r7, .int a4, .int a3, .int a2, .int a1, .ref ((xd 1) 0)]) C (k_X1_allBridges hr7) okX1_allBridges q3_60 rfl rfl xC_subL rfl rfl rfl (Nat.le_of_ble_eq_true rfl) ⟨Nat.le_of_ble_eq_true rfl, Nat.le_of_ble_eq_true rfl⟩ dX6_sight_82 ?_
                obtain ⟨r8, hr8, hf⟩ := bind_some hf
                refine tt_callR (pc := 85) (ws := (xC cy xd sX aX uG es ea sT aT tT pT qT ma sL aL tL pL qL sK aK tK pK qK sH rH uH)) (q0 := 28) (ci := 1) (rest := []) (st' := [.int r8]) C (k_X1_isClear hr8) okX1_isClear q3_88 rfl rfl xC_subL rfl rfl rfl (Nat.le_of_ble_eq_true rfl) ⟨Nat.le_of_ble_eq_true rfl, Nat.le_of_ble_eq_true rfl⟩ dX6_sight_85 ?_
                obtain ⟨r9, hr9, hf⟩ := bind_some hf
                refine tt_callS (pc := 88) (ws := (xC cy xd sX aX uG es ea sT aT tT pT qT ma sL aL tL pL qL sK aK tK pK qK sH rH uH)) (rest := []) (st' := [.int r9]) C (k_X6_oneIf hr9) okX6_oneIf q3_95 (fun _ h => absurd h List.not_mem_nil) rfl rfl rfl (Nat.le_of_ble_eq_true rfl) ⟨Nat.le_of_ble_eq_true rfl, Nat.le_of_ble_eq_true rfl⟩ dX6_sight_88 ?_
                obtain rfl := Option.some.inj hf
                exact tt_ireturn (pc := 91) C rfl rfl rfl dX6_sight_91
              · refine tt_aload_n (pc := 62) (k := 0) C dX6_sight_62 rfl rfl ?_
                refine tt_bipush (pc := 63) (v := (-6 : Int32)) C dX6_sight_63 (by decide) ?_
                obtain ⟨r10, hr10, hf⟩ := bind_some hf
                refine tt_callM (pc := 65) (ws := (xC cy xd sX aX uG es ea sT aT tT pT qT ma sL aL tL pL qL sK aK tK pK qK sH rH uH)) (q0 := 0) (ci := 6) (rest := []) (st' := [.int r10.1]) C rfl (k_X6_refused hr10) okX6_refused q2_19 rfl xC_obj rfl rfl rfl (Nat.le_of_ble_eq_true rfl) ⟨Nat.le_of_ble_eq_true rfl, Nat.le_of_ble_eq_true rfl⟩ dX6_sight_65 ?_
                obtain rfl := Option.some.inj hf
                exact tt_ireturn (pc := 68) C rfl rfl rfl dX6_sight_68
          · refine tt_aload_n (pc := 42) (k := 0) C dX6_sight_42 rfl rfl ?_
            refine tt_bipush (pc := 43) (v := (-4 : Int32)) C dX6_sight_43 (by decide) ?_
            obtain ⟨r11, hr11, hf⟩ := bind_some hf
            refine tt_callM (pc := 45) (ws := (xC cy xd sX aX uG es ea sT aT tT pT qT ma sL aL tL pL qL sK aK tK pK qK sH rH uH)) (q0 := 0) (ci := 6) (rest := []) (st' := [.int r11.1]) C rfl (k_X6_refused hr11) okX6_refused q2_19 rfl xC_obj rfl rfl rfl (Nat.le_of_ble_eq_true rfl) ⟨Nat.le_of_ble_eq_true rfl, Nat.le_of_ble_eq_true rfl⟩ dX6_sight_45 ?_
            obtain rfl := Option.some.inj hf
            exact tt_ireturn (pc := 48) C rfl rfl rfl dX6_sight_48
      · refine tt_aload_n (pc := 27) (k := 0) C dX6_sight_27 rfl rfl ?_
        refine tt_iconst (pc := 28) (v := (-1 : Int32)) C dX6_sight_28 (by decide) ?_
        obtain ⟨r12, hr12, hf⟩ := bind_some hf
        refine tt_callM (pc := 29) (ws := (xC cy xd sX aX uG es ea sT aT tT pT qT ma sL aL tL pL qL sK aK tK pK qK sH rH uH)) (q0 := 0) (ci := 6) (rest := []) (st' := [.int r12.1]) C rfl (k_X6_refused hr12) okX6_refused q2_19 rfl xC_obj rfl rfl rfl (Nat.le_of_ble_eq_true rfl) ⟨Nat.le_of_ble_eq_true rfl, Nat.le_of_ble_eq_true rfl⟩ dX6_sight_29 ?_
        obtain rfl := Option.some.inj hf
        exact tt_ireturn (pc := 32) C rfl rfl rfl dX6_sight_32
theorem dX1_seesPost_0 : decode cX1_seesPost 0 = .ok (.aload_n 0, 1) := by decide +kernel
theorem dX1_seesPost_1 : decode cX1_seesPost 1 = .ok (.getfield 34, 3) := by decide +kernel
theorem dX1_seesPost_4 : decode cX1_seesPost 4 = .ok (.iload_n 2, 1) := by decide +kernel
theorem dX1_seesPost_5 : decode cX1_seesPost 5 = .ok (.iaload, 1) := by decide +kernel
theorem dX1_seesPost_6 : decode cX1_seesPost 6 = .ok (.istore 5, 2) := by decide +kernel
theorem dX1_seesPost_8 : decode cX1_seesPost 8 = .ok (.aload_n 1, 1) := by decide +kernel
theorem dX1_seesPost_9 : decode cX1_seesPost 9 = .ok (.getfield 103, 3) := by decide +kernel
theorem dX1_seesPost_12 : decode cX1_seesPost 12 = .ok (.ifCond .ne 17, 3) := by decide +kernel
theorem dX1_seesPost_15 : decode cX1_seesPost 15 = .ok (.iload 5, 2) := by decide +kernel
theorem dX1_seesPost_17 : decode cX1_seesPost 17 = .ok (.iload_n 3, 1) := by decide +kernel
theorem dX1_seesPost_18 : decode cX1_seesPost 18 = .ok (.if_icmp .le 7, 3) := by decide +kernel
theorem dX1_seesPost_21 : decode cX1_seesPost 21 = .ok (.iconst 1, 1) := by decide +kernel
theorem dX1_seesPost_22 : decode cX1_seesPost 22 = .ok (.goto 18, 3) := by decide +kernel
theorem dX1_seesPost_25 : decode cX1_seesPost 25 = .ok (.iconst 0, 1) := by decide +kernel
theorem dX1_seesPost_26 : decode cX1_seesPost 26 = .ok (.goto 14, 3) := by decide +kernel
theorem dX1_seesPost_29 : decode cX1_seesPost 29 = .ok (.iload 5, 2) := by decide +kernel
theorem dX1_seesPost_31 : decode cX1_seesPost 31 = .ok (.iload_n 3, 1) := by decide +kernel
theorem dX1_seesPost_32 : decode cX1_seesPost 32 = .ok (.if_icmp .ge 7, 3) := by decide +kernel
theorem dX1_seesPost_35 : decode cX1_seesPost 35 = .ok (.iconst 1, 1) := by decide +kernel
theorem dX1_seesPost_36 : decode cX1_seesPost 36 = .ok (.goto 4, 3) := by decide +kernel
theorem dX1_seesPost_39 : decode cX1_seesPost 39 = .ok (.iconst 0, 1) := by decide +kernel
theorem dX1_seesPost_40 : decode cX1_seesPost 40 = .ok (.istore 6, 2) := by decide +kernel
theorem dX1_seesPost_42 : decode cX1_seesPost 42 = .ok (.iload 6, 2) := by decide +kernel
theorem dX1_seesPost_44 : decode cX1_seesPost 44 = .ok (.ifCond .eq 29, 3) := by decide +kernel
theorem dX1_seesPost_47 : decode cX1_seesPost 47 = .ok (.aload_n 0, 1) := by decide +kernel
theorem dX1_seesPost_48 : decode cX1_seesPost 48 = .ok (.iload_n 3, 1) := by decide +kernel
theorem dX1_seesPost_49 : decode cX1_seesPost 49 = .ok (.aload_n 1, 1) := by decide +kernel
theorem dX1_seesPost_50 : decode cX1_seesPost 50 = .ok (.invokevirtual 130, 3) := by decide +kernel
theorem dX1_seesPost_53 : decode cX1_seesPost 53 = .ok (.iload 5, 2) := by decide +kernel
theorem dX1_seesPost_55 : decode cX1_seesPost 55 = .ok (.aload_n 0, 1) := by decide +kernel
theorem dX1_seesPost_56 : decode cX1_seesPost 56 = .ok (.getfield 37, 3) := by decide +kernel
theorem dX1_seesPost_59 : decode cX1_seesPost 59 = .ok (.iload_n 2, 1) := by decide +kernel
theorem dX1_seesPost_60 : decode cX1_seesPost 60 = .ok (.iaload, 1) := by decide +kernel
theorem dX1_seesPost_61 : decode cX1_seesPost 61 = .ok (.iload 4, 2) := by decide +kernel
theorem dX1_seesPost_63 : decode cX1_seesPost 63 = .ok (.invokevirtual 133, 3) := by decide +kernel
theorem dX1_seesPost_66 : decode cX1_seesPost 66 = .ok (.ifCond .eq 7, 3) := by decide +kernel
theorem dX1_seesPost_69 : decode cX1_seesPost 69 = .ok (.iconst 1, 1) := by decide +kernel
theorem dX1_seesPost_70 : decode cX1_seesPost 70 = .ok (.goto 4, 3) := by decide +kernel
theorem dX1_seesPost_73 : decode cX1_seesPost 73 = .ok (.iconst 0, 1) := by decide +kernel
theorem dX1_seesPost_74 : decode cX1_seesPost 74 = .ok (.ireturn, 1) := by decide +kernel
set_option maxHeartbeats 4000000 in
set_option maxRecDepth 100000 in
theorem k_X1_seesPost {l : Launch} {D : va_G} {cy : Nat → ClassId} {Bd : Nat} {xa : Xa} {q : Nat} {ad : Nat → Nat} {N : Nat} {u : Nat → Int32} {sc : Nat → Int32} {ar : Nat → Nat → Int32} {tr : Nat → Nat → Int32} {ps : Nat → Int32} {pa : Nat → Nat → Int32} {a2 : Int32} {a3 : Int32} {a4 : Int32} {out : Int32} (hf : f_X1_seesPost N u sc ar a2 a3 a4 = some out) : KC l yX1_seesPost cX1_seesPost 7 (some .boolean) 2 54 true D cy Bd xa [.ref (ad 0), .ref q, .int a2, .int a3, .int a4] ((q, tE u) :: lC cy ad sc ar tr ps pa) (some (.int out)) ((q, tE u) :: lC cy ad sc ar tr ps pa) := by
  refine kc_start (own := RX1) (by decide +kernel) rfl (Nat.le_of_ble_eq_true rfl) ?_
  intro p e s m args below meth c A C
  unfold f_X1_seesPost at hf
  refine tt_locs (L' := [(0, .ref (ad 0)), (1, .ref q), (2, .int a2), (3, .int a3), (4, .int a4)]) [0, 1, 2, 3, 4] rfl ?_
  refine tt_aload_n (pc := 0) (k := 0) C dX1_seesPost_0 rfl rfl ?_
  refine tt_get (pc := 1) (ws := ((q, tE u) :: lC cy ad sc ar tr ps pa)) (ci := 1) (v := .ref (ad 7)) C fiX1 rfl 1 rfl 7 (by decide) q1_98 rfl dX1_seesPost_1 ?_
  refine tt_iload_n (pc := 4) (k := 2) C dX1_seesPost_4 rfl rfl ?_
  refine tt_iaload (pc := 5) (ws := ((q, tE u) :: lC cy ad sc ar tr ps pa)) (n := 5) (f := (ar 7)) C 6 0 rfl rfl hf dX1_seesPost_5 (fun hf => ?_)
  refine tt_istore (pc := 6) (L' := [(5, .int ((ar 7) (ix a2))), (0, .ref (ad 0)), (1, .ref q), (2, .int a2), (3, .int a3), (4, .int a4)]) C dX1_seesPost_6 (by decide) rfl ?_
  refine tt_aload_n (pc := 8) (k := 2) C dX1_seesPost_8 rfl rfl ?_
  refine tt_get (pc := 9) (ws := ((q, tE u) :: lC cy ad sc ar tr ps pa)) (ci := 5) (v := .int (u 3)) C fiX5 rfl 0 rfl 3 (by decide) q1_72 rfl dX1_seesPost_9 ?_
  have k4 : TT p l e { frames := 2, cells := 0, slots := 0, locals := 54 } s m args below meth c 7 D A true (some (.int out)) ((q, tE u) :: lC cy ad sc ar tr ps pa) 40 [(0, .ref (ad 0)), (1, .ref q), (2, .int a2), (3, .int a3), (4, .int a4), (5, .int ((ar 7) (ix a2)))] [.int (if (u 3) = 0 then (if ((ar 7) (ix a2)) ≤ a3 then (0 : Int32) else (1 : Int32)) else (if a3 ≤ ((ar 7) (ix a2)) then (0 : Int32) else (1 : Int32)))] ((q, tE u) :: lC cy ad sc ar tr ps pa) := by
    refine tt_istore (pc := 40) (L' := [(6, .int (if (u 3) = 0 then (if ((ar 7) (ix a2)) ≤ a3 then (0 : Int32) else (1 : Int32)) else (if a3 ≤ ((ar 7) (ix a2)) then (0 : Int32) else (1 : Int32)))), (0, .ref (ad 0)), (1, .ref q), (2, .int a2), (3, .int a3), (4, .int a4), (5, .int ((ar 7) (ix a2)))]) C dX1_seesPost_40 (by decide) rfl ?_
    refine tt_iload (pc := 42) (k := 0) C dX1_seesPost_42 rfl ?_
    obtain ⟨j5, hj5, hf⟩ := bind_some hf
    have k6 : TT p l e { frames := 2, cells := 0, slots := 0, locals := 54 } s m args below meth c 7 D A true (some (.int out)) ((q, tE u) :: lC cy ad sc ar tr ps pa) 74 [] [.int j5] ((q, tE u) :: lC cy ad sc ar tr ps pa) := by
      obtain ⟨hz, hf⟩ := zchk hf
      obtain rfl := Option.some.inj hf
      exact tt_zreturn (pc := 74) C rfl hz rfl rfl dX1_seesPost_74
    refine tt_if_eq (pc := 44) (tgt := 73) C dX1_seesPost_44 (by decide) hj5 (fun hj5 => ?_) (fun hj5 => ?_)
    · refine tt_iconst (pc := 73) (v := (0 : Int32)) C dX1_seesPost_73 (by decide) ?_
      obtain rfl := Option.some.inj hj5
      exact tt_locs [] rfl k6
    · refine tt_aload_n (pc := 47) (k := 1) C dX1_seesPost_47 rfl rfl ?_
      refine tt_iload_n (pc := 48) (k := 4) C dX1_seesPost_48 rfl rfl ?_
      refine tt_aload_n (pc := 49) (k := 2) C dX1_seesPost_49 rfl rfl ?_
      obtain ⟨r7, hr7, hj5⟩ := bind_some hj5
      refine tt_callR (pc := 50) (ws := ((q, tE u) :: lC cy ad sc ar tr ps pa)) (q0 := 0) (ci := 5) (rest := [.int a3, .ref (ad 0)]) (st' := [.int r7, .int a3, .ref (ad 0)]) C (k_X5_eye hr7) okX5_eye q3_106 rfl rfl (sub_1 List.mem_cons_self) rfl rfl rfl (Nat.le_of_ble_eq_true rfl) ⟨Nat.le_of_ble_eq_true rfl, Nat.le_of_ble_eq_true rfl⟩ dX1_seesPost_50 ?_
      refine tt_iload (pc := 53) (k := 6) C dX1_seesPost_53 rfl ?_
      refine tt_aload_n (pc := 55) (k := 1) C dX1_seesPost_55 rfl rfl ?_
      refine tt_get (pc := 56) (ws := ((q, tE u) :: lC cy ad sc ar tr ps pa)) (ci := 1) (v := .ref (ad 8)) C fiX1 rfl 1 rfl 8 (by decide) q1_101 rfl dX1_seesPost_56 ?_
      refine tt_iload_n (pc := 59) (k := 3) C dX1_seesPost_59 rfl rfl ?_
      refine tt_iaload (pc := 60) (ws := ((q, tE u) :: lC cy ad sc ar tr ps pa)) (n := 5) (f := (ar 8)) C 7 0 rfl rfl hj5 dX1_seesPost_60 (fun hj5 => ?_)
      refine tt_iload (pc := 61) (k := 5) C dX1_seesPost_61 rfl ?_
      obtain ⟨r8, hr8, hj5⟩ := bind_some hj5
      refine tt_callR (pc := 63) (ws := ((q, tE u) :: lC cy ad sc ar tr ps pa)) (q0 := 1) (ci := 1) (rest := []) (st' := [.int r8]) C (k_X1_isClear hr8) okX1_isClear q3_107 rfl rfl (fun _ h => List.mem_cons_of_mem _ h) rfl rfl rfl (Nat.le_of_ble_eq_true rfl) ⟨Nat.le_of_ble_eq_true rfl, Nat.le_of_ble_eq_true rfl⟩ dX1_seesPost_63 ?_
      have k10 : TT p l e { frames := 2, cells := 0, slots := 0, locals := 54 } s m args below meth c 7 D A true (some (.int out)) ((q, tE u) :: lC cy ad sc ar tr ps pa) 74 [] [.int (if r8 = 0 then (0 : Int32) else (1 : Int32))] ((q, tE u) :: lC cy ad sc ar tr ps pa) := by
        obtain rfl := Option.some.inj hj5
        exact tt_locs [] rfl k6
      refine tr_if_eq (pc := 66) (tgt := 73) C dX1_seesPost_66 (by decide) (fun c9 => ?_) (fun c9 => ?_)
      · refine tt_iconst (pc := 73) (v := (0 : Int32)) C dX1_seesPost_73 (by decide) ?_
        try simp only [if_pos c9] at k10 ⊢
        exact tt_locs [] rfl k10
      · refine tt_iconst (pc := 69) (v := (1 : Int32)) C dX1_seesPost_69 (by decide) ?_
        refine tt_goto (pc := 70) (tgt := 74) C dX1_seesPost_70 (by decide) ?_
        try simp only [if_neg c9] at k10 ⊢
        exact tt_locs [] rfl k10
  refine tr_if_ne (pc := 12) (tgt := 29) C dX1_seesPost_12 (by decide) (fun c1 => ?_) (fun c1 => ?_)
  · refine tt_iload (pc := 29) (k := 0) C dX1_seesPost_29 rfl ?_
    refine tt_iload_n (pc := 31) (k := 4) C dX1_seesPost_31 rfl rfl ?_
    refine tr_icmp_ge (pc := 32) (tgt := 39) C dX1_seesPost_32 (by decide) (fun c2 => ?_) (fun c2 => ?_)
    · refine tt_iconst (pc := 39) (v := (0 : Int32)) C dX1_seesPost_39 (by decide) ?_
      try simp only [if_neg c1, if_pos c2] at k4 ⊢
      exact tt_locs [1, 2, 3, 4, 5, 0] rfl k4
    · refine tt_iconst (pc := 35) (v := (1 : Int32)) C dX1_seesPost_35 (by decide) ?_
      refine tt_goto (pc := 36) (tgt := 40) C dX1_seesPost_36 (by decide) ?_
      try simp only [if_neg c1, if_neg c2] at k4 ⊢
      exact tt_locs [1, 2, 3, 4, 5, 0] rfl k4
  · refine tt_iload (pc := 15) (k := 0) C dX1_seesPost_15 rfl ?_
    refine tt_iload_n (pc := 17) (k := 4) C dX1_seesPost_17 rfl rfl ?_
    refine tr_icmp_le (pc := 18) (tgt := 25) C dX1_seesPost_18 (by decide) (fun c3 => ?_) (fun c3 => ?_)
    · refine tt_iconst (pc := 25) (v := (0 : Int32)) C dX1_seesPost_25 (by decide) ?_
      refine tt_goto (pc := 26) (tgt := 40) C dX1_seesPost_26 (by decide) ?_
      try simp only [if_pos c1, if_pos c3] at k4 ⊢
      exact tt_locs [1, 2, 3, 4, 5, 0] rfl k4
    · refine tt_iconst (pc := 21) (v := (1 : Int32)) C dX1_seesPost_21 (by decide) ?_
      refine tt_goto (pc := 22) (tgt := 40) C dX1_seesPost_22 (by decide) ?_
      try simp only [if_pos c1, if_neg c3] at k4 ⊢
      exact tt_locs [1, 2, 3, 4, 5, 0] rfl k4
theorem dX6_sees_0 : decode cX6_sees 0 = .ok (.aload_n 0, 1) := by decide +kernel
theorem dX6_sees_1 : decode cX6_sees 1 = .ok (.getfield 10, 3) := by decide +kernel
theorem dX6_sees_4 : decode cX6_sees 4 = .ok (.iload_n 1, 1) := by decide +kernel
theorem dX6_sees_5 : decode cX6_sees 5 = .ok (.invokevirtual 129, 3) := by decide +kernel
theorem dX6_sees_8 : decode cX6_sees 8 = .ok (.ifCond .eq 25, 3) := by decide +kernel
theorem dX6_sees_11 : decode cX6_sees 11 = .ok (.aload_n 0, 1) := by decide +kernel
theorem dX6_sees_12 : decode cX6_sees 12 = .ok (.getfield 10, 3) := by decide +kernel
theorem dX6_sees_15 : decode cX6_sees 15 = .ok (.iload_n 2, 1) := by decide +kernel
theorem dX6_sees_16 : decode cX6_sees 16 = .ok (.invokevirtual 120, 3) := by decide +kernel
theorem dX6_sees_19 : decode cX6_sees 19 = .ok (.ifCond .eq 14, 3) := by decide +kernel
theorem dX6_sees_22 : decode cX6_sees 22 = .ok (.aload_n 0, 1) := by decide +kernel
theorem dX6_sees_23 : decode cX6_sees 23 = .ok (.getfield 10, 3) := by decide +kernel
theorem dX6_sees_26 : decode cX6_sees 26 = .ok (.iload_n 3, 1) := by decide +kernel
theorem dX6_sees_27 : decode cX6_sees 27 = .ok (.invokevirtual 151, 3) := by decide +kernel
theorem dX6_sees_30 : decode cX6_sees 30 = .ok (.ifCond .ne 9, 3) := by decide +kernel
theorem dX6_sees_33 : decode cX6_sees 33 = .ok (.aload_n 0, 1) := by decide +kernel
theorem dX6_sees_34 : decode cX6_sees 34 = .ok (.iconst (-1), 1) := by decide +kernel
theorem dX6_sees_35 : decode cX6_sees 35 = .ok (.invokevirtual 87, 3) := by decide +kernel
theorem dX6_sees_38 : decode cX6_sees 38 = .ok (.ireturn, 1) := by decide +kernel
theorem dX6_sees_39 : decode cX6_sees 39 = .ok (.aload_n 0, 1) := by decide +kernel
theorem dX6_sees_40 : decode cX6_sees 40 = .ok (.getfield 10, 3) := by decide +kernel
theorem dX6_sees_43 : decode cX6_sees 43 = .ok (.aload_n 0, 1) := by decide +kernel
theorem dX6_sees_44 : decode cX6_sees 44 = .ok (.getfield 10, 3) := by decide +kernel
theorem dX6_sees_47 : decode cX6_sees 47 = .ok (.getfield 132, 3) := by decide +kernel
theorem dX6_sees_50 : decode cX6_sees 50 = .ok (.iload_n 1, 1) := by decide +kernel
theorem dX6_sees_51 : decode cX6_sees 51 = .ok (.aaload, 1) := by decide +kernel
theorem dX6_sees_52 : decode cX6_sees 52 = .ok (.iload_n 2, 1) := by decide +kernel
theorem dX6_sees_53 : decode cX6_sees 53 = .ok (.iload_n 3, 1) := by decide +kernel
theorem dX6_sees_54 : decode cX6_sees 54 = .ok (.aload_n 0, 1) := by decide +kernel
theorem dX6_sees_55 : decode cX6_sees 55 = .ok (.getfield 10, 3) := by decide +kernel
theorem dX6_sees_58 : decode cX6_sees 58 = .ok (.invokevirtual 157, 3) := by decide +kernel
theorem dX6_sees_61 : decode cX6_sees 61 = .ok (.invokevirtual 172, 3) := by decide +kernel
theorem dX6_sees_64 : decode cX6_sees 64 = .ok (.invokestatic 168, 3) := by decide +kernel
theorem dX6_sees_67 : decode cX6_sees 67 = .ok (.ireturn, 1) := by decide +kernel
set_option maxHeartbeats 4000000 in
set_option maxRecDepth 100000 in
theorem k_X6_sees {l : Launch} {D : va_G} {cy : Nat → ClassId} {Bd : Nat} {xa : Xa} {xd : Nat → Nat → Nat} {N : Nat} {sX : Nat → Int32} {aX : Nat → Nat → Int32} {uG : Nat → Int32} {es : Nat → Int32} {ea : Nat → Nat → Int32} {sT : Nat → Int32} {aT : Nat → Nat → Int32} {tT : Nat → Nat → Int32} {pT : Nat → Int32} {qT : Nat → Nat → Int32} {ma : Nat → Nat → Int32} {sL : Nat → Int32} {aL : Nat → Nat → Int32} {tL : Nat → Nat → Int32} {pL : Nat → Int32} {qL : Nat → Nat → Int32} {sK : Nat → Int32} {aK : Nat → Nat → Int32} {tK : Nat → Nat → Int32} {pK : Nat → Int32} {qK : Nat → Nat → Int32} {sH : Nat → Nat → Int32} {rH : Nat → Nat → Int64} {uH : Nat → Nat → Int32} {a1 : Int32} {a2 : Int32} {a3 : Int32} {out : Int32 × (Nat → Nat → Int32)} (hf : f_X6_sees N aX sL aL tL a1 a2 a3 = some out) : KC l yX6_sees cX6_sees 4 (some .int) 3 80 false D cy Bd xa [.ref (xd 0 0), .int a1, .int a2, .int a3] (xC cy xd sX aX uG es ea sT aT tT pT qT ma sL aL tL pL qL sK aK tK pK qK sH rH uH) (some (.int out.1)) (xC cy xd sX out.2 uG es ea sT aT tT pT qT ma sL aL tL pL qL sK aK tK pK qK sH rH uH) := by
  refine kc_start (own := RX6) (by decide +kernel) rfl (Nat.le_of_ble_eq_true rfl) ?_
  intro p e s m args below meth c A C
  unfold f_X6_sees at hf
  refine tt_locs (L' := [(0, .ref (xd 0 0)), (1, .int a1), (2, .int a2), (3, .int a3)]) [0, 1, 2, 3] rfl ?_
  refine tt_aload_n (pc := 0) (k := 0) C dX6_sees_0 rfl rfl ?_
  refine tt_get (pc := 1) (ws := (xC cy xd sX aX uG es ea sT aT tT pT qT ma sL aL tL pL qL sK aK tK pK qK sH rH uH)) (ci := 6) (v := .ref ((xd 1) 0)) C fiX6 rfl 0 xC_obj 0 (by decide) q1_219 rfl dX6_sees_1 ?_
  refine tt_iload_n (pc := 4) (k := 1) C dX6_sees_4 rfl rfl ?_
  obtain ⟨r1, hr1, hf⟩ := bind_some hf
  refine tt_callR (pc := 5) (ws := (xC cy xd sX aX uG es ea sT aT tT pT qT ma sL aL tL pL qL sK aK tK pK qK sH rH uH)) (q0 := 28) (ci := 1) (rest := []) (st' := [.int r1]) C (k_X1_hasTrain hr1) okX1_hasTrain q3_43 rfl rfl xC_subL rfl rfl rfl (Nat.le_of_ble_eq_true rfl) ⟨Nat.le_of_ble_eq_true rfl, Nat.le_of_ble_eq_true rfl⟩ dX6_sees_5 ?_
  refine tt_if_eq (pc := 8) (tgt := 33) C dX6_sees_8 (by decide) hf (fun hf => ?_) (fun hf => ?_)
  · refine tt_aload_n (pc := 33) (k := 0) C dX6_sees_33 rfl rfl ?_
    refine tt_iconst (pc := 34) (v := (-1 : Int32)) C dX6_sees_34 (by decide) ?_
    obtain ⟨r2, hr2, hf⟩ := bind_some hf
    refine tt_callM (pc := 35) (ws := (xC cy xd sX aX uG es ea sT aT tT pT qT ma sL aL tL pL qL sK aK tK pK qK sH rH uH)) (q0 := 0) (ci := 6) (rest := []) (st' := [.int r2.1]) C rfl (k_X6_refused hr2) okX6_refused q2_19 rfl xC_obj rfl rfl rfl (Nat.le_of_ble_eq_true rfl) ⟨Nat.le_of_ble_eq_true rfl, Nat.le_of_ble_eq_true rfl⟩ dX6_sees_35 ?_
    obtain rfl := Option.some.inj hf
    exact tt_ireturn (pc := 38) C rfl rfl rfl dX6_sees_38
  · refine tt_aload_n (pc := 11) (k := 0) C dX6_sees_11 rfl rfl ?_
    refine tt_get (pc := 12) (ws := (xC cy xd sX aX uG es ea sT aT tT pT qT ma sL aL tL pL qL sK aK tK pK qK sH rH uH)) (ci := 6) (v := .ref ((xd 1) 0)) C fiX6 rfl 0 xC_obj 0 (by decide) q1_219 rfl dX6_sees_12 ?_
    refine tt_iload_n (pc := 15) (k := 2) C dX6_sees_15 rfl rfl ?_
    obtain ⟨r3, hr3, hf⟩ := bind_some hf
    refine tt_callR (pc := 16) (ws := (xC cy xd sX aX uG es ea sT aT tT pT qT ma sL aL tL pL qL sK aK tK pK qK sH rH uH)) (q0 := 28) (ci := 1) (rest := []) (st' := [.int r3]) C (k_X1_hasPost hr3) okX1_hasPost q3_38 rfl rfl xC_subL rfl rfl rfl (Nat.le_of_ble_eq_true rfl) ⟨Nat.le_of_ble_eq_true rfl, Nat.le_of_ble_eq_true rfl⟩ dX6_sees_16 ?_
    refine tt_if_eq (pc := 19) (tgt := 33) C dX6_sees_19 (by decide) hf (fun hf => ?_) (fun hf => ?_)
    · refine tt_aload_n (pc := 33) (k := 0) C dX6_sees_33 rfl rfl ?_
      refine tt_iconst (pc := 34) (v := (-1 : Int32)) C dX6_sees_34 (by decide) ?_
      obtain ⟨r4, hr4, hf⟩ := bind_some hf
      refine tt_callM (pc := 35) (ws := (xC cy xd sX aX uG es ea sT aT tT pT qT ma sL aL tL pL qL sK aK tK pK qK sH rH uH)) (q0 := 0) (ci := 6) (rest := []) (st' := [.int r4.1]) C rfl (k_X6_refused hr4) okX6_refused q2_19 rfl xC_obj rfl rfl rfl (Nat.le_of_ble_eq_true rfl) ⟨Nat.le_of_ble_eq_true rfl, Nat.le_of_ble_eq_true rfl⟩ dX6_sees_35 ?_
      obtain rfl := Option.some.inj hf
      exact tt_ireturn (pc := 38) C rfl rfl rfl dX6_sees_38
    · refine tt_aload_n (pc := 22) (k := 0) C dX6_sees_22 rfl rfl ?_
      refine tt_get (pc := 23) (ws := (xC cy xd sX aX uG es ea sT aT tT pT qT ma sL aL tL pL qL sK aK tK pK qK sH rH uH)) (ci := 6) (v := .ref ((xd 1) 0)) C fiX6 rfl 0 xC_obj 0 (by decide) q1_219 rfl dX6_sees_23 ?_
      refine tt_iload_n (pc := 26) (k := 3) C dX6_sees_26 rfl rfl ?_
      obtain ⟨r5, hr5, hf⟩ := bind_some hf
      refine tt_callR (pc := 27) (ws := (xC cy xd sX aX uG es ea sT aT tT pT qT ma sL aL tL pL qL sK aK tK pK qK sH rH uH)) (q0 := 28) (ci := 1) (rest := []) (st' := [.int r5]) C (k_X1_hasCell hr5) okX1_hasCell q3_55 rfl rfl xC_subL rfl rfl rfl (Nat.le_of_ble_eq_true rfl) ⟨Nat.le_of_ble_eq_true rfl, Nat.le_of_ble_eq_true rfl⟩ dX6_sees_27 ?_
      refine tt_if_ne (pc := 30) (tgt := 39) C dX6_sees_30 (by decide) hf (fun hf => ?_) (fun hf => ?_)
      · refine tt_aload_n (pc := 39) (k := 0) C dX6_sees_39 rfl rfl ?_
        refine tt_get (pc := 40) (ws := (xC cy xd sX aX uG es ea sT aT tT pT qT ma sL aL tL pL qL sK aK tK pK qK sH rH uH)) (ci := 6) (v := .ref ((xd 1) 0)) C fiX6 rfl 0 xC_obj 0 (by decide) q1_219 rfl dX6_sees_40 ?_
        refine tt_aload_n (pc := 43) (k := 0) C dX6_sees_43 rfl rfl ?_
        refine tt_get (pc := 44) (ws := (xC cy xd sX aX uG es ea sT aT tT pT qT ma sL aL tL pL qL sK aK tK pK qK sH rH uH)) (ci := 6) (v := .ref ((xd 1) 0)) C fiX6 rfl 0 xC_obj 0 (by decide) q1_219 rfl dX6_sees_44 ?_
        refine tt_get (pc := 47) (ws := (xC cy xd sX aX uG es ea sT aT tT pT qT ma sL aL tL pL qL sK aK tK pK qK sH rH uH)) (ci := 1) (v := .ref ((xd 1) 10)) C fiX1 rfl 28 rfl 10 (by decide) q1_107 rfl dX6_sees_47 ?_
        refine tt_iload_n (pc := 50) (k := 1) C dX6_sees_50 rfl rfl ?_
        refine tt_aaload (pc := 51) (ws := (xC cy xd sX aX uG es ea sT aT tT pT qT ma sL aL tL pL qL sK aK tK pK qK sH rH uH)) (n := 4) (r := (fun j => (xd 1) (40 + j))) C 35 4 rfl rfl hf (fun _ _ => rfl) dX6_sees_51 (fun hf hlt6 => ?_)
        refine tt_iload_n (pc := 52) (k := 2) C dX6_sees_52 rfl rfl ?_
        refine tt_iload_n (pc := 53) (k := 3) C dX6_sees_53 rfl rfl ?_
        refine tt_aload_n (pc := 54) (k := 0) C dX6_sees_54 rfl rfl ?_
        refine tt_get (pc := 55) (ws := (xC cy xd sX aX uG es ea sT aT tT pT qT ma sL aL tL pL qL sK aK tK pK qK sH rH uH)) (ci := 6) (v := .ref ((xd 1) 0)) C fiX6 rfl 0 xC_obj 0 (by decide) q1_219 rfl dX6_sees_55 ?_
        obtain ⟨r7, hr7, hf⟩ := bind_some hf
        refine tt_callR (pc := 58) (ws := (xC cy xd sX aX uG es ea sT aT tT pT qT ma sL aL tL pL qL sK aK tK pK qK sH rH uH)) (q0 := 28) (ci := 1) (rest := [.int a3, .int a2, .ref ((xd 1) (40 + (ix a1))), .ref ((xd 1) 0)]) (st' := [.int r7, .int a3, .int a2, .ref ((xd 1) (40 + (ix a1))), .ref ((xd 1) 0)]) C (k_X1_allBridges hr7) okX1_allBridges q3_60 rfl rfl xC_subL rfl rfl rfl (Nat.le_of_ble_eq_true rfl) ⟨Nat.le_of_ble_eq_true rfl, Nat.le_of_ble_eq_true rfl⟩ dX6_sees_58 ?_
        obtain ⟨r8, hr8, hf⟩ := bind_some hf
        refine tt_callR (pc := 61) (ws := (xC cy xd sX aX uG es ea sT aT tT pT qT ma sL aL tL pL qL sK aK tK pK qK sH rH uH)) (q0 := 28) (ci := 1) (rest := []) (st' := [.int r8]) C (k_X1_seesPost hr8) okX1_seesPost q3_102 rfl rfl (sub_c (xC_subL _ (lC_tmem hlt6)) xC_subL) rfl rfl rfl (Nat.le_of_ble_eq_true rfl) ⟨Nat.le_of_ble_eq_true rfl, Nat.le_of_ble_eq_true rfl⟩ dX6_sees_61 ?_
        obtain ⟨r9, hr9, hf⟩ := bind_some hf
        refine tt_callS (pc := 64) (ws := (xC cy xd sX aX uG es ea sT aT tT pT qT ma sL aL tL pL qL sK aK tK pK qK sH rH uH)) (rest := []) (st' := [.int r9]) C (k_X6_oneIf hr9) okX6_oneIf q3_95 (fun _ h => absurd h List.not_mem_nil) rfl rfl rfl (Nat.le_of_ble_eq_true rfl) ⟨Nat.le_of_ble_eq_true rfl, Nat.le_of_ble_eq_true rfl⟩ dX6_sees_64 ?_
        obtain rfl := Option.some.inj hf
        exact tt_ireturn (pc := 67) C rfl rfl rfl dX6_sees_67
      · refine tt_aload_n (pc := 33) (k := 0) C dX6_sees_33 rfl rfl ?_
        refine tt_iconst (pc := 34) (v := (-1 : Int32)) C dX6_sees_34 (by decide) ?_
        obtain ⟨r10, hr10, hf⟩ := bind_some hf
        refine tt_callM (pc := 35) (ws := (xC cy xd sX aX uG es ea sT aT tT pT qT ma sL aL tL pL qL sK aK tK pK qK sH rH uH)) (q0 := 0) (ci := 6) (rest := []) (st' := [.int r10.1]) C rfl (k_X6_refused hr10) okX6_refused q2_19 rfl xC_obj rfl rfl rfl (Nat.le_of_ble_eq_true rfl) ⟨Nat.le_of_ble_eq_true rfl, Nat.le_of_ble_eq_true rfl⟩ dX6_sees_35 ?_
        obtain rfl := Option.some.inj hf
        exact tt_ireturn (pc := 38) C rfl rfl rfl dX6_sees_38
theorem dX1_firstCell_0 : decode cX1_firstCell 0 = .ok (.bipush (-9), 2) := by decide +kernel
theorem dX1_firstCell_2 : decode cX1_firstCell 2 = .ok (.istore 5, 2) := by decide +kernel
theorem dX1_firstCell_4 : decode cX1_firstCell 4 = .ok (.iconst 1, 1) := by decide +kernel
theorem dX1_firstCell_5 : decode cX1_firstCell 5 = .ok (.istore 6, 2) := by decide +kernel
theorem dX1_firstCell_7 : decode cX1_firstCell 7 = .ok (.iload 6, 2) := by decide +kernel
theorem dX1_firstCell_9 : decode cX1_firstCell 9 = .ok (.aload_n 0, 1) := by decide +kernel
theorem dX1_firstCell_10 : decode cX1_firstCell 10 = .ok (.getfield 9, 3) := by decide +kernel
theorem dX1_firstCell_13 : decode cX1_firstCell 13 = .ok (.if_icmp .ge 53, 3) := by decide +kernel
theorem dX1_firstCell_16 : decode cX1_firstCell 16 = .ok (.iload_n 2, 1) := by decide +kernel
theorem dX1_firstCell_17 : decode cX1_firstCell 17 = .ok (.iload 6, 2) := by decide +kernel
theorem dX1_firstCell_19 : decode cX1_firstCell 19 = .ok (.aload_n 1, 1) := by decide +kernel
theorem dX1_firstCell_20 : decode cX1_firstCell 20 = .ok (.invokevirtual 109, 3) := by decide +kernel
theorem dX1_firstCell_23 : decode cX1_firstCell 23 = .ok (.imul, 1) := by decide +kernel
theorem dX1_firstCell_24 : decode cX1_firstCell 24 = .ok (.isub, 1) := by decide +kernel
theorem dX1_firstCell_25 : decode cX1_firstCell 25 = .ok (.istore 7, 2) := by decide +kernel
theorem dX1_firstCell_27 : decode cX1_firstCell 27 = .ok (.aload_n 0, 1) := by decide +kernel
theorem dX1_firstCell_28 : decode cX1_firstCell 28 = .ok (.iload 7, 2) := by decide +kernel
theorem dX1_firstCell_30 : decode cX1_firstCell 30 = .ok (.invokevirtual 83, 3) := by decide +kernel
theorem dX1_firstCell_33 : decode cX1_firstCell 33 = .ok (.ifCond .eq 20, 3) := by decide +kernel
theorem dX1_firstCell_36 : decode cX1_firstCell 36 = .ok (.aload_n 0, 1) := by decide +kernel
theorem dX1_firstCell_37 : decode cX1_firstCell 37 = .ok (.iload 7, 2) := by decide +kernel
theorem dX1_firstCell_39 : decode cX1_firstCell 39 = .ok (.aload_n 1, 1) := by decide +kernel
theorem dX1_firstCell_40 : decode cX1_firstCell 40 = .ok (.invokevirtual 130, 3) := by decide +kernel
theorem dX1_firstCell_43 : decode cX1_firstCell 43 = .ok (.iload_n 2, 1) := by decide +kernel
theorem dX1_firstCell_44 : decode cX1_firstCell 44 = .ok (.iload_n 3, 1) := by decide +kernel
theorem dX1_firstCell_45 : decode cX1_firstCell 45 = .ok (.iload 4, 2) := by decide +kernel
theorem dX1_firstCell_47 : decode cX1_firstCell 47 = .ok (.invokevirtual 133, 3) := by decide +kernel
theorem dX1_firstCell_50 : decode cX1_firstCell 50 = .ok (.ifCond .ne 6, 3) := by decide +kernel
theorem dX1_firstCell_53 : decode cX1_firstCell 53 = .ok (.iload 5, 2) := by decide +kernel
theorem dX1_firstCell_55 : decode cX1_firstCell 55 = .ok (.ireturn, 1) := by decide +kernel
theorem dX1_firstCell_56 : decode cX1_firstCell 56 = .ok (.iload 7, 2) := by decide +kernel
theorem dX1_firstCell_58 : decode cX1_firstCell 58 = .ok (.istore 5, 2) := by decide +kernel
theorem dX1_firstCell_60 : decode cX1_firstCell 60 = .ok (.iinc 6 1, 3) := by decide +kernel
theorem dX1_firstCell_63 : decode cX1_firstCell 63 = .ok (.goto (-56), 3) := by decide +kernel
theorem dX1_firstCell_66 : decode cX1_firstCell 66 = .ok (.iload 5, 2) := by decide +kernel
theorem dX1_firstCell_68 : decode cX1_firstCell 68 = .ok (.ireturn, 1) := by decide +kernel
set_option maxHeartbeats 4000000 in
set_option maxRecDepth 100000 in
theorem l_X1_firstCell_7 {p : Program} {l : Launch} {e : Env} {s : State} {m : MethodId} {args : Array Value} {below : List Frame} {meth : Method} {c : Code} {D : va_G} {cy : Nat → ClassId} {A : Nat → Prop} {Bd : Nat} {xa : Xa} {q : Nat} {ad : Nat → Nat} {N : Nat} {u : Nat → Int32} {sc : Nat → Int32} {ar : Nat → Nat → Int32} {tr : Nat → Nat → Int32} {ps : Nat → Int32} {pa : Nat → Nat → Int32} {v2 : Int32} {v3 : Int32} {v4 : Int32} {kx : Int32 → Option (Int32)} {out : Int32} (C : CC p s m args meth c cX1_firstCell RX1 8 (some .int) D cy A true Bd xa) (hk : ∀ (x5 : Int32), kx x5 = some out → TT p l e { frames := 2, cells := 0, slots := 0, locals := 54 } s m args below meth c 8 D A true (some (.int out)) ((q, tE u) :: lC cy ad sc ar tr ps pa) 66 [(5, .int x5)] [] ((q, tE u) :: lC cy ad sc ar tr ps pa)) {n : Nat} {v5 : Int32} {v6 : Int32} (hf : f_X1_firstCell_L7 N u sc ar v2 v3 v4 kx n v5 v6 = some out) : TT p l e { frames := 2, cells := 0, slots := 0, locals := 54 } s m args below meth c 8 D A true (some (.int out)) ((q, tE u) :: lC cy ad sc ar tr ps pa) 7 [(0, .ref (ad 0)), (1, .ref q), (2, .int v2), (3, .int v3), (4, .int v4), (5, .int v5), (6, .int v6)] [] ((q, tE u) :: lC cy ad sc ar tr ps pa) := by
  induction n generalizing v5 v6 with
  | zero => cases hf
  | succ n ih =>
    rw [f_X1_firstCell_L7] at hf
    refine tt_iload (pc := 7) (k := 6) C dX1_firstCell_7 rfl ?_
    refine tt_aload_n (pc := 9) (k := 0) C dX1_firstCell_9 rfl rfl ?_
    refine tt_get (pc := 10) (ws := ((q, tE u) :: lC cy ad sc ar tr ps pa)) (ci := 1) (v := .int (sc 0)) C fiX1 rfl 1 rfl 0 (by decide) q1_82 rfl dX1_firstCell_10 ?_
    refine tt_icmp_ge (pc := 13) (tgt := 66) C dX1_firstCell_13 (by decide) hf (fun hf => ?_) (fun hf => ?_)
    · exact tt_locs [5] rfl (hk _ hf)
    · refine tt_iload_n (pc := 16) (k := 2) C dX1_firstCell_16 rfl rfl ?_
      refine tt_iload (pc := 17) (k := 6) C dX1_firstCell_17 rfl ?_
      refine tt_aload_n (pc := 19) (k := 1) C dX1_firstCell_19 rfl rfl ?_
      obtain ⟨r1, hr1, hf⟩ := bind_some hf
      refine tt_callR (pc := 20) (ws := ((q, tE u) :: lC cy ad sc ar tr ps pa)) (q0 := 0) (ci := 5) (rest := [.int v6, .int v2]) (st' := [.int r1, .int v6, .int v2]) C (k_X5_step hr1) okX5_step q3_68 rfl rfl (sub_1 List.mem_cons_self) rfl rfl rfl (Nat.le_of_ble_eq_true rfl) ⟨Nat.le_of_ble_eq_true rfl, Nat.le_of_ble_eq_true rfl⟩ dX1_firstCell_20 ?_
      refine tt_imul (pc := 23) C dX1_firstCell_23 ?_
      refine tt_isub (pc := 24) C dX1_firstCell_24 ?_
      refine tt_istore (pc := 25) (L' := [(7, .int (v2 - (v6 * r1))), (0, .ref (ad 0)), (1, .ref q), (2, .int v2), (3, .int v3), (4, .int v4), (5, .int v5), (6, .int v6)]) C dX1_firstCell_25 (by decide) rfl ?_
      refine tt_aload_n (pc := 27) (k := 1) C dX1_firstCell_27 rfl rfl ?_
      refine tt_iload (pc := 28) (k := 0) C dX1_firstCell_28 rfl ?_
      obtain ⟨r2, hr2, hf⟩ := bind_some hf
      refine tt_callR (pc := 30) (ws := ((q, tE u) :: lC cy ad sc ar tr ps pa)) (q0 := 1) (ci := 1) (rest := []) (st' := [.int r2]) C (k_X1_hasCell hr2) okX1_hasCell q2_157 rfl rfl (fun _ h => List.mem_cons_of_mem _ h) rfl rfl rfl (Nat.le_of_ble_eq_true rfl) ⟨Nat.le_of_ble_eq_true rfl, Nat.le_of_ble_eq_true rfl⟩ dX1_firstCell_30 ?_
      refine tt_if_eq (pc := 33) (tgt := 53) C dX1_firstCell_33 (by decide) hf (fun hf => ?_) (fun hf => ?_)
      · refine tt_iload (pc := 53) (k := 6) C dX1_firstCell_53 rfl ?_
        obtain rfl := Option.some.inj hf
        exact tt_ireturn (pc := 55) C rfl rfl rfl dX1_firstCell_55
      · refine tt_aload_n (pc := 36) (k := 1) C dX1_firstCell_36 rfl rfl ?_
        refine tt_iload (pc := 37) (k := 0) C dX1_firstCell_37 rfl ?_
        refine tt_aload_n (pc := 39) (k := 2) C dX1_firstCell_39 rfl rfl ?_
        obtain ⟨r3, hr3, hf⟩ := bind_some hf
        refine tt_callR (pc := 40) (ws := ((q, tE u) :: lC cy ad sc ar tr ps pa)) (q0 := 0) (ci := 5) (rest := [.int (v2 - (v6 * r1)), .ref (ad 0)]) (st' := [.int r3, .int (v2 - (v6 * r1)), .ref (ad 0)]) C (k_X5_eye hr3) okX5_eye q3_106 rfl rfl (sub_1 List.mem_cons_self) rfl rfl rfl (Nat.le_of_ble_eq_true rfl) ⟨Nat.le_of_ble_eq_true rfl, Nat.le_of_ble_eq_true rfl⟩ dX1_firstCell_40 ?_
        refine tt_iload_n (pc := 43) (k := 3) C dX1_firstCell_43 rfl rfl ?_
        refine tt_iload_n (pc := 44) (k := 4) C dX1_firstCell_44 rfl rfl ?_
        refine tt_iload (pc := 45) (k := 5) C dX1_firstCell_45 rfl ?_
        obtain ⟨r4, hr4, hf⟩ := bind_some hf
        refine tt_callR (pc := 47) (ws := ((q, tE u) :: lC cy ad sc ar tr ps pa)) (q0 := 1) (ci := 1) (rest := []) (st' := [.int r4]) C (k_X1_isClear hr4) okX1_isClear q3_107 rfl rfl (fun _ h => List.mem_cons_of_mem _ h) rfl rfl rfl (Nat.le_of_ble_eq_true rfl) ⟨Nat.le_of_ble_eq_true rfl, Nat.le_of_ble_eq_true rfl⟩ dX1_firstCell_47 ?_
        refine tt_if_ne (pc := 50) (tgt := 56) C dX1_firstCell_50 (by decide) hf (fun hf => ?_) (fun hf => ?_)
        · refine tt_iload (pc := 56) (k := 0) C dX1_firstCell_56 rfl ?_
          refine tt_istore (pc := 58) (L' := [(5, .int (v2 - (v6 * r1))), (7, .int (v2 - (v6 * r1))), (0, .ref (ad 0)), (1, .ref q), (2, .int v2), (3, .int v3), (4, .int v4), (6, .int v6)]) C dX1_firstCell_58 (by decide) rfl ?_
          refine tt_iinc (pc := 60) (k := 7) (v := (v6 + 1)) (L' := [(6, .int (v6 + 1)), (5, .int (v2 - (v6 * r1))), (7, .int (v2 - (v6 * r1))), (0, .ref (ad 0)), (1, .ref q), (2, .int v2), (3, .int v3), (4, .int v4)]) C dX1_firstCell_60 rfl rfl (by decide) rfl ?_
          refine tt_goto (pc := 63) (tgt := 7) C dX1_firstCell_63 (by decide) ?_
          exact tt_locs [3, 4, 5, 6, 7, 1, 0] rfl (ih hf)
        · refine tt_iload (pc := 53) (k := 6) C dX1_firstCell_53 rfl ?_
          obtain rfl := Option.some.inj hf
          exact tt_ireturn (pc := 55) C rfl rfl rfl dX1_firstCell_55
set_option maxHeartbeats 4000000 in
set_option maxRecDepth 100000 in
theorem k_X1_firstCell {l : Launch} {D : va_G} {cy : Nat → ClassId} {Bd : Nat} {xa : Xa} {q : Nat} {ad : Nat → Nat} {N : Nat} {u : Nat → Int32} {sc : Nat → Int32} {ar : Nat → Nat → Int32} {tr : Nat → Nat → Int32} {ps : Nat → Int32} {pa : Nat → Nat → Int32} {a2 : Int32} {a3 : Int32} {a4 : Int32} {out : Int32} (hf : f_X1_firstCell N u sc ar a2 a3 a4 = some out) : KC l yX1_firstCell cX1_firstCell 8 (some .int) 2 54 true D cy Bd xa [.ref (ad 0), .ref q, .int a2, .int a3, .int a4] ((q, tE u) :: lC cy ad sc ar tr ps pa) (some (.int out)) ((q, tE u) :: lC cy ad sc ar tr ps pa) := by
  refine kc_start (own := RX1) (by decide +kernel) rfl (Nat.le_of_ble_eq_true rfl) ?_
  intro p e s m args below meth c A C
  unfold f_X1_firstCell at hf
  refine tt_locs (L' := [(0, .ref (ad 0)), (1, .ref q), (2, .int a2), (3, .int a3), (4, .int a4)]) [0, 1, 2, 3, 4] rfl ?_
  refine tt_bipush (pc := 0) (v := (-9 : Int32)) C dX1_firstCell_0 (by decide) ?_
  refine tt_istore (pc := 2) (L' := [(5, .int (-9 : Int32)), (0, .ref (ad 0)), (1, .ref q), (2, .int a2), (3, .int a3), (4, .int a4)]) C dX1_firstCell_2 (by decide) rfl ?_
  refine tt_iconst (pc := 4) (v := (1 : Int32)) C dX1_firstCell_4 (by decide) ?_
  refine tt_istore (pc := 5) (L' := [(6, .int (1 : Int32)), (5, .int (-9 : Int32)), (0, .ref (ad 0)), (1, .ref q), (2, .int a2), (3, .int a3), (4, .int a4)]) C dX1_firstCell_5 (by decide) rfl ?_
  refine tt_locs (L' := [(0, .ref (ad 0)), (1, .ref q), (2, .int a2), (3, .int a3), (4, .int a4), (5, .int (-9 : Int32)), (6, .int (1 : Int32))]) [2, 3, 4, 5, 6, 1, 0] rfl (l_X1_firstCell_7 C (fun x5_5 hf => ?_) hf)
  refine tt_iload (pc := 66) (k := 0) C dX1_firstCell_66 rfl ?_
  obtain rfl := Option.some.inj hf
  exact tt_ireturn (pc := 68) C rfl rfl rfl dX1_firstCell_68
theorem dX6_first_0 : decode cX6_first 0 = .ok (.aload_n 0, 1) := by decide +kernel
theorem dX6_first_1 : decode cX6_first 1 = .ok (.getfield 10, 3) := by decide +kernel
theorem dX6_first_4 : decode cX6_first 4 = .ok (.iload_n 1, 1) := by decide +kernel
theorem dX6_first_5 : decode cX6_first 5 = .ok (.invokevirtual 129, 3) := by decide +kernel
theorem dX6_first_8 : decode cX6_first 8 = .ok (.ifCond .eq 14, 3) := by decide +kernel
theorem dX6_first_11 : decode cX6_first 11 = .ok (.aload_n 0, 1) := by decide +kernel
theorem dX6_first_12 : decode cX6_first 12 = .ok (.getfield 10, 3) := by decide +kernel
theorem dX6_first_15 : decode cX6_first 15 = .ok (.iload_n 2, 1) := by decide +kernel
theorem dX6_first_16 : decode cX6_first 16 = .ok (.invokevirtual 120, 3) := by decide +kernel
theorem dX6_first_19 : decode cX6_first 19 = .ok (.ifCond .ne 9, 3) := by decide +kernel
theorem dX6_first_22 : decode cX6_first 22 = .ok (.aload_n 0, 1) := by decide +kernel
theorem dX6_first_23 : decode cX6_first 23 = .ok (.iconst (-1), 1) := by decide +kernel
theorem dX6_first_24 : decode cX6_first 24 = .ok (.invokevirtual 87, 3) := by decide +kernel
theorem dX6_first_27 : decode cX6_first 27 = .ok (.ireturn, 1) := by decide +kernel
theorem dX6_first_28 : decode cX6_first 28 = .ok (.aload_n 0, 1) := by decide +kernel
theorem dX6_first_29 : decode cX6_first 29 = .ok (.getfield 10, 3) := by decide +kernel
theorem dX6_first_32 : decode cX6_first 32 = .ok (.aload_n 0, 1) := by decide +kernel
theorem dX6_first_33 : decode cX6_first 33 = .ok (.getfield 10, 3) := by decide +kernel
theorem dX6_first_36 : decode cX6_first 36 = .ok (.getfield 132, 3) := by decide +kernel
theorem dX6_first_39 : decode cX6_first 39 = .ok (.iload_n 1, 1) := by decide +kernel
theorem dX6_first_40 : decode cX6_first 40 = .ok (.aaload, 1) := by decide +kernel
theorem dX6_first_41 : decode cX6_first 41 = .ok (.aload_n 0, 1) := by decide +kernel
theorem dX6_first_42 : decode cX6_first 42 = .ok (.getfield 10, 3) := by decide +kernel
theorem dX6_first_45 : decode cX6_first 45 = .ok (.getfield 123, 3) := by decide +kernel
theorem dX6_first_48 : decode cX6_first 48 = .ok (.iload_n 2, 1) := by decide +kernel
theorem dX6_first_49 : decode cX6_first 49 = .ok (.iaload, 1) := by decide +kernel
theorem dX6_first_50 : decode cX6_first 50 = .ok (.aload_n 0, 1) := by decide +kernel
theorem dX6_first_51 : decode cX6_first 51 = .ok (.getfield 10, 3) := by decide +kernel
theorem dX6_first_54 : decode cX6_first 54 = .ok (.getfield 126, 3) := by decide +kernel
theorem dX6_first_57 : decode cX6_first 57 = .ok (.iload_n 2, 1) := by decide +kernel
theorem dX6_first_58 : decode cX6_first 58 = .ok (.iaload, 1) := by decide +kernel
theorem dX6_first_59 : decode cX6_first 59 = .ok (.aload_n 0, 1) := by decide +kernel
theorem dX6_first_60 : decode cX6_first 60 = .ok (.getfield 10, 3) := by decide +kernel
theorem dX6_first_63 : decode cX6_first 63 = .ok (.invokevirtual 157, 3) := by decide +kernel
theorem dX6_first_66 : decode cX6_first 66 = .ok (.invokevirtual 176, 3) := by decide +kernel
theorem dX6_first_69 : decode cX6_first 69 = .ok (.ireturn, 1) := by decide +kernel
set_option maxHeartbeats 4000000 in
set_option maxRecDepth 100000 in
theorem k_X6_first {l : Launch} {D : va_G} {cy : Nat → ClassId} {Bd : Nat} {xa : Xa} {xd : Nat → Nat → Nat} {N : Nat} {sX : Nat → Int32} {aX : Nat → Nat → Int32} {uG : Nat → Int32} {es : Nat → Int32} {ea : Nat → Nat → Int32} {sT : Nat → Int32} {aT : Nat → Nat → Int32} {tT : Nat → Nat → Int32} {pT : Nat → Int32} {qT : Nat → Nat → Int32} {ma : Nat → Nat → Int32} {sL : Nat → Int32} {aL : Nat → Nat → Int32} {tL : Nat → Nat → Int32} {pL : Nat → Int32} {qL : Nat → Nat → Int32} {sK : Nat → Int32} {aK : Nat → Nat → Int32} {tK : Nat → Nat → Int32} {pK : Nat → Int32} {qK : Nat → Nat → Int32} {sH : Nat → Nat → Int32} {rH : Nat → Nat → Int64} {uH : Nat → Nat → Int32} {a1 : Int32} {a2 : Int32} {out : Int32 × (Nat → Nat → Int32)} (hf : f_X6_first N aX sL aL tL a1 a2 = some out) : KC l yX6_first cX6_first 3 (some .int) 3 81 false D cy Bd xa [.ref (xd 0 0), .int a1, .int a2] (xC cy xd sX aX uG es ea sT aT tT pT qT ma sL aL tL pL qL sK aK tK pK qK sH rH uH) (some (.int out.1)) (xC cy xd sX out.2 uG es ea sT aT tT pT qT ma sL aL tL pL qL sK aK tK pK qK sH rH uH) := by
  refine kc_start (own := RX6) (by decide +kernel) rfl (Nat.le_of_ble_eq_true rfl) ?_
  intro p e s m args below meth c A C
  unfold f_X6_first at hf
  refine tt_locs (L' := [(0, .ref (xd 0 0)), (1, .int a1), (2, .int a2)]) [0, 1, 2] rfl ?_
  refine tt_aload_n (pc := 0) (k := 0) C dX6_first_0 rfl rfl ?_
  refine tt_get (pc := 1) (ws := (xC cy xd sX aX uG es ea sT aT tT pT qT ma sL aL tL pL qL sK aK tK pK qK sH rH uH)) (ci := 6) (v := .ref ((xd 1) 0)) C fiX6 rfl 0 xC_obj 0 (by decide) q1_219 rfl dX6_first_1 ?_
  refine tt_iload_n (pc := 4) (k := 1) C dX6_first_4 rfl rfl ?_
  obtain ⟨r1, hr1, hf⟩ := bind_some hf
  refine tt_callR (pc := 5) (ws := (xC cy xd sX aX uG es ea sT aT tT pT qT ma sL aL tL pL qL sK aK tK pK qK sH rH uH)) (q0 := 28) (ci := 1) (rest := []) (st' := [.int r1]) C (k_X1_hasTrain hr1) okX1_hasTrain q3_43 rfl rfl xC_subL rfl rfl rfl (Nat.le_of_ble_eq_true rfl) ⟨Nat.le_of_ble_eq_true rfl, Nat.le_of_ble_eq_true rfl⟩ dX6_first_5 ?_
  refine tt_if_eq (pc := 8) (tgt := 22) C dX6_first_8 (by decide) hf (fun hf => ?_) (fun hf => ?_)
  · refine tt_aload_n (pc := 22) (k := 0) C dX6_first_22 rfl rfl ?_
    refine tt_iconst (pc := 23) (v := (-1 : Int32)) C dX6_first_23 (by decide) ?_
    obtain ⟨r2, hr2, hf⟩ := bind_some hf
    refine tt_callM (pc := 24) (ws := (xC cy xd sX aX uG es ea sT aT tT pT qT ma sL aL tL pL qL sK aK tK pK qK sH rH uH)) (q0 := 0) (ci := 6) (rest := []) (st' := [.int r2.1]) C rfl (k_X6_refused hr2) okX6_refused q2_19 rfl xC_obj rfl rfl rfl (Nat.le_of_ble_eq_true rfl) ⟨Nat.le_of_ble_eq_true rfl, Nat.le_of_ble_eq_true rfl⟩ dX6_first_24 ?_
    obtain rfl := Option.some.inj hf
    exact tt_ireturn (pc := 27) C rfl rfl rfl dX6_first_27
  · refine tt_aload_n (pc := 11) (k := 0) C dX6_first_11 rfl rfl ?_
    refine tt_get (pc := 12) (ws := (xC cy xd sX aX uG es ea sT aT tT pT qT ma sL aL tL pL qL sK aK tK pK qK sH rH uH)) (ci := 6) (v := .ref ((xd 1) 0)) C fiX6 rfl 0 xC_obj 0 (by decide) q1_219 rfl dX6_first_12 ?_
    refine tt_iload_n (pc := 15) (k := 2) C dX6_first_15 rfl rfl ?_
    obtain ⟨r3, hr3, hf⟩ := bind_some hf
    refine tt_callR (pc := 16) (ws := (xC cy xd sX aX uG es ea sT aT tT pT qT ma sL aL tL pL qL sK aK tK pK qK sH rH uH)) (q0 := 28) (ci := 1) (rest := []) (st' := [.int r3]) C (k_X1_hasPost hr3) okX1_hasPost q3_38 rfl rfl xC_subL rfl rfl rfl (Nat.le_of_ble_eq_true rfl) ⟨Nat.le_of_ble_eq_true rfl, Nat.le_of_ble_eq_true rfl⟩ dX6_first_16 ?_
    refine tt_if_ne (pc := 19) (tgt := 28) C dX6_first_19 (by decide) hf (fun hf => ?_) (fun hf => ?_)
    · refine tt_aload_n (pc := 28) (k := 0) C dX6_first_28 rfl rfl ?_
      refine tt_get (pc := 29) (ws := (xC cy xd sX aX uG es ea sT aT tT pT qT ma sL aL tL pL qL sK aK tK pK qK sH rH uH)) (ci := 6) (v := .ref ((xd 1) 0)) C fiX6 rfl 0 xC_obj 0 (by decide) q1_219 rfl dX6_first_29 ?_
      refine tt_aload_n (pc := 32) (k := 0) C dX6_first_32 rfl rfl ?_
      refine tt_get (pc := 33) (ws := (xC cy xd sX aX uG es ea sT aT tT pT qT ma sL aL tL pL qL sK aK tK pK qK sH rH uH)) (ci := 6) (v := .ref ((xd 1) 0)) C fiX6 rfl 0 xC_obj 0 (by decide) q1_219 rfl dX6_first_33 ?_
      refine tt_get (pc := 36) (ws := (xC cy xd sX aX uG es ea sT aT tT pT qT ma sL aL tL pL qL sK aK tK pK qK sH rH uH)) (ci := 1) (v := .ref ((xd 1) 10)) C fiX1 rfl 28 rfl 10 (by decide) q1_107 rfl dX6_first_36 ?_
      refine tt_iload_n (pc := 39) (k := 1) C dX6_first_39 rfl rfl ?_
      refine tt_aaload (pc := 40) (ws := (xC cy xd sX aX uG es ea sT aT tT pT qT ma sL aL tL pL qL sK aK tK pK qK sH rH uH)) (n := 4) (r := (fun j => (xd 1) (40 + j))) C 35 4 rfl rfl hf (fun _ _ => rfl) dX6_first_40 (fun hf hlt4 => ?_)
      refine tt_aload_n (pc := 41) (k := 0) C dX6_first_41 rfl rfl ?_
      refine tt_get (pc := 42) (ws := (xC cy xd sX aX uG es ea sT aT tT pT qT ma sL aL tL pL qL sK aK tK pK qK sH rH uH)) (ci := 6) (v := .ref ((xd 1) 0)) C fiX6 rfl 0 xC_obj 0 (by decide) q1_219 rfl dX6_first_42 ?_
      refine tt_get (pc := 45) (ws := (xC cy xd sX aX uG es ea sT aT tT pT qT ma sL aL tL pL qL sK aK tK pK qK sH rH uH)) (ci := 1) (v := .ref ((xd 1) 7)) C fiX1 rfl 28 rfl 7 (by decide) q1_100 rfl dX6_first_45 ?_
      refine tt_iload_n (pc := 48) (k := 2) C dX6_first_48 rfl rfl ?_
      refine tt_iaload (pc := 49) (ws := (xC cy xd sX aX uG es ea sT aT tT pT qT ma sL aL tL pL qL sK aK tK pK qK sH rH uH)) (n := 5) (f := (aL 7)) C 33 0 rfl rfl hf dX6_first_49 (fun hf => ?_)
      refine tt_aload_n (pc := 50) (k := 0) C dX6_first_50 rfl rfl ?_
      refine tt_get (pc := 51) (ws := (xC cy xd sX aX uG es ea sT aT tT pT qT ma sL aL tL pL qL sK aK tK pK qK sH rH uH)) (ci := 6) (v := .ref ((xd 1) 0)) C fiX6 rfl 0 xC_obj 0 (by decide) q1_219 rfl dX6_first_51 ?_
      refine tt_get (pc := 54) (ws := (xC cy xd sX aX uG es ea sT aT tT pT qT ma sL aL tL pL qL sK aK tK pK qK sH rH uH)) (ci := 1) (v := .ref ((xd 1) 8)) C fiX1 rfl 28 rfl 8 (by decide) q1_103 rfl dX6_first_54 ?_
      refine tt_iload_n (pc := 57) (k := 2) C dX6_first_57 rfl rfl ?_
      refine tt_iaload (pc := 58) (ws := (xC cy xd sX aX uG es ea sT aT tT pT qT ma sL aL tL pL qL sK aK tK pK qK sH rH uH)) (n := 5) (f := (aL 8)) C 34 0 rfl rfl hf dX6_first_58 (fun hf => ?_)
      refine tt_aload_n (pc := 59) (k := 0) C dX6_first_59 rfl rfl ?_
      refine tt_get (pc := 60) (ws := (xC cy xd sX aX uG es ea sT aT tT pT qT ma sL aL tL pL qL sK aK tK pK qK sH rH uH)) (ci := 6) (v := .ref ((xd 1) 0)) C fiX6 rfl 0 xC_obj 0 (by decide) q1_219 rfl dX6_first_60 ?_
      obtain ⟨r5, hr5, hf⟩ := bind_some hf
      refine tt_callR (pc := 63) (ws := (xC cy xd sX aX uG es ea sT aT tT pT qT ma sL aL tL pL qL sK aK tK pK qK sH rH uH)) (q0 := 28) (ci := 1) (rest := [.int ((aL 8) (ix a2)), .int ((aL 7) (ix a2)), .ref ((xd 1) (40 + (ix a1))), .ref ((xd 1) 0)]) (st' := [.int r5, .int ((aL 8) (ix a2)), .int ((aL 7) (ix a2)), .ref ((xd 1) (40 + (ix a1))), .ref ((xd 1) 0)]) C (k_X1_allBridges hr5) okX1_allBridges q3_60 rfl rfl xC_subL rfl rfl rfl (Nat.le_of_ble_eq_true rfl) ⟨Nat.le_of_ble_eq_true rfl, Nat.le_of_ble_eq_true rfl⟩ dX6_first_63 ?_
      obtain ⟨r6, hr6, hf⟩ := bind_some hf
      refine tt_callR (pc := 66) (ws := (xC cy xd sX aX uG es ea sT aT tT pT qT ma sL aL tL pL qL sK aK tK pK qK sH rH uH)) (q0 := 28) (ci := 1) (rest := []) (st' := [.int r6]) C (k_X1_firstCell hr6) okX1_firstCell q3_112 rfl rfl (sub_c (xC_subL _ (lC_tmem hlt4)) xC_subL) rfl rfl rfl (Nat.le_of_ble_eq_true rfl) ⟨Nat.le_of_ble_eq_true rfl, Nat.le_of_ble_eq_true rfl⟩ dX6_first_66 ?_
      obtain rfl := Option.some.inj hf
      exact tt_ireturn (pc := 69) C rfl rfl rfl dX6_first_69
    · refine tt_aload_n (pc := 22) (k := 0) C dX6_first_22 rfl rfl ?_
      refine tt_iconst (pc := 23) (v := (-1 : Int32)) C dX6_first_23 (by decide) ?_
      obtain ⟨r7, hr7, hf⟩ := bind_some hf
      refine tt_callM (pc := 24) (ws := (xC cy xd sX aX uG es ea sT aT tT pT qT ma sL aL tL pL qL sK aK tK pK qK sH rH uH)) (q0 := 0) (ci := 6) (rest := []) (st' := [.int r7.1]) C rfl (k_X6_refused hr7) okX6_refused q2_19 rfl xC_obj rfl rfl rfl (Nat.le_of_ble_eq_true rfl) ⟨Nat.le_of_ble_eq_true rfl, Nat.le_of_ble_eq_true rfl⟩ dX6_first_24 ?_
      obtain rfl := Option.some.inj hf
      exact tt_ireturn (pc := 27) C rfl rfl rfl dX6_first_27
theorem dX1_warningFor_0 : decode cX1_warningFor 0 = .ok (.iconst 0, 1) := by decide +kernel
theorem dX1_warningFor_1 : decode cX1_warningFor 1 = .ok (.istore 5, 2) := by decide +kernel
theorem dX1_warningFor_3 : decode cX1_warningFor 3 = .ok (.iconst 1, 1) := by decide +kernel
theorem dX1_warningFor_4 : decode cX1_warningFor 4 = .ok (.istore 6, 2) := by decide +kernel
theorem dX1_warningFor_6 : decode cX1_warningFor 6 = .ok (.iload 6, 2) := by decide +kernel
theorem dX1_warningFor_8 : decode cX1_warningFor 8 = .ok (.aload_n 0, 1) := by decide +kernel
theorem dX1_warningFor_9 : decode cX1_warningFor 9 = .ok (.getfield 9, 3) := by decide +kernel
theorem dX1_warningFor_12 : decode cX1_warningFor 12 = .ok (.if_icmp .ge 63, 3) := by decide +kernel
theorem dX1_warningFor_15 : decode cX1_warningFor 15 = .ok (.iload_n 2, 1) := by decide +kernel
theorem dX1_warningFor_16 : decode cX1_warningFor 16 = .ok (.iload 6, 2) := by decide +kernel
theorem dX1_warningFor_18 : decode cX1_warningFor 18 = .ok (.aload_n 1, 1) := by decide +kernel
theorem dX1_warningFor_19 : decode cX1_warningFor 19 = .ok (.invokevirtual 109, 3) := by decide +kernel
theorem dX1_warningFor_22 : decode cX1_warningFor 22 = .ok (.imul, 1) := by decide +kernel
theorem dX1_warningFor_23 : decode cX1_warningFor 23 = .ok (.isub, 1) := by decide +kernel
theorem dX1_warningFor_24 : decode cX1_warningFor 24 = .ok (.istore 7, 2) := by decide +kernel
theorem dX1_warningFor_26 : decode cX1_warningFor 26 = .ok (.aload_n 0, 1) := by decide +kernel
theorem dX1_warningFor_27 : decode cX1_warningFor 27 = .ok (.iload 7, 2) := by decide +kernel
theorem dX1_warningFor_29 : decode cX1_warningFor 29 = .ok (.invokevirtual 83, 3) := by decide +kernel
theorem dX1_warningFor_32 : decode cX1_warningFor 32 = .ok (.ifCond .eq 20, 3) := by decide +kernel
theorem dX1_warningFor_35 : decode cX1_warningFor 35 = .ok (.aload_n 0, 1) := by decide +kernel
theorem dX1_warningFor_36 : decode cX1_warningFor 36 = .ok (.iload 7, 2) := by decide +kernel
theorem dX1_warningFor_38 : decode cX1_warningFor 38 = .ok (.aload_n 1, 1) := by decide +kernel
theorem dX1_warningFor_39 : decode cX1_warningFor 39 = .ok (.invokevirtual 130, 3) := by decide +kernel
theorem dX1_warningFor_42 : decode cX1_warningFor 42 = .ok (.iload_n 2, 1) := by decide +kernel
theorem dX1_warningFor_43 : decode cX1_warningFor 43 = .ok (.iload_n 3, 1) := by decide +kernel
theorem dX1_warningFor_44 : decode cX1_warningFor 44 = .ok (.iload 4, 2) := by decide +kernel
theorem dX1_warningFor_46 : decode cX1_warningFor 46 = .ok (.invokevirtual 133, 3) := by decide +kernel
theorem dX1_warningFor_49 : decode cX1_warningFor 49 = .ok (.ifCond .ne 6, 3) := by decide +kernel
theorem dX1_warningFor_52 : decode cX1_warningFor 52 = .ok (.iload 5, 2) := by decide +kernel
theorem dX1_warningFor_54 : decode cX1_warningFor 54 = .ok (.ireturn, 1) := by decide +kernel
theorem dX1_warningFor_55 : decode cX1_warningFor 55 = .ok (.iload 5, 2) := by decide +kernel
theorem dX1_warningFor_57 : decode cX1_warningFor 57 = .ok (.aload_n 0, 1) := by decide +kernel
theorem dX1_warningFor_58 : decode cX1_warningFor 58 = .ok (.aload_n 1, 1) := by decide +kernel
theorem dX1_warningFor_59 : decode cX1_warningFor 59 = .ok (.iload 7, 2) := by decide +kernel
theorem dX1_warningFor_61 : decode cX1_warningFor 61 = .ok (.iload 4, 2) := by decide +kernel
theorem dX1_warningFor_63 : decode cX1_warningFor 63 = .ok (.invokevirtual 141, 3) := by decide +kernel
theorem dX1_warningFor_66 : decode cX1_warningFor 66 = .ok (.iadd, 1) := by decide +kernel
theorem dX1_warningFor_67 : decode cX1_warningFor 67 = .ok (.istore 5, 2) := by decide +kernel
theorem dX1_warningFor_69 : decode cX1_warningFor 69 = .ok (.iinc 6 1, 3) := by decide +kernel
theorem dX1_warningFor_72 : decode cX1_warningFor 72 = .ok (.goto (-66), 3) := by decide +kernel
theorem dX1_warningFor_75 : decode cX1_warningFor 75 = .ok (.iload 5, 2) := by decide +kernel
theorem dX1_warningFor_77 : decode cX1_warningFor 77 = .ok (.ireturn, 1) := by decide +kernel
set_option maxHeartbeats 4000000 in
set_option maxRecDepth 100000 in
theorem l_X1_warningFor_6 {p : Program} {l : Launch} {e : Env} {s : State} {m : MethodId} {args : Array Value} {below : List Frame} {meth : Method} {c : Code} {D : va_G} {cy : Nat → ClassId} {A : Nat → Prop} {Bd : Nat} {xa : Xa} {q : Nat} {ad : Nat → Nat} {N : Nat} {u : Nat → Int32} {sc : Nat → Int32} {ar : Nat → Nat → Int32} {tr : Nat → Nat → Int32} {ps : Nat → Int32} {pa : Nat → Nat → Int32} {v2 : Int32} {v3 : Int32} {v4 : Int32} {kx : Int32 → Option (Int32)} {out : Int32} (C : CC p s m args meth c cX1_warningFor RX1 8 (some .int) D cy A true Bd xa) (hk : ∀ (x5 : Int32), kx x5 = some out → TT p l e { frames := 3, cells := 0, slots := 0, locals := 69 } s m args below meth c 8 D A true (some (.int out)) ((q, tE u) :: lC cy ad sc ar tr ps pa) 75 [(5, .int x5)] [] ((q, tE u) :: lC cy ad sc ar tr ps pa)) {n : Nat} {v5 : Int32} {v6 : Int32} (hf : f_X1_warningFor_L6 N u sc ar v2 v3 v4 kx n v5 v6 = some out) : TT p l e { frames := 3, cells := 0, slots := 0, locals := 69 } s m args below meth c 8 D A true (some (.int out)) ((q, tE u) :: lC cy ad sc ar tr ps pa) 6 [(0, .ref (ad 0)), (1, .ref q), (2, .int v2), (3, .int v3), (4, .int v4), (5, .int v5), (6, .int v6)] [] ((q, tE u) :: lC cy ad sc ar tr ps pa) := by
  induction n generalizing v5 v6 with
  | zero => cases hf
  | succ n ih =>
    rw [f_X1_warningFor_L6] at hf
    refine tt_iload (pc := 6) (k := 6) C dX1_warningFor_6 rfl ?_
    refine tt_aload_n (pc := 8) (k := 0) C dX1_warningFor_8 rfl rfl ?_
    refine tt_get (pc := 9) (ws := ((q, tE u) :: lC cy ad sc ar tr ps pa)) (ci := 1) (v := .int (sc 0)) C fiX1 rfl 1 rfl 0 (by decide) q1_82 rfl dX1_warningFor_9 ?_
    refine tt_icmp_ge (pc := 12) (tgt := 75) C dX1_warningFor_12 (by decide) hf (fun hf => ?_) (fun hf => ?_)
    · exact tt_locs [5] rfl (hk _ hf)
    · refine tt_iload_n (pc := 15) (k := 2) C dX1_warningFor_15 rfl rfl ?_
      refine tt_iload (pc := 16) (k := 6) C dX1_warningFor_16 rfl ?_
      refine tt_aload_n (pc := 18) (k := 1) C dX1_warningFor_18 rfl rfl ?_
      obtain ⟨r1, hr1, hf⟩ := bind_some hf
      refine tt_callR (pc := 19) (ws := ((q, tE u) :: lC cy ad sc ar tr ps pa)) (q0 := 0) (ci := 5) (rest := [.int v6, .int v2]) (st' := [.int r1, .int v6, .int v2]) C (k_X5_step hr1) okX5_step q3_68 rfl rfl (sub_1 List.mem_cons_self) rfl rfl rfl (Nat.le_of_ble_eq_true rfl) ⟨Nat.le_of_ble_eq_true rfl, Nat.le_of_ble_eq_true rfl⟩ dX1_warningFor_19 ?_
      refine tt_imul (pc := 22) C dX1_warningFor_22 ?_
      refine tt_isub (pc := 23) C dX1_warningFor_23 ?_
      refine tt_istore (pc := 24) (L' := [(7, .int (v2 - (v6 * r1))), (0, .ref (ad 0)), (1, .ref q), (2, .int v2), (3, .int v3), (4, .int v4), (5, .int v5), (6, .int v6)]) C dX1_warningFor_24 (by decide) rfl ?_
      refine tt_aload_n (pc := 26) (k := 1) C dX1_warningFor_26 rfl rfl ?_
      refine tt_iload (pc := 27) (k := 0) C dX1_warningFor_27 rfl ?_
      obtain ⟨r2, hr2, hf⟩ := bind_some hf
      refine tt_callR (pc := 29) (ws := ((q, tE u) :: lC cy ad sc ar tr ps pa)) (q0 := 1) (ci := 1) (rest := []) (st' := [.int r2]) C (k_X1_hasCell hr2) okX1_hasCell q2_157 rfl rfl (fun _ h => List.mem_cons_of_mem _ h) rfl rfl rfl (Nat.le_of_ble_eq_true rfl) ⟨Nat.le_of_ble_eq_true rfl, Nat.le_of_ble_eq_true rfl⟩ dX1_warningFor_29 ?_
      refine tt_if_eq (pc := 32) (tgt := 52) C dX1_warningFor_32 (by decide) hf (fun hf => ?_) (fun hf => ?_)
      · refine tt_iload (pc := 52) (k := 6) C dX1_warningFor_52 rfl ?_
        obtain rfl := Option.some.inj hf
        exact tt_ireturn (pc := 54) C rfl rfl rfl dX1_warningFor_54
      · refine tt_aload_n (pc := 35) (k := 1) C dX1_warningFor_35 rfl rfl ?_
        refine tt_iload (pc := 36) (k := 0) C dX1_warningFor_36 rfl ?_
        refine tt_aload_n (pc := 38) (k := 2) C dX1_warningFor_38 rfl rfl ?_
        obtain ⟨r3, hr3, hf⟩ := bind_some hf
        refine tt_callR (pc := 39) (ws := ((q, tE u) :: lC cy ad sc ar tr ps pa)) (q0 := 0) (ci := 5) (rest := [.int (v2 - (v6 * r1)), .ref (ad 0)]) (st' := [.int r3, .int (v2 - (v6 * r1)), .ref (ad 0)]) C (k_X5_eye hr3) okX5_eye q3_106 rfl rfl (sub_1 List.mem_cons_self) rfl rfl rfl (Nat.le_of_ble_eq_true rfl) ⟨Nat.le_of_ble_eq_true rfl, Nat.le_of_ble_eq_true rfl⟩ dX1_warningFor_39 ?_
        refine tt_iload_n (pc := 42) (k := 3) C dX1_warningFor_42 rfl rfl ?_
        refine tt_iload_n (pc := 43) (k := 4) C dX1_warningFor_43 rfl rfl ?_
        refine tt_iload (pc := 44) (k := 5) C dX1_warningFor_44 rfl ?_
        obtain ⟨r4, hr4, hf⟩ := bind_some hf
        refine tt_callR (pc := 46) (ws := ((q, tE u) :: lC cy ad sc ar tr ps pa)) (q0 := 1) (ci := 1) (rest := []) (st' := [.int r4]) C (k_X1_isClear hr4) okX1_isClear q3_107 rfl rfl (fun _ h => List.mem_cons_of_mem _ h) rfl rfl rfl (Nat.le_of_ble_eq_true rfl) ⟨Nat.le_of_ble_eq_true rfl, Nat.le_of_ble_eq_true rfl⟩ dX1_warningFor_46 ?_
        refine tt_if_ne (pc := 49) (tgt := 55) C dX1_warningFor_49 (by decide) hf (fun hf => ?_) (fun hf => ?_)
        · refine tt_iload (pc := 55) (k := 6) C dX1_warningFor_55 rfl ?_
          refine tt_aload_n (pc := 57) (k := 1) C dX1_warningFor_57 rfl rfl ?_
          refine tt_aload_n (pc := 58) (k := 2) C dX1_warningFor_58 rfl rfl ?_
          refine tt_iload (pc := 59) (k := 0) C dX1_warningFor_59 rfl ?_
          refine tt_iload (pc := 61) (k := 5) C dX1_warningFor_61 rfl ?_
          obtain ⟨r5, hr5, hf⟩ := bind_some hf
          refine tt_callR (pc := 63) (ws := ((q, tE u) :: lC cy ad sc ar tr ps pa)) (q0 := 1) (ci := 1) (rest := [.int v5]) (st' := [.int r5, .int v5]) C (k_X1_timeIn hr5) okX1_timeIn q3_128 rfl rfl (sub_c List.mem_cons_self (fun _ h => List.mem_cons_of_mem _ h)) rfl rfl rfl (Nat.le_of_ble_eq_true rfl) ⟨Nat.le_of_ble_eq_true rfl, Nat.le_of_ble_eq_true rfl⟩ dX1_warningFor_63 ?_
          refine tt_iadd (pc := 66) C dX1_warningFor_66 ?_
          refine tt_istore (pc := 67) (L' := [(5, .int (v5 + r5)), (7, .int (v2 - (v6 * r1))), (0, .ref (ad 0)), (1, .ref q), (2, .int v2), (3, .int v3), (4, .int v4), (6, .int v6)]) C dX1_warningFor_67 (by decide) rfl ?_
          refine tt_iinc (pc := 69) (k := 7) (v := (v6 + 1)) (L' := [(6, .int (v6 + 1)), (5, .int (v5 + r5)), (7, .int (v2 - (v6 * r1))), (0, .ref (ad 0)), (1, .ref q), (2, .int v2), (3, .int v3), (4, .int v4)]) C dX1_warningFor_69 rfl rfl (by decide) rfl ?_
          refine tt_goto (pc := 72) (tgt := 6) C dX1_warningFor_72 (by decide) ?_
          exact tt_locs [3, 4, 5, 6, 7, 1, 0] rfl (ih hf)
        · refine tt_iload (pc := 52) (k := 6) C dX1_warningFor_52 rfl ?_
          obtain rfl := Option.some.inj hf
          exact tt_ireturn (pc := 54) C rfl rfl rfl dX1_warningFor_54
set_option maxHeartbeats 4000000 in
set_option maxRecDepth 100000 in
theorem k_X1_warningFor {l : Launch} {D : va_G} {cy : Nat → ClassId} {Bd : Nat} {xa : Xa} {q : Nat} {ad : Nat → Nat} {N : Nat} {u : Nat → Int32} {sc : Nat → Int32} {ar : Nat → Nat → Int32} {tr : Nat → Nat → Int32} {ps : Nat → Int32} {pa : Nat → Nat → Int32} {a2 : Int32} {a3 : Int32} {a4 : Int32} {out : Int32} (hf : f_X1_warningFor N u sc ar a2 a3 a4 = some out) : KC l yX1_warningFor cX1_warningFor 8 (some .int) 3 69 true D cy Bd xa [.ref (ad 0), .ref q, .int a2, .int a3, .int a4] ((q, tE u) :: lC cy ad sc ar tr ps pa) (some (.int out)) ((q, tE u) :: lC cy ad sc ar tr ps pa) := by
  refine kc_start (own := RX1) (by decide +kernel) rfl (Nat.le_of_ble_eq_true rfl) ?_
  intro p e s m args below meth c A C
  unfold f_X1_warningFor at hf
  refine tt_locs (L' := [(0, .ref (ad 0)), (1, .ref q), (2, .int a2), (3, .int a3), (4, .int a4)]) [0, 1, 2, 3, 4] rfl ?_
  refine tt_iconst (pc := 0) (v := (0 : Int32)) C dX1_warningFor_0 (by decide) ?_
  refine tt_istore (pc := 1) (L' := [(5, .int (0 : Int32)), (0, .ref (ad 0)), (1, .ref q), (2, .int a2), (3, .int a3), (4, .int a4)]) C dX1_warningFor_1 (by decide) rfl ?_
  refine tt_iconst (pc := 3) (v := (1 : Int32)) C dX1_warningFor_3 (by decide) ?_
  refine tt_istore (pc := 4) (L' := [(6, .int (1 : Int32)), (5, .int (0 : Int32)), (0, .ref (ad 0)), (1, .ref q), (2, .int a2), (3, .int a3), (4, .int a4)]) C dX1_warningFor_4 (by decide) rfl ?_
  refine tt_locs (L' := [(0, .ref (ad 0)), (1, .ref q), (2, .int a2), (3, .int a3), (4, .int a4), (5, .int (0 : Int32)), (6, .int (1 : Int32))]) [2, 3, 4, 5, 6, 1, 0] rfl (l_X1_warningFor_6 C (fun x5_6 hf => ?_) hf)
  refine tt_iload (pc := 75) (k := 0) C dX1_warningFor_75 rfl ?_
  obtain rfl := Option.some.inj hf
  exact tt_ireturn (pc := 77) C rfl rfl rfl dX1_warningFor_77
theorem dX1_warningOf_0 : decode cX1_warningOf 0 = .ok (.aload_n 0, 1) := by decide +kernel
theorem dX1_warningOf_1 : decode cX1_warningOf 1 = .ok (.aload_n 1, 1) := by decide +kernel
theorem dX1_warningOf_2 : decode cX1_warningOf 2 = .ok (.aload_n 0, 1) := by decide +kernel
theorem dX1_warningOf_3 : decode cX1_warningOf 3 = .ok (.getfield 34, 3) := by decide +kernel
theorem dX1_warningOf_6 : decode cX1_warningOf 6 = .ok (.iload_n 2, 1) := by decide +kernel
theorem dX1_warningOf_7 : decode cX1_warningOf 7 = .ok (.iaload, 1) := by decide +kernel
theorem dX1_warningOf_8 : decode cX1_warningOf 8 = .ok (.aload_n 0, 1) := by decide +kernel
theorem dX1_warningOf_9 : decode cX1_warningOf 9 = .ok (.getfield 37, 3) := by decide +kernel
theorem dX1_warningOf_12 : decode cX1_warningOf 12 = .ok (.iload_n 2, 1) := by decide +kernel
theorem dX1_warningOf_13 : decode cX1_warningOf 13 = .ok (.iaload, 1) := by decide +kernel
theorem dX1_warningOf_14 : decode cX1_warningOf 14 = .ok (.iload_n 3, 1) := by decide +kernel
theorem dX1_warningOf_15 : decode cX1_warningOf 15 = .ok (.invokevirtual 137, 3) := by decide +kernel
theorem dX1_warningOf_18 : decode cX1_warningOf 18 = .ok (.ireturn, 1) := by decide +kernel
set_option maxHeartbeats 4000000 in
set_option maxRecDepth 100000 in
theorem k_X1_warningOf {l : Launch} {D : va_G} {cy : Nat → ClassId} {Bd : Nat} {xa : Xa} {q : Nat} {ad : Nat → Nat} {N : Nat} {u : Nat → Int32} {sc : Nat → Int32} {ar : Nat → Nat → Int32} {tr : Nat → Nat → Int32} {ps : Nat → Int32} {pa : Nat → Nat → Int32} {a2 : Int32} {a3 : Int32} {out : Int32} (hf : f_X1_warningOf N u sc ar a2 a3 = some out) : KC l yX1_warningOf cX1_warningOf 4 (some .int) 4 96 true D cy Bd xa [.ref (ad 0), .ref q, .int a2, .int a3] ((q, tE u) :: lC cy ad sc ar tr ps pa) (some (.int out)) ((q, tE u) :: lC cy ad sc ar tr ps pa) := by
  refine kc_start (own := RX1) (by decide +kernel) rfl (Nat.le_of_ble_eq_true rfl) ?_
  intro p e s m args below meth c A C
  unfold f_X1_warningOf at hf
  refine tt_locs (L' := [(0, .ref (ad 0)), (1, .ref q), (2, .int a2), (3, .int a3)]) [0, 1, 2, 3] rfl ?_
  refine tt_aload_n (pc := 0) (k := 0) C dX1_warningOf_0 rfl rfl ?_
  refine tt_aload_n (pc := 1) (k := 1) C dX1_warningOf_1 rfl rfl ?_
  refine tt_aload_n (pc := 2) (k := 0) C dX1_warningOf_2 rfl rfl ?_
  refine tt_get (pc := 3) (ws := ((q, tE u) :: lC cy ad sc ar tr ps pa)) (ci := 1) (v := .ref (ad 7)) C fiX1 rfl 1 rfl 7 (by decide) q1_98 rfl dX1_warningOf_3 ?_
  refine tt_iload_n (pc := 6) (k := 2) C dX1_warningOf_6 rfl rfl ?_
  refine tt_iaload (pc := 7) (ws := ((q, tE u) :: lC cy ad sc ar tr ps pa)) (n := 5) (f := (ar 7)) C 6 0 rfl rfl hf dX1_warningOf_7 (fun hf => ?_)
  refine tt_aload_n (pc := 8) (k := 0) C dX1_warningOf_8 rfl rfl ?_
  refine tt_get (pc := 9) (ws := ((q, tE u) :: lC cy ad sc ar tr ps pa)) (ci := 1) (v := .ref (ad 8)) C fiX1 rfl 1 rfl 8 (by decide) q1_101 rfl dX1_warningOf_9 ?_
  refine tt_iload_n (pc := 12) (k := 2) C dX1_warningOf_12 rfl rfl ?_
  refine tt_iaload (pc := 13) (ws := ((q, tE u) :: lC cy ad sc ar tr ps pa)) (n := 5) (f := (ar 8)) C 7 0 rfl rfl hf dX1_warningOf_13 (fun hf => ?_)
  refine tt_iload_n (pc := 14) (k := 3) C dX1_warningOf_14 rfl rfl ?_
  obtain ⟨r1, hr1, hf⟩ := bind_some hf
  refine tt_callR (pc := 15) (ws := ((q, tE u) :: lC cy ad sc ar tr ps pa)) (q0 := 1) (ci := 1) (rest := []) (st' := [.int r1]) C (k_X1_warningFor hr1) okX1_warningFor q3_124 rfl rfl (sub_c List.mem_cons_self (fun _ h => List.mem_cons_of_mem _ h)) rfl rfl rfl (Nat.le_of_ble_eq_true rfl) ⟨Nat.le_of_ble_eq_true rfl, Nat.le_of_ble_eq_true rfl⟩ dX1_warningOf_15 ?_
  obtain rfl := Option.some.inj hf
  exact tt_ireturn (pc := 18) C rfl rfl rfl dX1_warningOf_18
theorem dX6_warned_0 : decode cX6_warned 0 = .ok (.aload_n 0, 1) := by decide +kernel
theorem dX6_warned_1 : decode cX6_warned 1 = .ok (.getfield 10, 3) := by decide +kernel
theorem dX6_warned_4 : decode cX6_warned 4 = .ok (.iload_n 1, 1) := by decide +kernel
theorem dX6_warned_5 : decode cX6_warned 5 = .ok (.invokevirtual 129, 3) := by decide +kernel
theorem dX6_warned_8 : decode cX6_warned 8 = .ok (.ifCond .eq 14, 3) := by decide +kernel
theorem dX6_warned_11 : decode cX6_warned 11 = .ok (.aload_n 0, 1) := by decide +kernel
theorem dX6_warned_12 : decode cX6_warned 12 = .ok (.getfield 10, 3) := by decide +kernel
theorem dX6_warned_15 : decode cX6_warned 15 = .ok (.iload_n 2, 1) := by decide +kernel
theorem dX6_warned_16 : decode cX6_warned 16 = .ok (.invokevirtual 120, 3) := by decide +kernel
theorem dX6_warned_19 : decode cX6_warned 19 = .ok (.ifCond .ne 9, 3) := by decide +kernel
theorem dX6_warned_22 : decode cX6_warned 22 = .ok (.aload_n 0, 1) := by decide +kernel
theorem dX6_warned_23 : decode cX6_warned 23 = .ok (.iconst (-1), 1) := by decide +kernel
theorem dX6_warned_24 : decode cX6_warned 24 = .ok (.invokevirtual 87, 3) := by decide +kernel
theorem dX6_warned_27 : decode cX6_warned 27 = .ok (.ireturn, 1) := by decide +kernel
theorem dX6_warned_28 : decode cX6_warned 28 = .ok (.aload_n 0, 1) := by decide +kernel
theorem dX6_warned_29 : decode cX6_warned 29 = .ok (.getfield 10, 3) := by decide +kernel
theorem dX6_warned_32 : decode cX6_warned 32 = .ok (.aload_n 0, 1) := by decide +kernel
theorem dX6_warned_33 : decode cX6_warned 33 = .ok (.getfield 10, 3) := by decide +kernel
theorem dX6_warned_36 : decode cX6_warned 36 = .ok (.getfield 132, 3) := by decide +kernel
theorem dX6_warned_39 : decode cX6_warned 39 = .ok (.iload_n 1, 1) := by decide +kernel
theorem dX6_warned_40 : decode cX6_warned 40 = .ok (.aaload, 1) := by decide +kernel
theorem dX6_warned_41 : decode cX6_warned 41 = .ok (.iload_n 2, 1) := by decide +kernel
theorem dX6_warned_42 : decode cX6_warned 42 = .ok (.aload_n 0, 1) := by decide +kernel
theorem dX6_warned_43 : decode cX6_warned 43 = .ok (.getfield 10, 3) := by decide +kernel
theorem dX6_warned_46 : decode cX6_warned 46 = .ok (.invokevirtual 157, 3) := by decide +kernel
theorem dX6_warned_49 : decode cX6_warned 49 = .ok (.invokevirtual 180, 3) := by decide +kernel
theorem dX6_warned_52 : decode cX6_warned 52 = .ok (.ireturn, 1) := by decide +kernel
set_option maxHeartbeats 4000000 in
set_option maxRecDepth 100000 in
theorem k_X6_warned {l : Launch} {D : va_G} {cy : Nat → ClassId} {Bd : Nat} {xa : Xa} {xd : Nat → Nat → Nat} {N : Nat} {sX : Nat → Int32} {aX : Nat → Nat → Int32} {uG : Nat → Int32} {es : Nat → Int32} {ea : Nat → Nat → Int32} {sT : Nat → Int32} {aT : Nat → Nat → Int32} {tT : Nat → Nat → Int32} {pT : Nat → Int32} {qT : Nat → Nat → Int32} {ma : Nat → Nat → Int32} {sL : Nat → Int32} {aL : Nat → Nat → Int32} {tL : Nat → Nat → Int32} {pL : Nat → Int32} {qL : Nat → Nat → Int32} {sK : Nat → Int32} {aK : Nat → Nat → Int32} {tK : Nat → Nat → Int32} {pK : Nat → Int32} {qK : Nat → Nat → Int32} {sH : Nat → Nat → Int32} {rH : Nat → Nat → Int64} {uH : Nat → Nat → Int32} {a1 : Int32} {a2 : Int32} {out : Int32 × (Nat → Nat → Int32)} (hf : f_X6_warned N aX sL aL tL a1 a2 = some out) : KC l yX6_warned cX6_warned 3 (some .int) 5 119 false D cy Bd xa [.ref (xd 0 0), .int a1, .int a2] (xC cy xd sX aX uG es ea sT aT tT pT qT ma sL aL tL pL qL sK aK tK pK qK sH rH uH) (some (.int out.1)) (xC cy xd sX out.2 uG es ea sT aT tT pT qT ma sL aL tL pL qL sK aK tK pK qK sH rH uH) := by
  refine kc_start (own := RX6) (by decide +kernel) rfl (Nat.le_of_ble_eq_true rfl) ?_
  intro p e s m args below meth c A C
  unfold f_X6_warned at hf
  refine tt_locs (L' := [(0, .ref (xd 0 0)), (1, .int a1), (2, .int a2)]) [0, 1, 2] rfl ?_
  refine tt_aload_n (pc := 0) (k := 0) C dX6_warned_0 rfl rfl ?_
  refine tt_get (pc := 1) (ws := (xC cy xd sX aX uG es ea sT aT tT pT qT ma sL aL tL pL qL sK aK tK pK qK sH rH uH)) (ci := 6) (v := .ref ((xd 1) 0)) C fiX6 rfl 0 xC_obj 0 (by decide) q1_219 rfl dX6_warned_1 ?_
  refine tt_iload_n (pc := 4) (k := 1) C dX6_warned_4 rfl rfl ?_
  obtain ⟨r1, hr1, hf⟩ := bind_some hf
  refine tt_callR (pc := 5) (ws := (xC cy xd sX aX uG es ea sT aT tT pT qT ma sL aL tL pL qL sK aK tK pK qK sH rH uH)) (q0 := 28) (ci := 1) (rest := []) (st' := [.int r1]) C (k_X1_hasTrain hr1) okX1_hasTrain q3_43 rfl rfl xC_subL rfl rfl rfl (Nat.le_of_ble_eq_true rfl) ⟨Nat.le_of_ble_eq_true rfl, Nat.le_of_ble_eq_true rfl⟩ dX6_warned_5 ?_
  refine tt_if_eq (pc := 8) (tgt := 22) C dX6_warned_8 (by decide) hf (fun hf => ?_) (fun hf => ?_)
  · refine tt_aload_n (pc := 22) (k := 0) C dX6_warned_22 rfl rfl ?_
    refine tt_iconst (pc := 23) (v := (-1 : Int32)) C dX6_warned_23 (by decide) ?_
    obtain ⟨r2, hr2, hf⟩ := bind_some hf
    refine tt_callM (pc := 24) (ws := (xC cy xd sX aX uG es ea sT aT tT pT qT ma sL aL tL pL qL sK aK tK pK qK sH rH uH)) (q0 := 0) (ci := 6) (rest := []) (st' := [.int r2.1]) C rfl (k_X6_refused hr2) okX6_refused q2_19 rfl xC_obj rfl rfl rfl (Nat.le_of_ble_eq_true rfl) ⟨Nat.le_of_ble_eq_true rfl, Nat.le_of_ble_eq_true rfl⟩ dX6_warned_24 ?_
    obtain rfl := Option.some.inj hf
    exact tt_ireturn (pc := 27) C rfl rfl rfl dX6_warned_27
  · refine tt_aload_n (pc := 11) (k := 0) C dX6_warned_11 rfl rfl ?_
    refine tt_get (pc := 12) (ws := (xC cy xd sX aX uG es ea sT aT tT pT qT ma sL aL tL pL qL sK aK tK pK qK sH rH uH)) (ci := 6) (v := .ref ((xd 1) 0)) C fiX6 rfl 0 xC_obj 0 (by decide) q1_219 rfl dX6_warned_12 ?_
    refine tt_iload_n (pc := 15) (k := 2) C dX6_warned_15 rfl rfl ?_
    obtain ⟨r3, hr3, hf⟩ := bind_some hf
    refine tt_callR (pc := 16) (ws := (xC cy xd sX aX uG es ea sT aT tT pT qT ma sL aL tL pL qL sK aK tK pK qK sH rH uH)) (q0 := 28) (ci := 1) (rest := []) (st' := [.int r3]) C (k_X1_hasPost hr3) okX1_hasPost q3_38 rfl rfl xC_subL rfl rfl rfl (Nat.le_of_ble_eq_true rfl) ⟨Nat.le_of_ble_eq_true rfl, Nat.le_of_ble_eq_true rfl⟩ dX6_warned_16 ?_
    refine tt_if_ne (pc := 19) (tgt := 28) C dX6_warned_19 (by decide) hf (fun hf => ?_) (fun hf => ?_)
    · refine tt_aload_n (pc := 28) (k := 0) C dX6_warned_28 rfl rfl ?_
      refine tt_get (pc := 29) (ws := (xC cy xd sX aX uG es ea sT aT tT pT qT ma sL aL tL pL qL sK aK tK pK qK sH rH uH)) (ci := 6) (v := .ref ((xd 1) 0)) C fiX6 rfl 0 xC_obj 0 (by decide) q1_219 rfl dX6_warned_29 ?_
      refine tt_aload_n (pc := 32) (k := 0) C dX6_warned_32 rfl rfl ?_
      refine tt_get (pc := 33) (ws := (xC cy xd sX aX uG es ea sT aT tT pT qT ma sL aL tL pL qL sK aK tK pK qK sH rH uH)) (ci := 6) (v := .ref ((xd 1) 0)) C fiX6 rfl 0 xC_obj 0 (by decide) q1_219 rfl dX6_warned_33 ?_
      refine tt_get (pc := 36) (ws := (xC cy xd sX aX uG es ea sT aT tT pT qT ma sL aL tL pL qL sK aK tK pK qK sH rH uH)) (ci := 1) (v := .ref ((xd 1) 10)) C fiX1 rfl 28 rfl 10 (by decide) q1_107 rfl dX6_warned_36 ?_
      refine tt_iload_n (pc := 39) (k := 1) C dX6_warned_39 rfl rfl ?_
      refine tt_aaload (pc := 40) (ws := (xC cy xd sX aX uG es ea sT aT tT pT qT ma sL aL tL pL qL sK aK tK pK qK sH rH uH)) (n := 4) (r := (fun j => (xd 1) (40 + j))) C 35 4 rfl rfl hf (fun _ _ => rfl) dX6_warned_40 (fun hf hlt4 => ?_)
      refine tt_iload_n (pc := 41) (k := 2) C dX6_warned_41 rfl rfl ?_
      refine tt_aload_n (pc := 42) (k := 0) C dX6_warned_42 rfl rfl ?_
      refine tt_get (pc := 43) (ws := (xC cy xd sX aX uG es ea sT aT tT pT qT ma sL aL tL pL qL sK aK tK pK qK sH rH uH)) (ci := 6) (v := .ref ((xd 1) 0)) C fiX6 rfl 0 xC_obj 0 (by decide) q1_219 rfl dX6_warned_43 ?_
      obtain ⟨r5, hr5, hf⟩ := bind_some hf
      refine tt_callR (pc := 46) (ws := (xC cy xd sX aX uG es ea sT aT tT pT qT ma sL aL tL pL qL sK aK tK pK qK sH rH uH)) (q0 := 28) (ci := 1) (rest := [.int a2, .ref ((xd 1) (40 + (ix a1))), .ref ((xd 1) 0)]) (st' := [.int r5, .int a2, .ref ((xd 1) (40 + (ix a1))), .ref ((xd 1) 0)]) C (k_X1_allBridges hr5) okX1_allBridges q3_60 rfl rfl xC_subL rfl rfl rfl (Nat.le_of_ble_eq_true rfl) ⟨Nat.le_of_ble_eq_true rfl, Nat.le_of_ble_eq_true rfl⟩ dX6_warned_46 ?_
      obtain ⟨r6, hr6, hf⟩ := bind_some hf
      refine tt_callR (pc := 49) (ws := (xC cy xd sX aX uG es ea sT aT tT pT qT ma sL aL tL pL qL sK aK tK pK qK sH rH uH)) (q0 := 28) (ci := 1) (rest := []) (st' := [.int r6]) C (k_X1_warningOf hr6) okX1_warningOf q3_120 rfl rfl (sub_c (xC_subL _ (lC_tmem hlt4)) xC_subL) rfl rfl rfl (Nat.le_of_ble_eq_true rfl) ⟨Nat.le_of_ble_eq_true rfl, Nat.le_of_ble_eq_true rfl⟩ dX6_warned_49 ?_
      obtain rfl := Option.some.inj hf
      exact tt_ireturn (pc := 52) C rfl rfl rfl dX6_warned_52
    · refine tt_aload_n (pc := 22) (k := 0) C dX6_warned_22 rfl rfl ?_
      refine tt_iconst (pc := 23) (v := (-1 : Int32)) C dX6_warned_23 (by decide) ?_
      obtain ⟨r7, hr7, hf⟩ := bind_some hf
      refine tt_callM (pc := 24) (ws := (xC cy xd sX aX uG es ea sT aT tT pT qT ma sL aL tL pL qL sK aK tK pK qK sH rH uH)) (q0 := 0) (ci := 6) (rest := []) (st' := [.int r7.1]) C rfl (k_X6_refused hr7) okX6_refused q2_19 rfl xC_obj rfl rfl rfl (Nat.le_of_ble_eq_true rfl) ⟨Nat.le_of_ble_eq_true rfl, Nat.le_of_ble_eq_true rfl⟩ dX6_warned_24 ?_
      obtain rfl := Option.some.inj hf
      exact tt_ireturn (pc := 27) C rfl rfl rfl dX6_warned_27
theorem dX1_isSafe_0 : decode cX1_isSafe 0 = .ok (.iconst 0, 1) := by decide +kernel
theorem dX1_isSafe_1 : decode cX1_isSafe 1 = .ok (.istore_n 2, 1) := by decide +kernel
theorem dX1_isSafe_2 : decode cX1_isSafe 2 = .ok (.iload_n 2, 1) := by decide +kernel
theorem dX1_isSafe_3 : decode cX1_isSafe 3 = .ok (.aload_n 0, 1) := by decide +kernel
theorem dX1_isSafe_4 : decode cX1_isSafe 4 = .ok (.getfield 31, 3) := by decide +kernel
theorem dX1_isSafe_7 : decode cX1_isSafe 7 = .ok (.if_icmp .ge 46, 3) := by decide +kernel
theorem dX1_isSafe_10 : decode cX1_isSafe 10 = .ok (.iconst 0, 1) := by decide +kernel
theorem dX1_isSafe_11 : decode cX1_isSafe 11 = .ok (.istore_n 3, 1) := by decide +kernel
theorem dX1_isSafe_12 : decode cX1_isSafe 12 = .ok (.iload_n 3, 1) := by decide +kernel
theorem dX1_isSafe_13 : decode cX1_isSafe 13 = .ok (.aload_n 0, 1) := by decide +kernel
theorem dX1_isSafe_14 : decode cX1_isSafe 14 = .ok (.getfield 40, 3) := by decide +kernel
theorem dX1_isSafe_17 : decode cX1_isSafe 17 = .ok (.if_icmp .ge 30, 3) := by decide +kernel
theorem dX1_isSafe_20 : decode cX1_isSafe 20 = .ok (.aload_n 0, 1) := by decide +kernel
theorem dX1_isSafe_21 : decode cX1_isSafe 21 = .ok (.aload_n 0, 1) := by decide +kernel
theorem dX1_isSafe_22 : decode cX1_isSafe 22 = .ok (.getfield 45, 3) := by decide +kernel
theorem dX1_isSafe_25 : decode cX1_isSafe 25 = .ok (.iload_n 3, 1) := by decide +kernel
theorem dX1_isSafe_26 : decode cX1_isSafe 26 = .ok (.aaload, 1) := by decide +kernel
theorem dX1_isSafe_27 : decode cX1_isSafe 27 = .ok (.iload_n 2, 1) := by decide +kernel
theorem dX1_isSafe_28 : decode cX1_isSafe 28 = .ok (.iload_n 1, 1) := by decide +kernel
theorem dX1_isSafe_29 : decode cX1_isSafe 29 = .ok (.invokevirtual 148, 3) := by decide +kernel
theorem dX1_isSafe_32 : decode cX1_isSafe 32 = .ok (.aload_n 0, 1) := by decide +kernel
theorem dX1_isSafe_33 : decode cX1_isSafe 33 = .ok (.getfield 49, 3) := by decide +kernel
theorem dX1_isSafe_36 : decode cX1_isSafe 36 = .ok (.if_icmp .ge 5, 3) := by decide +kernel
theorem dX1_isSafe_39 : decode cX1_isSafe 39 = .ok (.iconst 0, 1) := by decide +kernel
theorem dX1_isSafe_40 : decode cX1_isSafe 40 = .ok (.ireturn, 1) := by decide +kernel
theorem dX1_isSafe_41 : decode cX1_isSafe 41 = .ok (.iinc 3 1, 3) := by decide +kernel
theorem dX1_isSafe_44 : decode cX1_isSafe 44 = .ok (.goto (-32), 3) := by decide +kernel
theorem dX1_isSafe_47 : decode cX1_isSafe 47 = .ok (.iinc 2 1, 3) := by decide +kernel
theorem dX1_isSafe_50 : decode cX1_isSafe 50 = .ok (.goto (-48), 3) := by decide +kernel
theorem dX1_isSafe_53 : decode cX1_isSafe 53 = .ok (.iconst 1, 1) := by decide +kernel
theorem dX1_isSafe_54 : decode cX1_isSafe 54 = .ok (.ireturn, 1) := by decide +kernel
set_option maxHeartbeats 4000000 in
set_option maxRecDepth 100000 in
theorem l_X1_isSafe_12 {p : Program} {l : Launch} {e : Env} {s : State} {m : MethodId} {args : Array Value} {below : List Frame} {meth : Method} {c : Code} {D : va_G} {cy : Nat → ClassId} {A : Nat → Prop} {Bd : Nat} {xa : Xa} {ad : Nat → Nat} {N : Nat} {sc : Nat → Int32} {ar : Nat → Nat → Int32} {tr : Nat → Nat → Int32} {ps : Nat → Int32} {pa : Nat → Nat → Int32} {v1 : Int32} {v2 : Int32} {kx : Unit → Option (Int32)} {out : Int32} (C : CC p s m args meth c cX1_isSafe RX1 4 (some .boolean) D cy A true Bd xa) (hk : ∀ (uu : Unit), kx uu = some out → TT p l e { frames := 5, cells := 0, slots := 0, locals := 119 } s m args below meth c 4 D A true (some (.int out)) (lC cy ad sc ar tr ps pa) 47 [(0, .ref (ad 0)), (1, .int v1), (2, .int v2)] [] (lC cy ad sc ar tr ps pa)) {n : Nat} {v3 : Int32} (hf : f_X1_isSafe_L12 N sc ar tr v1 v2 kx n v3 = some out) : TT p l e { frames := 5, cells := 0, slots := 0, locals := 119 } s m args below meth c 4 D A true (some (.int out)) (lC cy ad sc ar tr ps pa) 12 [(0, .ref (ad 0)), (1, .int v1), (2, .int v2), (3, .int v3)] [] (lC cy ad sc ar tr ps pa) := by
  induction n generalizing v3 with
  | zero => cases hf
  | succ n ih =>
    rw [f_X1_isSafe_L12] at hf
    refine tt_iload_n (pc := 12) (k := 3) C dX1_isSafe_12 rfl rfl ?_
    refine tt_aload_n (pc := 13) (k := 0) C dX1_isSafe_13 rfl rfl ?_
    refine tt_get (pc := 14) (ws := (lC cy ad sc ar tr ps pa)) (ci := 1) (v := .int (sc 9)) C fiX1 rfl 0 lC_obj 9 (by decide) q1_104 rfl dX1_isSafe_14 ?_
    refine tt_icmp_ge (pc := 17) (tgt := 47) C dX1_isSafe_17 (by decide) hf (fun hf => ?_) (fun hf => ?_)
    · exact tt_locs [0, 1, 2] rfl (hk () hf)
    · refine tt_aload_n (pc := 20) (k := 0) C dX1_isSafe_20 rfl rfl ?_
      refine tt_aload_n (pc := 21) (k := 0) C dX1_isSafe_21 rfl rfl ?_
      refine tt_get (pc := 22) (ws := (lC cy ad sc ar tr ps pa)) (ci := 1) (v := .ref (ad 10)) C fiX1 rfl 0 lC_obj 10 (by decide) q1_106 rfl dX1_isSafe_22 ?_
      refine tt_iload_n (pc := 25) (k := 3) C dX1_isSafe_25 rfl rfl ?_
      refine tt_aaload (pc := 26) (ws := (lC cy ad sc ar tr ps pa)) (n := 4) (r := (fun j => ad (40 + j))) C 7 4 lC_get10 rfl hf (fun _ _ => rfl) dX1_isSafe_26 (fun hf hlt1 => ?_)
      refine tt_iload_n (pc := 27) (k := 2) C dX1_isSafe_27 rfl rfl ?_
      refine tt_iload_n (pc := 28) (k := 1) C dX1_isSafe_28 rfl rfl ?_
      obtain ⟨r2, hr2, hf⟩ := bind_some hf
      refine tt_callR (pc := 29) (ws := (lC cy ad sc ar tr ps pa)) (q0 := 0) (ci := 1) (rest := []) (st' := [.int r2]) C (k_X1_warningOf hr2) okX1_warningOf q3_137 rfl lC_obj (sub_c (lC_tmem hlt1) (fun _ h => h)) rfl rfl rfl (Nat.le_of_ble_eq_true rfl) ⟨Nat.le_of_ble_eq_true rfl, Nat.le_of_ble_eq_true rfl⟩ dX1_isSafe_29 ?_
      refine tt_aload_n (pc := 32) (k := 0) C dX1_isSafe_32 rfl rfl ?_
      refine tt_get (pc := 33) (ws := (lC cy ad sc ar tr ps pa)) (ci := 1) (v := .int (sc 11)) C fiX1 rfl 0 lC_obj 11 (by decide) q1_108 rfl dX1_isSafe_33 ?_
      refine tt_icmp_ge (pc := 36) (tgt := 41) C dX1_isSafe_36 (by decide) hf (fun hf => ?_) (fun hf => ?_)
      · refine tt_iinc (pc := 41) (k := 3) (v := (v3 + 1)) (L' := [(3, .int (v3 + 1)), (0, .ref (ad 0)), (1, .int v1), (2, .int v2)]) C dX1_isSafe_41 rfl rfl (by decide) rfl ?_
        refine tt_goto (pc := 44) (tgt := 12) C dX1_isSafe_44 (by decide) ?_
        exact tt_locs [1, 2, 3, 0] rfl (ih hf)
      · refine tt_iconst (pc := 39) (v := (0 : Int32)) C dX1_isSafe_39 (by decide) ?_
        obtain rfl := Option.some.inj hf
        exact tt_zreturn (pc := 40) C rfl rfl rfl rfl dX1_isSafe_40
set_option maxHeartbeats 4000000 in
set_option maxRecDepth 100000 in
theorem l_X1_isSafe_2 {p : Program} {l : Launch} {e : Env} {s : State} {m : MethodId} {args : Array Value} {below : List Frame} {meth : Method} {c : Code} {D : va_G} {cy : Nat → ClassId} {A : Nat → Prop} {Bd : Nat} {xa : Xa} {ad : Nat → Nat} {N : Nat} {sc : Nat → Int32} {ar : Nat → Nat → Int32} {tr : Nat → Nat → Int32} {ps : Nat → Int32} {pa : Nat → Nat → Int32} {v1 : Int32} {kx : Unit → Option (Int32)} {out : Int32} (C : CC p s m args meth c cX1_isSafe RX1 4 (some .boolean) D cy A true Bd xa) (hk : ∀ (uu : Unit), kx uu = some out → TT p l e { frames := 5, cells := 0, slots := 0, locals := 119 } s m args below meth c 4 D A true (some (.int out)) (lC cy ad sc ar tr ps pa) 53 [] [] (lC cy ad sc ar tr ps pa)) {n : Nat} {v2 : Int32} (hf : f_X1_isSafe_L2 N sc ar tr v1 kx n v2 = some out) : TT p l e { frames := 5, cells := 0, slots := 0, locals := 119 } s m args below meth c 4 D A true (some (.int out)) (lC cy ad sc ar tr ps pa) 2 [(0, .ref (ad 0)), (1, .int v1), (2, .int v2)] [] (lC cy ad sc ar tr ps pa) := by
  induction n generalizing v2 with
  | zero => cases hf
  | succ n ih =>
    rw [f_X1_isSafe_L2] at hf
    refine tt_iload_n (pc := 2) (k := 2) C dX1_isSafe_2 rfl rfl ?_
    refine tt_aload_n (pc := 3) (k := 0) C dX1_isSafe_3 rfl rfl ?_
    refine tt_get (pc := 4) (ws := (lC cy ad sc ar tr ps pa)) (ci := 1) (v := .int (sc 6)) C fiX1 rfl 0 lC_obj 6 (by decide) q1_95 rfl dX1_isSafe_4 ?_
    refine tt_icmp_ge (pc := 7) (tgt := 53) C dX1_isSafe_7 (by decide) hf (fun hf => ?_) (fun hf => ?_)
    · exact tt_locs [] rfl (hk () hf)
    · refine tt_iconst (pc := 10) (v := (0 : Int32)) C dX1_isSafe_10 (by decide) ?_
      refine tt_istore_n (pc := 11) (L' := [(3, .int (0 : Int32)), (0, .ref (ad 0)), (1, .int v1), (2, .int v2)]) C dX1_isSafe_11 rfl (by decide) rfl ?_
      refine tt_locs (L' := [(0, .ref (ad 0)), (1, .int v1), (2, .int v2), (3, .int (0 : Int32))]) [1, 2, 3, 0] rfl (l_X1_isSafe_12 C (fun _ hf => ?_) hf)
      refine tt_iinc (pc := 47) (k := 2) (v := (v2 + 1)) (L' := [(2, .int (v2 + 1)), (0, .ref (ad 0)), (1, .int v1)]) C dX1_isSafe_47 rfl rfl (by decide) rfl ?_
      refine tt_goto (pc := 50) (tgt := 2) C dX1_isSafe_50 (by decide) ?_
      exact tt_locs [1, 2, 0] rfl (ih hf)
set_option maxHeartbeats 4000000 in
set_option maxRecDepth 100000 in
theorem k_X1_isSafe {l : Launch} {D : va_G} {cy : Nat → ClassId} {Bd : Nat} {xa : Xa} {ad : Nat → Nat} {N : Nat} {sc : Nat → Int32} {ar : Nat → Nat → Int32} {tr : Nat → Nat → Int32} {ps : Nat → Int32} {pa : Nat → Nat → Int32} {a1 : Int32} {out : Int32} (hf : f_X1_isSafe N sc ar tr a1 = some out) : KC l yX1_isSafe cX1_isSafe 4 (some .boolean) 5 119 true D cy Bd xa [.ref (ad 0), .int a1] (lC cy ad sc ar tr ps pa) (some (.int out)) (lC cy ad sc ar tr ps pa) := by
  refine kc_start (own := RX1) (by decide +kernel) rfl (Nat.le_of_ble_eq_true rfl) ?_
  intro p e s m args below meth c A C
  unfold f_X1_isSafe at hf
  refine tt_locs (L' := [(0, .ref (ad 0)), (1, .int a1)]) [0, 1] rfl ?_
  refine tt_iconst (pc := 0) (v := (0 : Int32)) C dX1_isSafe_0 (by decide) ?_
  refine tt_istore_n (pc := 1) (L' := [(2, .int (0 : Int32)), (0, .ref (ad 0)), (1, .int a1)]) C dX1_isSafe_1 rfl (by decide) rfl ?_
  refine tt_locs (L' := [(0, .ref (ad 0)), (1, .int a1), (2, .int (0 : Int32))]) [1, 2, 0] rfl (l_X1_isSafe_2 C (fun _ hf => ?_) hf)
  refine tt_iconst (pc := 53) (v := (1 : Int32)) C dX1_isSafe_53 (by decide) ?_
  obtain rfl := Option.some.inj hf
  exact tt_zreturn (pc := 54) C rfl rfl rfl rfl dX1_isSafe_54
theorem dX6_safe_0 : decode cX6_safe 0 = .ok (.aload_n 0, 1) := by decide +kernel
theorem dX6_safe_1 : decode cX6_safe 1 = .ok (.getfield 10, 3) := by decide +kernel
theorem dX6_safe_4 : decode cX6_safe 4 = .ok (.aload_n 0, 1) := by decide +kernel
theorem dX6_safe_5 : decode cX6_safe 5 = .ok (.getfield 10, 3) := by decide +kernel
theorem dX6_safe_8 : decode cX6_safe 8 = .ok (.invokevirtual 157, 3) := by decide +kernel
theorem dX6_safe_11 : decode cX6_safe 11 = .ok (.invokevirtual 183, 3) := by decide +kernel
theorem dX6_safe_14 : decode cX6_safe 14 = .ok (.invokestatic 168, 3) := by decide +kernel
theorem dX6_safe_17 : decode cX6_safe 17 = .ok (.ireturn, 1) := by decide +kernel
set_option maxHeartbeats 4000000 in
set_option maxRecDepth 100000 in
theorem k_X6_safe {l : Launch} {D : va_G} {cy : Nat → ClassId} {Bd : Nat} {xa : Xa} {xd : Nat → Nat → Nat} {N : Nat} {sX : Nat → Int32} {aX : Nat → Nat → Int32} {uG : Nat → Int32} {es : Nat → Int32} {ea : Nat → Nat → Int32} {sT : Nat → Int32} {aT : Nat → Nat → Int32} {tT : Nat → Nat → Int32} {pT : Nat → Int32} {qT : Nat → Nat → Int32} {ma : Nat → Nat → Int32} {sL : Nat → Int32} {aL : Nat → Nat → Int32} {tL : Nat → Nat → Int32} {pL : Nat → Int32} {qL : Nat → Nat → Int32} {sK : Nat → Int32} {aK : Nat → Nat → Int32} {tK : Nat → Nat → Int32} {pK : Nat → Int32} {qK : Nat → Nat → Int32} {sH : Nat → Nat → Int32} {rH : Nat → Nat → Int64} {uH : Nat → Nat → Int32} {out : Int32} (hf : f_X6_safe N sL aL tL = some out) : KC l yX6_safe cX6_safe 1 (some .int) 6 142 true D cy Bd xa [.ref (xd 0 0)] (xC cy xd sX aX uG es ea sT aT tT pT qT ma sL aL tL pL qL sK aK tK pK qK sH rH uH) (some (.int out)) (xC cy xd sX aX uG es ea sT aT tT pT qT ma sL aL tL pL qL sK aK tK pK qK sH rH uH) := by
  refine kc_start (own := RX6) (by decide +kernel) rfl (Nat.le_of_ble_eq_true rfl) ?_
  intro p e s m args below meth c A C
  unfold f_X6_safe at hf
  refine tt_locs (L' := [(0, .ref (xd 0 0))]) [0] rfl ?_
  refine tt_aload_n (pc := 0) (k := 0) C dX6_safe_0 rfl rfl ?_
  refine tt_get (pc := 1) (ws := (xC cy xd sX aX uG es ea sT aT tT pT qT ma sL aL tL pL qL sK aK tK pK qK sH rH uH)) (ci := 6) (v := .ref ((xd 1) 0)) C fiX6 rfl 0 xC_obj 0 (by decide) q1_219 rfl dX6_safe_1 ?_
  refine tt_aload_n (pc := 4) (k := 0) C dX6_safe_4 rfl rfl ?_
  refine tt_get (pc := 5) (ws := (xC cy xd sX aX uG es ea sT aT tT pT qT ma sL aL tL pL qL sK aK tK pK qK sH rH uH)) (ci := 6) (v := .ref ((xd 1) 0)) C fiX6 rfl 0 xC_obj 0 (by decide) q1_219 rfl dX6_safe_5 ?_
  obtain ⟨r1, hr1, hf⟩ := bind_some hf
  refine tt_callR (pc := 8) (ws := (xC cy xd sX aX uG es ea sT aT tT pT qT ma sL aL tL pL qL sK aK tK pK qK sH rH uH)) (q0 := 28) (ci := 1) (rest := [.ref ((xd 1) 0)]) (st' := [.int r1, .ref ((xd 1) 0)]) C (k_X1_allBridges hr1) okX1_allBridges q3_60 rfl rfl xC_subL rfl rfl rfl (Nat.le_of_ble_eq_true rfl) ⟨Nat.le_of_ble_eq_true rfl, Nat.le_of_ble_eq_true rfl⟩ dX6_safe_8 ?_
  obtain ⟨r2, hr2, hf⟩ := bind_some hf
  refine tt_callR (pc := 11) (ws := (xC cy xd sX aX uG es ea sT aT tT pT qT ma sL aL tL pL qL sK aK tK pK qK sH rH uH)) (q0 := 28) (ci := 1) (rest := []) (st' := [.int r2]) C (k_X1_isSafe hr2) okX1_isSafe q3_133 rfl rfl xC_subL rfl rfl rfl (Nat.le_of_ble_eq_true rfl) ⟨Nat.le_of_ble_eq_true rfl, Nat.le_of_ble_eq_true rfl⟩ dX6_safe_11 ?_
  obtain ⟨r3, hr3, hf⟩ := bind_some hf
  refine tt_callS (pc := 14) (ws := (xC cy xd sX aX uG es ea sT aT tT pT qT ma sL aL tL pL qL sK aK tK pK qK sH rH uH)) (rest := []) (st' := [.int r3]) C (k_X6_oneIf hr3) okX6_oneIf q3_95 (fun _ h => absurd h List.not_mem_nil) rfl rfl rfl (Nat.le_of_ble_eq_true rfl) ⟨Nat.le_of_ble_eq_true rfl, Nat.le_of_ble_eq_true rfl⟩ dX6_safe_14 ?_
  obtain rfl := Option.some.inj hf
  exact tt_ireturn (pc := 17) C rfl rfl rfl dX6_safe_17
theorem dX1_keepsAll_0 : decode cX1_keepsAll 0 = .ok (.iconst 0, 1) := by decide +kernel
theorem dX1_keepsAll_1 : decode cX1_keepsAll 1 = .ok (.istore_n 3, 1) := by decide +kernel
theorem dX1_keepsAll_2 : decode cX1_keepsAll 2 = .ok (.iload_n 3, 1) := by decide +kernel
theorem dX1_keepsAll_3 : decode cX1_keepsAll 3 = .ok (.aload_n 0, 1) := by decide +kernel
theorem dX1_keepsAll_4 : decode cX1_keepsAll 4 = .ok (.getfield 40, 3) := by decide +kernel
theorem dX1_keepsAll_7 : decode cX1_keepsAll 7 = .ok (.if_icmp .ge 34, 3) := by decide +kernel
theorem dX1_keepsAll_10 : decode cX1_keepsAll 10 = .ok (.aload_n 0, 1) := by decide +kernel
theorem dX1_keepsAll_11 : decode cX1_keepsAll 11 = .ok (.aload_n 0, 1) := by decide +kernel
theorem dX1_keepsAll_12 : decode cX1_keepsAll 12 = .ok (.getfield 45, 3) := by decide +kernel
theorem dX1_keepsAll_15 : decode cX1_keepsAll 15 = .ok (.iload_n 3, 1) := by decide +kernel
theorem dX1_keepsAll_16 : decode cX1_keepsAll 16 = .ok (.aaload, 1) := by decide +kernel
theorem dX1_keepsAll_17 : decode cX1_keepsAll 17 = .ok (.iload_n 1, 1) := by decide +kernel
theorem dX1_keepsAll_18 : decode cX1_keepsAll 18 = .ok (.iload_n 2, 1) := by decide +kernel
theorem dX1_keepsAll_19 : decode cX1_keepsAll 19 = .ok (.aload_n 0, 1) := by decide +kernel
theorem dX1_keepsAll_20 : decode cX1_keepsAll 20 = .ok (.invokevirtual 145, 3) := by decide +kernel
theorem dX1_keepsAll_23 : decode cX1_keepsAll 23 = .ok (.invokevirtual 137, 3) := by decide +kernel
theorem dX1_keepsAll_26 : decode cX1_keepsAll 26 = .ok (.aload_n 0, 1) := by decide +kernel
theorem dX1_keepsAll_27 : decode cX1_keepsAll 27 = .ok (.getfield 49, 3) := by decide +kernel
theorem dX1_keepsAll_30 : decode cX1_keepsAll 30 = .ok (.if_icmp .ge 5, 3) := by decide +kernel
theorem dX1_keepsAll_33 : decode cX1_keepsAll 33 = .ok (.iconst 0, 1) := by decide +kernel
theorem dX1_keepsAll_34 : decode cX1_keepsAll 34 = .ok (.ireturn, 1) := by decide +kernel
theorem dX1_keepsAll_35 : decode cX1_keepsAll 35 = .ok (.iinc 3 1, 3) := by decide +kernel
theorem dX1_keepsAll_38 : decode cX1_keepsAll 38 = .ok (.goto (-36), 3) := by decide +kernel
theorem dX1_keepsAll_41 : decode cX1_keepsAll 41 = .ok (.iconst 1, 1) := by decide +kernel
theorem dX1_keepsAll_42 : decode cX1_keepsAll 42 = .ok (.ireturn, 1) := by decide +kernel
set_option maxHeartbeats 4000000 in
set_option maxRecDepth 100000 in
theorem l_X1_keepsAll_2 {p : Program} {l : Launch} {e : Env} {s : State} {m : MethodId} {args : Array Value} {below : List Frame} {meth : Method} {c : Code} {D : va_G} {cy : Nat → ClassId} {A : Nat → Prop} {Bd : Nat} {xa : Xa} {ad : Nat → Nat} {N : Nat} {sc : Nat → Int32} {ar : Nat → Nat → Int32} {tr : Nat → Nat → Int32} {ps : Nat → Int32} {pa : Nat → Nat → Int32} {v1 : Int32} {v2 : Int32} {kx : Unit → Option (Int32)} {out : Int32} (C : CC p s m args meth c cX1_keepsAll RX1 4 (some .boolean) D cy A true Bd xa) (hk : ∀ (uu : Unit), kx uu = some out → TT p l e { frames := 4, cells := 0, slots := 0, locals := 96 } s m args below meth c 4 D A true (some (.int out)) (lC cy ad sc ar tr ps pa) 41 [] [] (lC cy ad sc ar tr ps pa)) {n : Nat} {v3 : Int32} (hf : f_X1_keepsAll_L2 N sc ar tr v1 v2 kx n v3 = some out) : TT p l e { frames := 4, cells := 0, slots := 0, locals := 96 } s m args below meth c 4 D A true (some (.int out)) (lC cy ad sc ar tr ps pa) 2 [(0, .ref (ad 0)), (1, .int v1), (2, .int v2), (3, .int v3)] [] (lC cy ad sc ar tr ps pa) := by
  induction n generalizing v3 with
  | zero => cases hf
  | succ n ih =>
    rw [f_X1_keepsAll_L2] at hf
    refine tt_iload_n (pc := 2) (k := 3) C dX1_keepsAll_2 rfl rfl ?_
    refine tt_aload_n (pc := 3) (k := 0) C dX1_keepsAll_3 rfl rfl ?_
    refine tt_get (pc := 4) (ws := (lC cy ad sc ar tr ps pa)) (ci := 1) (v := .int (sc 9)) C fiX1 rfl 0 lC_obj 9 (by decide) q1_104 rfl dX1_keepsAll_4 ?_
    refine tt_icmp_ge (pc := 7) (tgt := 41) C dX1_keepsAll_7 (by decide) hf (fun hf => ?_) (fun hf => ?_)
    · exact tt_locs [] rfl (hk () hf)
    · refine tt_aload_n (pc := 10) (k := 0) C dX1_keepsAll_10 rfl rfl ?_
      refine tt_aload_n (pc := 11) (k := 0) C dX1_keepsAll_11 rfl rfl ?_
      refine tt_get (pc := 12) (ws := (lC cy ad sc ar tr ps pa)) (ci := 1) (v := .ref (ad 10)) C fiX1 rfl 0 lC_obj 10 (by decide) q1_106 rfl dX1_keepsAll_12 ?_
      refine tt_iload_n (pc := 15) (k := 3) C dX1_keepsAll_15 rfl rfl ?_
      refine tt_aaload (pc := 16) (ws := (lC cy ad sc ar tr ps pa)) (n := 4) (r := (fun j => ad (40 + j))) C 7 4 lC_get10 rfl hf (fun _ _ => rfl) dX1_keepsAll_16 (fun hf hlt1 => ?_)
      refine tt_iload_n (pc := 17) (k := 1) C dX1_keepsAll_17 rfl rfl ?_
      refine tt_iload_n (pc := 18) (k := 2) C dX1_keepsAll_18 rfl rfl ?_
      refine tt_aload_n (pc := 19) (k := 0) C dX1_keepsAll_19 rfl rfl ?_
      obtain ⟨r2, hr2, hf⟩ := bind_some hf
      refine tt_callR (pc := 20) (ws := (lC cy ad sc ar tr ps pa)) (q0 := 0) (ci := 1) (rest := [.int v2, .int v1, .ref (ad (40 + (ix v3))), .ref (ad 0)]) (st' := [.int r2, .int v2, .int v1, .ref (ad (40 + (ix v3))), .ref (ad 0)]) C (k_X1_allBridges hr2) okX1_allBridges q3_154 rfl lC_obj (fun _ h => h) rfl rfl rfl (Nat.le_of_ble_eq_true rfl) ⟨Nat.le_of_ble_eq_true rfl, Nat.le_of_ble_eq_true rfl⟩ dX1_keepsAll_20 ?_
      obtain ⟨r3, hr3, hf⟩ := bind_some hf
      refine tt_callR (pc := 23) (ws := (lC cy ad sc ar tr ps pa)) (q0 := 0) (ci := 1) (rest := []) (st' := [.int r3]) C (k_X1_warningFor hr3) okX1_warningFor q3_124 rfl lC_obj (sub_c (lC_tmem hlt1) (fun _ h => h)) rfl rfl rfl (Nat.le_of_ble_eq_true rfl) ⟨Nat.le_of_ble_eq_true rfl, Nat.le_of_ble_eq_true rfl⟩ dX1_keepsAll_23 ?_
      refine tt_aload_n (pc := 26) (k := 0) C dX1_keepsAll_26 rfl rfl ?_
      refine tt_get (pc := 27) (ws := (lC cy ad sc ar tr ps pa)) (ci := 1) (v := .int (sc 11)) C fiX1 rfl 0 lC_obj 11 (by decide) q1_108 rfl dX1_keepsAll_27 ?_
      refine tt_icmp_ge (pc := 30) (tgt := 35) C dX1_keepsAll_30 (by decide) hf (fun hf => ?_) (fun hf => ?_)
      · refine tt_iinc (pc := 35) (k := 3) (v := (v3 + 1)) (L' := [(3, .int (v3 + 1)), (0, .ref (ad 0)), (1, .int v1), (2, .int v2)]) C dX1_keepsAll_35 rfl rfl (by decide) rfl ?_
        refine tt_goto (pc := 38) (tgt := 2) C dX1_keepsAll_38 (by decide) ?_
        exact tt_locs [1, 2, 3, 0] rfl (ih hf)
      · refine tt_iconst (pc := 33) (v := (0 : Int32)) C dX1_keepsAll_33 (by decide) ?_
        obtain rfl := Option.some.inj hf
        exact tt_zreturn (pc := 34) C rfl rfl rfl rfl dX1_keepsAll_34
set_option maxHeartbeats 4000000 in
set_option maxRecDepth 100000 in
theorem k_X1_keepsAll {l : Launch} {D : va_G} {cy : Nat → ClassId} {Bd : Nat} {xa : Xa} {ad : Nat → Nat} {N : Nat} {sc : Nat → Int32} {ar : Nat → Nat → Int32} {tr : Nat → Nat → Int32} {ps : Nat → Int32} {pa : Nat → Nat → Int32} {a1 : Int32} {a2 : Int32} {out : Int32} (hf : f_X1_keepsAll N sc ar tr a1 a2 = some out) : KC l yX1_keepsAll cX1_keepsAll 4 (some .boolean) 4 96 true D cy Bd xa [.ref (ad 0), .int a1, .int a2] (lC cy ad sc ar tr ps pa) (some (.int out)) (lC cy ad sc ar tr ps pa) := by
  refine kc_start (own := RX1) (by decide +kernel) rfl (Nat.le_of_ble_eq_true rfl) ?_
  intro p e s m args below meth c A C
  unfold f_X1_keepsAll at hf
  refine tt_locs (L' := [(0, .ref (ad 0)), (1, .int a1), (2, .int a2)]) [0, 1, 2] rfl ?_
  refine tt_iconst (pc := 0) (v := (0 : Int32)) C dX1_keepsAll_0 (by decide) ?_
  refine tt_istore_n (pc := 1) (L' := [(3, .int (0 : Int32)), (0, .ref (ad 0)), (1, .int a1), (2, .int a2)]) C dX1_keepsAll_1 rfl (by decide) rfl ?_
  refine tt_locs (L' := [(0, .ref (ad 0)), (1, .int a1), (2, .int a2), (3, .int (0 : Int32))]) [1, 2, 3, 0] rfl (l_X1_keepsAll_2 C (fun _ hf => ?_) hf)
  refine tt_iconst (pc := 41) (v := (1 : Int32)) C dX1_keepsAll_41 (by decide) ?_
  obtain rfl := Option.some.inj hf
  exact tt_zreturn (pc := 42) C rfl rfl rfl rfl dX1_keepsAll_42
theorem dX2_prepare_0 : decode cX2_prepare 0 = .ok (.iconst 0, 1) := by decide +kernel
theorem dX2_prepare_1 : decode cX2_prepare 1 = .ok (.istore_n 2, 1) := by decide +kernel
theorem dX2_prepare_2 : decode cX2_prepare 2 = .ok (.iload_n 2, 1) := by decide +kernel
theorem dX2_prepare_3 : decode cX2_prepare 3 = .ok (.aload_n 1, 1) := by decide +kernel
theorem dX2_prepare_4 : decode cX2_prepare 4 = .ok (.getfield 38, 3) := by decide +kernel
theorem dX2_prepare_7 : decode cX2_prepare 7 = .ok (.if_icmp .ge 104, 3) := by decide +kernel
theorem dX2_prepare_10 : decode cX2_prepare 10 = .ok (.iconst 0, 1) := by decide +kernel
theorem dX2_prepare_11 : decode cX2_prepare 11 = .ok (.istore_n 3, 1) := by decide +kernel
theorem dX2_prepare_12 : decode cX2_prepare 12 = .ok (.iconst 0, 1) := by decide +kernel
theorem dX2_prepare_13 : decode cX2_prepare 13 = .ok (.istore 4, 2) := by decide +kernel
theorem dX2_prepare_15 : decode cX2_prepare 15 = .ok (.iload 4, 2) := by decide +kernel
theorem dX2_prepare_17 : decode cX2_prepare 17 = .ok (.aload_n 1, 1) := by decide +kernel
theorem dX2_prepare_18 : decode cX2_prepare 18 = .ok (.getfield 38, 3) := by decide +kernel
theorem dX2_prepare_21 : decode cX2_prepare 21 = .ok (.if_icmp .ge 28, 3) := by decide +kernel
theorem dX2_prepare_24 : decode cX2_prepare 24 = .ok (.aload_n 1, 1) := by decide +kernel
theorem dX2_prepare_25 : decode cX2_prepare 25 = .ok (.getfield 44, 3) := by decide +kernel
theorem dX2_prepare_28 : decode cX2_prepare 28 = .ok (.iload 4, 2) := by decide +kernel
theorem dX2_prepare_30 : decode cX2_prepare 30 = .ok (.iaload, 1) := by decide +kernel
theorem dX2_prepare_31 : decode cX2_prepare 31 = .ok (.aload_n 1, 1) := by decide +kernel
theorem dX2_prepare_32 : decode cX2_prepare 32 = .ok (.getfield 44, 3) := by decide +kernel
theorem dX2_prepare_35 : decode cX2_prepare 35 = .ok (.iload_n 2, 1) := by decide +kernel
theorem dX2_prepare_36 : decode cX2_prepare 36 = .ok (.iaload, 1) := by decide +kernel
theorem dX2_prepare_37 : decode cX2_prepare 37 = .ok (.if_icmp .ge 6, 3) := by decide +kernel
theorem dX2_prepare_40 : decode cX2_prepare 40 = .ok (.iinc 3 1, 3) := by decide +kernel
theorem dX2_prepare_43 : decode cX2_prepare 43 = .ok (.iinc 4 1, 3) := by decide +kernel
theorem dX2_prepare_46 : decode cX2_prepare 46 = .ok (.goto (-31), 3) := by decide +kernel
theorem dX2_prepare_49 : decode cX2_prepare 49 = .ok (.aload_n 0, 1) := by decide +kernel
theorem dX2_prepare_50 : decode cX2_prepare 50 = .ok (.getfield 15, 3) := by decide +kernel
theorem dX2_prepare_53 : decode cX2_prepare 53 = .ok (.iload_n 3, 1) := by decide +kernel
theorem dX2_prepare_54 : decode cX2_prepare 54 = .ok (.iload_n 2, 1) := by decide +kernel
theorem dX2_prepare_55 : decode cX2_prepare 55 = .ok (.iastore, 1) := by decide +kernel
theorem dX2_prepare_56 : decode cX2_prepare 56 = .ok (.aload_n 0, 1) := by decide +kernel
theorem dX2_prepare_57 : decode cX2_prepare 57 = .ok (.getfield 19, 3) := by decide +kernel
theorem dX2_prepare_60 : decode cX2_prepare 60 = .ok (.iload_n 2, 1) := by decide +kernel
theorem dX2_prepare_61 : decode cX2_prepare 61 = .ok (.iconst (-1), 1) := by decide +kernel
theorem dX2_prepare_62 : decode cX2_prepare 62 = .ok (.iastore, 1) := by decide +kernel
theorem dX2_prepare_63 : decode cX2_prepare 63 = .ok (.iconst 0, 1) := by decide +kernel
theorem dX2_prepare_64 : decode cX2_prepare 64 = .ok (.istore 4, 2) := by decide +kernel
theorem dX2_prepare_66 : decode cX2_prepare 66 = .ok (.iload 4, 2) := by decide +kernel
theorem dX2_prepare_68 : decode cX2_prepare 68 = .ok (.aload_n 1, 1) := by decide +kernel
theorem dX2_prepare_69 : decode cX2_prepare 69 = .ok (.getfield 47, 3) := by decide +kernel
theorem dX2_prepare_72 : decode cX2_prepare 72 = .ok (.if_icmp .ge 33, 3) := by decide +kernel
theorem dX2_prepare_75 : decode cX2_prepare 75 = .ok (.aload_n 0, 1) := by decide +kernel
theorem dX2_prepare_76 : decode cX2_prepare 76 = .ok (.getfield 9, 3) := by decide +kernel
theorem dX2_prepare_79 : decode cX2_prepare 79 = .ok (.iload_n 2, 1) := by decide +kernel
theorem dX2_prepare_80 : decode cX2_prepare 80 = .ok (.bipush 24, 2) := by decide +kernel
theorem dX2_prepare_82 : decode cX2_prepare 82 = .ok (.imul, 1) := by decide +kernel
theorem dX2_prepare_83 : decode cX2_prepare 83 = .ok (.iload 4, 2) := by decide +kernel
theorem dX2_prepare_85 : decode cX2_prepare 85 = .ok (.iadd, 1) := by decide +kernel
theorem dX2_prepare_86 : decode cX2_prepare 86 = .ok (.aload_n 1, 1) := by decide +kernel
theorem dX2_prepare_87 : decode cX2_prepare 87 = .ok (.iload 4, 2) := by decide +kernel
theorem dX2_prepare_89 : decode cX2_prepare 89 = .ok (.aload_n 1, 1) := by decide +kernel
theorem dX2_prepare_90 : decode cX2_prepare 90 = .ok (.getfield 50, 3) := by decide +kernel
theorem dX2_prepare_93 : decode cX2_prepare 93 = .ok (.iload_n 2, 1) := by decide +kernel
theorem dX2_prepare_94 : decode cX2_prepare 94 = .ok (.iaload, 1) := by decide +kernel
theorem dX2_prepare_95 : decode cX2_prepare 95 = .ok (.invokevirtual 53, 3) := by decide +kernel
theorem dX2_prepare_98 : decode cX2_prepare 98 = .ok (.bastore, 1) := by decide +kernel
theorem dX2_prepare_99 : decode cX2_prepare 99 = .ok (.iinc 4 1, 3) := by decide +kernel
theorem dX2_prepare_102 : decode cX2_prepare 102 = .ok (.goto (-36), 3) := by decide +kernel
theorem dX2_prepare_105 : decode cX2_prepare 105 = .ok (.iinc 2 1, 3) := by decide +kernel
theorem dX2_prepare_108 : decode cX2_prepare 108 = .ok (.goto (-106), 3) := by decide +kernel
theorem dX2_prepare_111 : decode cX2_prepare 111 = .ok (.return_, 1) := by decide +kernel
set_option maxHeartbeats 4000000 in
set_option maxRecDepth 100000 in
theorem l_X2_prepare_15 {p : Program} {l : Launch} {e : Env} {s : State} {m : MethodId} {args : Array Value} {below : List Frame} {meth : Method} {c : Code} {D : va_G} {cy : Nat → ClassId} {A : Nat → Prop} {Bd : Nat} {xa : Xa} {md ad : Nat → Nat} {β : Type} {vO : Option Value} {wO : va_W} {N : Nat} {ma : Nat → Nat → Int32} {sc : Nat → Int32} {ar : Nat → Nat → Int32} {tr : Nat → Nat → Int32} {ps : Nat → Int32} {pa : Nat → Nat → Int32} {v2 : Int32} {kx : Int32 → Option (β)} {out : β} (C : CC p s m args meth c cX2_prepare RX2 5 none D cy A false Bd xa) (hk : ∀ (x3 : Int32), kx x3 = some out → TT p l e { frames := 5, cells := 0, slots := 0, locals := 119 } s m args below meth c 5 D A false vO wO 49 [(0, .ref (md 0)), (1, .ref (ad 0)), (2, .int v2), (3, .int x3)] [] (vC cy md ma ++ lC cy ad sc ar tr ps pa)) {n : Nat} {v3 : Int32} {v4 : Int32} (hf : f_X2_prepare_L15 N ma sc ar tr v2 kx n v3 v4 = some out) : TT p l e { frames := 5, cells := 0, slots := 0, locals := 119 } s m args below meth c 5 D A false vO wO 15 [(0, .ref (md 0)), (1, .ref (ad 0)), (2, .int v2), (3, .int v3), (4, .int v4)] [] (vC cy md ma ++ lC cy ad sc ar tr ps pa) := by
  induction n generalizing v3 v4 with
  | zero => cases hf
  | succ n ih =>
    rw [f_X2_prepare_L15] at hf
    refine tt_iload (pc := 15) (k := 4) C dX2_prepare_15 rfl ?_
    refine tt_aload_n (pc := 17) (k := 1) C dX2_prepare_17 rfl rfl ?_
    refine tt_get (pc := 18) (ws := (vC cy md ma ++ lC cy ad sc ar tr ps pa)) (ci := 1) (v := .int (sc 6)) C fiX1 rfl 5 vL_lobj 6 (by decide) q1_96 rfl dX2_prepare_18 ?_
    refine tt_icmp_ge (pc := 21) (tgt := 49) C dX2_prepare_21 (by decide) hf (fun hf => ?_) (fun hf => ?_)
    · exact tt_locs [0, 1, 2, 3] rfl (hk _ hf)
    · refine tt_aload_n (pc := 24) (k := 1) C dX2_prepare_24 rfl rfl ?_
      refine tt_get (pc := 25) (ws := (vC cy md ma ++ lC cy ad sc ar tr ps pa)) (ci := 1) (v := .ref (ad 7)) C fiX1 rfl 5 vL_lobj 7 (by decide) q1_99 rfl dX2_prepare_25 ?_
      refine tt_iload (pc := 28) (k := 4) C dX2_prepare_28 rfl ?_
      refine tt_iaload (pc := 30) (ws := (vC cy md ma ++ lC cy ad sc ar tr ps pa)) (n := 5) (f := (ar 7)) C 10 0 vL_lget7 rfl hf dX2_prepare_30 (fun hf => ?_)
      refine tt_aload_n (pc := 31) (k := 1) C dX2_prepare_31 rfl rfl ?_
      refine tt_get (pc := 32) (ws := (vC cy md ma ++ lC cy ad sc ar tr ps pa)) (ci := 1) (v := .ref (ad 7)) C fiX1 rfl 5 vL_lobj 7 (by decide) q1_99 rfl dX2_prepare_32 ?_
      refine tt_iload_n (pc := 35) (k := 2) C dX2_prepare_35 rfl rfl ?_
      refine tt_iaload (pc := 36) (ws := (vC cy md ma ++ lC cy ad sc ar tr ps pa)) (n := 5) (f := (ar 7)) C 10 0 vL_lget7 rfl hf dX2_prepare_36 (fun hf => ?_)
      have k2 : TT p l e { frames := 5, cells := 0, slots := 0, locals := 119 } s m args below meth c 5 D A false vO wO 43 [(0, .ref (md 0)), (1, .ref (ad 0)), (2, .int v2), (3, .int (if ((ar 7) (ix v2)) ≤ ((ar 7) (ix v4)) then v3 else (v3 + 1))), (4, .int v4)] [] (vC cy md ma ++ lC cy ad sc ar tr ps pa) := by
        refine tt_iinc (pc := 43) (k := 4) (v := (v4 + 1)) (L' := [(4, .int (v4 + 1)), (0, .ref (md 0)), (1, .ref (ad 0)), (2, .int v2), (3, .int (if ((ar 7) (ix v2)) ≤ ((ar 7) (ix v4)) then v3 else (v3 + 1)))]) C dX2_prepare_43 rfl rfl (by decide) rfl ?_
        refine tt_goto (pc := 46) (tgt := 15) C dX2_prepare_46 (by decide) ?_
        exact tt_locs [1, 2, 3, 4, 0] rfl (ih hf)
      refine tr_icmp_ge (pc := 37) (tgt := 43) C dX2_prepare_37 (by decide) (fun c1 => ?_) (fun c1 => ?_)
      · try simp only [if_pos c1] at k2 ⊢
        exact tt_locs [0, 1, 2, 3, 4] rfl k2
      · refine tt_iinc (pc := 40) (k := 3) (v := (v3 + 1)) (L' := [(3, .int (v3 + 1)), (0, .ref (md 0)), (1, .ref (ad 0)), (2, .int v2), (4, .int v4)]) C dX2_prepare_40 rfl rfl (by decide) rfl ?_
        try simp only [if_neg c1] at k2 ⊢
        exact tt_locs [1, 2, 3, 0, 4] rfl k2
set_option maxHeartbeats 4000000 in
set_option maxRecDepth 100000 in
theorem l_X2_prepare_66 {p : Program} {l : Launch} {e : Env} {s : State} {m : MethodId} {args : Array Value} {below : List Frame} {meth : Method} {c : Code} {D : va_G} {cy : Nat → ClassId} {A : Nat → Prop} {Bd : Nat} {xa : Xa} {md ad : Nat → Nat} {β : Type} {vO : Option Value} {wO : va_W} {N : Nat} {sc : Nat → Int32} {ar : Nat → Nat → Int32} {tr : Nat → Nat → Int32} {ps : Nat → Int32} {pa : Nat → Nat → Int32} {v2 : Int32} {kx : (Nat → Nat → Int32) → Option (β)} {out : β} (C : CC p s m args meth c cX2_prepare RX2 5 none D cy A false Bd xa) (hk : ∀ (ma1 : Nat → Nat → Int32), kx ma1 = some out → TT p l e { frames := 5, cells := 0, slots := 0, locals := 119 } s m args below meth c 5 D A false vO wO 105 [(0, .ref (md 0)), (1, .ref (ad 0)), (2, .int v2)] [] (vC cy md ma1 ++ lC cy ad sc ar tr ps pa)) {n : Nat} {v4 : Int32} {ma : Nat → Nat → Int32} (hf : f_X2_prepare_L66 N sc ar tr v2 kx n v4 ma = some out) : TT p l e { frames := 5, cells := 0, slots := 0, locals := 119 } s m args below meth c 5 D A false vO wO 66 [(0, .ref (md 0)), (1, .ref (ad 0)), (2, .int v2), (4, .int v4)] [] (vC cy md ma ++ lC cy ad sc ar tr ps pa) := by
  induction n generalizing v4 ma with
  | zero => cases hf
  | succ n ih =>
    rw [f_X2_prepare_L66] at hf
    refine tt_iload (pc := 66) (k := 3) C dX2_prepare_66 rfl ?_
    refine tt_aload_n (pc := 68) (k := 1) C dX2_prepare_68 rfl rfl ?_
    refine tt_get (pc := 69) (ws := (vC cy md ma ++ lC cy ad sc ar tr ps pa)) (ci := 1) (v := .int (sc 0)) C fiX1 rfl 5 vL_lobj 0 (by decide) q1_83 rfl dX2_prepare_69 ?_
    refine tt_icmp_ge (pc := 72) (tgt := 105) C dX2_prepare_72 (by decide) hf (fun hf => ?_) (fun hf => ?_)
    · exact tt_locs [0, 1, 2] rfl (hk _ hf)
    · refine tt_aload_n (pc := 75) (k := 0) C dX2_prepare_75 rfl rfl ?_
      refine tt_get (pc := 76) (ws := (vC cy md ma ++ lC cy ad sc ar tr ps pa)) (ci := 2) (v := .ref (md 10)) C fiX2 rfl 0 vL_obj 0 (by decide) q1_178 rfl dX2_prepare_76 ?_
      refine tt_iload_n (pc := 79) (k := 2) C dX2_prepare_79 rfl rfl ?_
      refine tt_bipush (pc := 80) (v := (24 : Int32)) C dX2_prepare_80 (by decide) ?_
      refine tt_imul (pc := 82) C dX2_prepare_82 ?_
      refine tt_iload (pc := 83) (k := 3) C dX2_prepare_83 rfl ?_
      refine tt_iadd (pc := 85) C dX2_prepare_85 ?_
      refine tt_aload_n (pc := 86) (k := 1) C dX2_prepare_86 rfl rfl ?_
      refine tt_iload (pc := 87) (k := 3) C dX2_prepare_87 rfl ?_
      refine tt_aload_n (pc := 89) (k := 1) C dX2_prepare_89 rfl rfl ?_
      refine tt_get (pc := 90) (ws := (vC cy md ma ++ lC cy ad sc ar tr ps pa)) (ci := 1) (v := .ref (ad 8)) C fiX1 rfl 5 vL_lobj 8 (by decide) q1_102 rfl dX2_prepare_90 ?_
      refine tt_iload_n (pc := 93) (k := 2) C dX2_prepare_93 rfl rfl ?_
      refine tt_iaload (pc := 94) (ws := (vC cy md ma ++ lC cy ad sc ar tr ps pa)) (n := 5) (f := (ar 8)) C 11 0 vL_lget8 rfl hf dX2_prepare_94 (fun hf => ?_)
      obtain ⟨r3, hr3, hf⟩ := bind_some hf
      refine tt_callR (pc := 95) (ws := (vC cy md ma ++ lC cy ad sc ar tr ps pa)) (q0 := 5) (ci := 1) (rest := [.int ((v2 * (24 : Int32)) + v4), .ref (md 10)]) (st' := [.int r3, .int ((v2 * (24 : Int32)) + v4), .ref (md 10)]) C (k_X1_keepsAll hr3) okX1_keepsAll q3_150 rfl vL_lobj (fun _ h => List.mem_append_right _ h) rfl rfl rfl (Nat.le_of_ble_eq_true rfl) ⟨Nat.le_of_ble_eq_true rfl, Nat.le_of_ble_eq_true rfl⟩ dX2_prepare_95 ?_
      refine tt_zastore (pc := 98) (ws := (vC cy md ma ++ lC cy ad sc ar tr ps pa)) (n := 120) (f := (ma 0)) (ws' := (vC cy md (va_up ma 0 (upd (ma 0) (ix ((v2 * (24 : Int32)) + v4)) (vp_nar .boolean r3))) ++ lC cy ad sc ar tr ps pa)) C rfl 1 3 vL_get0 rfl hf dX2_prepare_98 vL_set0 (fun hf => ?_)
      refine tt_iinc (pc := 99) (k := 3) (v := (v4 + 1)) (L' := [(4, .int (v4 + 1)), (0, .ref (md 0)), (1, .ref (ad 0)), (2, .int v2)]) C dX2_prepare_99 rfl rfl (by decide) rfl ?_
      refine tt_goto (pc := 102) (tgt := 66) C dX2_prepare_102 (by decide) ?_
      exact tt_locs [1, 2, 3, 0] rfl (ih hf)
set_option maxHeartbeats 4000000 in
set_option maxRecDepth 100000 in
theorem l_X2_prepare_2 {p : Program} {l : Launch} {e : Env} {s : State} {m : MethodId} {args : Array Value} {below : List Frame} {meth : Method} {c : Code} {D : va_G} {cy : Nat → ClassId} {A : Nat → Prop} {Bd : Nat} {xa : Xa} {md ad : Nat → Nat} {β : Type} {vO : Option Value} {wO : va_W} {N : Nat} {sc : Nat → Int32} {ar : Nat → Nat → Int32} {tr : Nat → Nat → Int32} {ps : Nat → Int32} {pa : Nat → Nat → Int32} {kx : (Nat → Nat → Int32) → Option (β)} {out : β} (C : CC p s m args meth c cX2_prepare RX2 5 none D cy A false Bd xa) (hk : ∀ (ma1 : Nat → Nat → Int32), kx ma1 = some out → TT p l e { frames := 5, cells := 0, slots := 0, locals := 119 } s m args below meth c 5 D A false vO wO 111 [] [] (vC cy md ma1 ++ lC cy ad sc ar tr ps pa)) {n : Nat} {v2 : Int32} {ma : Nat → Nat → Int32} (hf : f_X2_prepare_L2 N sc ar tr kx n v2 ma = some out) : TT p l e { frames := 5, cells := 0, slots := 0, locals := 119 } s m args below meth c 5 D A false vO wO 2 [(0, .ref (md 0)), (1, .ref (ad 0)), (2, .int v2)] [] (vC cy md ma ++ lC cy ad sc ar tr ps pa) := by
  induction n generalizing v2 ma with
  | zero => cases hf
  | succ n ih =>
    rw [f_X2_prepare_L2] at hf
    refine tt_iload_n (pc := 2) (k := 2) C dX2_prepare_2 rfl rfl ?_
    refine tt_aload_n (pc := 3) (k := 1) C dX2_prepare_3 rfl rfl ?_
    refine tt_get (pc := 4) (ws := (vC cy md ma ++ lC cy ad sc ar tr ps pa)) (ci := 1) (v := .int (sc 6)) C fiX1 rfl 5 vL_lobj 6 (by decide) q1_96 rfl dX2_prepare_4 ?_
    refine tt_icmp_ge (pc := 7) (tgt := 111) C dX2_prepare_7 (by decide) hf (fun hf => ?_) (fun hf => ?_)
    · exact tt_locs [] rfl (hk _ hf)
    · refine tt_iconst (pc := 10) (v := (0 : Int32)) C dX2_prepare_10 (by decide) ?_
      refine tt_istore_n (pc := 11) (L' := [(3, .int (0 : Int32)), (0, .ref (md 0)), (1, .ref (ad 0)), (2, .int v2)]) C dX2_prepare_11 rfl (by decide) rfl ?_
      refine tt_iconst (pc := 12) (v := (0 : Int32)) C dX2_prepare_12 (by decide) ?_
      refine tt_istore (pc := 13) (L' := [(4, .int (0 : Int32)), (3, .int (0 : Int32)), (0, .ref (md 0)), (1, .ref (ad 0)), (2, .int v2)]) C dX2_prepare_13 (by decide) rfl ?_
      refine tt_locs (L' := [(0, .ref (md 0)), (1, .ref (ad 0)), (2, .int v2), (3, .int (0 : Int32)), (4, .int (0 : Int32))]) [2, 3, 4, 1, 0] rfl (l_X2_prepare_15 C (fun x3_3 hf => ?_) hf)
      refine tt_aload_n (pc := 49) (k := 0) C dX2_prepare_49 rfl rfl ?_
      refine tt_get (pc := 50) (ws := (vC cy md ma ++ lC cy ad sc ar tr ps pa)) (ci := 2) (v := .ref (md 11)) C fiX2 rfl 0 vL_obj 1 (by decide) q1_179 rfl dX2_prepare_50 ?_
      refine tt_iload_n (pc := 53) (k := 3) C dX2_prepare_53 rfl rfl ?_
      refine tt_iload_n (pc := 54) (k := 2) C dX2_prepare_54 rfl rfl ?_
      refine tt_iastore (pc := 55) (ws := (vC cy md ma ++ lC cy ad sc ar tr ps pa)) (n := 5) (f := (ma 1)) (ws' := (vC cy md (va_up ma 1 (upd (ma 1) (ix x3_3) v2)) ++ lC cy ad sc ar tr ps pa)) C rfl 2 0 vL_get1 rfl hf dX2_prepare_55 vL_set1 (fun hf => ?_)
      refine tt_aload_n (pc := 56) (k := 0) C dX2_prepare_56 rfl rfl ?_
      refine tt_get (pc := 57) (ws := (vC cy md (va_up ma 1 (upd (ma 1) (ix x3_3) v2)) ++ lC cy ad sc ar tr ps pa)) (ci := 2) (v := .ref (md 12)) C fiX2 rfl 0 vL_obj 2 (by decide) q1_180 rfl dX2_prepare_57 ?_
      refine tt_iload_n (pc := 60) (k := 2) C dX2_prepare_60 rfl rfl ?_
      refine tt_iconst (pc := 61) (v := (-1 : Int32)) C dX2_prepare_61 (by decide) ?_
      refine tt_iastore (pc := 62) (ws := (vC cy md (va_up ma 1 (upd (ma 1) (ix x3_3) v2)) ++ lC cy ad sc ar tr ps pa)) (n := 5) (f := (ma 2)) (ws' := (vC cy md (va_up (va_up ma 1 (upd (ma 1) (ix x3_3) v2)) 2 (upd (ma 2) (ix v2) (-1 : Int32))) ++ lC cy ad sc ar tr ps pa)) C rfl 3 0 vL_get2 rfl hf dX2_prepare_62 vL_set2 (fun hf => ?_)
      refine tt_iconst (pc := 63) (v := (0 : Int32)) C dX2_prepare_63 (by decide) ?_
      refine tt_istore (pc := 64) (L' := [(4, .int (0 : Int32)), (0, .ref (md 0)), (1, .ref (ad 0)), (2, .int v2), (3, .int x3_3)]) C dX2_prepare_64 (by decide) rfl ?_
      refine tt_locs (L' := [(0, .ref (md 0)), (1, .ref (ad 0)), (2, .int v2), (4, .int (0 : Int32))]) [1, 2, 3, 0] rfl (l_X2_prepare_66 C (fun t4 hf => ?_) hf)
      refine tt_iinc (pc := 105) (k := 2) (v := (v2 + 1)) (L' := [(2, .int (v2 + 1)), (0, .ref (md 0)), (1, .ref (ad 0))]) C dX2_prepare_105 rfl rfl (by decide) rfl ?_
      refine tt_goto (pc := 108) (tgt := 2) C dX2_prepare_108 (by decide) ?_
      exact tt_locs [1, 2, 0] rfl (ih hf)
set_option maxHeartbeats 4000000 in
set_option maxRecDepth 100000 in
theorem k_X2_prepare {l : Launch} {D : va_G} {cy : Nat → ClassId} {Bd : Nat} {xa : Xa} {md ad : Nat → Nat} {N : Nat} {ma : Nat → Nat → Int32} {sc : Nat → Int32} {ar : Nat → Nat → Int32} {tr : Nat → Nat → Int32} {ps : Nat → Int32} {pa : Nat → Nat → Int32} {out : (Nat → Nat → Int32)} (hf : f_X2_prepare N ma sc ar tr = some out) : KC l yX2_prepare cX2_prepare 5 none 5 119 false D cy Bd xa [.ref (md 0), .ref (ad 0)] (vC cy md ma ++ lC cy ad sc ar tr ps pa) none (vC cy md out ++ lC cy ad sc ar tr ps pa) := by
  refine kc_start (own := RX2) (by decide +kernel) rfl (Nat.le_of_ble_eq_true rfl) ?_
  intro p e s m args below meth c A C
  unfold f_X2_prepare at hf
  refine tt_locs (L' := [(0, .ref (md 0)), (1, .ref (ad 0))]) [0, 1] rfl ?_
  refine tt_iconst (pc := 0) (v := (0 : Int32)) C dX2_prepare_0 (by decide) ?_
  refine tt_istore_n (pc := 1) (L' := [(2, .int (0 : Int32)), (0, .ref (md 0)), (1, .ref (ad 0))]) C dX2_prepare_1 rfl (by decide) rfl ?_
  refine tt_locs (L' := [(0, .ref (md 0)), (1, .ref (ad 0)), (2, .int (0 : Int32))]) [1, 2, 0] rfl (l_X2_prepare_2 C (fun t5 hf => ?_) hf)
  obtain rfl := Option.some.inj hf
  exact tt_vreturn (pc := 111) C rfl rfl rfl dX2_prepare_111
theorem dX2_mayStand_0 : decode cX2_mayStand 0 = .ok (.aload_n 0, 1) := by decide +kernel
theorem dX2_mayStand_1 : decode cX2_mayStand 1 = .ok (.getfield 9, 3) := by decide +kernel
theorem dX2_mayStand_4 : decode cX2_mayStand 4 = .ok (.iload_n 1, 1) := by decide +kernel
theorem dX2_mayStand_5 : decode cX2_mayStand 5 = .ok (.bipush 24, 2) := by decide +kernel
theorem dX2_mayStand_7 : decode cX2_mayStand 7 = .ok (.imul, 1) := by decide +kernel
theorem dX2_mayStand_8 : decode cX2_mayStand 8 = .ok (.iload_n 2, 1) := by decide +kernel
theorem dX2_mayStand_9 : decode cX2_mayStand 9 = .ok (.iadd, 1) := by decide +kernel
theorem dX2_mayStand_10 : decode cX2_mayStand 10 = .ok (.baload, 1) := by decide +kernel
theorem dX2_mayStand_11 : decode cX2_mayStand 11 = .ok (.ifCond .eq 27, 3) := by decide +kernel
theorem dX2_mayStand_14 : decode cX2_mayStand 14 = .ok (.aload_n 0, 1) := by decide +kernel
theorem dX2_mayStand_15 : decode cX2_mayStand 15 = .ok (.getfield 19, 3) := by decide +kernel
theorem dX2_mayStand_18 : decode cX2_mayStand 18 = .ok (.iload_n 1, 1) := by decide +kernel
theorem dX2_mayStand_19 : decode cX2_mayStand 19 = .ok (.iaload, 1) := by decide +kernel
theorem dX2_mayStand_20 : decode cX2_mayStand 20 = .ok (.iconst (-1), 1) := by decide +kernel
theorem dX2_mayStand_21 : decode cX2_mayStand 21 = .ok (.if_icmp .eq 13, 3) := by decide +kernel
theorem dX2_mayStand_24 : decode cX2_mayStand 24 = .ok (.aload_n 0, 1) := by decide +kernel
theorem dX2_mayStand_25 : decode cX2_mayStand 25 = .ok (.getfield 19, 3) := by decide +kernel
theorem dX2_mayStand_28 : decode cX2_mayStand 28 = .ok (.iload_n 1, 1) := by decide +kernel
theorem dX2_mayStand_29 : decode cX2_mayStand 29 = .ok (.iaload, 1) := by decide +kernel
theorem dX2_mayStand_30 : decode cX2_mayStand 30 = .ok (.iload_n 2, 1) := by decide +kernel
theorem dX2_mayStand_31 : decode cX2_mayStand 31 = .ok (.if_icmp .ne 7, 3) := by decide +kernel
theorem dX2_mayStand_34 : decode cX2_mayStand 34 = .ok (.iconst 1, 1) := by decide +kernel
theorem dX2_mayStand_35 : decode cX2_mayStand 35 = .ok (.goto 4, 3) := by decide +kernel
theorem dX2_mayStand_38 : decode cX2_mayStand 38 = .ok (.iconst 0, 1) := by decide +kernel
theorem dX2_mayStand_39 : decode cX2_mayStand 39 = .ok (.ireturn, 1) := by decide +kernel
set_option maxHeartbeats 4000000 in
set_option maxRecDepth 100000 in
theorem k_X2_mayStand {l : Launch} {D : va_G} {cy : Nat → ClassId} {Bd : Nat} {xa : Xa} {md : Nat → Nat} {N : Nat} {ma : Nat → Nat → Int32} {a1 : Int32} {a2 : Int32} {out : Int32} (hf : f_X2_mayStand N ma a1 a2 = some out) : KC l yX2_mayStand cX2_mayStand 3 (some .boolean) 0 0 true D cy Bd xa [.ref (md 0), .int a1, .int a2] (vC cy md ma) (some (.int out)) (vC cy md ma) := by
  refine kc_start (own := RX2) (by decide +kernel) rfl (Nat.le_of_ble_eq_true rfl) ?_
  intro p e s m args below meth c A C
  unfold f_X2_mayStand at hf
  refine tt_locs (L' := [(0, .ref (md 0)), (1, .int a1), (2, .int a2)]) [0, 1, 2] rfl ?_
  refine tt_aload_n (pc := 0) (k := 0) C dX2_mayStand_0 rfl rfl ?_
  refine tt_get (pc := 1) (ws := (vC cy md ma)) (ci := 2) (v := .ref (md 10)) C fiX2 rfl 0 rfl 0 (by decide) q1_178 rfl dX2_mayStand_1 ?_
  refine tt_iload_n (pc := 4) (k := 1) C dX2_mayStand_4 rfl rfl ?_
  refine tt_bipush (pc := 5) (v := (24 : Int32)) C dX2_mayStand_5 (by decide) ?_
  refine tt_imul (pc := 7) C dX2_mayStand_7 ?_
  refine tt_iload_n (pc := 8) (k := 2) C dX2_mayStand_8 rfl rfl ?_
  refine tt_iadd (pc := 9) C dX2_mayStand_9 ?_
  refine tt_zaload (pc := 10) (ws := (vC cy md ma)) (n := 120) (f := (ma 0)) C 1 3 rfl rfl hf dX2_mayStand_10 (fun hf => ?_)
  obtain ⟨j1, hj1, hf⟩ := bind_some hf
  have k2 : TT p l e { frames := 0, cells := 0, slots := 0, locals := 0 } s m args below meth c 3 D A true (some (.int out)) (vC cy md ma) 39 [] [.int j1] (vC cy md ma) := by
    obtain ⟨hz, hf⟩ := zchk hf
    obtain rfl := Option.some.inj hf
    exact tt_zreturn (pc := 39) C rfl hz rfl rfl dX2_mayStand_39
  refine tt_if_eq (pc := 11) (tgt := 38) C dX2_mayStand_11 (by decide) hj1 (fun hj1 => ?_) (fun hj1 => ?_)
  · refine tt_iconst (pc := 38) (v := (0 : Int32)) C dX2_mayStand_38 (by decide) ?_
    obtain rfl := Option.some.inj hj1
    exact tt_locs [] rfl k2
  · refine tt_aload_n (pc := 14) (k := 0) C dX2_mayStand_14 rfl rfl ?_
    refine tt_get (pc := 15) (ws := (vC cy md ma)) (ci := 2) (v := .ref (md 12)) C fiX2 rfl 0 rfl 2 (by decide) q1_180 rfl dX2_mayStand_15 ?_
    refine tt_iload_n (pc := 18) (k := 1) C dX2_mayStand_18 rfl rfl ?_
    refine tt_iaload (pc := 19) (ws := (vC cy md ma)) (n := 5) (f := (ma 2)) C 3 0 rfl rfl hj1 dX2_mayStand_19 (fun hj1 => ?_)
    refine tt_iconst (pc := 20) (v := (-1 : Int32)) C dX2_mayStand_20 (by decide) ?_
    obtain ⟨j3, hj3, hj1⟩ := bind_some hj1
    have k4 : TT p l e { frames := 0, cells := 0, slots := 0, locals := 0 } s m args below meth c 3 D A true (some (.int out)) (vC cy md ma) 39 [] [.int j3] (vC cy md ma) := by
      obtain rfl := Option.some.inj hj1
      exact tt_locs [] rfl k2
    refine tt_icmp_eq (pc := 21) (tgt := 34) C dX2_mayStand_21 (by decide) hj3 (fun hj3 => ?_) (fun hj3 => ?_)
    · refine tt_iconst (pc := 34) (v := (1 : Int32)) C dX2_mayStand_34 (by decide) ?_
      refine tt_goto (pc := 35) (tgt := 39) C dX2_mayStand_35 (by decide) ?_
      obtain rfl := Option.some.inj hj3
      exact tt_locs [] rfl k4
    · refine tt_aload_n (pc := 24) (k := 0) C dX2_mayStand_24 rfl rfl ?_
      refine tt_get (pc := 25) (ws := (vC cy md ma)) (ci := 2) (v := .ref (md 12)) C fiX2 rfl 0 rfl 2 (by decide) q1_180 rfl dX2_mayStand_25 ?_
      refine tt_iload_n (pc := 28) (k := 1) C dX2_mayStand_28 rfl rfl ?_
      refine tt_iaload (pc := 29) (ws := (vC cy md ma)) (n := 5) (f := (ma 2)) C 3 0 rfl rfl hj3 dX2_mayStand_29 (fun hj3 => ?_)
      refine tt_iload_n (pc := 30) (k := 2) C dX2_mayStand_30 rfl rfl ?_
      have k6 : TT p l e { frames := 0, cells := 0, slots := 0, locals := 0 } s m args below meth c 3 D A true (some (.int out)) (vC cy md ma) 39 [] [.int (if ((ma 2) (ix a1)) = a2 then (1 : Int32) else (0 : Int32))] (vC cy md ma) := by
        obtain rfl := Option.some.inj hj3
        exact tt_locs [] rfl k4
      refine tr_icmp_ne (pc := 31) (tgt := 38) C dX2_mayStand_31 (by decide) (fun c5 => ?_) (fun c5 => ?_)
      · refine tt_iconst (pc := 38) (v := (0 : Int32)) C dX2_mayStand_38 (by decide) ?_
        try simp only [if_neg c5] at k6 ⊢
        exact tt_locs [] rfl k6
      · refine tt_iconst (pc := 34) (v := (1 : Int32)) C dX2_mayStand_34 (by decide) ?_
        refine tt_goto (pc := 35) (tgt := 39) C dX2_mayStand_35 (by decide) ?_
        try simp only [if_pos c5] at k6 ⊢
        exact tt_locs [] rfl k6
theorem dX2_leastSum_0 : decode cX2_leastSum 0 = .ok (.iconst 0, 1) := by decide +kernel
theorem dX2_leastSum_1 : decode cX2_leastSum 1 = .ok (.istore_n 2, 1) := by decide +kernel
theorem dX2_leastSum_2 : decode cX2_leastSum 2 = .ok (.iload_n 2, 1) := by decide +kernel
theorem dX2_leastSum_3 : decode cX2_leastSum 3 = .ok (.aload_n 1, 1) := by decide +kernel
theorem dX2_leastSum_4 : decode cX2_leastSum 4 = .ok (.getfield 47, 3) := by decide +kernel
theorem dX2_leastSum_7 : decode cX2_leastSum 7 = .ok (.if_icmp .ge 16, 3) := by decide +kernel
theorem dX2_leastSum_10 : decode cX2_leastSum 10 = .ok (.aload_n 0, 1) := by decide +kernel
theorem dX2_leastSum_11 : decode cX2_leastSum 11 = .ok (.getfield 22, 3) := by decide +kernel
theorem dX2_leastSum_14 : decode cX2_leastSum 14 = .ok (.iload_n 2, 1) := by decide +kernel
theorem dX2_leastSum_15 : decode cX2_leastSum 15 = .ok (.iconst 0, 1) := by decide +kernel
theorem dX2_leastSum_16 : decode cX2_leastSum 16 = .ok (.iastore, 1) := by decide +kernel
theorem dX2_leastSum_17 : decode cX2_leastSum 17 = .ok (.iinc 2 1, 3) := by decide +kernel
theorem dX2_leastSum_20 : decode cX2_leastSum 20 = .ok (.goto (-18), 3) := by decide +kernel
theorem dX2_leastSum_23 : decode cX2_leastSum 23 = .ok (.iconst 0, 1) := by decide +kernel
theorem dX2_leastSum_24 : decode cX2_leastSum 24 = .ok (.istore_n 2, 1) := by decide +kernel
theorem dX2_leastSum_25 : decode cX2_leastSum 25 = .ok (.iload_n 2, 1) := by decide +kernel
theorem dX2_leastSum_26 : decode cX2_leastSum 26 = .ok (.aload_n 1, 1) := by decide +kernel
theorem dX2_leastSum_27 : decode cX2_leastSum 27 = .ok (.getfield 38, 3) := by decide +kernel
theorem dX2_leastSum_30 : decode cX2_leastSum 30 = .ok (.if_icmp .ge 100, 3) := by decide +kernel
theorem dX2_leastSum_33 : decode cX2_leastSum 33 = .ok (.aload_n 0, 1) := by decide +kernel
theorem dX2_leastSum_34 : decode cX2_leastSum 34 = .ok (.getfield 15, 3) := by decide +kernel
theorem dX2_leastSum_37 : decode cX2_leastSum 37 = .ok (.iload_n 2, 1) := by decide +kernel
theorem dX2_leastSum_38 : decode cX2_leastSum 38 = .ok (.iaload, 1) := by decide +kernel
theorem dX2_leastSum_39 : decode cX2_leastSum 39 = .ok (.istore_n 3, 1) := by decide +kernel
theorem dX2_leastSum_40 : decode cX2_leastSum 40 = .ok (.iload_n 2, 1) := by decide +kernel
theorem dX2_leastSum_41 : decode cX2_leastSum 41 = .ok (.ifCond .ne 7, 3) := by decide +kernel
theorem dX2_leastSum_44 : decode cX2_leastSum 44 = .ok (.iconst 0, 1) := by decide +kernel
theorem dX2_leastSum_45 : decode cX2_leastSum 45 = .ok (.goto 5, 3) := by decide +kernel
theorem dX2_leastSum_48 : decode cX2_leastSum 48 = .ok (.ldc 33, 2) := by decide +kernel
theorem dX2_leastSum_50 : decode cX2_leastSum 50 = .ok (.istore 4, 2) := by decide +kernel
theorem dX2_leastSum_52 : decode cX2_leastSum 52 = .ok (.ldc 33, 2) := by decide +kernel
theorem dX2_leastSum_54 : decode cX2_leastSum 54 = .ok (.istore 5, 2) := by decide +kernel
theorem dX2_leastSum_56 : decode cX2_leastSum 56 = .ok (.iconst 0, 1) := by decide +kernel
theorem dX2_leastSum_57 : decode cX2_leastSum 57 = .ok (.istore 6, 2) := by decide +kernel
theorem dX2_leastSum_59 : decode cX2_leastSum 59 = .ok (.iload 6, 2) := by decide +kernel
theorem dX2_leastSum_61 : decode cX2_leastSum 61 = .ok (.aload_n 1, 1) := by decide +kernel
theorem dX2_leastSum_62 : decode cX2_leastSum 62 = .ok (.getfield 47, 3) := by decide +kernel
theorem dX2_leastSum_65 : decode cX2_leastSum 65 = .ok (.if_icmp .ge 59, 3) := by decide +kernel
theorem dX2_leastSum_68 : decode cX2_leastSum 68 = .ok (.aload_n 0, 1) := by decide +kernel
theorem dX2_leastSum_69 : decode cX2_leastSum 69 = .ok (.iload_n 3, 1) := by decide +kernel
theorem dX2_leastSum_70 : decode cX2_leastSum 70 = .ok (.iload 6, 2) := by decide +kernel
theorem dX2_leastSum_72 : decode cX2_leastSum 72 = .ok (.invokevirtual 57, 3) := by decide +kernel
theorem dX2_leastSum_75 : decode cX2_leastSum 75 = .ok (.ifCond .eq 25, 3) := by decide +kernel
theorem dX2_leastSum_78 : decode cX2_leastSum 78 = .ok (.iload 5, 2) := by decide +kernel
theorem dX2_leastSum_80 : decode cX2_leastSum 80 = .ok (.iload 4, 2) := by decide +kernel
theorem dX2_leastSum_82 : decode cX2_leastSum 82 = .ok (.iload 6, 2) := by decide +kernel
theorem dX2_leastSum_84 : decode cX2_leastSum 84 = .ok (.aload_n 1, 1) := by decide +kernel
theorem dX2_leastSum_85 : decode cX2_leastSum 85 = .ok (.getfield 44, 3) := by decide +kernel
theorem dX2_leastSum_88 : decode cX2_leastSum 88 = .ok (.iload_n 3, 1) := by decide +kernel
theorem dX2_leastSum_89 : decode cX2_leastSum 89 = .ok (.iaload, 1) := by decide +kernel
theorem dX2_leastSum_90 : decode cX2_leastSum 90 = .ok (.isub, 1) := by decide +kernel
theorem dX2_leastSum_91 : decode cX2_leastSum 91 = .ok (.invokestatic 60, 3) := by decide +kernel
theorem dX2_leastSum_94 : decode cX2_leastSum 94 = .ok (.iadd, 1) := by decide +kernel
theorem dX2_leastSum_95 : decode cX2_leastSum 95 = .ok (.invokestatic 66, 3) := by decide +kernel
theorem dX2_leastSum_98 : decode cX2_leastSum 98 = .ok (.istore 5, 2) := by decide +kernel
theorem dX2_leastSum_100 : decode cX2_leastSum 100 = .ok (.aload_n 0, 1) := by decide +kernel
theorem dX2_leastSum_101 : decode cX2_leastSum 101 = .ok (.getfield 22, 3) := by decide +kernel
theorem dX2_leastSum_104 : decode cX2_leastSum 104 = .ok (.iload 6, 2) := by decide +kernel
theorem dX2_leastSum_106 : decode cX2_leastSum 106 = .ok (.iaload, 1) := by decide +kernel
theorem dX2_leastSum_107 : decode cX2_leastSum 107 = .ok (.istore 4, 2) := by decide +kernel
theorem dX2_leastSum_109 : decode cX2_leastSum 109 = .ok (.aload_n 0, 1) := by decide +kernel
theorem dX2_leastSum_110 : decode cX2_leastSum 110 = .ok (.getfield 22, 3) := by decide +kernel
theorem dX2_leastSum_113 : decode cX2_leastSum 113 = .ok (.iload 6, 2) := by decide +kernel
theorem dX2_leastSum_115 : decode cX2_leastSum 115 = .ok (.iload 5, 2) := by decide +kernel
theorem dX2_leastSum_117 : decode cX2_leastSum 117 = .ok (.iastore, 1) := by decide +kernel
theorem dX2_leastSum_118 : decode cX2_leastSum 118 = .ok (.iinc 6 1, 3) := by decide +kernel
theorem dX2_leastSum_121 : decode cX2_leastSum 121 = .ok (.goto (-62), 3) := by decide +kernel
theorem dX2_leastSum_124 : decode cX2_leastSum 124 = .ok (.iinc 2 1, 3) := by decide +kernel
theorem dX2_leastSum_127 : decode cX2_leastSum 127 = .ok (.goto (-102), 3) := by decide +kernel
theorem dX2_leastSum_130 : decode cX2_leastSum 130 = .ok (.aload_n 0, 1) := by decide +kernel
theorem dX2_leastSum_131 : decode cX2_leastSum 131 = .ok (.getfield 22, 3) := by decide +kernel
theorem dX2_leastSum_134 : decode cX2_leastSum 134 = .ok (.aload_n 1, 1) := by decide +kernel
theorem dX2_leastSum_135 : decode cX2_leastSum 135 = .ok (.getfield 47, 3) := by decide +kernel
theorem dX2_leastSum_138 : decode cX2_leastSum 138 = .ok (.iconst 1, 1) := by decide +kernel
theorem dX2_leastSum_139 : decode cX2_leastSum 139 = .ok (.isub, 1) := by decide +kernel
theorem dX2_leastSum_140 : decode cX2_leastSum 140 = .ok (.iaload, 1) := by decide +kernel
theorem dX2_leastSum_141 : decode cX2_leastSum 141 = .ok (.ireturn, 1) := by decide +kernel
set_option maxHeartbeats 4000000 in
set_option maxRecDepth 100000 in
theorem l_X2_leastSum_2 {p : Program} {l : Launch} {e : Env} {s : State} {m : MethodId} {args : Array Value} {below : List Frame} {meth : Method} {c : Code} {D : va_G} {cy : Nat → ClassId} {A : Nat → Prop} {Bd : Nat} {xa : Xa} {md ad : Nat → Nat} {β : Type} {vO : Option Value} {wO : va_W} {N : Nat} {sc : Nat → Int32} {ar : Nat → Nat → Int32} {tr : Nat → Nat → Int32} {ps : Nat → Int32} {pa : Nat → Nat → Int32} {kx : (Nat → Nat → Int32) → Option (β)} {out : β} (C : CC p s m args meth c cX2_leastSum RX2 7 (some .int) D cy A false Bd xa) (hk : ∀ (ma1 : Nat → Nat → Int32), kx ma1 = some out → TT p l e { frames := 1, cells := 0, slots := 0, locals := 22 } s m args below meth c 7 D A false vO wO 23 [(0, .ref (md 0)), (1, .ref (ad 0))] [] (vC cy md ma1 ++ lC cy ad sc ar tr ps pa)) {n : Nat} {v2 : Int32} {ma : Nat → Nat → Int32} (hf : f_X2_leastSum_L2 N sc ar kx n v2 ma = some out) : TT p l e { frames := 1, cells := 0, slots := 0, locals := 22 } s m args below meth c 7 D A false vO wO 2 [(0, .ref (md 0)), (1, .ref (ad 0)), (2, .int v2)] [] (vC cy md ma ++ lC cy ad sc ar tr ps pa) := by
  induction n generalizing v2 ma with
  | zero => cases hf
  | succ n ih =>
    rw [f_X2_leastSum_L2] at hf
    refine tt_iload_n (pc := 2) (k := 2) C dX2_leastSum_2 rfl rfl ?_
    refine tt_aload_n (pc := 3) (k := 1) C dX2_leastSum_3 rfl rfl ?_
    refine tt_get (pc := 4) (ws := (vC cy md ma ++ lC cy ad sc ar tr ps pa)) (ci := 1) (v := .int (sc 0)) C fiX1 rfl 5 vL_lobj 0 (by decide) q1_83 rfl dX2_leastSum_4 ?_
    refine tt_icmp_ge (pc := 7) (tgt := 23) C dX2_leastSum_7 (by decide) hf (fun hf => ?_) (fun hf => ?_)
    · exact tt_locs [0, 1] rfl (hk _ hf)
    · refine tt_aload_n (pc := 10) (k := 0) C dX2_leastSum_10 rfl rfl ?_
      refine tt_get (pc := 11) (ws := (vC cy md ma ++ lC cy ad sc ar tr ps pa)) (ci := 2) (v := .ref (md 13)) C fiX2 rfl 0 vL_obj 3 (by decide) q1_181 rfl dX2_leastSum_11 ?_
      refine tt_iload_n (pc := 14) (k := 2) C dX2_leastSum_14 rfl rfl ?_
      refine tt_iconst (pc := 15) (v := (0 : Int32)) C dX2_leastSum_15 (by decide) ?_
      refine tt_iastore (pc := 16) (ws := (vC cy md ma ++ lC cy ad sc ar tr ps pa)) (n := 24) (f := (ma 3)) (ws' := (vC cy md (va_up ma 3 (upd (ma 3) (ix v2) (0 : Int32))) ++ lC cy ad sc ar tr ps pa)) C rfl 4 0 vL_get3 rfl hf dX2_leastSum_16 vL_set3 (fun hf => ?_)
      refine tt_iinc (pc := 17) (k := 2) (v := (v2 + 1)) (L' := [(2, .int (v2 + 1)), (0, .ref (md 0)), (1, .ref (ad 0))]) C dX2_leastSum_17 rfl rfl (by decide) rfl ?_
      refine tt_goto (pc := 20) (tgt := 2) C dX2_leastSum_20 (by decide) ?_
      exact tt_locs [1, 2, 0] rfl (ih hf)
set_option maxHeartbeats 4000000 in
set_option maxRecDepth 100000 in
theorem l_X2_leastSum_59 {p : Program} {l : Launch} {e : Env} {s : State} {m : MethodId} {args : Array Value} {below : List Frame} {meth : Method} {c : Code} {D : va_G} {cy : Nat → ClassId} {A : Nat → Prop} {Bd : Nat} {xa : Xa} {md ad : Nat → Nat} {β : Type} {vO : Option Value} {wO : va_W} {N : Nat} {sc : Nat → Int32} {ar : Nat → Nat → Int32} {tr : Nat → Nat → Int32} {ps : Nat → Int32} {pa : Nat → Nat → Int32} {v2 : Int32} {v3 : Int32} {kx : (Nat → Nat → Int32) → Option (β)} {out : β} (C : CC p s m args meth c cX2_leastSum RX2 7 (some .int) D cy A false Bd xa) (hk : ∀ (ma1 : Nat → Nat → Int32), kx ma1 = some out → TT p l e { frames := 1, cells := 0, slots := 0, locals := 22 } s m args below meth c 7 D A false vO wO 124 [(0, .ref (md 0)), (1, .ref (ad 0)), (2, .int v2)] [] (vC cy md ma1 ++ lC cy ad sc ar tr ps pa)) {n : Nat} {v4 : Int32} {v5 : Int32} {v6 : Int32} {ma : Nat → Nat → Int32} (hf : f_X2_leastSum_L59 N sc ar v2 v3 kx n v4 v5 v6 ma = some out) : TT p l e { frames := 1, cells := 0, slots := 0, locals := 22 } s m args below meth c 7 D A false vO wO 59 [(0, .ref (md 0)), (1, .ref (ad 0)), (2, .int v2), (3, .int v3), (4, .int v4), (5, .int v5), (6, .int v6)] [] (vC cy md ma ++ lC cy ad sc ar tr ps pa) := by
  induction n generalizing v4 v5 v6 ma with
  | zero => cases hf
  | succ n ih =>
    rw [f_X2_leastSum_L59] at hf
    refine tt_iload (pc := 59) (k := 6) C dX2_leastSum_59 rfl ?_
    refine tt_aload_n (pc := 61) (k := 1) C dX2_leastSum_61 rfl rfl ?_
    refine tt_get (pc := 62) (ws := (vC cy md ma ++ lC cy ad sc ar tr ps pa)) (ci := 1) (v := .int (sc 0)) C fiX1 rfl 5 vL_lobj 0 (by decide) q1_83 rfl dX2_leastSum_62 ?_
    refine tt_icmp_ge (pc := 65) (tgt := 124) C dX2_leastSum_65 (by decide) hf (fun hf => ?_) (fun hf => ?_)
    · exact tt_locs [0, 1, 2] rfl (hk _ hf)
    · refine tt_aload_n (pc := 68) (k := 0) C dX2_leastSum_68 rfl rfl ?_
      refine tt_iload_n (pc := 69) (k := 3) C dX2_leastSum_69 rfl rfl ?_
      refine tt_iload (pc := 70) (k := 6) C dX2_leastSum_70 rfl ?_
      obtain ⟨r4, hr4, hf⟩ := bind_some hf
      refine tt_callR (pc := 72) (ws := (vC cy md ma ++ lC cy ad sc ar tr ps pa)) (q0 := 0) (ci := 2) (rest := []) (st' := [.int r4]) C (k_X2_mayStand hr4) okX2_mayStand q3_160 rfl vL_obj (fun _ h => List.mem_append_left _ h) rfl rfl rfl (Nat.le_of_ble_eq_true rfl) ⟨Nat.le_of_ble_eq_true rfl, Nat.le_of_ble_eq_true rfl⟩ dX2_leastSum_72 ?_
      obtain ⟨j5, hj5, hf⟩ := bind_some hf
      have k6 : TT p l e { frames := 1, cells := 0, slots := 0, locals := 22 } s m args below meth c 7 D A false vO wO 100 [(0, .ref (md 0)), (1, .ref (ad 0)), (2, .int v2), (3, .int v3), (5, .int j5), (6, .int v6)] [] (vC cy md ma ++ lC cy ad sc ar tr ps pa) := by
        refine tt_aload_n (pc := 100) (k := 0) C dX2_leastSum_100 rfl rfl ?_
        refine tt_get (pc := 101) (ws := (vC cy md ma ++ lC cy ad sc ar tr ps pa)) (ci := 2) (v := .ref (md 13)) C fiX2 rfl 0 vL_obj 3 (by decide) q1_181 rfl dX2_leastSum_101 ?_
        refine tt_iload (pc := 104) (k := 5) C dX2_leastSum_104 rfl ?_
        refine tt_iaload (pc := 106) (ws := (vC cy md ma ++ lC cy ad sc ar tr ps pa)) (n := 24) (f := (ma 3)) C 4 0 vL_get3 rfl hf dX2_leastSum_106 (fun hf => ?_)
        refine tt_istore (pc := 107) (L' := [(4, .int ((ma 3) (ix v6))), (0, .ref (md 0)), (1, .ref (ad 0)), (2, .int v2), (3, .int v3), (5, .int j5), (6, .int v6)]) C dX2_leastSum_107 (by decide) rfl ?_
        refine tt_aload_n (pc := 109) (k := 1) C dX2_leastSum_109 rfl rfl ?_
        refine tt_get (pc := 110) (ws := (vC cy md ma ++ lC cy ad sc ar tr ps pa)) (ci := 2) (v := .ref (md 13)) C fiX2 rfl 0 vL_obj 3 (by decide) q1_181 rfl dX2_leastSum_110 ?_
        refine tt_iload (pc := 113) (k := 6) C dX2_leastSum_113 rfl ?_
        refine tt_iload (pc := 115) (k := 5) C dX2_leastSum_115 rfl ?_
        refine tt_iastore (pc := 117) (ws := (vC cy md ma ++ lC cy ad sc ar tr ps pa)) (n := 24) (f := (ma 3)) (ws' := (vC cy md (va_up ma 3 (upd (ma 3) (ix v6) j5)) ++ lC cy ad sc ar tr ps pa)) C rfl 4 0 vL_get3 rfl hf dX2_leastSum_117 vL_set3 (fun hf => ?_)
        refine tt_iinc (pc := 118) (k := 6) (v := (v6 + 1)) (L' := [(6, .int (v6 + 1)), (4, .int ((ma 3) (ix v6))), (0, .ref (md 0)), (1, .ref (ad 0)), (2, .int v2), (3, .int v3), (5, .int j5)]) C dX2_leastSum_118 rfl rfl (by decide) rfl ?_
        refine tt_goto (pc := 121) (tgt := 59) C dX2_leastSum_121 (by decide) ?_
        exact tt_locs [2, 3, 4, 5, 1, 6, 0] rfl (ih hf)
      refine tt_if_eq (pc := 75) (tgt := 100) C dX2_leastSum_75 (by decide) hj5 (fun hj5 => ?_) (fun hj5 => ?_)
      · obtain rfl := Option.some.inj hj5
        exact tt_locs [0, 1, 2, 3, 5, 6] rfl k6
      · refine tt_iload (pc := 78) (k := 5) C dX2_leastSum_78 rfl ?_
        refine tt_iload (pc := 80) (k := 4) C dX2_leastSum_80 rfl ?_
        refine tt_iload (pc := 82) (k := 6) C dX2_leastSum_82 rfl ?_
        refine tt_aload_n (pc := 84) (k := 1) C dX2_leastSum_84 rfl rfl ?_
        refine tt_get (pc := 85) (ws := (vC cy md ma ++ lC cy ad sc ar tr ps pa)) (ci := 1) (v := .ref (ad 7)) C fiX1 rfl 5 vL_lobj 7 (by decide) q1_99 rfl dX2_leastSum_85 ?_
        refine tt_iload_n (pc := 88) (k := 3) C dX2_leastSum_88 rfl rfl ?_
        refine tt_iaload (pc := 89) (ws := (vC cy md ma ++ lC cy ad sc ar tr ps pa)) (n := 5) (f := (ar 7)) C 10 0 vL_lget7 rfl hj5 dX2_leastSum_89 (fun hj5 => ?_)
        refine tt_isub (pc := 90) C dX2_leastSum_90 ?_
        refine tt_abs (pc := 91) C q3_164 q3_165 q1_14 q3_166 (Nat.le_of_ble_eq_true rfl) (Nat.le_of_ble_eq_true rfl) dX2_leastSum_91 ?_
        refine tt_iadd (pc := 94) C dX2_leastSum_94 ?_
        refine tt_min (pc := 95) C q3_167 q3_93 q1_14 q3_94 (Nat.le_of_ble_eq_true rfl) (Nat.le_of_ble_eq_true rfl) dX2_leastSum_95 ?_
        refine tt_istore (pc := 98) (L' := [(5, .int (if (v4 + (if 0 ≤ (v6 - ((ar 7) (ix v3))) then (v6 - ((ar 7) (ix v3))) else 0 - (v6 - ((ar 7) (ix v3))))) < v5 then (v4 + (if 0 ≤ (v6 - ((ar 7) (ix v3))) then (v6 - ((ar 7) (ix v3))) else 0 - (v6 - ((ar 7) (ix v3))))) else v5)), (0, .ref (md 0)), (1, .ref (ad 0)), (2, .int v2), (3, .int v3), (4, .int v4), (6, .int v6)]) C dX2_leastSum_98 (by decide) rfl ?_
        obtain rfl := Option.some.inj hj5
        exact tt_locs [1, 2, 3, 4, 0, 6] rfl k6
set_option maxHeartbeats 4000000 in
set_option maxRecDepth 100000 in
theorem l_X2_leastSum_25 {p : Program} {l : Launch} {e : Env} {s : State} {m : MethodId} {args : Array Value} {below : List Frame} {meth : Method} {c : Code} {D : va_G} {cy : Nat → ClassId} {A : Nat → Prop} {Bd : Nat} {xa : Xa} {md ad : Nat → Nat} {β : Type} {vO : Option Value} {wO : va_W} {N : Nat} {sc : Nat → Int32} {ar : Nat → Nat → Int32} {tr : Nat → Nat → Int32} {ps : Nat → Int32} {pa : Nat → Nat → Int32} {kx : (Nat → Nat → Int32) → Option (β)} {out : β} (C : CC p s m args meth c cX2_leastSum RX2 7 (some .int) D cy A false Bd xa) (hk : ∀ (ma1 : Nat → Nat → Int32), kx ma1 = some out → TT p l e { frames := 1, cells := 0, slots := 0, locals := 22 } s m args below meth c 7 D A false vO wO 130 [(0, .ref (md 0)), (1, .ref (ad 0))] [] (vC cy md ma1 ++ lC cy ad sc ar tr ps pa)) {n : Nat} {v2 : Int32} {ma : Nat → Nat → Int32} (hf : f_X2_leastSum_L25 N sc ar kx n v2 ma = some out) : TT p l e { frames := 1, cells := 0, slots := 0, locals := 22 } s m args below meth c 7 D A false vO wO 25 [(0, .ref (md 0)), (1, .ref (ad 0)), (2, .int v2)] [] (vC cy md ma ++ lC cy ad sc ar tr ps pa) := by
  induction n generalizing v2 ma with
  | zero => cases hf
  | succ n ih =>
    rw [f_X2_leastSum_L25] at hf
    refine tt_iload_n (pc := 25) (k := 2) C dX2_leastSum_25 rfl rfl ?_
    refine tt_aload_n (pc := 26) (k := 1) C dX2_leastSum_26 rfl rfl ?_
    refine tt_get (pc := 27) (ws := (vC cy md ma ++ lC cy ad sc ar tr ps pa)) (ci := 1) (v := .int (sc 6)) C fiX1 rfl 5 vL_lobj 6 (by decide) q1_96 rfl dX2_leastSum_27 ?_
    refine tt_icmp_ge (pc := 30) (tgt := 130) C dX2_leastSum_30 (by decide) hf (fun hf => ?_) (fun hf => ?_)
    · exact tt_locs [0, 1] rfl (hk _ hf)
    · refine tt_aload_n (pc := 33) (k := 0) C dX2_leastSum_33 rfl rfl ?_
      refine tt_get (pc := 34) (ws := (vC cy md ma ++ lC cy ad sc ar tr ps pa)) (ci := 2) (v := .ref (md 11)) C fiX2 rfl 0 vL_obj 1 (by decide) q1_179 rfl dX2_leastSum_34 ?_
      refine tt_iload_n (pc := 37) (k := 2) C dX2_leastSum_37 rfl rfl ?_
      refine tt_iaload (pc := 38) (ws := (vC cy md ma ++ lC cy ad sc ar tr ps pa)) (n := 5) (f := (ma 1)) C 2 0 vL_get1 rfl hf dX2_leastSum_38 (fun hf => ?_)
      refine tt_istore_n (pc := 39) (L' := [(3, .int ((ma 1) (ix v2))), (0, .ref (md 0)), (1, .ref (ad 0)), (2, .int v2)]) C dX2_leastSum_39 rfl (by decide) rfl ?_
      refine tt_iload_n (pc := 40) (k := 3) C dX2_leastSum_40 rfl rfl ?_
      have k3 : TT p l e { frames := 1, cells := 0, slots := 0, locals := 22 } s m args below meth c 7 D A false vO wO 50 [(0, .ref (md 0)), (1, .ref (ad 0)), (2, .int v2), (3, .int ((ma 1) (ix v2)))] [.int (if v2 = 0 then (0 : Int32) else (1000000 : Int32))] (vC cy md ma ++ lC cy ad sc ar tr ps pa) := by
        refine tt_istore (pc := 50) (L' := [(4, .int (if v2 = 0 then (0 : Int32) else (1000000 : Int32))), (0, .ref (md 0)), (1, .ref (ad 0)), (2, .int v2), (3, .int ((ma 1) (ix v2)))]) C dX2_leastSum_50 (by decide) rfl ?_
        refine tt_ldc (pc := 52) (v := (1000000 : Int32)) C dX2_leastSum_52 q3_159 ?_
        refine tt_istore (pc := 54) (L' := [(5, .int (1000000 : Int32)), (4, .int (if v2 = 0 then (0 : Int32) else (1000000 : Int32))), (0, .ref (md 0)), (1, .ref (ad 0)), (2, .int v2), (3, .int ((ma 1) (ix v2)))]) C dX2_leastSum_54 (by decide) rfl ?_
        refine tt_iconst (pc := 56) (v := (0 : Int32)) C dX2_leastSum_56 (by decide) ?_
        refine tt_istore (pc := 57) (L' := [(6, .int (0 : Int32)), (5, .int (1000000 : Int32)), (4, .int (if v2 = 0 then (0 : Int32) else (1000000 : Int32))), (0, .ref (md 0)), (1, .ref (ad 0)), (2, .int v2), (3, .int ((ma 1) (ix v2)))]) C dX2_leastSum_57 (by decide) rfl ?_
        refine tt_locs (L' := [(0, .ref (md 0)), (1, .ref (ad 0)), (2, .int v2), (3, .int ((ma 1) (ix v2))), (4, .int (if v2 = 0 then (0 : Int32) else (1000000 : Int32))), (5, .int (1000000 : Int32)), (6, .int (0 : Int32))]) [3, 4, 5, 6, 2, 1, 0] rfl (l_X2_leastSum_59 C (fun t7 hf => ?_) hf)
        refine tt_iinc (pc := 124) (k := 2) (v := (v2 + 1)) (L' := [(2, .int (v2 + 1)), (0, .ref (md 0)), (1, .ref (ad 0))]) C dX2_leastSum_124 rfl rfl (by decide) rfl ?_
        refine tt_goto (pc := 127) (tgt := 25) C dX2_leastSum_127 (by decide) ?_
        exact tt_locs [1, 2, 0] rfl (ih hf)
      refine tr_if_ne (pc := 41) (tgt := 48) C dX2_leastSum_41 (by decide) (fun c2 => ?_) (fun c2 => ?_)
      · refine tt_ldc (pc := 48) (v := (1000000 : Int32)) C dX2_leastSum_48 q3_159 ?_
        try simp only [if_neg c2] at k3 ⊢
        exact tt_locs [1, 2, 3, 0] rfl k3
      · refine tt_iconst (pc := 44) (v := (0 : Int32)) C dX2_leastSum_44 (by decide) ?_
        refine tt_goto (pc := 45) (tgt := 50) C dX2_leastSum_45 (by decide) ?_
        try simp only [if_pos c2] at k3 ⊢
        exact tt_locs [1, 2, 3, 0] rfl k3
set_option maxHeartbeats 4000000 in
set_option maxRecDepth 100000 in
theorem k_X2_leastSum {l : Launch} {D : va_G} {cy : Nat → ClassId} {Bd : Nat} {xa : Xa} {md ad : Nat → Nat} {N : Nat} {ma : Nat → Nat → Int32} {sc : Nat → Int32} {ar : Nat → Nat → Int32} {tr : Nat → Nat → Int32} {ps : Nat → Int32} {pa : Nat → Nat → Int32} {out : Int32 × (Nat → Nat → Int32)} (hf : f_X2_leastSum N ma sc ar = some out) : KC l yX2_leastSum cX2_leastSum 7 (some .int) 1 22 false D cy Bd xa [.ref (md 0), .ref (ad 0)] (vC cy md ma ++ lC cy ad sc ar tr ps pa) (some (.int out.1)) (vC cy md out.2 ++ lC cy ad sc ar tr ps pa) := by
  refine kc_start (own := RX2) (by decide +kernel) rfl (Nat.le_of_ble_eq_true rfl) ?_
  intro p e s m args below meth c A C
  unfold f_X2_leastSum at hf
  refine tt_locs (L' := [(0, .ref (md 0)), (1, .ref (ad 0))]) [0, 1] rfl ?_
  refine tt_iconst (pc := 0) (v := (0 : Int32)) C dX2_leastSum_0 (by decide) ?_
  refine tt_istore_n (pc := 1) (L' := [(2, .int (0 : Int32)), (0, .ref (md 0)), (1, .ref (ad 0))]) C dX2_leastSum_1 rfl (by decide) rfl ?_
  refine tt_locs (L' := [(0, .ref (md 0)), (1, .ref (ad 0)), (2, .int (0 : Int32))]) [1, 2, 0] rfl (l_X2_leastSum_2 C (fun t1 hf => ?_) hf)
  refine tt_iconst (pc := 23) (v := (0 : Int32)) C dX2_leastSum_23 (by decide) ?_
  refine tt_istore_n (pc := 24) (L' := [(2, .int (0 : Int32)), (0, .ref (md 0)), (1, .ref (ad 0))]) C dX2_leastSum_24 rfl (by decide) rfl ?_
  refine tt_locs (L' := [(0, .ref (md 0)), (1, .ref (ad 0)), (2, .int (0 : Int32))]) [1, 2, 0] rfl (l_X2_leastSum_25 C (fun t8 hf => ?_) hf)
  refine tt_aload_n (pc := 130) (k := 0) C dX2_leastSum_130 rfl rfl ?_
  refine tt_get (pc := 131) (ws := (vC cy md t8 ++ lC cy ad sc ar tr ps pa)) (ci := 2) (v := .ref (md 13)) C fiX2 rfl 0 vL_obj 3 (by decide) q1_181 rfl dX2_leastSum_131 ?_
  refine tt_aload_n (pc := 134) (k := 1) C dX2_leastSum_134 rfl rfl ?_
  refine tt_get (pc := 135) (ws := (vC cy md t8 ++ lC cy ad sc ar tr ps pa)) (ci := 1) (v := .int (sc 0)) C fiX1 rfl 5 vL_lobj 0 (by decide) q1_83 rfl dX2_leastSum_135 ?_
  refine tt_iconst (pc := 138) (v := (1 : Int32)) C dX2_leastSum_138 (by decide) ?_
  refine tt_isub (pc := 139) C dX2_leastSum_139 ?_
  refine tt_iaload (pc := 140) (ws := (vC cy md t8 ++ lC cy ad sc ar tr ps pa)) (n := 24) (f := (t8 3)) C 4 0 vL_get3 rfl hf dX2_leastSum_140 (fun hf => ?_)
  obtain rfl := Option.some.inj hf
  exact tt_ireturn (pc := 141) C rfl rfl rfl dX2_leastSum_141
theorem dX2_firstCellBy_0 : decode cX2_firstCellBy 0 = .ok (.iconst 0, 1) := by decide +kernel
theorem dX2_firstCellBy_1 : decode cX2_firstCellBy 1 = .ok (.istore 4, 2) := by decide +kernel
theorem dX2_firstCellBy_3 : decode cX2_firstCellBy 3 = .ok (.iload 4, 2) := by decide +kernel
theorem dX2_firstCellBy_5 : decode cX2_firstCellBy 5 = .ok (.aload_n 1, 1) := by decide +kernel
theorem dX2_firstCellBy_6 : decode cX2_firstCellBy 6 = .ok (.getfield 47, 3) := by decide +kernel
theorem dX2_firstCellBy_9 : decode cX2_firstCellBy 9 = .ok (.if_icmp .ge 29, 3) := by decide +kernel
theorem dX2_firstCellBy_12 : decode cX2_firstCellBy 12 = .ok (.aload_n 0, 1) := by decide +kernel
theorem dX2_firstCellBy_13 : decode cX2_firstCellBy 13 = .ok (.getfield 19, 3) := by decide +kernel
theorem dX2_firstCellBy_16 : decode cX2_firstCellBy 16 = .ok (.iload_n 2, 1) := by decide +kernel
theorem dX2_firstCellBy_17 : decode cX2_firstCellBy 17 = .ok (.iload 4, 2) := by decide +kernel
theorem dX2_firstCellBy_19 : decode cX2_firstCellBy 19 = .ok (.iastore, 1) := by decide +kernel
theorem dX2_firstCellBy_20 : decode cX2_firstCellBy 20 = .ok (.aload_n 0, 1) := by decide +kernel
theorem dX2_firstCellBy_21 : decode cX2_firstCellBy 21 = .ok (.aload_n 1, 1) := by decide +kernel
theorem dX2_firstCellBy_22 : decode cX2_firstCellBy 22 = .ok (.invokevirtual 29, 3) := by decide +kernel
theorem dX2_firstCellBy_25 : decode cX2_firstCellBy 25 = .ok (.iload_n 3, 1) := by decide +kernel
theorem dX2_firstCellBy_26 : decode cX2_firstCellBy 26 = .ok (.if_icmp .ne 6, 3) := by decide +kernel
theorem dX2_firstCellBy_29 : decode cX2_firstCellBy 29 = .ok (.iload 4, 2) := by decide +kernel
theorem dX2_firstCellBy_31 : decode cX2_firstCellBy 31 = .ok (.ireturn, 1) := by decide +kernel
theorem dX2_firstCellBy_32 : decode cX2_firstCellBy 32 = .ok (.iinc 4 1, 3) := by decide +kernel
theorem dX2_firstCellBy_35 : decode cX2_firstCellBy 35 = .ok (.goto (-32), 3) := by decide +kernel
theorem dX2_firstCellBy_38 : decode cX2_firstCellBy 38 = .ok (.iconst (-1), 1) := by decide +kernel
theorem dX2_firstCellBy_39 : decode cX2_firstCellBy 39 = .ok (.ireturn, 1) := by decide +kernel
set_option maxHeartbeats 4000000 in
set_option maxRecDepth 100000 in
theorem l_X2_firstCellBy_3 {p : Program} {l : Launch} {e : Env} {s : State} {m : MethodId} {args : Array Value} {below : List Frame} {meth : Method} {c : Code} {D : va_G} {cy : Nat → ClassId} {A : Nat → Prop} {Bd : Nat} {xa : Xa} {md ad : Nat → Nat} {N : Nat} {sc : Nat → Int32} {ar : Nat → Nat → Int32} {tr : Nat → Nat → Int32} {ps : Nat → Int32} {pa : Nat → Nat → Int32} {v2 : Int32} {v3 : Int32} {kx : (Nat → Nat → Int32) → Option (Int32 × (Nat → Nat → Int32))} {out : Int32 × (Nat → Nat → Int32)} (C : CC p s m args meth c cX2_firstCellBy RX2 5 (some .int) D cy A false Bd xa) (hk : ∀ (ma1 : Nat → Nat → Int32), kx ma1 = some out → TT p l e { frames := 2, cells := 0, slots := 0, locals := 48 } s m args below meth c 5 D A false (some (.int out.1)) (vC cy md out.2 ++ lC cy ad sc ar tr ps pa) 38 [] [] (vC cy md ma1 ++ lC cy ad sc ar tr ps pa)) {n : Nat} {v4 : Int32} {ma : Nat → Nat → Int32} (hf : f_X2_firstCellBy_L3 N sc ar v2 v3 kx n v4 ma = some out) : TT p l e { frames := 2, cells := 0, slots := 0, locals := 48 } s m args below meth c 5 D A false (some (.int out.1)) (vC cy md out.2 ++ lC cy ad sc ar tr ps pa) 3 [(0, .ref (md 0)), (1, .ref (ad 0)), (2, .int v2), (3, .int v3), (4, .int v4)] [] (vC cy md ma ++ lC cy ad sc ar tr ps pa) := by
  induction n generalizing v4 ma with
  | zero => cases hf
  | succ n ih =>
    rw [f_X2_firstCellBy_L3] at hf
    refine tt_iload (pc := 3) (k := 4) C dX2_firstCellBy_3 rfl ?_
    refine tt_aload_n (pc := 5) (k := 1) C dX2_firstCellBy_5 rfl rfl ?_
    refine tt_get (pc := 6) (ws := (vC cy md ma ++ lC cy ad sc ar tr ps pa)) (ci := 1) (v := .int (sc 0)) C fiX1 rfl 5 vL_lobj 0 (by decide) q1_83 rfl dX2_firstCellBy_6 ?_
    refine tt_icmp_ge (pc := 9) (tgt := 38) C dX2_firstCellBy_9 (by decide) hf (fun hf => ?_) (fun hf => ?_)
    · exact tt_locs [] rfl (hk _ hf)
    · refine tt_aload_n (pc := 12) (k := 0) C dX2_firstCellBy_12 rfl rfl ?_
      refine tt_get (pc := 13) (ws := (vC cy md ma ++ lC cy ad sc ar tr ps pa)) (ci := 2) (v := .ref (md 12)) C fiX2 rfl 0 vL_obj 2 (by decide) q1_180 rfl dX2_firstCellBy_13 ?_
      refine tt_iload_n (pc := 16) (k := 2) C dX2_firstCellBy_16 rfl rfl ?_
      refine tt_iload (pc := 17) (k := 4) C dX2_firstCellBy_17 rfl ?_
      refine tt_iastore (pc := 19) (ws := (vC cy md ma ++ lC cy ad sc ar tr ps pa)) (n := 5) (f := (ma 2)) (ws' := (vC cy md (va_up ma 2 (upd (ma 2) (ix v2) v4)) ++ lC cy ad sc ar tr ps pa)) C rfl 3 0 vL_get2 rfl hf dX2_firstCellBy_19 vL_set2 (fun hf => ?_)
      refine tt_aload_n (pc := 20) (k := 0) C dX2_firstCellBy_20 rfl rfl ?_
      refine tt_aload_n (pc := 21) (k := 1) C dX2_firstCellBy_21 rfl rfl ?_
      obtain ⟨r1, hr1, hf⟩ := bind_some hf
      refine tt_callM (pc := 22) (ws := (vC cy md (va_up ma 2 (upd (ma 2) (ix v2) v4)) ++ lC cy ad sc ar tr ps pa)) (q0 := 0) (ci := 2) (rest := []) (st' := [.int r1.1]) C rfl (k_X2_leastSum hr1) okX2_leastSum q3_155 rfl vL_obj rfl rfl rfl (Nat.le_of_ble_eq_true rfl) ⟨Nat.le_of_ble_eq_true rfl, Nat.le_of_ble_eq_true rfl⟩ dX2_firstCellBy_22 ?_
      refine tt_iload_n (pc := 25) (k := 3) C dX2_firstCellBy_25 rfl rfl ?_
      refine tt_icmp_ne (pc := 26) (tgt := 32) C dX2_firstCellBy_26 (by decide) hf (fun hf => ?_) (fun hf => ?_)
      · refine tt_iinc (pc := 32) (k := 4) (v := (v4 + 1)) (L' := [(4, .int (v4 + 1)), (0, .ref (md 0)), (1, .ref (ad 0)), (2, .int v2), (3, .int v3)]) C dX2_firstCellBy_32 rfl rfl (by decide) rfl ?_
        refine tt_goto (pc := 35) (tgt := 3) C dX2_firstCellBy_35 (by decide) ?_
        exact tt_locs [1, 2, 3, 4, 0] rfl (ih hf)
      · refine tt_iload (pc := 29) (k := 4) C dX2_firstCellBy_29 rfl ?_
        obtain rfl := Option.some.inj hf
        exact tt_ireturn (pc := 31) C rfl rfl rfl dX2_firstCellBy_31
set_option maxHeartbeats 4000000 in
set_option maxRecDepth 100000 in
theorem k_X2_firstCellBy {l : Launch} {D : va_G} {cy : Nat → ClassId} {Bd : Nat} {xa : Xa} {md ad : Nat → Nat} {N : Nat} {ma : Nat → Nat → Int32} {sc : Nat → Int32} {ar : Nat → Nat → Int32} {tr : Nat → Nat → Int32} {ps : Nat → Int32} {pa : Nat → Nat → Int32} {a2 : Int32} {a3 : Int32} {out : Int32 × (Nat → Nat → Int32)} (hf : f_X2_firstCellBy N ma sc ar a2 a3 = some out) : KC l yX2_firstCellBy cX2_firstCellBy 5 (some .int) 2 48 false D cy Bd xa [.ref (md 0), .ref (ad 0), .int a2, .int a3] (vC cy md ma ++ lC cy ad sc ar tr ps pa) (some (.int out.1)) (vC cy md out.2 ++ lC cy ad sc ar tr ps pa) := by
  refine kc_start (own := RX2) (by decide +kernel) rfl (Nat.le_of_ble_eq_true rfl) ?_
  intro p e s m args below meth c A C
  unfold f_X2_firstCellBy at hf
  refine tt_locs (L' := [(0, .ref (md 0)), (1, .ref (ad 0)), (2, .int a2), (3, .int a3)]) [0, 1, 2, 3] rfl ?_
  refine tt_iconst (pc := 0) (v := (0 : Int32)) C dX2_firstCellBy_0 (by decide) ?_
  refine tt_istore (pc := 1) (L' := [(4, .int (0 : Int32)), (0, .ref (md 0)), (1, .ref (ad 0)), (2, .int a2), (3, .int a3)]) C dX2_firstCellBy_1 (by decide) rfl ?_
  refine tt_locs (L' := [(0, .ref (md 0)), (1, .ref (ad 0)), (2, .int a2), (3, .int a3), (4, .int (0 : Int32))]) [1, 2, 3, 4, 0] rfl (l_X2_firstCellBy_3 C (fun t2 hf => ?_) hf)
  refine tt_iconst (pc := 38) (v := (-1 : Int32)) C dX2_firstCellBy_38 (by decide) ?_
  obtain rfl := Option.some.inj hf
  exact tt_ireturn (pc := 39) C rfl rfl rfl dX2_firstCellBy_39
theorem dX2_answer_0 : decode cX2_answer 0 = .ok (.aload_n 0, 1) := by decide +kernel
theorem dX2_answer_1 : decode cX2_answer 1 = .ok (.aload_n 1, 1) := by decide +kernel
theorem dX2_answer_2 : decode cX2_answer 2 = .ok (.invokevirtual 25, 3) := by decide +kernel
theorem dX2_answer_5 : decode cX2_answer 5 = .ok (.aload_n 0, 1) := by decide +kernel
theorem dX2_answer_6 : decode cX2_answer 6 = .ok (.aload_n 1, 1) := by decide +kernel
theorem dX2_answer_7 : decode cX2_answer 7 = .ok (.invokevirtual 29, 3) := by decide +kernel
theorem dX2_answer_10 : decode cX2_answer 10 = .ok (.istore_n 3, 1) := by decide +kernel
theorem dX2_answer_11 : decode cX2_answer 11 = .ok (.iload_n 3, 1) := by decide +kernel
theorem dX2_answer_12 : decode cX2_answer 12 = .ok (.ldc 33, 2) := by decide +kernel
theorem dX2_answer_14 : decode cX2_answer 14 = .ok (.if_icmp .lt 6, 3) := by decide +kernel
theorem dX2_answer_17 : decode cX2_answer 17 = .ok (.bipush (-9), 2) := by decide +kernel
theorem dX2_answer_19 : decode cX2_answer 19 = .ok (.ireturn, 1) := by decide +kernel
theorem dX2_answer_20 : decode cX2_answer 20 = .ok (.iload_n 2, 1) := by decide +kernel
theorem dX2_answer_21 : decode cX2_answer 21 = .ok (.ifCond .ge 5, 3) := by decide +kernel
theorem dX2_answer_24 : decode cX2_answer 24 = .ok (.iload_n 3, 1) := by decide +kernel
theorem dX2_answer_25 : decode cX2_answer 25 = .ok (.ireturn, 1) := by decide +kernel
theorem dX2_answer_26 : decode cX2_answer 26 = .ok (.iconst 0, 1) := by decide +kernel
theorem dX2_answer_27 : decode cX2_answer 27 = .ok (.istore 4, 2) := by decide +kernel
theorem dX2_answer_29 : decode cX2_answer 29 = .ok (.iload 4, 2) := by decide +kernel
theorem dX2_answer_31 : decode cX2_answer 31 = .ok (.iload_n 2, 1) := by decide +kernel
theorem dX2_answer_32 : decode cX2_answer 32 = .ok (.if_icmp .gt 24, 3) := by decide +kernel
theorem dX2_answer_35 : decode cX2_answer 35 = .ok (.aload_n 0, 1) := by decide +kernel
theorem dX2_answer_36 : decode cX2_answer 36 = .ok (.getfield 19, 3) := by decide +kernel
theorem dX2_answer_39 : decode cX2_answer 39 = .ok (.iload 4, 2) := by decide +kernel
theorem dX2_answer_41 : decode cX2_answer 41 = .ok (.aload_n 0, 1) := by decide +kernel
theorem dX2_answer_42 : decode cX2_answer 42 = .ok (.aload_n 1, 1) := by decide +kernel
theorem dX2_answer_43 : decode cX2_answer 43 = .ok (.iload 4, 2) := by decide +kernel
theorem dX2_answer_45 : decode cX2_answer 45 = .ok (.iload_n 3, 1) := by decide +kernel
theorem dX2_answer_46 : decode cX2_answer 46 = .ok (.invokevirtual 34, 3) := by decide +kernel
theorem dX2_answer_49 : decode cX2_answer 49 = .ok (.iastore, 1) := by decide +kernel
theorem dX2_answer_50 : decode cX2_answer 50 = .ok (.iinc 4 1, 3) := by decide +kernel
theorem dX2_answer_53 : decode cX2_answer 53 = .ok (.goto (-24), 3) := by decide +kernel
theorem dX2_answer_56 : decode cX2_answer 56 = .ok (.aload_n 0, 1) := by decide +kernel
theorem dX2_answer_57 : decode cX2_answer 57 = .ok (.getfield 19, 3) := by decide +kernel
theorem dX2_answer_60 : decode cX2_answer 60 = .ok (.iload_n 2, 1) := by decide +kernel
theorem dX2_answer_61 : decode cX2_answer 61 = .ok (.iaload, 1) := by decide +kernel
theorem dX2_answer_62 : decode cX2_answer 62 = .ok (.ireturn, 1) := by decide +kernel
set_option maxHeartbeats 4000000 in
set_option maxRecDepth 100000 in
theorem l_X2_answer_29 {p : Program} {l : Launch} {e : Env} {s : State} {m : MethodId} {args : Array Value} {below : List Frame} {meth : Method} {c : Code} {D : va_G} {cy : Nat → ClassId} {A : Nat → Prop} {Bd : Nat} {xa : Xa} {md ad : Nat → Nat} {β : Type} {vO : Option Value} {wO : va_W} {N : Nat} {sc : Nat → Int32} {ar : Nat → Nat → Int32} {tr : Nat → Nat → Int32} {ps : Nat → Int32} {pa : Nat → Nat → Int32} {v2 : Int32} {v3 : Int32} {kx : (Nat → Nat → Int32) → Option (β)} {out : β} (C : CC p s m args meth c cX2_answer RX2 5 (some .int) D cy A false Bd xa) (hk : ∀ (ma1 : Nat → Nat → Int32), kx ma1 = some out → TT p l e { frames := 6, cells := 0, slots := 0, locals := 143 } s m args below meth c 5 D A false vO wO 56 [(0, .ref (md 0)), (2, .int v2)] [] (vC cy md ma1 ++ lC cy ad sc ar tr ps pa)) {n : Nat} {v4 : Int32} {ma : Nat → Nat → Int32} (hf : f_X2_answer_L29 N sc ar tr v2 v3 kx n v4 ma = some out) : TT p l e { frames := 6, cells := 0, slots := 0, locals := 143 } s m args below meth c 5 D A false vO wO 29 [(0, .ref (md 0)), (1, .ref (ad 0)), (2, .int v2), (3, .int v3), (4, .int v4)] [] (vC cy md ma ++ lC cy ad sc ar tr ps pa) := by
  induction n generalizing v4 ma with
  | zero => cases hf
  | succ n ih =>
    rw [f_X2_answer_L29] at hf
    refine tt_iload (pc := 29) (k := 4) C dX2_answer_29 rfl ?_
    refine tt_iload_n (pc := 31) (k := 2) C dX2_answer_31 rfl rfl ?_
    refine tt_icmp_gt (pc := 32) (tgt := 56) C dX2_answer_32 (by decide) hf (fun hf => ?_) (fun hf => ?_)
    · exact tt_locs [0, 2] rfl (hk _ hf)
    · refine tt_aload_n (pc := 35) (k := 0) C dX2_answer_35 rfl rfl ?_
      refine tt_get (pc := 36) (ws := (vC cy md ma ++ lC cy ad sc ar tr ps pa)) (ci := 2) (v := .ref (md 12)) C fiX2 rfl 0 vL_obj 2 (by decide) q1_180 rfl dX2_answer_36 ?_
      refine tt_iload (pc := 39) (k := 4) C dX2_answer_39 rfl ?_
      refine tt_aload_n (pc := 41) (k := 0) C dX2_answer_41 rfl rfl ?_
      refine tt_aload_n (pc := 42) (k := 1) C dX2_answer_42 rfl rfl ?_
      refine tt_iload (pc := 43) (k := 4) C dX2_answer_43 rfl ?_
      refine tt_iload_n (pc := 45) (k := 3) C dX2_answer_45 rfl rfl ?_
      obtain ⟨r3, hr3, hf⟩ := bind_some hf
      refine tt_callM (pc := 46) (ws := (vC cy md ma ++ lC cy ad sc ar tr ps pa)) (q0 := 0) (ci := 2) (rest := [.int v4, .ref (md 12)]) (st' := [.int r3.1, .int v4, .ref (md 12)]) C rfl (k_X2_firstCellBy hr3) okX2_firstCellBy q3_168 rfl vL_obj rfl rfl rfl (Nat.le_of_ble_eq_true rfl) ⟨Nat.le_of_ble_eq_true rfl, Nat.le_of_ble_eq_true rfl⟩ dX2_answer_46 ?_
      refine tt_iastore (pc := 49) (ws := (vC cy md r3.2 ++ lC cy ad sc ar tr ps pa)) (n := 5) (f := (r3.2 2)) (ws' := (vC cy md (va_up r3.2 2 (upd (r3.2 2) (ix v4) r3.1)) ++ lC cy ad sc ar tr ps pa)) C rfl 3 0 vL_get2 rfl hf dX2_answer_49 vL_set2 (fun hf => ?_)
      refine tt_iinc (pc := 50) (k := 4) (v := (v4 + 1)) (L' := [(4, .int (v4 + 1)), (0, .ref (md 0)), (1, .ref (ad 0)), (2, .int v2), (3, .int v3)]) C dX2_answer_50 rfl rfl (by decide) rfl ?_
      refine tt_goto (pc := 53) (tgt := 29) C dX2_answer_53 (by decide) ?_
      exact tt_locs [1, 2, 3, 4, 0] rfl (ih hf)
set_option maxHeartbeats 4000000 in
set_option maxRecDepth 100000 in
theorem k_X2_answer {l : Launch} {D : va_G} {cy : Nat → ClassId} {Bd : Nat} {xa : Xa} {md ad : Nat → Nat} {N : Nat} {ma : Nat → Nat → Int32} {sc : Nat → Int32} {ar : Nat → Nat → Int32} {tr : Nat → Nat → Int32} {ps : Nat → Int32} {pa : Nat → Nat → Int32} {a2 : Int32} {out : Int32 × (Nat → Nat → Int32)} (hf : f_X2_answer N ma sc ar tr a2 = some out) : KC l yX2_answer cX2_answer 5 (some .int) 6 143 false D cy Bd xa [.ref (md 0), .ref (ad 0), .int a2] (vC cy md ma ++ lC cy ad sc ar tr ps pa) (some (.int out.1)) (vC cy md out.2 ++ lC cy ad sc ar tr ps pa) := by
  refine kc_start (own := RX2) (by decide +kernel) rfl (Nat.le_of_ble_eq_true rfl) ?_
  intro p e s m args below meth c A C
  unfold f_X2_answer at hf
  refine tt_locs (L' := [(0, .ref (md 0)), (1, .ref (ad 0)), (2, .int a2)]) [0, 1, 2] rfl ?_
  refine tt_aload_n (pc := 0) (k := 0) C dX2_answer_0 rfl rfl ?_
  refine tt_aload_n (pc := 1) (k := 1) C dX2_answer_1 rfl rfl ?_
  obtain ⟨r1, hr1, hf⟩ := bind_some hf
  refine tt_callM (pc := 2) (ws := (vC cy md ma ++ lC cy ad sc ar tr ps pa)) (q0 := 0) (ci := 2) (rest := []) (st' := []) C rfl (k_X2_prepare hr1) okX2_prepare q3_146 rfl vL_obj rfl rfl rfl (Nat.le_of_ble_eq_true rfl) ⟨Nat.le_of_ble_eq_true rfl, Nat.le_of_ble_eq_true rfl⟩ dX2_answer_2 ?_
  refine tt_aload_n (pc := 5) (k := 0) C dX2_answer_5 rfl rfl ?_
  refine tt_aload_n (pc := 6) (k := 1) C dX2_answer_6 rfl rfl ?_
  obtain ⟨r2, hr2, hf⟩ := bind_some hf
  refine tt_callM (pc := 7) (ws := (vC cy md r1 ++ lC cy ad sc ar tr ps pa)) (q0 := 0) (ci := 2) (rest := []) (st' := [.int r2.1]) C rfl (k_X2_leastSum hr2) okX2_leastSum q3_155 rfl vL_obj rfl rfl rfl (Nat.le_of_ble_eq_true rfl) ⟨Nat.le_of_ble_eq_true rfl, Nat.le_of_ble_eq_true rfl⟩ dX2_answer_7 ?_
  refine tt_istore_n (pc := 10) (L' := [(3, .int r2.1), (0, .ref (md 0)), (1, .ref (ad 0)), (2, .int a2)]) C dX2_answer_10 rfl (by decide) rfl ?_
  refine tt_iload_n (pc := 11) (k := 0) C dX2_answer_11 rfl rfl ?_
  refine tt_ldc (pc := 12) (v := (1000000 : Int32)) C dX2_answer_12 q3_159 ?_
  refine tt_icmp_lt (pc := 14) (tgt := 20) C dX2_answer_14 (by decide) hf (fun hf => ?_) (fun hf => ?_)
  · refine tt_iload_n (pc := 20) (k := 3) C dX2_answer_20 rfl rfl ?_
    refine tt_if_ge (pc := 21) (tgt := 26) C dX2_answer_21 (by decide) hf (fun hf => ?_) (fun hf => ?_)
    · refine tt_iconst (pc := 26) (v := (0 : Int32)) C dX2_answer_26 (by decide) ?_
      refine tt_istore (pc := 27) (L' := [(4, .int (0 : Int32)), (3, .int r2.1), (0, .ref (md 0)), (1, .ref (ad 0)), (2, .int a2)]) C dX2_answer_27 (by decide) rfl ?_
      refine tt_locs (L' := [(0, .ref (md 0)), (1, .ref (ad 0)), (2, .int a2), (3, .int r2.1), (4, .int (0 : Int32))]) [2, 3, 4, 1, 0] rfl (l_X2_answer_29 C (fun t4 hf => ?_) hf)
      refine tt_aload_n (pc := 56) (k := 0) C dX2_answer_56 rfl rfl ?_
      refine tt_get (pc := 57) (ws := (vC cy md t4 ++ lC cy ad sc ar tr ps pa)) (ci := 2) (v := .ref (md 12)) C fiX2 rfl 0 vL_obj 2 (by decide) q1_180 rfl dX2_answer_57 ?_
      refine tt_iload_n (pc := 60) (k := 1) C dX2_answer_60 rfl rfl ?_
      refine tt_iaload (pc := 61) (ws := (vC cy md t4 ++ lC cy ad sc ar tr ps pa)) (n := 5) (f := (t4 2)) C 3 0 vL_get2 rfl hf dX2_answer_61 (fun hf => ?_)
      obtain rfl := Option.some.inj hf
      exact tt_ireturn (pc := 62) C rfl rfl rfl dX2_answer_62
    · refine tt_iload_n (pc := 24) (k := 0) C dX2_answer_24 rfl rfl ?_
      obtain rfl := Option.some.inj hf
      exact tt_ireturn (pc := 25) C rfl rfl rfl dX2_answer_25
  · refine tt_bipush (pc := 17) (v := (-9 : Int32)) C dX2_answer_17 (by decide) ?_
    obtain rfl := Option.some.inj hf
    exact tt_ireturn (pc := 19) C rfl rfl rfl dX2_answer_19
theorem dX6_moved_0 : decode cX6_moved 0 = .ok (.iload_n 1, 1) := by decide +kernel
theorem dX6_moved_1 : decode cX6_moved 1 = .ok (.iconst (-1), 1) := by decide +kernel
theorem dX6_moved_2 : decode cX6_moved 2 = .ok (.if_icmp .eq 20, 3) := by decide +kernel
theorem dX6_moved_5 : decode cX6_moved 5 = .ok (.aload_n 0, 1) := by decide +kernel
theorem dX6_moved_6 : decode cX6_moved 6 = .ok (.getfield 10, 3) := by decide +kernel
theorem dX6_moved_9 : decode cX6_moved 9 = .ok (.iload_n 1, 1) := by decide +kernel
theorem dX6_moved_10 : decode cX6_moved 10 = .ok (.invokevirtual 120, 3) := by decide +kernel
theorem dX6_moved_13 : decode cX6_moved 13 = .ok (.ifCond .ne 9, 3) := by decide +kernel
theorem dX6_moved_16 : decode cX6_moved 16 = .ok (.aload_n 0, 1) := by decide +kernel
theorem dX6_moved_17 : decode cX6_moved 17 = .ok (.iconst (-1), 1) := by decide +kernel
theorem dX6_moved_18 : decode cX6_moved 18 = .ok (.invokevirtual 87, 3) := by decide +kernel
theorem dX6_moved_21 : decode cX6_moved 21 = .ok (.ireturn, 1) := by decide +kernel
theorem dX6_moved_22 : decode cX6_moved 22 = .ok (.aload_n 0, 1) := by decide +kernel
theorem dX6_moved_23 : decode cX6_moved 23 = .ok (.getfield 42, 3) := by decide +kernel
theorem dX6_moved_26 : decode cX6_moved 26 = .ok (.aload_n 0, 1) := by decide +kernel
theorem dX6_moved_27 : decode cX6_moved 27 = .ok (.getfield 10, 3) := by decide +kernel
theorem dX6_moved_30 : decode cX6_moved 30 = .ok (.iload_n 1, 1) := by decide +kernel
theorem dX6_moved_31 : decode cX6_moved 31 = .ok (.invokevirtual 186, 3) := by decide +kernel
theorem dX6_moved_34 : decode cX6_moved 34 = .ok (.ireturn, 1) := by decide +kernel
set_option maxHeartbeats 4000000 in
set_option maxRecDepth 100000 in
theorem k_X6_moved {l : Launch} {D : va_G} {cy : Nat → ClassId} {Bd : Nat} {xa : Xa} {xd : Nat → Nat → Nat} {N : Nat} {sX : Nat → Int32} {aX : Nat → Nat → Int32} {uG : Nat → Int32} {es : Nat → Int32} {ea : Nat → Nat → Int32} {sT : Nat → Int32} {aT : Nat → Nat → Int32} {tT : Nat → Nat → Int32} {pT : Nat → Int32} {qT : Nat → Nat → Int32} {ma : Nat → Nat → Int32} {sL : Nat → Int32} {aL : Nat → Nat → Int32} {tL : Nat → Nat → Int32} {pL : Nat → Int32} {qL : Nat → Nat → Int32} {sK : Nat → Int32} {aK : Nat → Nat → Int32} {tK : Nat → Nat → Int32} {pK : Nat → Int32} {qK : Nat → Nat → Int32} {sH : Nat → Nat → Int32} {rH : Nat → Nat → Int64} {uH : Nat → Nat → Int32} {a1 : Int32} {out : Int32 × (Nat → Nat → Int32) × (Nat → Nat → Int32)} (hf : f_X6_moved N aX ma sL aL tL a1 = some out) : KC l yX6_moved cX6_moved 2 (some .int) 7 167 false D cy Bd xa [.ref (xd 0 0), .int a1] (xC cy xd sX aX uG es ea sT aT tT pT qT ma sL aL tL pL qL sK aK tK pK qK sH rH uH) (some (.int out.1)) (xC cy xd sX out.2.1 uG es ea sT aT tT pT qT out.2.2 sL aL tL pL qL sK aK tK pK qK sH rH uH) := by
  refine kc_start (own := RX6) (by decide +kernel) rfl (Nat.le_of_ble_eq_true rfl) ?_
  intro p e s m args below meth c A C
  unfold f_X6_moved at hf
  refine tt_locs (L' := [(0, .ref (xd 0 0)), (1, .int a1)]) [0, 1] rfl ?_
  refine tt_iload_n (pc := 0) (k := 1) C dX6_moved_0 rfl rfl ?_
  refine tt_iconst (pc := 1) (v := (-1 : Int32)) C dX6_moved_1 (by decide) ?_
  refine tt_icmp_eq (pc := 2) (tgt := 22) C dX6_moved_2 (by decide) hf (fun hf => ?_) (fun hf => ?_)
  · refine tt_aload_n (pc := 22) (k := 0) C dX6_moved_22 rfl rfl ?_
    refine tt_get (pc := 23) (ws := (xC cy xd sX aX uG es ea sT aT tT pT qT ma sL aL tL pL qL sK aK tK pK qK sH rH uH)) (ci := 6) (v := .ref ((xd 5) 0)) C fiX6 rfl 0 xC_obj 6 (by decide) q1_225 rfl dX6_moved_23 ?_
    refine tt_aload_n (pc := 26) (k := 0) C dX6_moved_26 rfl rfl ?_
    refine tt_get (pc := 27) (ws := (xC cy xd sX aX uG es ea sT aT tT pT qT ma sL aL tL pL qL sK aK tK pK qK sH rH uH)) (ci := 6) (v := .ref ((xd 1) 0)) C fiX6 rfl 0 xC_obj 0 (by decide) q1_219 rfl dX6_moved_27 ?_
    refine tt_iload_n (pc := 30) (k := 1) C dX6_moved_30 rfl rfl ?_
    obtain ⟨r1, hr1, hf⟩ := bind_some hf
    refine tt_callG (pc := 31) (ws := (xC cy xd sX aX uG es ea sT aT tT pT qT ma sL aL tL pL qL sK aK tK pK qK sH rH uH)) (ws' := (xC cy xd sX aX uG es ea sT aT tT pT qT r1.2 sL aL tL pL qL sK aK tK pK qK sH rH uH)) (q0 := 23) (ci := 2) (rest := []) (st' := [.int r1.1]) C rfl (k_X2_answer hr1) okX2_answer q3_142 rfl rfl _ _ xs_ML xs_ML.symm rfl rfl rfl (Nat.le_of_ble_eq_true rfl) ⟨Nat.le_of_ble_eq_true rfl, Nat.le_of_ble_eq_true rfl⟩ dX6_moved_31 ?_
    obtain rfl := Option.some.inj hf
    exact tt_ireturn (pc := 34) C rfl rfl rfl dX6_moved_34
  · refine tt_aload_n (pc := 5) (k := 0) C dX6_moved_5 rfl rfl ?_
    refine tt_get (pc := 6) (ws := (xC cy xd sX aX uG es ea sT aT tT pT qT ma sL aL tL pL qL sK aK tK pK qK sH rH uH)) (ci := 6) (v := .ref ((xd 1) 0)) C fiX6 rfl 0 xC_obj 0 (by decide) q1_219 rfl dX6_moved_6 ?_
    refine tt_iload_n (pc := 9) (k := 1) C dX6_moved_9 rfl rfl ?_
    obtain ⟨r2, hr2, hf⟩ := bind_some hf
    refine tt_callR (pc := 10) (ws := (xC cy xd sX aX uG es ea sT aT tT pT qT ma sL aL tL pL qL sK aK tK pK qK sH rH uH)) (q0 := 28) (ci := 1) (rest := []) (st' := [.int r2]) C (k_X1_hasPost hr2) okX1_hasPost q3_38 rfl rfl xC_subL rfl rfl rfl (Nat.le_of_ble_eq_true rfl) ⟨Nat.le_of_ble_eq_true rfl, Nat.le_of_ble_eq_true rfl⟩ dX6_moved_10 ?_
    refine tt_if_ne (pc := 13) (tgt := 22) C dX6_moved_13 (by decide) hf (fun hf => ?_) (fun hf => ?_)
    · refine tt_aload_n (pc := 22) (k := 0) C dX6_moved_22 rfl rfl ?_
      refine tt_get (pc := 23) (ws := (xC cy xd sX aX uG es ea sT aT tT pT qT ma sL aL tL pL qL sK aK tK pK qK sH rH uH)) (ci := 6) (v := .ref ((xd 5) 0)) C fiX6 rfl 0 xC_obj 6 (by decide) q1_225 rfl dX6_moved_23 ?_
      refine tt_aload_n (pc := 26) (k := 0) C dX6_moved_26 rfl rfl ?_
      refine tt_get (pc := 27) (ws := (xC cy xd sX aX uG es ea sT aT tT pT qT ma sL aL tL pL qL sK aK tK pK qK sH rH uH)) (ci := 6) (v := .ref ((xd 1) 0)) C fiX6 rfl 0 xC_obj 0 (by decide) q1_219 rfl dX6_moved_27 ?_
      refine tt_iload_n (pc := 30) (k := 1) C dX6_moved_30 rfl rfl ?_
      obtain ⟨r3, hr3, hf⟩ := bind_some hf
      refine tt_callG (pc := 31) (ws := (xC cy xd sX aX uG es ea sT aT tT pT qT ma sL aL tL pL qL sK aK tK pK qK sH rH uH)) (ws' := (xC cy xd sX aX uG es ea sT aT tT pT qT r3.2 sL aL tL pL qL sK aK tK pK qK sH rH uH)) (q0 := 23) (ci := 2) (rest := []) (st' := [.int r3.1]) C rfl (k_X2_answer hr3) okX2_answer q3_142 rfl rfl _ _ xs_ML xs_ML.symm rfl rfl rfl (Nat.le_of_ble_eq_true rfl) ⟨Nat.le_of_ble_eq_true rfl, Nat.le_of_ble_eq_true rfl⟩ dX6_moved_31 ?_
      obtain rfl := Option.some.inj hf
      exact tt_ireturn (pc := 34) C rfl rfl rfl dX6_moved_34
    · refine tt_aload_n (pc := 16) (k := 0) C dX6_moved_16 rfl rfl ?_
      refine tt_iconst (pc := 17) (v := (-1 : Int32)) C dX6_moved_17 (by decide) ?_
      obtain ⟨r4, hr4, hf⟩ := bind_some hf
      refine tt_callM (pc := 18) (ws := (xC cy xd sX aX uG es ea sT aT tT pT qT ma sL aL tL pL qL sK aK tK pK qK sH rH uH)) (q0 := 0) (ci := 6) (rest := []) (st' := [.int r4.1]) C rfl (k_X6_refused hr4) okX6_refused q2_19 rfl xC_obj rfl rfl rfl (Nat.le_of_ble_eq_true rfl) ⟨Nat.le_of_ble_eq_true rfl, Nat.le_of_ble_eq_true rfl⟩ dX6_moved_18 ?_
      obtain rfl := Option.some.inj hf
      exact tt_ireturn (pc := 21) C rfl rfl rfl dX6_moved_21
theorem dX6_raised_0 : decode cX6_raised 0 = .ok (.aload_n 0, 1) := by decide +kernel
theorem dX6_raised_1 : decode cX6_raised 1 = .ok (.getfield 10, 3) := by decide +kernel
theorem dX6_raised_4 : decode cX6_raised 4 = .ok (.iload_n 1, 1) := by decide +kernel
theorem dX6_raised_5 : decode cX6_raised 5 = .ok (.invokevirtual 120, 3) := by decide +kernel
theorem dX6_raised_8 : decode cX6_raised 8 = .ok (.ifCond .ne 9, 3) := by decide +kernel
theorem dX6_raised_11 : decode cX6_raised 11 = .ok (.aload_n 0, 1) := by decide +kernel
theorem dX6_raised_12 : decode cX6_raised 12 = .ok (.iconst (-1), 1) := by decide +kernel
theorem dX6_raised_13 : decode cX6_raised 13 = .ok (.invokevirtual 87, 3) := by decide +kernel
theorem dX6_raised_16 : decode cX6_raised 16 = .ok (.ireturn, 1) := by decide +kernel
theorem dX6_raised_17 : decode cX6_raised 17 = .ok (.iconst 0, 1) := by decide +kernel
theorem dX6_raised_18 : decode cX6_raised 18 = .ok (.istore_n 2, 1) := by decide +kernel
theorem dX6_raised_19 : decode cX6_raised 19 = .ok (.iload_n 2, 1) := by decide +kernel
theorem dX6_raised_20 : decode cX6_raised 20 = .ok (.bipush 15, 2) := by decide +kernel
theorem dX6_raised_22 : decode cX6_raised 22 = .ok (.if_icmp .gt 31, 3) := by decide +kernel
theorem dX6_raised_25 : decode cX6_raised 25 = .ok (.aload_n 0, 1) := by decide +kernel
theorem dX6_raised_26 : decode cX6_raised 26 = .ok (.getfield 10, 3) := by decide +kernel
theorem dX6_raised_29 : decode cX6_raised 29 = .ok (.aload_n 0, 1) := by decide +kernel
theorem dX6_raised_30 : decode cX6_raised 30 = .ok (.getfield 10, 3) := by decide +kernel
theorem dX6_raised_33 : decode cX6_raised 33 = .ok (.getfield 123, 3) := by decide +kernel
theorem dX6_raised_36 : decode cX6_raised 36 = .ok (.iload_n 1, 1) := by decide +kernel
theorem dX6_raised_37 : decode cX6_raised 37 = .ok (.iaload, 1) := by decide +kernel
theorem dX6_raised_38 : decode cX6_raised 38 = .ok (.iload_n 2, 1) := by decide +kernel
theorem dX6_raised_39 : decode cX6_raised 39 = .ok (.invokevirtual 190, 3) := by decide +kernel
theorem dX6_raised_42 : decode cX6_raised 42 = .ok (.ifCond .eq 5, 3) := by decide +kernel
theorem dX6_raised_45 : decode cX6_raised 45 = .ok (.iload_n 2, 1) := by decide +kernel
theorem dX6_raised_46 : decode cX6_raised 46 = .ok (.ireturn, 1) := by decide +kernel
theorem dX6_raised_47 : decode cX6_raised 47 = .ok (.iinc 2 1, 3) := by decide +kernel
theorem dX6_raised_50 : decode cX6_raised 50 = .ok (.goto (-31), 3) := by decide +kernel
theorem dX6_raised_53 : decode cX6_raised 53 = .ok (.bipush (-9), 2) := by decide +kernel
theorem dX6_raised_55 : decode cX6_raised 55 = .ok (.ireturn, 1) := by decide +kernel
set_option maxHeartbeats 4000000 in
set_option maxRecDepth 100000 in
theorem l_X6_raised_19 {p : Program} {l : Launch} {e : Env} {s : State} {m : MethodId} {args : Array Value} {below : List Frame} {meth : Method} {c : Code} {D : va_G} {cy : Nat → ClassId} {A : Nat → Prop} {Bd : Nat} {xa : Xa} {xd : Nat → Nat → Nat} {N : Nat} {aX : Nat → Nat → Int32} {sL : Nat → Int32} {aL : Nat → Nat → Int32} {tL : Nat → Nat → Int32} {sX : Nat → Int32} {uG : Nat → Int32} {es : Nat → Int32} {ea : Nat → Nat → Int32} {sT : Nat → Int32} {aT : Nat → Nat → Int32} {tT : Nat → Nat → Int32} {pT : Nat → Int32} {qT : Nat → Nat → Int32} {ma : Nat → Nat → Int32} {pL : Nat → Int32} {qL : Nat → Nat → Int32} {sK : Nat → Int32} {aK : Nat → Nat → Int32} {tK : Nat → Nat → Int32} {pK : Nat → Int32} {qK : Nat → Nat → Int32} {sH : Nat → Nat → Int32} {rH : Nat → Nat → Int64} {uH : Nat → Nat → Int32} {v1 : Int32} {kx : Unit → Option (Int32 × (Nat → Nat → Int32))} {out : Int32 × (Nat → Nat → Int32)} (C : CC p s m args meth c cX6_raised RX6 3 (some .int) D cy A false Bd xa) (hk : ∀ (uu : Unit), kx uu = some out → TT p l e { frames := 5, cells := 0, slots := 0, locals := 119 } s m args below meth c 3 D A false (some (.int out.1)) (xC cy xd sX out.2 uG es ea sT aT tT pT qT ma sL aL tL pL qL sK aK tK pK qK sH rH uH) 53 [] [] (xC cy xd sX aX uG es ea sT aT tT pT qT ma sL aL tL pL qL sK aK tK pK qK sH rH uH)) {n : Nat} {v2 : Int32} (hf : f_X6_raised_L19 N aX sL aL tL v1 kx n v2 = some out) : TT p l e { frames := 5, cells := 0, slots := 0, locals := 119 } s m args below meth c 3 D A false (some (.int out.1)) (xC cy xd sX out.2 uG es ea sT aT tT pT qT ma sL aL tL pL qL sK aK tK pK qK sH rH uH) 19 [(0, .ref (xd 0 0)), (1, .int v1), (2, .int v2)] [] (xC cy xd sX aX uG es ea sT aT tT pT qT ma sL aL tL pL qL sK aK tK pK qK sH rH uH) := by
  induction n generalizing v2 with
  | zero => cases hf
  | succ n ih =>
    rw [f_X6_raised_L19] at hf
    refine tt_iload_n (pc := 19) (k := 2) C dX6_raised_19 rfl rfl ?_
    refine tt_bipush (pc := 20) (v := (15 : Int32)) C dX6_raised_20 (by decide) ?_
    refine tt_icmp_gt (pc := 22) (tgt := 53) C dX6_raised_22 (by decide) hf (fun hf => ?_) (fun hf => ?_)
    · exact tt_locs [] rfl (hk () hf)
    · refine tt_aload_n (pc := 25) (k := 0) C dX6_raised_25 rfl rfl ?_
      refine tt_get (pc := 26) (ws := (xC cy xd sX aX uG es ea sT aT tT pT qT ma sL aL tL pL qL sK aK tK pK qK sH rH uH)) (ci := 6) (v := .ref ((xd 1) 0)) C fiX6 rfl 0 xC_obj 0 (by decide) q1_219 rfl dX6_raised_26 ?_
      refine tt_aload_n (pc := 29) (k := 0) C dX6_raised_29 rfl rfl ?_
      refine tt_get (pc := 30) (ws := (xC cy xd sX aX uG es ea sT aT tT pT qT ma sL aL tL pL qL sK aK tK pK qK sH rH uH)) (ci := 6) (v := .ref ((xd 1) 0)) C fiX6 rfl 0 xC_obj 0 (by decide) q1_219 rfl dX6_raised_30 ?_
      refine tt_get (pc := 33) (ws := (xC cy xd sX aX uG es ea sT aT tT pT qT ma sL aL tL pL qL sK aK tK pK qK sH rH uH)) (ci := 1) (v := .ref ((xd 1) 7)) C fiX1 rfl 28 rfl 7 (by decide) q1_100 rfl dX6_raised_33 ?_
      refine tt_iload_n (pc := 36) (k := 1) C dX6_raised_36 rfl rfl ?_
      refine tt_iaload (pc := 37) (ws := (xC cy xd sX aX uG es ea sT aT tT pT qT ma sL aL tL pL qL sK aK tK pK qK sH rH uH)) (n := 5) (f := (aL 7)) C 33 0 rfl rfl hf dX6_raised_37 (fun hf => ?_)
      refine tt_iload_n (pc := 38) (k := 2) C dX6_raised_38 rfl rfl ?_
      obtain ⟨r2, hr2, hf⟩ := bind_some hf
      refine tt_callR (pc := 39) (ws := (xC cy xd sX aX uG es ea sT aT tT pT qT ma sL aL tL pL qL sK aK tK pK qK sH rH uH)) (q0 := 28) (ci := 1) (rest := []) (st' := [.int r2]) C (k_X1_keepsAll hr2) okX1_keepsAll q3_176 rfl rfl xC_subL rfl rfl rfl (Nat.le_of_ble_eq_true rfl) ⟨Nat.le_of_ble_eq_true rfl, Nat.le_of_ble_eq_true rfl⟩ dX6_raised_39 ?_
      refine tt_if_eq (pc := 42) (tgt := 47) C dX6_raised_42 (by decide) hf (fun hf => ?_) (fun hf => ?_)
      · refine tt_iinc (pc := 47) (k := 2) (v := (v2 + 1)) (L' := [(2, .int (v2 + 1)), (0, .ref (xd 0 0)), (1, .int v1)]) C dX6_raised_47 rfl rfl (by decide) rfl ?_
        refine tt_goto (pc := 50) (tgt := 19) C dX6_raised_50 (by decide) ?_
        exact tt_locs [1, 2, 0] rfl (ih hf)
      · refine tt_iload_n (pc := 45) (k := 2) C dX6_raised_45 rfl rfl ?_
        obtain rfl := Option.some.inj hf
        exact tt_ireturn (pc := 46) C rfl rfl rfl dX6_raised_46
set_option maxHeartbeats 4000000 in
set_option maxRecDepth 100000 in
theorem k_X6_raised {l : Launch} {D : va_G} {cy : Nat → ClassId} {Bd : Nat} {xa : Xa} {xd : Nat → Nat → Nat} {N : Nat} {sX : Nat → Int32} {aX : Nat → Nat → Int32} {uG : Nat → Int32} {es : Nat → Int32} {ea : Nat → Nat → Int32} {sT : Nat → Int32} {aT : Nat → Nat → Int32} {tT : Nat → Nat → Int32} {pT : Nat → Int32} {qT : Nat → Nat → Int32} {ma : Nat → Nat → Int32} {sL : Nat → Int32} {aL : Nat → Nat → Int32} {tL : Nat → Nat → Int32} {pL : Nat → Int32} {qL : Nat → Nat → Int32} {sK : Nat → Int32} {aK : Nat → Nat → Int32} {tK : Nat → Nat → Int32} {pK : Nat → Int32} {qK : Nat → Nat → Int32} {sH : Nat → Nat → Int32} {rH : Nat → Nat → Int64} {uH : Nat → Nat → Int32} {a1 : Int32} {out : Int32 × (Nat → Nat → Int32)} (hf : f_X6_raised N aX sL aL tL a1 = some out) : KC l yX6_raised cX6_raised 3 (some .int) 5 119 false D cy Bd xa [.ref (xd 0 0), .int a1] (xC cy xd sX aX uG es ea sT aT tT pT qT ma sL aL tL pL qL sK aK tK pK qK sH rH uH) (some (.int out.1)) (xC cy xd sX out.2 uG es ea sT aT tT pT qT ma sL aL tL pL qL sK aK tK pK qK sH rH uH) := by
  refine kc_start (own := RX6) (by decide +kernel) rfl (Nat.le_of_ble_eq_true rfl) ?_
  intro p e s m args below meth c A C
  unfold f_X6_raised at hf
  refine tt_locs (L' := [(0, .ref (xd 0 0)), (1, .int a1)]) [0, 1] rfl ?_
  refine tt_aload_n (pc := 0) (k := 0) C dX6_raised_0 rfl rfl ?_
  refine tt_get (pc := 1) (ws := (xC cy xd sX aX uG es ea sT aT tT pT qT ma sL aL tL pL qL sK aK tK pK qK sH rH uH)) (ci := 6) (v := .ref ((xd 1) 0)) C fiX6 rfl 0 xC_obj 0 (by decide) q1_219 rfl dX6_raised_1 ?_
  refine tt_iload_n (pc := 4) (k := 1) C dX6_raised_4 rfl rfl ?_
  obtain ⟨r1, hr1, hf⟩ := bind_some hf
  refine tt_callR (pc := 5) (ws := (xC cy xd sX aX uG es ea sT aT tT pT qT ma sL aL tL pL qL sK aK tK pK qK sH rH uH)) (q0 := 28) (ci := 1) (rest := []) (st' := [.int r1]) C (k_X1_hasPost hr1) okX1_hasPost q3_38 rfl rfl xC_subL rfl rfl rfl (Nat.le_of_ble_eq_true rfl) ⟨Nat.le_of_ble_eq_true rfl, Nat.le_of_ble_eq_true rfl⟩ dX6_raised_5 ?_
  refine tt_if_ne (pc := 8) (tgt := 17) C dX6_raised_8 (by decide) hf (fun hf => ?_) (fun hf => ?_)
  · refine tt_iconst (pc := 17) (v := (0 : Int32)) C dX6_raised_17 (by decide) ?_
    refine tt_istore_n (pc := 18) (L' := [(2, .int (0 : Int32)), (0, .ref (xd 0 0)), (1, .int a1)]) C dX6_raised_18 rfl (by decide) rfl ?_
    refine tt_locs (L' := [(0, .ref (xd 0 0)), (1, .int a1), (2, .int (0 : Int32))]) [1, 2, 0] rfl (l_X6_raised_19 C (fun _ hf => ?_) hf)
    refine tt_bipush (pc := 53) (v := (-9 : Int32)) C dX6_raised_53 (by decide) ?_
    obtain rfl := Option.some.inj hf
    exact tt_ireturn (pc := 55) C rfl rfl rfl dX6_raised_55
  · refine tt_aload_n (pc := 11) (k := 0) C dX6_raised_11 rfl rfl ?_
    refine tt_iconst (pc := 12) (v := (-1 : Int32)) C dX6_raised_12 (by decide) ?_
    obtain ⟨r3, hr3, hf⟩ := bind_some hf
    refine tt_callM (pc := 13) (ws := (xC cy xd sX aX uG es ea sT aT tT pT qT ma sL aL tL pL qL sK aK tK pK qK sH rH uH)) (q0 := 0) (ci := 6) (rest := []) (st' := [.int r3.1]) C rfl (k_X6_refused hr3) okX6_refused q2_19 rfl xC_obj rfl rfl rfl (Nat.le_of_ble_eq_true rfl) ⟨Nat.le_of_ble_eq_true rfl, Nat.le_of_ble_eq_true rfl⟩ dX6_raised_13 ?_
    obtain rfl := Option.some.inj hf
    exact tt_ireturn (pc := 16) C rfl rfl rfl dX6_raised_16
theorem dX1_keptPairs_0 : decode cX1_keptPairs 0 = .ok (.iconst 0, 1) := by decide +kernel
theorem dX1_keptPairs_1 : decode cX1_keptPairs 1 = .ok (.istore_n 2, 1) := by decide +kernel
theorem dX1_keptPairs_2 : decode cX1_keptPairs 2 = .ok (.iconst 0, 1) := by decide +kernel
theorem dX1_keptPairs_3 : decode cX1_keptPairs 3 = .ok (.istore_n 3, 1) := by decide +kernel
theorem dX1_keptPairs_4 : decode cX1_keptPairs 4 = .ok (.iload_n 3, 1) := by decide +kernel
theorem dX1_keptPairs_5 : decode cX1_keptPairs 5 = .ok (.aload_n 0, 1) := by decide +kernel
theorem dX1_keptPairs_6 : decode cX1_keptPairs 6 = .ok (.getfield 31, 3) := by decide +kernel
theorem dX1_keptPairs_9 : decode cX1_keptPairs 9 = .ok (.if_icmp .ge 50, 3) := by decide +kernel
theorem dX1_keptPairs_12 : decode cX1_keptPairs 12 = .ok (.iconst 0, 1) := by decide +kernel
theorem dX1_keptPairs_13 : decode cX1_keptPairs 13 = .ok (.istore 4, 2) := by decide +kernel
theorem dX1_keptPairs_15 : decode cX1_keptPairs 15 = .ok (.iload 4, 2) := by decide +kernel
theorem dX1_keptPairs_17 : decode cX1_keptPairs 17 = .ok (.aload_n 0, 1) := by decide +kernel
theorem dX1_keptPairs_18 : decode cX1_keptPairs 18 = .ok (.getfield 40, 3) := by decide +kernel
theorem dX1_keptPairs_21 : decode cX1_keptPairs 21 = .ok (.if_icmp .ge 32, 3) := by decide +kernel
theorem dX1_keptPairs_24 : decode cX1_keptPairs 24 = .ok (.aload_n 0, 1) := by decide +kernel
theorem dX1_keptPairs_25 : decode cX1_keptPairs 25 = .ok (.aload_n 0, 1) := by decide +kernel
theorem dX1_keptPairs_26 : decode cX1_keptPairs 26 = .ok (.getfield 45, 3) := by decide +kernel
theorem dX1_keptPairs_29 : decode cX1_keptPairs 29 = .ok (.iload 4, 2) := by decide +kernel
theorem dX1_keptPairs_31 : decode cX1_keptPairs 31 = .ok (.aaload, 1) := by decide +kernel
theorem dX1_keptPairs_32 : decode cX1_keptPairs 32 = .ok (.iload_n 3, 1) := by decide +kernel
theorem dX1_keptPairs_33 : decode cX1_keptPairs 33 = .ok (.iload_n 1, 1) := by decide +kernel
theorem dX1_keptPairs_34 : decode cX1_keptPairs 34 = .ok (.invokevirtual 148, 3) := by decide +kernel
theorem dX1_keptPairs_37 : decode cX1_keptPairs 37 = .ok (.aload_n 0, 1) := by decide +kernel
theorem dX1_keptPairs_38 : decode cX1_keptPairs 38 = .ok (.getfield 49, 3) := by decide +kernel
theorem dX1_keptPairs_41 : decode cX1_keptPairs 41 = .ok (.if_icmp .lt 6, 3) := by decide +kernel
theorem dX1_keptPairs_44 : decode cX1_keptPairs 44 = .ok (.iinc 2 1, 3) := by decide +kernel
theorem dX1_keptPairs_47 : decode cX1_keptPairs 47 = .ok (.iinc 4 1, 3) := by decide +kernel
theorem dX1_keptPairs_50 : decode cX1_keptPairs 50 = .ok (.goto (-35), 3) := by decide +kernel
theorem dX1_keptPairs_53 : decode cX1_keptPairs 53 = .ok (.iinc 3 1, 3) := by decide +kernel
theorem dX1_keptPairs_56 : decode cX1_keptPairs 56 = .ok (.goto (-52), 3) := by decide +kernel
theorem dX1_keptPairs_59 : decode cX1_keptPairs 59 = .ok (.iload_n 2, 1) := by decide +kernel
theorem dX1_keptPairs_60 : decode cX1_keptPairs 60 = .ok (.ireturn, 1) := by decide +kernel
set_option maxHeartbeats 4000000 in
set_option maxRecDepth 100000 in
theorem l_X1_keptPairs_15 {p : Program} {l : Launch} {e : Env} {s : State} {m : MethodId} {args : Array Value} {below : List Frame} {meth : Method} {c : Code} {D : va_G} {cy : Nat → ClassId} {A : Nat → Prop} {Bd : Nat} {xa : Xa} {ad : Nat → Nat} {β : Type} {vO : Option Value} {wO : va_W} {N : Nat} {sc : Nat → Int32} {ar : Nat → Nat → Int32} {tr : Nat → Nat → Int32} {ps : Nat → Int32} {pa : Nat → Nat → Int32} {v1 : Int32} {v3 : Int32} {kx : Int32 → Option (β)} {out : β} (C : CC p s m args meth c cX1_keptPairs RX1 5 (some .int) D cy A true Bd xa) (hk : ∀ (x2 : Int32), kx x2 = some out → TT p l e { frames := 5, cells := 0, slots := 0, locals := 119 } s m args below meth c 5 D A true vO wO 53 [(0, .ref (ad 0)), (1, .int v1), (2, .int x2), (3, .int v3)] [] (lC cy ad sc ar tr ps pa)) {n : Nat} {v2 : Int32} {v4 : Int32} (hf : f_X1_keptPairs_L15 N sc ar tr v1 v3 kx n v2 v4 = some out) : TT p l e { frames := 5, cells := 0, slots := 0, locals := 119 } s m args below meth c 5 D A true vO wO 15 [(0, .ref (ad 0)), (1, .int v1), (2, .int v2), (3, .int v3), (4, .int v4)] [] (lC cy ad sc ar tr ps pa) := by
  induction n generalizing v2 v4 with
  | zero => cases hf
  | succ n ih =>
    rw [f_X1_keptPairs_L15] at hf
    refine tt_iload (pc := 15) (k := 4) C dX1_keptPairs_15 rfl ?_
    refine tt_aload_n (pc := 17) (k := 0) C dX1_keptPairs_17 rfl rfl ?_
    refine tt_get (pc := 18) (ws := (lC cy ad sc ar tr ps pa)) (ci := 1) (v := .int (sc 9)) C fiX1 rfl 0 lC_obj 9 (by decide) q1_104 rfl dX1_keptPairs_18 ?_
    refine tt_icmp_ge (pc := 21) (tgt := 53) C dX1_keptPairs_21 (by decide) hf (fun hf => ?_) (fun hf => ?_)
    · exact tt_locs [0, 1, 2, 3] rfl (hk _ hf)
    · refine tt_aload_n (pc := 24) (k := 0) C dX1_keptPairs_24 rfl rfl ?_
      refine tt_aload_n (pc := 25) (k := 0) C dX1_keptPairs_25 rfl rfl ?_
      refine tt_get (pc := 26) (ws := (lC cy ad sc ar tr ps pa)) (ci := 1) (v := .ref (ad 10)) C fiX1 rfl 0 lC_obj 10 (by decide) q1_106 rfl dX1_keptPairs_26 ?_
      refine tt_iload (pc := 29) (k := 4) C dX1_keptPairs_29 rfl ?_
      refine tt_aaload (pc := 31) (ws := (lC cy ad sc ar tr ps pa)) (n := 4) (r := (fun j => ad (40 + j))) C 7 4 lC_get10 rfl hf (fun _ _ => rfl) dX1_keptPairs_31 (fun hf hlt1 => ?_)
      refine tt_iload_n (pc := 32) (k := 3) C dX1_keptPairs_32 rfl rfl ?_
      refine tt_iload_n (pc := 33) (k := 1) C dX1_keptPairs_33 rfl rfl ?_
      obtain ⟨r2, hr2, hf⟩ := bind_some hf
      refine tt_callR (pc := 34) (ws := (lC cy ad sc ar tr ps pa)) (q0 := 0) (ci := 1) (rest := []) (st' := [.int r2]) C (k_X1_warningOf hr2) okX1_warningOf q3_137 rfl lC_obj (sub_c (lC_tmem hlt1) (fun _ h => h)) rfl rfl rfl (Nat.le_of_ble_eq_true rfl) ⟨Nat.le_of_ble_eq_true rfl, Nat.le_of_ble_eq_true rfl⟩ dX1_keptPairs_34 ?_
      refine tt_aload_n (pc := 37) (k := 0) C dX1_keptPairs_37 rfl rfl ?_
      refine tt_get (pc := 38) (ws := (lC cy ad sc ar tr ps pa)) (ci := 1) (v := .int (sc 11)) C fiX1 rfl 0 lC_obj 11 (by decide) q1_108 rfl dX1_keptPairs_38 ?_
      have k4 : TT p l e { frames := 5, cells := 0, slots := 0, locals := 119 } s m args below meth c 5 D A true vO wO 47 [(0, .ref (ad 0)), (1, .int v1), (2, .int (if r2 < (sc 11) then v2 else (v2 + 1))), (3, .int v3), (4, .int v4)] [] (lC cy ad sc ar tr ps pa) := by
        refine tt_iinc (pc := 47) (k := 4) (v := (v4 + 1)) (L' := [(4, .int (v4 + 1)), (0, .ref (ad 0)), (1, .int v1), (2, .int (if r2 < (sc 11) then v2 else (v2 + 1))), (3, .int v3)]) C dX1_keptPairs_47 rfl rfl (by decide) rfl ?_
        refine tt_goto (pc := 50) (tgt := 15) C dX1_keptPairs_50 (by decide) ?_
        exact tt_locs [1, 2, 3, 4, 0] rfl (ih hf)
      refine tr_icmp_lt (pc := 41) (tgt := 47) C dX1_keptPairs_41 (by decide) (fun c3 => ?_) (fun c3 => ?_)
      · try simp only [if_pos c3] at k4 ⊢
        exact tt_locs [0, 1, 2, 3, 4] rfl k4
      · refine tt_iinc (pc := 44) (k := 2) (v := (v2 + 1)) (L' := [(2, .int (v2 + 1)), (0, .ref (ad 0)), (1, .int v1), (3, .int v3), (4, .int v4)]) C dX1_keptPairs_44 rfl rfl (by decide) rfl ?_
        try simp only [if_neg c3] at k4 ⊢
        exact tt_locs [1, 2, 0, 3, 4] rfl k4
set_option maxHeartbeats 4000000 in
set_option maxRecDepth 100000 in
theorem l_X1_keptPairs_4 {p : Program} {l : Launch} {e : Env} {s : State} {m : MethodId} {args : Array Value} {below : List Frame} {meth : Method} {c : Code} {D : va_G} {cy : Nat → ClassId} {A : Nat → Prop} {Bd : Nat} {xa : Xa} {ad : Nat → Nat} {β : Type} {vO : Option Value} {wO : va_W} {N : Nat} {sc : Nat → Int32} {ar : Nat → Nat → Int32} {tr : Nat → Nat → Int32} {ps : Nat → Int32} {pa : Nat → Nat → Int32} {v1 : Int32} {kx : Int32 → Option (β)} {out : β} (C : CC p s m args meth c cX1_keptPairs RX1 5 (some .int) D cy A true Bd xa) (hk : ∀ (x2 : Int32), kx x2 = some out → TT p l e { frames := 5, cells := 0, slots := 0, locals := 119 } s m args below meth c 5 D A true vO wO 59 [(2, .int x2)] [] (lC cy ad sc ar tr ps pa)) {n : Nat} {v2 : Int32} {v3 : Int32} (hf : f_X1_keptPairs_L4 N sc ar tr v1 kx n v2 v3 = some out) : TT p l e { frames := 5, cells := 0, slots := 0, locals := 119 } s m args below meth c 5 D A true vO wO 4 [(0, .ref (ad 0)), (1, .int v1), (2, .int v2), (3, .int v3)] [] (lC cy ad sc ar tr ps pa) := by
  induction n generalizing v2 v3 with
  | zero => cases hf
  | succ n ih =>
    rw [f_X1_keptPairs_L4] at hf
    refine tt_iload_n (pc := 4) (k := 3) C dX1_keptPairs_4 rfl rfl ?_
    refine tt_aload_n (pc := 5) (k := 0) C dX1_keptPairs_5 rfl rfl ?_
    refine tt_get (pc := 6) (ws := (lC cy ad sc ar tr ps pa)) (ci := 1) (v := .int (sc 6)) C fiX1 rfl 0 lC_obj 6 (by decide) q1_95 rfl dX1_keptPairs_6 ?_
    refine tt_icmp_ge (pc := 9) (tgt := 59) C dX1_keptPairs_9 (by decide) hf (fun hf => ?_) (fun hf => ?_)
    · exact tt_locs [2] rfl (hk _ hf)
    · refine tt_iconst (pc := 12) (v := (0 : Int32)) C dX1_keptPairs_12 (by decide) ?_
      refine tt_istore (pc := 13) (L' := [(4, .int (0 : Int32)), (0, .ref (ad 0)), (1, .int v1), (2, .int v2), (3, .int v3)]) C dX1_keptPairs_13 (by decide) rfl ?_
      refine tt_locs (L' := [(0, .ref (ad 0)), (1, .int v1), (2, .int v2), (3, .int v3), (4, .int (0 : Int32))]) [1, 2, 3, 4, 0] rfl (l_X1_keptPairs_15 C (fun x2_5 hf => ?_) hf)
      refine tt_iinc (pc := 53) (k := 3) (v := (v3 + 1)) (L' := [(3, .int (v3 + 1)), (0, .ref (ad 0)), (1, .int v1), (2, .int x2_5)]) C dX1_keptPairs_53 rfl rfl (by decide) rfl ?_
      refine tt_goto (pc := 56) (tgt := 4) C dX1_keptPairs_56 (by decide) ?_
      exact tt_locs [1, 2, 3, 0] rfl (ih hf)
set_option maxHeartbeats 4000000 in
set_option maxRecDepth 100000 in
theorem k_X1_keptPairs {l : Launch} {D : va_G} {cy : Nat → ClassId} {Bd : Nat} {xa : Xa} {ad : Nat → Nat} {N : Nat} {sc : Nat → Int32} {ar : Nat → Nat → Int32} {tr : Nat → Nat → Int32} {ps : Nat → Int32} {pa : Nat → Nat → Int32} {a1 : Int32} {out : Int32} (hf : f_X1_keptPairs N sc ar tr a1 = some out) : KC l yX1_keptPairs cX1_keptPairs 5 (some .int) 5 119 true D cy Bd xa [.ref (ad 0), .int a1] (lC cy ad sc ar tr ps pa) (some (.int out)) (lC cy ad sc ar tr ps pa) := by
  refine kc_start (own := RX1) (by decide +kernel) rfl (Nat.le_of_ble_eq_true rfl) ?_
  intro p e s m args below meth c A C
  unfold f_X1_keptPairs at hf
  refine tt_locs (L' := [(0, .ref (ad 0)), (1, .int a1)]) [0, 1] rfl ?_
  refine tt_iconst (pc := 0) (v := (0 : Int32)) C dX1_keptPairs_0 (by decide) ?_
  refine tt_istore_n (pc := 1) (L' := [(2, .int (0 : Int32)), (0, .ref (ad 0)), (1, .int a1)]) C dX1_keptPairs_1 rfl (by decide) rfl ?_
  refine tt_iconst (pc := 2) (v := (0 : Int32)) C dX1_keptPairs_2 (by decide) ?_
  refine tt_istore_n (pc := 3) (L' := [(3, .int (0 : Int32)), (2, .int (0 : Int32)), (0, .ref (ad 0)), (1, .int a1)]) C dX1_keptPairs_3 rfl (by decide) rfl ?_
  refine tt_locs (L' := [(0, .ref (ad 0)), (1, .int a1), (2, .int (0 : Int32)), (3, .int (0 : Int32))]) [2, 3, 1, 0] rfl (l_X1_keptPairs_4 C (fun x2_5 hf => ?_) hf)
  refine tt_iload_n (pc := 59) (k := 0) C dX1_keptPairs_59 rfl rfl ?_
  obtain rfl := Option.some.inj hf
  exact tt_ireturn (pc := 60) C rfl rfl rfl dX1_keptPairs_60
theorem dX6_refusedLong_0 : decode cX6_refusedLong 0 = .ok (.ldc2_w 287, 3) := by decide +kernel
theorem dX6_refusedLong_3 : decode cX6_refusedLong 3 = .ok (.aload_n 0, 1) := by decide +kernel
theorem dX6_refusedLong_4 : decode cX6_refusedLong 4 = .ok (.iload_n 1, 1) := by decide +kernel
theorem dX6_refusedLong_5 : decode cX6_refusedLong 5 = .ok (.invokevirtual 87, 3) := by decide +kernel
theorem dX6_refusedLong_8 : decode cX6_refusedLong 8 = .ok (.i2l, 1) := by decide +kernel
theorem dX6_refusedLong_9 : decode cX6_refusedLong 9 = .ok (.lsub, 1) := by decide +kernel
theorem dX6_refusedLong_10 : decode cX6_refusedLong 10 = .ok (.lreturn, 1) := by decide +kernel
set_option maxHeartbeats 4000000 in
set_option maxRecDepth 100000 in
theorem k_X6_refusedLong {l : Launch} {D : va_G} {cy : Nat → ClassId} {Bd : Nat} {xa : Xa} {xd : Nat → Nat → Nat} {N : Nat} {sX : Nat → Int32} {aX : Nat → Nat → Int32} {uG : Nat → Int32} {es : Nat → Int32} {ea : Nat → Nat → Int32} {sT : Nat → Int32} {aT : Nat → Nat → Int32} {tT : Nat → Nat → Int32} {pT : Nat → Int32} {qT : Nat → Nat → Int32} {ma : Nat → Nat → Int32} {sL : Nat → Int32} {aL : Nat → Nat → Int32} {tL : Nat → Nat → Int32} {pL : Nat → Int32} {qL : Nat → Nat → Int32} {sK : Nat → Int32} {aK : Nat → Nat → Int32} {tK : Nat → Nat → Int32} {pK : Nat → Int32} {qK : Nat → Nat → Int32} {sH : Nat → Nat → Int32} {rH : Nat → Nat → Int64} {uH : Nat → Nat → Int32} {a1 : Int32} {out : Int64 × (Nat → Nat → Int32)} (hf : f_X6_refusedLong N aX a1 = some out) : KC l yX6_refusedLong cX6_refusedLong 2 (some .long) 1 21 false D cy Bd xa [.ref (xd 0 0), .int a1] (xC cy xd sX aX uG es ea sT aT tT pT qT ma sL aL tL pL qL sK aK tK pK qK sH rH uH) (some (.long out.1)) (xC cy xd sX out.2 uG es ea sT aT tT pT qT ma sL aL tL pL qL sK aK tK pK qK sH rH uH) := by
  refine kc_start (own := RX6) (by decide +kernel) rfl (Nat.le_of_ble_eq_true rfl) ?_
  intro p e s m args below meth c A C
  unfold f_X6_refusedLong at hf
  refine tt_locs (L' := [(0, .ref (xd 0 0)), (1, .int a1)]) [0, 1] rfl ?_
  refine tt_ldc2 (pc := 0) (v := (4000000000000000000 : Int64)) C dX6_refusedLong_0 q3_185 ?_
  refine tt_aload_n (pc := 3) (k := 0) C dX6_refusedLong_3 rfl rfl ?_
  refine tt_iload_n (pc := 4) (k := 1) C dX6_refusedLong_4 rfl rfl ?_
  obtain ⟨r1, hr1, hf⟩ := bind_some hf
  refine tt_callM (pc := 5) (ws := (xC cy xd sX aX uG es ea sT aT tT pT qT ma sL aL tL pL qL sK aK tK pK qK sH rH uH)) (q0 := 0) (ci := 6) (rest := [.long (4000000000000000000 : Int64)]) (st' := [.int r1.1, .long (4000000000000000000 : Int64)]) C rfl (k_X6_refused hr1) okX6_refused q2_19 rfl xC_obj rfl rfl rfl (Nat.le_of_ble_eq_true rfl) ⟨Nat.le_of_ble_eq_true rfl, Nat.le_of_ble_eq_true rfl⟩ dX6_refusedLong_5 ?_
  refine tt_i2l (pc := 8) C dX6_refusedLong_8 ?_
  refine tt_lsub (pc := 9) C dX6_refusedLong_9 ?_
  obtain rfl := Option.some.inj hf
  exact tt_lreturn (pc := 10) C rfl rfl rfl dX6_refusedLong_10
theorem dX6_freed_0 : decode cX6_freed 0 = .ok (.aload_n 0, 1) := by decide +kernel
theorem dX6_freed_1 : decode cX6_freed 1 = .ok (.getfield 10, 3) := by decide +kernel
theorem dX6_freed_4 : decode cX6_freed 4 = .ok (.iload_n 1, 1) := by decide +kernel
theorem dX6_freed_5 : decode cX6_freed 5 = .ok (.invokevirtual 83, 3) := by decide +kernel
theorem dX6_freed_8 : decode cX6_freed 8 = .ok (.ifCond .ne 9, 3) := by decide +kernel
theorem dX6_freed_11 : decode cX6_freed 11 = .ok (.aload_n 0, 1) := by decide +kernel
theorem dX6_freed_12 : decode cX6_freed 12 = .ok (.iconst (-1), 1) := by decide +kernel
theorem dX6_freed_13 : decode cX6_freed 13 = .ok (.invokevirtual 194, 3) := by decide +kernel
theorem dX6_freed_16 : decode cX6_freed 16 = .ok (.lreturn, 1) := by decide +kernel
theorem dX6_freed_17 : decode cX6_freed 17 = .ok (.aload_n 0, 1) := by decide +kernel
theorem dX6_freed_18 : decode cX6_freed 18 = .ok (.getfield 10, 3) := by decide +kernel
theorem dX6_freed_21 : decode cX6_freed 21 = .ok (.invokevirtual 157, 3) := by decide +kernel
theorem dX6_freed_24 : decode cX6_freed 24 = .ok (.istore_n 2, 1) := by decide +kernel
theorem dX6_freed_25 : decode cX6_freed 25 = .ok (.aload_n 0, 1) := by decide +kernel
theorem dX6_freed_26 : decode cX6_freed 26 = .ok (.getfield 10, 3) := by decide +kernel
theorem dX6_freed_29 : decode cX6_freed 29 = .ok (.iload_n 2, 1) := by decide +kernel
theorem dX6_freed_30 : decode cX6_freed 30 = .ok (.iconst 1, 1) := by decide +kernel
theorem dX6_freed_31 : decode cX6_freed 31 = .ok (.iload_n 1, 1) := by decide +kernel
theorem dX6_freed_32 : decode cX6_freed 32 = .ok (.ishl, 1) := by decide +kernel
theorem dX6_freed_33 : decode cX6_freed 33 = .ok (.iconst (-1), 1) := by decide +kernel
theorem dX6_freed_34 : decode cX6_freed 34 = .ok (.ixor, 1) := by decide +kernel
theorem dX6_freed_35 : decode cX6_freed 35 = .ok (.iand, 1) := by decide +kernel
theorem dX6_freed_36 : decode cX6_freed 36 = .ok (.invokevirtual 198, 3) := by decide +kernel
theorem dX6_freed_39 : decode cX6_freed 39 = .ok (.aload_n 0, 1) := by decide +kernel
theorem dX6_freed_40 : decode cX6_freed 40 = .ok (.getfield 10, 3) := by decide +kernel
theorem dX6_freed_43 : decode cX6_freed 43 = .ok (.iload_n 2, 1) := by decide +kernel
theorem dX6_freed_44 : decode cX6_freed 44 = .ok (.invokevirtual 198, 3) := by decide +kernel
theorem dX6_freed_47 : decode cX6_freed 47 = .ok (.isub, 1) := by decide +kernel
theorem dX6_freed_48 : decode cX6_freed 48 = .ok (.i2l, 1) := by decide +kernel
theorem dX6_freed_49 : decode cX6_freed 49 = .ok (.lreturn, 1) := by decide +kernel
set_option maxHeartbeats 4000000 in
set_option maxRecDepth 100000 in
theorem k_X6_freed {l : Launch} {D : va_G} {cy : Nat → ClassId} {Bd : Nat} {xa : Xa} {xd : Nat → Nat → Nat} {N : Nat} {sX : Nat → Int32} {aX : Nat → Nat → Int32} {uG : Nat → Int32} {es : Nat → Int32} {ea : Nat → Nat → Int32} {sT : Nat → Int32} {aT : Nat → Nat → Int32} {tT : Nat → Nat → Int32} {pT : Nat → Int32} {qT : Nat → Nat → Int32} {ma : Nat → Nat → Int32} {sL : Nat → Int32} {aL : Nat → Nat → Int32} {tL : Nat → Nat → Int32} {pL : Nat → Int32} {qL : Nat → Nat → Int32} {sK : Nat → Int32} {aK : Nat → Nat → Int32} {tK : Nat → Nat → Int32} {pK : Nat → Int32} {qK : Nat → Nat → Int32} {sH : Nat → Nat → Int32} {rH : Nat → Nat → Int64} {uH : Nat → Nat → Int32} {a1 : Int32} {out : Int64 × (Nat → Nat → Int32)} (hf : f_X6_freed N aX sL aL tL a1 = some out) : KC l yX6_freed cX6_freed 3 (some .long) 6 143 false D cy Bd xa [.ref (xd 0 0), .int a1] (xC cy xd sX aX uG es ea sT aT tT pT qT ma sL aL tL pL qL sK aK tK pK qK sH rH uH) (some (.long out.1)) (xC cy xd sX out.2 uG es ea sT aT tT pT qT ma sL aL tL pL qL sK aK tK pK qK sH rH uH) := by
  refine kc_start (own := RX6) (by decide +kernel) rfl (Nat.le_of_ble_eq_true rfl) ?_
  intro p e s m args below meth c A C
  unfold f_X6_freed at hf
  refine tt_locs (L' := [(0, .ref (xd 0 0)), (1, .int a1)]) [0, 1] rfl ?_
  refine tt_aload_n (pc := 0) (k := 0) C dX6_freed_0 rfl rfl ?_
  refine tt_get (pc := 1) (ws := (xC cy xd sX aX uG es ea sT aT tT pT qT ma sL aL tL pL qL sK aK tK pK qK sH rH uH)) (ci := 6) (v := .ref ((xd 1) 0)) C fiX6 rfl 0 xC_obj 0 (by decide) q1_219 rfl dX6_freed_1 ?_
  refine tt_iload_n (pc := 4) (k := 1) C dX6_freed_4 rfl rfl ?_
  obtain ⟨r1, hr1, hf⟩ := bind_some hf
  refine tt_callR (pc := 5) (ws := (xC cy xd sX aX uG es ea sT aT tT pT qT ma sL aL tL pL qL sK aK tK pK qK sH rH uH)) (q0 := 28) (ci := 1) (rest := []) (st' := [.int r1]) C (k_X1_hasBridge hr1) okX1_hasBridge q2_238 rfl rfl xC_subL rfl rfl rfl (Nat.le_of_ble_eq_true rfl) ⟨Nat.le_of_ble_eq_true rfl, Nat.le_of_ble_eq_true rfl⟩ dX6_freed_5 ?_
  refine tt_if_ne (pc := 8) (tgt := 17) C dX6_freed_8 (by decide) hf (fun hf => ?_) (fun hf => ?_)
  · refine tt_aload_n (pc := 17) (k := 0) C dX6_freed_17 rfl rfl ?_
    refine tt_get (pc := 18) (ws := (xC cy xd sX aX uG es ea sT aT tT pT qT ma sL aL tL pL qL sK aK tK pK qK sH rH uH)) (ci := 6) (v := .ref ((xd 1) 0)) C fiX6 rfl 0 xC_obj 0 (by decide) q1_219 rfl dX6_freed_18 ?_
    obtain ⟨r2, hr2, hf⟩ := bind_some hf
    refine tt_callR (pc := 21) (ws := (xC cy xd sX aX uG es ea sT aT tT pT qT ma sL aL tL pL qL sK aK tK pK qK sH rH uH)) (q0 := 28) (ci := 1) (rest := []) (st' := [.int r2]) C (k_X1_allBridges hr2) okX1_allBridges q3_60 rfl rfl xC_subL rfl rfl rfl (Nat.le_of_ble_eq_true rfl) ⟨Nat.le_of_ble_eq_true rfl, Nat.le_of_ble_eq_true rfl⟩ dX6_freed_21 ?_
    refine tt_istore_n (pc := 24) (L' := [(2, .int r2), (0, .ref (xd 0 0)), (1, .int a1)]) C dX6_freed_24 rfl (by decide) rfl ?_
    refine tt_aload_n (pc := 25) (k := 1) C dX6_freed_25 rfl rfl ?_
    refine tt_get (pc := 26) (ws := (xC cy xd sX aX uG es ea sT aT tT pT qT ma sL aL tL pL qL sK aK tK pK qK sH rH uH)) (ci := 6) (v := .ref ((xd 1) 0)) C fiX6 rfl 0 xC_obj 0 (by decide) q1_219 rfl dX6_freed_26 ?_
    refine tt_iload_n (pc := 29) (k := 0) C dX6_freed_29 rfl rfl ?_
    refine tt_iconst (pc := 30) (v := (1 : Int32)) C dX6_freed_30 (by decide) ?_
    refine tt_iload_n (pc := 31) (k := 2) C dX6_freed_31 rfl rfl ?_
    refine tt_ishl (pc := 32) C dX6_freed_32 ?_
    refine tt_iconst (pc := 33) (v := (-1 : Int32)) C dX6_freed_33 (by decide) ?_
    refine tt_ixor (pc := 34) C dX6_freed_34 ?_
    refine tt_iand (pc := 35) C dX6_freed_35 ?_
    obtain ⟨r3, hr3, hf⟩ := bind_some hf
    refine tt_callR (pc := 36) (ws := (xC cy xd sX aX uG es ea sT aT tT pT qT ma sL aL tL pL qL sK aK tK pK qK sH rH uH)) (q0 := 28) (ci := 1) (rest := []) (st' := [.int r3]) C (k_X1_keptPairs hr3) okX1_keptPairs q3_186 rfl rfl xC_subL rfl rfl rfl (Nat.le_of_ble_eq_true rfl) ⟨Nat.le_of_ble_eq_true rfl, Nat.le_of_ble_eq_true rfl⟩ dX6_freed_36 ?_
    refine tt_aload_n (pc := 39) (k := 1) C dX6_freed_39 rfl rfl ?_
    refine tt_get (pc := 40) (ws := (xC cy xd sX aX uG es ea sT aT tT pT qT ma sL aL tL pL qL sK aK tK pK qK sH rH uH)) (ci := 6) (v := .ref ((xd 1) 0)) C fiX6 rfl 0 xC_obj 0 (by decide) q1_219 rfl dX6_freed_40 ?_
    refine tt_iload_n (pc := 43) (k := 0) C dX6_freed_43 rfl rfl ?_
    obtain ⟨r4, hr4, hf⟩ := bind_some hf
    refine tt_callR (pc := 44) (ws := (xC cy xd sX aX uG es ea sT aT tT pT qT ma sL aL tL pL qL sK aK tK pK qK sH rH uH)) (q0 := 28) (ci := 1) (rest := [.int r3]) (st' := [.int r4, .int r3]) C (k_X1_keptPairs hr4) okX1_keptPairs q3_186 rfl rfl xC_subL rfl rfl rfl (Nat.le_of_ble_eq_true rfl) ⟨Nat.le_of_ble_eq_true rfl, Nat.le_of_ble_eq_true rfl⟩ dX6_freed_44 ?_
    refine tt_isub (pc := 47) C dX6_freed_47 ?_
    refine tt_i2l (pc := 48) C dX6_freed_48 ?_
    obtain rfl := Option.some.inj hf
    exact tt_lreturn (pc := 49) C rfl rfl rfl dX6_freed_49
  · refine tt_aload_n (pc := 11) (k := 0) C dX6_freed_11 rfl rfl ?_
    refine tt_iconst (pc := 12) (v := (-1 : Int32)) C dX6_freed_12 (by decide) ?_
    obtain ⟨r5, hr5, hf⟩ := bind_some hf
    refine tt_callM (pc := 13) (ws := (xC cy xd sX aX uG es ea sT aT tT pT qT ma sL aL tL pL qL sK aK tK pK qK sH rH uH)) (q0 := 0) (ci := 6) (rest := []) (st' := [.long r5.1]) C rfl (k_X6_refusedLong hr5) okX6_refusedLong q3_181 rfl xC_obj rfl rfl rfl (Nat.le_of_ble_eq_true rfl) ⟨Nat.le_of_ble_eq_true rfl, Nat.le_of_ble_eq_true rfl⟩ dX6_freed_13 ?_
    obtain rfl := Option.some.inj hf
    exact tt_lreturn (pc := 16) C rfl rfl rfl dX6_freed_16
theorem dX6_worst_0 : decode cX6_worst 0 = .ok (.iconst 0, 1) := by decide +kernel
theorem dX6_worst_1 : decode cX6_worst 1 = .ok (.istore_n 1, 1) := by decide +kernel
theorem dX6_worst_2 : decode cX6_worst 2 = .ok (.bipush (-9), 2) := by decide +kernel
theorem dX6_worst_4 : decode cX6_worst 4 = .ok (.istore_n 2, 1) := by decide +kernel
theorem dX6_worst_5 : decode cX6_worst 5 = .ok (.iconst 0, 1) := by decide +kernel
theorem dX6_worst_6 : decode cX6_worst 6 = .ok (.istore_n 3, 1) := by decide +kernel
theorem dX6_worst_7 : decode cX6_worst 7 = .ok (.iload_n 3, 1) := by decide +kernel
theorem dX6_worst_8 : decode cX6_worst 8 = .ok (.aload_n 0, 1) := by decide +kernel
theorem dX6_worst_9 : decode cX6_worst 9 = .ok (.getfield 10, 3) := by decide +kernel
theorem dX6_worst_12 : decode cX6_worst 12 = .ok (.getfield 201, 3) := by decide +kernel
theorem dX6_worst_15 : decode cX6_worst 15 = .ok (.if_icmp .ge 80, 3) := by decide +kernel
theorem dX6_worst_18 : decode cX6_worst 18 = .ok (.iconst 0, 1) := by decide +kernel
theorem dX6_worst_19 : decode cX6_worst 19 = .ok (.istore 4, 2) := by decide +kernel
theorem dX6_worst_21 : decode cX6_worst 21 = .ok (.iload 4, 2) := by decide +kernel
theorem dX6_worst_23 : decode cX6_worst 23 = .ok (.aload_n 0, 1) := by decide +kernel
theorem dX6_worst_24 : decode cX6_worst 24 = .ok (.getfield 10, 3) := by decide +kernel
theorem dX6_worst_27 : decode cX6_worst 27 = .ok (.getfield 204, 3) := by decide +kernel
theorem dX6_worst_30 : decode cX6_worst 30 = .ok (.if_icmp .ge 59, 3) := by decide +kernel
theorem dX6_worst_33 : decode cX6_worst 33 = .ok (.aload_n 0, 1) := by decide +kernel
theorem dX6_worst_34 : decode cX6_worst 34 = .ok (.getfield 10, 3) := by decide +kernel
theorem dX6_worst_37 : decode cX6_worst 37 = .ok (.aload_n 0, 1) := by decide +kernel
theorem dX6_worst_38 : decode cX6_worst 38 = .ok (.getfield 10, 3) := by decide +kernel
theorem dX6_worst_41 : decode cX6_worst 41 = .ok (.getfield 132, 3) := by decide +kernel
theorem dX6_worst_44 : decode cX6_worst 44 = .ok (.iload 4, 2) := by decide +kernel
theorem dX6_worst_46 : decode cX6_worst 46 = .ok (.aaload, 1) := by decide +kernel
theorem dX6_worst_47 : decode cX6_worst 47 = .ok (.iload_n 3, 1) := by decide +kernel
theorem dX6_worst_48 : decode cX6_worst 48 = .ok (.aload_n 0, 1) := by decide +kernel
theorem dX6_worst_49 : decode cX6_worst 49 = .ok (.getfield 10, 3) := by decide +kernel
theorem dX6_worst_52 : decode cX6_worst 52 = .ok (.invokevirtual 157, 3) := by decide +kernel
theorem dX6_worst_55 : decode cX6_worst 55 = .ok (.invokevirtual 180, 3) := by decide +kernel
theorem dX6_worst_58 : decode cX6_worst 58 = .ok (.istore 5, 2) := by decide +kernel
theorem dX6_worst_60 : decode cX6_worst 60 = .ok (.iload_n 2, 1) := by decide +kernel
theorem dX6_worst_61 : decode cX6_worst 61 = .ok (.bipush (-9), 2) := by decide +kernel
theorem dX6_worst_63 : decode cX6_worst 63 = .ok (.if_icmp .eq 9, 3) := by decide +kernel
theorem dX6_worst_66 : decode cX6_worst 66 = .ok (.iload 5, 2) := by decide +kernel
theorem dX6_worst_68 : decode cX6_worst 68 = .ok (.iload_n 1, 1) := by decide +kernel
theorem dX6_worst_69 : decode cX6_worst 69 = .ok (.if_icmp .ge 14, 3) := by decide +kernel
theorem dX6_worst_72 : decode cX6_worst 72 = .ok (.iload 5, 2) := by decide +kernel
theorem dX6_worst_74 : decode cX6_worst 74 = .ok (.istore_n 1, 1) := by decide +kernel
theorem dX6_worst_75 : decode cX6_worst 75 = .ok (.bipush 10, 2) := by decide +kernel
theorem dX6_worst_77 : decode cX6_worst 77 = .ok (.iload_n 3, 1) := by decide +kernel
theorem dX6_worst_78 : decode cX6_worst 78 = .ok (.imul, 1) := by decide +kernel
theorem dX6_worst_79 : decode cX6_worst 79 = .ok (.iload 4, 2) := by decide +kernel
theorem dX6_worst_81 : decode cX6_worst 81 = .ok (.iadd, 1) := by decide +kernel
theorem dX6_worst_82 : decode cX6_worst 82 = .ok (.istore_n 2, 1) := by decide +kernel
theorem dX6_worst_83 : decode cX6_worst 83 = .ok (.iinc 4 1, 3) := by decide +kernel
theorem dX6_worst_86 : decode cX6_worst 86 = .ok (.goto (-65), 3) := by decide +kernel
theorem dX6_worst_89 : decode cX6_worst 89 = .ok (.iinc 3 1, 3) := by decide +kernel
theorem dX6_worst_92 : decode cX6_worst 92 = .ok (.goto (-85), 3) := by decide +kernel
theorem dX6_worst_95 : decode cX6_worst 95 = .ok (.iload_n 2, 1) := by decide +kernel
theorem dX6_worst_96 : decode cX6_worst 96 = .ok (.ireturn, 1) := by decide +kernel
set_option maxHeartbeats 4000000 in
set_option maxRecDepth 100000 in
theorem l_X6_worst_21 {p : Program} {l : Launch} {e : Env} {s : State} {m : MethodId} {args : Array Value} {below : List Frame} {meth : Method} {c : Code} {D : va_G} {cy : Nat → ClassId} {A : Nat → Prop} {Bd : Nat} {xa : Xa} {xd : Nat → Nat → Nat} {β : Type} {vO : Option Value} {wO : va_W} {N : Nat} {sL : Nat → Int32} {aL : Nat → Nat → Int32} {tL : Nat → Nat → Int32} {sX : Nat → Int32} {aX : Nat → Nat → Int32} {uG : Nat → Int32} {es : Nat → Int32} {ea : Nat → Nat → Int32} {sT : Nat → Int32} {aT : Nat → Nat → Int32} {tT : Nat → Nat → Int32} {pT : Nat → Int32} {qT : Nat → Nat → Int32} {ma : Nat → Nat → Int32} {pL : Nat → Int32} {qL : Nat → Nat → Int32} {sK : Nat → Int32} {aK : Nat → Nat → Int32} {tK : Nat → Nat → Int32} {pK : Nat → Int32} {qK : Nat → Nat → Int32} {sH : Nat → Nat → Int32} {rH : Nat → Nat → Int64} {uH : Nat → Nat → Int32} {v3 : Int32} {kx : Int32 → Int32 → Option (β)} {out : β} (C : CC p s m args meth c cX6_worst RX6 6 (some .int) D cy A true Bd xa) (hk : ∀ (x1 : Int32) (x2 : Int32), kx x1 x2 = some out → TT p l e { frames := 5, cells := 0, slots := 0, locals := 119 } s m args below meth c 6 D A true vO wO 89 [(0, .ref (xd 0 0)), (1, .int x1), (2, .int x2), (3, .int v3)] [] (xC cy xd sX aX uG es ea sT aT tT pT qT ma sL aL tL pL qL sK aK tK pK qK sH rH uH)) {n : Nat} {v1 : Int32} {v2 : Int32} {v4 : Int32} (hf : f_X6_worst_L21 N sL aL tL v3 kx n v1 v2 v4 = some out) : TT p l e { frames := 5, cells := 0, slots := 0, locals := 119 } s m args below meth c 6 D A true vO wO 21 [(0, .ref (xd 0 0)), (1, .int v1), (2, .int v2), (3, .int v3), (4, .int v4)] [] (xC cy xd sX aX uG es ea sT aT tT pT qT ma sL aL tL pL qL sK aK tK pK qK sH rH uH) := by
  induction n generalizing v1 v2 v4 with
  | zero => cases hf
  | succ n ih =>
    rw [f_X6_worst_L21] at hf
    refine tt_iload (pc := 21) (k := 4) C dX6_worst_21 rfl ?_
    refine tt_aload_n (pc := 23) (k := 0) C dX6_worst_23 rfl rfl ?_
    refine tt_get (pc := 24) (ws := (xC cy xd sX aX uG es ea sT aT tT pT qT ma sL aL tL pL qL sK aK tK pK qK sH rH uH)) (ci := 6) (v := .ref ((xd 1) 0)) C fiX6 rfl 0 xC_obj 0 (by decide) q1_219 rfl dX6_worst_24 ?_
    refine tt_get (pc := 27) (ws := (xC cy xd sX aX uG es ea sT aT tT pT qT ma sL aL tL pL qL sK aK tK pK qK sH rH uH)) (ci := 1) (v := .int (sL 9)) C fiX1 rfl 28 rfl 9 (by decide) q1_105 rfl dX6_worst_27 ?_
    refine tt_icmp_ge (pc := 30) (tgt := 89) C dX6_worst_30 (by decide) hf (fun hf => ?_) (fun hf => ?_)
    · exact tt_locs [0, 1, 2, 3] rfl (hk _ _ hf)
    · refine tt_aload_n (pc := 33) (k := 0) C dX6_worst_33 rfl rfl ?_
      refine tt_get (pc := 34) (ws := (xC cy xd sX aX uG es ea sT aT tT pT qT ma sL aL tL pL qL sK aK tK pK qK sH rH uH)) (ci := 6) (v := .ref ((xd 1) 0)) C fiX6 rfl 0 xC_obj 0 (by decide) q1_219 rfl dX6_worst_34 ?_
      refine tt_aload_n (pc := 37) (k := 0) C dX6_worst_37 rfl rfl ?_
      refine tt_get (pc := 38) (ws := (xC cy xd sX aX uG es ea sT aT tT pT qT ma sL aL tL pL qL sK aK tK pK qK sH rH uH)) (ci := 6) (v := .ref ((xd 1) 0)) C fiX6 rfl 0 xC_obj 0 (by decide) q1_219 rfl dX6_worst_38 ?_
      refine tt_get (pc := 41) (ws := (xC cy xd sX aX uG es ea sT aT tT pT qT ma sL aL tL pL qL sK aK tK pK qK sH rH uH)) (ci := 1) (v := .ref ((xd 1) 10)) C fiX1 rfl 28 rfl 10 (by decide) q1_107 rfl dX6_worst_41 ?_
      refine tt_iload (pc := 44) (k := 4) C dX6_worst_44 rfl ?_
      refine tt_aaload (pc := 46) (ws := (xC cy xd sX aX uG es ea sT aT tT pT qT ma sL aL tL pL qL sK aK tK pK qK sH rH uH)) (n := 4) (r := (fun j => (xd 1) (40 + j))) C 35 4 rfl rfl hf (fun _ _ => rfl) dX6_worst_46 (fun hf hlt1 => ?_)
      refine tt_iload_n (pc := 47) (k := 3) C dX6_worst_47 rfl rfl ?_
      refine tt_aload_n (pc := 48) (k := 0) C dX6_worst_48 rfl rfl ?_
      refine tt_get (pc := 49) (ws := (xC cy xd sX aX uG es ea sT aT tT pT qT ma sL aL tL pL qL sK aK tK pK qK sH rH uH)) (ci := 6) (v := .ref ((xd 1) 0)) C fiX6 rfl 0 xC_obj 0 (by decide) q1_219 rfl dX6_worst_49 ?_
      obtain ⟨r2, hr2, hf⟩ := bind_some hf
      refine tt_callR (pc := 52) (ws := (xC cy xd sX aX uG es ea sT aT tT pT qT ma sL aL tL pL qL sK aK tK pK qK sH rH uH)) (q0 := 28) (ci := 1) (rest := [.int v3, .ref ((xd 1) (40 + (ix v4))), .ref ((xd 1) 0)]) (st' := [.int r2, .int v3, .ref ((xd 1) (40 + (ix v4))), .ref ((xd 1) 0)]) C (k_X1_allBridges hr2) okX1_allBridges q3_60 rfl rfl xC_subL rfl rfl rfl (Nat.le_of_ble_eq_true rfl) ⟨Nat.le_of_ble_eq_true rfl, Nat.le_of_ble_eq_true rfl⟩ dX6_worst_52 ?_
      obtain ⟨r3, hr3, hf⟩ := bind_some hf
      refine tt_callR (pc := 55) (ws := (xC cy xd sX aX uG es ea sT aT tT pT qT ma sL aL tL pL qL sK aK tK pK qK sH rH uH)) (q0 := 28) (ci := 1) (rest := []) (st' := [.int r3]) C (k_X1_warningOf hr3) okX1_warningOf q3_120 rfl rfl (sub_c (xC_subL _ (lC_tmem hlt1)) xC_subL) rfl rfl rfl (Nat.le_of_ble_eq_true rfl) ⟨Nat.le_of_ble_eq_true rfl, Nat.le_of_ble_eq_true rfl⟩ dX6_worst_55 ?_
      refine tt_istore (pc := 58) (L' := [(5, .int r3), (0, .ref (xd 0 0)), (1, .int v1), (2, .int v2), (3, .int v3), (4, .int v4)]) C dX6_worst_58 (by decide) rfl ?_
      refine tt_iload_n (pc := 60) (k := 3) C dX6_worst_60 rfl rfl ?_
      refine tt_bipush (pc := 61) (v := (-9 : Int32)) C dX6_worst_61 (by decide) ?_
      have k6 : TT p l e { frames := 5, cells := 0, slots := 0, locals := 119 } s m args below meth c 6 D A true vO wO 83 [(0, .ref (xd 0 0)), (1, .int (if v2 = (-9 : Int32) then r3 else (if v1 ≤ r3 then v1 else r3))), (2, .int (if v2 = (-9 : Int32) then (((10 : Int32) * v3) + v4) else (if v1 ≤ r3 then v2 else (((10 : Int32) * v3) + v4)))), (3, .int v3), (4, .int v4)] [] (xC cy xd sX aX uG es ea sT aT tT pT qT ma sL aL tL pL qL sK aK tK pK qK sH rH uH) := by
        refine tt_iinc (pc := 83) (k := 4) (v := (v4 + 1)) (L' := [(4, .int (v4 + 1)), (0, .ref (xd 0 0)), (1, .int (if v2 = (-9 : Int32) then r3 else (if v1 ≤ r3 then v1 else r3))), (2, .int (if v2 = (-9 : Int32) then (((10 : Int32) * v3) + v4) else (if v1 ≤ r3 then v2 else (((10 : Int32) * v3) + v4)))), (3, .int v3)]) C dX6_worst_83 rfl rfl (by decide) rfl ?_
        refine tt_goto (pc := 86) (tgt := 21) C dX6_worst_86 (by decide) ?_
        exact tt_locs [1, 2, 3, 4, 0] rfl (ih hf)
      refine tr_icmp_eq (pc := 63) (tgt := 72) C dX6_worst_63 (by decide) (fun c4 => ?_) (fun c4 => ?_)
      · refine tt_iload (pc := 72) (k := 0) C dX6_worst_72 rfl ?_
        refine tt_istore_n (pc := 74) (L' := [(1, .int r3), (5, .int r3), (0, .ref (xd 0 0)), (2, .int v2), (3, .int v3), (4, .int v4)]) C dX6_worst_74 rfl (by decide) rfl ?_
        refine tt_bipush (pc := 75) (v := (10 : Int32)) C dX6_worst_75 (by decide) ?_
        refine tt_iload_n (pc := 77) (k := 4) C dX6_worst_77 rfl rfl ?_
        refine tt_imul (pc := 78) C dX6_worst_78 ?_
        refine tt_iload (pc := 79) (k := 5) C dX6_worst_79 rfl ?_
        refine tt_iadd (pc := 81) C dX6_worst_81 ?_
        refine tt_istore_n (pc := 82) (L' := [(2, .int (((10 : Int32) * v3) + v4)), (1, .int r3), (5, .int r3), (0, .ref (xd 0 0)), (3, .int v3), (4, .int v4)]) C dX6_worst_82 rfl (by decide) rfl ?_
        try simp only [if_pos c4] at k6 ⊢
        exact tt_locs [3, 1, 0, 4, 5] rfl k6
      · refine tt_iload (pc := 66) (k := 0) C dX6_worst_66 rfl ?_
        refine tt_iload_n (pc := 68) (k := 2) C dX6_worst_68 rfl rfl ?_
        refine tr_icmp_ge (pc := 69) (tgt := 83) C dX6_worst_69 (by decide) (fun c5 => ?_) (fun c5 => ?_)
        · try simp only [if_neg c4, if_pos c5] at k6 ⊢
          exact tt_locs [1, 2, 3, 4, 5] rfl k6
        · refine tt_iload (pc := 72) (k := 0) C dX6_worst_72 rfl ?_
          refine tt_istore_n (pc := 74) (L' := [(1, .int r3), (5, .int r3), (0, .ref (xd 0 0)), (2, .int v2), (3, .int v3), (4, .int v4)]) C dX6_worst_74 rfl (by decide) rfl ?_
          refine tt_bipush (pc := 75) (v := (10 : Int32)) C dX6_worst_75 (by decide) ?_
          refine tt_iload_n (pc := 77) (k := 4) C dX6_worst_77 rfl rfl ?_
          refine tt_imul (pc := 78) C dX6_worst_78 ?_
          refine tt_iload (pc := 79) (k := 5) C dX6_worst_79 rfl ?_
          refine tt_iadd (pc := 81) C dX6_worst_81 ?_
          refine tt_istore_n (pc := 82) (L' := [(2, .int (((10 : Int32) * v3) + v4)), (1, .int r3), (5, .int r3), (0, .ref (xd 0 0)), (3, .int v3), (4, .int v4)]) C dX6_worst_82 rfl (by decide) rfl ?_
          try simp only [if_neg c4, if_neg c5] at k6 ⊢
          exact tt_locs [3, 1, 0, 4, 5] rfl k6
set_option maxHeartbeats 4000000 in
set_option maxRecDepth 100000 in
theorem l_X6_worst_7 {p : Program} {l : Launch} {e : Env} {s : State} {m : MethodId} {args : Array Value} {below : List Frame} {meth : Method} {c : Code} {D : va_G} {cy : Nat → ClassId} {A : Nat → Prop} {Bd : Nat} {xa : Xa} {xd : Nat → Nat → Nat} {β : Type} {vO : Option Value} {wO : va_W} {N : Nat} {sL : Nat → Int32} {aL : Nat → Nat → Int32} {tL : Nat → Nat → Int32} {sX : Nat → Int32} {aX : Nat → Nat → Int32} {uG : Nat → Int32} {es : Nat → Int32} {ea : Nat → Nat → Int32} {sT : Nat → Int32} {aT : Nat → Nat → Int32} {tT : Nat → Nat → Int32} {pT : Nat → Int32} {qT : Nat → Nat → Int32} {ma : Nat → Nat → Int32} {pL : Nat → Int32} {qL : Nat → Nat → Int32} {sK : Nat → Int32} {aK : Nat → Nat → Int32} {tK : Nat → Nat → Int32} {pK : Nat → Int32} {qK : Nat → Nat → Int32} {sH : Nat → Nat → Int32} {rH : Nat → Nat → Int64} {uH : Nat → Nat → Int32} {kx : Int32 → Option (β)} {out : β} (C : CC p s m args meth c cX6_worst RX6 6 (some .int) D cy A true Bd xa) (hk : ∀ (x2 : Int32), kx x2 = some out → TT p l e { frames := 5, cells := 0, slots := 0, locals := 119 } s m args below meth c 6 D A true vO wO 95 [(2, .int x2)] [] (xC cy xd sX aX uG es ea sT aT tT pT qT ma sL aL tL pL qL sK aK tK pK qK sH rH uH)) {n : Nat} {v1 : Int32} {v2 : Int32} {v3 : Int32} (hf : f_X6_worst_L7 N sL aL tL kx n v1 v2 v3 = some out) : TT p l e { frames := 5, cells := 0, slots := 0, locals := 119 } s m args below meth c 6 D A true vO wO 7 [(0, .ref (xd 0 0)), (1, .int v1), (2, .int v2), (3, .int v3)] [] (xC cy xd sX aX uG es ea sT aT tT pT qT ma sL aL tL pL qL sK aK tK pK qK sH rH uH) := by
  induction n generalizing v1 v2 v3 with
  | zero => cases hf
  | succ n ih =>
    rw [f_X6_worst_L7] at hf
    refine tt_iload_n (pc := 7) (k := 3) C dX6_worst_7 rfl rfl ?_
    refine tt_aload_n (pc := 8) (k := 0) C dX6_worst_8 rfl rfl ?_
    refine tt_get (pc := 9) (ws := (xC cy xd sX aX uG es ea sT aT tT pT qT ma sL aL tL pL qL sK aK tK pK qK sH rH uH)) (ci := 6) (v := .ref ((xd 1) 0)) C fiX6 rfl 0 xC_obj 0 (by decide) q1_219 rfl dX6_worst_9 ?_
    refine tt_get (pc := 12) (ws := (xC cy xd sX aX uG es ea sT aT tT pT qT ma sL aL tL pL qL sK aK tK pK qK sH rH uH)) (ci := 1) (v := .int (sL 6)) C fiX1 rfl 28 rfl 6 (by decide) q1_97 rfl dX6_worst_12 ?_
    refine tt_icmp_ge (pc := 15) (tgt := 95) C dX6_worst_15 (by decide) hf (fun hf => ?_) (fun hf => ?_)
    · exact tt_locs [2] rfl (hk _ hf)
    · refine tt_iconst (pc := 18) (v := (0 : Int32)) C dX6_worst_18 (by decide) ?_
      refine tt_istore (pc := 19) (L' := [(4, .int (0 : Int32)), (0, .ref (xd 0 0)), (1, .int v1), (2, .int v2), (3, .int v3)]) C dX6_worst_19 (by decide) rfl ?_
      refine tt_locs (L' := [(0, .ref (xd 0 0)), (1, .int v1), (2, .int v2), (3, .int v3), (4, .int (0 : Int32))]) [1, 2, 3, 4, 0] rfl (l_X6_worst_21 C (fun x1_7 x2_7 hf => ?_) hf)
      refine tt_iinc (pc := 89) (k := 3) (v := (v3 + 1)) (L' := [(3, .int (v3 + 1)), (0, .ref (xd 0 0)), (1, .int x1_7), (2, .int x2_7)]) C dX6_worst_89 rfl rfl (by decide) rfl ?_
      refine tt_goto (pc := 92) (tgt := 7) C dX6_worst_92 (by decide) ?_
      exact tt_locs [1, 2, 3, 0] rfl (ih hf)
set_option maxHeartbeats 4000000 in
set_option maxRecDepth 100000 in
theorem k_X6_worst {l : Launch} {D : va_G} {cy : Nat → ClassId} {Bd : Nat} {xa : Xa} {xd : Nat → Nat → Nat} {N : Nat} {sX : Nat → Int32} {aX : Nat → Nat → Int32} {uG : Nat → Int32} {es : Nat → Int32} {ea : Nat → Nat → Int32} {sT : Nat → Int32} {aT : Nat → Nat → Int32} {tT : Nat → Nat → Int32} {pT : Nat → Int32} {qT : Nat → Nat → Int32} {ma : Nat → Nat → Int32} {sL : Nat → Int32} {aL : Nat → Nat → Int32} {tL : Nat → Nat → Int32} {pL : Nat → Int32} {qL : Nat → Nat → Int32} {sK : Nat → Int32} {aK : Nat → Nat → Int32} {tK : Nat → Nat → Int32} {pK : Nat → Int32} {qK : Nat → Nat → Int32} {sH : Nat → Nat → Int32} {rH : Nat → Nat → Int64} {uH : Nat → Nat → Int32} {out : Int32} (hf : f_X6_worst N sL aL tL = some out) : KC l yX6_worst cX6_worst 6 (some .int) 5 119 true D cy Bd xa [.ref (xd 0 0)] (xC cy xd sX aX uG es ea sT aT tT pT qT ma sL aL tL pL qL sK aK tK pK qK sH rH uH) (some (.int out)) (xC cy xd sX aX uG es ea sT aT tT pT qT ma sL aL tL pL qL sK aK tK pK qK sH rH uH) := by
  refine kc_start (own := RX6) (by decide +kernel) rfl (Nat.le_of_ble_eq_true rfl) ?_
  intro p e s m args below meth c A C
  unfold f_X6_worst at hf
  refine tt_locs (L' := [(0, .ref (xd 0 0))]) [0] rfl ?_
  refine tt_iconst (pc := 0) (v := (0 : Int32)) C dX6_worst_0 (by decide) ?_
  refine tt_istore_n (pc := 1) (L' := [(1, .int (0 : Int32)), (0, .ref (xd 0 0))]) C dX6_worst_1 rfl (by decide) rfl ?_
  refine tt_bipush (pc := 2) (v := (-9 : Int32)) C dX6_worst_2 (by decide) ?_
  refine tt_istore_n (pc := 4) (L' := [(2, .int (-9 : Int32)), (1, .int (0 : Int32)), (0, .ref (xd 0 0))]) C dX6_worst_4 rfl (by decide) rfl ?_
  refine tt_iconst (pc := 5) (v := (0 : Int32)) C dX6_worst_5 (by decide) ?_
  refine tt_istore_n (pc := 6) (L' := [(3, .int (0 : Int32)), (2, .int (-9 : Int32)), (1, .int (0 : Int32)), (0, .ref (xd 0 0))]) C dX6_worst_6 rfl (by decide) rfl ?_
  refine tt_locs (L' := [(0, .ref (xd 0 0)), (1, .int (0 : Int32)), (2, .int (-9 : Int32)), (3, .int (0 : Int32))]) [3, 2, 1, 0] rfl (l_X6_worst_7 C (fun x2_7 hf => ?_) hf)
  refine tt_iload_n (pc := 95) (k := 0) C dX6_worst_95 rfl rfl ?_
  obtain rfl := Option.some.inj hf
  exact tt_ireturn (pc := 96) C rfl rfl rfl dX6_worst_96
theorem dX6_slowest_0 : decode cX6_slowest 0 = .ok (.aload_n 0, 1) := by decide +kernel
theorem dX6_slowest_1 : decode cX6_slowest 1 = .ok (.getfield 10, 3) := by decide +kernel
theorem dX6_slowest_4 : decode cX6_slowest 4 = .ok (.iload_n 1, 1) := by decide +kernel
theorem dX6_slowest_5 : decode cX6_slowest 5 = .ok (.invokevirtual 129, 3) := by decide +kernel
theorem dX6_slowest_8 : decode cX6_slowest 8 = .ok (.ifCond .eq 14, 3) := by decide +kernel
theorem dX6_slowest_11 : decode cX6_slowest 11 = .ok (.aload_n 0, 1) := by decide +kernel
theorem dX6_slowest_12 : decode cX6_slowest 12 = .ok (.getfield 10, 3) := by decide +kernel
theorem dX6_slowest_15 : decode cX6_slowest 15 = .ok (.iload_n 2, 1) := by decide +kernel
theorem dX6_slowest_16 : decode cX6_slowest 16 = .ok (.invokevirtual 120, 3) := by decide +kernel
theorem dX6_slowest_19 : decode cX6_slowest 19 = .ok (.ifCond .ne 9, 3) := by decide +kernel
theorem dX6_slowest_22 : decode cX6_slowest 22 = .ok (.aload_n 0, 1) := by decide +kernel
theorem dX6_slowest_23 : decode cX6_slowest 23 = .ok (.iconst (-1), 1) := by decide +kernel
theorem dX6_slowest_24 : decode cX6_slowest 24 = .ok (.invokevirtual 87, 3) := by decide +kernel
theorem dX6_slowest_27 : decode cX6_slowest 27 = .ok (.ireturn, 1) := by decide +kernel
theorem dX6_slowest_28 : decode cX6_slowest 28 = .ok (.aload_n 0, 1) := by decide +kernel
theorem dX6_slowest_29 : decode cX6_slowest 29 = .ok (.getfield 49, 3) := by decide +kernel
theorem dX6_slowest_32 : decode cX6_slowest 32 = .ok (.aload_n 0, 1) := by decide +kernel
theorem dX6_slowest_33 : decode cX6_slowest 33 = .ok (.getfield 10, 3) := by decide +kernel
theorem dX6_slowest_36 : decode cX6_slowest 36 = .ok (.getfield 132, 3) := by decide +kernel
theorem dX6_slowest_39 : decode cX6_slowest 39 = .ok (.iload_n 1, 1) := by decide +kernel
theorem dX6_slowest_40 : decode cX6_slowest 40 = .ok (.aaload, 1) := by decide +kernel
theorem dX6_slowest_41 : decode cX6_slowest 41 = .ok (.invokevirtual 207, 3) := by decide +kernel
theorem dX6_slowest_44 : decode cX6_slowest 44 = .ok (.iconst 1, 1) := by decide +kernel
theorem dX6_slowest_45 : decode cX6_slowest 45 = .ok (.istore_n 3, 1) := by decide +kernel
theorem dX6_slowest_46 : decode cX6_slowest 46 = .ok (.iload_n 3, 1) := by decide +kernel
theorem dX6_slowest_47 : decode cX6_slowest 47 = .ok (.bipush 9, 2) := by decide +kernel
theorem dX6_slowest_49 : decode cX6_slowest 49 = .ok (.if_icmp .gt 48, 3) := by decide +kernel
theorem dX6_slowest_52 : decode cX6_slowest 52 = .ok (.aload_n 0, 1) := by decide +kernel
theorem dX6_slowest_53 : decode cX6_slowest 53 = .ok (.getfield 49, 3) := by decide +kernel
theorem dX6_slowest_56 : decode cX6_slowest 56 = .ok (.iload_n 3, 1) := by decide +kernel
theorem dX6_slowest_57 : decode cX6_slowest 57 = .ok (.putfield 142, 3) := by decide +kernel
theorem dX6_slowest_60 : decode cX6_slowest 60 = .ok (.aload_n 0, 1) := by decide +kernel
theorem dX6_slowest_61 : decode cX6_slowest 61 = .ok (.getfield 10, 3) := by decide +kernel
theorem dX6_slowest_64 : decode cX6_slowest 64 = .ok (.aload_n 0, 1) := by decide +kernel
theorem dX6_slowest_65 : decode cX6_slowest 65 = .ok (.getfield 49, 3) := by decide +kernel
theorem dX6_slowest_68 : decode cX6_slowest 68 = .ok (.iload_n 2, 1) := by decide +kernel
theorem dX6_slowest_69 : decode cX6_slowest 69 = .ok (.aload_n 0, 1) := by decide +kernel
theorem dX6_slowest_70 : decode cX6_slowest 70 = .ok (.getfield 10, 3) := by decide +kernel
theorem dX6_slowest_73 : decode cX6_slowest 73 = .ok (.invokevirtual 157, 3) := by decide +kernel
theorem dX6_slowest_76 : decode cX6_slowest 76 = .ok (.invokevirtual 180, 3) := by decide +kernel
theorem dX6_slowest_79 : decode cX6_slowest 79 = .ok (.aload_n 0, 1) := by decide +kernel
theorem dX6_slowest_80 : decode cX6_slowest 80 = .ok (.getfield 10, 3) := by decide +kernel
theorem dX6_slowest_83 : decode cX6_slowest 83 = .ok (.getfield 211, 3) := by decide +kernel
theorem dX6_slowest_86 : decode cX6_slowest 86 = .ok (.if_icmp .lt 5, 3) := by decide +kernel
theorem dX6_slowest_89 : decode cX6_slowest 89 = .ok (.iload_n 3, 1) := by decide +kernel
theorem dX6_slowest_90 : decode cX6_slowest 90 = .ok (.ireturn, 1) := by decide +kernel
theorem dX6_slowest_91 : decode cX6_slowest 91 = .ok (.iinc 3 1, 3) := by decide +kernel
theorem dX6_slowest_94 : decode cX6_slowest 94 = .ok (.goto (-48), 3) := by decide +kernel
theorem dX6_slowest_97 : decode cX6_slowest 97 = .ok (.bipush (-9), 2) := by decide +kernel
theorem dX6_slowest_99 : decode cX6_slowest 99 = .ok (.ireturn, 1) := by decide +kernel
set_option maxHeartbeats 4000000 in
set_option maxRecDepth 100000 in
theorem l_X6_slowest_46 {p : Program} {l : Launch} {e : Env} {s : State} {m : MethodId} {args : Array Value} {below : List Frame} {meth : Method} {c : Code} {D : va_G} {cy : Nat → ClassId} {A : Nat → Prop} {Bd : Nat} {xa : Xa} {xd : Nat → Nat → Nat} {N : Nat} {aX : Nat → Nat → Int32} {sL : Nat → Int32} {aL : Nat → Nat → Int32} {tL : Nat → Nat → Int32} {sX : Nat → Int32} {es : Nat → Int32} {ea : Nat → Nat → Int32} {sT : Nat → Int32} {aT : Nat → Nat → Int32} {tT : Nat → Nat → Int32} {pT : Nat → Int32} {qT : Nat → Nat → Int32} {ma : Nat → Nat → Int32} {pL : Nat → Int32} {qL : Nat → Nat → Int32} {sK : Nat → Int32} {aK : Nat → Nat → Int32} {tK : Nat → Nat → Int32} {pK : Nat → Int32} {qK : Nat → Nat → Int32} {sH : Nat → Nat → Int32} {rH : Nat → Nat → Int64} {uH : Nat → Nat → Int32} {v2 : Int32} {kx : (Nat → Int32) → Option (Int32 × (Nat → Nat → Int32) × (Nat → Int32))} {out : Int32 × (Nat → Nat → Int32) × (Nat → Int32)} (C : CC p s m args meth c cX6_slowest RX6 4 (some .int) D cy A false Bd xa) (hk : ∀ (uG1 : Nat → Int32), kx uG1 = some out → TT p l e { frames := 5, cells := 0, slots := 0, locals := 119 } s m args below meth c 4 D A false (some (.int out.1)) (xC cy xd sX out.2.1 out.2.2 es ea sT aT tT pT qT ma sL aL tL pL qL sK aK tK pK qK sH rH uH) 97 [] [] (xC cy xd sX aX uG1 es ea sT aT tT pT qT ma sL aL tL pL qL sK aK tK pK qK sH rH uH)) {n : Nat} {v3 : Int32} {uG : Nat → Int32} (hf : f_X6_slowest_L46 N aX sL aL tL v2 kx n v3 uG = some out) : TT p l e { frames := 5, cells := 0, slots := 0, locals := 119 } s m args below meth c 4 D A false (some (.int out.1)) (xC cy xd sX out.2.1 out.2.2 es ea sT aT tT pT qT ma sL aL tL pL qL sK aK tK pK qK sH rH uH) 46 [(0, .ref (xd 0 0)), (2, .int v2), (3, .int v3)] [] (xC cy xd sX aX uG es ea sT aT tT pT qT ma sL aL tL pL qL sK aK tK pK qK sH rH uH) := by
  induction n generalizing v3 uG with
  | zero => cases hf
  | succ n ih =>
    rw [f_X6_slowest_L46] at hf
    refine tt_iload_n (pc := 46) (k := 2) C dX6_slowest_46 rfl rfl ?_
    refine tt_bipush (pc := 47) (v := (9 : Int32)) C dX6_slowest_47 (by decide) ?_
    refine tt_icmp_gt (pc := 49) (tgt := 97) C dX6_slowest_49 (by decide) hf (fun hf => ?_) (fun hf => ?_)
    · exact tt_locs [] rfl (hk _ hf)
    · refine tt_aload_n (pc := 52) (k := 0) C dX6_slowest_52 rfl rfl ?_
      refine tt_get (pc := 53) (ws := (xC cy xd sX aX uG es ea sT aT tT pT qT ma sL aL tL pL qL sK aK tK pK qK sH rH uH)) (ci := 6) (v := .ref (xd 0 7)) C fiX6 rfl 0 xC_obj 7 (by decide) q1_226 rfl dX6_slowest_53 ?_
      refine tt_iload_n (pc := 56) (k := 2) C dX6_slowest_56 rfl rfl ?_
      refine tt_put (pc := 57) (ws := (xC cy xd sX aX uG es ea sT aT tT pT qT ma sL aL tL pL qL sK aK tK pK qK sH rH uH)) (ci := 5) (ty := .int) (ws' := (xC cy xd sX aX (upd uG 2 v3) es ea sT aT tT pT qT ma sL aL tL pL qL sK aK tK pK qK sH rH uH)) C rfl fiX5 rfl 2 xC_gget 2 (by decide) q1_68 rfl rfl rfl rfl (Nat.le_of_ble_eq_true rfl) dX6_slowest_57 (xC_gput (u := (upd uG 2 v3))) ?_
      refine tt_aload_n (pc := 60) (k := 0) C dX6_slowest_60 rfl rfl ?_
      refine tt_get (pc := 61) (ws := (xC cy xd sX aX (upd uG 2 v3) es ea sT aT tT pT qT ma sL aL tL pL qL sK aK tK pK qK sH rH uH)) (ci := 6) (v := .ref ((xd 1) 0)) C fiX6 rfl 0 xC_obj 0 (by decide) q1_219 rfl dX6_slowest_61 ?_
      refine tt_aload_n (pc := 64) (k := 0) C dX6_slowest_64 rfl rfl ?_
      refine tt_get (pc := 65) (ws := (xC cy xd sX aX (upd uG 2 v3) es ea sT aT tT pT qT ma sL aL tL pL qL sK aK tK pK qK sH rH uH)) (ci := 6) (v := .ref (xd 0 7)) C fiX6 rfl 0 xC_obj 7 (by decide) q1_226 rfl dX6_slowest_65 ?_
      refine tt_iload_n (pc := 68) (k := 1) C dX6_slowest_68 rfl rfl ?_
      refine tt_aload_n (pc := 69) (k := 0) C dX6_slowest_69 rfl rfl ?_
      refine tt_get (pc := 70) (ws := (xC cy xd sX aX (upd uG 2 v3) es ea sT aT tT pT qT ma sL aL tL pL qL sK aK tK pK qK sH rH uH)) (ci := 6) (v := .ref ((xd 1) 0)) C fiX6 rfl 0 xC_obj 0 (by decide) q1_219 rfl dX6_slowest_70 ?_
      obtain ⟨r6, hr6, hf⟩ := bind_some hf
      refine tt_callR (pc := 73) (ws := (xC cy xd sX aX (upd uG 2 v3) es ea sT aT tT pT qT ma sL aL tL pL qL sK aK tK pK qK sH rH uH)) (q0 := 28) (ci := 1) (rest := [.int v2, .ref (xd 0 7), .ref ((xd 1) 0)]) (st' := [.int r6, .int v2, .ref (xd 0 7), .ref ((xd 1) 0)]) C (k_X1_allBridges hr6) okX1_allBridges q3_60 rfl rfl xC_subL rfl rfl rfl (Nat.le_of_ble_eq_true rfl) ⟨Nat.le_of_ble_eq_true rfl, Nat.le_of_ble_eq_true rfl⟩ dX6_slowest_73 ?_
      obtain ⟨r7, hr7, hf⟩ := bind_some hf
      refine tt_callR (pc := 76) (ws := (xC cy xd sX aX (upd uG 2 v3) es ea sT aT tT pT qT ma sL aL tL pL qL sK aK tK pK qK sH rH uH)) (q0 := 28) (ci := 1) (rest := []) (st' := [.int r7]) C (k_X1_warningOf hr7) okX1_warningOf q3_120 rfl rfl (sub_c xC_memG xC_subL) rfl rfl rfl (Nat.le_of_ble_eq_true rfl) ⟨Nat.le_of_ble_eq_true rfl, Nat.le_of_ble_eq_true rfl⟩ dX6_slowest_76 ?_
      refine tt_aload_n (pc := 79) (k := 0) C dX6_slowest_79 rfl rfl ?_
      refine tt_get (pc := 80) (ws := (xC cy xd sX aX (upd uG 2 v3) es ea sT aT tT pT qT ma sL aL tL pL qL sK aK tK pK qK sH rH uH)) (ci := 6) (v := .ref ((xd 1) 0)) C fiX6 rfl 0 xC_obj 0 (by decide) q1_219 rfl dX6_slowest_80 ?_
      refine tt_get (pc := 83) (ws := (xC cy xd sX aX (upd uG 2 v3) es ea sT aT tT pT qT ma sL aL tL pL qL sK aK tK pK qK sH rH uH)) (ci := 1) (v := .int (sL 11)) C fiX1 rfl 28 rfl 11 (by decide) q1_109 rfl dX6_slowest_83 ?_
      refine tt_icmp_lt (pc := 86) (tgt := 91) C dX6_slowest_86 (by decide) hf (fun hf => ?_) (fun hf => ?_)
      · refine tt_iinc (pc := 91) (k := 2) (v := (v3 + 1)) (L' := [(3, .int (v3 + 1)), (0, .ref (xd 0 0)), (2, .int v2)]) C dX6_slowest_91 rfl rfl (by decide) rfl ?_
        refine tt_goto (pc := 94) (tgt := 46) C dX6_slowest_94 (by decide) ?_
        exact tt_locs [1, 2, 0] rfl (ih hf)
      · refine tt_iload_n (pc := 89) (k := 2) C dX6_slowest_89 rfl rfl ?_
        obtain rfl := Option.some.inj hf
        exact tt_ireturn (pc := 90) C rfl rfl rfl dX6_slowest_90
set_option maxHeartbeats 4000000 in
set_option maxRecDepth 100000 in
theorem k_X6_slowest {l : Launch} {D : va_G} {cy : Nat → ClassId} {Bd : Nat} {xa : Xa} {xd : Nat → Nat → Nat} {N : Nat} {sX : Nat → Int32} {aX : Nat → Nat → Int32} {uG : Nat → Int32} {es : Nat → Int32} {ea : Nat → Nat → Int32} {sT : Nat → Int32} {aT : Nat → Nat → Int32} {tT : Nat → Nat → Int32} {pT : Nat → Int32} {qT : Nat → Nat → Int32} {ma : Nat → Nat → Int32} {sL : Nat → Int32} {aL : Nat → Nat → Int32} {tL : Nat → Nat → Int32} {pL : Nat → Int32} {qL : Nat → Nat → Int32} {sK : Nat → Int32} {aK : Nat → Nat → Int32} {tK : Nat → Nat → Int32} {pK : Nat → Int32} {qK : Nat → Nat → Int32} {sH : Nat → Nat → Int32} {rH : Nat → Nat → Int64} {uH : Nat → Nat → Int32} {a1 : Int32} {a2 : Int32} {out : Int32 × (Nat → Nat → Int32) × (Nat → Int32)} (hf : f_X6_slowest N aX uG sL aL tL a1 a2 = some out) : KC l yX6_slowest cX6_slowest 4 (some .int) 5 119 false D cy Bd xa [.ref (xd 0 0), .int a1, .int a2] (xC cy xd sX aX uG es ea sT aT tT pT qT ma sL aL tL pL qL sK aK tK pK qK sH rH uH) (some (.int out.1)) (xC cy xd sX out.2.1 out.2.2 es ea sT aT tT pT qT ma sL aL tL pL qL sK aK tK pK qK sH rH uH) := by
  refine kc_start (own := RX6) (by decide +kernel) rfl (Nat.le_of_ble_eq_true rfl) ?_
  intro p e s m args below meth c A C
  unfold f_X6_slowest at hf
  refine tt_locs (L' := [(0, .ref (xd 0 0)), (1, .int a1), (2, .int a2)]) [0, 1, 2] rfl ?_
  refine tt_aload_n (pc := 0) (k := 0) C dX6_slowest_0 rfl rfl ?_
  refine tt_get (pc := 1) (ws := (xC cy xd sX aX uG es ea sT aT tT pT qT ma sL aL tL pL qL sK aK tK pK qK sH rH uH)) (ci := 6) (v := .ref ((xd 1) 0)) C fiX6 rfl 0 xC_obj 0 (by decide) q1_219 rfl dX6_slowest_1 ?_
  refine tt_iload_n (pc := 4) (k := 1) C dX6_slowest_4 rfl rfl ?_
  obtain ⟨r1, hr1, hf⟩ := bind_some hf
  refine tt_callR (pc := 5) (ws := (xC cy xd sX aX uG es ea sT aT tT pT qT ma sL aL tL pL qL sK aK tK pK qK sH rH uH)) (q0 := 28) (ci := 1) (rest := []) (st' := [.int r1]) C (k_X1_hasTrain hr1) okX1_hasTrain q3_43 rfl rfl xC_subL rfl rfl rfl (Nat.le_of_ble_eq_true rfl) ⟨Nat.le_of_ble_eq_true rfl, Nat.le_of_ble_eq_true rfl⟩ dX6_slowest_5 ?_
  refine tt_if_eq (pc := 8) (tgt := 22) C dX6_slowest_8 (by decide) hf (fun hf => ?_) (fun hf => ?_)
  · refine tt_aload_n (pc := 22) (k := 0) C dX6_slowest_22 rfl rfl ?_
    refine tt_iconst (pc := 23) (v := (-1 : Int32)) C dX6_slowest_23 (by decide) ?_
    obtain ⟨r2, hr2, hf⟩ := bind_some hf
    refine tt_callM (pc := 24) (ws := (xC cy xd sX aX uG es ea sT aT tT pT qT ma sL aL tL pL qL sK aK tK pK qK sH rH uH)) (q0 := 0) (ci := 6) (rest := []) (st' := [.int r2.1]) C rfl (k_X6_refused hr2) okX6_refused q2_19 rfl xC_obj rfl rfl rfl (Nat.le_of_ble_eq_true rfl) ⟨Nat.le_of_ble_eq_true rfl, Nat.le_of_ble_eq_true rfl⟩ dX6_slowest_24 ?_
    obtain rfl := Option.some.inj hf
    exact tt_ireturn (pc := 27) C rfl rfl rfl dX6_slowest_27
  · refine tt_aload_n (pc := 11) (k := 0) C dX6_slowest_11 rfl rfl ?_
    refine tt_get (pc := 12) (ws := (xC cy xd sX aX uG es ea sT aT tT pT qT ma sL aL tL pL qL sK aK tK pK qK sH rH uH)) (ci := 6) (v := .ref ((xd 1) 0)) C fiX6 rfl 0 xC_obj 0 (by decide) q1_219 rfl dX6_slowest_12 ?_
    refine tt_iload_n (pc := 15) (k := 2) C dX6_slowest_15 rfl rfl ?_
    obtain ⟨r3, hr3, hf⟩ := bind_some hf
    refine tt_callR (pc := 16) (ws := (xC cy xd sX aX uG es ea sT aT tT pT qT ma sL aL tL pL qL sK aK tK pK qK sH rH uH)) (q0 := 28) (ci := 1) (rest := []) (st' := [.int r3]) C (k_X1_hasPost hr3) okX1_hasPost q3_38 rfl rfl xC_subL rfl rfl rfl (Nat.le_of_ble_eq_true rfl) ⟨Nat.le_of_ble_eq_true rfl, Nat.le_of_ble_eq_true rfl⟩ dX6_slowest_16 ?_
    refine tt_if_ne (pc := 19) (tgt := 28) C dX6_slowest_19 (by decide) hf (fun hf => ?_) (fun hf => ?_)
    · refine tt_aload_n (pc := 28) (k := 0) C dX6_slowest_28 rfl rfl ?_
      refine tt_get (pc := 29) (ws := (xC cy xd sX aX uG es ea sT aT tT pT qT ma sL aL tL pL qL sK aK tK pK qK sH rH uH)) (ci := 6) (v := .ref (xd 0 7)) C fiX6 rfl 0 xC_obj 7 (by decide) q1_226 rfl dX6_slowest_29 ?_
      refine tt_aload_n (pc := 32) (k := 0) C dX6_slowest_32 rfl rfl ?_
      refine tt_get (pc := 33) (ws := (xC cy xd sX aX uG es ea sT aT tT pT qT ma sL aL tL pL qL sK aK tK pK qK sH rH uH)) (ci := 6) (v := .ref ((xd 1) 0)) C fiX6 rfl 0 xC_obj 0 (by decide) q1_219 rfl dX6_slowest_33 ?_
      refine tt_get (pc := 36) (ws := (xC cy xd sX aX uG es ea sT aT tT pT qT ma sL aL tL pL qL sK aK tK pK qK sH rH uH)) (ci := 1) (v := .ref ((xd 1) 10)) C fiX1 rfl 28 rfl 10 (by decide) q1_107 rfl dX6_slowest_36 ?_
      refine tt_iload_n (pc := 39) (k := 1) C dX6_slowest_39 rfl rfl ?_
      refine tt_aaload (pc := 40) (ws := (xC cy xd sX aX uG es ea sT aT tT pT qT ma sL aL tL pL qL sK aK tK pK qK sH rH uH)) (n := 4) (r := (fun j => (xd 1) (40 + j))) C 35 4 rfl rfl hf (fun _ _ => rfl) dX6_slowest_40 (fun hf hlt4 => ?_)
      obtain ⟨r5, hr5, hf⟩ := bind_some hf
      refine tt_perm (xs_GT hlt4) ?_
      refine tt_callG (pc := 41) (q0 := 0) (ci := 5) (rest := []) (st' := []) C rfl (k_X5_copyFrom hr5) okX5_copyFrom q3_198 rfl rfl [] _ rfl rfl rfl rfl rfl (Nat.le_of_ble_eq_true rfl) ⟨Nat.le_of_ble_eq_true rfl, Nat.le_of_ble_eq_true rfl⟩ dX6_slowest_41 ?_
      refine tt_perm (ws2 := (xC cy xd sX aX r5 es ea sT aT tT pT qT ma sL aL tL pL qL sK aK tK pK qK sH rH uH)) (xs_GT2 hlt4) ?_
      refine tt_iconst (pc := 44) (v := (1 : Int32)) C dX6_slowest_44 (by decide) ?_
      refine tt_istore_n (pc := 45) (L' := [(3, .int (1 : Int32)), (0, .ref (xd 0 0)), (1, .int a1), (2, .int a2)]) C dX6_slowest_45 rfl (by decide) rfl ?_
      refine tt_locs (L' := [(0, .ref (xd 0 0)), (2, .int a2), (3, .int (1 : Int32))]) [1, 3, 0] rfl (l_X6_slowest_46 C (fun t8 hf => ?_) hf)
      refine tt_bipush (pc := 97) (v := (-9 : Int32)) C dX6_slowest_97 (by decide) ?_
      obtain rfl := Option.some.inj hf
      exact tt_ireturn (pc := 99) C rfl rfl rfl dX6_slowest_99
    · refine tt_aload_n (pc := 22) (k := 0) C dX6_slowest_22 rfl rfl ?_
      refine tt_iconst (pc := 23) (v := (-1 : Int32)) C dX6_slowest_23 (by decide) ?_
      obtain ⟨r9, hr9, hf⟩ := bind_some hf
      refine tt_callM (pc := 24) (ws := (xC cy xd sX aX uG es ea sT aT tT pT qT ma sL aL tL pL qL sK aK tK pK qK sH rH uH)) (q0 := 0) (ci := 6) (rest := []) (st' := [.int r9.1]) C rfl (k_X6_refused hr9) okX6_refused q2_19 rfl xC_obj rfl rfl rfl (Nat.le_of_ble_eq_true rfl) ⟨Nat.le_of_ble_eq_true rfl, Nat.le_of_ble_eq_true rfl⟩ dX6_slowest_24 ?_
      obtain rfl := Option.some.inj hf
      exact tt_ireturn (pc := 27) C rfl rfl rfl dX6_slowest_27
