theorem dX6_shelf_0 : decode cX6_shelf 0 = .ok (.iload_n 1, 1) := by decide +kernel
theorem dX6_shelf_1 : decode cX6_shelf 1 = .ok (.invokestatic 270, 3) := by decide +kernel
theorem dX6_shelf_4 : decode cX6_shelf 4 = .ok (.ifCond .ne 9, 3) := by decide +kernel
theorem dX6_shelf_7 : decode cX6_shelf 7 = .ok (.aload_n 0, 1) := by decide +kernel
theorem dX6_shelf_8 : decode cX6_shelf 8 = .ok (.iconst (-1), 1) := by decide +kernel
theorem dX6_shelf_9 : decode cX6_shelf 9 = .ok (.invokevirtual 87, 3) := by decide +kernel
theorem dX6_shelf_12 : decode cX6_shelf 12 = .ok (.ireturn, 1) := by decide +kernel
theorem dX6_shelf_13 : decode cX6_shelf 13 = .ok (.iload_n 2, 1) := by decide +kernel
theorem dX6_shelf_14 : decode cX6_shelf 14 = .ok (.iconst (-1), 1) := by decide +kernel
theorem dX6_shelf_15 : decode cX6_shelf 15 = .ok (.if_icmp .eq 19, 3) := by decide +kernel
theorem dX6_shelf_18 : decode cX6_shelf 18 = .ok (.iload_n 2, 1) := by decide +kernel
theorem dX6_shelf_19 : decode cX6_shelf 19 = .ok (.ifCond .eq 15, 3) := by decide +kernel
theorem dX6_shelf_22 : decode cX6_shelf 22 = .ok (.iload_n 2, 1) := by decide +kernel
theorem dX6_shelf_23 : decode cX6_shelf 23 = .ok (.iconst 1, 1) := by decide +kernel
theorem dX6_shelf_24 : decode cX6_shelf 24 = .ok (.if_icmp .eq 10, 3) := by decide +kernel
theorem dX6_shelf_27 : decode cX6_shelf 27 = .ok (.aload_n 0, 1) := by decide +kernel
theorem dX6_shelf_28 : decode cX6_shelf 28 = .ok (.bipush (-2), 2) := by decide +kernel
theorem dX6_shelf_30 : decode cX6_shelf 30 = .ok (.invokevirtual 87, 3) := by decide +kernel
theorem dX6_shelf_33 : decode cX6_shelf 33 = .ok (.ireturn, 1) := by decide +kernel
theorem dX6_shelf_34 : decode cX6_shelf 34 = .ok (.iload_n 2, 1) := by decide +kernel
theorem dX6_shelf_35 : decode cX6_shelf 35 = .ok (.iconst (-1), 1) := by decide +kernel
theorem dX6_shelf_36 : decode cX6_shelf 36 = .ok (.if_icmp .ne 16, 3) := by decide +kernel
theorem dX6_shelf_39 : decode cX6_shelf 39 = .ok (.aload_n 0, 1) := by decide +kernel
theorem dX6_shelf_40 : decode cX6_shelf 40 = .ok (.getfield 35, 3) := by decide +kernel
theorem dX6_shelf_43 : decode cX6_shelf 43 = .ok (.iload_n 1, 1) := by decide +kernel
theorem dX6_shelf_44 : decode cX6_shelf 44 = .ok (.aaload, 1) := by decide +kernel
theorem dX6_shelf_45 : decode cX6_shelf 45 = .ok (.iload_n 2, 1) := by decide +kernel
theorem dX6_shelf_46 : decode cX6_shelf 46 = .ok (.iconst 0, 1) := by decide +kernel
theorem dX6_shelf_47 : decode cX6_shelf 47 = .ok (.invokevirtual 273, 3) := by decide +kernel
theorem dX6_shelf_50 : decode cX6_shelf 50 = .ok (.iconst 1, 1) := by decide +kernel
theorem dX6_shelf_51 : decode cX6_shelf 51 = .ok (.ireturn, 1) := by decide +kernel
theorem dX6_shelf_52 : decode cX6_shelf 52 = .ok (.iload_n 3, 1) := by decide +kernel
theorem dX6_shelf_53 : decode cX6_shelf 53 = .ok (.bipush 20, 2) := by decide +kernel
theorem dX6_shelf_55 : decode cX6_shelf 55 = .ok (.if_icmp .le 10, 3) := by decide +kernel
theorem dX6_shelf_58 : decode cX6_shelf 58 = .ok (.aload_n 0, 1) := by decide +kernel
theorem dX6_shelf_59 : decode cX6_shelf 59 = .ok (.bipush (-6), 2) := by decide +kernel
theorem dX6_shelf_61 : decode cX6_shelf 61 = .ok (.invokevirtual 87, 3) := by decide +kernel
theorem dX6_shelf_64 : decode cX6_shelf 64 = .ok (.ireturn, 1) := by decide +kernel
theorem dX6_shelf_65 : decode cX6_shelf 65 = .ok (.iload_n 3, 1) := by decide +kernel
theorem dX6_shelf_66 : decode cX6_shelf 66 = .ok (.ifCond .ge 6, 3) := by decide +kernel
theorem dX6_shelf_69 : decode cX6_shelf 69 = .ok (.bipush (-14), 2) := by decide +kernel
theorem dX6_shelf_71 : decode cX6_shelf 71 = .ok (.ireturn, 1) := by decide +kernel
theorem dX6_shelf_72 : decode cX6_shelf 72 = .ok (.aload_n 0, 1) := by decide +kernel
theorem dX6_shelf_73 : decode cX6_shelf 73 = .ok (.getfield 35, 3) := by decide +kernel
theorem dX6_shelf_76 : decode cX6_shelf 76 = .ok (.iload_n 1, 1) := by decide +kernel
theorem dX6_shelf_77 : decode cX6_shelf 77 = .ok (.aaload, 1) := by decide +kernel
theorem dX6_shelf_78 : decode cX6_shelf 78 = .ok (.iload_n 2, 1) := by decide +kernel
theorem dX6_shelf_79 : decode cX6_shelf 79 = .ok (.iload_n 3, 1) := by decide +kernel
theorem dX6_shelf_80 : decode cX6_shelf 80 = .ok (.invokevirtual 273, 3) := by decide +kernel
theorem dX6_shelf_83 : decode cX6_shelf 83 = .ok (.iconst 1, 1) := by decide +kernel
theorem dX6_shelf_84 : decode cX6_shelf 84 = .ok (.ireturn, 1) := by decide +kernel
set_option maxHeartbeats 4000000 in
set_option maxRecDepth 100000 in
theorem k_X6_shelf {l : Launch} {D : va_G} {cy : Nat → ClassId} {Bd : Nat} {xa : Xa} {xd : Nat → Nat → Nat} {N : Nat} {sX : Nat → Int32} {aX : Nat → Nat → Int32} {uG : Nat → Int32} {es : Nat → Int32} {ea : Nat → Nat → Int32} {sT : Nat → Int32} {aT : Nat → Nat → Int32} {tT : Nat → Nat → Int32} {pT : Nat → Int32} {qT : Nat → Nat → Int32} {ma : Nat → Nat → Int32} {sL : Nat → Int32} {aL : Nat → Nat → Int32} {tL : Nat → Nat → Int32} {pL : Nat → Int32} {qL : Nat → Nat → Int32} {sK : Nat → Int32} {aK : Nat → Nat → Int32} {tK : Nat → Nat → Int32} {pK : Nat → Int32} {qK : Nat → Nat → Int32} {sH : Nat → Nat → Int32} {rH : Nat → Nat → Int64} {uH : Nat → Nat → Int32} {a1 : Int32} {a2 : Int32} {a3 : Int32} {out : Int32 × (Nat → Nat → Int32) × (Nat → Nat → Int32) × (Nat → Nat → Int64)} (hf : f_X6_shelf N aX sH rH a1 a2 a3 = some out) : KC l yX6_shelf cX6_shelf 4 (some .int) 1 23 false D cy Bd xa [.ref (xd 0 0), .int a1, .int a2, .int a3] (xC cy xd sX aX uG es ea sT aT tT pT qT ma sL aL tL pL qL sK aK tK pK qK sH rH uH) (some (.int out.1)) (xC cy xd sX out.2.1 uG es ea sT aT tT pT qT ma sL aL tL pL qL sK aK tK pK qK out.2.2.1 out.2.2.2 uH) := by
  refine kc_start (own := RX6) (by decide +kernel) rfl (Nat.le_of_ble_eq_true rfl) ?_
  intro p e s m args below meth c A C
  unfold f_X6_shelf at hf
  refine tt_locs (L' := [(0, .ref (xd 0 0)), (1, .int a1), (2, .int a2), (3, .int a3)]) [0, 1, 2, 3] rfl ?_
  refine tt_iload_n (pc := 0) (k := 1) C dX6_shelf_0 rfl rfl ?_
  obtain ⟨r1, hr1, hf⟩ := bind_some hf
  refine tt_callS (pc := 1) (ws := (xC cy xd sX aX uG es ea sT aT tT pT qT ma sL aL tL pL qL sK aK tK pK qK sH rH uH)) (rest := []) (st' := [.int r1]) C (k_X6_hasShelf hr1) okX6_hasShelf q4_65 (fun _ h => absurd h List.not_mem_nil) rfl rfl rfl (Nat.le_of_ble_eq_true rfl) ⟨Nat.le_of_ble_eq_true rfl, Nat.le_of_ble_eq_true rfl⟩ dX6_shelf_1 ?_
  refine tt_if_ne (pc := 4) (tgt := 13) C dX6_shelf_4 (by decide) hf (fun hf => ?_) (fun hf => ?_)
  · refine tt_iload_n (pc := 13) (k := 2) C dX6_shelf_13 rfl rfl ?_
    refine tt_iconst (pc := 14) (v := (-1 : Int32)) C dX6_shelf_14 (by decide) ?_
    refine tt_icmp_eq (pc := 15) (tgt := 34) C dX6_shelf_15 (by decide) hf (fun hf => ?_) (fun hf => ?_)
    · refine tt_iload_n (pc := 34) (k := 2) C dX6_shelf_34 rfl rfl ?_
      refine tt_iconst (pc := 35) (v := (-1 : Int32)) C dX6_shelf_35 (by decide) ?_
      refine tt_icmp_ne (pc := 36) (tgt := 52) C dX6_shelf_36 (by decide) hf (fun hf => ?_) (fun hf => ?_)
      · refine tt_iload_n (pc := 52) (k := 3) C dX6_shelf_52 rfl rfl ?_
        refine tt_bipush (pc := 53) (v := (20 : Int32)) C dX6_shelf_53 (by decide) ?_
        refine tt_icmp_le (pc := 55) (tgt := 65) C dX6_shelf_55 (by decide) hf (fun hf => ?_) (fun hf => ?_)
        · refine tt_iload_n (pc := 65) (k := 3) C dX6_shelf_65 rfl rfl ?_
          refine tt_if_ge (pc := 66) (tgt := 72) C dX6_shelf_66 (by decide) hf (fun hf => ?_) (fun hf => ?_)
          · refine tt_aload_n (pc := 72) (k := 0) C dX6_shelf_72 rfl rfl ?_
            refine tt_get (pc := 73) (ws := (xC cy xd sX aX uG es ea sT aT tT pT qT ma sL aL tL pL qL sK aK tK pK qK sH rH uH)) (ci := 6) (v := .ref (xd 0 5)) C fiX6 rfl 0 xC_obj 5 (by decide) q1_224 rfl dX6_shelf_73 ?_
            refine tt_iload_n (pc := 76) (k := 1) C dX6_shelf_76 rfl rfl ?_
            refine tt_aaload (pc := 77) (ws := (xC cy xd sX aX uG es ea sT aT tT pT qT ma sL aL tL pL qL sK aK tK pK qK sH rH uH)) (n := 4) (r := (fun j => xd (10 + j) 0)) C 1 5 xC_get5 rfl hf (fun _ _ => rfl) dX6_shelf_77 (fun hf hlt2 => ?_)
            refine tt_iload_n (pc := 78) (k := 2) C dX6_shelf_78 rfl rfl ?_
            refine tt_iload_n (pc := 79) (k := 3) C dX6_shelf_79 rfl rfl ?_
            obtain ⟨r3, hr3, hf⟩ := bind_some hf
            refine tt_callG (pc := 80) (ws := (xC cy xd sX aX uG es ea sT aT tT pT qT ma sL aL tL pL qL sK aK tK pK qK sH rH uH)) (ws' := (xC cy xd sX aX uG es ea sT aT tT pT qT ma sL aL tL pL qL sK aK tK pK qK (va_up sH (ix a1) r3.1) (va_up rH (ix a1) r3.2) uH)) (q0 := (60 + 3 * (ix a1))) (ci := 4) (rest := []) (st' := []) C rfl (k_X4_becomeRow hr3) okX4_becomeRow q4_68 rfl (xC_hget hlt2) _ _ (xs_H hlt2) (xs_H2r hlt2) rfl rfl rfl (Nat.le_of_ble_eq_true rfl) ⟨Nat.le_of_ble_eq_true rfl, Nat.le_of_ble_eq_true rfl⟩ dX6_shelf_80 ?_
            refine tt_iconst (pc := 83) (v := (1 : Int32)) C dX6_shelf_83 (by decide) ?_
            obtain rfl := Option.some.inj hf
            exact tt_ireturn (pc := 84) C rfl rfl rfl dX6_shelf_84
          · refine tt_bipush (pc := 69) (v := (-14 : Int32)) C dX6_shelf_69 (by decide) ?_
            obtain rfl := Option.some.inj hf
            exact tt_ireturn (pc := 71) C rfl rfl rfl dX6_shelf_71
        · refine tt_aload_n (pc := 58) (k := 0) C dX6_shelf_58 rfl rfl ?_
          refine tt_bipush (pc := 59) (v := (-6 : Int32)) C dX6_shelf_59 (by decide) ?_
          obtain ⟨r4, hr4, hf⟩ := bind_some hf
          refine tt_callM (pc := 61) (ws := (xC cy xd sX aX uG es ea sT aT tT pT qT ma sL aL tL pL qL sK aK tK pK qK sH rH uH)) (q0 := 0) (ci := 6) (rest := []) (st' := [.int r4.1]) C rfl (k_X6_refused hr4) okX6_refused q2_19 rfl xC_obj rfl rfl rfl (Nat.le_of_ble_eq_true rfl) ⟨Nat.le_of_ble_eq_true rfl, Nat.le_of_ble_eq_true rfl⟩ dX6_shelf_61 ?_
          obtain rfl := Option.some.inj hf
          exact tt_ireturn (pc := 64) C rfl rfl rfl dX6_shelf_64
      · refine tt_aload_n (pc := 39) (k := 0) C dX6_shelf_39 rfl rfl ?_
        refine tt_get (pc := 40) (ws := (xC cy xd sX aX uG es ea sT aT tT pT qT ma sL aL tL pL qL sK aK tK pK qK sH rH uH)) (ci := 6) (v := .ref (xd 0 5)) C fiX6 rfl 0 xC_obj 5 (by decide) q1_224 rfl dX6_shelf_40 ?_
        refine tt_iload_n (pc := 43) (k := 1) C dX6_shelf_43 rfl rfl ?_
        refine tt_aaload (pc := 44) (ws := (xC cy xd sX aX uG es ea sT aT tT pT qT ma sL aL tL pL qL sK aK tK pK qK sH rH uH)) (n := 4) (r := (fun j => xd (10 + j) 0)) C 1 5 xC_get5 rfl hf (fun _ _ => rfl) dX6_shelf_44 (fun hf hlt5 => ?_)
        refine tt_iload_n (pc := 45) (k := 2) C dX6_shelf_45 rfl rfl ?_
        refine tt_iconst (pc := 46) (v := (0 : Int32)) C dX6_shelf_46 (by decide) ?_
        obtain ⟨r6, hr6, hf⟩ := bind_some hf
        refine tt_callG (pc := 47) (ws := (xC cy xd sX aX uG es ea sT aT tT pT qT ma sL aL tL pL qL sK aK tK pK qK sH rH uH)) (ws' := (xC cy xd sX aX uG es ea sT aT tT pT qT ma sL aL tL pL qL sK aK tK pK qK (va_up sH (ix a1) r6.1) (va_up rH (ix a1) r6.2) uH)) (q0 := (60 + 3 * (ix a1))) (ci := 4) (rest := []) (st' := []) C rfl (k_X4_becomeRow hr6) okX4_becomeRow q4_68 rfl (xC_hget hlt5) _ _ (xs_H hlt5) (xs_H2r hlt5) rfl rfl rfl (Nat.le_of_ble_eq_true rfl) ⟨Nat.le_of_ble_eq_true rfl, Nat.le_of_ble_eq_true rfl⟩ dX6_shelf_47 ?_
        refine tt_iconst (pc := 50) (v := (1 : Int32)) C dX6_shelf_50 (by decide) ?_
        obtain rfl := Option.some.inj hf
        exact tt_ireturn (pc := 51) C rfl rfl rfl dX6_shelf_51
    · refine tt_iload_n (pc := 18) (k := 2) C dX6_shelf_18 rfl rfl ?_
      refine tt_if_eq (pc := 19) (tgt := 34) C dX6_shelf_19 (by decide) hf (fun hf => ?_) (fun hf => ?_)
      · refine tt_iload_n (pc := 34) (k := 2) C dX6_shelf_34 rfl rfl ?_
        refine tt_iconst (pc := 35) (v := (-1 : Int32)) C dX6_shelf_35 (by decide) ?_
        refine tt_icmp_ne (pc := 36) (tgt := 52) C dX6_shelf_36 (by decide) hf (fun hf => ?_) (fun hf => ?_)
        · refine tt_iload_n (pc := 52) (k := 3) C dX6_shelf_52 rfl rfl ?_
          refine tt_bipush (pc := 53) (v := (20 : Int32)) C dX6_shelf_53 (by decide) ?_
          refine tt_icmp_le (pc := 55) (tgt := 65) C dX6_shelf_55 (by decide) hf (fun hf => ?_) (fun hf => ?_)
          · refine tt_iload_n (pc := 65) (k := 3) C dX6_shelf_65 rfl rfl ?_
            refine tt_if_ge (pc := 66) (tgt := 72) C dX6_shelf_66 (by decide) hf (fun hf => ?_) (fun hf => ?_)
            · refine tt_aload_n (pc := 72) (k := 0) C dX6_shelf_72 rfl rfl ?_
              refine tt_get (pc := 73) (ws := (xC cy xd sX aX uG es ea sT aT tT pT qT ma sL aL tL pL qL sK aK tK pK qK sH rH uH)) (ci := 6) (v := .ref (xd 0 5)) C fiX6 rfl 0 xC_obj 5 (by decide) q1_224 rfl dX6_shelf_73 ?_
              refine tt_iload_n (pc := 76) (k := 1) C dX6_shelf_76 rfl rfl ?_
              refine tt_aaload (pc := 77) (ws := (xC cy xd sX aX uG es ea sT aT tT pT qT ma sL aL tL pL qL sK aK tK pK qK sH rH uH)) (n := 4) (r := (fun j => xd (10 + j) 0)) C 1 5 xC_get5 rfl hf (fun _ _ => rfl) dX6_shelf_77 (fun hf hlt7 => ?_)
              refine tt_iload_n (pc := 78) (k := 2) C dX6_shelf_78 rfl rfl ?_
              refine tt_iload_n (pc := 79) (k := 3) C dX6_shelf_79 rfl rfl ?_
              obtain ⟨r8, hr8, hf⟩ := bind_some hf
              refine tt_callG (pc := 80) (ws := (xC cy xd sX aX uG es ea sT aT tT pT qT ma sL aL tL pL qL sK aK tK pK qK sH rH uH)) (ws' := (xC cy xd sX aX uG es ea sT aT tT pT qT ma sL aL tL pL qL sK aK tK pK qK (va_up sH (ix a1) r8.1) (va_up rH (ix a1) r8.2) uH)) (q0 := (60 + 3 * (ix a1))) (ci := 4) (rest := []) (st' := []) C rfl (k_X4_becomeRow hr8) okX4_becomeRow q4_68 rfl (xC_hget hlt7) _ _ (xs_H hlt7) (xs_H2r hlt7) rfl rfl rfl (Nat.le_of_ble_eq_true rfl) ⟨Nat.le_of_ble_eq_true rfl, Nat.le_of_ble_eq_true rfl⟩ dX6_shelf_80 ?_
              refine tt_iconst (pc := 83) (v := (1 : Int32)) C dX6_shelf_83 (by decide) ?_
              obtain rfl := Option.some.inj hf
              exact tt_ireturn (pc := 84) C rfl rfl rfl dX6_shelf_84
            · refine tt_bipush (pc := 69) (v := (-14 : Int32)) C dX6_shelf_69 (by decide) ?_
              obtain rfl := Option.some.inj hf
              exact tt_ireturn (pc := 71) C rfl rfl rfl dX6_shelf_71
          · refine tt_aload_n (pc := 58) (k := 0) C dX6_shelf_58 rfl rfl ?_
            refine tt_bipush (pc := 59) (v := (-6 : Int32)) C dX6_shelf_59 (by decide) ?_
            obtain ⟨r9, hr9, hf⟩ := bind_some hf
            refine tt_callM (pc := 61) (ws := (xC cy xd sX aX uG es ea sT aT tT pT qT ma sL aL tL pL qL sK aK tK pK qK sH rH uH)) (q0 := 0) (ci := 6) (rest := []) (st' := [.int r9.1]) C rfl (k_X6_refused hr9) okX6_refused q2_19 rfl xC_obj rfl rfl rfl (Nat.le_of_ble_eq_true rfl) ⟨Nat.le_of_ble_eq_true rfl, Nat.le_of_ble_eq_true rfl⟩ dX6_shelf_61 ?_
            obtain rfl := Option.some.inj hf
            exact tt_ireturn (pc := 64) C rfl rfl rfl dX6_shelf_64
        · refine tt_aload_n (pc := 39) (k := 0) C dX6_shelf_39 rfl rfl ?_
          refine tt_get (pc := 40) (ws := (xC cy xd sX aX uG es ea sT aT tT pT qT ma sL aL tL pL qL sK aK tK pK qK sH rH uH)) (ci := 6) (v := .ref (xd 0 5)) C fiX6 rfl 0 xC_obj 5 (by decide) q1_224 rfl dX6_shelf_40 ?_
          refine tt_iload_n (pc := 43) (k := 1) C dX6_shelf_43 rfl rfl ?_
          refine tt_aaload (pc := 44) (ws := (xC cy xd sX aX uG es ea sT aT tT pT qT ma sL aL tL pL qL sK aK tK pK qK sH rH uH)) (n := 4) (r := (fun j => xd (10 + j) 0)) C 1 5 xC_get5 rfl hf (fun _ _ => rfl) dX6_shelf_44 (fun hf hlt10 => ?_)
          refine tt_iload_n (pc := 45) (k := 2) C dX6_shelf_45 rfl rfl ?_
          refine tt_iconst (pc := 46) (v := (0 : Int32)) C dX6_shelf_46 (by decide) ?_
          obtain ⟨r11, hr11, hf⟩ := bind_some hf
          refine tt_callG (pc := 47) (ws := (xC cy xd sX aX uG es ea sT aT tT pT qT ma sL aL tL pL qL sK aK tK pK qK sH rH uH)) (ws' := (xC cy xd sX aX uG es ea sT aT tT pT qT ma sL aL tL pL qL sK aK tK pK qK (va_up sH (ix a1) r11.1) (va_up rH (ix a1) r11.2) uH)) (q0 := (60 + 3 * (ix a1))) (ci := 4) (rest := []) (st' := []) C rfl (k_X4_becomeRow hr11) okX4_becomeRow q4_68 rfl (xC_hget hlt10) _ _ (xs_H hlt10) (xs_H2r hlt10) rfl rfl rfl (Nat.le_of_ble_eq_true rfl) ⟨Nat.le_of_ble_eq_true rfl, Nat.le_of_ble_eq_true rfl⟩ dX6_shelf_47 ?_
          refine tt_iconst (pc := 50) (v := (1 : Int32)) C dX6_shelf_50 (by decide) ?_
          obtain rfl := Option.some.inj hf
          exact tt_ireturn (pc := 51) C rfl rfl rfl dX6_shelf_51
      · refine tt_iload_n (pc := 22) (k := 2) C dX6_shelf_22 rfl rfl ?_
        refine tt_iconst (pc := 23) (v := (1 : Int32)) C dX6_shelf_23 (by decide) ?_
        refine tt_icmp_eq (pc := 24) (tgt := 34) C dX6_shelf_24 (by decide) hf (fun hf => ?_) (fun hf => ?_)
        · refine tt_iload_n (pc := 34) (k := 2) C dX6_shelf_34 rfl rfl ?_
          refine tt_iconst (pc := 35) (v := (-1 : Int32)) C dX6_shelf_35 (by decide) ?_
          refine tt_icmp_ne (pc := 36) (tgt := 52) C dX6_shelf_36 (by decide) hf (fun hf => ?_) (fun hf => ?_)
          · refine tt_iload_n (pc := 52) (k := 3) C dX6_shelf_52 rfl rfl ?_
            refine tt_bipush (pc := 53) (v := (20 : Int32)) C dX6_shelf_53 (by decide) ?_
            refine tt_icmp_le (pc := 55) (tgt := 65) C dX6_shelf_55 (by decide) hf (fun hf => ?_) (fun hf => ?_)
            · refine tt_iload_n (pc := 65) (k := 3) C dX6_shelf_65 rfl rfl ?_
              refine tt_if_ge (pc := 66) (tgt := 72) C dX6_shelf_66 (by decide) hf (fun hf => ?_) (fun hf => ?_)
              · refine tt_aload_n (pc := 72) (k := 0) C dX6_shelf_72 rfl rfl ?_
                refine tt_get (pc := 73) (ws := (xC cy xd sX aX uG es ea sT aT tT pT qT ma sL aL tL pL qL sK aK tK pK qK sH rH uH)) (ci := 6) (v := .ref (xd 0 5)) C fiX6 rfl 0 xC_obj 5 (by decide) q1_224 rfl dX6_shelf_73 ?_
                refine tt_iload_n (pc := 76) (k := 1) C dX6_shelf_76 rfl rfl ?_
                refine tt_aaload (pc := 77) (ws := (xC cy xd sX aX uG es ea sT aT tT pT qT ma sL aL tL pL qL sK aK tK pK qK sH rH uH)) (n := 4) (r := (fun j => xd (10 + j) 0)) C 1 5 xC_get5 rfl hf (fun _ _ => rfl) dX6_shelf_77 (fun hf hlt12 => ?_)
                refine tt_iload_n (pc := 78) (k := 2) C dX6_shelf_78 rfl rfl ?_
                refine tt_iload_n (pc := 79) (k := 3) C dX6_shelf_79 rfl rfl ?_
                obtain ⟨r13, hr13, hf⟩ := bind_some hf
                refine tt_callG (pc := 80) (ws := (xC cy xd sX aX uG es ea sT aT tT pT qT ma sL aL tL pL qL sK aK tK pK qK sH rH uH)) (ws' := (xC cy xd sX aX uG es ea sT aT tT pT qT ma sL aL tL pL qL sK aK tK pK qK (va_up sH (ix a1) r13.1) (va_up rH (ix a1) r13.2) uH)) (q0 := (60 + 3 * (ix a1))) (ci := 4) (rest := []) (st' := []) C rfl (k_X4_becomeRow hr13) okX4_becomeRow q4_68 rfl (xC_hget hlt12) _ _ (xs_H hlt12) (xs_H2r hlt12) rfl rfl rfl (Nat.le_of_ble_eq_true rfl) ⟨Nat.le_of_ble_eq_true rfl, Nat.le_of_ble_eq_true rfl⟩ dX6_shelf_80 ?_
                refine tt_iconst (pc := 83) (v := (1 : Int32)) C dX6_shelf_83 (by decide) ?_
                obtain rfl := Option.some.inj hf
                exact tt_ireturn (pc := 84) C rfl rfl rfl dX6_shelf_84
              · refine tt_bipush (pc := 69) (v := (-14 : Int32)) C dX6_shelf_69 (by decide) ?_
                obtain rfl := Option.some.inj hf
                exact tt_ireturn (pc := 71) C rfl rfl rfl dX6_shelf_71
            · refine tt_aload_n (pc := 58) (k := 0) C dX6_shelf_58 rfl rfl ?_
              refine tt_bipush (pc := 59) (v := (-6 : Int32)) C dX6_shelf_59 (by decide) ?_
              obtain ⟨r14, hr14, hf⟩ := bind_some hf
              refine tt_callM (pc := 61) (ws := (xC cy xd sX aX uG es ea sT aT tT pT qT ma sL aL tL pL qL sK aK tK pK qK sH rH uH)) (q0 := 0) (ci := 6) (rest := []) (st' := [.int r14.1]) C rfl (k_X6_refused hr14) okX6_refused q2_19 rfl xC_obj rfl rfl rfl (Nat.le_of_ble_eq_true rfl) ⟨Nat.le_of_ble_eq_true rfl, Nat.le_of_ble_eq_true rfl⟩ dX6_shelf_61 ?_
              obtain rfl := Option.some.inj hf
              exact tt_ireturn (pc := 64) C rfl rfl rfl dX6_shelf_64
          · refine tt_aload_n (pc := 39) (k := 0) C dX6_shelf_39 rfl rfl ?_
            refine tt_get (pc := 40) (ws := (xC cy xd sX aX uG es ea sT aT tT pT qT ma sL aL tL pL qL sK aK tK pK qK sH rH uH)) (ci := 6) (v := .ref (xd 0 5)) C fiX6 rfl 0 xC_obj 5 (by decide) q1_224 rfl dX6_shelf_40 ?_
            refine tt_iload_n (pc := 43) (k := 1) C dX6_shelf_43 rfl rfl ?_
            refine tt_aaload (pc := 44) (ws := (xC cy xd sX aX uG es ea sT aT tT pT qT ma sL aL tL pL qL sK aK tK pK qK sH rH uH)) (n := 4) (r := (fun j => xd (10 + j) 0)) C 1 5 xC_get5 rfl hf (fun _ _ => rfl) dX6_shelf_44 (fun hf hlt15 => ?_)
            refine tt_iload_n (pc := 45) (k := 2) C dX6_shelf_45 rfl rfl ?_
            refine tt_iconst (pc := 46) (v := (0 : Int32)) C dX6_shelf_46 (by decide) ?_
            obtain ⟨r16, hr16, hf⟩ := bind_some hf
            refine tt_callG (pc := 47) (ws := (xC cy xd sX aX uG es ea sT aT tT pT qT ma sL aL tL pL qL sK aK tK pK qK sH rH uH)) (ws' := (xC cy xd sX aX uG es ea sT aT tT pT qT ma sL aL tL pL qL sK aK tK pK qK (va_up sH (ix a1) r16.1) (va_up rH (ix a1) r16.2) uH)) (q0 := (60 + 3 * (ix a1))) (ci := 4) (rest := []) (st' := []) C rfl (k_X4_becomeRow hr16) okX4_becomeRow q4_68 rfl (xC_hget hlt15) _ _ (xs_H hlt15) (xs_H2r hlt15) rfl rfl rfl (Nat.le_of_ble_eq_true rfl) ⟨Nat.le_of_ble_eq_true rfl, Nat.le_of_ble_eq_true rfl⟩ dX6_shelf_47 ?_
            refine tt_iconst (pc := 50) (v := (1 : Int32)) C dX6_shelf_50 (by decide) ?_
            obtain rfl := Option.some.inj hf
            exact tt_ireturn (pc := 51) C rfl rfl rfl dX6_shelf_51
        · refine tt_aload_n (pc := 27) (k := 0) C dX6_shelf_27 rfl rfl ?_
          refine tt_bipush (pc := 28) (v := (-2 : Int32)) C dX6_shelf_28 (by decide) ?_
          obtain ⟨r17, hr17, hf⟩ := bind_some hf
          refine tt_callM (pc := 30) (ws := (xC cy xd sX aX uG es ea sT aT tT pT qT ma sL aL tL pL qL sK aK tK pK qK sH rH uH)) (q0 := 0) (ci := 6) (rest := []) (st' := [.int r17.1]) C rfl (k_X6_refused hr17) okX6_refused q2_19 rfl xC_obj rfl rfl rfl (Nat.le_of_ble_eq_true rfl) ⟨Nat.le_of_ble_eq_true rfl, Nat.le_of_ble_eq_true rfl⟩ dX6_shelf_30 ?_
          obtain rfl := Option.some.inj hf
          exact tt_ireturn (pc := 33) C rfl rfl rfl dX6_shelf_33
  · refine tt_aload_n (pc := 7) (k := 0) C dX6_shelf_7 rfl rfl ?_
    refine tt_iconst (pc := 8) (v := (-1 : Int32)) C dX6_shelf_8 (by decide) ?_
    obtain ⟨r18, hr18, hf⟩ := bind_some hf
    refine tt_callM (pc := 9) (ws := (xC cy xd sX aX uG es ea sT aT tT pT qT ma sL aL tL pL qL sK aK tK pK qK sH rH uH)) (q0 := 0) (ci := 6) (rest := []) (st' := [.int r18.1]) C rfl (k_X6_refused hr18) okX6_refused q2_19 rfl xC_obj rfl rfl rfl (Nat.le_of_ble_eq_true rfl) ⟨Nat.le_of_ble_eq_true rfl, Nat.le_of_ble_eq_true rfl⟩ dX6_shelf_9 ?_
    obtain rfl := Option.some.inj hf
    exact tt_ireturn (pc := 12) C rfl rfl rfl dX6_shelf_12
theorem dX4_takeTrain_0 : decode cX4_takeTrain 0 = .ok (.aload_n 0, 1) := by decide +kernel
theorem dX4_takeTrain_1 : decode cX4_takeTrain 1 = .ok (.iconst 2, 1) := by decide +kernel
theorem dX4_takeTrain_2 : decode cX4_takeTrain 2 = .ok (.putfield 11, 3) := by decide +kernel
theorem dX4_takeTrain_5 : decode cX4_takeTrain 5 = .ok (.aload_n 0, 1) := by decide +kernel
theorem dX4_takeTrain_6 : decode cX4_takeTrain 6 = .ok (.iconst 0, 1) := by decide +kernel
theorem dX4_takeTrain_7 : decode cX4_takeTrain 7 = .ok (.putfield 15, 3) := by decide +kernel
theorem dX4_takeTrain_10 : decode cX4_takeTrain 10 = .ok (.aload_n 0, 1) := by decide +kernel
theorem dX4_takeTrain_11 : decode cX4_takeTrain 11 = .ok (.getfield 25, 3) := by decide +kernel
theorem dX4_takeTrain_14 : decode cX4_takeTrain 14 = .ok (.aload_n 1, 1) := by decide +kernel
theorem dX4_takeTrain_15 : decode cX4_takeTrain 15 = .ok (.invokevirtual 29, 3) := by decide +kernel
theorem dX4_takeTrain_18 : decode cX4_takeTrain 18 = .ok (.return_, 1) := by decide +kernel
set_option maxHeartbeats 4000000 in
set_option maxRecDepth 100000 in
theorem k_X4_takeTrain {l : Launch} {D : va_G} {cy : Nat → ClassId} {Bd : Nat} {xa : Xa} {hd : Nat → Nat} {q : Nat} {N : Nat} {hs : Nat → Int32} {hr : Nat → Int64} {hu : Nat → Int32} {u : Nat → Int32} {out : (Nat → Int32) × (Nat → Int32)} (hf : f_X4_takeTrain N hs hu u = some out) : KC l yX4_takeTrain cX4_takeTrain 2 none 1 21 false D cy Bd xa [.ref (hd 0), .ref q] (hC cy hd hs hr hu ++ [(q, tE u)]) none (hC cy hd out.1 hr out.2 ++ [(q, tE u)]) := by
  refine kc_start (own := RX4) (by decide +kernel) rfl (Nat.le_of_ble_eq_true rfl) ?_
  intro p e s m args below meth c A C
  unfold f_X4_takeTrain at hf
  refine tt_locs (L' := [(0, .ref (hd 0)), (1, .ref q)]) [0, 1] rfl ?_
  refine tt_aload_n (pc := 0) (k := 0) C dX4_takeTrain_0 rfl rfl ?_
  refine tt_iconst (pc := 1) (v := (2 : Int32)) C dX4_takeTrain_1 (by decide) ?_
  refine tt_put (pc := 2) (ws := (hC cy hd hs hr hu ++ [(q, tE u)])) (ci := 4) (ty := .int) (ws' := (hC cy hd (upd hs 0 (2 : Int32)) hr hu ++ [(q, tE u)])) C rfl fiX4 rfl 0 rfl 0 (by decide) q1_201 rfl rfl rfl rfl (Nat.le_of_ble_eq_true rfl) dX4_takeTrain_2 rfl ?_
  refine tt_aload_n (pc := 5) (k := 0) C dX4_takeTrain_5 rfl rfl ?_
  refine tt_iconst (pc := 6) (v := (0 : Int32)) C dX4_takeTrain_6 (by decide) ?_
  refine tt_put (pc := 7) (ws := (hC cy hd (upd hs 0 (2 : Int32)) hr hu ++ [(q, tE u)])) (ci := 4) (ty := .int) (ws' := (hC cy hd (upd (upd hs 0 (2 : Int32)) 1 (0 : Int32)) hr hu ++ [(q, tE u)])) C rfl fiX4 rfl 0 rfl 1 (by decide) q1_203 rfl rfl rfl rfl (Nat.le_of_ble_eq_true rfl) dX4_takeTrain_7 rfl ?_
  refine tt_aload_n (pc := 10) (k := 0) C dX4_takeTrain_10 rfl rfl ?_
  refine tt_get (pc := 11) (ws := (hC cy hd (upd (upd hs 0 (2 : Int32)) 1 (0 : Int32)) hr hu ++ [(q, tE u)])) (ci := 4) (v := .ref (hd 3)) C fiX4 rfl 0 rfl 3 (by decide) q1_207 rfl dX4_takeTrain_11 ?_
  refine tt_aload_n (pc := 14) (k := 1) C dX4_takeTrain_14 rfl rfl ?_
  obtain ⟨r1, hr1, hf⟩ := bind_some hf
  refine tt_callG (pc := 15) (ws := (hC cy hd (upd (upd hs 0 (2 : Int32)) 1 (0 : Int32)) hr hu ++ [(q, tE u)])) (ws' := (hC cy hd (upd (upd hs 0 (2 : Int32)) 1 (0 : Int32)) hr r1 ++ [(q, tE u)])) (q0 := 2) (ci := 5) (rest := []) (st' := []) C rfl (k_X5_copyFrom hr1) okX5_copyFrom q4_80 rfl rfl [(hd 0, .inr (4, [.int (2 : Int32), .int (0 : Int32), .ref (hd 2), .ref (hd 3)])), (hd 2, .inl (cy 1, 20, .inr (.inl hr)))] [] rfl rfl rfl rfl rfl (Nat.le_of_ble_eq_true rfl) ⟨Nat.le_of_ble_eq_true rfl, Nat.le_of_ble_eq_true rfl⟩ dX4_takeTrain_15 ?_
  obtain rfl := Option.some.inj hf
  exact tt_vreturn (pc := 18) C rfl rfl rfl dX4_takeTrain_18
theorem dX6_lay_0 : decode cX6_lay 0 = .ok (.iload_n 1, 1) := by decide +kernel
theorem dX6_lay_1 : decode cX6_lay 1 = .ok (.invokestatic 270, 3) := by decide +kernel
theorem dX6_lay_4 : decode cX6_lay 4 = .ok (.ifCond .eq 14, 3) := by decide +kernel
theorem dX6_lay_7 : decode cX6_lay 7 = .ok (.aload_n 0, 1) := by decide +kernel
theorem dX6_lay_8 : decode cX6_lay 8 = .ok (.getfield 10, 3) := by decide +kernel
theorem dX6_lay_11 : decode cX6_lay 11 = .ok (.iload_n 2, 1) := by decide +kernel
theorem dX6_lay_12 : decode cX6_lay 12 = .ok (.invokevirtual 129, 3) := by decide +kernel
theorem dX6_lay_15 : decode cX6_lay 15 = .ok (.ifCond .ne 9, 3) := by decide +kernel
theorem dX6_lay_18 : decode cX6_lay 18 = .ok (.aload_n 0, 1) := by decide +kernel
theorem dX6_lay_19 : decode cX6_lay 19 = .ok (.iconst (-1), 1) := by decide +kernel
theorem dX6_lay_20 : decode cX6_lay 20 = .ok (.invokevirtual 87, 3) := by decide +kernel
theorem dX6_lay_23 : decode cX6_lay 23 = .ok (.ireturn, 1) := by decide +kernel
theorem dX6_lay_24 : decode cX6_lay 24 = .ok (.aload_n 0, 1) := by decide +kernel
theorem dX6_lay_25 : decode cX6_lay 25 = .ok (.getfield 35, 3) := by decide +kernel
theorem dX6_lay_28 : decode cX6_lay 28 = .ok (.iload_n 1, 1) := by decide +kernel
theorem dX6_lay_29 : decode cX6_lay 29 = .ok (.aaload, 1) := by decide +kernel
theorem dX6_lay_30 : decode cX6_lay 30 = .ok (.aload_n 0, 1) := by decide +kernel
theorem dX6_lay_31 : decode cX6_lay 31 = .ok (.getfield 10, 3) := by decide +kernel
theorem dX6_lay_34 : decode cX6_lay 34 = .ok (.getfield 132, 3) := by decide +kernel
theorem dX6_lay_37 : decode cX6_lay 37 = .ok (.iload_n 2, 1) := by decide +kernel
theorem dX6_lay_38 : decode cX6_lay 38 = .ok (.aaload, 1) := by decide +kernel
theorem dX6_lay_39 : decode cX6_lay 39 = .ok (.invokevirtual 277, 3) := by decide +kernel
theorem dX6_lay_42 : decode cX6_lay 42 = .ok (.iconst 1, 1) := by decide +kernel
theorem dX6_lay_43 : decode cX6_lay 43 = .ok (.ireturn, 1) := by decide +kernel
set_option maxHeartbeats 4000000 in
set_option maxRecDepth 100000 in
theorem k_X6_lay {l : Launch} {D : va_G} {cy : Nat → ClassId} {Bd : Nat} {xa : Xa} {xd : Nat → Nat → Nat} {N : Nat} {sX : Nat → Int32} {aX : Nat → Nat → Int32} {uG : Nat → Int32} {es : Nat → Int32} {ea : Nat → Nat → Int32} {sT : Nat → Int32} {aT : Nat → Nat → Int32} {tT : Nat → Nat → Int32} {pT : Nat → Int32} {qT : Nat → Nat → Int32} {ma : Nat → Nat → Int32} {sL : Nat → Int32} {aL : Nat → Nat → Int32} {tL : Nat → Nat → Int32} {pL : Nat → Int32} {qL : Nat → Nat → Int32} {sK : Nat → Int32} {aK : Nat → Nat → Int32} {tK : Nat → Nat → Int32} {pK : Nat → Int32} {qK : Nat → Nat → Int32} {sH : Nat → Nat → Int32} {rH : Nat → Nat → Int64} {uH : Nat → Nat → Int32} {a1 : Int32} {a2 : Int32} {out : Int32 × (Nat → Nat → Int32) × (Nat → Nat → Int32) × (Nat → Nat → Int32)} (hf : f_X6_lay N aX sL tL sH uH a1 a2 = some out) : KC l yX6_lay cX6_lay 3 (some .int) 2 42 false D cy Bd xa [.ref (xd 0 0), .int a1, .int a2] (xC cy xd sX aX uG es ea sT aT tT pT qT ma sL aL tL pL qL sK aK tK pK qK sH rH uH) (some (.int out.1)) (xC cy xd sX out.2.1 uG es ea sT aT tT pT qT ma sL aL tL pL qL sK aK tK pK qK out.2.2.1 rH out.2.2.2) := by
  refine kc_start (own := RX6) (by decide +kernel) rfl (Nat.le_of_ble_eq_true rfl) ?_
  intro p e s m args below meth c A C
  unfold f_X6_lay at hf
  refine tt_locs (L' := [(0, .ref (xd 0 0)), (1, .int a1), (2, .int a2)]) [0, 1, 2] rfl ?_
  refine tt_iload_n (pc := 0) (k := 1) C dX6_lay_0 rfl rfl ?_
  obtain ⟨r1, hr1, hf⟩ := bind_some hf
  refine tt_callS (pc := 1) (ws := (xC cy xd sX aX uG es ea sT aT tT pT qT ma sL aL tL pL qL sK aK tK pK qK sH rH uH)) (rest := []) (st' := [.int r1]) C (k_X6_hasShelf hr1) okX6_hasShelf q4_65 (fun _ h => absurd h List.not_mem_nil) rfl rfl rfl (Nat.le_of_ble_eq_true rfl) ⟨Nat.le_of_ble_eq_true rfl, Nat.le_of_ble_eq_true rfl⟩ dX6_lay_1 ?_
  refine tt_if_eq (pc := 4) (tgt := 18) C dX6_lay_4 (by decide) hf (fun hf => ?_) (fun hf => ?_)
  · refine tt_aload_n (pc := 18) (k := 0) C dX6_lay_18 rfl rfl ?_
    refine tt_iconst (pc := 19) (v := (-1 : Int32)) C dX6_lay_19 (by decide) ?_
    obtain ⟨r2, hr2, hf⟩ := bind_some hf
    refine tt_callM (pc := 20) (ws := (xC cy xd sX aX uG es ea sT aT tT pT qT ma sL aL tL pL qL sK aK tK pK qK sH rH uH)) (q0 := 0) (ci := 6) (rest := []) (st' := [.int r2.1]) C rfl (k_X6_refused hr2) okX6_refused q2_19 rfl xC_obj rfl rfl rfl (Nat.le_of_ble_eq_true rfl) ⟨Nat.le_of_ble_eq_true rfl, Nat.le_of_ble_eq_true rfl⟩ dX6_lay_20 ?_
    obtain rfl := Option.some.inj hf
    exact tt_ireturn (pc := 23) C rfl rfl rfl dX6_lay_23
  · refine tt_aload_n (pc := 7) (k := 0) C dX6_lay_7 rfl rfl ?_
    refine tt_get (pc := 8) (ws := (xC cy xd sX aX uG es ea sT aT tT pT qT ma sL aL tL pL qL sK aK tK pK qK sH rH uH)) (ci := 6) (v := .ref ((xd 1) 0)) C fiX6 rfl 0 xC_obj 0 (by decide) q1_219 rfl dX6_lay_8 ?_
    refine tt_iload_n (pc := 11) (k := 2) C dX6_lay_11 rfl rfl ?_
    obtain ⟨r3, hr3, hf⟩ := bind_some hf
    refine tt_callR (pc := 12) (ws := (xC cy xd sX aX uG es ea sT aT tT pT qT ma sL aL tL pL qL sK aK tK pK qK sH rH uH)) (q0 := 28) (ci := 1) (rest := []) (st' := [.int r3]) C (k_X1_hasTrain hr3) okX1_hasTrain q3_43 rfl rfl xC_subL rfl rfl rfl (Nat.le_of_ble_eq_true rfl) ⟨Nat.le_of_ble_eq_true rfl, Nat.le_of_ble_eq_true rfl⟩ dX6_lay_12 ?_
    refine tt_if_ne (pc := 15) (tgt := 24) C dX6_lay_15 (by decide) hf (fun hf => ?_) (fun hf => ?_)
    · refine tt_aload_n (pc := 24) (k := 0) C dX6_lay_24 rfl rfl ?_
      refine tt_get (pc := 25) (ws := (xC cy xd sX aX uG es ea sT aT tT pT qT ma sL aL tL pL qL sK aK tK pK qK sH rH uH)) (ci := 6) (v := .ref (xd 0 5)) C fiX6 rfl 0 xC_obj 5 (by decide) q1_224 rfl dX6_lay_25 ?_
      refine tt_iload_n (pc := 28) (k := 1) C dX6_lay_28 rfl rfl ?_
      refine tt_aaload (pc := 29) (ws := (xC cy xd sX aX uG es ea sT aT tT pT qT ma sL aL tL pL qL sK aK tK pK qK sH rH uH)) (n := 4) (r := (fun j => xd (10 + j) 0)) C 1 5 xC_get5 rfl hf (fun _ _ => rfl) dX6_lay_29 (fun hf hlt4 => ?_)
      refine tt_aload_n (pc := 30) (k := 0) C dX6_lay_30 rfl rfl ?_
      refine tt_get (pc := 31) (ws := (xC cy xd sX aX uG es ea sT aT tT pT qT ma sL aL tL pL qL sK aK tK pK qK sH rH uH)) (ci := 6) (v := .ref ((xd 1) 0)) C fiX6 rfl 0 xC_obj 0 (by decide) q1_219 rfl dX6_lay_31 ?_
      refine tt_get (pc := 34) (ws := (xC cy xd sX aX uG es ea sT aT tT pT qT ma sL aL tL pL qL sK aK tK pK qK sH rH uH)) (ci := 1) (v := .ref ((xd 1) 10)) C fiX1 rfl 28 rfl 10 (by decide) q1_107 rfl dX6_lay_34 ?_
      refine tt_iload_n (pc := 37) (k := 2) C dX6_lay_37 rfl rfl ?_
      refine tt_aaload (pc := 38) (ws := (xC cy xd sX aX uG es ea sT aT tT pT qT ma sL aL tL pL qL sK aK tK pK qK sH rH uH)) (n := 4) (r := (fun j => (xd 1) (40 + j))) C 35 4 rfl rfl hf (fun _ _ => rfl) dX6_lay_38 (fun hf hlt5 => ?_)
      obtain ⟨r6, hr6, hf⟩ := bind_some hf
      refine tt_perm (xs_HT hlt4 hlt5) ?_
      refine tt_callG (pc := 39) (q0 := 0) (ci := 4) (rest := []) (st' := []) C rfl (k_X4_takeTrain hr6) okX4_takeTrain q4_76 rfl rfl [] _ rfl rfl rfl rfl rfl (Nat.le_of_ble_eq_true rfl) ⟨Nat.le_of_ble_eq_true rfl, Nat.le_of_ble_eq_true rfl⟩ dX6_lay_39 ?_
      refine tt_perm (ws2 := (xC cy xd sX aX uG es ea sT aT tT pT qT ma sL aL tL pL qL sK aK tK pK qK (va_up sH (ix a1) r6.1) rH (va_up uH (ix a1) r6.2))) (xs_HT2t hlt4 hlt5) ?_
      refine tt_iconst (pc := 42) (v := (1 : Int32)) C dX6_lay_42 (by decide) ?_
      obtain rfl := Option.some.inj hf
      exact tt_ireturn (pc := 43) C rfl rfl rfl dX6_lay_43
    · refine tt_aload_n (pc := 18) (k := 0) C dX6_lay_18 rfl rfl ?_
      refine tt_iconst (pc := 19) (v := (-1 : Int32)) C dX6_lay_19 (by decide) ?_
      obtain ⟨r7, hr7, hf⟩ := bind_some hf
      refine tt_callM (pc := 20) (ws := (xC cy xd sX aX uG es ea sT aT tT pT qT ma sL aL tL pL qL sK aK tK pK qK sH rH uH)) (q0 := 0) (ci := 6) (rest := []) (st' := [.int r7.1]) C rfl (k_X6_refused hr7) okX6_refused q2_19 rfl xC_obj rfl rfl rfl (Nat.le_of_ble_eq_true rfl) ⟨Nat.le_of_ble_eq_true rfl, Nat.le_of_ble_eq_true rfl⟩ dX6_lay_20 ?_
      obtain rfl := Option.some.inj hf
      exact tt_ireturn (pc := 23) C rfl rfl rfl dX6_lay_23
theorem dX4_faultOfPlace_0 : decode cX4_faultOfPlace 0 = .ok (.aload_n 0, 1) := by decide +kernel
theorem dX4_faultOfPlace_1 : decode cX4_faultOfPlace 1 = .ok (.getfield 11, 3) := by decide +kernel
theorem dX4_faultOfPlace_4 : decode cX4_faultOfPlace 4 = .ok (.iconst (-1), 1) := by decide +kernel
theorem dX4_faultOfPlace_5 : decode cX4_faultOfPlace 5 = .ok (.if_icmp .ne 6, 3) := by decide +kernel
theorem dX4_faultOfPlace_8 : decode cX4_faultOfPlace 8 = .ok (.bipush (-11), 2) := by decide +kernel
theorem dX4_faultOfPlace_10 : decode cX4_faultOfPlace 10 = .ok (.ireturn, 1) := by decide +kernel
theorem dX4_faultOfPlace_11 : decode cX4_faultOfPlace 11 = .ok (.aload_n 0, 1) := by decide +kernel
theorem dX4_faultOfPlace_12 : decode cX4_faultOfPlace 12 = .ok (.getfield 11, 3) := by decide +kernel
theorem dX4_faultOfPlace_15 : decode cX4_faultOfPlace 15 = .ok (.iconst 2, 1) := by decide +kernel
theorem dX4_faultOfPlace_16 : decode cX4_faultOfPlace 16 = .ok (.if_icmp .ne 6, 3) := by decide +kernel
theorem dX4_faultOfPlace_19 : decode cX4_faultOfPlace 19 = .ok (.bipush (-12), 2) := by decide +kernel
theorem dX4_faultOfPlace_21 : decode cX4_faultOfPlace 21 = .ok (.ireturn, 1) := by decide +kernel
theorem dX4_faultOfPlace_22 : decode cX4_faultOfPlace 22 = .ok (.iload_n 1, 1) := by decide +kernel
theorem dX4_faultOfPlace_23 : decode cX4_faultOfPlace 23 = .ok (.ifCond .lt 15, 3) := by decide +kernel
theorem dX4_faultOfPlace_26 : decode cX4_faultOfPlace 26 = .ok (.iload_n 1, 1) := by decide +kernel
theorem dX4_faultOfPlace_27 : decode cX4_faultOfPlace 27 = .ok (.aload_n 0, 1) := by decide +kernel
theorem dX4_faultOfPlace_28 : decode cX4_faultOfPlace 28 = .ok (.getfield 15, 3) := by decide +kernel
theorem dX4_faultOfPlace_31 : decode cX4_faultOfPlace 31 = .ok (.if_icmp .ge 7, 3) := by decide +kernel
theorem dX4_faultOfPlace_34 : decode cX4_faultOfPlace 34 = .ok (.iconst 0, 1) := by decide +kernel
theorem dX4_faultOfPlace_35 : decode cX4_faultOfPlace 35 = .ok (.goto 5, 3) := by decide +kernel
theorem dX4_faultOfPlace_38 : decode cX4_faultOfPlace 38 = .ok (.bipush (-13), 2) := by decide +kernel
theorem dX4_faultOfPlace_40 : decode cX4_faultOfPlace 40 = .ok (.ireturn, 1) := by decide +kernel
set_option maxHeartbeats 4000000 in
set_option maxRecDepth 100000 in
theorem k_X4_faultOfPlace {l : Launch} {D : va_G} {cy : Nat → ClassId} {Bd : Nat} {xa : Xa} {hd : Nat → Nat} {N : Nat} {hs : Nat → Int32} {hr : Nat → Int64} {hu : Nat → Int32} {a1 : Int32} {out : Int32} (hf : f_X4_faultOfPlace N hs a1 = some out) : KC l yX4_faultOfPlace cX4_faultOfPlace 2 (some .int) 0 0 true D cy Bd xa [.ref (hd 0), .int a1] (hC cy hd hs hr hu) (some (.int out)) (hC cy hd hs hr hu) := by
  refine kc_start (own := RX4) (by decide +kernel) rfl (Nat.le_of_ble_eq_true rfl) ?_
  intro p e s m args below meth c A C
  unfold f_X4_faultOfPlace at hf
  refine tt_locs (L' := [(0, .ref (hd 0)), (1, .int a1)]) [0, 1] rfl ?_
  refine tt_aload_n (pc := 0) (k := 0) C dX4_faultOfPlace_0 rfl rfl ?_
  refine tt_get (pc := 1) (ws := (hC cy hd hs hr hu)) (ci := 4) (v := .int (hs 0)) C fiX4 rfl 0 hC_obj 0 (by decide) q1_201 rfl dX4_faultOfPlace_1 ?_
  refine tt_iconst (pc := 4) (v := (-1 : Int32)) C dX4_faultOfPlace_4 (by decide) ?_
  refine tt_icmp_ne (pc := 5) (tgt := 11) C dX4_faultOfPlace_5 (by decide) hf (fun hf => ?_) (fun hf => ?_)
  · refine tt_aload_n (pc := 11) (k := 0) C dX4_faultOfPlace_11 rfl rfl ?_
    refine tt_get (pc := 12) (ws := (hC cy hd hs hr hu)) (ci := 4) (v := .int (hs 0)) C fiX4 rfl 0 hC_obj 0 (by decide) q1_201 rfl dX4_faultOfPlace_12 ?_
    refine tt_iconst (pc := 15) (v := (2 : Int32)) C dX4_faultOfPlace_15 (by decide) ?_
    refine tt_icmp_ne (pc := 16) (tgt := 22) C dX4_faultOfPlace_16 (by decide) hf (fun hf => ?_) (fun hf => ?_)
    · refine tt_iload_n (pc := 22) (k := 1) C dX4_faultOfPlace_22 rfl rfl ?_
      have k3 : TT p l e { frames := 0, cells := 0, slots := 0, locals := 0 } s m args below meth c 2 D A true (some (.int out)) (hC cy hd hs hr hu) 40 [] [.int (if a1 < 0 then (-13 : Int32) else (if (hs 1) ≤ a1 then (-13 : Int32) else (0 : Int32)))] (hC cy hd hs hr hu) := by
        obtain rfl := Option.some.inj hf
        exact tt_ireturn (pc := 40) C rfl rfl rfl dX4_faultOfPlace_40
      refine tr_if_lt (pc := 23) (tgt := 38) C dX4_faultOfPlace_23 (by decide) (fun c1 => ?_) (fun c1 => ?_)
      · refine tt_bipush (pc := 38) (v := (-13 : Int32)) C dX4_faultOfPlace_38 (by decide) ?_
        try simp only [if_pos c1] at k3 ⊢
        exact tt_locs [] rfl k3
      · refine tt_iload_n (pc := 26) (k := 1) C dX4_faultOfPlace_26 rfl rfl ?_
        refine tt_aload_n (pc := 27) (k := 0) C dX4_faultOfPlace_27 rfl rfl ?_
        refine tt_get (pc := 28) (ws := (hC cy hd hs hr hu)) (ci := 4) (v := .int (hs 1)) C fiX4 rfl 0 hC_obj 1 (by decide) q1_203 rfl dX4_faultOfPlace_28 ?_
        refine tr_icmp_ge (pc := 31) (tgt := 38) C dX4_faultOfPlace_31 (by decide) (fun c2 => ?_) (fun c2 => ?_)
        · refine tt_bipush (pc := 38) (v := (-13 : Int32)) C dX4_faultOfPlace_38 (by decide) ?_
          try simp only [if_neg c1, if_pos c2] at k3 ⊢
          exact tt_locs [] rfl k3
        · refine tt_iconst (pc := 34) (v := (0 : Int32)) C dX4_faultOfPlace_34 (by decide) ?_
          refine tt_goto (pc := 35) (tgt := 40) C dX4_faultOfPlace_35 (by decide) ?_
          try simp only [if_neg c1, if_neg c2] at k3 ⊢
          exact tt_locs [] rfl k3
    · refine tt_bipush (pc := 19) (v := (-12 : Int32)) C dX4_faultOfPlace_19 (by decide) ?_
      obtain rfl := Option.some.inj hf
      exact tt_ireturn (pc := 21) C rfl rfl rfl dX4_faultOfPlace_21
  · refine tt_bipush (pc := 8) (v := (-11 : Int32)) C dX4_faultOfPlace_8 (by decide) ?_
    obtain rfl := Option.some.inj hf
    exact tt_ireturn (pc := 10) C rfl rfl rfl dX4_faultOfPlace_10
theorem dX4_write_0 : decode cX4_write 0 = .ok (.aload_n 0, 1) := by decide +kernel
theorem dX4_write_1 : decode cX4_write 1 = .ok (.getfield 18, 3) := by decide +kernel
theorem dX4_write_4 : decode cX4_write 4 = .ok (.iload_n 1, 1) := by decide +kernel
theorem dX4_write_5 : decode cX4_write 5 = .ok (.aload_n 0, 1) := by decide +kernel
theorem dX4_write_6 : decode cX4_write 6 = .ok (.getfield 11, 3) := by decide +kernel
theorem dX4_write_9 : decode cX4_write 9 = .ok (.ifCond .ne 10, 3) := by decide +kernel
theorem dX4_write_12 : decode cX4_write 12 = .ok (.lload_n 2, 1) := by decide +kernel
theorem dX4_write_13 : decode cX4_write 13 = .ok (.l2i, 1) := by decide +kernel
theorem dX4_write_14 : decode cX4_write 14 = .ok (.i2b, 1) := by decide +kernel
theorem dX4_write_15 : decode cX4_write 15 = .ok (.i2l, 1) := by decide +kernel
theorem dX4_write_16 : decode cX4_write 16 = .ok (.goto 4, 3) := by decide +kernel
theorem dX4_write_19 : decode cX4_write 19 = .ok (.lload_n 2, 1) := by decide +kernel
theorem dX4_write_20 : decode cX4_write 20 = .ok (.lastore, 1) := by decide +kernel
theorem dX4_write_21 : decode cX4_write 21 = .ok (.return_, 1) := by decide +kernel
set_option maxHeartbeats 4000000 in
set_option maxRecDepth 100000 in
theorem k_X4_write {l : Launch} {D : va_G} {cy : Nat → ClassId} {Bd : Nat} {xa : Xa} {hd : Nat → Nat} {N : Nat} {hs : Nat → Int32} {hr : Nat → Int64} {hu : Nat → Int32} {a1 : Int32} {a2 : Int64} {out : (Nat → Int64)} (hf : f_X4_write N hs hr a1 a2 = some out) : KC l yX4_write cX4_write 4 none 0 0 false D cy Bd xa [.ref (hd 0), .int a1, .long a2] (hC cy hd hs hr hu) none (hC cy hd hs out hu) := by
  refine kc_start (own := RX4) (by decide +kernel) rfl (Nat.le_of_ble_eq_true rfl) ?_
  intro p e s m args below meth c A C
  unfold f_X4_write at hf
  refine tt_locs (L' := [(0, .ref (hd 0)), (1, .int a1), (2, .long a2)]) [0, 1, 2] rfl ?_
  refine tt_aload_n (pc := 0) (k := 0) C dX4_write_0 rfl rfl ?_
  refine tt_get (pc := 1) (ws := (hC cy hd hs hr hu)) (ci := 4) (v := .ref (hd 2)) C fiX4 rfl 0 hC_obj 2 (by decide) q1_205 rfl dX4_write_1 ?_
  refine tt_iload_n (pc := 4) (k := 1) C dX4_write_4 rfl rfl ?_
  refine tt_aload_n (pc := 5) (k := 0) C dX4_write_5 rfl rfl ?_
  refine tt_get (pc := 6) (ws := (hC cy hd hs hr hu)) (ci := 4) (v := .int (hs 0)) C fiX4 rfl 0 hC_obj 0 (by decide) q1_201 rfl dX4_write_6 ?_
  have k2 : TT p l e { frames := 0, cells := 0, slots := 0, locals := 0 } s m args below meth c 4 D A false none (hC cy hd hs out hu) 20 [] [.long (if (hs 0) = 0 then (((a2 : Int64).toInt32 : Int32).toInt8.toInt32 : Int32).toInt64 else a2), .int a1, .ref (hd 2)] (hC cy hd hs hr hu) := by
    refine tt_lastore (pc := 20) (ws := (hC cy hd hs hr hu)) (n := 20) (f := hr) (ws' := (hC cy hd hs (vp_updL hr (ix a1) (if (hs 0) = 0 then (((a2 : Int64).toInt32 : Int32).toInt8.toInt32 : Int32).toInt64 else a2)) hu)) C rfl 1 1 hC_get2 rfl hf dX4_write_20 hC_set2 (fun hf => ?_)
    obtain rfl := Option.some.inj hf
    exact tt_vreturn (pc := 21) C rfl rfl rfl dX4_write_21
  refine tr_if_ne (pc := 9) (tgt := 19) C dX4_write_9 (by decide) (fun c1 => ?_) (fun c1 => ?_)
  · refine tt_lload_n (pc := 19) (k := 2) C dX4_write_19 rfl rfl ?_
    try simp only [if_neg c1] at k2 ⊢
    exact tt_locs [] rfl k2
  · refine tt_lload_n (pc := 12) (k := 2) C dX4_write_12 rfl rfl ?_
    refine tt_l2i (pc := 13) C dX4_write_13 ?_
    refine tt_i2b (pc := 14) C dX4_write_14 ?_
    refine tt_i2l (pc := 15) C dX4_write_15 ?_
    refine tt_goto (pc := 16) (tgt := 20) C dX4_write_16 (by decide) ?_
    try simp only [if_pos c1] at k2 ⊢
    exact tt_locs [] rfl k2
theorem dX6_put_0 : decode cX6_put 0 = .ok (.iload_n 1, 1) := by decide +kernel
theorem dX6_put_1 : decode cX6_put 1 = .ok (.invokestatic 270, 3) := by decide +kernel
theorem dX6_put_4 : decode cX6_put 4 = .ok (.ifCond .ne 9, 3) := by decide +kernel
theorem dX6_put_7 : decode cX6_put 7 = .ok (.aload_n 0, 1) := by decide +kernel
theorem dX6_put_8 : decode cX6_put 8 = .ok (.iconst (-1), 1) := by decide +kernel
theorem dX6_put_9 : decode cX6_put 9 = .ok (.invokevirtual 87, 3) := by decide +kernel
theorem dX6_put_12 : decode cX6_put 12 = .ok (.ireturn, 1) := by decide +kernel
theorem dX6_put_13 : decode cX6_put 13 = .ok (.aload_n 0, 1) := by decide +kernel
theorem dX6_put_14 : decode cX6_put 14 = .ok (.getfield 35, 3) := by decide +kernel
theorem dX6_put_17 : decode cX6_put 17 = .ok (.iload_n 1, 1) := by decide +kernel
theorem dX6_put_18 : decode cX6_put 18 = .ok (.aaload, 1) := by decide +kernel
theorem dX6_put_19 : decode cX6_put 19 = .ok (.iload_n 2, 1) := by decide +kernel
theorem dX6_put_20 : decode cX6_put 20 = .ok (.invokevirtual 280, 3) := by decide +kernel
theorem dX6_put_23 : decode cX6_put 23 = .ok (.istore 5, 2) := by decide +kernel
theorem dX6_put_25 : decode cX6_put 25 = .ok (.iload 5, 2) := by decide +kernel
theorem dX6_put_27 : decode cX6_put 27 = .ok (.ifCond .ge 6, 3) := by decide +kernel
theorem dX6_put_30 : decode cX6_put 30 = .ok (.iload 5, 2) := by decide +kernel
theorem dX6_put_32 : decode cX6_put 32 = .ok (.ireturn, 1) := by decide +kernel
theorem dX6_put_33 : decode cX6_put 33 = .ok (.aload_n 0, 1) := by decide +kernel
theorem dX6_put_34 : decode cX6_put 34 = .ok (.getfield 35, 3) := by decide +kernel
theorem dX6_put_37 : decode cX6_put 37 = .ok (.iload_n 1, 1) := by decide +kernel
theorem dX6_put_38 : decode cX6_put 38 = .ok (.aaload, 1) := by decide +kernel
theorem dX6_put_39 : decode cX6_put 39 = .ok (.iload_n 2, 1) := by decide +kernel
theorem dX6_put_40 : decode cX6_put 40 = .ok (.lload_n 3, 1) := by decide +kernel
theorem dX6_put_41 : decode cX6_put 41 = .ok (.invokevirtual 283, 3) := by decide +kernel
theorem dX6_put_44 : decode cX6_put 44 = .ok (.iconst 1, 1) := by decide +kernel
theorem dX6_put_45 : decode cX6_put 45 = .ok (.ireturn, 1) := by decide +kernel
set_option maxHeartbeats 4000000 in
set_option maxRecDepth 100000 in
theorem k_X6_put {l : Launch} {D : va_G} {cy : Nat → ClassId} {Bd : Nat} {xa : Xa} {xd : Nat → Nat → Nat} {N : Nat} {sX : Nat → Int32} {aX : Nat → Nat → Int32} {uG : Nat → Int32} {es : Nat → Int32} {ea : Nat → Nat → Int32} {sT : Nat → Int32} {aT : Nat → Nat → Int32} {tT : Nat → Nat → Int32} {pT : Nat → Int32} {qT : Nat → Nat → Int32} {ma : Nat → Nat → Int32} {sL : Nat → Int32} {aL : Nat → Nat → Int32} {tL : Nat → Nat → Int32} {pL : Nat → Int32} {qL : Nat → Nat → Int32} {sK : Nat → Int32} {aK : Nat → Nat → Int32} {tK : Nat → Nat → Int32} {pK : Nat → Int32} {qK : Nat → Nat → Int32} {sH : Nat → Nat → Int32} {rH : Nat → Nat → Int64} {uH : Nat → Nat → Int32} {a1 : Int32} {a2 : Int32} {a3 : Int64} {out : Int32 × (Nat → Nat → Int32) × (Nat → Nat → Int64)} (hf : f_X6_put N aX sH rH a1 a2 a3 = some out) : KC l yX6_put cX6_put 6 (some .int) 1 23 false D cy Bd xa [.ref (xd 0 0), .int a1, .int a2, .long a3] (xC cy xd sX aX uG es ea sT aT tT pT qT ma sL aL tL pL qL sK aK tK pK qK sH rH uH) (some (.int out.1)) (xC cy xd sX out.2.1 uG es ea sT aT tT pT qT ma sL aL tL pL qL sK aK tK pK qK sH out.2.2 uH) := by
  refine kc_start (own := RX6) (by decide +kernel) rfl (Nat.le_of_ble_eq_true rfl) ?_
  intro p e s m args below meth c A C
  unfold f_X6_put at hf
  refine tt_locs (L' := [(0, .ref (xd 0 0)), (1, .int a1), (2, .int a2), (3, .long a3)]) [0, 1, 2, 3] rfl ?_
  refine tt_iload_n (pc := 0) (k := 1) C dX6_put_0 rfl rfl ?_
  obtain ⟨r1, hr1, hf⟩ := bind_some hf
  refine tt_callS (pc := 1) (ws := (xC cy xd sX aX uG es ea sT aT tT pT qT ma sL aL tL pL qL sK aK tK pK qK sH rH uH)) (rest := []) (st' := [.int r1]) C (k_X6_hasShelf hr1) okX6_hasShelf q4_65 (fun _ h => absurd h List.not_mem_nil) rfl rfl rfl (Nat.le_of_ble_eq_true rfl) ⟨Nat.le_of_ble_eq_true rfl, Nat.le_of_ble_eq_true rfl⟩ dX6_put_1 ?_
  refine tt_if_ne (pc := 4) (tgt := 13) C dX6_put_4 (by decide) hf (fun hf => ?_) (fun hf => ?_)
  · refine tt_aload_n (pc := 13) (k := 0) C dX6_put_13 rfl rfl ?_
    refine tt_get (pc := 14) (ws := (xC cy xd sX aX uG es ea sT aT tT pT qT ma sL aL tL pL qL sK aK tK pK qK sH rH uH)) (ci := 6) (v := .ref (xd 0 5)) C fiX6 rfl 0 xC_obj 5 (by decide) q1_224 rfl dX6_put_14 ?_
    refine tt_iload_n (pc := 17) (k := 1) C dX6_put_17 rfl rfl ?_
    refine tt_aaload (pc := 18) (ws := (xC cy xd sX aX uG es ea sT aT tT pT qT ma sL aL tL pL qL sK aK tK pK qK sH rH uH)) (n := 4) (r := (fun j => xd (10 + j) 0)) C 1 5 xC_get5 rfl hf (fun _ _ => rfl) dX6_put_18 (fun hf hlt2 => ?_)
    refine tt_iload_n (pc := 19) (k := 2) C dX6_put_19 rfl rfl ?_
    obtain ⟨r3, hr3, hf⟩ := bind_some hf
    refine tt_callR (pc := 20) (ws := (xC cy xd sX aX uG es ea sT aT tT pT qT ma sL aL tL pL qL sK aK tK pK qK sH rH uH)) (q0 := (60 + 3 * (ix a1))) (ci := 4) (rest := []) (st' := [.int r3]) C (k_X4_faultOfPlace hr3) okX4_faultOfPlace q4_85 rfl (xC_hget hlt2) (xC_subH hlt2) rfl rfl rfl (Nat.le_of_ble_eq_true rfl) ⟨Nat.le_of_ble_eq_true rfl, Nat.le_of_ble_eq_true rfl⟩ dX6_put_20 ?_
    refine tt_istore (pc := 23) (L' := [(5, .int r3), (0, .ref (xd 0 0)), (1, .int a1), (2, .int a2), (3, .long a3)]) C dX6_put_23 (by decide) rfl ?_
    refine tt_iload (pc := 25) (k := 0) C dX6_put_25 rfl ?_
    refine tt_if_ge (pc := 27) (tgt := 33) C dX6_put_27 (by decide) hf (fun hf => ?_) (fun hf => ?_)
    · refine tt_aload_n (pc := 33) (k := 1) C dX6_put_33 rfl rfl ?_
      refine tt_get (pc := 34) (ws := (xC cy xd sX aX uG es ea sT aT tT pT qT ma sL aL tL pL qL sK aK tK pK qK sH rH uH)) (ci := 6) (v := .ref (xd 0 5)) C fiX6 rfl 0 xC_obj 5 (by decide) q1_224 rfl dX6_put_34 ?_
      refine tt_iload_n (pc := 37) (k := 2) C dX6_put_37 rfl rfl ?_
      refine tt_aaload (pc := 38) (ws := (xC cy xd sX aX uG es ea sT aT tT pT qT ma sL aL tL pL qL sK aK tK pK qK sH rH uH)) (n := 4) (r := (fun j => xd (10 + j) 0)) C 1 5 xC_get5 rfl hf (fun _ _ => rfl) dX6_put_38 (fun hf hlt4 => ?_)
      refine tt_iload_n (pc := 39) (k := 3) C dX6_put_39 rfl rfl ?_
      refine tt_lload_n (pc := 40) (k := 4) C dX6_put_40 rfl rfl ?_
      obtain ⟨r5, hr5, hf⟩ := bind_some hf
      refine tt_callG (pc := 41) (ws := (xC cy xd sX aX uG es ea sT aT tT pT qT ma sL aL tL pL qL sK aK tK pK qK sH rH uH)) (ws' := (xC cy xd sX aX uG es ea sT aT tT pT qT ma sL aL tL pL qL sK aK tK pK qK sH (va_up rH (ix a1) r5) uH)) (q0 := (60 + 3 * (ix a1))) (ci := 4) (rest := []) (st' := []) C rfl (k_X4_write hr5) okX4_write q4_89 rfl (xC_hget hlt4) _ _ (xs_H hlt4) (xs_H2w hlt4) rfl rfl rfl (Nat.le_of_ble_eq_true rfl) ⟨Nat.le_of_ble_eq_true rfl, Nat.le_of_ble_eq_true rfl⟩ dX6_put_41 ?_
      refine tt_iconst (pc := 44) (v := (1 : Int32)) C dX6_put_44 (by decide) ?_
      obtain rfl := Option.some.inj hf
      exact tt_ireturn (pc := 45) C rfl rfl rfl dX6_put_45
    · refine tt_iload (pc := 30) (k := 0) C dX6_put_30 rfl ?_
      obtain rfl := Option.some.inj hf
      exact tt_ireturn (pc := 32) C rfl rfl rfl dX6_put_32
  · refine tt_aload_n (pc := 7) (k := 0) C dX6_put_7 rfl rfl ?_
    refine tt_iconst (pc := 8) (v := (-1 : Int32)) C dX6_put_8 (by decide) ?_
    obtain ⟨r6, hr6, hf⟩ := bind_some hf
    refine tt_callM (pc := 9) (ws := (xC cy xd sX aX uG es ea sT aT tT pT qT ma sL aL tL pL qL sK aK tK pK qK sH rH uH)) (q0 := 0) (ci := 6) (rest := []) (st' := [.int r6.1]) C rfl (k_X6_refused hr6) okX6_refused q2_19 rfl xC_obj rfl rfl rfl (Nat.le_of_ble_eq_true rfl) ⟨Nat.le_of_ble_eq_true rfl, Nat.le_of_ble_eq_true rfl⟩ dX6_put_9 ?_
    obtain rfl := Option.some.inj hf
    exact tt_ireturn (pc := 12) C rfl rfl rfl dX6_put_12
theorem dX6_look_0 : decode cX6_look 0 = .ok (.iload_n 1, 1) := by decide +kernel
theorem dX6_look_1 : decode cX6_look 1 = .ok (.invokestatic 270, 3) := by decide +kernel
theorem dX6_look_4 : decode cX6_look 4 = .ok (.ifCond .ne 9, 3) := by decide +kernel
theorem dX6_look_7 : decode cX6_look 7 = .ok (.aload_n 0, 1) := by decide +kernel
theorem dX6_look_8 : decode cX6_look 8 = .ok (.iconst (-1), 1) := by decide +kernel
theorem dX6_look_9 : decode cX6_look 9 = .ok (.invokevirtual 194, 3) := by decide +kernel
theorem dX6_look_12 : decode cX6_look 12 = .ok (.lreturn, 1) := by decide +kernel
theorem dX6_look_13 : decode cX6_look 13 = .ok (.aload_n 0, 1) := by decide +kernel
theorem dX6_look_14 : decode cX6_look 14 = .ok (.getfield 35, 3) := by decide +kernel
theorem dX6_look_17 : decode cX6_look 17 = .ok (.iload_n 1, 1) := by decide +kernel
theorem dX6_look_18 : decode cX6_look 18 = .ok (.aaload, 1) := by decide +kernel
theorem dX6_look_19 : decode cX6_look 19 = .ok (.iload_n 2, 1) := by decide +kernel
theorem dX6_look_20 : decode cX6_look 20 = .ok (.invokevirtual 280, 3) := by decide +kernel
theorem dX6_look_23 : decode cX6_look 23 = .ok (.istore_n 3, 1) := by decide +kernel
theorem dX6_look_24 : decode cX6_look 24 = .ok (.iload_n 3, 1) := by decide +kernel
theorem dX6_look_25 : decode cX6_look 25 = .ok (.ifCond .ge 10, 3) := by decide +kernel
theorem dX6_look_28 : decode cX6_look 28 = .ok (.ldc2_w 287, 3) := by decide +kernel
theorem dX6_look_31 : decode cX6_look 31 = .ok (.iload_n 3, 1) := by decide +kernel
theorem dX6_look_32 : decode cX6_look 32 = .ok (.i2l, 1) := by decide +kernel
theorem dX6_look_33 : decode cX6_look 33 = .ok (.lsub, 1) := by decide +kernel
theorem dX6_look_34 : decode cX6_look 34 = .ok (.lreturn, 1) := by decide +kernel
theorem dX6_look_35 : decode cX6_look 35 = .ok (.aload_n 0, 1) := by decide +kernel
theorem dX6_look_36 : decode cX6_look 36 = .ok (.getfield 35, 3) := by decide +kernel
theorem dX6_look_39 : decode cX6_look 39 = .ok (.iload_n 1, 1) := by decide +kernel
theorem dX6_look_40 : decode cX6_look 40 = .ok (.aaload, 1) := by decide +kernel
theorem dX6_look_41 : decode cX6_look 41 = .ok (.getfield 289, 3) := by decide +kernel
theorem dX6_look_44 : decode cX6_look 44 = .ok (.iload_n 2, 1) := by decide +kernel
theorem dX6_look_45 : decode cX6_look 45 = .ok (.laload, 1) := by decide +kernel
theorem dX6_look_46 : decode cX6_look 46 = .ok (.lreturn, 1) := by decide +kernel
set_option maxHeartbeats 4000000 in
set_option maxRecDepth 100000 in
theorem k_X6_look {l : Launch} {D : va_G} {cy : Nat → ClassId} {Bd : Nat} {xa : Xa} {xd : Nat → Nat → Nat} {N : Nat} {sX : Nat → Int32} {aX : Nat → Nat → Int32} {uG : Nat → Int32} {es : Nat → Int32} {ea : Nat → Nat → Int32} {sT : Nat → Int32} {aT : Nat → Nat → Int32} {tT : Nat → Nat → Int32} {pT : Nat → Int32} {qT : Nat → Nat → Int32} {ma : Nat → Nat → Int32} {sL : Nat → Int32} {aL : Nat → Nat → Int32} {tL : Nat → Nat → Int32} {pL : Nat → Int32} {qL : Nat → Nat → Int32} {sK : Nat → Int32} {aK : Nat → Nat → Int32} {tK : Nat → Nat → Int32} {pK : Nat → Int32} {qK : Nat → Nat → Int32} {sH : Nat → Nat → Int32} {rH : Nat → Nat → Int64} {uH : Nat → Nat → Int32} {a1 : Int32} {a2 : Int32} {out : Int64 × (Nat → Nat → Int32)} (hf : f_X6_look N aX sH rH a1 a2 = some out) : KC l yX6_look cX6_look 4 (some .long) 2 42 false D cy Bd xa [.ref (xd 0 0), .int a1, .int a2] (xC cy xd sX aX uG es ea sT aT tT pT qT ma sL aL tL pL qL sK aK tK pK qK sH rH uH) (some (.long out.1)) (xC cy xd sX out.2 uG es ea sT aT tT pT qT ma sL aL tL pL qL sK aK tK pK qK sH rH uH) := by
  refine kc_start (own := RX6) (by decide +kernel) rfl (Nat.le_of_ble_eq_true rfl) ?_
  intro p e s m args below meth c A C
  unfold f_X6_look at hf
  refine tt_locs (L' := [(0, .ref (xd 0 0)), (1, .int a1), (2, .int a2)]) [0, 1, 2] rfl ?_
  refine tt_iload_n (pc := 0) (k := 1) C dX6_look_0 rfl rfl ?_
  obtain ⟨r1, hr1, hf⟩ := bind_some hf
  refine tt_callS (pc := 1) (ws := (xC cy xd sX aX uG es ea sT aT tT pT qT ma sL aL tL pL qL sK aK tK pK qK sH rH uH)) (rest := []) (st' := [.int r1]) C (k_X6_hasShelf hr1) okX6_hasShelf q4_65 (fun _ h => absurd h List.not_mem_nil) rfl rfl rfl (Nat.le_of_ble_eq_true rfl) ⟨Nat.le_of_ble_eq_true rfl, Nat.le_of_ble_eq_true rfl⟩ dX6_look_1 ?_
  refine tt_if_ne (pc := 4) (tgt := 13) C dX6_look_4 (by decide) hf (fun hf => ?_) (fun hf => ?_)
  · refine tt_aload_n (pc := 13) (k := 0) C dX6_look_13 rfl rfl ?_
    refine tt_get (pc := 14) (ws := (xC cy xd sX aX uG es ea sT aT tT pT qT ma sL aL tL pL qL sK aK tK pK qK sH rH uH)) (ci := 6) (v := .ref (xd 0 5)) C fiX6 rfl 0 xC_obj 5 (by decide) q1_224 rfl dX6_look_14 ?_
    refine tt_iload_n (pc := 17) (k := 1) C dX6_look_17 rfl rfl ?_
    refine tt_aaload (pc := 18) (ws := (xC cy xd sX aX uG es ea sT aT tT pT qT ma sL aL tL pL qL sK aK tK pK qK sH rH uH)) (n := 4) (r := (fun j => xd (10 + j) 0)) C 1 5 xC_get5 rfl hf (fun _ _ => rfl) dX6_look_18 (fun hf hlt2 => ?_)
    refine tt_iload_n (pc := 19) (k := 2) C dX6_look_19 rfl rfl ?_
    obtain ⟨r3, hr3, hf⟩ := bind_some hf
    refine tt_callR (pc := 20) (ws := (xC cy xd sX aX uG es ea sT aT tT pT qT ma sL aL tL pL qL sK aK tK pK qK sH rH uH)) (q0 := (60 + 3 * (ix a1))) (ci := 4) (rest := []) (st' := [.int r3]) C (k_X4_faultOfPlace hr3) okX4_faultOfPlace q4_85 rfl (xC_hget hlt2) (xC_subH hlt2) rfl rfl rfl (Nat.le_of_ble_eq_true rfl) ⟨Nat.le_of_ble_eq_true rfl, Nat.le_of_ble_eq_true rfl⟩ dX6_look_20 ?_
    refine tt_istore_n (pc := 23) (L' := [(3, .int r3), (0, .ref (xd 0 0)), (1, .int a1), (2, .int a2)]) C dX6_look_23 rfl (by decide) rfl ?_
    refine tt_iload_n (pc := 24) (k := 0) C dX6_look_24 rfl rfl ?_
    refine tt_if_ge (pc := 25) (tgt := 35) C dX6_look_25 (by decide) hf (fun hf => ?_) (fun hf => ?_)
    · refine tt_aload_n (pc := 35) (k := 1) C dX6_look_35 rfl rfl ?_
      refine tt_get (pc := 36) (ws := (xC cy xd sX aX uG es ea sT aT tT pT qT ma sL aL tL pL qL sK aK tK pK qK sH rH uH)) (ci := 6) (v := .ref (xd 0 5)) C fiX6 rfl 0 xC_obj 5 (by decide) q1_224 rfl dX6_look_36 ?_
      refine tt_iload_n (pc := 39) (k := 2) C dX6_look_39 rfl rfl ?_
      refine tt_aaload (pc := 40) (ws := (xC cy xd sX aX uG es ea sT aT tT pT qT ma sL aL tL pL qL sK aK tK pK qK sH rH uH)) (n := 4) (r := (fun j => xd (10 + j) 0)) C 1 5 xC_get5 rfl hf (fun _ _ => rfl) dX6_look_40 (fun hf hlt4 => ?_)
      refine tt_get (pc := 41) (ws := (xC cy xd sX aX uG es ea sT aT tT pT qT ma sL aL tL pL qL sK aK tK pK qK sH rH uH)) (ci := 4) (v := .ref ((xd (10 + (ix a1))) 2)) C fiX4 rfl (60 + 3 * (ix a1)) (xC_hget hlt4) 2 (by decide) q1_206 rfl dX6_look_41 ?_
      refine tt_iload_n (pc := 44) (k := 3) C dX6_look_44 rfl rfl ?_
      refine tt_laload (pc := 45) (ws := (xC cy xd sX aX uG es ea sT aT tT pT qT ma sL aL tL pL qL sK aK tK pK qK sH rH uH)) (n := 20) (f := (rH (ix a1))) C (60 + 3 * (ix a1) + 1) 1 (xC_hrget hlt4) rfl hf dX6_look_45 (fun hf => ?_)
      obtain rfl := Option.some.inj hf
      exact tt_lreturn (pc := 46) C rfl rfl rfl dX6_look_46
    · refine tt_ldc2 (pc := 28) (v := (4000000000000000000 : Int64)) C dX6_look_28 q3_185 ?_
      refine tt_iload_n (pc := 31) (k := 0) C dX6_look_31 rfl rfl ?_
      refine tt_i2l (pc := 32) C dX6_look_32 ?_
      refine tt_lsub (pc := 33) C dX6_look_33 ?_
      obtain rfl := Option.some.inj hf
      exact tt_lreturn (pc := 34) C rfl rfl rfl dX6_look_34
  · refine tt_aload_n (pc := 7) (k := 0) C dX6_look_7 rfl rfl ?_
    refine tt_iconst (pc := 8) (v := (-1 : Int32)) C dX6_look_8 (by decide) ?_
    obtain ⟨r5, hr5, hf⟩ := bind_some hf
    refine tt_callM (pc := 9) (ws := (xC cy xd sX aX uG es ea sT aT tT pT qT ma sL aL tL pL qL sK aK tK pK qK sH rH uH)) (q0 := 0) (ci := 6) (rest := []) (st' := [.long r5.1]) C rfl (k_X6_refusedLong hr5) okX6_refusedLong q3_181 rfl xC_obj rfl rfl rfl (Nat.le_of_ble_eq_true rfl) ⟨Nat.le_of_ble_eq_true rfl, Nat.le_of_ble_eq_true rfl⟩ dX6_look_9 ?_
    obtain rfl := Option.some.inj hf
    exact tt_lreturn (pc := 12) C rfl rfl rfl dX6_look_12
theorem dX5_isOf_0 : decode cX5_isOf 0 = .ok (.aload_n 0, 1) := by decide +kernel
theorem dX5_isOf_1 : decode cX5_isOf 1 = .ok (.getfield 9, 3) := by decide +kernel
theorem dX5_isOf_4 : decode cX5_isOf 4 = .ok (.istore_n 2, 1) := by decide +kernel
theorem dX5_isOf_5 : decode cX5_isOf 5 = .ok (.iconst 0, 1) := by decide +kernel
theorem dX5_isOf_6 : decode cX5_isOf 6 = .ok (.istore_n 3, 1) := by decide +kernel
theorem dX5_isOf_7 : decode cX5_isOf 7 = .ok (.iload_n 3, 1) := by decide +kernel
theorem dX5_isOf_8 : decode cX5_isOf 8 = .ok (.bipush 6, 2) := by decide +kernel
theorem dX5_isOf_10 : decode cX5_isOf 10 = .ok (.if_icmp .ge 32, 3) := by decide +kernel
theorem dX5_isOf_13 : decode cX5_isOf 13 = .ok (.iload_n 2, 1) := by decide +kernel
theorem dX5_isOf_14 : decode cX5_isOf 14 = .ok (.ifCond .lt 28, 3) := by decide +kernel
theorem dX5_isOf_17 : decode cX5_isOf 17 = .ok (.iload_n 2, 1) := by decide +kernel
theorem dX5_isOf_18 : decode cX5_isOf 18 = .ok (.bipush 6, 2) := by decide +kernel
theorem dX5_isOf_20 : decode cX5_isOf 20 = .ok (.if_icmp .ge 22, 3) := by decide +kernel
theorem dX5_isOf_23 : decode cX5_isOf 23 = .ok (.iload_n 2, 1) := by decide +kernel
theorem dX5_isOf_24 : decode cX5_isOf 24 = .ok (.iload_n 1, 1) := by decide +kernel
theorem dX5_isOf_25 : decode cX5_isOf 25 = .ok (.if_icmp .ne 5, 3) := by decide +kernel
theorem dX5_isOf_28 : decode cX5_isOf 28 = .ok (.iconst 1, 1) := by decide +kernel
theorem dX5_isOf_29 : decode cX5_isOf 29 = .ok (.ireturn, 1) := by decide +kernel
theorem dX5_isOf_30 : decode cX5_isOf 30 = .ok (.getstatic 30, 3) := by decide +kernel
theorem dX5_isOf_33 : decode cX5_isOf 33 = .ok (.iload_n 2, 1) := by decide +kernel
theorem dX5_isOf_34 : decode cX5_isOf 34 = .ok (.iaload, 1) := by decide +kernel
theorem dX5_isOf_35 : decode cX5_isOf 35 = .ok (.istore_n 2, 1) := by decide +kernel
theorem dX5_isOf_36 : decode cX5_isOf 36 = .ok (.iinc 3 1, 3) := by decide +kernel
theorem dX5_isOf_39 : decode cX5_isOf 39 = .ok (.goto (-32), 3) := by decide +kernel
theorem dX5_isOf_42 : decode cX5_isOf 42 = .ok (.iconst 0, 1) := by decide +kernel
theorem dX5_isOf_43 : decode cX5_isOf 43 = .ok (.ireturn, 1) := by decide +kernel
set_option maxHeartbeats 4000000 in
set_option maxRecDepth 100000 in
theorem l_X5_isOf_7 {p : Program} {l : Launch} {e : Env} {s : State} {m : MethodId} {args : Array Value} {below : List Frame} {meth : Method} {c : Code} {D : va_G} {cy : Nat → ClassId} {A : Nat → Prop} {Bd : Nat} {xa : Xa} {q : Nat} {N : Nat} {u : Nat → Int32} {v1 : Int32} {kx : Unit → Option (Int32)} {out : Int32} (C : CC p s m args meth c cX5_isOf RX5 4 (some .boolean) D cy A true Bd xa) (hk : ∀ (uu : Unit), kx uu = some out → TT p l e { frames := 0, cells := 0, slots := 0, locals := 0 } s m args below meth c 4 D A true (some (.int out)) [(q, tE u)] 42 [] [] [(q, tE u)]) {n : Nat} {v2 : Int32} {v3 : Int32} (hf : f_X5_isOf_L7 N u v1 kx n v2 v3 = some out) : TT p l e { frames := 0, cells := 0, slots := 0, locals := 0 } s m args below meth c 4 D A true (some (.int out)) [(q, tE u)] 7 [(1, .int v1), (2, .int v2), (3, .int v3)] [] [(q, tE u)] := by
  induction n generalizing v2 v3 with
  | zero => cases hf
  | succ n ih =>
    rw [f_X5_isOf_L7] at hf
    refine tt_iload_n (pc := 7) (k := 2) C dX5_isOf_7 rfl rfl ?_
    refine tt_bipush (pc := 8) (v := (6 : Int32)) C dX5_isOf_8 (by decide) ?_
    refine tt_icmp_ge (pc := 10) (tgt := 42) C dX5_isOf_10 (by decide) hf (fun hf => ?_) (fun hf => ?_)
    · exact tt_locs [] rfl (hk () hf)
    · refine tt_iload_n (pc := 13) (k := 1) C dX5_isOf_13 rfl rfl ?_
      refine tt_if_lt (pc := 14) (tgt := 42) C dX5_isOf_14 (by decide) hf (fun hf => ?_) (fun hf => ?_)
      · exact tt_locs [] rfl (hk () hf)
      · refine tt_iload_n (pc := 17) (k := 1) C dX5_isOf_17 rfl rfl ?_
        refine tt_bipush (pc := 18) (v := (6 : Int32)) C dX5_isOf_18 (by decide) ?_
        refine tt_icmp_ge (pc := 20) (tgt := 42) C dX5_isOf_20 (by decide) hf (fun hf => ?_) (fun hf => ?_)
        · exact tt_locs [] rfl (hk () hf)
        · refine tt_iload_n (pc := 23) (k := 1) C dX5_isOf_23 rfl rfl ?_
          refine tt_iload_n (pc := 24) (k := 0) C dX5_isOf_24 rfl rfl ?_
          refine tt_icmp_ne (pc := 25) (tgt := 30) C dX5_isOf_25 (by decide) hf (fun hf => ?_) (fun hf => ?_)
          · refine tt_kind (pc := 30) C q4_105 dX5_isOf_30 ?_
            refine tt_iload_n (pc := 33) (k := 1) C dX5_isOf_33 rfl rfl ?_
            refine tt_kload (pc := 34) C hf dX5_isOf_34 (fun hf => ?_)
            refine tt_istore_n (pc := 35) (L' := [(2, .int (kindAbove (ix v2))), (1, .int v1), (3, .int v3)]) C dX5_isOf_35 rfl (by decide) rfl ?_
            refine tt_iinc (pc := 36) (k := 2) (v := (v3 + 1)) (L' := [(3, .int (v3 + 1)), (2, .int (kindAbove (ix v2))), (1, .int v1)]) C dX5_isOf_36 rfl rfl (by decide) rfl ?_
            refine tt_goto (pc := 39) (tgt := 7) C dX5_isOf_39 (by decide) ?_
            exact tt_locs [2, 1, 0] rfl (ih hf)
          · refine tt_iconst (pc := 28) (v := (1 : Int32)) C dX5_isOf_28 (by decide) ?_
            obtain rfl := Option.some.inj hf
            exact tt_zreturn (pc := 29) C rfl rfl rfl rfl dX5_isOf_29
set_option maxHeartbeats 4000000 in
set_option maxRecDepth 100000 in
theorem k_X5_isOf {l : Launch} {D : va_G} {cy : Nat → ClassId} {Bd : Nat} {xa : Xa} {q : Nat} {N : Nat} {u : Nat → Int32} {a1 : Int32} {out : Int32} (hf : f_X5_isOf N u a1 = some out) : KC l yX5_isOf cX5_isOf 4 (some .boolean) 0 0 true D cy Bd xa [.ref q, .int a1] [(q, tE u)] (some (.int out)) [(q, tE u)] := by
  refine kc_start (own := RX5) (by decide +kernel) rfl (Nat.le_of_ble_eq_true rfl) ?_
  intro p e s m args below meth c A C
  unfold f_X5_isOf at hf
  refine tt_locs (L' := [(0, .ref q), (1, .int a1)]) [0, 1] rfl ?_
  refine tt_aload_n (pc := 0) (k := 0) C dX5_isOf_0 rfl rfl ?_
  refine tt_get (pc := 1) (ws := [(q, tE u)]) (ci := 5) (v := .int (u 0)) C fiX5 rfl 0 rfl 0 (by decide) q1_61 rfl dX5_isOf_1 ?_
  refine tt_istore_n (pc := 4) (L' := [(2, .int (u 0)), (0, .ref q), (1, .int a1)]) C dX5_isOf_4 rfl (by decide) rfl ?_
  refine tt_iconst (pc := 5) (v := (0 : Int32)) C dX5_isOf_5 (by decide) ?_
  refine tt_istore_n (pc := 6) (L' := [(3, .int (0 : Int32)), (2, .int (u 0)), (0, .ref q), (1, .int a1)]) C dX5_isOf_6 rfl (by decide) rfl ?_
  refine tt_locs (L' := [(1, .int a1), (2, .int (u 0)), (3, .int (0 : Int32))]) [3, 1, 0] rfl (l_X5_isOf_7 C (fun _ hf => ?_) hf)
  refine tt_iconst (pc := 42) (v := (0 : Int32)) C dX5_isOf_42 (by decide) ?_
  obtain rfl := Option.some.inj hf
  exact tt_zreturn (pc := 43) C rfl rfl rfl rfl dX5_isOf_43
theorem dX6_taken_0 : decode cX6_taken 0 = .ok (.iload_n 1, 1) := by decide +kernel
theorem dX6_taken_1 : decode cX6_taken 1 = .ok (.invokestatic 270, 3) := by decide +kernel
theorem dX6_taken_4 : decode cX6_taken 4 = .ok (.ifCond .ne 9, 3) := by decide +kernel
theorem dX6_taken_7 : decode cX6_taken 7 = .ok (.aload_n 0, 1) := by decide +kernel
theorem dX6_taken_8 : decode cX6_taken 8 = .ok (.iconst (-1), 1) := by decide +kernel
theorem dX6_taken_9 : decode cX6_taken 9 = .ok (.invokevirtual 87, 3) := by decide +kernel
theorem dX6_taken_12 : decode cX6_taken 12 = .ok (.ireturn, 1) := by decide +kernel
theorem dX6_taken_13 : decode cX6_taken 13 = .ok (.iload_n 2, 1) := by decide +kernel
theorem dX6_taken_14 : decode cX6_taken 14 = .ok (.ifCond .lt 9, 3) := by decide +kernel
theorem dX6_taken_17 : decode cX6_taken 17 = .ok (.iload_n 2, 1) := by decide +kernel
theorem dX6_taken_18 : decode cX6_taken 18 = .ok (.bipush 6, 2) := by decide +kernel
theorem dX6_taken_20 : decode cX6_taken 20 = .ok (.if_icmp .lt 10, 3) := by decide +kernel
theorem dX6_taken_23 : decode cX6_taken 23 = .ok (.aload_n 0, 1) := by decide +kernel
theorem dX6_taken_24 : decode cX6_taken 24 = .ok (.bipush (-2), 2) := by decide +kernel
theorem dX6_taken_26 : decode cX6_taken 26 = .ok (.invokevirtual 87, 3) := by decide +kernel
theorem dX6_taken_29 : decode cX6_taken 29 = .ok (.ireturn, 1) := by decide +kernel
theorem dX6_taken_30 : decode cX6_taken 30 = .ok (.aload_n 0, 1) := by decide +kernel
theorem dX6_taken_31 : decode cX6_taken 31 = .ok (.getfield 35, 3) := by decide +kernel
theorem dX6_taken_34 : decode cX6_taken 34 = .ok (.iload_n 1, 1) := by decide +kernel
theorem dX6_taken_35 : decode cX6_taken 35 = .ok (.aaload, 1) := by decide +kernel
theorem dX6_taken_36 : decode cX6_taken 36 = .ok (.astore_n 3, 1) := by decide +kernel
theorem dX6_taken_37 : decode cX6_taken 37 = .ok (.aload_n 3, 1) := by decide +kernel
theorem dX6_taken_38 : decode cX6_taken 38 = .ok (.getfield 293, 3) := by decide +kernel
theorem dX6_taken_41 : decode cX6_taken 41 = .ok (.iconst (-1), 1) := by decide +kernel
theorem dX6_taken_42 : decode cX6_taken 42 = .ok (.if_icmp .ne 6, 3) := by decide +kernel
theorem dX6_taken_45 : decode cX6_taken 45 = .ok (.bipush (-11), 2) := by decide +kernel
theorem dX6_taken_47 : decode cX6_taken 47 = .ok (.ireturn, 1) := by decide +kernel
theorem dX6_taken_48 : decode cX6_taken 48 = .ok (.aload_n 3, 1) := by decide +kernel
theorem dX6_taken_49 : decode cX6_taken 49 = .ok (.getfield 293, 3) := by decide +kernel
theorem dX6_taken_52 : decode cX6_taken 52 = .ok (.iconst 2, 1) := by decide +kernel
theorem dX6_taken_53 : decode cX6_taken 53 = .ok (.if_icmp .ne 14, 3) := by decide +kernel
theorem dX6_taken_56 : decode cX6_taken 56 = .ok (.aload_n 3, 1) := by decide +kernel
theorem dX6_taken_57 : decode cX6_taken 57 = .ok (.getfield 296, 3) := by decide +kernel
theorem dX6_taken_60 : decode cX6_taken 60 = .ok (.iload_n 2, 1) := by decide +kernel
theorem dX6_taken_61 : decode cX6_taken 61 = .ok (.invokevirtual 299, 3) := by decide +kernel
theorem dX6_taken_64 : decode cX6_taken 64 = .ok (.ifCond .ne 6, 3) := by decide +kernel
theorem dX6_taken_67 : decode cX6_taken 67 = .ok (.bipush (-12), 2) := by decide +kernel
theorem dX6_taken_69 : decode cX6_taken 69 = .ok (.ireturn, 1) := by decide +kernel
theorem dX6_taken_70 : decode cX6_taken 70 = .ok (.aload_n 3, 1) := by decide +kernel
theorem dX6_taken_71 : decode cX6_taken 71 = .ok (.getfield 296, 3) := by decide +kernel
theorem dX6_taken_74 : decode cX6_taken 74 = .ok (.invokevirtual 148, 3) := by decide +kernel
theorem dX6_taken_77 : decode cX6_taken 77 = .ok (.ireturn, 1) := by decide +kernel
set_option maxHeartbeats 4000000 in
set_option maxRecDepth 100000 in
theorem k_X6_taken {l : Launch} {D : va_G} {cy : Nat → ClassId} {Bd : Nat} {xa : Xa} {xd : Nat → Nat → Nat} {N : Nat} {sX : Nat → Int32} {aX : Nat → Nat → Int32} {uG : Nat → Int32} {es : Nat → Int32} {ea : Nat → Nat → Int32} {sT : Nat → Int32} {aT : Nat → Nat → Int32} {tT : Nat → Nat → Int32} {pT : Nat → Int32} {qT : Nat → Nat → Int32} {ma : Nat → Nat → Int32} {sL : Nat → Int32} {aL : Nat → Nat → Int32} {tL : Nat → Nat → Int32} {pL : Nat → Int32} {qL : Nat → Nat → Int32} {sK : Nat → Int32} {aK : Nat → Nat → Int32} {tK : Nat → Nat → Int32} {pK : Nat → Int32} {qK : Nat → Nat → Int32} {sH : Nat → Nat → Int32} {rH : Nat → Nat → Int64} {uH : Nat → Nat → Int32} {a1 : Int32} {a2 : Int32} {out : Int32 × (Nat → Nat → Int32)} (hf : f_X6_taken N aX sH uH a1 a2 = some out) : KC l yX6_taken cX6_taken 4 (some .int) 1 23 false D cy Bd xa [.ref (xd 0 0), .int a1, .int a2] (xC cy xd sX aX uG es ea sT aT tT pT qT ma sL aL tL pL qL sK aK tK pK qK sH rH uH) (some (.int out.1)) (xC cy xd sX out.2 uG es ea sT aT tT pT qT ma sL aL tL pL qL sK aK tK pK qK sH rH uH) := by
  refine kc_start (own := RX6) (by decide +kernel) rfl (Nat.le_of_ble_eq_true rfl) ?_
  intro p e s m args below meth c A C
  unfold f_X6_taken at hf
  refine tt_locs (L' := [(0, .ref (xd 0 0)), (1, .int a1), (2, .int a2)]) [0, 1, 2] rfl ?_
  refine tt_iload_n (pc := 0) (k := 1) C dX6_taken_0 rfl rfl ?_
  obtain ⟨r1, hr1, hf⟩ := bind_some hf
  refine tt_callS (pc := 1) (ws := (xC cy xd sX aX uG es ea sT aT tT pT qT ma sL aL tL pL qL sK aK tK pK qK sH rH uH)) (rest := []) (st' := [.int r1]) C (k_X6_hasShelf hr1) okX6_hasShelf q4_65 (fun _ h => absurd h List.not_mem_nil) rfl rfl rfl (Nat.le_of_ble_eq_true rfl) ⟨Nat.le_of_ble_eq_true rfl, Nat.le_of_ble_eq_true rfl⟩ dX6_taken_1 ?_
  refine tt_if_ne (pc := 4) (tgt := 13) C dX6_taken_4 (by decide) hf (fun hf => ?_) (fun hf => ?_)
  · refine tt_iload_n (pc := 13) (k := 2) C dX6_taken_13 rfl rfl ?_
    refine tt_if_lt (pc := 14) (tgt := 23) C dX6_taken_14 (by decide) hf (fun hf => ?_) (fun hf => ?_)
    · refine tt_aload_n (pc := 23) (k := 0) C dX6_taken_23 rfl rfl ?_
      refine tt_bipush (pc := 24) (v := (-2 : Int32)) C dX6_taken_24 (by decide) ?_
      obtain ⟨r2, hr2, hf⟩ := bind_some hf
      refine tt_callM (pc := 26) (ws := (xC cy xd sX aX uG es ea sT aT tT pT qT ma sL aL tL pL qL sK aK tK pK qK sH rH uH)) (q0 := 0) (ci := 6) (rest := []) (st' := [.int r2.1]) C rfl (k_X6_refused hr2) okX6_refused q2_19 rfl xC_obj rfl rfl rfl (Nat.le_of_ble_eq_true rfl) ⟨Nat.le_of_ble_eq_true rfl, Nat.le_of_ble_eq_true rfl⟩ dX6_taken_26 ?_
      obtain rfl := Option.some.inj hf
      exact tt_ireturn (pc := 29) C rfl rfl rfl dX6_taken_29
    · refine tt_iload_n (pc := 17) (k := 2) C dX6_taken_17 rfl rfl ?_
      refine tt_bipush (pc := 18) (v := (6 : Int32)) C dX6_taken_18 (by decide) ?_
      refine tt_icmp_lt (pc := 20) (tgt := 30) C dX6_taken_20 (by decide) hf (fun hf => ?_) (fun hf => ?_)
      · refine tt_aload_n (pc := 30) (k := 0) C dX6_taken_30 rfl rfl ?_
        refine tt_get (pc := 31) (ws := (xC cy xd sX aX uG es ea sT aT tT pT qT ma sL aL tL pL qL sK aK tK pK qK sH rH uH)) (ci := 6) (v := .ref (xd 0 5)) C fiX6 rfl 0 xC_obj 5 (by decide) q1_224 rfl dX6_taken_31 ?_
        refine tt_iload_n (pc := 34) (k := 1) C dX6_taken_34 rfl rfl ?_
        refine tt_aaload (pc := 35) (ws := (xC cy xd sX aX uG es ea sT aT tT pT qT ma sL aL tL pL qL sK aK tK pK qK sH rH uH)) (n := 4) (r := (fun j => xd (10 + j) 0)) C 1 5 xC_get5 rfl hf (fun _ _ => rfl) dX6_taken_35 (fun hf hlt3 => ?_)
        refine tt_astore_n (pc := 36) (L' := [(3, .ref ((xd (10 + (ix a1))) 0)), (0, .ref (xd 0 0)), (1, .int a1), (2, .int a2)]) C dX6_taken_36 rfl (by decide) rfl ?_
        refine tt_aload_n (pc := 37) (k := 0) C dX6_taken_37 rfl rfl ?_
        refine tt_get (pc := 38) (ws := (xC cy xd sX aX uG es ea sT aT tT pT qT ma sL aL tL pL qL sK aK tK pK qK sH rH uH)) (ci := 4) (v := .int ((sH (ix a1)) 0)) C fiX4 rfl (60 + 3 * (ix a1)) (xC_hget hlt3) 0 (by decide) q1_202 rfl dX6_taken_38 ?_
        refine tt_iconst (pc := 41) (v := (-1 : Int32)) C dX6_taken_41 (by decide) ?_
        refine tt_icmp_ne (pc := 42) (tgt := 48) C dX6_taken_42 (by decide) hf (fun hf => ?_) (fun hf => ?_)
        · refine tt_aload_n (pc := 48) (k := 0) C dX6_taken_48 rfl rfl ?_
          refine tt_get (pc := 49) (ws := (xC cy xd sX aX uG es ea sT aT tT pT qT ma sL aL tL pL qL sK aK tK pK qK sH rH uH)) (ci := 4) (v := .int ((sH (ix a1)) 0)) C fiX4 rfl (60 + 3 * (ix a1)) (xC_hget hlt3) 0 (by decide) q1_202 rfl dX6_taken_49 ?_
          refine tt_iconst (pc := 52) (v := (2 : Int32)) C dX6_taken_52 (by decide) ?_
          refine tt_icmp_ne (pc := 53) (tgt := 67) C dX6_taken_53 (by decide) hf (fun hf => ?_) (fun hf => ?_)
          · refine tt_bipush (pc := 67) (v := (-12 : Int32)) C dX6_taken_67 (by decide) ?_
            obtain rfl := Option.some.inj hf
            exact tt_ireturn (pc := 69) C rfl rfl rfl dX6_taken_69
          · refine tt_aload_n (pc := 56) (k := 0) C dX6_taken_56 rfl rfl ?_
            refine tt_get (pc := 57) (ws := (xC cy xd sX aX uG es ea sT aT tT pT qT ma sL aL tL pL qL sK aK tK pK qK sH rH uH)) (ci := 4) (v := .ref ((xd (10 + (ix a1))) 3)) C fiX4 rfl (60 + 3 * (ix a1)) (xC_hget hlt3) 3 (by decide) q1_208 rfl dX6_taken_57 ?_
            refine tt_iload_n (pc := 60) (k := 3) C dX6_taken_60 rfl rfl ?_
            obtain ⟨r4, hr4, hf⟩ := bind_some hf
            refine tt_callR (pc := 61) (ws := (xC cy xd sX aX uG es ea sT aT tT pT qT ma sL aL tL pL qL sK aK tK pK qK sH rH uH)) (q0 := (60 + 3 * (ix a1) + 2)) (ci := 5) (rest := []) (st' := [.int r4]) C (k_X5_isOf hr4) okX5_isOf q4_101 rfl (xC_htget hlt3) (sub_1 (List.mem_of_getElem? (xC_htget hlt3))) rfl rfl rfl (Nat.le_of_ble_eq_true rfl) ⟨Nat.le_of_ble_eq_true rfl, Nat.le_of_ble_eq_true rfl⟩ dX6_taken_61 ?_
            refine tt_if_ne (pc := 64) (tgt := 70) C dX6_taken_64 (by decide) hf (fun hf => ?_) (fun hf => ?_)
            · refine tt_aload_n (pc := 70) (k := 0) C dX6_taken_70 rfl rfl ?_
              refine tt_get (pc := 71) (ws := (xC cy xd sX aX uG es ea sT aT tT pT qT ma sL aL tL pL qL sK aK tK pK qK sH rH uH)) (ci := 4) (v := .ref ((xd (10 + (ix a1))) 3)) C fiX4 rfl (60 + 3 * (ix a1)) (xC_hget hlt3) 3 (by decide) q1_208 rfl dX6_taken_71 ?_
              obtain ⟨r5, hr5, hf⟩ := bind_some hf
              refine tt_callR (pc := 74) (ws := (xC cy xd sX aX uG es ea sT aT tT pT qT ma sL aL tL pL qL sK aK tK pK qK sH rH uH)) (q0 := (60 + 3 * (ix a1) + 2)) (ci := 5) (rest := []) (st' := [.int r5]) C (k_X5_eye hr5) okX5_eye q3_47 rfl (xC_htget hlt3) (sub_1 (List.mem_of_getElem? (xC_htget hlt3))) rfl rfl rfl (Nat.le_of_ble_eq_true rfl) ⟨Nat.le_of_ble_eq_true rfl, Nat.le_of_ble_eq_true rfl⟩ dX6_taken_74 ?_
              obtain rfl := Option.some.inj hf
              exact tt_ireturn (pc := 77) C rfl rfl rfl dX6_taken_77
            · refine tt_bipush (pc := 67) (v := (-12 : Int32)) C dX6_taken_67 (by decide) ?_
              obtain rfl := Option.some.inj hf
              exact tt_ireturn (pc := 69) C rfl rfl rfl dX6_taken_69
        · refine tt_bipush (pc := 45) (v := (-11 : Int32)) C dX6_taken_45 (by decide) ?_
          obtain rfl := Option.some.inj hf
          exact tt_ireturn (pc := 47) C rfl rfl rfl dX6_taken_47
      · refine tt_aload_n (pc := 23) (k := 0) C dX6_taken_23 rfl rfl ?_
        refine tt_bipush (pc := 24) (v := (-2 : Int32)) C dX6_taken_24 (by decide) ?_
        obtain ⟨r6, hr6, hf⟩ := bind_some hf
        refine tt_callM (pc := 26) (ws := (xC cy xd sX aX uG es ea sT aT tT pT qT ma sL aL tL pL qL sK aK tK pK qK sH rH uH)) (q0 := 0) (ci := 6) (rest := []) (st' := [.int r6.1]) C rfl (k_X6_refused hr6) okX6_refused q2_19 rfl xC_obj rfl rfl rfl (Nat.le_of_ble_eq_true rfl) ⟨Nat.le_of_ble_eq_true rfl, Nat.le_of_ble_eq_true rfl⟩ dX6_taken_26 ?_
        obtain rfl := Option.some.inj hf
        exact tt_ireturn (pc := 29) C rfl rfl rfl dX6_taken_29
  · refine tt_aload_n (pc := 7) (k := 0) C dX6_taken_7 rfl rfl ?_
    refine tt_iconst (pc := 8) (v := (-1 : Int32)) C dX6_taken_8 (by decide) ?_
    obtain ⟨r7, hr7, hf⟩ := bind_some hf
    refine tt_callM (pc := 9) (ws := (xC cy xd sX aX uG es ea sT aT tT pT qT ma sL aL tL pL qL sK aK tK pK qK sH rH uH)) (q0 := 0) (ci := 6) (rest := []) (st' := [.int r7.1]) C rfl (k_X6_refused hr7) okX6_refused q2_19 rfl xC_obj rfl rfl rfl (Nat.le_of_ble_eq_true rfl) ⟨Nat.le_of_ble_eq_true rfl, Nat.le_of_ble_eq_true rfl⟩ dX6_taken_9 ?_
    obtain rfl := Option.some.inj hf
    exact tt_ireturn (pc := 12) C rfl rfl rfl dX6_taken_12
theorem dX4_faultOfSort_0 : decode cX4_faultOfSort 0 = .ok (.aload_n 0, 1) := by decide +kernel
theorem dX4_faultOfSort_1 : decode cX4_faultOfSort 1 = .ok (.getfield 11, 3) := by decide +kernel
theorem dX4_faultOfSort_4 : decode cX4_faultOfSort 4 = .ok (.iconst (-1), 1) := by decide +kernel
theorem dX4_faultOfSort_5 : decode cX4_faultOfSort 5 = .ok (.if_icmp .ne 6, 3) := by decide +kernel
theorem dX4_faultOfSort_8 : decode cX4_faultOfSort 8 = .ok (.bipush (-11), 2) := by decide +kernel
theorem dX4_faultOfSort_10 : decode cX4_faultOfSort 10 = .ok (.ireturn, 1) := by decide +kernel
theorem dX4_faultOfSort_11 : decode cX4_faultOfSort 11 = .ok (.aload_n 0, 1) := by decide +kernel
theorem dX4_faultOfSort_12 : decode cX4_faultOfSort 12 = .ok (.getfield 11, 3) := by decide +kernel
theorem dX4_faultOfSort_15 : decode cX4_faultOfSort 15 = .ok (.iload_n 1, 1) := by decide +kernel
theorem dX4_faultOfSort_16 : decode cX4_faultOfSort 16 = .ok (.if_icmp .ne 7, 3) := by decide +kernel
theorem dX4_faultOfSort_19 : decode cX4_faultOfSort 19 = .ok (.iconst 0, 1) := by decide +kernel
theorem dX4_faultOfSort_20 : decode cX4_faultOfSort 20 = .ok (.goto 5, 3) := by decide +kernel
theorem dX4_faultOfSort_23 : decode cX4_faultOfSort 23 = .ok (.bipush (-12), 2) := by decide +kernel
theorem dX4_faultOfSort_25 : decode cX4_faultOfSort 25 = .ok (.ireturn, 1) := by decide +kernel
set_option maxHeartbeats 4000000 in
set_option maxRecDepth 100000 in
theorem k_X4_faultOfSort {l : Launch} {D : va_G} {cy : Nat → ClassId} {Bd : Nat} {xa : Xa} {hd : Nat → Nat} {N : Nat} {hs : Nat → Int32} {hr : Nat → Int64} {hu : Nat → Int32} {a1 : Int32} {out : Int32} (hf : f_X4_faultOfSort N hs a1 = some out) : KC l yX4_faultOfSort cX4_faultOfSort 2 (some .int) 0 0 true D cy Bd xa [.ref (hd 0), .int a1] (hC cy hd hs hr hu) (some (.int out)) (hC cy hd hs hr hu) := by
  refine kc_start (own := RX4) (by decide +kernel) rfl (Nat.le_of_ble_eq_true rfl) ?_
  intro p e s m args below meth c A C
  unfold f_X4_faultOfSort at hf
  refine tt_locs (L' := [(0, .ref (hd 0)), (1, .int a1)]) [0, 1] rfl ?_
  refine tt_aload_n (pc := 0) (k := 0) C dX4_faultOfSort_0 rfl rfl ?_
  refine tt_get (pc := 1) (ws := (hC cy hd hs hr hu)) (ci := 4) (v := .int (hs 0)) C fiX4 rfl 0 hC_obj 0 (by decide) q1_201 rfl dX4_faultOfSort_1 ?_
  refine tt_iconst (pc := 4) (v := (-1 : Int32)) C dX4_faultOfSort_4 (by decide) ?_
  refine tt_icmp_ne (pc := 5) (tgt := 11) C dX4_faultOfSort_5 (by decide) hf (fun hf => ?_) (fun hf => ?_)
  · refine tt_aload_n (pc := 11) (k := 0) C dX4_faultOfSort_11 rfl rfl ?_
    refine tt_get (pc := 12) (ws := (hC cy hd hs hr hu)) (ci := 4) (v := .int (hs 0)) C fiX4 rfl 0 hC_obj 0 (by decide) q1_201 rfl dX4_faultOfSort_12 ?_
    refine tt_iload_n (pc := 15) (k := 1) C dX4_faultOfSort_15 rfl rfl ?_
    have k2 : TT p l e { frames := 0, cells := 0, slots := 0, locals := 0 } s m args below meth c 2 D A true (some (.int out)) (hC cy hd hs hr hu) 25 [] [.int (if (hs 0) = a1 then (0 : Int32) else (-12 : Int32))] (hC cy hd hs hr hu) := by
      obtain rfl := Option.some.inj hf
      exact tt_ireturn (pc := 25) C rfl rfl rfl dX4_faultOfSort_25
    refine tr_icmp_ne (pc := 16) (tgt := 23) C dX4_faultOfSort_16 (by decide) (fun c1 => ?_) (fun c1 => ?_)
    · refine tt_bipush (pc := 23) (v := (-12 : Int32)) C dX4_faultOfSort_23 (by decide) ?_
      try simp only [if_neg c1] at k2 ⊢
      exact tt_locs [] rfl k2
    · refine tt_iconst (pc := 19) (v := (0 : Int32)) C dX4_faultOfSort_19 (by decide) ?_
      refine tt_goto (pc := 20) (tgt := 25) C dX4_faultOfSort_20 (by decide) ?_
      try simp only [if_pos c1] at k2 ⊢
      exact tt_locs [] rfl k2
  · refine tt_bipush (pc := 8) (v := (-11 : Int32)) C dX4_faultOfSort_8 (by decide) ?_
    obtain rfl := Option.some.inj hf
    exact tt_ireturn (pc := 10) C rfl rfl rfl dX4_faultOfSort_10
theorem dX6_timesFit_0 : decode cX6_timesFit 0 = .ok (.iconst 0, 1) := by decide +kernel
theorem dX6_timesFit_1 : decode cX6_timesFit 1 = .ok (.istore_n 2, 1) := by decide +kernel
theorem dX6_timesFit_2 : decode cX6_timesFit 2 = .ok (.iload_n 2, 1) := by decide +kernel
theorem dX6_timesFit_3 : decode cX6_timesFit 3 = .ok (.aload_n 1, 1) := by decide +kernel
theorem dX6_timesFit_4 : decode cX6_timesFit 4 = .ok (.getfield 312, 3) := by decide +kernel
theorem dX6_timesFit_7 : decode cX6_timesFit 7 = .ok (.if_icmp .ge 52, 3) := by decide +kernel
theorem dX6_timesFit_10 : decode cX6_timesFit 10 = .ok (.iload_n 2, 1) := by decide +kernel
theorem dX6_timesFit_11 : decode cX6_timesFit 11 = .ok (.aload_n 0, 1) := by decide +kernel
theorem dX6_timesFit_12 : decode cX6_timesFit 12 = .ok (.getfield 10, 3) := by decide +kernel
theorem dX6_timesFit_15 : decode cX6_timesFit 15 = .ok (.getfield 230, 3) := by decide +kernel
theorem dX6_timesFit_18 : decode cX6_timesFit 18 = .ok (.if_icmp .ge 41, 3) := by decide +kernel
theorem dX6_timesFit_21 : decode cX6_timesFit 21 = .ok (.aload_n 0, 1) := by decide +kernel
theorem dX6_timesFit_22 : decode cX6_timesFit 22 = .ok (.getfield 10, 3) := by decide +kernel
theorem dX6_timesFit_25 : decode cX6_timesFit 25 = .ok (.aload_n 0, 1) := by decide +kernel
theorem dX6_timesFit_26 : decode cX6_timesFit 26 = .ok (.getfield 49, 3) := by decide +kernel
theorem dX6_timesFit_29 : decode cX6_timesFit 29 = .ok (.iload_n 2, 1) := by decide +kernel
theorem dX6_timesFit_30 : decode cX6_timesFit 30 = .ok (.aload_n 0, 1) := by decide +kernel
theorem dX6_timesFit_31 : decode cX6_timesFit 31 = .ok (.getfield 10, 3) := by decide +kernel
theorem dX6_timesFit_34 : decode cX6_timesFit 34 = .ok (.invokevirtual 157, 3) := by decide +kernel
theorem dX6_timesFit_37 : decode cX6_timesFit 37 = .ok (.invokevirtual 160, 3) := by decide +kernel
theorem dX6_timesFit_40 : decode cX6_timesFit 40 = .ok (.i2l, 1) := by decide +kernel
theorem dX6_timesFit_41 : decode cX6_timesFit 41 = .ok (.aload_n 1, 1) := by decide +kernel
theorem dX6_timesFit_42 : decode cX6_timesFit 42 = .ok (.getfield 289, 3) := by decide +kernel
theorem dX6_timesFit_45 : decode cX6_timesFit 45 = .ok (.iload_n 2, 1) := by decide +kernel
theorem dX6_timesFit_46 : decode cX6_timesFit 46 = .ok (.laload, 1) := by decide +kernel
theorem dX6_timesFit_47 : decode cX6_timesFit 47 = .ok (.lcmp, 1) := by decide +kernel
theorem dX6_timesFit_48 : decode cX6_timesFit 48 = .ok (.ifCond .eq 5, 3) := by decide +kernel
theorem dX6_timesFit_51 : decode cX6_timesFit 51 = .ok (.iconst 0, 1) := by decide +kernel
theorem dX6_timesFit_52 : decode cX6_timesFit 52 = .ok (.ireturn, 1) := by decide +kernel
theorem dX6_timesFit_53 : decode cX6_timesFit 53 = .ok (.iinc 2 1, 3) := by decide +kernel
theorem dX6_timesFit_56 : decode cX6_timesFit 56 = .ok (.goto (-54), 3) := by decide +kernel
theorem dX6_timesFit_59 : decode cX6_timesFit 59 = .ok (.iconst 1, 1) := by decide +kernel
theorem dX6_timesFit_60 : decode cX6_timesFit 60 = .ok (.ireturn, 1) := by decide +kernel
set_option maxHeartbeats 4000000 in
set_option maxRecDepth 100000 in
theorem l_X6_timesFit_2 {p : Program} {l : Launch} {e : Env} {s : State} {m : MethodId} {args : Array Value} {below : List Frame} {meth : Method} {c : Code} {D : va_G} {cy : Nat → ClassId} {A : Nat → Prop} {Bd : Nat} {xa : Xa} {xd : Nat → Nat → Nat} {N : Nat} {uG : Nat → Int32} {sL : Nat → Int32} {aL : Nat → Nat → Int32} {sH : Nat → Nat → Int32} {rH : Nat → Nat → Int64} {sX : Nat → Int32} {aX : Nat → Nat → Int32} {es : Nat → Int32} {ea : Nat → Nat → Int32} {sT : Nat → Int32} {aT : Nat → Nat → Int32} {tT : Nat → Nat → Int32} {pT : Nat → Int32} {qT : Nat → Nat → Int32} {ma : Nat → Nat → Int32} {tL : Nat → Nat → Int32} {pL : Nat → Int32} {qL : Nat → Nat → Int32} {sK : Nat → Int32} {aK : Nat → Nat → Int32} {tK : Nat → Nat → Int32} {pK : Nat → Int32} {qK : Nat → Nat → Int32} {uH : Nat → Nat → Int32} {jv : Nat} {kx : Unit → Option (Int32)} {out : Int32} (C : CC p s m args meth c cX6_timesFit RX6 3 (some .boolean) D cy A true Bd xa) (hj : jv < 4) (hk : ∀ (uu : Unit), kx uu = some out → TT p l e { frames := 3, cells := 0, slots := 0, locals := 69 } s m args below meth c 3 D A true (some (.int out)) (xC cy xd sX aX uG es ea sT aT tT pT qT ma sL aL tL pL qL sK aK tK pK qK sH rH uH) 59 [] [] (xC cy xd sX aX uG es ea sT aT tT pT qT ma sL aL tL pL qL sK aK tK pK qK sH rH uH)) {n : Nat} {v2 : Int32} (hf : f_X6_timesFit_L2 N uG sL aL sH rH jv kx n v2 = some out) : TT p l e { frames := 3, cells := 0, slots := 0, locals := 69 } s m args below meth c 3 D A true (some (.int out)) (xC cy xd sX aX uG es ea sT aT tT pT qT ma sL aL tL pL qL sK aK tK pK qK sH rH uH) 2 [(0, .ref (xd 0 0)), (1, .ref ((xd (10 + jv)) 0)), (2, .int v2)] [] (xC cy xd sX aX uG es ea sT aT tT pT qT ma sL aL tL pL qL sK aK tK pK qK sH rH uH) := by
  induction n generalizing v2 with
  | zero => cases hf
  | succ n ih =>
    rw [f_X6_timesFit_L2] at hf
    refine tt_iload_n (pc := 2) (k := 2) C dX6_timesFit_2 rfl rfl ?_
    refine tt_aload_n (pc := 3) (k := 1) C dX6_timesFit_3 rfl rfl ?_
    refine tt_get (pc := 4) (ws := (xC cy xd sX aX uG es ea sT aT tT pT qT ma sL aL tL pL qL sK aK tK pK qK sH rH uH)) (ci := 4) (v := .int ((sH jv) 1)) C fiX4 rfl (60 + 3 * jv) (xC_hget hj) 1 (by decide) q1_204 rfl dX6_timesFit_4 ?_
    refine tt_icmp_ge (pc := 7) (tgt := 59) C dX6_timesFit_7 (by decide) hf (fun hf => ?_) (fun hf => ?_)
    · exact tt_locs [] rfl (hk () hf)
    · refine tt_iload_n (pc := 10) (k := 2) C dX6_timesFit_10 rfl rfl ?_
      refine tt_aload_n (pc := 11) (k := 0) C dX6_timesFit_11 rfl rfl ?_
      refine tt_get (pc := 12) (ws := (xC cy xd sX aX uG es ea sT aT tT pT qT ma sL aL tL pL qL sK aK tK pK qK sH rH uH)) (ci := 6) (v := .ref ((xd 1) 0)) C fiX6 rfl 0 xC_obj 0 (by decide) q1_219 rfl dX6_timesFit_12 ?_
      refine tt_get (pc := 15) (ws := (xC cy xd sX aX uG es ea sT aT tT pT qT ma sL aL tL pL qL sK aK tK pK qK sH rH uH)) (ci := 1) (v := .int (sL 0)) C fiX1 rfl 28 rfl 0 (by decide) q1_84 rfl dX6_timesFit_15 ?_
      refine tt_icmp_ge (pc := 18) (tgt := 59) C dX6_timesFit_18 (by decide) hf (fun hf => ?_) (fun hf => ?_)
      · exact tt_locs [] rfl (hk () hf)
      · refine tt_aload_n (pc := 21) (k := 0) C dX6_timesFit_21 rfl rfl ?_
        refine tt_get (pc := 22) (ws := (xC cy xd sX aX uG es ea sT aT tT pT qT ma sL aL tL pL qL sK aK tK pK qK sH rH uH)) (ci := 6) (v := .ref ((xd 1) 0)) C fiX6 rfl 0 xC_obj 0 (by decide) q1_219 rfl dX6_timesFit_22 ?_
        refine tt_aload_n (pc := 25) (k := 0) C dX6_timesFit_25 rfl rfl ?_
        refine tt_get (pc := 26) (ws := (xC cy xd sX aX uG es ea sT aT tT pT qT ma sL aL tL pL qL sK aK tK pK qK sH rH uH)) (ci := 6) (v := .ref (xd 0 7)) C fiX6 rfl 0 xC_obj 7 (by decide) q1_226 rfl dX6_timesFit_26 ?_
        refine tt_iload_n (pc := 29) (k := 2) C dX6_timesFit_29 rfl rfl ?_
        refine tt_aload_n (pc := 30) (k := 0) C dX6_timesFit_30 rfl rfl ?_
        refine tt_get (pc := 31) (ws := (xC cy xd sX aX uG es ea sT aT tT pT qT ma sL aL tL pL qL sK aK tK pK qK sH rH uH)) (ci := 6) (v := .ref ((xd 1) 0)) C fiX6 rfl 0 xC_obj 0 (by decide) q1_219 rfl dX6_timesFit_31 ?_
        obtain ⟨r1, hr1, hf⟩ := bind_some hf
        refine tt_callR (pc := 34) (ws := (xC cy xd sX aX uG es ea sT aT tT pT qT ma sL aL tL pL qL sK aK tK pK qK sH rH uH)) (q0 := 28) (ci := 1) (rest := [.int v2, .ref (xd 0 7), .ref ((xd 1) 0)]) (st' := [.int r1, .int v2, .ref (xd 0 7), .ref ((xd 1) 0)]) C (k_X1_allBridges hr1) okX1_allBridges q3_60 rfl rfl xC_subL rfl rfl rfl (Nat.le_of_ble_eq_true rfl) ⟨Nat.le_of_ble_eq_true rfl, Nat.le_of_ble_eq_true rfl⟩ dX6_timesFit_34 ?_
        obtain ⟨r2, hr2, hf⟩ := bind_some hf
        refine tt_callR (pc := 37) (ws := (xC cy xd sX aX uG es ea sT aT tT pT qT ma sL aL tL pL qL sK aK tK pK qK sH rH uH)) (q0 := 28) (ci := 1) (rest := []) (st' := [.int r2]) C (k_X1_timeIn hr2) okX1_timeIn q3_64 rfl rfl (sub_c xC_memG xC_subL) rfl rfl rfl (Nat.le_of_ble_eq_true rfl) ⟨Nat.le_of_ble_eq_true rfl, Nat.le_of_ble_eq_true rfl⟩ dX6_timesFit_37 ?_
        refine tt_i2l (pc := 40) C dX6_timesFit_40 ?_
        refine tt_aload_n (pc := 41) (k := 1) C dX6_timesFit_41 rfl rfl ?_
        refine tt_get (pc := 42) (ws := (xC cy xd sX aX uG es ea sT aT tT pT qT ma sL aL tL pL qL sK aK tK pK qK sH rH uH)) (ci := 4) (v := .ref ((xd (10 + jv)) 2)) C fiX4 rfl (60 + 3 * jv) (xC_hget hj) 2 (by decide) q1_206 rfl dX6_timesFit_42 ?_
        refine tt_iload_n (pc := 45) (k := 2) C dX6_timesFit_45 rfl rfl ?_
        refine tt_laload (pc := 46) (ws := (xC cy xd sX aX uG es ea sT aT tT pT qT ma sL aL tL pL qL sK aK tK pK qK sH rH uH)) (n := 20) (f := (rH jv)) C (60 + 3 * jv + 1) 1 (xC_hrget hj) rfl hf dX6_timesFit_46 (fun hf => ?_)
        refine tt_lcmp (pc := 47) C dX6_timesFit_47 ?_
        refine tt_if_eq (pc := 48) (tgt := 53) C dX6_timesFit_48 (by decide) hf (fun hf => ?_) (fun hf => ?_)
        · refine tt_iinc (pc := 53) (k := 2) (v := (v2 + 1)) (L' := [(2, .int (v2 + 1)), (0, .ref (xd 0 0)), (1, .ref ((xd (10 + jv)) 0))]) C dX6_timesFit_53 rfl rfl (by decide) rfl ?_
          refine tt_goto (pc := 56) (tgt := 2) C dX6_timesFit_56 (by decide) ?_
          exact tt_locs [1, 2, 0] rfl (ih hf)
        · refine tt_iconst (pc := 51) (v := (0 : Int32)) C dX6_timesFit_51 (by decide) ?_
          obtain rfl := Option.some.inj hf
          exact tt_zreturn (pc := 52) C rfl rfl rfl rfl dX6_timesFit_52
set_option maxHeartbeats 4000000 in
set_option maxRecDepth 100000 in
theorem k_X6_timesFit {l : Launch} {D : va_G} {cy : Nat → ClassId} {Bd : Nat} {xa : Xa} {xd : Nat → Nat → Nat} {N : Nat} {sX : Nat → Int32} {aX : Nat → Nat → Int32} {uG : Nat → Int32} {es : Nat → Int32} {ea : Nat → Nat → Int32} {sT : Nat → Int32} {aT : Nat → Nat → Int32} {tT : Nat → Nat → Int32} {pT : Nat → Int32} {qT : Nat → Nat → Int32} {ma : Nat → Nat → Int32} {sL : Nat → Int32} {aL : Nat → Nat → Int32} {tL : Nat → Nat → Int32} {pL : Nat → Int32} {qL : Nat → Nat → Int32} {sK : Nat → Int32} {aK : Nat → Nat → Int32} {tK : Nat → Nat → Int32} {pK : Nat → Int32} {qK : Nat → Nat → Int32} {sH : Nat → Nat → Int32} {rH : Nat → Nat → Int64} {uH : Nat → Nat → Int32} {jv : Nat} (hj : jv < 4) {out : Int32} (hf : f_X6_timesFit N uG sL aL sH rH jv = some out) : KC l yX6_timesFit cX6_timesFit 3 (some .boolean) 3 69 true D cy Bd xa [.ref (xd 0 0), .ref ((xd (10 + jv)) 0)] (xC cy xd sX aX uG es ea sT aT tT pT qT ma sL aL tL pL qL sK aK tK pK qK sH rH uH) (some (.int out)) (xC cy xd sX aX uG es ea sT aT tT pT qT ma sL aL tL pL qL sK aK tK pK qK sH rH uH) := by
  refine kc_start (own := RX6) (by decide +kernel) rfl (Nat.le_of_ble_eq_true rfl) ?_
  intro p e s m args below meth c A C
  unfold f_X6_timesFit at hf
  refine tt_locs (L' := [(0, .ref (xd 0 0)), (1, .ref ((xd (10 + jv)) 0))]) [0, 1] rfl ?_
  refine tt_iconst (pc := 0) (v := (0 : Int32)) C dX6_timesFit_0 (by decide) ?_
  refine tt_istore_n (pc := 1) (L' := [(2, .int (0 : Int32)), (0, .ref (xd 0 0)), (1, .ref ((xd (10 + jv)) 0))]) C dX6_timesFit_1 rfl (by decide) rfl ?_
  refine tt_locs (L' := [(0, .ref (xd 0 0)), (1, .ref ((xd (10 + jv)) 0)), (2, .int (0 : Int32))]) [1, 2, 0] rfl (l_X6_timesFit_2 C hj (fun _ hf => ?_) hf)
  refine tt_iconst (pc := 59) (v := (1 : Int32)) C dX6_timesFit_59 (by decide) ?_
  obtain rfl := Option.some.inj hf
  exact tt_zreturn (pc := 60) C rfl rfl rfl rfl dX6_timesFit_60
theorem dX6_figuresThatFit_0 : decode cX6_figuresThatFit 0 = .ok (.iconst 0, 1) := by decide +kernel
theorem dX6_figuresThatFit_1 : decode cX6_figuresThatFit 1 = .ok (.istore_n 2, 1) := by decide +kernel
theorem dX6_figuresThatFit_2 : decode cX6_figuresThatFit 2 = .ok (.iconst 0, 1) := by decide +kernel
theorem dX6_figuresThatFit_3 : decode cX6_figuresThatFit 3 = .ok (.istore_n 3, 1) := by decide +kernel
theorem dX6_figuresThatFit_4 : decode cX6_figuresThatFit 4 = .ok (.iload_n 3, 1) := by decide +kernel
theorem dX6_figuresThatFit_5 : decode cX6_figuresThatFit 5 = .ok (.bipush 9, 2) := by decide +kernel
theorem dX6_figuresThatFit_7 : decode cX6_figuresThatFit 7 = .ok (.if_icmp .gt 31, 3) := by decide +kernel
theorem dX6_figuresThatFit_10 : decode cX6_figuresThatFit 10 = .ok (.aload_n 0, 1) := by decide +kernel
theorem dX6_figuresThatFit_11 : decode cX6_figuresThatFit 11 = .ok (.getfield 49, 3) := by decide +kernel
theorem dX6_figuresThatFit_14 : decode cX6_figuresThatFit 14 = .ok (.iload_n 3, 1) := by decide +kernel
theorem dX6_figuresThatFit_15 : decode cX6_figuresThatFit 15 = .ok (.putfield 139, 3) := by decide +kernel
theorem dX6_figuresThatFit_18 : decode cX6_figuresThatFit 18 = .ok (.aload_n 0, 1) := by decide +kernel
theorem dX6_figuresThatFit_19 : decode cX6_figuresThatFit 19 = .ok (.aload_n 1, 1) := by decide +kernel
theorem dX6_figuresThatFit_20 : decode cX6_figuresThatFit 20 = .ok (.invokevirtual 351, 3) := by decide +kernel
theorem dX6_figuresThatFit_23 : decode cX6_figuresThatFit 23 = .ok (.ifCond .eq 9, 3) := by decide +kernel
theorem dX6_figuresThatFit_26 : decode cX6_figuresThatFit 26 = .ok (.iload_n 2, 1) := by decide +kernel
theorem dX6_figuresThatFit_27 : decode cX6_figuresThatFit 27 = .ok (.iconst 1, 1) := by decide +kernel
theorem dX6_figuresThatFit_28 : decode cX6_figuresThatFit 28 = .ok (.iload_n 3, 1) := by decide +kernel
theorem dX6_figuresThatFit_29 : decode cX6_figuresThatFit 29 = .ok (.ishl, 1) := by decide +kernel
theorem dX6_figuresThatFit_30 : decode cX6_figuresThatFit 30 = .ok (.ior, 1) := by decide +kernel
theorem dX6_figuresThatFit_31 : decode cX6_figuresThatFit 31 = .ok (.istore_n 2, 1) := by decide +kernel
theorem dX6_figuresThatFit_32 : decode cX6_figuresThatFit 32 = .ok (.iinc 3 1, 3) := by decide +kernel
theorem dX6_figuresThatFit_35 : decode cX6_figuresThatFit 35 = .ok (.goto (-31), 3) := by decide +kernel
theorem dX6_figuresThatFit_38 : decode cX6_figuresThatFit 38 = .ok (.iload_n 2, 1) := by decide +kernel
theorem dX6_figuresThatFit_39 : decode cX6_figuresThatFit 39 = .ok (.ireturn, 1) := by decide +kernel
set_option maxHeartbeats 4000000 in
set_option maxRecDepth 100000 in
theorem l_X6_figuresThatFit_4 {p : Program} {l : Launch} {e : Env} {s : State} {m : MethodId} {args : Array Value} {below : List Frame} {meth : Method} {c : Code} {D : va_G} {cy : Nat → ClassId} {A : Nat → Prop} {Bd : Nat} {xa : Xa} {xd : Nat → Nat → Nat} {β : Type} {vO : Option Value} {wO : va_W} {N : Nat} {sL : Nat → Int32} {aL : Nat → Nat → Int32} {sH : Nat → Nat → Int32} {rH : Nat → Nat → Int64} {sX : Nat → Int32} {aX : Nat → Nat → Int32} {es : Nat → Int32} {ea : Nat → Nat → Int32} {sT : Nat → Int32} {aT : Nat → Nat → Int32} {tT : Nat → Nat → Int32} {pT : Nat → Int32} {qT : Nat → Nat → Int32} {ma : Nat → Nat → Int32} {tL : Nat → Nat → Int32} {pL : Nat → Int32} {qL : Nat → Nat → Int32} {sK : Nat → Int32} {aK : Nat → Nat → Int32} {tK : Nat → Nat → Int32} {pK : Nat → Int32} {qK : Nat → Nat → Int32} {uH : Nat → Nat → Int32} {jv : Nat} {kx : Int32 → (Nat → Int32) → Option (β)} {out : β} (C : CC p s m args meth c cX6_figuresThatFit RX6 4 (some .int) D cy A false Bd xa) (hj : jv < 4) (hk : ∀ (x2 : Int32) (uG1 : Nat → Int32), kx x2 uG1 = some out → TT p l e { frames := 4, cells := 0, slots := 0, locals := 91 } s m args below meth c 4 D A false vO wO 38 [(2, .int x2)] [] (xC cy xd sX aX uG1 es ea sT aT tT pT qT ma sL aL tL pL qL sK aK tK pK qK sH rH uH)) {n : Nat} {v2 : Int32} {v3 : Int32} {uG : Nat → Int32} (hf : f_X6_figuresThatFit_L4 N sL aL sH rH jv kx n v2 v3 uG = some out) : TT p l e { frames := 4, cells := 0, slots := 0, locals := 91 } s m args below meth c 4 D A false vO wO 4 [(0, .ref (xd 0 0)), (1, .ref ((xd (10 + jv)) 0)), (2, .int v2), (3, .int v3)] [] (xC cy xd sX aX uG es ea sT aT tT pT qT ma sL aL tL pL qL sK aK tK pK qK sH rH uH) := by
  induction n generalizing v2 v3 uG with
  | zero => cases hf
  | succ n ih =>
    rw [f_X6_figuresThatFit_L4] at hf
    refine tt_iload_n (pc := 4) (k := 3) C dX6_figuresThatFit_4 rfl rfl ?_
    refine tt_bipush (pc := 5) (v := (9 : Int32)) C dX6_figuresThatFit_5 (by decide) ?_
    refine tt_icmp_gt (pc := 7) (tgt := 38) C dX6_figuresThatFit_7 (by decide) hf (fun hf => ?_) (fun hf => ?_)
    · exact tt_locs [2] rfl (hk _ _ hf)
    · refine tt_aload_n (pc := 10) (k := 0) C dX6_figuresThatFit_10 rfl rfl ?_
      refine tt_get (pc := 11) (ws := (xC cy xd sX aX uG es ea sT aT tT pT qT ma sL aL tL pL qL sK aK tK pK qK sH rH uH)) (ci := 6) (v := .ref (xd 0 7)) C fiX6 rfl 0 xC_obj 7 (by decide) q1_226 rfl dX6_figuresThatFit_11 ?_
      refine tt_iload_n (pc := 14) (k := 3) C dX6_figuresThatFit_14 rfl rfl ?_
      refine tt_put (pc := 15) (ws := (xC cy xd sX aX uG es ea sT aT tT pT qT ma sL aL tL pL qL sK aK tK pK qK sH rH uH)) (ci := 5) (ty := .int) (ws' := (xC cy xd sX aX (upd uG 1 v3) es ea sT aT tT pT qT ma sL aL tL pL qL sK aK tK pK qK sH rH uH)) C rfl fiX5 rfl 2 xC_gget 1 (by decide) q1_65 rfl rfl rfl rfl (Nat.le_of_ble_eq_true rfl) dX6_figuresThatFit_15 (xC_gput (u := (upd uG 1 v3))) ?_
      refine tt_aload_n (pc := 18) (k := 0) C dX6_figuresThatFit_18 rfl rfl ?_
      refine tt_aload_n (pc := 19) (k := 1) C dX6_figuresThatFit_19 rfl rfl ?_
      obtain ⟨r1, hr1, hf⟩ := bind_some hf
      refine tt_callR (pc := 20) (ws := (xC cy xd sX aX (upd uG 1 v3) es ea sT aT tT pT qT ma sL aL tL pL qL sK aK tK pK qK sH rH uH)) (q0 := 0) (ci := 6) (rest := []) (st' := [.int r1]) C (k_X6_timesFit hj hr1) okX6_timesFit q4_119 rfl xC_obj (fun _ h => h) rfl rfl rfl (Nat.le_of_ble_eq_true rfl) ⟨Nat.le_of_ble_eq_true rfl, Nat.le_of_ble_eq_true rfl⟩ dX6_figuresThatFit_20 ?_
      have k3 : TT p l e { frames := 4, cells := 0, slots := 0, locals := 91 } s m args below meth c 4 D A false vO wO 32 [(0, .ref (xd 0 0)), (1, .ref ((xd (10 + jv)) 0)), (2, .int (if r1 = 0 then v2 else (v2 ||| ((1 : Int32) <<< (v3 &&& 31))))), (3, .int v3)] [] (xC cy xd sX aX (upd uG 1 v3) es ea sT aT tT pT qT ma sL aL tL pL qL sK aK tK pK qK sH rH uH) := by
        refine tt_iinc (pc := 32) (k := 3) (v := (v3 + 1)) (L' := [(3, .int (v3 + 1)), (0, .ref (xd 0 0)), (1, .ref ((xd (10 + jv)) 0)), (2, .int (if r1 = 0 then v2 else (v2 ||| ((1 : Int32) <<< (v3 &&& 31)))))]) C dX6_figuresThatFit_32 rfl rfl (by decide) rfl ?_
        refine tt_goto (pc := 35) (tgt := 4) C dX6_figuresThatFit_35 (by decide) ?_
        exact tt_locs [1, 2, 3, 0] rfl (ih hf)
      refine tr_if_eq (pc := 23) (tgt := 32) C dX6_figuresThatFit_23 (by decide) (fun c2 => ?_) (fun c2 => ?_)
      · try simp only [if_pos c2] at k3 ⊢
        exact tt_locs [0, 1, 2, 3] rfl k3
      · refine tt_iload_n (pc := 26) (k := 2) C dX6_figuresThatFit_26 rfl rfl ?_
        refine tt_iconst (pc := 27) (v := (1 : Int32)) C dX6_figuresThatFit_27 (by decide) ?_
        refine tt_iload_n (pc := 28) (k := 3) C dX6_figuresThatFit_28 rfl rfl ?_
        refine tt_ishl (pc := 29) C dX6_figuresThatFit_29 ?_
        refine tt_ior (pc := 30) C dX6_figuresThatFit_30 ?_
        refine tt_istore_n (pc := 31) (L' := [(2, .int (v2 ||| ((1 : Int32) <<< (v3 &&& 31)))), (0, .ref (xd 0 0)), (1, .ref ((xd (10 + jv)) 0)), (3, .int v3)]) C dX6_figuresThatFit_31 rfl (by decide) rfl ?_
        try simp only [if_neg c2] at k3 ⊢
        exact tt_locs [1, 2, 0, 3] rfl k3
set_option maxHeartbeats 4000000 in
set_option maxRecDepth 100000 in
theorem k_X6_figuresThatFit {l : Launch} {D : va_G} {cy : Nat → ClassId} {Bd : Nat} {xa : Xa} {xd : Nat → Nat → Nat} {N : Nat} {sX : Nat → Int32} {aX : Nat → Nat → Int32} {uG : Nat → Int32} {es : Nat → Int32} {ea : Nat → Nat → Int32} {sT : Nat → Int32} {aT : Nat → Nat → Int32} {tT : Nat → Nat → Int32} {pT : Nat → Int32} {qT : Nat → Nat → Int32} {ma : Nat → Nat → Int32} {sL : Nat → Int32} {aL : Nat → Nat → Int32} {tL : Nat → Nat → Int32} {pL : Nat → Int32} {qL : Nat → Nat → Int32} {sK : Nat → Int32} {aK : Nat → Nat → Int32} {tK : Nat → Nat → Int32} {pK : Nat → Int32} {qK : Nat → Nat → Int32} {sH : Nat → Nat → Int32} {rH : Nat → Nat → Int64} {uH : Nat → Nat → Int32} {jv : Nat} (hj : jv < 4) {out : Int32 × (Nat → Int32)} (hf : f_X6_figuresThatFit N uG sL aL sH rH jv = some out) : KC l yX6_figuresThatFit cX6_figuresThatFit 4 (some .int) 4 91 false D cy Bd xa [.ref (xd 0 0), .ref ((xd (10 + jv)) 0)] (xC cy xd sX aX uG es ea sT aT tT pT qT ma sL aL tL pL qL sK aK tK pK qK sH rH uH) (some (.int out.1)) (xC cy xd sX aX out.2 es ea sT aT tT pT qT ma sL aL tL pL qL sK aK tK pK qK sH rH uH) := by
  refine kc_start (own := RX6) (by decide +kernel) rfl (Nat.le_of_ble_eq_true rfl) ?_
  intro p e s m args below meth c A C
  unfold f_X6_figuresThatFit at hf
  refine tt_locs (L' := [(0, .ref (xd 0 0)), (1, .ref ((xd (10 + jv)) 0))]) [0, 1] rfl ?_
  refine tt_iconst (pc := 0) (v := (0 : Int32)) C dX6_figuresThatFit_0 (by decide) ?_
  refine tt_istore_n (pc := 1) (L' := [(2, .int (0 : Int32)), (0, .ref (xd 0 0)), (1, .ref ((xd (10 + jv)) 0))]) C dX6_figuresThatFit_1 rfl (by decide) rfl ?_
  refine tt_iconst (pc := 2) (v := (0 : Int32)) C dX6_figuresThatFit_2 (by decide) ?_
  refine tt_istore_n (pc := 3) (L' := [(3, .int (0 : Int32)), (2, .int (0 : Int32)), (0, .ref (xd 0 0)), (1, .ref ((xd (10 + jv)) 0))]) C dX6_figuresThatFit_3 rfl (by decide) rfl ?_
  refine tt_locs (L' := [(0, .ref (xd 0 0)), (1, .ref ((xd (10 + jv)) 0)), (2, .int (0 : Int32)), (3, .int (0 : Int32))]) [2, 3, 1, 0] rfl (l_X6_figuresThatFit_4 C hj (fun x2_4 t4 hf => ?_) hf)
  refine tt_iload_n (pc := 38) (k := 0) C dX6_figuresThatFit_38 rfl rfl ?_
  obtain rfl := Option.some.inj hf
  exact tt_ireturn (pc := 39) C rfl rfl rfl dX6_figuresThatFit_39
theorem dX6_kindsThatFit_0 : decode cX6_kindsThatFit 0 = .ok (.iconst 0, 1) := by decide +kernel
theorem dX6_kindsThatFit_1 : decode cX6_kindsThatFit 1 = .ok (.istore_n 2, 1) := by decide +kernel
theorem dX6_kindsThatFit_2 : decode cX6_kindsThatFit 2 = .ok (.iconst 0, 1) := by decide +kernel
theorem dX6_kindsThatFit_3 : decode cX6_kindsThatFit 3 = .ok (.istore_n 3, 1) := by decide +kernel
theorem dX6_kindsThatFit_4 : decode cX6_kindsThatFit 4 = .ok (.iload_n 3, 1) := by decide +kernel
theorem dX6_kindsThatFit_5 : decode cX6_kindsThatFit 5 = .ok (.bipush 6, 2) := by decide +kernel
theorem dX6_kindsThatFit_7 : decode cX6_kindsThatFit 7 = .ok (.if_icmp .ge 31, 3) := by decide +kernel
theorem dX6_kindsThatFit_10 : decode cX6_kindsThatFit 10 = .ok (.aload_n 0, 1) := by decide +kernel
theorem dX6_kindsThatFit_11 : decode cX6_kindsThatFit 11 = .ok (.getfield 49, 3) := by decide +kernel
theorem dX6_kindsThatFit_14 : decode cX6_kindsThatFit 14 = .ok (.iload_n 3, 1) := by decide +kernel
theorem dX6_kindsThatFit_15 : decode cX6_kindsThatFit 15 = .ok (.putfield 136, 3) := by decide +kernel
theorem dX6_kindsThatFit_18 : decode cX6_kindsThatFit 18 = .ok (.aload_n 0, 1) := by decide +kernel
theorem dX6_kindsThatFit_19 : decode cX6_kindsThatFit 19 = .ok (.aload_n 1, 1) := by decide +kernel
theorem dX6_kindsThatFit_20 : decode cX6_kindsThatFit 20 = .ok (.invokevirtual 351, 3) := by decide +kernel
theorem dX6_kindsThatFit_23 : decode cX6_kindsThatFit 23 = .ok (.ifCond .eq 9, 3) := by decide +kernel
theorem dX6_kindsThatFit_26 : decode cX6_kindsThatFit 26 = .ok (.iload_n 2, 1) := by decide +kernel
theorem dX6_kindsThatFit_27 : decode cX6_kindsThatFit 27 = .ok (.iconst 1, 1) := by decide +kernel
theorem dX6_kindsThatFit_28 : decode cX6_kindsThatFit 28 = .ok (.iload_n 3, 1) := by decide +kernel
theorem dX6_kindsThatFit_29 : decode cX6_kindsThatFit 29 = .ok (.ishl, 1) := by decide +kernel
theorem dX6_kindsThatFit_30 : decode cX6_kindsThatFit 30 = .ok (.ior, 1) := by decide +kernel
theorem dX6_kindsThatFit_31 : decode cX6_kindsThatFit 31 = .ok (.istore_n 2, 1) := by decide +kernel
theorem dX6_kindsThatFit_32 : decode cX6_kindsThatFit 32 = .ok (.iinc 3 1, 3) := by decide +kernel
theorem dX6_kindsThatFit_35 : decode cX6_kindsThatFit 35 = .ok (.goto (-31), 3) := by decide +kernel
theorem dX6_kindsThatFit_38 : decode cX6_kindsThatFit 38 = .ok (.iload_n 2, 1) := by decide +kernel
theorem dX6_kindsThatFit_39 : decode cX6_kindsThatFit 39 = .ok (.ireturn, 1) := by decide +kernel
set_option maxHeartbeats 4000000 in
set_option maxRecDepth 100000 in
theorem l_X6_kindsThatFit_4 {p : Program} {l : Launch} {e : Env} {s : State} {m : MethodId} {args : Array Value} {below : List Frame} {meth : Method} {c : Code} {D : va_G} {cy : Nat → ClassId} {A : Nat → Prop} {Bd : Nat} {xa : Xa} {xd : Nat → Nat → Nat} {β : Type} {vO : Option Value} {wO : va_W} {N : Nat} {sL : Nat → Int32} {aL : Nat → Nat → Int32} {sH : Nat → Nat → Int32} {rH : Nat → Nat → Int64} {sX : Nat → Int32} {aX : Nat → Nat → Int32} {es : Nat → Int32} {ea : Nat → Nat → Int32} {sT : Nat → Int32} {aT : Nat → Nat → Int32} {tT : Nat → Nat → Int32} {pT : Nat → Int32} {qT : Nat → Nat → Int32} {ma : Nat → Nat → Int32} {tL : Nat → Nat → Int32} {pL : Nat → Int32} {qL : Nat → Nat → Int32} {sK : Nat → Int32} {aK : Nat → Nat → Int32} {tK : Nat → Nat → Int32} {pK : Nat → Int32} {qK : Nat → Nat → Int32} {uH : Nat → Nat → Int32} {jv : Nat} {kx : Int32 → (Nat → Int32) → Option (β)} {out : β} (C : CC p s m args meth c cX6_kindsThatFit RX6 4 (some .int) D cy A false Bd xa) (hj : jv < 4) (hk : ∀ (x2 : Int32) (uG1 : Nat → Int32), kx x2 uG1 = some out → TT p l e { frames := 4, cells := 0, slots := 0, locals := 91 } s m args below meth c 4 D A false vO wO 38 [(2, .int x2)] [] (xC cy xd sX aX uG1 es ea sT aT tT pT qT ma sL aL tL pL qL sK aK tK pK qK sH rH uH)) {n : Nat} {v2 : Int32} {v3 : Int32} {uG : Nat → Int32} (hf : f_X6_kindsThatFit_L4 N sL aL sH rH jv kx n v2 v3 uG = some out) : TT p l e { frames := 4, cells := 0, slots := 0, locals := 91 } s m args below meth c 4 D A false vO wO 4 [(0, .ref (xd 0 0)), (1, .ref ((xd (10 + jv)) 0)), (2, .int v2), (3, .int v3)] [] (xC cy xd sX aX uG es ea sT aT tT pT qT ma sL aL tL pL qL sK aK tK pK qK sH rH uH) := by
  induction n generalizing v2 v3 uG with
  | zero => cases hf
  | succ n ih =>
    rw [f_X6_kindsThatFit_L4] at hf
    refine tt_iload_n (pc := 4) (k := 3) C dX6_kindsThatFit_4 rfl rfl ?_
    refine tt_bipush (pc := 5) (v := (6 : Int32)) C dX6_kindsThatFit_5 (by decide) ?_
    refine tt_icmp_ge (pc := 7) (tgt := 38) C dX6_kindsThatFit_7 (by decide) hf (fun hf => ?_) (fun hf => ?_)
    · exact tt_locs [2] rfl (hk _ _ hf)
    · refine tt_aload_n (pc := 10) (k := 0) C dX6_kindsThatFit_10 rfl rfl ?_
      refine tt_get (pc := 11) (ws := (xC cy xd sX aX uG es ea sT aT tT pT qT ma sL aL tL pL qL sK aK tK pK qK sH rH uH)) (ci := 6) (v := .ref (xd 0 7)) C fiX6 rfl 0 xC_obj 7 (by decide) q1_226 rfl dX6_kindsThatFit_11 ?_
      refine tt_iload_n (pc := 14) (k := 3) C dX6_kindsThatFit_14 rfl rfl ?_
      refine tt_put (pc := 15) (ws := (xC cy xd sX aX uG es ea sT aT tT pT qT ma sL aL tL pL qL sK aK tK pK qK sH rH uH)) (ci := 5) (ty := .int) (ws' := (xC cy xd sX aX (upd uG 0 v3) es ea sT aT tT pT qT ma sL aL tL pL qL sK aK tK pK qK sH rH uH)) C rfl fiX5 rfl 2 xC_gget 0 (by decide) q1_62 rfl rfl rfl rfl (Nat.le_of_ble_eq_true rfl) dX6_kindsThatFit_15 (xC_gput (u := (upd uG 0 v3))) ?_
      refine tt_aload_n (pc := 18) (k := 0) C dX6_kindsThatFit_18 rfl rfl ?_
      refine tt_aload_n (pc := 19) (k := 1) C dX6_kindsThatFit_19 rfl rfl ?_
      obtain ⟨r1, hr1, hf⟩ := bind_some hf
      refine tt_callR (pc := 20) (ws := (xC cy xd sX aX (upd uG 0 v3) es ea sT aT tT pT qT ma sL aL tL pL qL sK aK tK pK qK sH rH uH)) (q0 := 0) (ci := 6) (rest := []) (st' := [.int r1]) C (k_X6_timesFit hj hr1) okX6_timesFit q4_119 rfl xC_obj (fun _ h => h) rfl rfl rfl (Nat.le_of_ble_eq_true rfl) ⟨Nat.le_of_ble_eq_true rfl, Nat.le_of_ble_eq_true rfl⟩ dX6_kindsThatFit_20 ?_
      have k3 : TT p l e { frames := 4, cells := 0, slots := 0, locals := 91 } s m args below meth c 4 D A false vO wO 32 [(0, .ref (xd 0 0)), (1, .ref ((xd (10 + jv)) 0)), (2, .int (if r1 = 0 then v2 else (v2 ||| ((1 : Int32) <<< (v3 &&& 31))))), (3, .int v3)] [] (xC cy xd sX aX (upd uG 0 v3) es ea sT aT tT pT qT ma sL aL tL pL qL sK aK tK pK qK sH rH uH) := by
        refine tt_iinc (pc := 32) (k := 3) (v := (v3 + 1)) (L' := [(3, .int (v3 + 1)), (0, .ref (xd 0 0)), (1, .ref ((xd (10 + jv)) 0)), (2, .int (if r1 = 0 then v2 else (v2 ||| ((1 : Int32) <<< (v3 &&& 31)))))]) C dX6_kindsThatFit_32 rfl rfl (by decide) rfl ?_
        refine tt_goto (pc := 35) (tgt := 4) C dX6_kindsThatFit_35 (by decide) ?_
        exact tt_locs [1, 2, 3, 0] rfl (ih hf)
      refine tr_if_eq (pc := 23) (tgt := 32) C dX6_kindsThatFit_23 (by decide) (fun c2 => ?_) (fun c2 => ?_)
      · try simp only [if_pos c2] at k3 ⊢
        exact tt_locs [0, 1, 2, 3] rfl k3
      · refine tt_iload_n (pc := 26) (k := 2) C dX6_kindsThatFit_26 rfl rfl ?_
        refine tt_iconst (pc := 27) (v := (1 : Int32)) C dX6_kindsThatFit_27 (by decide) ?_
        refine tt_iload_n (pc := 28) (k := 3) C dX6_kindsThatFit_28 rfl rfl ?_
        refine tt_ishl (pc := 29) C dX6_kindsThatFit_29 ?_
        refine tt_ior (pc := 30) C dX6_kindsThatFit_30 ?_
        refine tt_istore_n (pc := 31) (L' := [(2, .int (v2 ||| ((1 : Int32) <<< (v3 &&& 31)))), (0, .ref (xd 0 0)), (1, .ref ((xd (10 + jv)) 0)), (3, .int v3)]) C dX6_kindsThatFit_31 rfl (by decide) rfl ?_
        try simp only [if_neg c2] at k3 ⊢
        exact tt_locs [1, 2, 0, 3] rfl k3
set_option maxHeartbeats 4000000 in
set_option maxRecDepth 100000 in
theorem k_X6_kindsThatFit {l : Launch} {D : va_G} {cy : Nat → ClassId} {Bd : Nat} {xa : Xa} {xd : Nat → Nat → Nat} {N : Nat} {sX : Nat → Int32} {aX : Nat → Nat → Int32} {uG : Nat → Int32} {es : Nat → Int32} {ea : Nat → Nat → Int32} {sT : Nat → Int32} {aT : Nat → Nat → Int32} {tT : Nat → Nat → Int32} {pT : Nat → Int32} {qT : Nat → Nat → Int32} {ma : Nat → Nat → Int32} {sL : Nat → Int32} {aL : Nat → Nat → Int32} {tL : Nat → Nat → Int32} {pL : Nat → Int32} {qL : Nat → Nat → Int32} {sK : Nat → Int32} {aK : Nat → Nat → Int32} {tK : Nat → Nat → Int32} {pK : Nat → Int32} {qK : Nat → Nat → Int32} {sH : Nat → Nat → Int32} {rH : Nat → Nat → Int64} {uH : Nat → Nat → Int32} {jv : Nat} (hj : jv < 4) {out : Int32 × (Nat → Int32)} (hf : f_X6_kindsThatFit N uG sL aL sH rH jv = some out) : KC l yX6_kindsThatFit cX6_kindsThatFit 4 (some .int) 4 91 false D cy Bd xa [.ref (xd 0 0), .ref ((xd (10 + jv)) 0)] (xC cy xd sX aX uG es ea sT aT tT pT qT ma sL aL tL pL qL sK aK tK pK qK sH rH uH) (some (.int out.1)) (xC cy xd sX aX out.2 es ea sT aT tT pT qT ma sL aL tL pL qL sK aK tK pK qK sH rH uH) := by
  refine kc_start (own := RX6) (by decide +kernel) rfl (Nat.le_of_ble_eq_true rfl) ?_
  intro p e s m args below meth c A C
  unfold f_X6_kindsThatFit at hf
  refine tt_locs (L' := [(0, .ref (xd 0 0)), (1, .ref ((xd (10 + jv)) 0))]) [0, 1] rfl ?_
  refine tt_iconst (pc := 0) (v := (0 : Int32)) C dX6_kindsThatFit_0 (by decide) ?_
  refine tt_istore_n (pc := 1) (L' := [(2, .int (0 : Int32)), (0, .ref (xd 0 0)), (1, .ref ((xd (10 + jv)) 0))]) C dX6_kindsThatFit_1 rfl (by decide) rfl ?_
  refine tt_iconst (pc := 2) (v := (0 : Int32)) C dX6_kindsThatFit_2 (by decide) ?_
  refine tt_istore_n (pc := 3) (L' := [(3, .int (0 : Int32)), (2, .int (0 : Int32)), (0, .ref (xd 0 0)), (1, .ref ((xd (10 + jv)) 0))]) C dX6_kindsThatFit_3 rfl (by decide) rfl ?_
  refine tt_locs (L' := [(0, .ref (xd 0 0)), (1, .ref ((xd (10 + jv)) 0)), (2, .int (0 : Int32)), (3, .int (0 : Int32))]) [2, 3, 1, 0] rfl (l_X6_kindsThatFit_4 C hj (fun x2_4 t4 hf => ?_) hf)
  refine tt_iload_n (pc := 38) (k := 0) C dX6_kindsThatFit_38 rfl rfl ?_
  obtain rfl := Option.some.inj hf
  exact tt_ireturn (pc := 39) C rfl rfl rfl dX6_kindsThatFit_39
theorem dX6_whatIs_0 : decode cX6_whatIs 0 = .ok (.iload_n 1, 1) := by decide +kernel
theorem dX6_whatIs_1 : decode cX6_whatIs 1 = .ok (.invokestatic 270, 3) := by decide +kernel
theorem dX6_whatIs_4 : decode cX6_whatIs 4 = .ok (.ifCond .eq 14, 3) := by decide +kernel
theorem dX6_whatIs_7 : decode cX6_whatIs 7 = .ok (.aload_n 0, 1) := by decide +kernel
theorem dX6_whatIs_8 : decode cX6_whatIs 8 = .ok (.getfield 10, 3) := by decide +kernel
theorem dX6_whatIs_11 : decode cX6_whatIs 11 = .ok (.iload_n 2, 1) := by decide +kernel
theorem dX6_whatIs_12 : decode cX6_whatIs 12 = .ok (.invokevirtual 129, 3) := by decide +kernel
theorem dX6_whatIs_15 : decode cX6_whatIs 15 = .ok (.ifCond .ne 9, 3) := by decide +kernel
theorem dX6_whatIs_18 : decode cX6_whatIs 18 = .ok (.aload_n 0, 1) := by decide +kernel
theorem dX6_whatIs_19 : decode cX6_whatIs 19 = .ok (.iconst (-1), 1) := by decide +kernel
theorem dX6_whatIs_20 : decode cX6_whatIs 20 = .ok (.invokevirtual 87, 3) := by decide +kernel
theorem dX6_whatIs_23 : decode cX6_whatIs 23 = .ok (.ireturn, 1) := by decide +kernel
theorem dX6_whatIs_24 : decode cX6_whatIs 24 = .ok (.iload_n 3, 1) := by decide +kernel
theorem dX6_whatIs_25 : decode cX6_whatIs 25 = .ok (.ifCond .eq 15, 3) := by decide +kernel
theorem dX6_whatIs_28 : decode cX6_whatIs 28 = .ok (.iload_n 3, 1) := by decide +kernel
theorem dX6_whatIs_29 : decode cX6_whatIs 29 = .ok (.iconst 1, 1) := by decide +kernel
theorem dX6_whatIs_30 : decode cX6_whatIs 30 = .ok (.if_icmp .eq 10, 3) := by decide +kernel
theorem dX6_whatIs_33 : decode cX6_whatIs 33 = .ok (.aload_n 0, 1) := by decide +kernel
theorem dX6_whatIs_34 : decode cX6_whatIs 34 = .ok (.bipush (-2), 2) := by decide +kernel
theorem dX6_whatIs_36 : decode cX6_whatIs 36 = .ok (.invokevirtual 87, 3) := by decide +kernel
theorem dX6_whatIs_39 : decode cX6_whatIs 39 = .ok (.ireturn, 1) := by decide +kernel
theorem dX6_whatIs_40 : decode cX6_whatIs 40 = .ok (.aload_n 0, 1) := by decide +kernel
theorem dX6_whatIs_41 : decode cX6_whatIs 41 = .ok (.getfield 35, 3) := by decide +kernel
theorem dX6_whatIs_44 : decode cX6_whatIs 44 = .ok (.iload_n 1, 1) := by decide +kernel
theorem dX6_whatIs_45 : decode cX6_whatIs 45 = .ok (.aaload, 1) := by decide +kernel
theorem dX6_whatIs_46 : decode cX6_whatIs 46 = .ok (.iconst 0, 1) := by decide +kernel
theorem dX6_whatIs_47 : decode cX6_whatIs 47 = .ok (.invokevirtual 302, 3) := by decide +kernel
theorem dX6_whatIs_50 : decode cX6_whatIs 50 = .ok (.istore 4, 2) := by decide +kernel
theorem dX6_whatIs_52 : decode cX6_whatIs 52 = .ok (.iload 4, 2) := by decide +kernel
theorem dX6_whatIs_54 : decode cX6_whatIs 54 = .ok (.ifCond .ge 6, 3) := by decide +kernel
theorem dX6_whatIs_57 : decode cX6_whatIs 57 = .ok (.iload 4, 2) := by decide +kernel
theorem dX6_whatIs_59 : decode cX6_whatIs 59 = .ok (.ireturn, 1) := by decide +kernel
theorem dX6_whatIs_60 : decode cX6_whatIs 60 = .ok (.aload_n 0, 1) := by decide +kernel
theorem dX6_whatIs_61 : decode cX6_whatIs 61 = .ok (.getfield 49, 3) := by decide +kernel
theorem dX6_whatIs_64 : decode cX6_whatIs 64 = .ok (.aload_n 0, 1) := by decide +kernel
theorem dX6_whatIs_65 : decode cX6_whatIs 65 = .ok (.getfield 10, 3) := by decide +kernel
theorem dX6_whatIs_68 : decode cX6_whatIs 68 = .ok (.getfield 132, 3) := by decide +kernel
theorem dX6_whatIs_71 : decode cX6_whatIs 71 = .ok (.iload_n 2, 1) := by decide +kernel
theorem dX6_whatIs_72 : decode cX6_whatIs 72 = .ok (.aaload, 1) := by decide +kernel
theorem dX6_whatIs_73 : decode cX6_whatIs 73 = .ok (.invokevirtual 207, 3) := by decide +kernel
theorem dX6_whatIs_76 : decode cX6_whatIs 76 = .ok (.iload_n 3, 1) := by decide +kernel
theorem dX6_whatIs_77 : decode cX6_whatIs 77 = .ok (.ifCond .ne 16, 3) := by decide +kernel
theorem dX6_whatIs_80 : decode cX6_whatIs 80 = .ok (.aload_n 0, 1) := by decide +kernel
theorem dX6_whatIs_81 : decode cX6_whatIs 81 = .ok (.aload_n 0, 1) := by decide +kernel
theorem dX6_whatIs_82 : decode cX6_whatIs 82 = .ok (.getfield 35, 3) := by decide +kernel
theorem dX6_whatIs_85 : decode cX6_whatIs 85 = .ok (.iload_n 1, 1) := by decide +kernel
theorem dX6_whatIs_86 : decode cX6_whatIs 86 = .ok (.aaload, 1) := by decide +kernel
theorem dX6_whatIs_87 : decode cX6_whatIs 87 = .ok (.invokevirtual 305, 3) := by decide +kernel
theorem dX6_whatIs_90 : decode cX6_whatIs 90 = .ok (.goto 13, 3) := by decide +kernel
theorem dX6_whatIs_93 : decode cX6_whatIs 93 = .ok (.aload_n 0, 1) := by decide +kernel
theorem dX6_whatIs_94 : decode cX6_whatIs 94 = .ok (.aload_n 0, 1) := by decide +kernel
theorem dX6_whatIs_95 : decode cX6_whatIs 95 = .ok (.getfield 35, 3) := by decide +kernel
theorem dX6_whatIs_98 : decode cX6_whatIs 98 = .ok (.iload_n 1, 1) := by decide +kernel
theorem dX6_whatIs_99 : decode cX6_whatIs 99 = .ok (.aaload, 1) := by decide +kernel
theorem dX6_whatIs_100 : decode cX6_whatIs 100 = .ok (.invokevirtual 309, 3) := by decide +kernel
theorem dX6_whatIs_103 : decode cX6_whatIs 103 = .ok (.ireturn, 1) := by decide +kernel
set_option maxHeartbeats 4000000 in
set_option maxRecDepth 100000 in
theorem k_X6_whatIs {l : Launch} {D : va_G} {cy : Nat → ClassId} {Bd : Nat} {xa : Xa} {xd : Nat → Nat → Nat} {N : Nat} {sX : Nat → Int32} {aX : Nat → Nat → Int32} {uG : Nat → Int32} {es : Nat → Int32} {ea : Nat → Nat → Int32} {sT : Nat → Int32} {aT : Nat → Nat → Int32} {tT : Nat → Nat → Int32} {pT : Nat → Int32} {qT : Nat → Nat → Int32} {ma : Nat → Nat → Int32} {sL : Nat → Int32} {aL : Nat → Nat → Int32} {tL : Nat → Nat → Int32} {pL : Nat → Int32} {qL : Nat → Nat → Int32} {sK : Nat → Int32} {aK : Nat → Nat → Int32} {tK : Nat → Nat → Int32} {pK : Nat → Int32} {qK : Nat → Nat → Int32} {sH : Nat → Nat → Int32} {rH : Nat → Nat → Int64} {uH : Nat → Nat → Int32} {a1 : Int32} {a2 : Int32} {a3 : Int32} {out : Int32 × (Nat → Nat → Int32) × (Nat → Int32)} (hf : f_X6_whatIs N aX uG sL aL tL sH rH a1 a2 a3 = some out) : KC l yX6_whatIs cX6_whatIs 5 (some .int) 5 114 false D cy Bd xa [.ref (xd 0 0), .int a1, .int a2, .int a3] (xC cy xd sX aX uG es ea sT aT tT pT qT ma sL aL tL pL qL sK aK tK pK qK sH rH uH) (some (.int out.1)) (xC cy xd sX out.2.1 out.2.2 es ea sT aT tT pT qT ma sL aL tL pL qL sK aK tK pK qK sH rH uH) := by
  refine kc_start (own := RX6) (by decide +kernel) rfl (Nat.le_of_ble_eq_true rfl) ?_
  intro p e s m args below meth c A C
  unfold f_X6_whatIs at hf
  refine tt_locs (L' := [(0, .ref (xd 0 0)), (1, .int a1), (2, .int a2), (3, .int a3)]) [0, 1, 2, 3] rfl ?_
  refine tt_iload_n (pc := 0) (k := 1) C dX6_whatIs_0 rfl rfl ?_
  obtain ⟨r1, hr1, hf⟩ := bind_some hf
  refine tt_callS (pc := 1) (ws := (xC cy xd sX aX uG es ea sT aT tT pT qT ma sL aL tL pL qL sK aK tK pK qK sH rH uH)) (rest := []) (st' := [.int r1]) C (k_X6_hasShelf hr1) okX6_hasShelf q4_65 (fun _ h => absurd h List.not_mem_nil) rfl rfl rfl (Nat.le_of_ble_eq_true rfl) ⟨Nat.le_of_ble_eq_true rfl, Nat.le_of_ble_eq_true rfl⟩ dX6_whatIs_1 ?_
  refine tt_if_eq (pc := 4) (tgt := 18) C dX6_whatIs_4 (by decide) hf (fun hf => ?_) (fun hf => ?_)
  · refine tt_aload_n (pc := 18) (k := 0) C dX6_whatIs_18 rfl rfl ?_
    refine tt_iconst (pc := 19) (v := (-1 : Int32)) C dX6_whatIs_19 (by decide) ?_
    obtain ⟨r2, hr2, hf⟩ := bind_some hf
    refine tt_callM (pc := 20) (ws := (xC cy xd sX aX uG es ea sT aT tT pT qT ma sL aL tL pL qL sK aK tK pK qK sH rH uH)) (q0 := 0) (ci := 6) (rest := []) (st' := [.int r2.1]) C rfl (k_X6_refused hr2) okX6_refused q2_19 rfl xC_obj rfl rfl rfl (Nat.le_of_ble_eq_true rfl) ⟨Nat.le_of_ble_eq_true rfl, Nat.le_of_ble_eq_true rfl⟩ dX6_whatIs_20 ?_
    obtain rfl := Option.some.inj hf
    exact tt_ireturn (pc := 23) C rfl rfl rfl dX6_whatIs_23
  · refine tt_aload_n (pc := 7) (k := 0) C dX6_whatIs_7 rfl rfl ?_
    refine tt_get (pc := 8) (ws := (xC cy xd sX aX uG es ea sT aT tT pT qT ma sL aL tL pL qL sK aK tK pK qK sH rH uH)) (ci := 6) (v := .ref ((xd 1) 0)) C fiX6 rfl 0 xC_obj 0 (by decide) q1_219 rfl dX6_whatIs_8 ?_
    refine tt_iload_n (pc := 11) (k := 2) C dX6_whatIs_11 rfl rfl ?_
    obtain ⟨r3, hr3, hf⟩ := bind_some hf
    refine tt_callR (pc := 12) (ws := (xC cy xd sX aX uG es ea sT aT tT pT qT ma sL aL tL pL qL sK aK tK pK qK sH rH uH)) (q0 := 28) (ci := 1) (rest := []) (st' := [.int r3]) C (k_X1_hasTrain hr3) okX1_hasTrain q3_43 rfl rfl xC_subL rfl rfl rfl (Nat.le_of_ble_eq_true rfl) ⟨Nat.le_of_ble_eq_true rfl, Nat.le_of_ble_eq_true rfl⟩ dX6_whatIs_12 ?_
    refine tt_if_ne (pc := 15) (tgt := 24) C dX6_whatIs_15 (by decide) hf (fun hf => ?_) (fun hf => ?_)
    · refine tt_iload_n (pc := 24) (k := 3) C dX6_whatIs_24 rfl rfl ?_
      refine tt_if_eq (pc := 25) (tgt := 40) C dX6_whatIs_25 (by decide) hf (fun hf => ?_) (fun hf => ?_)
      · refine tt_aload_n (pc := 40) (k := 0) C dX6_whatIs_40 rfl rfl ?_
        refine tt_get (pc := 41) (ws := (xC cy xd sX aX uG es ea sT aT tT pT qT ma sL aL tL pL qL sK aK tK pK qK sH rH uH)) (ci := 6) (v := .ref (xd 0 5)) C fiX6 rfl 0 xC_obj 5 (by decide) q1_224 rfl dX6_whatIs_41 ?_
        refine tt_iload_n (pc := 44) (k := 1) C dX6_whatIs_44 rfl rfl ?_
        refine tt_aaload (pc := 45) (ws := (xC cy xd sX aX uG es ea sT aT tT pT qT ma sL aL tL pL qL sK aK tK pK qK sH rH uH)) (n := 4) (r := (fun j => xd (10 + j) 0)) C 1 5 xC_get5 rfl hf (fun _ _ => rfl) dX6_whatIs_45 (fun hf hlt4 => ?_)
        refine tt_iconst (pc := 46) (v := (0 : Int32)) C dX6_whatIs_46 (by decide) ?_
        obtain ⟨r5, hr5, hf⟩ := bind_some hf
        refine tt_callR (pc := 47) (ws := (xC cy xd sX aX uG es ea sT aT tT pT qT ma sL aL tL pL qL sK aK tK pK qK sH rH uH)) (q0 := (60 + 3 * (ix a1))) (ci := 4) (rest := []) (st' := [.int r5]) C (k_X4_faultOfSort hr5) okX4_faultOfSort q4_111 rfl (xC_hget hlt4) (xC_subH hlt4) rfl rfl rfl (Nat.le_of_ble_eq_true rfl) ⟨Nat.le_of_ble_eq_true rfl, Nat.le_of_ble_eq_true rfl⟩ dX6_whatIs_47 ?_
        refine tt_istore (pc := 50) (L' := [(4, .int r5), (0, .ref (xd 0 0)), (1, .int a1), (2, .int a2), (3, .int a3)]) C dX6_whatIs_50 (by decide) rfl ?_
        refine tt_iload (pc := 52) (k := 0) C dX6_whatIs_52 rfl ?_
        refine tt_if_ge (pc := 54) (tgt := 60) C dX6_whatIs_54 (by decide) hf (fun hf => ?_) (fun hf => ?_)
        · refine tt_aload_n (pc := 60) (k := 1) C dX6_whatIs_60 rfl rfl ?_
          refine tt_get (pc := 61) (ws := (xC cy xd sX aX uG es ea sT aT tT pT qT ma sL aL tL pL qL sK aK tK pK qK sH rH uH)) (ci := 6) (v := .ref (xd 0 7)) C fiX6 rfl 0 xC_obj 7 (by decide) q1_226 rfl dX6_whatIs_61 ?_
          refine tt_aload_n (pc := 64) (k := 1) C dX6_whatIs_64 rfl rfl ?_
          refine tt_get (pc := 65) (ws := (xC cy xd sX aX uG es ea sT aT tT pT qT ma sL aL tL pL qL sK aK tK pK qK sH rH uH)) (ci := 6) (v := .ref ((xd 1) 0)) C fiX6 rfl 0 xC_obj 0 (by decide) q1_219 rfl dX6_whatIs_65 ?_
          refine tt_get (pc := 68) (ws := (xC cy xd sX aX uG es ea sT aT tT pT qT ma sL aL tL pL qL sK aK tK pK qK sH rH uH)) (ci := 1) (v := .ref ((xd 1) 10)) C fiX1 rfl 28 rfl 10 (by decide) q1_107 rfl dX6_whatIs_68 ?_
          refine tt_iload_n (pc := 71) (k := 3) C dX6_whatIs_71 rfl rfl ?_
          refine tt_aaload (pc := 72) (ws := (xC cy xd sX aX uG es ea sT aT tT pT qT ma sL aL tL pL qL sK aK tK pK qK sH rH uH)) (n := 4) (r := (fun j => (xd 1) (40 + j))) C 35 4 rfl rfl hf (fun _ _ => rfl) dX6_whatIs_72 (fun hf hlt6 => ?_)
          obtain ⟨r7, hr7, hf⟩ := bind_some hf
          refine tt_perm (xs_GT hlt6) ?_
          refine tt_callG (pc := 73) (q0 := 0) (ci := 5) (rest := []) (st' := []) C rfl (k_X5_copyFrom hr7) okX5_copyFrom q3_198 rfl rfl [] _ rfl rfl rfl rfl rfl (Nat.le_of_ble_eq_true rfl) ⟨Nat.le_of_ble_eq_true rfl, Nat.le_of_ble_eq_true rfl⟩ dX6_whatIs_73 ?_
          refine tt_perm (ws2 := (xC cy xd sX aX r7 es ea sT aT tT pT qT ma sL aL tL pL qL sK aK tK pK qK sH rH uH)) (xs_GT2 hlt6) ?_
          refine tt_iload_n (pc := 76) (k := 4) C dX6_whatIs_76 rfl rfl ?_
          obtain ⟨j8, hj8, hf⟩ := bind_some hf
          have k9 : TT p l e { frames := 5, cells := 0, slots := 0, locals := 114 } s m args below meth c 5 D A false (some (.int out.1)) (xC cy xd sX out.2.1 out.2.2 es ea sT aT tT pT qT ma sL aL tL pL qL sK aK tK pK qK sH rH uH) 103 [] [.int j8.1] (xC cy xd sX aX j8.2 es ea sT aT tT pT qT ma sL aL tL pL qL sK aK tK pK qK sH rH uH) := by
            obtain rfl := Option.some.inj hf
            exact tt_ireturn (pc := 103) C rfl rfl rfl dX6_whatIs_103
          refine tt_if_ne (pc := 77) (tgt := 93) C dX6_whatIs_77 (by decide) hj8 (fun hj8 => ?_) (fun hj8 => ?_)
          · refine tt_aload_n (pc := 93) (k := 1) C dX6_whatIs_93 rfl rfl ?_
            refine tt_aload_n (pc := 94) (k := 1) C dX6_whatIs_94 rfl rfl ?_
            refine tt_get (pc := 95) (ws := (xC cy xd sX aX r7 es ea sT aT tT pT qT ma sL aL tL pL qL sK aK tK pK qK sH rH uH)) (ci := 6) (v := .ref (xd 0 5)) C fiX6 rfl 0 xC_obj 5 (by decide) q1_224 rfl dX6_whatIs_95 ?_
            refine tt_iload_n (pc := 98) (k := 2) C dX6_whatIs_98 rfl rfl ?_
            refine tt_aaload (pc := 99) (ws := (xC cy xd sX aX r7 es ea sT aT tT pT qT ma sL aL tL pL qL sK aK tK pK qK sH rH uH)) (n := 4) (r := (fun j => xd (10 + j) 0)) C 1 5 xC_get5 rfl hj8 (fun _ _ => rfl) dX6_whatIs_99 (fun hj8 hlt10 => ?_)
            obtain ⟨r11, hr11, hj8⟩ := bind_some hj8
            refine tt_callM (pc := 100) (ws := (xC cy xd sX aX r7 es ea sT aT tT pT qT ma sL aL tL pL qL sK aK tK pK qK sH rH uH)) (q0 := 0) (ci := 6) (rest := []) (st' := [.int r11.1]) C rfl (k_X6_figuresThatFit hlt10 hr11) okX6_figuresThatFit q4_123 rfl xC_obj rfl rfl rfl (Nat.le_of_ble_eq_true rfl) ⟨Nat.le_of_ble_eq_true rfl, Nat.le_of_ble_eq_true rfl⟩ dX6_whatIs_100 ?_
            obtain rfl := Option.some.inj hj8
            exact tt_locs [] rfl k9
          · refine tt_aload_n (pc := 80) (k := 1) C dX6_whatIs_80 rfl rfl ?_
            refine tt_aload_n (pc := 81) (k := 1) C dX6_whatIs_81 rfl rfl ?_
            refine tt_get (pc := 82) (ws := (xC cy xd sX aX r7 es ea sT aT tT pT qT ma sL aL tL pL qL sK aK tK pK qK sH rH uH)) (ci := 6) (v := .ref (xd 0 5)) C fiX6 rfl 0 xC_obj 5 (by decide) q1_224 rfl dX6_whatIs_82 ?_
            refine tt_iload_n (pc := 85) (k := 2) C dX6_whatIs_85 rfl rfl ?_
            refine tt_aaload (pc := 86) (ws := (xC cy xd sX aX r7 es ea sT aT tT pT qT ma sL aL tL pL qL sK aK tK pK qK sH rH uH)) (n := 4) (r := (fun j => xd (10 + j) 0)) C 1 5 xC_get5 rfl hj8 (fun _ _ => rfl) dX6_whatIs_86 (fun hj8 hlt12 => ?_)
            obtain ⟨r13, hr13, hj8⟩ := bind_some hj8
            refine tt_callM (pc := 87) (ws := (xC cy xd sX aX r7 es ea sT aT tT pT qT ma sL aL tL pL qL sK aK tK pK qK sH rH uH)) (q0 := 0) (ci := 6) (rest := []) (st' := [.int r13.1]) C rfl (k_X6_kindsThatFit hlt12 hr13) okX6_kindsThatFit q4_115 rfl xC_obj rfl rfl rfl (Nat.le_of_ble_eq_true rfl) ⟨Nat.le_of_ble_eq_true rfl, Nat.le_of_ble_eq_true rfl⟩ dX6_whatIs_87 ?_
            refine tt_goto (pc := 90) (tgt := 103) C dX6_whatIs_90 (by decide) ?_
            obtain rfl := Option.some.inj hj8
            exact tt_locs [] rfl k9
        · refine tt_iload (pc := 57) (k := 0) C dX6_whatIs_57 rfl ?_
          obtain rfl := Option.some.inj hf
          exact tt_ireturn (pc := 59) C rfl rfl rfl dX6_whatIs_59
      · refine tt_iload_n (pc := 28) (k := 3) C dX6_whatIs_28 rfl rfl ?_
        refine tt_iconst (pc := 29) (v := (1 : Int32)) C dX6_whatIs_29 (by decide) ?_
        refine tt_icmp_eq (pc := 30) (tgt := 40) C dX6_whatIs_30 (by decide) hf (fun hf => ?_) (fun hf => ?_)
        · refine tt_aload_n (pc := 40) (k := 0) C dX6_whatIs_40 rfl rfl ?_
          refine tt_get (pc := 41) (ws := (xC cy xd sX aX uG es ea sT aT tT pT qT ma sL aL tL pL qL sK aK tK pK qK sH rH uH)) (ci := 6) (v := .ref (xd 0 5)) C fiX6 rfl 0 xC_obj 5 (by decide) q1_224 rfl dX6_whatIs_41 ?_
          refine tt_iload_n (pc := 44) (k := 1) C dX6_whatIs_44 rfl rfl ?_
          refine tt_aaload (pc := 45) (ws := (xC cy xd sX aX uG es ea sT aT tT pT qT ma sL aL tL pL qL sK aK tK pK qK sH rH uH)) (n := 4) (r := (fun j => xd (10 + j) 0)) C 1 5 xC_get5 rfl hf (fun _ _ => rfl) dX6_whatIs_45 (fun hf hlt14 => ?_)
          refine tt_iconst (pc := 46) (v := (0 : Int32)) C dX6_whatIs_46 (by decide) ?_
          obtain ⟨r15, hr15, hf⟩ := bind_some hf
          refine tt_callR (pc := 47) (ws := (xC cy xd sX aX uG es ea sT aT tT pT qT ma sL aL tL pL qL sK aK tK pK qK sH rH uH)) (q0 := (60 + 3 * (ix a1))) (ci := 4) (rest := []) (st' := [.int r15]) C (k_X4_faultOfSort hr15) okX4_faultOfSort q4_111 rfl (xC_hget hlt14) (xC_subH hlt14) rfl rfl rfl (Nat.le_of_ble_eq_true rfl) ⟨Nat.le_of_ble_eq_true rfl, Nat.le_of_ble_eq_true rfl⟩ dX6_whatIs_47 ?_
          refine tt_istore (pc := 50) (L' := [(4, .int r15), (0, .ref (xd 0 0)), (1, .int a1), (2, .int a2), (3, .int a3)]) C dX6_whatIs_50 (by decide) rfl ?_
          refine tt_iload (pc := 52) (k := 0) C dX6_whatIs_52 rfl ?_
          refine tt_if_ge (pc := 54) (tgt := 60) C dX6_whatIs_54 (by decide) hf (fun hf => ?_) (fun hf => ?_)
          · refine tt_aload_n (pc := 60) (k := 1) C dX6_whatIs_60 rfl rfl ?_
            refine tt_get (pc := 61) (ws := (xC cy xd sX aX uG es ea sT aT tT pT qT ma sL aL tL pL qL sK aK tK pK qK sH rH uH)) (ci := 6) (v := .ref (xd 0 7)) C fiX6 rfl 0 xC_obj 7 (by decide) q1_226 rfl dX6_whatIs_61 ?_
            refine tt_aload_n (pc := 64) (k := 1) C dX6_whatIs_64 rfl rfl ?_
            refine tt_get (pc := 65) (ws := (xC cy xd sX aX uG es ea sT aT tT pT qT ma sL aL tL pL qL sK aK tK pK qK sH rH uH)) (ci := 6) (v := .ref ((xd 1) 0)) C fiX6 rfl 0 xC_obj 0 (by decide) q1_219 rfl dX6_whatIs_65 ?_
            refine tt_get (pc := 68) (ws := (xC cy xd sX aX uG es ea sT aT tT pT qT ma sL aL tL pL qL sK aK tK pK qK sH rH uH)) (ci := 1) (v := .ref ((xd 1) 10)) C fiX1 rfl 28 rfl 10 (by decide) q1_107 rfl dX6_whatIs_68 ?_
            refine tt_iload_n (pc := 71) (k := 3) C dX6_whatIs_71 rfl rfl ?_
            refine tt_aaload (pc := 72) (ws := (xC cy xd sX aX uG es ea sT aT tT pT qT ma sL aL tL pL qL sK aK tK pK qK sH rH uH)) (n := 4) (r := (fun j => (xd 1) (40 + j))) C 35 4 rfl rfl hf (fun _ _ => rfl) dX6_whatIs_72 (fun hf hlt16 => ?_)
            obtain ⟨r17, hr17, hf⟩ := bind_some hf
            refine tt_perm (xs_GT hlt16) ?_
            refine tt_callG (pc := 73) (q0 := 0) (ci := 5) (rest := []) (st' := []) C rfl (k_X5_copyFrom hr17) okX5_copyFrom q3_198 rfl rfl [] _ rfl rfl rfl rfl rfl (Nat.le_of_ble_eq_true rfl) ⟨Nat.le_of_ble_eq_true rfl, Nat.le_of_ble_eq_true rfl⟩ dX6_whatIs_73 ?_
            refine tt_perm (ws2 := (xC cy xd sX aX r17 es ea sT aT tT pT qT ma sL aL tL pL qL sK aK tK pK qK sH rH uH)) (xs_GT2 hlt16) ?_
            refine tt_iload_n (pc := 76) (k := 4) C dX6_whatIs_76 rfl rfl ?_
            obtain ⟨j18, hj18, hf⟩ := bind_some hf
            have k19 : TT p l e { frames := 5, cells := 0, slots := 0, locals := 114 } s m args below meth c 5 D A false (some (.int out.1)) (xC cy xd sX out.2.1 out.2.2 es ea sT aT tT pT qT ma sL aL tL pL qL sK aK tK pK qK sH rH uH) 103 [] [.int j18.1] (xC cy xd sX aX j18.2 es ea sT aT tT pT qT ma sL aL tL pL qL sK aK tK pK qK sH rH uH) := by
              obtain rfl := Option.some.inj hf
              exact tt_ireturn (pc := 103) C rfl rfl rfl dX6_whatIs_103
            refine tt_if_ne (pc := 77) (tgt := 93) C dX6_whatIs_77 (by decide) hj18 (fun hj18 => ?_) (fun hj18 => ?_)
            · refine tt_aload_n (pc := 93) (k := 1) C dX6_whatIs_93 rfl rfl ?_
              refine tt_aload_n (pc := 94) (k := 1) C dX6_whatIs_94 rfl rfl ?_
              refine tt_get (pc := 95) (ws := (xC cy xd sX aX r17 es ea sT aT tT pT qT ma sL aL tL pL qL sK aK tK pK qK sH rH uH)) (ci := 6) (v := .ref (xd 0 5)) C fiX6 rfl 0 xC_obj 5 (by decide) q1_224 rfl dX6_whatIs_95 ?_
              refine tt_iload_n (pc := 98) (k := 2) C dX6_whatIs_98 rfl rfl ?_
              refine tt_aaload (pc := 99) (ws := (xC cy xd sX aX r17 es ea sT aT tT pT qT ma sL aL tL pL qL sK aK tK pK qK sH rH uH)) (n := 4) (r := (fun j => xd (10 + j) 0)) C 1 5 xC_get5 rfl hj18 (fun _ _ => rfl) dX6_whatIs_99 (fun hj18 hlt20 => ?_)
              obtain ⟨r21, hr21, hj18⟩ := bind_some hj18
              refine tt_callM (pc := 100) (ws := (xC cy xd sX aX r17 es ea sT aT tT pT qT ma sL aL tL pL qL sK aK tK pK qK sH rH uH)) (q0 := 0) (ci := 6) (rest := []) (st' := [.int r21.1]) C rfl (k_X6_figuresThatFit hlt20 hr21) okX6_figuresThatFit q4_123 rfl xC_obj rfl rfl rfl (Nat.le_of_ble_eq_true rfl) ⟨Nat.le_of_ble_eq_true rfl, Nat.le_of_ble_eq_true rfl⟩ dX6_whatIs_100 ?_
              obtain rfl := Option.some.inj hj18
              exact tt_locs [] rfl k19
            · refine tt_aload_n (pc := 80) (k := 1) C dX6_whatIs_80 rfl rfl ?_
              refine tt_aload_n (pc := 81) (k := 1) C dX6_whatIs_81 rfl rfl ?_
              refine tt_get (pc := 82) (ws := (xC cy xd sX aX r17 es ea sT aT tT pT qT ma sL aL tL pL qL sK aK tK pK qK sH rH uH)) (ci := 6) (v := .ref (xd 0 5)) C fiX6 rfl 0 xC_obj 5 (by decide) q1_224 rfl dX6_whatIs_82 ?_
              refine tt_iload_n (pc := 85) (k := 2) C dX6_whatIs_85 rfl rfl ?_
              refine tt_aaload (pc := 86) (ws := (xC cy xd sX aX r17 es ea sT aT tT pT qT ma sL aL tL pL qL sK aK tK pK qK sH rH uH)) (n := 4) (r := (fun j => xd (10 + j) 0)) C 1 5 xC_get5 rfl hj18 (fun _ _ => rfl) dX6_whatIs_86 (fun hj18 hlt22 => ?_)
              obtain ⟨r23, hr23, hj18⟩ := bind_some hj18
              refine tt_callM (pc := 87) (ws := (xC cy xd sX aX r17 es ea sT aT tT pT qT ma sL aL tL pL qL sK aK tK pK qK sH rH uH)) (q0 := 0) (ci := 6) (rest := []) (st' := [.int r23.1]) C rfl (k_X6_kindsThatFit hlt22 hr23) okX6_kindsThatFit q4_115 rfl xC_obj rfl rfl rfl (Nat.le_of_ble_eq_true rfl) ⟨Nat.le_of_ble_eq_true rfl, Nat.le_of_ble_eq_true rfl⟩ dX6_whatIs_87 ?_
              refine tt_goto (pc := 90) (tgt := 103) C dX6_whatIs_90 (by decide) ?_
              obtain rfl := Option.some.inj hj18
              exact tt_locs [] rfl k19
          · refine tt_iload (pc := 57) (k := 0) C dX6_whatIs_57 rfl ?_
            obtain rfl := Option.some.inj hf
            exact tt_ireturn (pc := 59) C rfl rfl rfl dX6_whatIs_59
        · refine tt_aload_n (pc := 33) (k := 0) C dX6_whatIs_33 rfl rfl ?_
          refine tt_bipush (pc := 34) (v := (-2 : Int32)) C dX6_whatIs_34 (by decide) ?_
          obtain ⟨r24, hr24, hf⟩ := bind_some hf
          refine tt_callM (pc := 36) (ws := (xC cy xd sX aX uG es ea sT aT tT pT qT ma sL aL tL pL qL sK aK tK pK qK sH rH uH)) (q0 := 0) (ci := 6) (rest := []) (st' := [.int r24.1]) C rfl (k_X6_refused hr24) okX6_refused q2_19 rfl xC_obj rfl rfl rfl (Nat.le_of_ble_eq_true rfl) ⟨Nat.le_of_ble_eq_true rfl, Nat.le_of_ble_eq_true rfl⟩ dX6_whatIs_36 ?_
          obtain rfl := Option.some.inj hf
          exact tt_ireturn (pc := 39) C rfl rfl rfl dX6_whatIs_39
    · refine tt_aload_n (pc := 18) (k := 0) C dX6_whatIs_18 rfl rfl ?_
      refine tt_iconst (pc := 19) (v := (-1 : Int32)) C dX6_whatIs_19 (by decide) ?_
      obtain ⟨r25, hr25, hf⟩ := bind_some hf
      refine tt_callM (pc := 20) (ws := (xC cy xd sX aX uG es ea sT aT tT pT qT ma sL aL tL pL qL sK aK tK pK qK sH rH uH)) (q0 := 0) (ci := 6) (rest := []) (st' := [.int r25.1]) C rfl (k_X6_refused hr25) okX6_refused q2_19 rfl xC_obj rfl rfl rfl (Nat.le_of_ble_eq_true rfl) ⟨Nat.le_of_ble_eq_true rfl, Nat.le_of_ble_eq_true rfl⟩ dX6_whatIs_20 ?_
      obtain rfl := Option.some.inj hf
      exact tt_ireturn (pc := 23) C rfl rfl rfl dX6_whatIs_23
theorem dX6_judge_0 : decode cX6_judge 0 = .ok (.iload_n 1, 1) := by decide +kernel
theorem dX6_judge_1 : decode cX6_judge 1 = .ok (.invokestatic 270, 3) := by decide +kernel
theorem dX6_judge_4 : decode cX6_judge 4 = .ok (.ifCond .eq 14, 3) := by decide +kernel
theorem dX6_judge_7 : decode cX6_judge 7 = .ok (.aload_n 0, 1) := by decide +kernel
theorem dX6_judge_8 : decode cX6_judge 8 = .ok (.getfield 10, 3) := by decide +kernel
theorem dX6_judge_11 : decode cX6_judge 11 = .ok (.iload_n 2, 1) := by decide +kernel
theorem dX6_judge_12 : decode cX6_judge 12 = .ok (.invokevirtual 129, 3) := by decide +kernel
theorem dX6_judge_15 : decode cX6_judge 15 = .ok (.ifCond .ne 9, 3) := by decide +kernel
theorem dX6_judge_18 : decode cX6_judge 18 = .ok (.aload_n 0, 1) := by decide +kernel
theorem dX6_judge_19 : decode cX6_judge 19 = .ok (.iconst (-1), 1) := by decide +kernel
theorem dX6_judge_20 : decode cX6_judge 20 = .ok (.invokevirtual 87, 3) := by decide +kernel
theorem dX6_judge_23 : decode cX6_judge 23 = .ok (.ireturn, 1) := by decide +kernel
theorem dX6_judge_24 : decode cX6_judge 24 = .ok (.aload_n 0, 1) := by decide +kernel
theorem dX6_judge_25 : decode cX6_judge 25 = .ok (.getfield 35, 3) := by decide +kernel
theorem dX6_judge_28 : decode cX6_judge 28 = .ok (.iload_n 1, 1) := by decide +kernel
theorem dX6_judge_29 : decode cX6_judge 29 = .ok (.aaload, 1) := by decide +kernel
theorem dX6_judge_30 : decode cX6_judge 30 = .ok (.astore_n 3, 1) := by decide +kernel
theorem dX6_judge_31 : decode cX6_judge 31 = .ok (.aload_n 3, 1) := by decide +kernel
theorem dX6_judge_32 : decode cX6_judge 32 = .ok (.iconst 1, 1) := by decide +kernel
theorem dX6_judge_33 : decode cX6_judge 33 = .ok (.invokevirtual 302, 3) := by decide +kernel
theorem dX6_judge_36 : decode cX6_judge 36 = .ok (.istore 4, 2) := by decide +kernel
theorem dX6_judge_38 : decode cX6_judge 38 = .ok (.iload 4, 2) := by decide +kernel
theorem dX6_judge_40 : decode cX6_judge 40 = .ok (.ifCond .ge 6, 3) := by decide +kernel
theorem dX6_judge_43 : decode cX6_judge 43 = .ok (.iload 4, 2) := by decide +kernel
theorem dX6_judge_45 : decode cX6_judge 45 = .ok (.ireturn, 1) := by decide +kernel
theorem dX6_judge_46 : decode cX6_judge 46 = .ok (.iconst 0, 1) := by decide +kernel
theorem dX6_judge_47 : decode cX6_judge 47 = .ok (.istore 5, 2) := by decide +kernel
theorem dX6_judge_49 : decode cX6_judge 49 = .ok (.iload 5, 2) := by decide +kernel
theorem dX6_judge_51 : decode cX6_judge 51 = .ok (.aload_n 3, 1) := by decide +kernel
theorem dX6_judge_52 : decode cX6_judge 52 = .ok (.getfield 312, 3) := by decide +kernel
theorem dX6_judge_55 : decode cX6_judge 55 = .ok (.if_icmp .ge 61, 3) := by decide +kernel
theorem dX6_judge_58 : decode cX6_judge 58 = .ok (.aload_n 0, 1) := by decide +kernel
theorem dX6_judge_59 : decode cX6_judge 59 = .ok (.getfield 10, 3) := by decide +kernel
theorem dX6_judge_62 : decode cX6_judge 62 = .ok (.iload 5, 2) := by decide +kernel
theorem dX6_judge_64 : decode cX6_judge 64 = .ok (.invokevirtual 120, 3) := by decide +kernel
theorem dX6_judge_67 : decode cX6_judge 67 = .ok (.ifCond .eq 40, 3) := by decide +kernel
theorem dX6_judge_70 : decode cX6_judge 70 = .ok (.aload_n 0, 1) := by decide +kernel
theorem dX6_judge_71 : decode cX6_judge 71 = .ok (.getfield 10, 3) := by decide +kernel
theorem dX6_judge_74 : decode cX6_judge 74 = .ok (.aload_n 0, 1) := by decide +kernel
theorem dX6_judge_75 : decode cX6_judge 75 = .ok (.getfield 10, 3) := by decide +kernel
theorem dX6_judge_78 : decode cX6_judge 78 = .ok (.getfield 132, 3) := by decide +kernel
theorem dX6_judge_81 : decode cX6_judge 81 = .ok (.iload_n 2, 1) := by decide +kernel
theorem dX6_judge_82 : decode cX6_judge 82 = .ok (.aaload, 1) := by decide +kernel
theorem dX6_judge_83 : decode cX6_judge 83 = .ok (.iload 5, 2) := by decide +kernel
theorem dX6_judge_85 : decode cX6_judge 85 = .ok (.aload_n 0, 1) := by decide +kernel
theorem dX6_judge_86 : decode cX6_judge 86 = .ok (.getfield 10, 3) := by decide +kernel
theorem dX6_judge_89 : decode cX6_judge 89 = .ok (.invokevirtual 157, 3) := by decide +kernel
theorem dX6_judge_92 : decode cX6_judge 92 = .ok (.invokevirtual 180, 3) := by decide +kernel
theorem dX6_judge_95 : decode cX6_judge 95 = .ok (.i2l, 1) := by decide +kernel
theorem dX6_judge_96 : decode cX6_judge 96 = .ok (.aload_n 3, 1) := by decide +kernel
theorem dX6_judge_97 : decode cX6_judge 97 = .ok (.getfield 289, 3) := by decide +kernel
theorem dX6_judge_100 : decode cX6_judge 100 = .ok (.iload 5, 2) := by decide +kernel
theorem dX6_judge_102 : decode cX6_judge 102 = .ok (.laload, 1) := by decide +kernel
theorem dX6_judge_103 : decode cX6_judge 103 = .ok (.lcmp, 1) := by decide +kernel
theorem dX6_judge_104 : decode cX6_judge 104 = .ok (.ifCond .eq 6, 3) := by decide +kernel
theorem dX6_judge_107 : decode cX6_judge 107 = .ok (.iload 5, 2) := by decide +kernel
theorem dX6_judge_109 : decode cX6_judge 109 = .ok (.ireturn, 1) := by decide +kernel
theorem dX6_judge_110 : decode cX6_judge 110 = .ok (.iinc 5 1, 3) := by decide +kernel
theorem dX6_judge_113 : decode cX6_judge 113 = .ok (.goto (-64), 3) := by decide +kernel
theorem dX6_judge_116 : decode cX6_judge 116 = .ok (.bipush (-9), 2) := by decide +kernel
theorem dX6_judge_118 : decode cX6_judge 118 = .ok (.ireturn, 1) := by decide +kernel
set_option maxHeartbeats 4000000 in
set_option maxRecDepth 100000 in
theorem l_X6_judge_49 {p : Program} {l : Launch} {e : Env} {s : State} {m : MethodId} {args : Array Value} {below : List Frame} {meth : Method} {c : Code} {D : va_G} {cy : Nat → ClassId} {A : Nat → Prop} {Bd : Nat} {xa : Xa} {xd : Nat → Nat → Nat} {N : Nat} {aX : Nat → Nat → Int32} {sL : Nat → Int32} {aL : Nat → Nat → Int32} {tL : Nat → Nat → Int32} {sH : Nat → Nat → Int32} {rH : Nat → Nat → Int64} {sX : Nat → Int32} {uG : Nat → Int32} {es : Nat → Int32} {ea : Nat → Nat → Int32} {sT : Nat → Int32} {aT : Nat → Nat → Int32} {tT : Nat → Nat → Int32} {pT : Nat → Int32} {qT : Nat → Nat → Int32} {ma : Nat → Nat → Int32} {pL : Nat → Int32} {qL : Nat → Nat → Int32} {sK : Nat → Int32} {aK : Nat → Nat → Int32} {tK : Nat → Nat → Int32} {pK : Nat → Int32} {qK : Nat → Nat → Int32} {uH : Nat → Nat → Int32} {v2 : Int32} {t3 : Nat} {kx : Unit → Option (Int32 × (Nat → Nat → Int32))} {out : Int32 × (Nat → Nat → Int32)} (C : CC p s m args meth c cX6_judge RX6 6 (some .int) D cy A false Bd xa) (g3 : t3 < 4) (hk : ∀ (uu : Unit), kx uu = some out → TT p l e { frames := 5, cells := 0, slots := 0, locals := 119 } s m args below meth c 6 D A false (some (.int out.1)) (xC cy xd sX out.2 uG es ea sT aT tT pT qT ma sL aL tL pL qL sK aK tK pK qK sH rH uH) 116 [] [] (xC cy xd sX aX uG es ea sT aT tT pT qT ma sL aL tL pL qL sK aK tK pK qK sH rH uH)) {n : Nat} {v5 : Int32} (hf : f_X6_judge_L49 N aX sL aL tL sH rH v2 t3 kx n v5 = some out) : TT p l e { frames := 5, cells := 0, slots := 0, locals := 119 } s m args below meth c 6 D A false (some (.int out.1)) (xC cy xd sX out.2 uG es ea sT aT tT pT qT ma sL aL tL pL qL sK aK tK pK qK sH rH uH) 49 [(0, .ref (xd 0 0)), (2, .int v2), (3, .ref ((xd (10 + t3)) 0)), (5, .int v5)] [] (xC cy xd sX aX uG es ea sT aT tT pT qT ma sL aL tL pL qL sK aK tK pK qK sH rH uH) := by
  induction n generalizing v5 with
  | zero => cases hf
  | succ n ih =>
    rw [f_X6_judge_L49] at hf
    refine tt_iload (pc := 49) (k := 3) C dX6_judge_49 rfl ?_
    refine tt_aload_n (pc := 51) (k := 2) C dX6_judge_51 rfl rfl ?_
    refine tt_get (pc := 52) (ws := (xC cy xd sX aX uG es ea sT aT tT pT qT ma sL aL tL pL qL sK aK tK pK qK sH rH uH)) (ci := 4) (v := .int ((sH t3) 1)) C fiX4 rfl (60 + 3 * t3) (xC_hget g3) 1 (by decide) q1_204 rfl dX6_judge_52 ?_
    refine tt_icmp_ge (pc := 55) (tgt := 116) C dX6_judge_55 (by decide) hf (fun hf => ?_) (fun hf => ?_)
    · exact tt_locs [] rfl (hk () hf)
    · refine tt_aload_n (pc := 58) (k := 0) C dX6_judge_58 rfl rfl ?_
      refine tt_get (pc := 59) (ws := (xC cy xd sX aX uG es ea sT aT tT pT qT ma sL aL tL pL qL sK aK tK pK qK sH rH uH)) (ci := 6) (v := .ref ((xd 1) 0)) C fiX6 rfl 0 xC_obj 0 (by decide) q1_219 rfl dX6_judge_59 ?_
      refine tt_iload (pc := 62) (k := 3) C dX6_judge_62 rfl ?_
      obtain ⟨r6, hr6, hf⟩ := bind_some hf
      refine tt_callR (pc := 64) (ws := (xC cy xd sX aX uG es ea sT aT tT pT qT ma sL aL tL pL qL sK aK tK pK qK sH rH uH)) (q0 := 28) (ci := 1) (rest := []) (st' := [.int r6]) C (k_X1_hasPost hr6) okX1_hasPost q3_38 rfl rfl xC_subL rfl rfl rfl (Nat.le_of_ble_eq_true rfl) ⟨Nat.le_of_ble_eq_true rfl, Nat.le_of_ble_eq_true rfl⟩ dX6_judge_64 ?_
      refine tt_if_eq (pc := 67) (tgt := 107) C dX6_judge_67 (by decide) hf (fun hf => ?_) (fun hf => ?_)
      · refine tt_iload (pc := 107) (k := 3) C dX6_judge_107 rfl ?_
        obtain rfl := Option.some.inj hf
        exact tt_ireturn (pc := 109) C rfl rfl rfl dX6_judge_109
      · refine tt_aload_n (pc := 70) (k := 0) C dX6_judge_70 rfl rfl ?_
        refine tt_get (pc := 71) (ws := (xC cy xd sX aX uG es ea sT aT tT pT qT ma sL aL tL pL qL sK aK tK pK qK sH rH uH)) (ci := 6) (v := .ref ((xd 1) 0)) C fiX6 rfl 0 xC_obj 0 (by decide) q1_219 rfl dX6_judge_71 ?_
        refine tt_aload_n (pc := 74) (k := 0) C dX6_judge_74 rfl rfl ?_
        refine tt_get (pc := 75) (ws := (xC cy xd sX aX uG es ea sT aT tT pT qT ma sL aL tL pL qL sK aK tK pK qK sH rH uH)) (ci := 6) (v := .ref ((xd 1) 0)) C fiX6 rfl 0 xC_obj 0 (by decide) q1_219 rfl dX6_judge_75 ?_
        refine tt_get (pc := 78) (ws := (xC cy xd sX aX uG es ea sT aT tT pT qT ma sL aL tL pL qL sK aK tK pK qK sH rH uH)) (ci := 1) (v := .ref ((xd 1) 10)) C fiX1 rfl 28 rfl 10 (by decide) q1_107 rfl dX6_judge_78 ?_
        refine tt_iload_n (pc := 81) (k := 1) C dX6_judge_81 rfl rfl ?_
        refine tt_aaload (pc := 82) (ws := (xC cy xd sX aX uG es ea sT aT tT pT qT ma sL aL tL pL qL sK aK tK pK qK sH rH uH)) (n := 4) (r := (fun j => (xd 1) (40 + j))) C 35 4 rfl rfl hf (fun _ _ => rfl) dX6_judge_82 (fun hf hlt7 => ?_)
        refine tt_iload (pc := 83) (k := 3) C dX6_judge_83 rfl ?_
        refine tt_aload_n (pc := 85) (k := 0) C dX6_judge_85 rfl rfl ?_
        refine tt_get (pc := 86) (ws := (xC cy xd sX aX uG es ea sT aT tT pT qT ma sL aL tL pL qL sK aK tK pK qK sH rH uH)) (ci := 6) (v := .ref ((xd 1) 0)) C fiX6 rfl 0 xC_obj 0 (by decide) q1_219 rfl dX6_judge_86 ?_
        obtain ⟨r8, hr8, hf⟩ := bind_some hf
        refine tt_callR (pc := 89) (ws := (xC cy xd sX aX uG es ea sT aT tT pT qT ma sL aL tL pL qL sK aK tK pK qK sH rH uH)) (q0 := 28) (ci := 1) (rest := [.int v5, .ref ((xd 1) (40 + (ix v2))), .ref ((xd 1) 0)]) (st' := [.int r8, .int v5, .ref ((xd 1) (40 + (ix v2))), .ref ((xd 1) 0)]) C (k_X1_allBridges hr8) okX1_allBridges q3_60 rfl rfl xC_subL rfl rfl rfl (Nat.le_of_ble_eq_true rfl) ⟨Nat.le_of_ble_eq_true rfl, Nat.le_of_ble_eq_true rfl⟩ dX6_judge_89 ?_
        obtain ⟨r9, hr9, hf⟩ := bind_some hf
        refine tt_callR (pc := 92) (ws := (xC cy xd sX aX uG es ea sT aT tT pT qT ma sL aL tL pL qL sK aK tK pK qK sH rH uH)) (q0 := 28) (ci := 1) (rest := []) (st' := [.int r9]) C (k_X1_warningOf hr9) okX1_warningOf q3_120 rfl rfl (sub_c (xC_subL _ (lC_tmem hlt7)) xC_subL) rfl rfl rfl (Nat.le_of_ble_eq_true rfl) ⟨Nat.le_of_ble_eq_true rfl, Nat.le_of_ble_eq_true rfl⟩ dX6_judge_92 ?_
        refine tt_i2l (pc := 95) C dX6_judge_95 ?_
        refine tt_aload_n (pc := 96) (k := 2) C dX6_judge_96 rfl rfl ?_
        refine tt_get (pc := 97) (ws := (xC cy xd sX aX uG es ea sT aT tT pT qT ma sL aL tL pL qL sK aK tK pK qK sH rH uH)) (ci := 4) (v := .ref ((xd (10 + t3)) 2)) C fiX4 rfl (60 + 3 * t3) (xC_hget g3) 2 (by decide) q1_206 rfl dX6_judge_97 ?_
        refine tt_iload (pc := 100) (k := 3) C dX6_judge_100 rfl ?_
        refine tt_laload (pc := 102) (ws := (xC cy xd sX aX uG es ea sT aT tT pT qT ma sL aL tL pL qL sK aK tK pK qK sH rH uH)) (n := 20) (f := (rH t3)) C (60 + 3 * t3 + 1) 1 (xC_hrget g3) rfl hf dX6_judge_102 (fun hf => ?_)
        refine tt_lcmp (pc := 103) C dX6_judge_103 ?_
        refine tt_if_eq (pc := 104) (tgt := 110) C dX6_judge_104 (by decide) hf (fun hf => ?_) (fun hf => ?_)
        · refine tt_iinc (pc := 110) (k := 3) (v := (v5 + 1)) (L' := [(5, .int (v5 + 1)), (0, .ref (xd 0 0)), (2, .int v2), (3, .ref ((xd (10 + t3)) 0))]) C dX6_judge_110 rfl rfl (by decide) rfl ?_
          refine tt_goto (pc := 113) (tgt := 49) C dX6_judge_113 (by decide) ?_
          exact tt_locs [1, 2, 3, 0] rfl (ih hf)
        · refine tt_iload (pc := 107) (k := 3) C dX6_judge_107 rfl ?_
          obtain rfl := Option.some.inj hf
          exact tt_ireturn (pc := 109) C rfl rfl rfl dX6_judge_109
set_option maxHeartbeats 4000000 in
set_option maxRecDepth 100000 in
theorem k_X6_judge {l : Launch} {D : va_G} {cy : Nat → ClassId} {Bd : Nat} {xa : Xa} {xd : Nat → Nat → Nat} {N : Nat} {sX : Nat → Int32} {aX : Nat → Nat → Int32} {uG : Nat → Int32} {es : Nat → Int32} {ea : Nat → Nat → Int32} {sT : Nat → Int32} {aT : Nat → Nat → Int32} {tT : Nat → Nat → Int32} {pT : Nat → Int32} {qT : Nat → Nat → Int32} {ma : Nat → Nat → Int32} {sL : Nat → Int32} {aL : Nat → Nat → Int32} {tL : Nat → Nat → Int32} {pL : Nat → Int32} {qL : Nat → Nat → Int32} {sK : Nat → Int32} {aK : Nat → Nat → Int32} {tK : Nat → Nat → Int32} {pK : Nat → Int32} {qK : Nat → Nat → Int32} {sH : Nat → Nat → Int32} {rH : Nat → Nat → Int64} {uH : Nat → Nat → Int32} {a1 : Int32} {a2 : Int32} {out : Int32 × (Nat → Nat → Int32)} (hf : f_X6_judge N aX sL aL tL sH rH a1 a2 = some out) : KC l yX6_judge cX6_judge 6 (some .int) 5 119 false D cy Bd xa [.ref (xd 0 0), .int a1, .int a2] (xC cy xd sX aX uG es ea sT aT tT pT qT ma sL aL tL pL qL sK aK tK pK qK sH rH uH) (some (.int out.1)) (xC cy xd sX out.2 uG es ea sT aT tT pT qT ma sL aL tL pL qL sK aK tK pK qK sH rH uH) := by
  refine kc_start (own := RX6) (by decide +kernel) rfl (Nat.le_of_ble_eq_true rfl) ?_
  intro p e s m args below meth c A C
  unfold f_X6_judge at hf
  refine tt_locs (L' := [(0, .ref (xd 0 0)), (1, .int a1), (2, .int a2)]) [0, 1, 2] rfl ?_
  refine tt_iload_n (pc := 0) (k := 1) C dX6_judge_0 rfl rfl ?_
  obtain ⟨r1, hr1, hf⟩ := bind_some hf
  refine tt_callS (pc := 1) (ws := (xC cy xd sX aX uG es ea sT aT tT pT qT ma sL aL tL pL qL sK aK tK pK qK sH rH uH)) (rest := []) (st' := [.int r1]) C (k_X6_hasShelf hr1) okX6_hasShelf q4_65 (fun _ h => absurd h List.not_mem_nil) rfl rfl rfl (Nat.le_of_ble_eq_true rfl) ⟨Nat.le_of_ble_eq_true rfl, Nat.le_of_ble_eq_true rfl⟩ dX6_judge_1 ?_
  refine tt_if_eq (pc := 4) (tgt := 18) C dX6_judge_4 (by decide) hf (fun hf => ?_) (fun hf => ?_)
  · refine tt_aload_n (pc := 18) (k := 0) C dX6_judge_18 rfl rfl ?_
    refine tt_iconst (pc := 19) (v := (-1 : Int32)) C dX6_judge_19 (by decide) ?_
    obtain ⟨r2, hr2, hf⟩ := bind_some hf
    refine tt_callM (pc := 20) (ws := (xC cy xd sX aX uG es ea sT aT tT pT qT ma sL aL tL pL qL sK aK tK pK qK sH rH uH)) (q0 := 0) (ci := 6) (rest := []) (st' := [.int r2.1]) C rfl (k_X6_refused hr2) okX6_refused q2_19 rfl xC_obj rfl rfl rfl (Nat.le_of_ble_eq_true rfl) ⟨Nat.le_of_ble_eq_true rfl, Nat.le_of_ble_eq_true rfl⟩ dX6_judge_20 ?_
    obtain rfl := Option.some.inj hf
    exact tt_ireturn (pc := 23) C rfl rfl rfl dX6_judge_23
  · refine tt_aload_n (pc := 7) (k := 0) C dX6_judge_7 rfl rfl ?_
    refine tt_get (pc := 8) (ws := (xC cy xd sX aX uG es ea sT aT tT pT qT ma sL aL tL pL qL sK aK tK pK qK sH rH uH)) (ci := 6) (v := .ref ((xd 1) 0)) C fiX6 rfl 0 xC_obj 0 (by decide) q1_219 rfl dX6_judge_8 ?_
    refine tt_iload_n (pc := 11) (k := 2) C dX6_judge_11 rfl rfl ?_
    obtain ⟨r3, hr3, hf⟩ := bind_some hf
    refine tt_callR (pc := 12) (ws := (xC cy xd sX aX uG es ea sT aT tT pT qT ma sL aL tL pL qL sK aK tK pK qK sH rH uH)) (q0 := 28) (ci := 1) (rest := []) (st' := [.int r3]) C (k_X1_hasTrain hr3) okX1_hasTrain q3_43 rfl rfl xC_subL rfl rfl rfl (Nat.le_of_ble_eq_true rfl) ⟨Nat.le_of_ble_eq_true rfl, Nat.le_of_ble_eq_true rfl⟩ dX6_judge_12 ?_
    refine tt_if_ne (pc := 15) (tgt := 24) C dX6_judge_15 (by decide) hf (fun hf => ?_) (fun hf => ?_)
    · refine tt_aload_n (pc := 24) (k := 0) C dX6_judge_24 rfl rfl ?_
      refine tt_get (pc := 25) (ws := (xC cy xd sX aX uG es ea sT aT tT pT qT ma sL aL tL pL qL sK aK tK pK qK sH rH uH)) (ci := 6) (v := .ref (xd 0 5)) C fiX6 rfl 0 xC_obj 5 (by decide) q1_224 rfl dX6_judge_25 ?_
      refine tt_iload_n (pc := 28) (k := 1) C dX6_judge_28 rfl rfl ?_
      refine tt_aaload (pc := 29) (ws := (xC cy xd sX aX uG es ea sT aT tT pT qT ma sL aL tL pL qL sK aK tK pK qK sH rH uH)) (n := 4) (r := (fun j => xd (10 + j) 0)) C 1 5 xC_get5 rfl hf (fun _ _ => rfl) dX6_judge_29 (fun hf hlt4 => ?_)
      refine tt_astore_n (pc := 30) (L' := [(3, .ref ((xd (10 + (ix a1))) 0)), (0, .ref (xd 0 0)), (1, .int a1), (2, .int a2)]) C dX6_judge_30 rfl (by decide) rfl ?_
      refine tt_aload_n (pc := 31) (k := 0) C dX6_judge_31 rfl rfl ?_
      refine tt_iconst (pc := 32) (v := (1 : Int32)) C dX6_judge_32 (by decide) ?_
      obtain ⟨r5, hr5, hf⟩ := bind_some hf
      refine tt_callR (pc := 33) (ws := (xC cy xd sX aX uG es ea sT aT tT pT qT ma sL aL tL pL qL sK aK tK pK qK sH rH uH)) (q0 := (60 + 3 * (ix a1))) (ci := 4) (rest := []) (st' := [.int r5]) C (k_X4_faultOfSort hr5) okX4_faultOfSort q4_111 rfl (xC_hget hlt4) (xC_subH hlt4) rfl rfl rfl (Nat.le_of_ble_eq_true rfl) ⟨Nat.le_of_ble_eq_true rfl, Nat.le_of_ble_eq_true rfl⟩ dX6_judge_33 ?_
      refine tt_istore (pc := 36) (L' := [(4, .int r5), (3, .ref ((xd (10 + (ix a1))) 0)), (0, .ref (xd 0 0)), (1, .int a1), (2, .int a2)]) C dX6_judge_36 (by decide) rfl ?_
      refine tt_iload (pc := 38) (k := 0) C dX6_judge_38 rfl ?_
      refine tt_if_ge (pc := 40) (tgt := 46) C dX6_judge_40 (by decide) hf (fun hf => ?_) (fun hf => ?_)
      · refine tt_iconst (pc := 46) (v := (0 : Int32)) C dX6_judge_46 (by decide) ?_
        refine tt_istore (pc := 47) (L' := [(5, .int (0 : Int32)), (4, .int r5), (3, .ref ((xd (10 + (ix a1))) 0)), (0, .ref (xd 0 0)), (1, .int a1), (2, .int a2)]) C dX6_judge_47 (by decide) rfl ?_
        refine tt_locs (L' := [(0, .ref (xd 0 0)), (2, .int a2), (3, .ref ((xd (10 + (ix a1))) 0)), (5, .int (0 : Int32))]) [3, 5, 2, 0] rfl (l_X6_judge_49 C hlt4 (fun _ hf => ?_) hf)
        refine tt_bipush (pc := 116) (v := (-9 : Int32)) C dX6_judge_116 (by decide) ?_
        obtain rfl := Option.some.inj hf
        exact tt_ireturn (pc := 118) C rfl rfl rfl dX6_judge_118
      · refine tt_iload (pc := 43) (k := 0) C dX6_judge_43 rfl ?_
        obtain rfl := Option.some.inj hf
        exact tt_ireturn (pc := 45) C rfl rfl rfl dX6_judge_45
    · refine tt_aload_n (pc := 18) (k := 0) C dX6_judge_18 rfl rfl ?_
      refine tt_iconst (pc := 19) (v := (-1 : Int32)) C dX6_judge_19 (by decide) ?_
      obtain ⟨r10, hr10, hf⟩ := bind_some hf
      refine tt_callM (pc := 20) (ws := (xC cy xd sX aX uG es ea sT aT tT pT qT ma sL aL tL pL qL sK aK tK pK qK sH rH uH)) (q0 := 0) (ci := 6) (rest := []) (st' := [.int r10.1]) C rfl (k_X6_refused hr10) okX6_refused q2_19 rfl xC_obj rfl rfl rfl (Nat.le_of_ble_eq_true rfl) ⟨Nat.le_of_ble_eq_true rfl, Nat.le_of_ble_eq_true rfl⟩ dX6_judge_20 ?_
      obtain rfl := Option.some.inj hf
      exact tt_ireturn (pc := 23) C rfl rfl rfl dX6_judge_23
theorem dX1_drawGround_0 : decode cX1_drawGround 0 = .ok (.iload_n 1, 1) := by decide +kernel
theorem dX1_drawGround_1 : decode cX1_drawGround 1 = .ok (.istore_n 2, 1) := by decide +kernel
theorem dX1_drawGround_2 : decode cX1_drawGround 2 = .ok (.iconst 0, 1) := by decide +kernel
theorem dX1_drawGround_3 : decode cX1_drawGround 3 = .ok (.istore_n 3, 1) := by decide +kernel
theorem dX1_drawGround_4 : decode cX1_drawGround 4 = .ok (.iload_n 3, 1) := by decide +kernel
theorem dX1_drawGround_5 : decode cX1_drawGround 5 = .ok (.aload_n 0, 1) := by decide +kernel
theorem dX1_drawGround_6 : decode cX1_drawGround 6 = .ok (.getfield 9, 3) := by decide +kernel
theorem dX1_drawGround_9 : decode cX1_drawGround 9 = .ok (.if_icmp .ge 34, 3) := by decide +kernel
theorem dX1_drawGround_12 : decode cX1_drawGround 12 = .ok (.iload_n 2, 1) := by decide +kernel
theorem dX1_drawGround_13 : decode cX1_drawGround 13 = .ok (.ldc 106, 2) := by decide +kernel
theorem dX1_drawGround_15 : decode cX1_drawGround 15 = .ok (.imul, 1) := by decide +kernel
theorem dX1_drawGround_16 : decode cX1_drawGround 16 = .ok (.ldc 107, 2) := by decide +kernel
theorem dX1_drawGround_18 : decode cX1_drawGround 18 = .ok (.iadd, 1) := by decide +kernel
theorem dX1_drawGround_19 : decode cX1_drawGround 19 = .ok (.istore_n 2, 1) := by decide +kernel
theorem dX1_drawGround_20 : decode cX1_drawGround 20 = .ok (.aload_n 0, 1) := by decide +kernel
theorem dX1_drawGround_21 : decode cX1_drawGround 21 = .ok (.getfield 15, 3) := by decide +kernel
theorem dX1_drawGround_24 : decode cX1_drawGround 24 = .ok (.iload_n 3, 1) := by decide +kernel
theorem dX1_drawGround_25 : decode cX1_drawGround 25 = .ok (.iload_n 2, 1) := by decide +kernel
theorem dX1_drawGround_26 : decode cX1_drawGround 26 = .ok (.ldc 108, 2) := by decide +kernel
theorem dX1_drawGround_28 : decode cX1_drawGround 28 = .ok (.iand, 1) := by decide +kernel
theorem dX1_drawGround_29 : decode cX1_drawGround 29 = .ok (.sipush 256, 3) := by decide +kernel
theorem dX1_drawGround_32 : decode cX1_drawGround 32 = .ok (.idiv, 1) := by decide +kernel
theorem dX1_drawGround_33 : decode cX1_drawGround 33 = .ok (.bipush 31, 2) := by decide +kernel
theorem dX1_drawGround_35 : decode cX1_drawGround 35 = .ok (.irem, 1) := by decide +kernel
theorem dX1_drawGround_36 : decode cX1_drawGround 36 = .ok (.iastore, 1) := by decide +kernel
theorem dX1_drawGround_37 : decode cX1_drawGround 37 = .ok (.iinc 3 1, 3) := by decide +kernel
theorem dX1_drawGround_40 : decode cX1_drawGround 40 = .ok (.goto (-36), 3) := by decide +kernel
theorem dX1_drawGround_43 : decode cX1_drawGround 43 = .ok (.iload_n 2, 1) := by decide +kernel
theorem dX1_drawGround_44 : decode cX1_drawGround 44 = .ok (.ireturn, 1) := by decide +kernel
set_option maxHeartbeats 4000000 in
set_option maxRecDepth 100000 in
theorem l_X1_drawGround_4 {p : Program} {l : Launch} {e : Env} {s : State} {m : MethodId} {args : Array Value} {below : List Frame} {meth : Method} {c : Code} {D : va_G} {cy : Nat → ClassId} {A : Nat → Prop} {Bd : Nat} {xa : Xa} {ad : Nat → Nat} {β : Type} {vO : Option Value} {wO : va_W} {N : Nat} {sc : Nat → Int32} {tr : Nat → Nat → Int32} {ps : Nat → Int32} {pa : Nat → Nat → Int32} {kx : Int32 → (Nat → Nat → Int32) → Option (β)} {out : β} (C : CC p s m args meth c cX1_drawGround RX1 4 (some .int) D cy A false Bd xa) (hk : ∀ (x2 : Int32) (ar1 : Nat → Nat → Int32), kx x2 ar1 = some out → TT p l e { frames := 0, cells := 0, slots := 0, locals := 0 } s m args below meth c 4 D A false vO wO 43 [(2, .int x2)] [] (lC cy ad sc ar1 tr ps pa)) {n : Nat} {v2 : Int32} {v3 : Int32} {ar : Nat → Nat → Int32} (hf : f_X1_drawGround_L4 N sc kx n v2 v3 ar = some out) : TT p l e { frames := 0, cells := 0, slots := 0, locals := 0 } s m args below meth c 4 D A false vO wO 4 [(0, .ref (ad 0)), (2, .int v2), (3, .int v3)] [] (lC cy ad sc ar tr ps pa) := by
  induction n generalizing v2 v3 ar with
  | zero => cases hf
  | succ n ih =>
    rw [f_X1_drawGround_L4] at hf
    refine tt_iload_n (pc := 4) (k := 2) C dX1_drawGround_4 rfl rfl ?_
    refine tt_aload_n (pc := 5) (k := 0) C dX1_drawGround_5 rfl rfl ?_
    refine tt_get (pc := 6) (ws := (lC cy ad sc ar tr ps pa)) (ci := 1) (v := .int (sc 0)) C fiX1 rfl 0 lC_obj 0 (by decide) q1_82 rfl dX1_drawGround_6 ?_
    refine tt_icmp_ge (pc := 9) (tgt := 43) C dX1_drawGround_9 (by decide) hf (fun hf => ?_) (fun hf => ?_)
    · exact tt_locs [1] rfl (hk _ _ hf)
    · refine tt_iload_n (pc := 12) (k := 1) C dX1_drawGround_12 rfl rfl ?_
      refine tt_ldc (pc := 13) (v := (1664525 : Int32)) C dX1_drawGround_13 q4_139 ?_
      refine tt_imul (pc := 15) C dX1_drawGround_15 ?_
      refine tt_ldc (pc := 16) (v := (1013904223 : Int32)) C dX1_drawGround_16 q4_140 ?_
      refine tt_iadd (pc := 18) C dX1_drawGround_18 ?_
      refine tt_istore_n (pc := 19) (L' := [(2, .int ((v2 * (1664525 : Int32)) + (1013904223 : Int32))), (0, .ref (ad 0)), (3, .int v3)]) C dX1_drawGround_19 rfl (by decide) rfl ?_
      refine tt_aload_n (pc := 20) (k := 1) C dX1_drawGround_20 rfl rfl ?_
      refine tt_get (pc := 21) (ws := (lC cy ad sc ar tr ps pa)) (ci := 1) (v := .ref (ad 1)) C fiX1 rfl 0 lC_obj 1 (by decide) q1_85 rfl dX1_drawGround_21 ?_
      refine tt_iload_n (pc := 24) (k := 2) C dX1_drawGround_24 rfl rfl ?_
      refine tt_iload_n (pc := 25) (k := 0) C dX1_drawGround_25 rfl rfl ?_
      refine tt_ldc (pc := 26) (v := (2147483647 : Int32)) C dX1_drawGround_26 q4_141 ?_
      refine tt_iand (pc := 28) C dX1_drawGround_28 ?_
      refine tt_sipush (pc := 29) (v := (256 : Int32)) C dX1_drawGround_29 (by decide) ?_
      refine tt_idiv (pc := 32) C dX1_drawGround_32 hf (fun hf => ?_)
      refine tt_bipush (pc := 33) (v := (31 : Int32)) C dX1_drawGround_33 (by decide) ?_
      refine tt_irem (pc := 35) C dX1_drawGround_35 hf (fun hf => ?_)
      refine tt_iastore (pc := 36) (ws := (lC cy ad sc ar tr ps pa)) (n := 24) (f := (ar 1)) (ws' := (lC cy ad sc (va_up ar 1 (upd (ar 1) (ix v3) (((((v2 * (1664525 : Int32)) + (1013904223 : Int32)) &&& (2147483647 : Int32)) / (256 : Int32)) - ((((v2 * (1664525 : Int32)) + (1013904223 : Int32)) &&& (2147483647 : Int32)) / (256 : Int32)) / (31 : Int32) * (31 : Int32)))) tr ps pa)) C rfl 1 0 lC_get1 rfl hf dX1_drawGround_36 lC_set1 (fun hf => ?_)
      refine tt_iinc (pc := 37) (k := 2) (v := (v3 + 1)) (L' := [(3, .int (v3 + 1)), (2, .int ((v2 * (1664525 : Int32)) + (1013904223 : Int32))), (0, .ref (ad 0))]) C dX1_drawGround_37 rfl rfl (by decide) rfl ?_
      refine tt_goto (pc := 40) (tgt := 4) C dX1_drawGround_40 (by decide) ?_
      exact tt_locs [2, 1, 0] rfl (ih hf)
set_option maxHeartbeats 4000000 in
set_option maxRecDepth 100000 in
theorem k_X1_drawGround {l : Launch} {D : va_G} {cy : Nat → ClassId} {Bd : Nat} {xa : Xa} {ad : Nat → Nat} {N : Nat} {sc : Nat → Int32} {ar : Nat → Nat → Int32} {tr : Nat → Nat → Int32} {ps : Nat → Int32} {pa : Nat → Nat → Int32} {a1 : Int32} {out : Int32 × (Nat → Nat → Int32)} (hf : f_X1_drawGround N sc ar a1 = some out) : KC l yX1_drawGround cX1_drawGround 4 (some .int) 0 0 false D cy Bd xa [.ref (ad 0), .int a1] (lC cy ad sc ar tr ps pa) (some (.int out.1)) (lC cy ad sc out.2 tr ps pa) := by
  refine kc_start (own := RX1) (by decide +kernel) rfl (Nat.le_of_ble_eq_true rfl) ?_
  intro p e s m args below meth c A C
  unfold f_X1_drawGround at hf
  refine tt_locs (L' := [(0, .ref (ad 0)), (1, .int a1)]) [0, 1] rfl ?_
  refine tt_iload_n (pc := 0) (k := 1) C dX1_drawGround_0 rfl rfl ?_
  refine tt_istore_n (pc := 1) (L' := [(2, .int a1), (0, .ref (ad 0)), (1, .int a1)]) C dX1_drawGround_1 rfl (by decide) rfl ?_
  refine tt_iconst (pc := 2) (v := (0 : Int32)) C dX1_drawGround_2 (by decide) ?_
  refine tt_istore_n (pc := 3) (L' := [(3, .int (0 : Int32)), (2, .int a1), (0, .ref (ad 0)), (1, .int a1)]) C dX1_drawGround_3 rfl (by decide) rfl ?_
  refine tt_locs (L' := [(0, .ref (ad 0)), (2, .int a1), (3, .int (0 : Int32))]) [2, 1, 0] rfl (l_X1_drawGround_4 C (fun x2_1 t1 hf => ?_) hf)
  refine tt_iload_n (pc := 43) (k := 0) C dX1_drawGround_43 rfl rfl ?_
  obtain rfl := Option.some.inj hf
  exact tt_ireturn (pc := 44) C rfl rfl rfl dX1_drawGround_44
theorem dX6_lots_0 : decode cX6_lots 0 = .ok (.iload_n 1, 1) := by decide +kernel
theorem dX6_lots_1 : decode cX6_lots 1 = .ok (.iconst 1, 1) := by decide +kernel
theorem dX6_lots_2 : decode cX6_lots 2 = .ok (.if_icmp .ge 10, 3) := by decide +kernel
theorem dX6_lots_5 : decode cX6_lots 5 = .ok (.aload_n 0, 1) := by decide +kernel
theorem dX6_lots_6 : decode cX6_lots 6 = .ok (.bipush (-4), 2) := by decide +kernel
theorem dX6_lots_8 : decode cX6_lots 8 = .ok (.invokevirtual 87, 3) := by decide +kernel
theorem dX6_lots_11 : decode cX6_lots 11 = .ok (.ireturn, 1) := by decide +kernel
theorem dX6_lots_12 : decode cX6_lots 12 = .ok (.iload_n 1, 1) := by decide +kernel
theorem dX6_lots_13 : decode cX6_lots 13 = .ok (.bipush 20, 2) := by decide +kernel
theorem dX6_lots_15 : decode cX6_lots 15 = .ok (.if_icmp .le 10, 3) := by decide +kernel
theorem dX6_lots_18 : decode cX6_lots 18 = .ok (.aload_n 0, 1) := by decide +kernel
theorem dX6_lots_19 : decode cX6_lots 19 = .ok (.bipush (-6), 2) := by decide +kernel
theorem dX6_lots_21 : decode cX6_lots 21 = .ok (.invokevirtual 87, 3) := by decide +kernel
theorem dX6_lots_24 : decode cX6_lots 24 = .ok (.ireturn, 1) := by decide +kernel
theorem dX6_lots_25 : decode cX6_lots 25 = .ok (.iload_n 3, 1) := by decide +kernel
theorem dX6_lots_26 : decode cX6_lots 26 = .ok (.ifCond .eq 15, 3) := by decide +kernel
theorem dX6_lots_29 : decode cX6_lots 29 = .ok (.iload_n 3, 1) := by decide +kernel
theorem dX6_lots_30 : decode cX6_lots 30 = .ok (.iconst 1, 1) := by decide +kernel
theorem dX6_lots_31 : decode cX6_lots 31 = .ok (.if_icmp .eq 10, 3) := by decide +kernel
theorem dX6_lots_34 : decode cX6_lots 34 = .ok (.aload_n 0, 1) := by decide +kernel
theorem dX6_lots_35 : decode cX6_lots 35 = .ok (.bipush (-2), 2) := by decide +kernel
theorem dX6_lots_37 : decode cX6_lots 37 = .ok (.invokevirtual 87, 3) := by decide +kernel
theorem dX6_lots_40 : decode cX6_lots 40 = .ok (.ireturn, 1) := by decide +kernel
theorem dX6_lots_41 : decode cX6_lots 41 = .ok (.aload_n 0, 1) := by decide +kernel
theorem dX6_lots_42 : decode cX6_lots 42 = .ok (.getfield 19, 3) := by decide +kernel
theorem dX6_lots_45 : decode cX6_lots 45 = .ok (.aload_n 0, 1) := by decide +kernel
theorem dX6_lots_46 : decode cX6_lots 46 = .ok (.getfield 10, 3) := by decide +kernel
theorem dX6_lots_49 : decode cX6_lots 49 = .ok (.invokevirtual 315, 3) := by decide +kernel
theorem dX6_lots_52 : decode cX6_lots 52 = .ok (.iload_n 2, 1) := by decide +kernel
theorem dX6_lots_53 : decode cX6_lots 53 = .ok (.istore 4, 2) := by decide +kernel
theorem dX6_lots_55 : decode cX6_lots 55 = .ok (.iconst 0, 1) := by decide +kernel
theorem dX6_lots_56 : decode cX6_lots 56 = .ok (.istore 5, 2) := by decide +kernel
theorem dX6_lots_58 : decode cX6_lots 58 = .ok (.iconst 0, 1) := by decide +kernel
theorem dX6_lots_59 : decode cX6_lots 59 = .ok (.istore 6, 2) := by decide +kernel
theorem dX6_lots_61 : decode cX6_lots 61 = .ok (.iload 6, 2) := by decide +kernel
theorem dX6_lots_63 : decode cX6_lots 63 = .ok (.iload_n 1, 1) := by decide +kernel
theorem dX6_lots_64 : decode cX6_lots 64 = .ok (.if_icmp .ge 56, 3) := by decide +kernel
theorem dX6_lots_67 : decode cX6_lots 67 = .ok (.aload_n 0, 1) := by decide +kernel
theorem dX6_lots_68 : decode cX6_lots 68 = .ok (.getfield 19, 3) := by decide +kernel
theorem dX6_lots_71 : decode cX6_lots 71 = .ok (.iload 4, 2) := by decide +kernel
theorem dX6_lots_73 : decode cX6_lots 73 = .ok (.invokevirtual 318, 3) := by decide +kernel
theorem dX6_lots_76 : decode cX6_lots 76 = .ok (.istore 4, 2) := by decide +kernel
theorem dX6_lots_78 : decode cX6_lots 78 = .ok (.iload 5, 2) := by decide +kernel
theorem dX6_lots_80 : decode cX6_lots 80 = .ok (.iload_n 3, 1) := by decide +kernel
theorem dX6_lots_81 : decode cX6_lots 81 = .ok (.ifCond .ne 23, 3) := by decide +kernel
theorem dX6_lots_84 : decode cX6_lots 84 = .ok (.aload_n 0, 1) := by decide +kernel
theorem dX6_lots_85 : decode cX6_lots 85 = .ok (.getfield 19, 3) := by decide +kernel
theorem dX6_lots_88 : decode cX6_lots 88 = .ok (.aload_n 0, 1) := by decide +kernel
theorem dX6_lots_89 : decode cX6_lots 89 = .ok (.getfield 19, 3) := by decide +kernel
theorem dX6_lots_92 : decode cX6_lots 92 = .ok (.invokevirtual 157, 3) := by decide +kernel
theorem dX6_lots_95 : decode cX6_lots 95 = .ok (.invokevirtual 183, 3) := by decide +kernel
theorem dX6_lots_98 : decode cX6_lots 98 = .ok (.invokestatic 168, 3) := by decide +kernel
theorem dX6_lots_101 : decode cX6_lots 101 = .ok (.goto 10, 3) := by decide +kernel
theorem dX6_lots_104 : decode cX6_lots 104 = .ok (.aload_n 0, 1) := by decide +kernel
theorem dX6_lots_105 : decode cX6_lots 105 = .ok (.getfield 19, 3) := by decide +kernel
theorem dX6_lots_108 : decode cX6_lots 108 = .ok (.invokevirtual 249, 3) := by decide +kernel
theorem dX6_lots_111 : decode cX6_lots 111 = .ok (.iadd, 1) := by decide +kernel
theorem dX6_lots_112 : decode cX6_lots 112 = .ok (.istore 5, 2) := by decide +kernel
theorem dX6_lots_114 : decode cX6_lots 114 = .ok (.iinc 6 1, 3) := by decide +kernel
theorem dX6_lots_117 : decode cX6_lots 117 = .ok (.goto (-56), 3) := by decide +kernel
theorem dX6_lots_120 : decode cX6_lots 120 = .ok (.iload 5, 2) := by decide +kernel
theorem dX6_lots_122 : decode cX6_lots 122 = .ok (.ireturn, 1) := by decide +kernel
set_option maxHeartbeats 4000000 in
set_option maxRecDepth 100000 in
theorem l_X6_lots_61 {p : Program} {l : Launch} {e : Env} {s : State} {m : MethodId} {args : Array Value} {below : List Frame} {meth : Method} {c : Code} {D : va_G} {cy : Nat → ClassId} {A : Nat → Prop} {Bd : Nat} {xa : Xa} {xd : Nat → Nat → Nat} {β : Type} {vO : Option Value} {wO : va_W} {N : Nat} {aX : Nat → Nat → Int32} {sT : Nat → Int32} {tT : Nat → Nat → Int32} {pT : Nat → Int32} {qT : Nat → Nat → Int32} {sL : Nat → Int32} {aL : Nat → Nat → Int32} {tL : Nat → Nat → Int32} {pL : Nat → Int32} {qL : Nat → Nat → Int32} {sX : Nat → Int32} {uG : Nat → Int32} {es : Nat → Int32} {ea : Nat → Nat → Int32} {ma : Nat → Nat → Int32} {sK : Nat → Int32} {aK : Nat → Nat → Int32} {tK : Nat → Nat → Int32} {pK : Nat → Int32} {qK : Nat → Nat → Int32} {sH : Nat → Nat → Int32} {rH : Nat → Nat → Int64} {uH : Nat → Nat → Int32} {v1 : Int32} {v3 : Int32} {kx : Int32 → (Nat → Nat → Int32) → Option (β)} {out : β} (C : CC p s m args meth c cX6_lots RX6 7 (some .int) D cy A false Bd xa) (hk : ∀ (x5 : Int32) (aT1 : Nat → Nat → Int32), kx x5 aT1 = some out → TT p l e { frames := 6, cells := 0, slots := 0, locals := 142 } s m args below meth c 7 D A false vO wO 120 [(5, .int x5)] [] (xC cy xd sX aX uG es ea sT aT1 tT pT qT ma sL aL tL pL qL sK aK tK pK qK sH rH uH)) {n : Nat} {v4 : Int32} {v5 : Int32} {v6 : Int32} {aT : Nat → Nat → Int32} (hf : f_X6_lots_L61 N aX sT tT pT qT sL aL tL pL qL v1 v3 kx n v4 v5 v6 aT = some out) : TT p l e { frames := 6, cells := 0, slots := 0, locals := 142 } s m args below meth c 7 D A false vO wO 61 [(0, .ref (xd 0 0)), (1, .int v1), (3, .int v3), (4, .int v4), (5, .int v5), (6, .int v6)] [] (xC cy xd sX aX uG es ea sT aT tT pT qT ma sL aL tL pL qL sK aK tK pK qK sH rH uH) := by
  induction n generalizing v4 v5 v6 aT with
  | zero => cases hf
  | succ n ih =>
    rw [f_X6_lots_L61] at hf
    refine tt_iload (pc := 61) (k := 5) C dX6_lots_61 rfl ?_
    refine tt_iload_n (pc := 63) (k := 1) C dX6_lots_63 rfl rfl ?_
    refine tt_icmp_ge (pc := 64) (tgt := 120) C dX6_lots_64 (by decide) hf (fun hf => ?_) (fun hf => ?_)
    · exact tt_locs [4] rfl (hk _ _ hf)
    · refine tt_aload_n (pc := 67) (k := 0) C dX6_lots_67 rfl rfl ?_
      refine tt_get (pc := 68) (ws := (xC cy xd sX aX uG es ea sT aT tT pT qT ma sL aL tL pL qL sK aK tK pK qK sH rH uH)) (ci := 6) (v := .ref ((xd 3) 0)) C fiX6 rfl 0 xC_obj 2 (by decide) q1_221 rfl dX6_lots_68 ?_
      refine tt_iload (pc := 71) (k := 3) C dX6_lots_71 rfl ?_
      obtain ⟨r2, hr2, hf⟩ := bind_some hf
      refine tt_callG (pc := 73) (ws := (xC cy xd sX aX uG es ea sT aT tT pT qT ma sL aL tL pL qL sK aK tK pK qK sH rH uH)) (ws' := (xC cy xd sX aX uG es ea sT r2.2 tT pT qT ma sL aL tL pL qL sK aK tK pK qK sH rH uH)) (q0 := 7) (ci := 1) (rest := []) (st' := [.int r2.1]) C rfl (k_X1_drawGround hr2) okX1_drawGround q4_135 rfl rfl _ _ xs_T xs_T.symm rfl rfl rfl (Nat.le_of_ble_eq_true rfl) ⟨Nat.le_of_ble_eq_true rfl, Nat.le_of_ble_eq_true rfl⟩ dX6_lots_73 ?_
      refine tt_istore (pc := 76) (L' := [(4, .int r2.1), (0, .ref (xd 0 0)), (1, .int v1), (3, .int v3), (5, .int v5), (6, .int v6)]) C dX6_lots_76 (by decide) rfl ?_
      refine tt_iload (pc := 78) (k := 4) C dX6_lots_78 rfl ?_
      refine tt_iload_n (pc := 80) (k := 3) C dX6_lots_80 rfl rfl ?_
      obtain ⟨j3, hj3, hf⟩ := bind_some hf
      have k4 : TT p l e { frames := 6, cells := 0, slots := 0, locals := 142 } s m args below meth c 7 D A false vO wO 111 [(0, .ref (xd 0 0)), (1, .int v1), (3, .int v3), (4, .int r2.1), (6, .int v6)] [.int j3, .int v5] (xC cy xd sX aX uG es ea sT r2.2 tT pT qT ma sL aL tL pL qL sK aK tK pK qK sH rH uH) := by
        refine tt_iadd (pc := 111) C dX6_lots_111 ?_
        refine tt_istore (pc := 112) (L' := [(5, .int (v5 + j3)), (0, .ref (xd 0 0)), (1, .int v1), (3, .int v3), (4, .int r2.1), (6, .int v6)]) C dX6_lots_112 (by decide) rfl ?_
        refine tt_iinc (pc := 114) (k := 5) (v := (v6 + 1)) (L' := [(6, .int (v6 + 1)), (5, .int (v5 + j3)), (0, .ref (xd 0 0)), (1, .int v1), (3, .int v3), (4, .int r2.1)]) C dX6_lots_114 rfl rfl (by decide) rfl ?_
        refine tt_goto (pc := 117) (tgt := 61) C dX6_lots_117 (by decide) ?_
        exact tt_locs [2, 3, 4, 5, 1, 0] rfl (ih hf)
      refine tt_if_ne (pc := 81) (tgt := 104) C dX6_lots_81 (by decide) hj3 (fun hj3 => ?_) (fun hj3 => ?_)
      · refine tt_aload_n (pc := 104) (k := 1) C dX6_lots_104 rfl rfl ?_
        refine tt_get (pc := 105) (ws := (xC cy xd sX aX uG es ea sT r2.2 tT pT qT ma sL aL tL pL qL sK aK tK pK qK sH rH uH)) (ci := 6) (v := .ref ((xd 3) 0)) C fiX6 rfl 0 xC_obj 2 (by decide) q1_221 rfl dX6_lots_105 ?_
        obtain ⟨r5, hr5, hj3⟩ := bind_some hj3
        refine tt_callR (pc := 108) (ws := (xC cy xd sX aX uG es ea sT r2.2 tT pT qT ma sL aL tL pL qL sK aK tK pK qK sH rH uH)) (q0 := 7) (ci := 1) (rest := [.int v5]) (st' := [.int r5, .int v5]) C (k_X1_allWarnings hr5) okX1_allWarnings q4_41 rfl rfl xC_subT rfl rfl rfl (Nat.le_of_ble_eq_true rfl) ⟨Nat.le_of_ble_eq_true rfl, Nat.le_of_ble_eq_true rfl⟩ dX6_lots_108 ?_
        obtain rfl := Option.some.inj hj3
        exact tt_locs [1, 2, 3, 0, 5] rfl k4
      · refine tt_aload_n (pc := 84) (k := 1) C dX6_lots_84 rfl rfl ?_
        refine tt_get (pc := 85) (ws := (xC cy xd sX aX uG es ea sT r2.2 tT pT qT ma sL aL tL pL qL sK aK tK pK qK sH rH uH)) (ci := 6) (v := .ref ((xd 3) 0)) C fiX6 rfl 0 xC_obj 2 (by decide) q1_221 rfl dX6_lots_85 ?_
        refine tt_aload_n (pc := 88) (k := 1) C dX6_lots_88 rfl rfl ?_
        refine tt_get (pc := 89) (ws := (xC cy xd sX aX uG es ea sT r2.2 tT pT qT ma sL aL tL pL qL sK aK tK pK qK sH rH uH)) (ci := 6) (v := .ref ((xd 3) 0)) C fiX6 rfl 0 xC_obj 2 (by decide) q1_221 rfl dX6_lots_89 ?_
        obtain ⟨r6, hr6, hj3⟩ := bind_some hj3
        refine tt_callR (pc := 92) (ws := (xC cy xd sX aX uG es ea sT r2.2 tT pT qT ma sL aL tL pL qL sK aK tK pK qK sH rH uH)) (q0 := 7) (ci := 1) (rest := [.ref ((xd 3) 0), .int v5]) (st' := [.int r6, .ref ((xd 3) 0), .int v5]) C (k_X1_allBridges hr6) okX1_allBridges q3_60 rfl rfl xC_subT rfl rfl rfl (Nat.le_of_ble_eq_true rfl) ⟨Nat.le_of_ble_eq_true rfl, Nat.le_of_ble_eq_true rfl⟩ dX6_lots_92 ?_
        obtain ⟨r7, hr7, hj3⟩ := bind_some hj3
        refine tt_callR (pc := 95) (ws := (xC cy xd sX aX uG es ea sT r2.2 tT pT qT ma sL aL tL pL qL sK aK tK pK qK sH rH uH)) (q0 := 7) (ci := 1) (rest := [.int v5]) (st' := [.int r7, .int v5]) C (k_X1_isSafe hr7) okX1_isSafe q3_133 rfl rfl xC_subT rfl rfl rfl (Nat.le_of_ble_eq_true rfl) ⟨Nat.le_of_ble_eq_true rfl, Nat.le_of_ble_eq_true rfl⟩ dX6_lots_95 ?_
        obtain ⟨r8, hr8, hj3⟩ := bind_some hj3
        refine tt_callS (pc := 98) (ws := (xC cy xd sX aX uG es ea sT r2.2 tT pT qT ma sL aL tL pL qL sK aK tK pK qK sH rH uH)) (rest := [.int v5]) (st' := [.int r8, .int v5]) C (k_X6_oneIf hr8) okX6_oneIf q3_95 (fun _ h => absurd h List.not_mem_nil) rfl rfl rfl (Nat.le_of_ble_eq_true rfl) ⟨Nat.le_of_ble_eq_true rfl, Nat.le_of_ble_eq_true rfl⟩ dX6_lots_98 ?_
        refine tt_goto (pc := 101) (tgt := 111) C dX6_lots_101 (by decide) ?_
        obtain rfl := Option.some.inj hj3
        exact tt_locs [1, 2, 3, 0, 5] rfl k4
set_option maxHeartbeats 4000000 in
set_option maxRecDepth 100000 in
theorem k_X6_lots {l : Launch} {D : va_G} {cy : Nat → ClassId} {Bd : Nat} {xa : Xa} {xd : Nat → Nat → Nat} {N : Nat} {sX : Nat → Int32} {aX : Nat → Nat → Int32} {uG : Nat → Int32} {es : Nat → Int32} {ea : Nat → Nat → Int32} {sT : Nat → Int32} {aT : Nat → Nat → Int32} {tT : Nat → Nat → Int32} {pT : Nat → Int32} {qT : Nat → Nat → Int32} {ma : Nat → Nat → Int32} {sL : Nat → Int32} {aL : Nat → Nat → Int32} {tL : Nat → Nat → Int32} {pL : Nat → Int32} {qL : Nat → Nat → Int32} {sK : Nat → Int32} {aK : Nat → Nat → Int32} {tK : Nat → Nat → Int32} {pK : Nat → Int32} {qK : Nat → Nat → Int32} {sH : Nat → Nat → Int32} {rH : Nat → Nat → Int64} {uH : Nat → Nat → Int32} {a1 : Int32} {a2 : Int32} {a3 : Int32} {out : Int32 × (Nat → Nat → Int32) × (Nat → Int32) × (Nat → Nat → Int32) × (Nat → Nat → Int32) × (Nat → Int32) × (Nat → Nat → Int32)} (hf : f_X6_lots N aX sT aT tT pT qT sL aL tL pL qL a1 a2 a3 = some out) : KC l yX6_lots cX6_lots 7 (some .int) 6 142 false D cy Bd xa [.ref (xd 0 0), .int a1, .int a2, .int a3] (xC cy xd sX aX uG es ea sT aT tT pT qT ma sL aL tL pL qL sK aK tK pK qK sH rH uH) (some (.int out.1)) (xC cy xd sX out.2.1 uG es ea out.2.2.1 out.2.2.2.1 out.2.2.2.2.1 out.2.2.2.2.2.1 out.2.2.2.2.2.2 ma sL aL tL pL qL sK aK tK pK qK sH rH uH) := by
  refine kc_start (own := RX6) (by decide +kernel) rfl (Nat.le_of_ble_eq_true rfl) ?_
  intro p e s m args below meth c A C
  unfold f_X6_lots at hf
  refine tt_locs (L' := [(0, .ref (xd 0 0)), (1, .int a1), (2, .int a2), (3, .int a3)]) [0, 1, 2, 3] rfl ?_
  refine tt_iload_n (pc := 0) (k := 1) C dX6_lots_0 rfl rfl ?_
  refine tt_iconst (pc := 1) (v := (1 : Int32)) C dX6_lots_1 (by decide) ?_
  refine tt_icmp_ge (pc := 2) (tgt := 12) C dX6_lots_2 (by decide) hf (fun hf => ?_) (fun hf => ?_)
  · refine tt_iload_n (pc := 12) (k := 1) C dX6_lots_12 rfl rfl ?_
    refine tt_bipush (pc := 13) (v := (20 : Int32)) C dX6_lots_13 (by decide) ?_
    refine tt_icmp_le (pc := 15) (tgt := 25) C dX6_lots_15 (by decide) hf (fun hf => ?_) (fun hf => ?_)
    · refine tt_iload_n (pc := 25) (k := 3) C dX6_lots_25 rfl rfl ?_
      refine tt_if_eq (pc := 26) (tgt := 41) C dX6_lots_26 (by decide) hf (fun hf => ?_) (fun hf => ?_)
      · refine tt_aload_n (pc := 41) (k := 0) C dX6_lots_41 rfl rfl ?_
        refine tt_get (pc := 42) (ws := (xC cy xd sX aX uG es ea sT aT tT pT qT ma sL aL tL pL qL sK aK tK pK qK sH rH uH)) (ci := 6) (v := .ref ((xd 3) 0)) C fiX6 rfl 0 xC_obj 2 (by decide) q1_221 rfl dX6_lots_42 ?_
        refine tt_aload_n (pc := 45) (k := 0) C dX6_lots_45 rfl rfl ?_
        refine tt_get (pc := 46) (ws := (xC cy xd sX aX uG es ea sT aT tT pT qT ma sL aL tL pL qL sK aK tK pK qK sH rH uH)) (ci := 6) (v := .ref ((xd 1) 0)) C fiX6 rfl 0 xC_obj 0 (by decide) q1_219 rfl dX6_lots_46 ?_
        obtain ⟨r1, hr1, hf⟩ := bind_some hf
        refine tt_perm xs_TL ?_
        refine tt_callG (pc := 49) (q0 := 0) (ci := 1) (rest := []) (st' := []) C rfl (k_X1_copyFrom hr1) okX1_copyFrom q2_127 rfl rfl [] _ rfl rfl rfl rfl rfl (Nat.le_of_ble_eq_true rfl) ⟨Nat.le_of_ble_eq_true rfl, Nat.le_of_ble_eq_true rfl⟩ dX6_lots_49 ?_
        refine tt_perm (ws2 := (xC cy xd sX aX uG es ea r1.1 r1.2.1 r1.2.2.1 r1.2.2.2.1 r1.2.2.2.2 ma sL aL tL pL qL sK aK tK pK qK sH rH uH)) xs_TL.symm ?_
        refine tt_iload_n (pc := 52) (k := 2) C dX6_lots_52 rfl rfl ?_
        refine tt_istore (pc := 53) (L' := [(4, .int a2), (0, .ref (xd 0 0)), (1, .int a1), (2, .int a2), (3, .int a3)]) C dX6_lots_53 (by decide) rfl ?_
        refine tt_iconst (pc := 55) (v := (0 : Int32)) C dX6_lots_55 (by decide) ?_
        refine tt_istore (pc := 56) (L' := [(5, .int (0 : Int32)), (4, .int a2), (0, .ref (xd 0 0)), (1, .int a1), (2, .int a2), (3, .int a3)]) C dX6_lots_56 (by decide) rfl ?_
        refine tt_iconst (pc := 58) (v := (0 : Int32)) C dX6_lots_58 (by decide) ?_
        refine tt_istore (pc := 59) (L' := [(6, .int (0 : Int32)), (5, .int (0 : Int32)), (4, .int a2), (0, .ref (xd 0 0)), (1, .int a1), (2, .int a2), (3, .int a3)]) C dX6_lots_59 (by decide) rfl ?_
        refine tt_locs (L' := [(0, .ref (xd 0 0)), (1, .int a1), (3, .int a3), (4, .int a2), (5, .int (0 : Int32)), (6, .int (0 : Int32))]) [3, 4, 6, 2, 1, 0] rfl (l_X6_lots_61 C (fun x5_9 t9 hf => ?_) hf)
        refine tt_iload (pc := 120) (k := 0) C dX6_lots_120 rfl ?_
        obtain rfl := Option.some.inj hf
        exact tt_ireturn (pc := 122) C rfl rfl rfl dX6_lots_122
      · refine tt_iload_n (pc := 29) (k := 3) C dX6_lots_29 rfl rfl ?_
        refine tt_iconst (pc := 30) (v := (1 : Int32)) C dX6_lots_30 (by decide) ?_
        refine tt_icmp_eq (pc := 31) (tgt := 41) C dX6_lots_31 (by decide) hf (fun hf => ?_) (fun hf => ?_)
        · refine tt_aload_n (pc := 41) (k := 0) C dX6_lots_41 rfl rfl ?_
          refine tt_get (pc := 42) (ws := (xC cy xd sX aX uG es ea sT aT tT pT qT ma sL aL tL pL qL sK aK tK pK qK sH rH uH)) (ci := 6) (v := .ref ((xd 3) 0)) C fiX6 rfl 0 xC_obj 2 (by decide) q1_221 rfl dX6_lots_42 ?_
          refine tt_aload_n (pc := 45) (k := 0) C dX6_lots_45 rfl rfl ?_
          refine tt_get (pc := 46) (ws := (xC cy xd sX aX uG es ea sT aT tT pT qT ma sL aL tL pL qL sK aK tK pK qK sH rH uH)) (ci := 6) (v := .ref ((xd 1) 0)) C fiX6 rfl 0 xC_obj 0 (by decide) q1_219 rfl dX6_lots_46 ?_
          obtain ⟨r10, hr10, hf⟩ := bind_some hf
          refine tt_perm xs_TL ?_
          refine tt_callG (pc := 49) (q0 := 0) (ci := 1) (rest := []) (st' := []) C rfl (k_X1_copyFrom hr10) okX1_copyFrom q2_127 rfl rfl [] _ rfl rfl rfl rfl rfl (Nat.le_of_ble_eq_true rfl) ⟨Nat.le_of_ble_eq_true rfl, Nat.le_of_ble_eq_true rfl⟩ dX6_lots_49 ?_
          refine tt_perm (ws2 := (xC cy xd sX aX uG es ea r10.1 r10.2.1 r10.2.2.1 r10.2.2.2.1 r10.2.2.2.2 ma sL aL tL pL qL sK aK tK pK qK sH rH uH)) xs_TL.symm ?_
          refine tt_iload_n (pc := 52) (k := 2) C dX6_lots_52 rfl rfl ?_
          refine tt_istore (pc := 53) (L' := [(4, .int a2), (0, .ref (xd 0 0)), (1, .int a1), (2, .int a2), (3, .int a3)]) C dX6_lots_53 (by decide) rfl ?_
          refine tt_iconst (pc := 55) (v := (0 : Int32)) C dX6_lots_55 (by decide) ?_
          refine tt_istore (pc := 56) (L' := [(5, .int (0 : Int32)), (4, .int a2), (0, .ref (xd 0 0)), (1, .int a1), (2, .int a2), (3, .int a3)]) C dX6_lots_56 (by decide) rfl ?_
          refine tt_iconst (pc := 58) (v := (0 : Int32)) C dX6_lots_58 (by decide) ?_
          refine tt_istore (pc := 59) (L' := [(6, .int (0 : Int32)), (5, .int (0 : Int32)), (4, .int a2), (0, .ref (xd 0 0)), (1, .int a1), (2, .int a2), (3, .int a3)]) C dX6_lots_59 (by decide) rfl ?_
          refine tt_locs (L' := [(0, .ref (xd 0 0)), (1, .int a1), (3, .int a3), (4, .int a2), (5, .int (0 : Int32)), (6, .int (0 : Int32))]) [3, 4, 6, 2, 1, 0] rfl (l_X6_lots_61 C (fun x5_11 t11 hf => ?_) hf)
          refine tt_iload (pc := 120) (k := 0) C dX6_lots_120 rfl ?_
          obtain rfl := Option.some.inj hf
          exact tt_ireturn (pc := 122) C rfl rfl rfl dX6_lots_122
        · refine tt_aload_n (pc := 34) (k := 0) C dX6_lots_34 rfl rfl ?_
          refine tt_bipush (pc := 35) (v := (-2 : Int32)) C dX6_lots_35 (by decide) ?_
          obtain ⟨r12, hr12, hf⟩ := bind_some hf
          refine tt_callM (pc := 37) (ws := (xC cy xd sX aX uG es ea sT aT tT pT qT ma sL aL tL pL qL sK aK tK pK qK sH rH uH)) (q0 := 0) (ci := 6) (rest := []) (st' := [.int r12.1]) C rfl (k_X6_refused hr12) okX6_refused q2_19 rfl xC_obj rfl rfl rfl (Nat.le_of_ble_eq_true rfl) ⟨Nat.le_of_ble_eq_true rfl, Nat.le_of_ble_eq_true rfl⟩ dX6_lots_37 ?_
          obtain rfl := Option.some.inj hf
          exact tt_ireturn (pc := 40) C rfl rfl rfl dX6_lots_40
    · refine tt_aload_n (pc := 18) (k := 0) C dX6_lots_18 rfl rfl ?_
      refine tt_bipush (pc := 19) (v := (-6 : Int32)) C dX6_lots_19 (by decide) ?_
      obtain ⟨r13, hr13, hf⟩ := bind_some hf
      refine tt_callM (pc := 21) (ws := (xC cy xd sX aX uG es ea sT aT tT pT qT ma sL aL tL pL qL sK aK tK pK qK sH rH uH)) (q0 := 0) (ci := 6) (rest := []) (st' := [.int r13.1]) C rfl (k_X6_refused hr13) okX6_refused q2_19 rfl xC_obj rfl rfl rfl (Nat.le_of_ble_eq_true rfl) ⟨Nat.le_of_ble_eq_true rfl, Nat.le_of_ble_eq_true rfl⟩ dX6_lots_21 ?_
      obtain rfl := Option.some.inj hf
      exact tt_ireturn (pc := 24) C rfl rfl rfl dX6_lots_24
  · refine tt_aload_n (pc := 5) (k := 0) C dX6_lots_5 rfl rfl ?_
    refine tt_bipush (pc := 6) (v := (-4 : Int32)) C dX6_lots_6 (by decide) ?_
    obtain ⟨r14, hr14, hf⟩ := bind_some hf
    refine tt_callM (pc := 8) (ws := (xC cy xd sX aX uG es ea sT aT tT pT qT ma sL aL tL pL qL sK aK tK pK qK sH rH uH)) (q0 := 0) (ci := 6) (rest := []) (st' := [.int r14.1]) C rfl (k_X6_refused hr14) okX6_refused q2_19 rfl xC_obj rfl rfl rfl (Nat.le_of_ble_eq_true rfl) ⟨Nat.le_of_ble_eq_true rfl, Nat.le_of_ble_eq_true rfl⟩ dX6_lots_8 ?_
    obtain rfl := Option.some.inj hf
    exact tt_ireturn (pc := 11) C rfl rfl rfl dX6_lots_11
theorem dX6_image_0 : decode cX6_image 0 = .ok (.aload_n 0, 1) := by decide +kernel
theorem dX6_image_1 : decode cX6_image 1 = .ok (.getfield 16, 3) := by decide +kernel
theorem dX6_image_4 : decode cX6_image 4 = .ok (.aload_n 0, 1) := by decide +kernel
theorem dX6_image_5 : decode cX6_image 5 = .ok (.getfield 10, 3) := by decide +kernel
theorem dX6_image_8 : decode cX6_image 8 = .ok (.invokevirtual 315, 3) := by decide +kernel
theorem dX6_image_11 : decode cX6_image 11 = .ok (.aload_n 0, 1) := by decide +kernel
theorem dX6_image_12 : decode cX6_image 12 = .ok (.iconst 1, 1) := by decide +kernel
theorem dX6_image_13 : decode cX6_image 13 = .ok (.putfield 22, 3) := by decide +kernel
theorem dX6_image_16 : decode cX6_image 16 = .ok (.aload_n 0, 1) := by decide +kernel
theorem dX6_image_17 : decode cX6_image 17 = .ok (.getfield 10, 3) := by decide +kernel
theorem dX6_image_20 : decode cX6_image 20 = .ok (.getfield 201, 3) := by decide +kernel
theorem dX6_image_23 : decode cX6_image 23 = .ok (.ireturn, 1) := by decide +kernel
set_option maxHeartbeats 4000000 in
set_option maxRecDepth 100000 in
theorem k_X6_image {l : Launch} {D : va_G} {cy : Nat → ClassId} {Bd : Nat} {xa : Xa} {xd : Nat → Nat → Nat} {N : Nat} {sX : Nat → Int32} {aX : Nat → Nat → Int32} {uG : Nat → Int32} {es : Nat → Int32} {ea : Nat → Nat → Int32} {sT : Nat → Int32} {aT : Nat → Nat → Int32} {tT : Nat → Nat → Int32} {pT : Nat → Int32} {qT : Nat → Nat → Int32} {ma : Nat → Nat → Int32} {sL : Nat → Int32} {aL : Nat → Nat → Int32} {tL : Nat → Nat → Int32} {pL : Nat → Int32} {qL : Nat → Nat → Int32} {sK : Nat → Int32} {aK : Nat → Nat → Int32} {tK : Nat → Nat → Int32} {pK : Nat → Int32} {qK : Nat → Nat → Int32} {sH : Nat → Nat → Int32} {rH : Nat → Nat → Int64} {uH : Nat → Nat → Int32} {out : Int32 × (Nat → Int32) × (Nat → Int32) × (Nat → Nat → Int32) × (Nat → Nat → Int32) × (Nat → Int32) × (Nat → Nat → Int32)} (hf : f_X6_image N sX sL aL tL pL qL sK aK tK pK qK = some out) : KC l yX6_image cX6_image 1 (some .int) 3 71 false D cy Bd xa [.ref (xd 0 0)] (xC cy xd sX aX uG es ea sT aT tT pT qT ma sL aL tL pL qL sK aK tK pK qK sH rH uH) (some (.int out.1)) (xC cy xd out.2.1 aX uG es ea sT aT tT pT qT ma sL aL tL pL qL out.2.2.1 out.2.2.2.1 out.2.2.2.2.1 out.2.2.2.2.2.1 out.2.2.2.2.2.2 sH rH uH) := by
  refine kc_start (own := RX6) (by decide +kernel) rfl (Nat.le_of_ble_eq_true rfl) ?_
  intro p e s m args below meth c A C
  unfold f_X6_image at hf
  refine tt_locs (L' := [(0, .ref (xd 0 0))]) [0] rfl ?_
  refine tt_aload_n (pc := 0) (k := 0) C dX6_image_0 rfl rfl ?_
  refine tt_get (pc := 1) (ws := (xC cy xd sX aX uG es ea sT aT tT pT qT ma sL aL tL pL qL sK aK tK pK qK sH rH uH)) (ci := 6) (v := .ref ((xd 2) 0)) C fiX6 rfl 0 xC_obj 1 (by decide) q1_220 rfl dX6_image_1 ?_
  refine tt_aload_n (pc := 4) (k := 0) C dX6_image_4 rfl rfl ?_
  refine tt_get (pc := 5) (ws := (xC cy xd sX aX uG es ea sT aT tT pT qT ma sL aL tL pL qL sK aK tK pK qK sH rH uH)) (ci := 6) (v := .ref ((xd 1) 0)) C fiX6 rfl 0 xC_obj 0 (by decide) q1_219 rfl dX6_image_5 ?_
  obtain ⟨r1, hr1, hf⟩ := bind_some hf
  refine tt_perm xs_KL ?_
  refine tt_callG (pc := 8) (q0 := 0) (ci := 1) (rest := []) (st' := []) C rfl (k_X1_copyFrom hr1) okX1_copyFrom q2_127 rfl rfl [] _ rfl rfl rfl rfl rfl (Nat.le_of_ble_eq_true rfl) ⟨Nat.le_of_ble_eq_true rfl, Nat.le_of_ble_eq_true rfl⟩ dX6_image_8 ?_
  refine tt_perm (ws2 := (xC cy xd sX aX uG es ea sT aT tT pT qT ma sL aL tL pL qL r1.1 r1.2.1 r1.2.2.1 r1.2.2.2.1 r1.2.2.2.2 sH rH uH)) xs_KL.symm ?_
  refine tt_aload_n (pc := 11) (k := 0) C dX6_image_11 rfl rfl ?_
  refine tt_iconst (pc := 12) (v := (1 : Int32)) C dX6_image_12 (by decide) ?_
  refine tt_put (pc := 13) (ws := (xC cy xd sX aX uG es ea sT aT tT pT qT ma sL aL tL pL qL r1.1 r1.2.1 r1.2.2.1 r1.2.2.2.1 r1.2.2.2.2 sH rH uH)) (ci := 6) (ty := .boolean) (ws' := (xC cy xd (upd sX 3 (1 : Int32)) aX uG es ea sT aT tT pT qT ma sL aL tL pL qL r1.1 r1.2.1 r1.2.2.1 r1.2.2.2.1 r1.2.2.2.2 sH rH uH)) C rfl fiX6 rfl 0 xC_obj 3 (by decide) q1_222 rfl rfl rfl rfl (Nat.le_of_ble_eq_true rfl) dX6_image_13 xC_put3 ?_
  refine tt_aload_n (pc := 16) (k := 0) C dX6_image_16 rfl rfl ?_
  refine tt_get (pc := 17) (ws := (xC cy xd (upd sX 3 (1 : Int32)) aX uG es ea sT aT tT pT qT ma sL aL tL pL qL r1.1 r1.2.1 r1.2.2.1 r1.2.2.2.1 r1.2.2.2.2 sH rH uH)) (ci := 6) (v := .ref ((xd 1) 0)) C fiX6 rfl 0 xC_obj 0 (by decide) q1_219 rfl dX6_image_17 ?_
  refine tt_get (pc := 20) (ws := (xC cy xd (upd sX 3 (1 : Int32)) aX uG es ea sT aT tT pT qT ma sL aL tL pL qL r1.1 r1.2.1 r1.2.2.1 r1.2.2.2.1 r1.2.2.2.2 sH rH uH)) (ci := 1) (v := .int (sL 6)) C fiX1 rfl 28 rfl 6 (by decide) q1_97 rfl dX6_image_20 ?_
  obtain rfl := Option.some.inj hf
  exact tt_ireturn (pc := 23) C rfl rfl rfl dX6_image_23
theorem dX6_on_0 : decode cX6_on 0 = .ok (.aload_n 0, 1) := by decide +kernel
theorem dX6_on_1 : decode cX6_on 1 = .ok (.getfield 22, 3) := by decide +kernel
theorem dX6_on_4 : decode cX6_on 4 = .ok (.ifCond .ne 10, 3) := by decide +kernel
theorem dX6_on_7 : decode cX6_on 7 = .ok (.aload_n 0, 1) := by decide +kernel
theorem dX6_on_8 : decode cX6_on 8 = .ok (.bipush (-3), 2) := by decide +kernel
theorem dX6_on_10 : decode cX6_on 10 = .ok (.invokevirtual 87, 3) := by decide +kernel
theorem dX6_on_13 : decode cX6_on 13 = .ok (.ireturn, 1) := by decide +kernel
theorem dX6_on_14 : decode cX6_on 14 = .ok (.aload_n 0, 1) := by decide +kernel
theorem dX6_on_15 : decode cX6_on 15 = .ok (.getfield 10, 3) := by decide +kernel
theorem dX6_on_18 : decode cX6_on 18 = .ok (.aload_n 0, 1) := by decide +kernel
theorem dX6_on_19 : decode cX6_on 19 = .ok (.getfield 16, 3) := by decide +kernel
theorem dX6_on_22 : decode cX6_on 22 = .ok (.invokevirtual 315, 3) := by decide +kernel
theorem dX6_on_25 : decode cX6_on 25 = .ok (.aload_n 0, 1) := by decide +kernel
theorem dX6_on_26 : decode cX6_on 26 = .ok (.getfield 10, 3) := by decide +kernel
theorem dX6_on_29 : decode cX6_on 29 = .ok (.getfield 201, 3) := by decide +kernel
theorem dX6_on_32 : decode cX6_on 32 = .ok (.ireturn, 1) := by decide +kernel
set_option maxHeartbeats 4000000 in
set_option maxRecDepth 100000 in
theorem k_X6_on {l : Launch} {D : va_G} {cy : Nat → ClassId} {Bd : Nat} {xa : Xa} {xd : Nat → Nat → Nat} {N : Nat} {sX : Nat → Int32} {aX : Nat → Nat → Int32} {uG : Nat → Int32} {es : Nat → Int32} {ea : Nat → Nat → Int32} {sT : Nat → Int32} {aT : Nat → Nat → Int32} {tT : Nat → Nat → Int32} {pT : Nat → Int32} {qT : Nat → Nat → Int32} {ma : Nat → Nat → Int32} {sL : Nat → Int32} {aL : Nat → Nat → Int32} {tL : Nat → Nat → Int32} {pL : Nat → Int32} {qL : Nat → Nat → Int32} {sK : Nat → Int32} {aK : Nat → Nat → Int32} {tK : Nat → Nat → Int32} {pK : Nat → Int32} {qK : Nat → Nat → Int32} {sH : Nat → Nat → Int32} {rH : Nat → Nat → Int64} {uH : Nat → Nat → Int32} {out : Int32 × (Nat → Nat → Int32) × (Nat → Int32) × (Nat → Nat → Int32) × (Nat → Nat → Int32) × (Nat → Int32) × (Nat → Nat → Int32)} (hf : f_X6_on N sX aX sL aL tL pL qL sK aK tK pK qK = some out) : KC l yX6_on cX6_on 1 (some .int) 3 71 false D cy Bd xa [.ref (xd 0 0)] (xC cy xd sX aX uG es ea sT aT tT pT qT ma sL aL tL pL qL sK aK tK pK qK sH rH uH) (some (.int out.1)) (xC cy xd sX out.2.1 uG es ea sT aT tT pT qT ma out.2.2.1 out.2.2.2.1 out.2.2.2.2.1 out.2.2.2.2.2.1 out.2.2.2.2.2.2 sK aK tK pK qK sH rH uH) := by
  refine kc_start (own := RX6) (by decide +kernel) rfl (Nat.le_of_ble_eq_true rfl) ?_
  intro p e s m args below meth c A C
  unfold f_X6_on at hf
  refine tt_locs (L' := [(0, .ref (xd 0 0))]) [0] rfl ?_
  refine tt_aload_n (pc := 0) (k := 0) C dX6_on_0 rfl rfl ?_
  refine tt_get (pc := 1) (ws := (xC cy xd sX aX uG es ea sT aT tT pT qT ma sL aL tL pL qL sK aK tK pK qK sH rH uH)) (ci := 6) (v := .int (sX 3)) C fiX6 rfl 0 xC_obj 3 (by decide) q1_222 rfl dX6_on_1 ?_
  refine tt_if_ne (pc := 4) (tgt := 14) C dX6_on_4 (by decide) hf (fun hf => ?_) (fun hf => ?_)
  · refine tt_aload_n (pc := 14) (k := 0) C dX6_on_14 rfl rfl ?_
    refine tt_get (pc := 15) (ws := (xC cy xd sX aX uG es ea sT aT tT pT qT ma sL aL tL pL qL sK aK tK pK qK sH rH uH)) (ci := 6) (v := .ref ((xd 1) 0)) C fiX6 rfl 0 xC_obj 0 (by decide) q1_219 rfl dX6_on_15 ?_
    refine tt_aload_n (pc := 18) (k := 0) C dX6_on_18 rfl rfl ?_
    refine tt_get (pc := 19) (ws := (xC cy xd sX aX uG es ea sT aT tT pT qT ma sL aL tL pL qL sK aK tK pK qK sH rH uH)) (ci := 6) (v := .ref ((xd 2) 0)) C fiX6 rfl 0 xC_obj 1 (by decide) q1_220 rfl dX6_on_19 ?_
    obtain ⟨r1, hr1, hf⟩ := bind_some hf
    refine tt_perm xs_LK ?_
    refine tt_callG (pc := 22) (q0 := 0) (ci := 1) (rest := []) (st' := []) C rfl (k_X1_copyFrom hr1) okX1_copyFrom q2_127 rfl rfl [] _ rfl rfl rfl rfl rfl (Nat.le_of_ble_eq_true rfl) ⟨Nat.le_of_ble_eq_true rfl, Nat.le_of_ble_eq_true rfl⟩ dX6_on_22 ?_
    refine tt_perm (ws2 := (xC cy xd sX aX uG es ea sT aT tT pT qT ma r1.1 r1.2.1 r1.2.2.1 r1.2.2.2.1 r1.2.2.2.2 sK aK tK pK qK sH rH uH)) xs_LK.symm ?_
    refine tt_aload_n (pc := 25) (k := 0) C dX6_on_25 rfl rfl ?_
    refine tt_get (pc := 26) (ws := (xC cy xd sX aX uG es ea sT aT tT pT qT ma r1.1 r1.2.1 r1.2.2.1 r1.2.2.2.1 r1.2.2.2.2 sK aK tK pK qK sH rH uH)) (ci := 6) (v := .ref ((xd 1) 0)) C fiX6 rfl 0 xC_obj 0 (by decide) q1_219 rfl dX6_on_26 ?_
    refine tt_get (pc := 29) (ws := (xC cy xd sX aX uG es ea sT aT tT pT qT ma r1.1 r1.2.1 r1.2.2.1 r1.2.2.2.1 r1.2.2.2.2 sK aK tK pK qK sH rH uH)) (ci := 1) (v := .int (r1.1 6)) C fiX1 rfl 28 rfl 6 (by decide) q1_97 rfl dX6_on_29 ?_
    obtain rfl := Option.some.inj hf
    exact tt_ireturn (pc := 32) C rfl rfl rfl dX6_on_32
  · refine tt_aload_n (pc := 7) (k := 0) C dX6_on_7 rfl rfl ?_
    refine tt_bipush (pc := 8) (v := (-3 : Int32)) C dX6_on_8 (by decide) ?_
    obtain ⟨r2, hr2, hf⟩ := bind_some hf
    refine tt_callM (pc := 10) (ws := (xC cy xd sX aX uG es ea sT aT tT pT qT ma sL aL tL pL qL sK aK tK pK qK sH rH uH)) (q0 := 0) (ci := 6) (rest := []) (st' := [.int r2.1]) C rfl (k_X6_refused hr2) okX6_refused q2_19 rfl xC_obj rfl rfl rfl (Nat.le_of_ble_eq_true rfl) ⟨Nat.le_of_ble_eq_true rfl, Nat.le_of_ble_eq_true rfl⟩ dX6_on_10 ?_
    obtain rfl := Option.some.inj hf
    exact tt_ireturn (pc := 13) C rfl rfl rfl dX6_on_13
theorem dX6_count_0 : decode cX6_count 0 = .ok (.iload_n 1, 1) := by decide +kernel
theorem dX6_count_1 : decode cX6_count 1 = .ok (.bipush 10, 2) := by decide +kernel
theorem dX6_count_3 : decode cX6_count 3 = .ok (.if_icmp .le 19, 3) := by decide +kernel
theorem dX6_count_6 : decode cX6_count 6 = .ok (.iload_n 1, 1) := by decide +kernel
theorem dX6_count_7 : decode cX6_count 7 = .ok (.bipush 16, 2) := by decide +kernel
theorem dX6_count_9 : decode cX6_count 9 = .ok (.if_icmp .gt 13, 3) := by decide +kernel
theorem dX6_count_12 : decode cX6_count 12 = .ok (.aload_n 0, 1) := by decide +kernel
theorem dX6_count_13 : decode cX6_count 13 = .ok (.getfield 53, 3) := by decide +kernel
theorem dX6_count_16 : decode cX6_count 16 = .ok (.iload_n 1, 1) := by decide +kernel
theorem dX6_count_17 : decode cX6_count 17 = .ok (.bipush 10, 2) := by decide +kernel
theorem dX6_count_19 : decode cX6_count 19 = .ok (.isub, 1) := by decide +kernel
theorem dX6_count_20 : decode cX6_count 20 = .ok (.iaload, 1) := by decide +kernel
theorem dX6_count_21 : decode cX6_count 21 = .ok (.ireturn, 1) := by decide +kernel
theorem dX6_count_22 : decode cX6_count 22 = .ok (.iload_n 1, 1) := by decide +kernel
theorem dX6_count_23 : decode cX6_count 23 = .ok (.tableswitch 119 0 7 #[45, 53, 61, 69, 77, 85, 96, 104], 45) := by decide +kernel
theorem dX6_count_68 : decode cX6_count 68 = .ok (.aload_n 0, 1) := by decide +kernel
theorem dX6_count_69 : decode cX6_count 69 = .ok (.getfield 10, 3) := by decide +kernel
theorem dX6_count_72 : decode cX6_count 72 = .ok (.getfield 230, 3) := by decide +kernel
theorem dX6_count_75 : decode cX6_count 75 = .ok (.ireturn, 1) := by decide +kernel
theorem dX6_count_76 : decode cX6_count 76 = .ok (.aload_n 0, 1) := by decide +kernel
theorem dX6_count_77 : decode cX6_count 77 = .ok (.getfield 10, 3) := by decide +kernel
theorem dX6_count_80 : decode cX6_count 80 = .ok (.getfield 94, 3) := by decide +kernel
theorem dX6_count_83 : decode cX6_count 83 = .ok (.ireturn, 1) := by decide +kernel
theorem dX6_count_84 : decode cX6_count 84 = .ok (.aload_n 0, 1) := by decide +kernel
theorem dX6_count_85 : decode cX6_count 85 = .ok (.getfield 10, 3) := by decide +kernel
theorem dX6_count_88 : decode cX6_count 88 = .ok (.getfield 201, 3) := by decide +kernel
theorem dX6_count_91 : decode cX6_count 91 = .ok (.ireturn, 1) := by decide +kernel
theorem dX6_count_92 : decode cX6_count 92 = .ok (.aload_n 0, 1) := by decide +kernel
theorem dX6_count_93 : decode cX6_count 93 = .ok (.getfield 10, 3) := by decide +kernel
theorem dX6_count_96 : decode cX6_count 96 = .ok (.getfield 204, 3) := by decide +kernel
theorem dX6_count_99 : decode cX6_count 99 = .ok (.ireturn, 1) := by decide +kernel
theorem dX6_count_100 : decode cX6_count 100 = .ok (.aload_n 0, 1) := by decide +kernel
theorem dX6_count_101 : decode cX6_count 101 = .ok (.getfield 10, 3) := by decide +kernel
theorem dX6_count_104 : decode cX6_count 104 = .ok (.getfield 211, 3) := by decide +kernel
theorem dX6_count_107 : decode cX6_count 107 = .ok (.ireturn, 1) := by decide +kernel
theorem dX6_count_108 : decode cX6_count 108 = .ok (.aload_n 0, 1) := by decide +kernel
theorem dX6_count_109 : decode cX6_count 109 = .ok (.getfield 10, 3) := by decide +kernel
theorem dX6_count_112 : decode cX6_count 112 = .ok (.getfield 252, 3) := by decide +kernel
theorem dX6_count_115 : decode cX6_count 115 = .ok (.getfield 321, 3) := by decide +kernel
theorem dX6_count_118 : decode cX6_count 118 = .ok (.ireturn, 1) := by decide +kernel
theorem dX6_count_119 : decode cX6_count 119 = .ok (.aload_n 0, 1) := by decide +kernel
theorem dX6_count_120 : decode cX6_count 120 = .ok (.getfield 29, 3) := by decide +kernel
theorem dX6_count_123 : decode cX6_count 123 = .ok (.getfield 322, 3) := by decide +kernel
theorem dX6_count_126 : decode cX6_count 126 = .ok (.ireturn, 1) := by decide +kernel
theorem dX6_count_127 : decode cX6_count 127 = .ok (.aload_n 0, 1) := by decide +kernel
theorem dX6_count_128 : decode cX6_count 128 = .ok (.getfield 10, 3) := by decide +kernel
theorem dX6_count_131 : decode cX6_count 131 = .ok (.aload_n 0, 1) := by decide +kernel
theorem dX6_count_132 : decode cX6_count 132 = .ok (.getfield 10, 3) := by decide +kernel
theorem dX6_count_135 : decode cX6_count 135 = .ok (.invokevirtual 157, 3) := by decide +kernel
theorem dX6_count_138 : decode cX6_count 138 = .ok (.invokevirtual 198, 3) := by decide +kernel
theorem dX6_count_141 : decode cX6_count 141 = .ok (.ireturn, 1) := by decide +kernel
theorem dX6_count_142 : decode cX6_count 142 = .ok (.bipush (-9), 2) := by decide +kernel
theorem dX6_count_144 : decode cX6_count 144 = .ok (.ireturn, 1) := by decide +kernel
set_option maxHeartbeats 4000000 in
set_option maxRecDepth 100000 in
theorem k_X6_count {l : Launch} {D : va_G} {cy : Nat → ClassId} {Bd : Nat} {xa : Xa} {xd : Nat → Nat → Nat} {N : Nat} {sX : Nat → Int32} {aX : Nat → Nat → Int32} {uG : Nat → Int32} {es : Nat → Int32} {ea : Nat → Nat → Int32} {sT : Nat → Int32} {aT : Nat → Nat → Int32} {tT : Nat → Nat → Int32} {pT : Nat → Int32} {qT : Nat → Nat → Int32} {ma : Nat → Nat → Int32} {sL : Nat → Int32} {aL : Nat → Nat → Int32} {tL : Nat → Nat → Int32} {pL : Nat → Int32} {qL : Nat → Nat → Int32} {sK : Nat → Int32} {aK : Nat → Nat → Int32} {tK : Nat → Nat → Int32} {pK : Nat → Int32} {qK : Nat → Nat → Int32} {sH : Nat → Nat → Int32} {rH : Nat → Nat → Int64} {uH : Nat → Nat → Int32} {a1 : Int32} {out : Int32} (hf : f_X6_count N aX es sL aL tL pL a1 = some out) : KC l yX6_count cX6_count 2 (some .int) 6 143 true D cy Bd xa [.ref (xd 0 0), .int a1] (xC cy xd sX aX uG es ea sT aT tT pT qT ma sL aL tL pL qL sK aK tK pK qK sH rH uH) (some (.int out)) (xC cy xd sX aX uG es ea sT aT tT pT qT ma sL aL tL pL qL sK aK tK pK qK sH rH uH) := by
  refine kc_start (own := RX6) (by decide +kernel) rfl (Nat.le_of_ble_eq_true rfl) ?_
  intro p e s m args below meth c A C
  unfold f_X6_count at hf
  refine tt_locs (L' := [(0, .ref (xd 0 0)), (1, .int a1)]) [0, 1] rfl ?_
  refine tt_iload_n (pc := 0) (k := 1) C dX6_count_0 rfl rfl ?_
  refine tt_bipush (pc := 1) (v := (10 : Int32)) C dX6_count_1 (by decide) ?_
  refine tt_icmp_le (pc := 3) (tgt := 22) C dX6_count_3 (by decide) hf (fun hf => ?_) (fun hf => ?_)
  · refine tt_iload_n (pc := 22) (k := 1) C dX6_count_22 rfl rfl ?_
    refine sw_eq (x := a1) (k := 0) hf (fun hx hf => ?_) (fun n0 hf => ?_)
    · rw [hx]
      refine tt_tabIn (pc := 23) (tgt := 68) (x := 0) C dX6_count_23 (by decide) (by decide) rfl (by decide) ?_
      refine tt_aload_n (pc := 68) (k := 0) C dX6_count_68 rfl rfl ?_
      refine tt_get (pc := 69) (ws := (xC cy xd sX aX uG es ea sT aT tT pT qT ma sL aL tL pL qL sK aK tK pK qK sH rH uH)) (ci := 6) (v := .ref ((xd 1) 0)) C fiX6 rfl 0 xC_obj 0 (by decide) q1_219 rfl dX6_count_69 ?_
      refine tt_get (pc := 72) (ws := (xC cy xd sX aX uG es ea sT aT tT pT qT ma sL aL tL pL qL sK aK tK pK qK sH rH uH)) (ci := 1) (v := .int (sL 0)) C fiX1 rfl 28 rfl 0 (by decide) q1_84 rfl dX6_count_72 ?_
      obtain rfl := Option.some.inj hf
      exact tt_ireturn (pc := 75) C rfl rfl rfl dX6_count_75
    · refine sw_eq (x := a1) (k := 1) hf (fun hx hf => ?_) (fun n1 hf => ?_)
      · rw [hx]
        refine tt_tabIn (pc := 23) (tgt := 76) (x := 1) C dX6_count_23 (by decide) (by decide) rfl (by decide) ?_
        refine tt_aload_n (pc := 76) (k := 0) C dX6_count_76 rfl rfl ?_
        refine tt_get (pc := 77) (ws := (xC cy xd sX aX uG es ea sT aT tT pT qT ma sL aL tL pL qL sK aK tK pK qK sH rH uH)) (ci := 6) (v := .ref ((xd 1) 0)) C fiX6 rfl 0 xC_obj 0 (by decide) q1_219 rfl dX6_count_77 ?_
        refine tt_get (pc := 80) (ws := (xC cy xd sX aX uG es ea sT aT tT pT qT ma sL aL tL pL qL sK aK tK pK qK sH rH uH)) (ci := 1) (v := .int (sL 2)) C fiX1 rfl 28 rfl 2 (by decide) q1_88 rfl dX6_count_80 ?_
        obtain rfl := Option.some.inj hf
        exact tt_ireturn (pc := 83) C rfl rfl rfl dX6_count_83
      · refine sw_eq (x := a1) (k := 2) hf (fun hx hf => ?_) (fun n2 hf => ?_)
        · rw [hx]
          refine tt_tabIn (pc := 23) (tgt := 84) (x := 2) C dX6_count_23 (by decide) (by decide) rfl (by decide) ?_
          refine tt_aload_n (pc := 84) (k := 0) C dX6_count_84 rfl rfl ?_
          refine tt_get (pc := 85) (ws := (xC cy xd sX aX uG es ea sT aT tT pT qT ma sL aL tL pL qL sK aK tK pK qK sH rH uH)) (ci := 6) (v := .ref ((xd 1) 0)) C fiX6 rfl 0 xC_obj 0 (by decide) q1_219 rfl dX6_count_85 ?_
          refine tt_get (pc := 88) (ws := (xC cy xd sX aX uG es ea sT aT tT pT qT ma sL aL tL pL qL sK aK tK pK qK sH rH uH)) (ci := 1) (v := .int (sL 6)) C fiX1 rfl 28 rfl 6 (by decide) q1_97 rfl dX6_count_88 ?_
          obtain rfl := Option.some.inj hf
          exact tt_ireturn (pc := 91) C rfl rfl rfl dX6_count_91
        · refine sw_eq (x := a1) (k := 3) hf (fun hx hf => ?_) (fun n3 hf => ?_)
          · rw [hx]
            refine tt_tabIn (pc := 23) (tgt := 92) (x := 3) C dX6_count_23 (by decide) (by decide) rfl (by decide) ?_
            refine tt_aload_n (pc := 92) (k := 0) C dX6_count_92 rfl rfl ?_
            refine tt_get (pc := 93) (ws := (xC cy xd sX aX uG es ea sT aT tT pT qT ma sL aL tL pL qL sK aK tK pK qK sH rH uH)) (ci := 6) (v := .ref ((xd 1) 0)) C fiX6 rfl 0 xC_obj 0 (by decide) q1_219 rfl dX6_count_93 ?_
            refine tt_get (pc := 96) (ws := (xC cy xd sX aX uG es ea sT aT tT pT qT ma sL aL tL pL qL sK aK tK pK qK sH rH uH)) (ci := 1) (v := .int (sL 9)) C fiX1 rfl 28 rfl 9 (by decide) q1_105 rfl dX6_count_96 ?_
            obtain rfl := Option.some.inj hf
            exact tt_ireturn (pc := 99) C rfl rfl rfl dX6_count_99
          · refine sw_eq (x := a1) (k := 4) hf (fun hx hf => ?_) (fun n4 hf => ?_)
            · rw [hx]
              refine tt_tabIn (pc := 23) (tgt := 100) (x := 4) C dX6_count_23 (by decide) (by decide) rfl (by decide) ?_
              refine tt_aload_n (pc := 100) (k := 0) C dX6_count_100 rfl rfl ?_
              refine tt_get (pc := 101) (ws := (xC cy xd sX aX uG es ea sT aT tT pT qT ma sL aL tL pL qL sK aK tK pK qK sH rH uH)) (ci := 6) (v := .ref ((xd 1) 0)) C fiX6 rfl 0 xC_obj 0 (by decide) q1_219 rfl dX6_count_101 ?_
              refine tt_get (pc := 104) (ws := (xC cy xd sX aX uG es ea sT aT tT pT qT ma sL aL tL pL qL sK aK tK pK qK sH rH uH)) (ci := 1) (v := .int (sL 11)) C fiX1 rfl 28 rfl 11 (by decide) q1_109 rfl dX6_count_104 ?_
              obtain rfl := Option.some.inj hf
              exact tt_ireturn (pc := 107) C rfl rfl rfl dX6_count_107
            · refine sw_eq (x := a1) (k := 5) hf (fun hx hf => ?_) (fun n5 hf => ?_)
              · rw [hx]
                refine tt_tabIn (pc := 23) (tgt := 108) (x := 5) C dX6_count_23 (by decide) (by decide) rfl (by decide) ?_
                refine tt_aload_n (pc := 108) (k := 0) C dX6_count_108 rfl rfl ?_
                refine tt_get (pc := 109) (ws := (xC cy xd sX aX uG es ea sT aT tT pT qT ma sL aL tL pL qL sK aK tK pK qK sH rH uH)) (ci := 6) (v := .ref ((xd 1) 0)) C fiX6 rfl 0 xC_obj 0 (by decide) q1_219 rfl dX6_count_109 ?_
                refine tt_get (pc := 112) (ws := (xC cy xd sX aX uG es ea sT aT tT pT qT ma sL aL tL pL qL sK aK tK pK qK sH rH uH)) (ci := 1) (v := .ref ((xd 1) 12)) C fiX1 rfl 28 rfl 12 (by decide) q1_112 rfl dX6_count_112 ?_
                refine tt_get (pc := 115) (ws := (xC cy xd sX aX uG es ea sT aT tT pT qT ma sL aL tL pL qL sK aK tK pK qK sH rH uH)) (ci := 3) (v := .int (pL 0)) C fiX3 rfl 40 rfl 0 (by decide) q1_39 rfl dX6_count_115 ?_
                obtain rfl := Option.some.inj hf
                exact tt_ireturn (pc := 118) C rfl rfl rfl dX6_count_118
              · refine sw_eq (x := a1) (k := 6) hf (fun hx hf => ?_) (fun n6 hf => ?_)
                · rw [hx]
                  refine tt_tabIn (pc := 23) (tgt := 119) (x := 6) C dX6_count_23 (by decide) (by decide) rfl (by decide) ?_
                  refine tt_aload_n (pc := 119) (k := 0) C dX6_count_119 rfl rfl ?_
                  refine tt_get (pc := 120) (ws := (xC cy xd sX aX uG es ea sT aT tT pT qT ma sL aL tL pL qL sK aK tK pK qK sH rH uH)) (ci := 6) (v := .ref ((xd 4) 0)) C fiX6 rfl 0 xC_obj 4 (by decide) q1_223 rfl dX6_count_120 ?_
                  refine tt_get (pc := 123) (ws := (xC cy xd sX aX uG es ea sT aT tT pT qT ma sL aL tL pL qL sK aK tK pK qK sH rH uH)) (ci := 0) (v := .int (es 0)) C fiX0 rfl 4 rfl 0 (by decide) q1_147 rfl dX6_count_123 ?_
                  obtain rfl := Option.some.inj hf
                  exact tt_ireturn (pc := 126) C rfl rfl rfl dX6_count_126
                · refine sw_eq (x := a1) (k := 7) hf (fun hx hf => ?_) (fun n7 hf => ?_)
                  · rw [hx]
                    refine tt_tabIn (pc := 23) (tgt := 127) (x := 7) C dX6_count_23 (by decide) (by decide) rfl (by decide) ?_
                    refine tt_aload_n (pc := 127) (k := 0) C dX6_count_127 rfl rfl ?_
                    refine tt_get (pc := 128) (ws := (xC cy xd sX aX uG es ea sT aT tT pT qT ma sL aL tL pL qL sK aK tK pK qK sH rH uH)) (ci := 6) (v := .ref ((xd 1) 0)) C fiX6 rfl 0 xC_obj 0 (by decide) q1_219 rfl dX6_count_128 ?_
                    refine tt_aload_n (pc := 131) (k := 0) C dX6_count_131 rfl rfl ?_
                    refine tt_get (pc := 132) (ws := (xC cy xd sX aX uG es ea sT aT tT pT qT ma sL aL tL pL qL sK aK tK pK qK sH rH uH)) (ci := 6) (v := .ref ((xd 1) 0)) C fiX6 rfl 0 xC_obj 0 (by decide) q1_219 rfl dX6_count_132 ?_
                    obtain ⟨r2, hr2, hf⟩ := bind_some hf
                    refine tt_callR (pc := 135) (ws := (xC cy xd sX aX uG es ea sT aT tT pT qT ma sL aL tL pL qL sK aK tK pK qK sH rH uH)) (q0 := 28) (ci := 1) (rest := [.ref ((xd 1) 0)]) (st' := [.int r2, .ref ((xd 1) 0)]) C (k_X1_allBridges hr2) okX1_allBridges q3_60 rfl rfl xC_subL rfl rfl rfl (Nat.le_of_ble_eq_true rfl) ⟨Nat.le_of_ble_eq_true rfl, Nat.le_of_ble_eq_true rfl⟩ dX6_count_135 ?_
                    obtain ⟨r3, hr3, hf⟩ := bind_some hf
                    refine tt_callR (pc := 138) (ws := (xC cy xd sX aX uG es ea sT aT tT pT qT ma sL aL tL pL qL sK aK tK pK qK sH rH uH)) (q0 := 28) (ci := 1) (rest := []) (st' := [.int r3]) C (k_X1_keptPairs hr3) okX1_keptPairs q3_186 rfl rfl xC_subL rfl rfl rfl (Nat.le_of_ble_eq_true rfl) ⟨Nat.le_of_ble_eq_true rfl, Nat.le_of_ble_eq_true rfl⟩ dX6_count_138 ?_
                    obtain rfl := Option.some.inj hf
                    exact tt_ireturn (pc := 141) C rfl rfl rfl dX6_count_141
                  · have g0 := sw_ne n0 (z := 0) (by decide)
                    have g1 := sw_ne n1 (z := 1) (by decide)
                    have g2 := sw_ne n2 (z := 2) (by decide)
                    have g3 := sw_ne n3 (z := 3) (by decide)
                    have g4 := sw_ne n4 (z := 4) (by decide)
                    have g5 := sw_ne n5 (z := 5) (by decide)
                    have g6 := sw_ne n6 (z := 6) (by decide)
                    have g7 := sw_ne n7 (z := 7) (by decide)
                    refine tt_tabOut (pc := 23) (tgt := 142) C dX6_count_23 (by omega) (by decide) ?_
                    refine tt_bipush (pc := 142) (v := (-9 : Int32)) C dX6_count_142 (by decide) ?_
                    obtain rfl := Option.some.inj hf
                    exact tt_ireturn (pc := 144) C rfl rfl rfl dX6_count_144
  · refine tt_iload_n (pc := 6) (k := 1) C dX6_count_6 rfl rfl ?_
    refine tt_bipush (pc := 7) (v := (16 : Int32)) C dX6_count_7 (by decide) ?_
    refine tt_icmp_gt (pc := 9) (tgt := 22) C dX6_count_9 (by decide) hf (fun hf => ?_) (fun hf => ?_)
    · refine tt_iload_n (pc := 22) (k := 1) C dX6_count_22 rfl rfl ?_
      refine sw_eq (x := a1) (k := 0) hf (fun hx hf => ?_) (fun n0 hf => ?_)
      · rw [hx]
        refine tt_tabIn (pc := 23) (tgt := 68) (x := 0) C dX6_count_23 (by decide) (by decide) rfl (by decide) ?_
        refine tt_aload_n (pc := 68) (k := 0) C dX6_count_68 rfl rfl ?_
        refine tt_get (pc := 69) (ws := (xC cy xd sX aX uG es ea sT aT tT pT qT ma sL aL tL pL qL sK aK tK pK qK sH rH uH)) (ci := 6) (v := .ref ((xd 1) 0)) C fiX6 rfl 0 xC_obj 0 (by decide) q1_219 rfl dX6_count_69 ?_
        refine tt_get (pc := 72) (ws := (xC cy xd sX aX uG es ea sT aT tT pT qT ma sL aL tL pL qL sK aK tK pK qK sH rH uH)) (ci := 1) (v := .int (sL 0)) C fiX1 rfl 28 rfl 0 (by decide) q1_84 rfl dX6_count_72 ?_
        obtain rfl := Option.some.inj hf
        exact tt_ireturn (pc := 75) C rfl rfl rfl dX6_count_75
      · refine sw_eq (x := a1) (k := 1) hf (fun hx hf => ?_) (fun n1 hf => ?_)
        · rw [hx]
          refine tt_tabIn (pc := 23) (tgt := 76) (x := 1) C dX6_count_23 (by decide) (by decide) rfl (by decide) ?_
          refine tt_aload_n (pc := 76) (k := 0) C dX6_count_76 rfl rfl ?_
          refine tt_get (pc := 77) (ws := (xC cy xd sX aX uG es ea sT aT tT pT qT ma sL aL tL pL qL sK aK tK pK qK sH rH uH)) (ci := 6) (v := .ref ((xd 1) 0)) C fiX6 rfl 0 xC_obj 0 (by decide) q1_219 rfl dX6_count_77 ?_
          refine tt_get (pc := 80) (ws := (xC cy xd sX aX uG es ea sT aT tT pT qT ma sL aL tL pL qL sK aK tK pK qK sH rH uH)) (ci := 1) (v := .int (sL 2)) C fiX1 rfl 28 rfl 2 (by decide) q1_88 rfl dX6_count_80 ?_
          obtain rfl := Option.some.inj hf
          exact tt_ireturn (pc := 83) C rfl rfl rfl dX6_count_83
        · refine sw_eq (x := a1) (k := 2) hf (fun hx hf => ?_) (fun n2 hf => ?_)
          · rw [hx]
            refine tt_tabIn (pc := 23) (tgt := 84) (x := 2) C dX6_count_23 (by decide) (by decide) rfl (by decide) ?_
            refine tt_aload_n (pc := 84) (k := 0) C dX6_count_84 rfl rfl ?_
            refine tt_get (pc := 85) (ws := (xC cy xd sX aX uG es ea sT aT tT pT qT ma sL aL tL pL qL sK aK tK pK qK sH rH uH)) (ci := 6) (v := .ref ((xd 1) 0)) C fiX6 rfl 0 xC_obj 0 (by decide) q1_219 rfl dX6_count_85 ?_
            refine tt_get (pc := 88) (ws := (xC cy xd sX aX uG es ea sT aT tT pT qT ma sL aL tL pL qL sK aK tK pK qK sH rH uH)) (ci := 1) (v := .int (sL 6)) C fiX1 rfl 28 rfl 6 (by decide) q1_97 rfl dX6_count_88 ?_
            obtain rfl := Option.some.inj hf
            exact tt_ireturn (pc := 91) C rfl rfl rfl dX6_count_91
          · refine sw_eq (x := a1) (k := 3) hf (fun hx hf => ?_) (fun n3 hf => ?_)
            · rw [hx]
              refine tt_tabIn (pc := 23) (tgt := 92) (x := 3) C dX6_count_23 (by decide) (by decide) rfl (by decide) ?_
              refine tt_aload_n (pc := 92) (k := 0) C dX6_count_92 rfl rfl ?_
              refine tt_get (pc := 93) (ws := (xC cy xd sX aX uG es ea sT aT tT pT qT ma sL aL tL pL qL sK aK tK pK qK sH rH uH)) (ci := 6) (v := .ref ((xd 1) 0)) C fiX6 rfl 0 xC_obj 0 (by decide) q1_219 rfl dX6_count_93 ?_
              refine tt_get (pc := 96) (ws := (xC cy xd sX aX uG es ea sT aT tT pT qT ma sL aL tL pL qL sK aK tK pK qK sH rH uH)) (ci := 1) (v := .int (sL 9)) C fiX1 rfl 28 rfl 9 (by decide) q1_105 rfl dX6_count_96 ?_
              obtain rfl := Option.some.inj hf
              exact tt_ireturn (pc := 99) C rfl rfl rfl dX6_count_99
            · refine sw_eq (x := a1) (k := 4) hf (fun hx hf => ?_) (fun n4 hf => ?_)
              · rw [hx]
                refine tt_tabIn (pc := 23) (tgt := 100) (x := 4) C dX6_count_23 (by decide) (by decide) rfl (by decide) ?_
                refine tt_aload_n (pc := 100) (k := 0) C dX6_count_100 rfl rfl ?_
                refine tt_get (pc := 101) (ws := (xC cy xd sX aX uG es ea sT aT tT pT qT ma sL aL tL pL qL sK aK tK pK qK sH rH uH)) (ci := 6) (v := .ref ((xd 1) 0)) C fiX6 rfl 0 xC_obj 0 (by decide) q1_219 rfl dX6_count_101 ?_
                refine tt_get (pc := 104) (ws := (xC cy xd sX aX uG es ea sT aT tT pT qT ma sL aL tL pL qL sK aK tK pK qK sH rH uH)) (ci := 1) (v := .int (sL 11)) C fiX1 rfl 28 rfl 11 (by decide) q1_109 rfl dX6_count_104 ?_
                obtain rfl := Option.some.inj hf
                exact tt_ireturn (pc := 107) C rfl rfl rfl dX6_count_107
              · refine sw_eq (x := a1) (k := 5) hf (fun hx hf => ?_) (fun n5 hf => ?_)
                · rw [hx]
                  refine tt_tabIn (pc := 23) (tgt := 108) (x := 5) C dX6_count_23 (by decide) (by decide) rfl (by decide) ?_
                  refine tt_aload_n (pc := 108) (k := 0) C dX6_count_108 rfl rfl ?_
                  refine tt_get (pc := 109) (ws := (xC cy xd sX aX uG es ea sT aT tT pT qT ma sL aL tL pL qL sK aK tK pK qK sH rH uH)) (ci := 6) (v := .ref ((xd 1) 0)) C fiX6 rfl 0 xC_obj 0 (by decide) q1_219 rfl dX6_count_109 ?_
                  refine tt_get (pc := 112) (ws := (xC cy xd sX aX uG es ea sT aT tT pT qT ma sL aL tL pL qL sK aK tK pK qK sH rH uH)) (ci := 1) (v := .ref ((xd 1) 12)) C fiX1 rfl 28 rfl 12 (by decide) q1_112 rfl dX6_count_112 ?_
                  refine tt_get (pc := 115) (ws := (xC cy xd sX aX uG es ea sT aT tT pT qT ma sL aL tL pL qL sK aK tK pK qK sH rH uH)) (ci := 3) (v := .int (pL 0)) C fiX3 rfl 40 rfl 0 (by decide) q1_39 rfl dX6_count_115 ?_
                  obtain rfl := Option.some.inj hf
                  exact tt_ireturn (pc := 118) C rfl rfl rfl dX6_count_118
                · refine sw_eq (x := a1) (k := 6) hf (fun hx hf => ?_) (fun n6 hf => ?_)
                  · rw [hx]
                    refine tt_tabIn (pc := 23) (tgt := 119) (x := 6) C dX6_count_23 (by decide) (by decide) rfl (by decide) ?_
                    refine tt_aload_n (pc := 119) (k := 0) C dX6_count_119 rfl rfl ?_
                    refine tt_get (pc := 120) (ws := (xC cy xd sX aX uG es ea sT aT tT pT qT ma sL aL tL pL qL sK aK tK pK qK sH rH uH)) (ci := 6) (v := .ref ((xd 4) 0)) C fiX6 rfl 0 xC_obj 4 (by decide) q1_223 rfl dX6_count_120 ?_
                    refine tt_get (pc := 123) (ws := (xC cy xd sX aX uG es ea sT aT tT pT qT ma sL aL tL pL qL sK aK tK pK qK sH rH uH)) (ci := 0) (v := .int (es 0)) C fiX0 rfl 4 rfl 0 (by decide) q1_147 rfl dX6_count_123 ?_
                    obtain rfl := Option.some.inj hf
                    exact tt_ireturn (pc := 126) C rfl rfl rfl dX6_count_126
                  · refine sw_eq (x := a1) (k := 7) hf (fun hx hf => ?_) (fun n7 hf => ?_)
                    · rw [hx]
                      refine tt_tabIn (pc := 23) (tgt := 127) (x := 7) C dX6_count_23 (by decide) (by decide) rfl (by decide) ?_
                      refine tt_aload_n (pc := 127) (k := 0) C dX6_count_127 rfl rfl ?_
                      refine tt_get (pc := 128) (ws := (xC cy xd sX aX uG es ea sT aT tT pT qT ma sL aL tL pL qL sK aK tK pK qK sH rH uH)) (ci := 6) (v := .ref ((xd 1) 0)) C fiX6 rfl 0 xC_obj 0 (by decide) q1_219 rfl dX6_count_128 ?_
                      refine tt_aload_n (pc := 131) (k := 0) C dX6_count_131 rfl rfl ?_
                      refine tt_get (pc := 132) (ws := (xC cy xd sX aX uG es ea sT aT tT pT qT ma sL aL tL pL qL sK aK tK pK qK sH rH uH)) (ci := 6) (v := .ref ((xd 1) 0)) C fiX6 rfl 0 xC_obj 0 (by decide) q1_219 rfl dX6_count_132 ?_
                      obtain ⟨r5, hr5, hf⟩ := bind_some hf
                      refine tt_callR (pc := 135) (ws := (xC cy xd sX aX uG es ea sT aT tT pT qT ma sL aL tL pL qL sK aK tK pK qK sH rH uH)) (q0 := 28) (ci := 1) (rest := [.ref ((xd 1) 0)]) (st' := [.int r5, .ref ((xd 1) 0)]) C (k_X1_allBridges hr5) okX1_allBridges q3_60 rfl rfl xC_subL rfl rfl rfl (Nat.le_of_ble_eq_true rfl) ⟨Nat.le_of_ble_eq_true rfl, Nat.le_of_ble_eq_true rfl⟩ dX6_count_135 ?_
                      obtain ⟨r6, hr6, hf⟩ := bind_some hf
                      refine tt_callR (pc := 138) (ws := (xC cy xd sX aX uG es ea sT aT tT pT qT ma sL aL tL pL qL sK aK tK pK qK sH rH uH)) (q0 := 28) (ci := 1) (rest := []) (st' := [.int r6]) C (k_X1_keptPairs hr6) okX1_keptPairs q3_186 rfl rfl xC_subL rfl rfl rfl (Nat.le_of_ble_eq_true rfl) ⟨Nat.le_of_ble_eq_true rfl, Nat.le_of_ble_eq_true rfl⟩ dX6_count_138 ?_
                      obtain rfl := Option.some.inj hf
                      exact tt_ireturn (pc := 141) C rfl rfl rfl dX6_count_141
                    · have g0 := sw_ne n0 (z := 0) (by decide)
                      have g1 := sw_ne n1 (z := 1) (by decide)
                      have g2 := sw_ne n2 (z := 2) (by decide)
                      have g3 := sw_ne n3 (z := 3) (by decide)
                      have g4 := sw_ne n4 (z := 4) (by decide)
                      have g5 := sw_ne n5 (z := 5) (by decide)
                      have g6 := sw_ne n6 (z := 6) (by decide)
                      have g7 := sw_ne n7 (z := 7) (by decide)
                      refine tt_tabOut (pc := 23) (tgt := 142) C dX6_count_23 (by omega) (by decide) ?_
                      refine tt_bipush (pc := 142) (v := (-9 : Int32)) C dX6_count_142 (by decide) ?_
                      obtain rfl := Option.some.inj hf
                      exact tt_ireturn (pc := 144) C rfl rfl rfl dX6_count_144
    · refine tt_aload_n (pc := 12) (k := 0) C dX6_count_12 rfl rfl ?_
      refine tt_get (pc := 13) (ws := (xC cy xd sX aX uG es ea sT aT tT pT qT ma sL aL tL pL qL sK aK tK pK qK sH rH uH)) (ci := 6) (v := .ref (xd 0 8)) C fiX6 rfl 0 xC_obj 8 (by decide) q1_227 rfl dX6_count_13 ?_
      refine tt_iload_n (pc := 16) (k := 1) C dX6_count_16 rfl rfl ?_
      refine tt_bipush (pc := 17) (v := (10 : Int32)) C dX6_count_17 (by decide) ?_
      refine tt_isub (pc := 19) C dX6_count_19 ?_
      refine tt_iaload (pc := 20) (ws := (xC cy xd sX aX uG es ea sT aT tT pT qT ma sL aL tL pL qL sK aK tK pK qK sH rH uH)) (n := 7) (f := (aX 8)) C 3 0 xC_get8 rfl hf dX6_count_20 (fun hf => ?_)
      obtain rfl := Option.some.inj hf
      exact tt_ireturn (pc := 21) C rfl rfl rfl dX6_count_21
