theorem dX0_add_0 : decode cX0_add 0 = .ok (.iload_n 1, 1) := by decide +kernel
theorem dX0_add_1 : decode cX0_add 1 = .ok (.ifCond .ge 6, 3) := by decide +kernel
theorem dX0_add_4 : decode cX0_add 4 = .ok (.bipush (-4), 2) := by decide +kernel
theorem dX0_add_6 : decode cX0_add 6 = .ok (.ireturn, 1) := by decide +kernel
theorem dX0_add_7 : decode cX0_add 7 = .ok (.iload_n 1, 1) := by decide +kernel
theorem dX0_add_8 : decode cX0_add 8 = .ok (.sipush 255, 3) := by decide +kernel
theorem dX0_add_11 : decode cX0_add 11 = .ok (.if_icmp .gt 12, 3) := by decide +kernel
theorem dX0_add_14 : decode cX0_add 14 = .ok (.aload_n 0, 1) := by decide +kernel
theorem dX0_add_15 : decode cX0_add 15 = .ok (.getfield 9, 3) := by decide +kernel
theorem dX0_add_18 : decode cX0_add 18 = .ok (.bipush 120, 2) := by decide +kernel
theorem dX0_add_20 : decode cX0_add 20 = .ok (.if_icmp .lt 6, 3) := by decide +kernel
theorem dX0_add_23 : decode cX0_add 23 = .ok (.bipush (-6), 2) := by decide +kernel
theorem dX0_add_25 : decode cX0_add 25 = .ok (.ireturn, 1) := by decide +kernel
theorem dX0_add_26 : decode cX0_add 26 = .ok (.aload_n 0, 1) := by decide +kernel
theorem dX0_add_27 : decode cX0_add 27 = .ok (.getfield 18, 3) := by decide +kernel
theorem dX0_add_30 : decode cX0_add 30 = .ok (.aload_n 0, 1) := by decide +kernel
theorem dX0_add_31 : decode cX0_add 31 = .ok (.getfield 9, 3) := by decide +kernel
theorem dX0_add_34 : decode cX0_add 34 = .ok (.iload_n 1, 1) := by decide +kernel
theorem dX0_add_35 : decode cX0_add 35 = .ok (.i2c, 1) := by decide +kernel
theorem dX0_add_36 : decode cX0_add 36 = .ok (.castore, 1) := by decide +kernel
theorem dX0_add_37 : decode cX0_add 37 = .ok (.aload_n 0, 1) := by decide +kernel
theorem dX0_add_38 : decode cX0_add 38 = .ok (.dup, 1) := by decide +kernel
theorem dX0_add_39 : decode cX0_add 39 = .ok (.getfield 9, 3) := by decide +kernel
theorem dX0_add_42 : decode cX0_add 42 = .ok (.iconst 1, 1) := by decide +kernel
theorem dX0_add_43 : decode cX0_add 43 = .ok (.iadd, 1) := by decide +kernel
theorem dX0_add_44 : decode cX0_add 44 = .ok (.putfield 9, 3) := by decide +kernel
theorem dX0_add_47 : decode cX0_add 47 = .ok (.aload_n 0, 1) := by decide +kernel
theorem dX0_add_48 : decode cX0_add 48 = .ok (.getfield 9, 3) := by decide +kernel
theorem dX0_add_51 : decode cX0_add 51 = .ok (.ireturn, 1) := by decide +kernel
set_option maxHeartbeats 4000000 in
set_option maxRecDepth 100000 in
theorem k_X0_add {l : Launch} {D : va_G} {cy : Nat → ClassId} {Bd : Nat} {xa : Xa} {ed : Nat → Nat} {N : Nat} {es : Nat → Int32} {ea : Nat → Nat → Int32} {a1 : Int32} {out : Int32 × (Nat → Int32) × (Nat → Nat → Int32)} (hf : f_X0_add N es ea a1 = some out) : KC l yX0_add cX0_add 2 (some .int) 0 0 false D cy Bd xa [.ref (ed 0), .int a1] (eC cy ed es ea) (some (.int out.1)) (eC cy ed out.2.1 out.2.2) := by
  refine kc_start (own := RX0) (by decide +kernel) rfl (Nat.le_of_ble_eq_true rfl) ?_
  intro p e s m args below meth c A C
  unfold f_X0_add at hf
  refine tt_locs (L' := [(0, .ref (ed 0)), (1, .int a1)]) [0, 1] rfl ?_
  refine tt_iload_n (pc := 0) (k := 1) C dX0_add_0 rfl rfl ?_
  refine tt_if_ge (pc := 1) (tgt := 7) C dX0_add_1 (by decide) hf (fun hf => ?_) (fun hf => ?_)
  · refine tt_iload_n (pc := 7) (k := 1) C dX0_add_7 rfl rfl ?_
    refine tt_sipush (pc := 8) (v := (255 : Int32)) C dX0_add_8 (by decide) ?_
    refine tt_icmp_gt (pc := 11) (tgt := 23) C dX0_add_11 (by decide) hf (fun hf => ?_) (fun hf => ?_)
    · refine tt_bipush (pc := 23) (v := (-6 : Int32)) C dX0_add_23 (by decide) ?_
      obtain rfl := Option.some.inj hf
      exact tt_ireturn (pc := 25) C rfl rfl rfl dX0_add_25
    · refine tt_aload_n (pc := 14) (k := 0) C dX0_add_14 rfl rfl ?_
      refine tt_get (pc := 15) (ws := (eC cy ed es ea)) (ci := 0) (v := .int (es 0)) C fiX0 rfl 0 eC_obj 0 (by decide) q1_146 rfl dX0_add_15 ?_
      refine tt_bipush (pc := 18) (v := (120 : Int32)) C dX0_add_18 (by decide) ?_
      refine tt_icmp_lt (pc := 20) (tgt := 26) C dX0_add_20 (by decide) hf (fun hf => ?_) (fun hf => ?_)
      · refine tt_aload_n (pc := 26) (k := 0) C dX0_add_26 rfl rfl ?_
        refine tt_get (pc := 27) (ws := (eC cy ed es ea)) (ci := 0) (v := .ref (ed 2)) C fiX0 rfl 0 eC_obj 2 (by decide) q1_150 rfl dX0_add_27 ?_
        refine tt_aload_n (pc := 30) (k := 0) C dX0_add_30 rfl rfl ?_
        refine tt_get (pc := 31) (ws := (eC cy ed es ea)) (ci := 0) (v := .int (es 0)) C fiX0 rfl 0 eC_obj 0 (by decide) q1_146 rfl dX0_add_31 ?_
        refine tt_iload_n (pc := 34) (k := 1) C dX0_add_34 rfl rfl ?_
        refine tt_i2c (pc := 35) C dX0_add_35 ?_
        refine tt_castore (pc := 36) (ws := (eC cy ed es ea)) (n := 120) (f := (ea 2)) (ws' := (eC cy ed es (va_up ea 2 (upd (ea 2) (ix (es 0)) (vp_nar .char ((a1 : Int32).toUInt32 % 65536).toInt32))))) C rfl 1 2 eC_get2 rfl hf dX0_add_36 eC_set2 (fun hf => ?_)
        refine tt_aload_n (pc := 37) (k := 0) C dX0_add_37 rfl rfl ?_
        refine tt_dup (pc := 38) C dX0_add_38 rfl ?_
        refine tt_get (pc := 39) (ws := (eC cy ed es (va_up ea 2 (upd (ea 2) (ix (es 0)) (vp_nar .char ((a1 : Int32).toUInt32 % 65536).toInt32))))) (ci := 0) (v := .int (es 0)) C fiX0 rfl 0 eC_obj 0 (by decide) q1_146 rfl dX0_add_39 ?_
        refine tt_iconst (pc := 42) (v := (1 : Int32)) C dX0_add_42 (by decide) ?_
        refine tt_iadd (pc := 43) C dX0_add_43 ?_
        refine tt_put (pc := 44) (ws := (eC cy ed es (va_up ea 2 (upd (ea 2) (ix (es 0)) (vp_nar .char ((a1 : Int32).toUInt32 % 65536).toInt32))))) (ci := 0) (ty := .int) (ws' := (eC cy ed (upd es 0 ((es 0) + (1 : Int32))) (va_up ea 2 (upd (ea 2) (ix (es 0)) (vp_nar .char ((a1 : Int32).toUInt32 % 65536).toInt32))))) C rfl fiX0 rfl 0 eC_obj 0 (by decide) q1_146 rfl rfl rfl rfl (Nat.le_of_ble_eq_true rfl) dX0_add_44 eC_put0 ?_
        refine tt_aload_n (pc := 47) (k := 0) C dX0_add_47 rfl rfl ?_
        refine tt_get (pc := 48) (ws := (eC cy ed (upd es 0 ((es 0) + (1 : Int32))) (va_up ea 2 (upd (ea 2) (ix (es 0)) (vp_nar .char ((a1 : Int32).toUInt32 % 65536).toInt32))))) (ci := 0) (v := .int ((es 0) + (1 : Int32))) C fiX0 rfl 0 eC_obj 0 (by decide) q1_146 rfl dX0_add_48 ?_
        obtain rfl := Option.some.inj hf
        exact tt_ireturn (pc := 51) C rfl rfl rfl dX0_add_51
      · refine tt_bipush (pc := 23) (v := (-6 : Int32)) C dX0_add_23 (by decide) ?_
        obtain rfl := Option.some.inj hf
        exact tt_ireturn (pc := 25) C rfl rfl rfl dX0_add_25
  · refine tt_bipush (pc := 4) (v := (-4 : Int32)) C dX0_add_4 (by decide) ?_
    obtain rfl := Option.some.inj hf
    exact tt_ireturn (pc := 6) C rfl rfl rfl dX0_add_6
theorem dX6_refused_0 : decode cX6_refused 0 = .ok (.iload_n 1, 1) := by decide +kernel
theorem dX6_refused_1 : decode cX6_refused 1 = .ok (.ifCond .ge 20, 3) := by decide +kernel
theorem dX6_refused_4 : decode cX6_refused 4 = .ok (.iload_n 1, 1) := by decide +kernel
theorem dX6_refused_5 : decode cX6_refused 5 = .ok (.bipush (-6), 2) := by decide +kernel
theorem dX6_refused_7 : decode cX6_refused 7 = .ok (.if_icmp .lt 14, 3) := by decide +kernel
theorem dX6_refused_10 : decode cX6_refused 10 = .ok (.aload_n 0, 1) := by decide +kernel
theorem dX6_refused_11 : decode cX6_refused 11 = .ok (.getfield 53, 3) := by decide +kernel
theorem dX6_refused_14 : decode cX6_refused 14 = .ok (.iload_n 1, 1) := by decide +kernel
theorem dX6_refused_15 : decode cX6_refused 15 = .ok (.ineg, 1) := by decide +kernel
theorem dX6_refused_16 : decode cX6_refused 16 = .ok (.dup2, 1) := by decide +kernel
theorem dX6_refused_17 : decode cX6_refused 17 = .ok (.iaload, 1) := by decide +kernel
theorem dX6_refused_18 : decode cX6_refused 18 = .ok (.iconst 1, 1) := by decide +kernel
theorem dX6_refused_19 : decode cX6_refused 19 = .ok (.iadd, 1) := by decide +kernel
theorem dX6_refused_20 : decode cX6_refused 20 = .ok (.iastore, 1) := by decide +kernel
theorem dX6_refused_21 : decode cX6_refused 21 = .ok (.iload_n 1, 1) := by decide +kernel
theorem dX6_refused_22 : decode cX6_refused 22 = .ok (.ireturn, 1) := by decide +kernel
set_option maxHeartbeats 4000000 in
set_option maxRecDepth 100000 in
theorem k_X6_refused {l : Launch} {D : va_G} {cy : Nat → ClassId} {Bd : Nat} {xa : Xa} {xd : Nat → Nat → Nat} {N : Nat} {sX : Nat → Int32} {aX : Nat → Nat → Int32} {uG : Nat → Int32} {es : Nat → Int32} {ea : Nat → Nat → Int32} {sT : Nat → Int32} {aT : Nat → Nat → Int32} {tT : Nat → Nat → Int32} {pT : Nat → Int32} {qT : Nat → Nat → Int32} {ma : Nat → Nat → Int32} {sL : Nat → Int32} {aL : Nat → Nat → Int32} {tL : Nat → Nat → Int32} {pL : Nat → Int32} {qL : Nat → Nat → Int32} {sK : Nat → Int32} {aK : Nat → Nat → Int32} {tK : Nat → Nat → Int32} {pK : Nat → Int32} {qK : Nat → Nat → Int32} {sH : Nat → Nat → Int32} {rH : Nat → Nat → Int64} {uH : Nat → Nat → Int32} {a1 : Int32} {out : Int32 × (Nat → Nat → Int32)} (hf : f_X6_refused N aX a1 = some out) : KC l yX6_refused cX6_refused 2 (some .int) 0 0 false D cy Bd xa [.ref (xd 0 0), .int a1] (xC cy xd sX aX uG es ea sT aT tT pT qT ma sL aL tL pL qL sK aK tK pK qK sH rH uH) (some (.int out.1)) (xC cy xd sX out.2 uG es ea sT aT tT pT qT ma sL aL tL pL qL sK aK tK pK qK sH rH uH) := by
  refine kc_start (own := RX6) (by decide +kernel) rfl (Nat.le_of_ble_eq_true rfl) ?_
  intro p e s m args below meth c A C
  unfold f_X6_refused at hf
  refine tt_locs (L' := [(0, .ref (xd 0 0)), (1, .int a1)]) [0, 1] rfl ?_
  refine tt_iload_n (pc := 0) (k := 1) C dX6_refused_0 rfl rfl ?_
  obtain ⟨j1, hj1, hf⟩ := bind_some hf
  have k2 : TT p l e { frames := 0, cells := 0, slots := 0, locals := 0 } s m args below meth c 2 D A false (some (.int out.1)) (xC cy xd sX out.2 uG es ea sT aT tT pT qT ma sL aL tL pL qL sK aK tK pK qK sH rH uH) 21 [(1, .int a1)] [] (xC cy xd sX j1 uG es ea sT aT tT pT qT ma sL aL tL pL qL sK aK tK pK qK sH rH uH) := by
    refine tt_iload_n (pc := 21) (k := 0) C dX6_refused_21 rfl rfl ?_
    obtain rfl := Option.some.inj hf
    exact tt_ireturn (pc := 22) C rfl rfl rfl dX6_refused_22
  refine tt_if_ge (pc := 1) (tgt := 21) C dX6_refused_1 (by decide) hj1 (fun hj1 => ?_) (fun hj1 => ?_)
  · obtain rfl := Option.some.inj hj1
    exact tt_locs [1] rfl k2
  · refine tt_iload_n (pc := 4) (k := 1) C dX6_refused_4 rfl rfl ?_
    refine tt_bipush (pc := 5) (v := (-6 : Int32)) C dX6_refused_5 (by decide) ?_
    obtain ⟨j3, hj3, hj1⟩ := bind_some hj1
    have k4 : TT p l e { frames := 0, cells := 0, slots := 0, locals := 0 } s m args below meth c 2 D A false (some (.int out.1)) (xC cy xd sX out.2 uG es ea sT aT tT pT qT ma sL aL tL pL qL sK aK tK pK qK sH rH uH) 21 [(1, .int a1)] [] (xC cy xd sX j3 uG es ea sT aT tT pT qT ma sL aL tL pL qL sK aK tK pK qK sH rH uH) := by
      obtain rfl := Option.some.inj hj1
      exact tt_locs [0] rfl k2
    refine tt_icmp_lt (pc := 7) (tgt := 21) C dX6_refused_7 (by decide) hj3 (fun hj3 => ?_) (fun hj3 => ?_)
    · obtain rfl := Option.some.inj hj3
      exact tt_locs [1] rfl k4
    · refine tt_aload_n (pc := 10) (k := 0) C dX6_refused_10 rfl rfl ?_
      refine tt_get (pc := 11) (ws := (xC cy xd sX aX uG es ea sT aT tT pT qT ma sL aL tL pL qL sK aK tK pK qK sH rH uH)) (ci := 6) (v := .ref (xd 0 8)) C fiX6 rfl 0 xC_obj 8 (by decide) q1_227 rfl dX6_refused_11 ?_
      refine tt_iload_n (pc := 14) (k := 1) C dX6_refused_14 rfl rfl ?_
      refine tt_ineg (pc := 15) C dX6_refused_15 ?_
      refine tt_dup2 (pc := 16) C dX6_refused_16 rfl rfl ?_
      refine tt_iaload (pc := 17) (ws := (xC cy xd sX aX uG es ea sT aT tT pT qT ma sL aL tL pL qL sK aK tK pK qK sH rH uH)) (n := 7) (f := (aX 8)) C 3 0 xC_get8 rfl hj3 dX6_refused_17 (fun hj3 => ?_)
      refine tt_iconst (pc := 18) (v := (1 : Int32)) C dX6_refused_18 (by decide) ?_
      refine tt_iadd (pc := 19) C dX6_refused_19 ?_
      refine tt_iastore (pc := 20) (ws := (xC cy xd sX aX uG es ea sT aT tT pT qT ma sL aL tL pL qL sK aK tK pK qK sH rH uH)) (n := 7) (f := (aX 8)) (ws' := (xC cy xd sX (va_up aX 8 (upd (aX 8) (ix (-a1)) (((aX 8) (ix (-a1))) + (1 : Int32)))) uG es ea sT aT tT pT qT ma sL aL tL pL qL sK aK tK pK qK sH rH uH)) C rfl 3 0 xC_get8 rfl hj3 dX6_refused_20 xC_set8 (fun hj3 => ?_)
      obtain rfl := Option.some.inj hj3
      exact tt_locs [1] rfl k4
theorem dX6_counted_0 : decode cX6_counted 0 = .ok (.iload_n 1, 1) := by decide +kernel
theorem dX6_counted_1 : decode cX6_counted 1 = .ok (.ifCond .ge 11, 3) := by decide +kernel
theorem dX6_counted_4 : decode cX6_counted 4 = .ok (.aload_n 0, 1) := by decide +kernel
theorem dX6_counted_5 : decode cX6_counted 5 = .ok (.iload_n 1, 1) := by decide +kernel
theorem dX6_counted_6 : decode cX6_counted 6 = .ok (.invokevirtual 87, 3) := by decide +kernel
theorem dX6_counted_9 : decode cX6_counted 9 = .ok (.goto 4, 3) := by decide +kernel
theorem dX6_counted_12 : decode cX6_counted 12 = .ok (.iload_n 1, 1) := by decide +kernel
theorem dX6_counted_13 : decode cX6_counted 13 = .ok (.ireturn, 1) := by decide +kernel
set_option maxHeartbeats 4000000 in
set_option maxRecDepth 100000 in
theorem k_X6_counted {l : Launch} {D : va_G} {cy : Nat → ClassId} {Bd : Nat} {xa : Xa} {xd : Nat → Nat → Nat} {N : Nat} {sX : Nat → Int32} {aX : Nat → Nat → Int32} {uG : Nat → Int32} {es : Nat → Int32} {ea : Nat → Nat → Int32} {sT : Nat → Int32} {aT : Nat → Nat → Int32} {tT : Nat → Nat → Int32} {pT : Nat → Int32} {qT : Nat → Nat → Int32} {ma : Nat → Nat → Int32} {sL : Nat → Int32} {aL : Nat → Nat → Int32} {tL : Nat → Nat → Int32} {pL : Nat → Int32} {qL : Nat → Nat → Int32} {sK : Nat → Int32} {aK : Nat → Nat → Int32} {tK : Nat → Nat → Int32} {pK : Nat → Int32} {qK : Nat → Nat → Int32} {sH : Nat → Nat → Int32} {rH : Nat → Nat → Int64} {uH : Nat → Nat → Int32} {a1 : Int32} {out : Int32 × (Nat → Nat → Int32)} (hf : f_X6_counted N aX a1 = some out) : KC l yX6_counted cX6_counted 2 (some .int) 1 21 false D cy Bd xa [.ref (xd 0 0), .int a1] (xC cy xd sX aX uG es ea sT aT tT pT qT ma sL aL tL pL qL sK aK tK pK qK sH rH uH) (some (.int out.1)) (xC cy xd sX out.2 uG es ea sT aT tT pT qT ma sL aL tL pL qL sK aK tK pK qK sH rH uH) := by
  refine kc_start (own := RX6) (by decide +kernel) rfl (Nat.le_of_ble_eq_true rfl) ?_
  intro p e s m args below meth c A C
  unfold f_X6_counted at hf
  refine tt_locs (L' := [(0, .ref (xd 0 0)), (1, .int a1)]) [0, 1] rfl ?_
  refine tt_iload_n (pc := 0) (k := 1) C dX6_counted_0 rfl rfl ?_
  obtain ⟨j1, hj1, hf⟩ := bind_some hf
  have k2 : TT p l e { frames := 1, cells := 0, slots := 0, locals := 21 } s m args below meth c 2 D A false (some (.int out.1)) (xC cy xd sX out.2 uG es ea sT aT tT pT qT ma sL aL tL pL qL sK aK tK pK qK sH rH uH) 13 [] [.int j1.1] (xC cy xd sX j1.2 uG es ea sT aT tT pT qT ma sL aL tL pL qL sK aK tK pK qK sH rH uH) := by
    obtain rfl := Option.some.inj hf
    exact tt_ireturn (pc := 13) C rfl rfl rfl dX6_counted_13
  refine tt_if_ge (pc := 1) (tgt := 12) C dX6_counted_1 (by decide) hj1 (fun hj1 => ?_) (fun hj1 => ?_)
  · refine tt_iload_n (pc := 12) (k := 1) C dX6_counted_12 rfl rfl ?_
    obtain rfl := Option.some.inj hj1
    exact tt_locs [] rfl k2
  · refine tt_aload_n (pc := 4) (k := 0) C dX6_counted_4 rfl rfl ?_
    refine tt_iload_n (pc := 5) (k := 1) C dX6_counted_5 rfl rfl ?_
    obtain ⟨r3, hr3, hj1⟩ := bind_some hj1
    refine tt_callM (pc := 6) (ws := (xC cy xd sX aX uG es ea sT aT tT pT qT ma sL aL tL pL qL sK aK tK pK qK sH rH uH)) (q0 := 0) (ci := 6) (rest := []) (st' := [.int r3.1]) C rfl (k_X6_refused hr3) okX6_refused q2_19 rfl xC_obj rfl rfl rfl (Nat.le_of_ble_eq_true rfl) ⟨Nat.le_of_ble_eq_true rfl, Nat.le_of_ble_eq_true rfl⟩ dX6_counted_6 ?_
    refine tt_goto (pc := 9) (tgt := 13) C dX6_counted_9 (by decide) ?_
    obtain rfl := Option.some.inj hj1
    exact tt_locs [] rfl k2
theorem dX6_letter_0 : decode cX6_letter 0 = .ok (.aload_n 0, 1) := by decide +kernel
theorem dX6_letter_1 : decode cX6_letter 1 = .ok (.aload_n 0, 1) := by decide +kernel
theorem dX6_letter_2 : decode cX6_letter 2 = .ok (.getfield 29, 3) := by decide +kernel
theorem dX6_letter_5 : decode cX6_letter 5 = .ok (.iload_n 1, 1) := by decide +kernel
theorem dX6_letter_6 : decode cX6_letter 6 = .ok (.invokevirtual 58, 3) := by decide +kernel
theorem dX6_letter_9 : decode cX6_letter 9 = .ok (.invokevirtual 62, 3) := by decide +kernel
theorem dX6_letter_12 : decode cX6_letter 12 = .ok (.ireturn, 1) := by decide +kernel
set_option maxHeartbeats 4000000 in
set_option maxRecDepth 100000 in
theorem k_X6_letter {l : Launch} {D : va_G} {cy : Nat → ClassId} {Bd : Nat} {xa : Xa} {xd : Nat → Nat → Nat} {N : Nat} {sX : Nat → Int32} {aX : Nat → Nat → Int32} {uG : Nat → Int32} {es : Nat → Int32} {ea : Nat → Nat → Int32} {sT : Nat → Int32} {aT : Nat → Nat → Int32} {tT : Nat → Nat → Int32} {pT : Nat → Int32} {qT : Nat → Nat → Int32} {ma : Nat → Nat → Int32} {sL : Nat → Int32} {aL : Nat → Nat → Int32} {tL : Nat → Nat → Int32} {pL : Nat → Int32} {qL : Nat → Nat → Int32} {sK : Nat → Int32} {aK : Nat → Nat → Int32} {tK : Nat → Nat → Int32} {pK : Nat → Int32} {qK : Nat → Nat → Int32} {sH : Nat → Nat → Int32} {rH : Nat → Nat → Int64} {uH : Nat → Nat → Int32} {a1 : Int32} {out : Int32 × (Nat → Nat → Int32) × (Nat → Int32) × (Nat → Nat → Int32)} (hf : f_X6_letter N aX es ea a1 = some out) : KC l yX6_letter cX6_letter 2 (some .int) 2 42 false D cy Bd xa [.ref (xd 0 0), .int a1] (xC cy xd sX aX uG es ea sT aT tT pT qT ma sL aL tL pL qL sK aK tK pK qK sH rH uH) (some (.int out.1)) (xC cy xd sX out.2.1 uG out.2.2.1 out.2.2.2 sT aT tT pT qT ma sL aL tL pL qL sK aK tK pK qK sH rH uH) := by
  refine kc_start (own := RX6) (by decide +kernel) rfl (Nat.le_of_ble_eq_true rfl) ?_
  intro p e s m args below meth c A C
  unfold f_X6_letter at hf
  refine tt_locs (L' := [(0, .ref (xd 0 0)), (1, .int a1)]) [0, 1] rfl ?_
  refine tt_aload_n (pc := 0) (k := 0) C dX6_letter_0 rfl rfl ?_
  refine tt_aload_n (pc := 1) (k := 0) C dX6_letter_1 rfl rfl ?_
  refine tt_get (pc := 2) (ws := (xC cy xd sX aX uG es ea sT aT tT pT qT ma sL aL tL pL qL sK aK tK pK qK sH rH uH)) (ci := 6) (v := .ref ((xd 4) 0)) C fiX6 rfl 0 xC_obj 4 (by decide) q1_223 rfl dX6_letter_2 ?_
  refine tt_iload_n (pc := 5) (k := 1) C dX6_letter_5 rfl rfl ?_
  obtain ⟨r1, hr1, hf⟩ := bind_some hf
  refine tt_callG (pc := 6) (ws := (xC cy xd sX aX uG es ea sT aT tT pT qT ma sL aL tL pL qL sK aK tK pK qK sH rH uH)) (ws' := (xC cy xd sX aX uG r1.2.1 r1.2.2 sT aT tT pT qT ma sL aL tL pL qL sK aK tK pK qK sH rH uH)) (q0 := 4) (ci := 0) (rest := [.ref (xd 0 0)]) (st' := [.int r1.1, .ref (xd 0 0)]) C rfl (k_X0_add hr1) okX0_add q2_11 rfl rfl _ _ xs_E xs_E.symm rfl rfl rfl (Nat.le_of_ble_eq_true rfl) ⟨Nat.le_of_ble_eq_true rfl, Nat.le_of_ble_eq_true rfl⟩ dX6_letter_6 ?_
  obtain ⟨r2, hr2, hf⟩ := bind_some hf
  refine tt_callM (pc := 9) (ws := (xC cy xd sX aX uG r1.2.1 r1.2.2 sT aT tT pT qT ma sL aL tL pL qL sK aK tK pK qK sH rH uH)) (q0 := 0) (ci := 6) (rest := []) (st' := [.int r2.1]) C rfl (k_X6_counted hr2) okX6_counted q2_15 rfl xC_obj rfl rfl rfl (Nat.le_of_ble_eq_true rfl) ⟨Nat.le_of_ble_eq_true rfl, Nat.le_of_ble_eq_true rfl⟩ dX6_letter_9 ?_
  obtain rfl := Option.some.inj hf
  exact tt_ireturn (pc := 12) C rfl rfl rfl dX6_letter_12
theorem dX0_hasMore_0 : decode cX0_hasMore 0 = .ok (.aload_n 0, 1) := by decide +kernel
theorem dX0_hasMore_1 : decode cX0_hasMore 1 = .ok (.getfield 15, 3) := by decide +kernel
theorem dX0_hasMore_4 : decode cX0_hasMore 4 = .ok (.aload_n 0, 1) := by decide +kernel
theorem dX0_hasMore_5 : decode cX0_hasMore 5 = .ok (.getfield 9, 3) := by decide +kernel
theorem dX0_hasMore_8 : decode cX0_hasMore 8 = .ok (.if_icmp .ge 7, 3) := by decide +kernel
theorem dX0_hasMore_11 : decode cX0_hasMore 11 = .ok (.iconst 1, 1) := by decide +kernel
theorem dX0_hasMore_12 : decode cX0_hasMore 12 = .ok (.goto 4, 3) := by decide +kernel
theorem dX0_hasMore_15 : decode cX0_hasMore 15 = .ok (.iconst 0, 1) := by decide +kernel
theorem dX0_hasMore_16 : decode cX0_hasMore 16 = .ok (.ireturn, 1) := by decide +kernel
set_option maxHeartbeats 4000000 in
set_option maxRecDepth 100000 in
theorem k_X0_hasMore {l : Launch} {D : va_G} {cy : Nat → ClassId} {Bd : Nat} {xa : Xa} {ed : Nat → Nat} {N : Nat} {es : Nat → Int32} {ea : Nat → Nat → Int32} {out : Int32} (hf : f_X0_hasMore N es = some out) : KC l yX0_hasMore cX0_hasMore 1 (some .boolean) 0 0 true D cy Bd xa [.ref (ed 0)] (eC cy ed es ea) (some (.int out)) (eC cy ed es ea) := by
  refine kc_start (own := RX0) (by decide +kernel) rfl (Nat.le_of_ble_eq_true rfl) ?_
  intro p e s m args below meth c A C
  unfold f_X0_hasMore at hf
  refine tt_locs (L' := [(0, .ref (ed 0))]) [0] rfl ?_
  refine tt_aload_n (pc := 0) (k := 0) C dX0_hasMore_0 rfl rfl ?_
  refine tt_get (pc := 1) (ws := (eC cy ed es ea)) (ci := 0) (v := .int (es 1)) C fiX0 rfl 0 eC_obj 1 (by decide) q1_148 rfl dX0_hasMore_1 ?_
  refine tt_aload_n (pc := 4) (k := 0) C dX0_hasMore_4 rfl rfl ?_
  refine tt_get (pc := 5) (ws := (eC cy ed es ea)) (ci := 0) (v := .int (es 0)) C fiX0 rfl 0 eC_obj 0 (by decide) q1_146 rfl dX0_hasMore_5 ?_
  have k2 : TT p l e { frames := 0, cells := 0, slots := 0, locals := 0 } s m args below meth c 1 D A true (some (.int out)) (eC cy ed es ea) 16 [] [.int (if (es 0) ≤ (es 1) then (0 : Int32) else (1 : Int32))] (eC cy ed es ea) := by
    obtain rfl := Option.some.inj hf
    exact tt_zreturn (pc := 16) C rfl (nb_if rfl rfl) rfl rfl dX0_hasMore_16
  refine tr_icmp_ge (pc := 8) (tgt := 15) C dX0_hasMore_8 (by decide) (fun c1 => ?_) (fun c1 => ?_)
  · refine tt_iconst (pc := 15) (v := (0 : Int32)) C dX0_hasMore_15 (by decide) ?_
    try simp only [if_pos c1] at k2 ⊢
    exact tt_locs [] rfl k2
  · refine tt_iconst (pc := 11) (v := (1 : Int32)) C dX0_hasMore_11 (by decide) ?_
    refine tt_goto (pc := 12) (tgt := 16) C dX0_hasMore_12 (by decide) ?_
    try simp only [if_neg c1] at k2 ⊢
    exact tt_locs [] rfl k2
theorem dX0_textOf_0 : decode cX0_textOf 0 = .ok (.iload_n 0, 1) := by decide +kernel
theorem dX0_textOf_1 : decode cX0_textOf 1 = .ok (.tableswitch 57 0 5 #[39, 42, 45, 48, 51, 54], 39) := by decide +kernel
theorem dX0_textOf_40 : decode cX0_textOf 40 = .ok (.ldc 77, 2) := by decide +kernel
theorem dX0_textOf_42 : decode cX0_textOf 42 = .ok (.areturn, 1) := by decide +kernel
theorem dX0_textOf_43 : decode cX0_textOf 43 = .ok (.ldc 79, 2) := by decide +kernel
theorem dX0_textOf_45 : decode cX0_textOf 45 = .ok (.areturn, 1) := by decide +kernel
theorem dX0_textOf_46 : decode cX0_textOf 46 = .ok (.ldc 81, 2) := by decide +kernel
theorem dX0_textOf_48 : decode cX0_textOf 48 = .ok (.areturn, 1) := by decide +kernel
theorem dX0_textOf_49 : decode cX0_textOf 49 = .ok (.ldc 83, 2) := by decide +kernel
theorem dX0_textOf_51 : decode cX0_textOf 51 = .ok (.areturn, 1) := by decide +kernel
theorem dX0_textOf_52 : decode cX0_textOf 52 = .ok (.ldc 85, 2) := by decide +kernel
theorem dX0_textOf_54 : decode cX0_textOf 54 = .ok (.areturn, 1) := by decide +kernel
theorem dX0_textOf_55 : decode cX0_textOf 55 = .ok (.ldc 87, 2) := by decide +kernel
theorem dX0_textOf_57 : decode cX0_textOf 57 = .ok (.areturn, 1) := by decide +kernel
theorem dX0_textOf_58 : decode cX0_textOf 58 = .ok (.ldc 89, 2) := by decide +kernel
theorem dX0_textOf_60 : decode cX0_textOf 60 = .ok (.areturn, 1) := by decide +kernel
set_option maxHeartbeats 4000000 in
set_option maxRecDepth 100000 in
theorem k_X0_textOf {l : Launch} {D : va_G} {cy : Nat → ClassId} {Bd : Nat} {xa : Xa}  {N : Nat} {a1 : Int32} {out : Nat} (hf : f_X0_textOf N a1 = some out) : KC l yX0_textOf cX0_textOf 1 (some (.object "java/lang/String")) 0 0 true D cy Bd xa [.int a1] [] (some (.ref (xa.2.2.1 out))) [] := by
  refine kc_start (own := RX0) (by decide +kernel) rfl (Nat.le_of_ble_eq_true rfl) ?_
  intro p e s m args below meth c A C
  unfold f_X0_textOf at hf
  refine tt_locs (L' := [(0, .int a1)]) [0] rfl ?_
  refine tt_iload_n (pc := 0) (k := 0) C dX0_textOf_0 rfl rfl ?_
  refine sw_eq (x := a1) (k := 0) hf (fun hx hf => ?_) (fun n0 hf => ?_)
  · rw [hx]
    refine tt_tabIn (pc := 1) (tgt := 40) (x := 0) C dX0_textOf_1 (by decide) (by decide) rfl (by decide) ?_
    refine tt_ldcE (pc := 40) (j := 0) C rfl (by decide) rfl dX0_textOf_40 ?_
    obtain rfl := Option.some.inj hf
    exact tt_areturn (pc := 42) C rfl (Or.inl ⟨_, rfl⟩) rfl rfl dX0_textOf_42
  · refine sw_eq (x := a1) (k := 1) hf (fun hx hf => ?_) (fun n1 hf => ?_)
    · rw [hx]
      refine tt_tabIn (pc := 1) (tgt := 43) (x := 1) C dX0_textOf_1 (by decide) (by decide) rfl (by decide) ?_
      refine tt_ldcE (pc := 43) (j := 1) C rfl (by decide) rfl dX0_textOf_43 ?_
      obtain rfl := Option.some.inj hf
      exact tt_areturn (pc := 45) C rfl (Or.inl ⟨_, rfl⟩) rfl rfl dX0_textOf_45
    · refine sw_eq (x := a1) (k := 2) hf (fun hx hf => ?_) (fun n2 hf => ?_)
      · rw [hx]
        refine tt_tabIn (pc := 1) (tgt := 46) (x := 2) C dX0_textOf_1 (by decide) (by decide) rfl (by decide) ?_
        refine tt_ldcE (pc := 46) (j := 2) C rfl (by decide) rfl dX0_textOf_46 ?_
        obtain rfl := Option.some.inj hf
        exact tt_areturn (pc := 48) C rfl (Or.inl ⟨_, rfl⟩) rfl rfl dX0_textOf_48
      · refine sw_eq (x := a1) (k := 3) hf (fun hx hf => ?_) (fun n3 hf => ?_)
        · rw [hx]
          refine tt_tabIn (pc := 1) (tgt := 49) (x := 3) C dX0_textOf_1 (by decide) (by decide) rfl (by decide) ?_
          refine tt_ldcE (pc := 49) (j := 3) C rfl (by decide) rfl dX0_textOf_49 ?_
          obtain rfl := Option.some.inj hf
          exact tt_areturn (pc := 51) C rfl (Or.inl ⟨_, rfl⟩) rfl rfl dX0_textOf_51
        · refine sw_eq (x := a1) (k := 4) hf (fun hx hf => ?_) (fun n4 hf => ?_)
          · rw [hx]
            refine tt_tabIn (pc := 1) (tgt := 52) (x := 4) C dX0_textOf_1 (by decide) (by decide) rfl (by decide) ?_
            refine tt_ldcE (pc := 52) (j := 4) C rfl (by decide) rfl dX0_textOf_52 ?_
            obtain rfl := Option.some.inj hf
            exact tt_areturn (pc := 54) C rfl (Or.inl ⟨_, rfl⟩) rfl rfl dX0_textOf_54
          · refine sw_eq (x := a1) (k := 5) hf (fun hx hf => ?_) (fun n5 hf => ?_)
            · rw [hx]
              refine tt_tabIn (pc := 1) (tgt := 55) (x := 5) C dX0_textOf_1 (by decide) (by decide) rfl (by decide) ?_
              refine tt_ldcE (pc := 55) (j := 5) C rfl (by decide) rfl dX0_textOf_55 ?_
              obtain rfl := Option.some.inj hf
              exact tt_areturn (pc := 57) C rfl (Or.inl ⟨_, rfl⟩) rfl rfl dX0_textOf_57
            · have g0 := sw_ne n0 (z := 0) (by decide)
              have g1 := sw_ne n1 (z := 1) (by decide)
              have g2 := sw_ne n2 (z := 2) (by decide)
              have g3 := sw_ne n3 (z := 3) (by decide)
              have g4 := sw_ne n4 (z := 4) (by decide)
              have g5 := sw_ne n5 (z := 5) (by decide)
              refine tt_tabOut (pc := 1) (tgt := 58) C dX0_textOf_1 (by omega) (by decide) ?_
              refine tt_ldcE (pc := 58) (j := 6) C rfl (by decide) rfl dX0_textOf_58 ?_
              obtain rfl := Option.some.inj hf
              exact tt_areturn (pc := 60) C rfl (Or.inl ⟨_, rfl⟩) rfl rfl dX0_textOf_60
theorem dX0_beginsWord_0 : decode cX0_beginsWord 0 = .ok (.iload_n 1, 1) := by decide +kernel
theorem dX0_beginsWord_1 : decode cX0_beginsWord 1 = .ok (.invokestatic 63, 3) := by decide +kernel
theorem dX0_beginsWord_4 : decode cX0_beginsWord 4 = .ok (.astore 4, 2) := by decide +kernel
theorem dX0_beginsWord_6 : decode cX0_beginsWord 6 = .ok (.aload 4, 2) := by decide +kernel
theorem dX0_beginsWord_8 : decode cX0_beginsWord 8 = .ok (.invokevirtual 67, 3) := by decide +kernel
theorem dX0_beginsWord_11 : decode cX0_beginsWord 11 = .ok (.iload_n 3, 1) := by decide +kernel
theorem dX0_beginsWord_12 : decode cX0_beginsWord 12 = .ok (.if_icmp .lt 13, 3) := by decide +kernel
theorem dX0_beginsWord_15 : decode cX0_beginsWord 15 = .ok (.iload_n 2, 1) := by decide +kernel
theorem dX0_beginsWord_16 : decode cX0_beginsWord 16 = .ok (.iload_n 3, 1) := by decide +kernel
theorem dX0_beginsWord_17 : decode cX0_beginsWord 17 = .ok (.iadd, 1) := by decide +kernel
theorem dX0_beginsWord_18 : decode cX0_beginsWord 18 = .ok (.aload_n 0, 1) := by decide +kernel
theorem dX0_beginsWord_19 : decode cX0_beginsWord 19 = .ok (.getfield 9, 3) := by decide +kernel
theorem dX0_beginsWord_22 : decode cX0_beginsWord 22 = .ok (.if_icmp .le 5, 3) := by decide +kernel
theorem dX0_beginsWord_25 : decode cX0_beginsWord 25 = .ok (.iconst 0, 1) := by decide +kernel
theorem dX0_beginsWord_26 : decode cX0_beginsWord 26 = .ok (.ireturn, 1) := by decide +kernel
theorem dX0_beginsWord_27 : decode cX0_beginsWord 27 = .ok (.iconst 0, 1) := by decide +kernel
theorem dX0_beginsWord_28 : decode cX0_beginsWord 28 = .ok (.istore 5, 2) := by decide +kernel
theorem dX0_beginsWord_30 : decode cX0_beginsWord 30 = .ok (.iload 5, 2) := by decide +kernel
theorem dX0_beginsWord_32 : decode cX0_beginsWord 32 = .ok (.iload_n 3, 1) := by decide +kernel
theorem dX0_beginsWord_33 : decode cX0_beginsWord 33 = .ok (.if_icmp .ge 30, 3) := by decide +kernel
theorem dX0_beginsWord_36 : decode cX0_beginsWord 36 = .ok (.aload 4, 2) := by decide +kernel
theorem dX0_beginsWord_38 : decode cX0_beginsWord 38 = .ok (.iload 5, 2) := by decide +kernel
theorem dX0_beginsWord_40 : decode cX0_beginsWord 40 = .ok (.invokevirtual 73, 3) := by decide +kernel
theorem dX0_beginsWord_43 : decode cX0_beginsWord 43 = .ok (.aload_n 0, 1) := by decide +kernel
theorem dX0_beginsWord_44 : decode cX0_beginsWord 44 = .ok (.getfield 18, 3) := by decide +kernel
theorem dX0_beginsWord_47 : decode cX0_beginsWord 47 = .ok (.iload_n 2, 1) := by decide +kernel
theorem dX0_beginsWord_48 : decode cX0_beginsWord 48 = .ok (.iload 5, 2) := by decide +kernel
theorem dX0_beginsWord_50 : decode cX0_beginsWord 50 = .ok (.iadd, 1) := by decide +kernel
theorem dX0_beginsWord_51 : decode cX0_beginsWord 51 = .ok (.caload, 1) := by decide +kernel
theorem dX0_beginsWord_52 : decode cX0_beginsWord 52 = .ok (.if_icmp .eq 5, 3) := by decide +kernel
theorem dX0_beginsWord_55 : decode cX0_beginsWord 55 = .ok (.iconst 0, 1) := by decide +kernel
theorem dX0_beginsWord_56 : decode cX0_beginsWord 56 = .ok (.ireturn, 1) := by decide +kernel
theorem dX0_beginsWord_57 : decode cX0_beginsWord 57 = .ok (.iinc 5 1, 3) := by decide +kernel
theorem dX0_beginsWord_60 : decode cX0_beginsWord 60 = .ok (.goto (-30), 3) := by decide +kernel
theorem dX0_beginsWord_63 : decode cX0_beginsWord 63 = .ok (.iconst 1, 1) := by decide +kernel
theorem dX0_beginsWord_64 : decode cX0_beginsWord 64 = .ok (.ireturn, 1) := by decide +kernel
set_option maxHeartbeats 4000000 in
set_option maxRecDepth 100000 in
theorem l_X0_beginsWord_30 {p : Program} {l : Launch} {e : Env} {s : State} {m : MethodId} {args : Array Value} {below : List Frame} {meth : Method} {c : Code} {D : va_G} {cy : Nat → ClassId} {A : Nat → Prop} {Bd : Nat} {xa : Xa} {ed : Nat → Nat} {N : Nat} {es : Nat → Int32} {ea : Nat → Nat → Int32} {v2 : Int32} {v3 : Int32} {t4 : Nat} {kx : Unit → Option (Int32)} {out : Int32} (C : CC p s m args meth c cX0_beginsWord RX0 6 (some .boolean) D cy A true Bd xa) (hk : ∀ (uu : Unit), kx uu = some out → TT p l e { frames := 4, cells := 0, slots := 0, locals := 85 } s m args below meth c 6 D A true (some (.int out)) (eC cy ed es ea) 63 [] [] (eC cy ed es ea)) {n : Nat} {v5 : Int32} (hf : f_X0_beginsWord_L30 N es ea v2 v3 t4 kx n v5 = some out) : TT p l e { frames := 4, cells := 0, slots := 0, locals := 85 } s m args below meth c 6 D A true (some (.int out)) (eC cy ed es ea) 30 [(0, .ref (ed 0)), (2, .int v2), (3, .int v3), (4, .ref (xa.2.2.1 t4)), (5, .int v5)] [] (eC cy ed es ea) := by
  induction n generalizing v5 with
  | zero => cases hf
  | succ n ih =>
    rw [f_X0_beginsWord_L30] at hf
    refine tt_iload (pc := 30) (k := 4) C dX0_beginsWord_30 rfl ?_
    refine tt_iload_n (pc := 32) (k := 2) C dX0_beginsWord_32 rfl rfl ?_
    refine tt_icmp_ge (pc := 33) (tgt := 63) C dX0_beginsWord_33 (by decide) hf (fun hf => ?_) (fun hf => ?_)
    · exact tt_locs [] rfl (hk () hf)
    · refine tt_aload (pc := 36) (k := 3) C dX0_beginsWord_36 rfl ?_
      refine tt_iload (pc := 38) (k := 4) C dX0_beginsWord_38 rfl ?_
      refine tt_sat (pc := 40) (j := t4) C hf q2_71 (Nat.le_of_ble_eq_true rfl) ⟨Nat.le_of_ble_eq_true rfl, Nat.le_of_ble_eq_true rfl⟩ dX0_beginsWord_40 (fun hf => ?_)
      refine tt_aload_n (pc := 43) (k := 0) C dX0_beginsWord_43 rfl rfl ?_
      refine tt_get (pc := 44) (ws := (eC cy ed es ea)) (ci := 0) (v := .ref (ed 2)) C fiX0 rfl 0 eC_obj 2 (by decide) q1_150 rfl dX0_beginsWord_44 ?_
      refine tt_iload_n (pc := 47) (k := 1) C dX0_beginsWord_47 rfl rfl ?_
      refine tt_iload (pc := 48) (k := 4) C dX0_beginsWord_48 rfl ?_
      refine tt_iadd (pc := 50) C dX0_beginsWord_50 ?_
      refine tt_caload (pc := 51) (ws := (eC cy ed es ea)) (n := 120) (f := (ea 2)) C 1 2 eC_get2 rfl hf dX0_beginsWord_51 (fun hf => ?_)
      refine tt_icmp_eq (pc := 52) (tgt := 57) C dX0_beginsWord_52 (by decide) hf (fun hf => ?_) (fun hf => ?_)
      · refine tt_iinc (pc := 57) (k := 4) (v := (v5 + 1)) (L' := [(5, .int (v5 + 1)), (0, .ref (ed 0)), (2, .int v2), (3, .int v3), (4, .ref (xa.2.2.1 t4))]) C dX0_beginsWord_57 rfl rfl (by decide) rfl ?_
        refine tt_goto (pc := 60) (tgt := 30) C dX0_beginsWord_60 (by decide) ?_
        exact tt_locs [1, 2, 3, 4, 0] rfl (ih hf)
      · refine tt_iconst (pc := 55) (v := (0 : Int32)) C dX0_beginsWord_55 (by decide) ?_
        obtain rfl := Option.some.inj hf
        exact tt_zreturn (pc := 56) C rfl rfl rfl rfl dX0_beginsWord_56
set_option maxHeartbeats 4000000 in
set_option maxRecDepth 100000 in
theorem k_X0_beginsWord {l : Launch} {D : va_G} {cy : Nat → ClassId} {Bd : Nat} {xa : Xa} {ed : Nat → Nat} {N : Nat} {es : Nat → Int32} {ea : Nat → Nat → Int32} {a1 : Int32} {a2 : Int32} {a3 : Int32} {out : Int32} (hf : f_X0_beginsWord N es ea a1 a2 a3 = some out) : KC l yX0_beginsWord cX0_beginsWord 6 (some .boolean) 4 85 true D cy Bd xa [.ref (ed 0), .int a1, .int a2, .int a3] (eC cy ed es ea) (some (.int out)) (eC cy ed es ea) := by
  refine kc_start (own := RX0) (by decide +kernel) rfl (Nat.le_of_ble_eq_true rfl) ?_
  intro p e s m args below meth c A C
  unfold f_X0_beginsWord at hf
  refine tt_locs (L' := [(0, .ref (ed 0)), (1, .int a1), (2, .int a2), (3, .int a3)]) [0, 1, 2, 3] rfl ?_
  refine tt_iload_n (pc := 0) (k := 1) C dX0_beginsWord_0 rfl rfl ?_
  obtain ⟨r1, hr1, hf⟩ := bind_some hf
  refine tt_callS (pc := 1) (ws := (eC cy ed es ea)) (rest := []) (st' := [.ref (xa.2.2.1 r1)]) C (k_X0_textOf hr1) okX0_textOf q2_51 (fun _ h => absurd h List.not_mem_nil) rfl rfl rfl (Nat.le_of_ble_eq_true rfl) ⟨Nat.le_of_ble_eq_true rfl, Nat.le_of_ble_eq_true rfl⟩ dX0_beginsWord_1 ?_
  refine tt_astore (pc := 4) (L' := [(4, .ref (xa.2.2.1 r1)), (0, .ref (ed 0)), (1, .int a1), (2, .int a2), (3, .int a3)]) C dX0_beginsWord_4 (by decide) rfl ?_
  refine tt_aload (pc := 6) (k := 0) C dX0_beginsWord_6 rfl ?_
  refine tt_slen (pc := 8) (j := r1) C hf q2_61 (Nat.le_of_ble_eq_true rfl) ⟨Nat.le_of_ble_eq_true rfl, Nat.le_of_ble_eq_true rfl⟩ dX0_beginsWord_8 (fun hf => ?_)
  refine tt_iload_n (pc := 11) (k := 4) C dX0_beginsWord_11 rfl rfl ?_
  refine tt_icmp_lt (pc := 12) (tgt := 25) C dX0_beginsWord_12 (by decide) hf (fun hf => ?_) (fun hf => ?_)
  · refine tt_iconst (pc := 25) (v := (0 : Int32)) C dX0_beginsWord_25 (by decide) ?_
    obtain rfl := Option.some.inj hf
    exact tt_zreturn (pc := 26) C rfl rfl rfl rfl dX0_beginsWord_26
  · refine tt_iload_n (pc := 15) (k := 3) C dX0_beginsWord_15 rfl rfl ?_
    refine tt_iload_n (pc := 16) (k := 4) C dX0_beginsWord_16 rfl rfl ?_
    refine tt_iadd (pc := 17) C dX0_beginsWord_17 ?_
    refine tt_aload_n (pc := 18) (k := 1) C dX0_beginsWord_18 rfl rfl ?_
    refine tt_get (pc := 19) (ws := (eC cy ed es ea)) (ci := 0) (v := .int (es 0)) C fiX0 rfl 0 eC_obj 0 (by decide) q1_146 rfl dX0_beginsWord_19 ?_
    refine tt_icmp_le (pc := 22) (tgt := 27) C dX0_beginsWord_22 (by decide) hf (fun hf => ?_) (fun hf => ?_)
    · refine tt_iconst (pc := 27) (v := (0 : Int32)) C dX0_beginsWord_27 (by decide) ?_
      refine tt_istore (pc := 28) (L' := [(5, .int (0 : Int32)), (4, .ref (xa.2.2.1 r1)), (0, .ref (ed 0)), (1, .int a1), (2, .int a2), (3, .int a3)]) C dX0_beginsWord_28 (by decide) rfl ?_
      refine tt_locs (L' := [(0, .ref (ed 0)), (2, .int a2), (3, .int a3), (4, .ref (xa.2.2.1 r1)), (5, .int (0 : Int32))]) [2, 4, 5, 1, 0] rfl (l_X0_beginsWord_30 C (fun _ hf => ?_) hf)
      refine tt_iconst (pc := 63) (v := (1 : Int32)) C dX0_beginsWord_63 (by decide) ?_
      obtain rfl := Option.some.inj hf
      exact tt_zreturn (pc := 64) C rfl rfl rfl rfl dX0_beginsWord_64
    · refine tt_iconst (pc := 25) (v := (0 : Int32)) C dX0_beginsWord_25 (by decide) ?_
      obtain rfl := Option.some.inj hf
      exact tt_zreturn (pc := 26) C rfl rfl rfl rfl dX0_beginsWord_26
theorem dX0_readWord_0 : decode cX0_readWord 0 = .ok (.aload_n 0, 1) := by decide +kernel
theorem dX0_readWord_1 : decode cX0_readWord 1 = .ok (.getfield 15, 3) := by decide +kernel
theorem dX0_readWord_4 : decode cX0_readWord 4 = .ok (.istore_n 1, 1) := by decide +kernel
theorem dX0_readWord_5 : decode cX0_readWord 5 = .ok (.iconst 1, 1) := by decide +kernel
theorem dX0_readWord_6 : decode cX0_readWord 6 = .ok (.istore_n 2, 1) := by decide +kernel
theorem dX0_readWord_7 : decode cX0_readWord 7 = .ok (.iload_n 2, 1) := by decide +kernel
theorem dX0_readWord_8 : decode cX0_readWord 8 = .ok (.bipush 6, 2) := by decide +kernel
theorem dX0_readWord_10 : decode cX0_readWord 10 = .ok (.if_icmp .gt 85, 3) := by decide +kernel
theorem dX0_readWord_13 : decode cX0_readWord 13 = .ok (.aload_n 0, 1) := by decide +kernel
theorem dX0_readWord_14 : decode cX0_readWord 14 = .ok (.invokevirtual 35, 3) := by decide +kernel
theorem dX0_readWord_17 : decode cX0_readWord 17 = .ok (.ifCond .eq 78, 3) := by decide +kernel
theorem dX0_readWord_20 : decode cX0_readWord 20 = .ok (.iconst 0, 1) := by decide +kernel
theorem dX0_readWord_21 : decode cX0_readWord 21 = .ok (.istore_n 3, 1) := by decide +kernel
theorem dX0_readWord_22 : decode cX0_readWord 22 = .ok (.iconst 0, 1) := by decide +kernel
theorem dX0_readWord_23 : decode cX0_readWord 23 = .ok (.istore 4, 2) := by decide +kernel
theorem dX0_readWord_25 : decode cX0_readWord 25 = .ok (.iload 4, 2) := by decide +kernel
theorem dX0_readWord_27 : decode cX0_readWord 27 = .ok (.bipush 7, 2) := by decide +kernel
theorem dX0_readWord_29 : decode cX0_readWord 29 = .ok (.if_icmp .ge 28, 3) := by decide +kernel
theorem dX0_readWord_32 : decode cX0_readWord 32 = .ok (.aload_n 0, 1) := by decide +kernel
theorem dX0_readWord_33 : decode cX0_readWord 33 = .ok (.iload 4, 2) := by decide +kernel
theorem dX0_readWord_35 : decode cX0_readWord 35 = .ok (.iload_n 1, 1) := by decide +kernel
theorem dX0_readWord_36 : decode cX0_readWord 36 = .ok (.iload_n 2, 1) := by decide +kernel
theorem dX0_readWord_37 : decode cX0_readWord 37 = .ok (.invokevirtual 59, 3) := by decide +kernel
theorem dX0_readWord_40 : decode cX0_readWord 40 = .ok (.ifCond .eq 11, 3) := by decide +kernel
theorem dX0_readWord_43 : decode cX0_readWord 43 = .ok (.iconst 1, 1) := by decide +kernel
theorem dX0_readWord_44 : decode cX0_readWord 44 = .ok (.istore_n 3, 1) := by decide +kernel
theorem dX0_readWord_45 : decode cX0_readWord 45 = .ok (.aload_n 0, 1) := by decide +kernel
theorem dX0_readWord_46 : decode cX0_readWord 46 = .ok (.iload 4, 2) := by decide +kernel
theorem dX0_readWord_48 : decode cX0_readWord 48 = .ok (.putfield 22, 3) := by decide +kernel
theorem dX0_readWord_51 : decode cX0_readWord 51 = .ok (.iinc 4 1, 3) := by decide +kernel
theorem dX0_readWord_54 : decode cX0_readWord 54 = .ok (.goto (-29), 3) := by decide +kernel
theorem dX0_readWord_57 : decode cX0_readWord 57 = .ok (.iload_n 3, 1) := by decide +kernel
theorem dX0_readWord_58 : decode cX0_readWord 58 = .ok (.ifCond .ne 5, 3) := by decide +kernel
theorem dX0_readWord_61 : decode cX0_readWord 61 = .ok (.iconst 0, 1) := by decide +kernel
theorem dX0_readWord_62 : decode cX0_readWord 62 = .ok (.ireturn, 1) := by decide +kernel
theorem dX0_readWord_63 : decode cX0_readWord 63 = .ok (.aload_n 0, 1) := by decide +kernel
theorem dX0_readWord_64 : decode cX0_readWord 64 = .ok (.dup, 1) := by decide +kernel
theorem dX0_readWord_65 : decode cX0_readWord 65 = .ok (.getfield 15, 3) := by decide +kernel
theorem dX0_readWord_68 : decode cX0_readWord 68 = .ok (.iconst 1, 1) := by decide +kernel
theorem dX0_readWord_69 : decode cX0_readWord 69 = .ok (.iadd, 1) := by decide +kernel
theorem dX0_readWord_70 : decode cX0_readWord 70 = .ok (.putfield 15, 3) := by decide +kernel
theorem dX0_readWord_73 : decode cX0_readWord 73 = .ok (.aload_n 0, 1) := by decide +kernel
theorem dX0_readWord_74 : decode cX0_readWord 74 = .ok (.getfield 22, 3) := by decide +kernel
theorem dX0_readWord_77 : decode cX0_readWord 77 = .ok (.invokestatic 63, 3) := by decide +kernel
theorem dX0_readWord_80 : decode cX0_readWord 80 = .ok (.invokevirtual 67, 3) := by decide +kernel
theorem dX0_readWord_83 : decode cX0_readWord 83 = .ok (.iload_n 2, 1) := by decide +kernel
theorem dX0_readWord_84 : decode cX0_readWord 84 = .ok (.if_icmp .ne 5, 3) := by decide +kernel
theorem dX0_readWord_87 : decode cX0_readWord 87 = .ok (.iconst 1, 1) := by decide +kernel
theorem dX0_readWord_88 : decode cX0_readWord 88 = .ok (.ireturn, 1) := by decide +kernel
theorem dX0_readWord_89 : decode cX0_readWord 89 = .ok (.iinc 2 1, 3) := by decide +kernel
theorem dX0_readWord_92 : decode cX0_readWord 92 = .ok (.goto (-85), 3) := by decide +kernel
theorem dX0_readWord_95 : decode cX0_readWord 95 = .ok (.iconst 0, 1) := by decide +kernel
theorem dX0_readWord_96 : decode cX0_readWord 96 = .ok (.ireturn, 1) := by decide +kernel
set_option maxHeartbeats 4000000 in
set_option maxRecDepth 100000 in
theorem l_X0_readWord_25 {p : Program} {l : Launch} {e : Env} {s : State} {m : MethodId} {args : Array Value} {below : List Frame} {meth : Method} {c : Code} {D : va_G} {cy : Nat → ClassId} {A : Nat → Prop} {Bd : Nat} {xa : Xa} {ed : Nat → Nat} {β : Type} {vO : Option Value} {wO : va_W} {N : Nat} {ea : Nat → Nat → Int32} {v1 : Int32} {v2 : Int32} {kx : Int32 → (Nat → Int32) → Option (β)} {out : β} (C : CC p s m args meth c cX0_readWord RX0 5 (some .boolean) D cy A false Bd xa) (hk : ∀ (x3 : Int32) (es1 : Nat → Int32), kx x3 es1 = some out → TT p l e { frames := 5, cells := 0, slots := 0, locals := 110 } s m args below meth c 5 D A false vO wO 57 [(0, .ref (ed 0)), (1, .int v1), (2, .int v2), (3, .int x3)] [] (eC cy ed es1 ea)) {n : Nat} {v3 : Int32} {v4 : Int32} {es : Nat → Int32} (hf : f_X0_readWord_L25 N ea v1 v2 kx n v3 v4 es = some out) : TT p l e { frames := 5, cells := 0, slots := 0, locals := 110 } s m args below meth c 5 D A false vO wO 25 [(0, .ref (ed 0)), (1, .int v1), (2, .int v2), (3, .int v3), (4, .int v4)] [] (eC cy ed es ea) := by
  induction n generalizing v3 v4 es with
  | zero => cases hf
  | succ n ih =>
    rw [f_X0_readWord_L25] at hf
    refine tt_iload (pc := 25) (k := 4) C dX0_readWord_25 rfl ?_
    refine tt_bipush (pc := 27) (v := (7 : Int32)) C dX0_readWord_27 (by decide) ?_
    refine tt_icmp_ge (pc := 29) (tgt := 57) C dX0_readWord_29 (by decide) hf (fun hf => ?_) (fun hf => ?_)
    · exact tt_locs [0, 1, 2, 3] rfl (hk _ _ hf)
    · refine tt_aload_n (pc := 32) (k := 0) C dX0_readWord_32 rfl rfl ?_
      refine tt_iload (pc := 33) (k := 4) C dX0_readWord_33 rfl ?_
      refine tt_iload_n (pc := 35) (k := 1) C dX0_readWord_35 rfl rfl ?_
      refine tt_iload_n (pc := 36) (k := 2) C dX0_readWord_36 rfl rfl ?_
      obtain ⟨r2, hr2, hf⟩ := bind_some hf
      refine tt_callR (pc := 37) (ws := (eC cy ed es ea)) (q0 := 0) (ci := 0) (rest := []) (st' := [.int r2]) C (k_X0_beginsWord hr2) okX0_beginsWord q2_47 rfl eC_obj (fun _ h => h) rfl rfl rfl (Nat.le_of_ble_eq_true rfl) ⟨Nat.le_of_ble_eq_true rfl, Nat.le_of_ble_eq_true rfl⟩ dX0_readWord_37 ?_
      obtain ⟨j3, hj3, hf⟩ := bind_some hf
      have k4 : TT p l e { frames := 5, cells := 0, slots := 0, locals := 110 } s m args below meth c 5 D A false vO wO 51 [(0, .ref (ed 0)), (1, .int v1), (2, .int v2), (3, .int j3.1), (4, .int v4)] [] (eC cy ed j3.2 ea) := by
        refine tt_iinc (pc := 51) (k := 4) (v := (v4 + 1)) (L' := [(4, .int (v4 + 1)), (0, .ref (ed 0)), (1, .int v1), (2, .int v2), (3, .int j3.1)]) C dX0_readWord_51 rfl rfl (by decide) rfl ?_
        refine tt_goto (pc := 54) (tgt := 25) C dX0_readWord_54 (by decide) ?_
        exact tt_locs [1, 2, 3, 4, 0] rfl (ih hf)
      refine tt_if_eq (pc := 40) (tgt := 51) C dX0_readWord_40 (by decide) hj3 (fun hj3 => ?_) (fun hj3 => ?_)
      · obtain rfl := Option.some.inj hj3
        exact tt_locs [0, 1, 2, 3, 4] rfl k4
      · refine tt_iconst (pc := 43) (v := (1 : Int32)) C dX0_readWord_43 (by decide) ?_
        refine tt_istore_n (pc := 44) (L' := [(3, .int (1 : Int32)), (0, .ref (ed 0)), (1, .int v1), (2, .int v2), (4, .int v4)]) C dX0_readWord_44 rfl (by decide) rfl ?_
        refine tt_aload_n (pc := 45) (k := 1) C dX0_readWord_45 rfl rfl ?_
        refine tt_iload (pc := 46) (k := 4) C dX0_readWord_46 rfl ?_
        refine tt_put (pc := 48) (ws := (eC cy ed es ea)) (ci := 0) (ty := .int) (ws' := (eC cy ed (upd es 3 v4) ea)) C rfl fiX0 rfl 0 eC_obj 3 (by decide) q1_151 rfl rfl rfl rfl (Nat.le_of_ble_eq_true rfl) dX0_readWord_48 eC_put3 ?_
        obtain rfl := Option.some.inj hj3
        exact tt_locs [1, 2, 3, 0, 4] rfl k4
set_option maxHeartbeats 4000000 in
set_option maxRecDepth 100000 in
theorem l_X0_readWord_7 {p : Program} {l : Launch} {e : Env} {s : State} {m : MethodId} {args : Array Value} {below : List Frame} {meth : Method} {c : Code} {D : va_G} {cy : Nat → ClassId} {A : Nat → Prop} {Bd : Nat} {xa : Xa} {ed : Nat → Nat} {N : Nat} {ea : Nat → Nat → Int32} {v1 : Int32} {kx : (Nat → Int32) → Option (Int32 × (Nat → Int32))} {out : Int32 × (Nat → Int32)} (C : CC p s m args meth c cX0_readWord RX0 5 (some .boolean) D cy A false Bd xa) (hk : ∀ (es1 : Nat → Int32), kx es1 = some out → TT p l e { frames := 5, cells := 0, slots := 0, locals := 110 } s m args below meth c 5 D A false (some (.int out.1)) (eC cy ed out.2 ea) 95 [] [] (eC cy ed es1 ea)) {n : Nat} {v2 : Int32} {es : Nat → Int32} (hf : f_X0_readWord_L7 N ea v1 kx n v2 es = some out) : TT p l e { frames := 5, cells := 0, slots := 0, locals := 110 } s m args below meth c 5 D A false (some (.int out.1)) (eC cy ed out.2 ea) 7 [(0, .ref (ed 0)), (1, .int v1), (2, .int v2)] [] (eC cy ed es ea) := by
  induction n generalizing v2 es with
  | zero => cases hf
  | succ n ih =>
    rw [f_X0_readWord_L7] at hf
    refine tt_iload_n (pc := 7) (k := 2) C dX0_readWord_7 rfl rfl ?_
    refine tt_bipush (pc := 8) (v := (6 : Int32)) C dX0_readWord_8 (by decide) ?_
    refine tt_icmp_gt (pc := 10) (tgt := 95) C dX0_readWord_10 (by decide) hf (fun hf => ?_) (fun hf => ?_)
    · exact tt_locs [] rfl (hk _ hf)
    · refine tt_aload_n (pc := 13) (k := 0) C dX0_readWord_13 rfl rfl ?_
      obtain ⟨r1, hr1, hf⟩ := bind_some hf
      refine tt_callR (pc := 14) (ws := (eC cy ed es ea)) (q0 := 0) (ci := 0) (rest := []) (st' := [.int r1]) C (k_X0_hasMore hr1) okX0_hasMore q2_35 rfl eC_obj (fun _ h => h) rfl rfl rfl (Nat.le_of_ble_eq_true rfl) ⟨Nat.le_of_ble_eq_true rfl, Nat.le_of_ble_eq_true rfl⟩ dX0_readWord_14 ?_
      refine tt_if_eq (pc := 17) (tgt := 95) C dX0_readWord_17 (by decide) hf (fun hf => ?_) (fun hf => ?_)
      · exact tt_locs [] rfl (hk _ hf)
      · refine tt_iconst (pc := 20) (v := (0 : Int32)) C dX0_readWord_20 (by decide) ?_
        refine tt_istore_n (pc := 21) (L' := [(3, .int (0 : Int32)), (0, .ref (ed 0)), (1, .int v1), (2, .int v2)]) C dX0_readWord_21 rfl (by decide) rfl ?_
        refine tt_iconst (pc := 22) (v := (0 : Int32)) C dX0_readWord_22 (by decide) ?_
        refine tt_istore (pc := 23) (L' := [(4, .int (0 : Int32)), (3, .int (0 : Int32)), (0, .ref (ed 0)), (1, .int v1), (2, .int v2)]) C dX0_readWord_23 (by decide) rfl ?_
        refine tt_locs (L' := [(0, .ref (ed 0)), (1, .int v1), (2, .int v2), (3, .int (0 : Int32)), (4, .int (0 : Int32))]) [2, 3, 4, 1, 0] rfl (l_X0_readWord_25 C (fun x3_5 t5 hf => ?_) hf)
        refine tt_iload_n (pc := 57) (k := 3) C dX0_readWord_57 rfl rfl ?_
        refine tt_if_ne (pc := 58) (tgt := 63) C dX0_readWord_58 (by decide) hf (fun hf => ?_) (fun hf => ?_)
        · refine tt_aload_n (pc := 63) (k := 0) C dX0_readWord_63 rfl rfl ?_
          refine tt_dup (pc := 64) C dX0_readWord_64 rfl ?_
          refine tt_get (pc := 65) (ws := (eC cy ed t5 ea)) (ci := 0) (v := .int (t5 1)) C fiX0 rfl 0 eC_obj 1 (by decide) q1_148 rfl dX0_readWord_65 ?_
          refine tt_iconst (pc := 68) (v := (1 : Int32)) C dX0_readWord_68 (by decide) ?_
          refine tt_iadd (pc := 69) C dX0_readWord_69 ?_
          refine tt_put (pc := 70) (ws := (eC cy ed t5 ea)) (ci := 0) (ty := .int) (ws' := (eC cy ed (upd t5 1 ((t5 1) + (1 : Int32))) ea)) C rfl fiX0 rfl 0 eC_obj 1 (by decide) q1_148 rfl rfl rfl rfl (Nat.le_of_ble_eq_true rfl) dX0_readWord_70 eC_put1 ?_
          refine tt_aload_n (pc := 73) (k := 0) C dX0_readWord_73 rfl rfl ?_
          refine tt_get (pc := 74) (ws := (eC cy ed (upd t5 1 ((t5 1) + (1 : Int32))) ea)) (ci := 0) (v := .int (t5 3)) C fiX0 rfl 0 eC_obj 3 (by decide) q1_151 rfl dX0_readWord_74 ?_
          obtain ⟨r6, hr6, hf⟩ := bind_some hf
          refine tt_callS (pc := 77) (ws := (eC cy ed (upd t5 1 ((t5 1) + (1 : Int32))) ea)) (rest := []) (st' := [.ref (xa.2.2.1 r6)]) C (k_X0_textOf hr6) okX0_textOf q2_51 (fun _ h => absurd h List.not_mem_nil) rfl rfl rfl (Nat.le_of_ble_eq_true rfl) ⟨Nat.le_of_ble_eq_true rfl, Nat.le_of_ble_eq_true rfl⟩ dX0_readWord_77 ?_
          refine tt_slen (pc := 80) (j := r6) C hf q2_61 (Nat.le_of_ble_eq_true rfl) ⟨Nat.le_of_ble_eq_true rfl, Nat.le_of_ble_eq_true rfl⟩ dX0_readWord_80 (fun hf => ?_)
          refine tt_iload_n (pc := 83) (k := 2) C dX0_readWord_83 rfl rfl ?_
          refine tt_icmp_ne (pc := 84) (tgt := 89) C dX0_readWord_84 (by decide) hf (fun hf => ?_) (fun hf => ?_)
          · refine tt_iinc (pc := 89) (k := 2) (v := (v2 + 1)) (L' := [(2, .int (v2 + 1)), (0, .ref (ed 0)), (1, .int v1), (3, .int x3_5)]) C dX0_readWord_89 rfl rfl (by decide) rfl ?_
            refine tt_goto (pc := 92) (tgt := 7) C dX0_readWord_92 (by decide) ?_
            exact tt_locs [1, 2, 0] rfl (ih hf)
          · refine tt_iconst (pc := 87) (v := (1 : Int32)) C dX0_readWord_87 (by decide) ?_
            obtain rfl := Option.some.inj hf
            exact tt_zreturn (pc := 88) C rfl rfl rfl rfl dX0_readWord_88
        · refine tt_iconst (pc := 61) (v := (0 : Int32)) C dX0_readWord_61 (by decide) ?_
          obtain rfl := Option.some.inj hf
          exact tt_zreturn (pc := 62) C rfl rfl rfl rfl dX0_readWord_62
set_option maxHeartbeats 4000000 in
set_option maxRecDepth 100000 in
theorem k_X0_readWord {l : Launch} {D : va_G} {cy : Nat → ClassId} {Bd : Nat} {xa : Xa} {ed : Nat → Nat} {N : Nat} {es : Nat → Int32} {ea : Nat → Nat → Int32} {out : Int32 × (Nat → Int32)} (hf : f_X0_readWord N es ea = some out) : KC l yX0_readWord cX0_readWord 5 (some .boolean) 5 110 false D cy Bd xa [.ref (ed 0)] (eC cy ed es ea) (some (.int out.1)) (eC cy ed out.2 ea) := by
  refine kc_start (own := RX0) (by decide +kernel) rfl (Nat.le_of_ble_eq_true rfl) ?_
  intro p e s m args below meth c A C
  unfold f_X0_readWord at hf
  refine tt_locs (L' := [(0, .ref (ed 0))]) [0] rfl ?_
  refine tt_aload_n (pc := 0) (k := 0) C dX0_readWord_0 rfl rfl ?_
  refine tt_get (pc := 1) (ws := (eC cy ed es ea)) (ci := 0) (v := .int (es 1)) C fiX0 rfl 0 eC_obj 1 (by decide) q1_148 rfl dX0_readWord_1 ?_
  refine tt_istore_n (pc := 4) (L' := [(1, .int (es 1)), (0, .ref (ed 0))]) C dX0_readWord_4 rfl (by decide) rfl ?_
  refine tt_iconst (pc := 5) (v := (1 : Int32)) C dX0_readWord_5 (by decide) ?_
  refine tt_istore_n (pc := 6) (L' := [(2, .int (1 : Int32)), (1, .int (es 1)), (0, .ref (ed 0))]) C dX0_readWord_6 rfl (by decide) rfl ?_
  refine tt_locs (L' := [(0, .ref (ed 0)), (1, .int (es 1)), (2, .int (1 : Int32))]) [2, 1, 0] rfl (l_X0_readWord_7 C (fun t7 hf => ?_) hf)
  refine tt_iconst (pc := 95) (v := (0 : Int32)) C dX0_readWord_95 (by decide) ?_
  obtain rfl := Option.some.inj hf
  exact tt_zreturn (pc := 96) C rfl rfl rfl rfl dX0_readWord_96
theorem dX0_isBetween_0 : decode cX0_isBetween 0 = .ok (.aload_n 0, 1) := by decide +kernel
theorem dX0_isBetween_1 : decode cX0_isBetween 1 = .ok (.getfield 15, 3) := by decide +kernel
theorem dX0_isBetween_4 : decode cX0_isBetween 4 = .ok (.aload_n 0, 1) := by decide +kernel
theorem dX0_isBetween_5 : decode cX0_isBetween 5 = .ok (.getfield 9, 3) := by decide +kernel
theorem dX0_isBetween_8 : decode cX0_isBetween 8 = .ok (.if_icmp .ge 33, 3) := by decide +kernel
theorem dX0_isBetween_11 : decode cX0_isBetween 11 = .ok (.aload_n 0, 1) := by decide +kernel
theorem dX0_isBetween_12 : decode cX0_isBetween 12 = .ok (.getfield 18, 3) := by decide +kernel
theorem dX0_isBetween_15 : decode cX0_isBetween 15 = .ok (.aload_n 0, 1) := by decide +kernel
theorem dX0_isBetween_16 : decode cX0_isBetween 16 = .ok (.getfield 15, 3) := by decide +kernel
theorem dX0_isBetween_19 : decode cX0_isBetween 19 = .ok (.caload, 1) := by decide +kernel
theorem dX0_isBetween_20 : decode cX0_isBetween 20 = .ok (.iload_n 1, 1) := by decide +kernel
theorem dX0_isBetween_21 : decode cX0_isBetween 21 = .ok (.if_icmp .lt 20, 3) := by decide +kernel
theorem dX0_isBetween_24 : decode cX0_isBetween 24 = .ok (.aload_n 0, 1) := by decide +kernel
theorem dX0_isBetween_25 : decode cX0_isBetween 25 = .ok (.getfield 18, 3) := by decide +kernel
theorem dX0_isBetween_28 : decode cX0_isBetween 28 = .ok (.aload_n 0, 1) := by decide +kernel
theorem dX0_isBetween_29 : decode cX0_isBetween 29 = .ok (.getfield 15, 3) := by decide +kernel
theorem dX0_isBetween_32 : decode cX0_isBetween 32 = .ok (.caload, 1) := by decide +kernel
theorem dX0_isBetween_33 : decode cX0_isBetween 33 = .ok (.iload_n 2, 1) := by decide +kernel
theorem dX0_isBetween_34 : decode cX0_isBetween 34 = .ok (.if_icmp .gt 7, 3) := by decide +kernel
theorem dX0_isBetween_37 : decode cX0_isBetween 37 = .ok (.iconst 1, 1) := by decide +kernel
theorem dX0_isBetween_38 : decode cX0_isBetween 38 = .ok (.goto 4, 3) := by decide +kernel
theorem dX0_isBetween_41 : decode cX0_isBetween 41 = .ok (.iconst 0, 1) := by decide +kernel
theorem dX0_isBetween_42 : decode cX0_isBetween 42 = .ok (.ireturn, 1) := by decide +kernel
set_option maxHeartbeats 4000000 in
set_option maxRecDepth 100000 in
theorem k_X0_isBetween {l : Launch} {D : va_G} {cy : Nat → ClassId} {Bd : Nat} {xa : Xa} {ed : Nat → Nat} {N : Nat} {es : Nat → Int32} {ea : Nat → Nat → Int32} {a1 : Int32} {a2 : Int32} {out : Int32} (hf : f_X0_isBetween N es ea a1 a2 = some out) : KC l yX0_isBetween cX0_isBetween 3 (some .boolean) 0 0 true D cy Bd xa [.ref (ed 0), .int a1, .int a2] (eC cy ed es ea) (some (.int out)) (eC cy ed es ea) := by
  refine kc_start (own := RX0) (by decide +kernel) rfl (Nat.le_of_ble_eq_true rfl) ?_
  intro p e s m args below meth c A C
  unfold f_X0_isBetween at hf
  refine tt_locs (L' := [(0, .ref (ed 0)), (1, .int a1), (2, .int a2)]) [0, 1, 2] rfl ?_
  refine tt_aload_n (pc := 0) (k := 0) C dX0_isBetween_0 rfl rfl ?_
  refine tt_get (pc := 1) (ws := (eC cy ed es ea)) (ci := 0) (v := .int (es 1)) C fiX0 rfl 0 eC_obj 1 (by decide) q1_148 rfl dX0_isBetween_1 ?_
  refine tt_aload_n (pc := 4) (k := 0) C dX0_isBetween_4 rfl rfl ?_
  refine tt_get (pc := 5) (ws := (eC cy ed es ea)) (ci := 0) (v := .int (es 0)) C fiX0 rfl 0 eC_obj 0 (by decide) q1_146 rfl dX0_isBetween_5 ?_
  obtain ⟨j1, hj1, hf⟩ := bind_some hf
  have k2 : TT p l e { frames := 0, cells := 0, slots := 0, locals := 0 } s m args below meth c 3 D A true (some (.int out)) (eC cy ed es ea) 42 [] [.int j1] (eC cy ed es ea) := by
    obtain ⟨hz, hf⟩ := zchk hf
    obtain rfl := Option.some.inj hf
    exact tt_zreturn (pc := 42) C rfl hz rfl rfl dX0_isBetween_42
  refine tt_icmp_ge (pc := 8) (tgt := 41) C dX0_isBetween_8 (by decide) hj1 (fun hj1 => ?_) (fun hj1 => ?_)
  · refine tt_iconst (pc := 41) (v := (0 : Int32)) C dX0_isBetween_41 (by decide) ?_
    obtain rfl := Option.some.inj hj1
    exact tt_locs [] rfl k2
  · refine tt_aload_n (pc := 11) (k := 0) C dX0_isBetween_11 rfl rfl ?_
    refine tt_get (pc := 12) (ws := (eC cy ed es ea)) (ci := 0) (v := .ref (ed 2)) C fiX0 rfl 0 eC_obj 2 (by decide) q1_150 rfl dX0_isBetween_12 ?_
    refine tt_aload_n (pc := 15) (k := 0) C dX0_isBetween_15 rfl rfl ?_
    refine tt_get (pc := 16) (ws := (eC cy ed es ea)) (ci := 0) (v := .int (es 1)) C fiX0 rfl 0 eC_obj 1 (by decide) q1_148 rfl dX0_isBetween_16 ?_
    refine tt_caload (pc := 19) (ws := (eC cy ed es ea)) (n := 120) (f := (ea 2)) C 1 2 eC_get2 rfl hj1 dX0_isBetween_19 (fun hj1 => ?_)
    refine tt_iload_n (pc := 20) (k := 1) C dX0_isBetween_20 rfl rfl ?_
    obtain ⟨j3, hj3, hj1⟩ := bind_some hj1
    have k4 : TT p l e { frames := 0, cells := 0, slots := 0, locals := 0 } s m args below meth c 3 D A true (some (.int out)) (eC cy ed es ea) 42 [] [.int j3] (eC cy ed es ea) := by
      obtain rfl := Option.some.inj hj1
      exact tt_locs [] rfl k2
    refine tt_icmp_lt (pc := 21) (tgt := 41) C dX0_isBetween_21 (by decide) hj3 (fun hj3 => ?_) (fun hj3 => ?_)
    · refine tt_iconst (pc := 41) (v := (0 : Int32)) C dX0_isBetween_41 (by decide) ?_
      obtain rfl := Option.some.inj hj3
      exact tt_locs [] rfl k4
    · refine tt_aload_n (pc := 24) (k := 0) C dX0_isBetween_24 rfl rfl ?_
      refine tt_get (pc := 25) (ws := (eC cy ed es ea)) (ci := 0) (v := .ref (ed 2)) C fiX0 rfl 0 eC_obj 2 (by decide) q1_150 rfl dX0_isBetween_25 ?_
      refine tt_aload_n (pc := 28) (k := 0) C dX0_isBetween_28 rfl rfl ?_
      refine tt_get (pc := 29) (ws := (eC cy ed es ea)) (ci := 0) (v := .int (es 1)) C fiX0 rfl 0 eC_obj 1 (by decide) q1_148 rfl dX0_isBetween_29 ?_
      refine tt_caload (pc := 32) (ws := (eC cy ed es ea)) (n := 120) (f := (ea 2)) C 1 2 eC_get2 rfl hj3 dX0_isBetween_32 (fun hj3 => ?_)
      refine tt_iload_n (pc := 33) (k := 2) C dX0_isBetween_33 rfl rfl ?_
      have k6 : TT p l e { frames := 0, cells := 0, slots := 0, locals := 0 } s m args below meth c 3 D A true (some (.int out)) (eC cy ed es ea) 42 [] [.int (if a2 < ((ea 2) (ix (es 1))) then (0 : Int32) else (1 : Int32))] (eC cy ed es ea) := by
        obtain rfl := Option.some.inj hj3
        exact tt_locs [] rfl k4
      refine tr_icmp_gt (pc := 34) (tgt := 41) C dX0_isBetween_34 (by decide) (fun c5 => ?_) (fun c5 => ?_)
      · refine tt_iconst (pc := 41) (v := (0 : Int32)) C dX0_isBetween_41 (by decide) ?_
        try simp only [if_pos c5] at k6 ⊢
        exact tt_locs [] rfl k6
      · refine tt_iconst (pc := 37) (v := (1 : Int32)) C dX0_isBetween_37 (by decide) ?_
        refine tt_goto (pc := 38) (tgt := 42) C dX0_isBetween_38 (by decide) ?_
        try simp only [if_neg c5] at k6 ⊢
        exact tt_locs [] rfl k6
theorem dX0_readSign_0 : decode cX0_readSign 0 = .ok (.aload_n 0, 1) := by decide +kernel
theorem dX0_readSign_1 : decode cX0_readSign 1 = .ok (.iload_n 1, 1) := by decide +kernel
theorem dX0_readSign_2 : decode cX0_readSign 2 = .ok (.iload_n 1, 1) := by decide +kernel
theorem dX0_readSign_3 : decode cX0_readSign 3 = .ok (.invokevirtual 91, 3) := by decide +kernel
theorem dX0_readSign_6 : decode cX0_readSign 6 = .ok (.ifCond .ne 5, 3) := by decide +kernel
theorem dX0_readSign_9 : decode cX0_readSign 9 = .ok (.iconst 0, 1) := by decide +kernel
theorem dX0_readSign_10 : decode cX0_readSign 10 = .ok (.ireturn, 1) := by decide +kernel
theorem dX0_readSign_11 : decode cX0_readSign 11 = .ok (.aload_n 0, 1) := by decide +kernel
theorem dX0_readSign_12 : decode cX0_readSign 12 = .ok (.dup, 1) := by decide +kernel
theorem dX0_readSign_13 : decode cX0_readSign 13 = .ok (.getfield 15, 3) := by decide +kernel
theorem dX0_readSign_16 : decode cX0_readSign 16 = .ok (.iconst 1, 1) := by decide +kernel
theorem dX0_readSign_17 : decode cX0_readSign 17 = .ok (.iadd, 1) := by decide +kernel
theorem dX0_readSign_18 : decode cX0_readSign 18 = .ok (.putfield 15, 3) := by decide +kernel
theorem dX0_readSign_21 : decode cX0_readSign 21 = .ok (.iconst 1, 1) := by decide +kernel
theorem dX0_readSign_22 : decode cX0_readSign 22 = .ok (.ireturn, 1) := by decide +kernel
set_option maxHeartbeats 4000000 in
set_option maxRecDepth 100000 in
theorem k_X0_readSign {l : Launch} {D : va_G} {cy : Nat → ClassId} {Bd : Nat} {xa : Xa} {ed : Nat → Nat} {N : Nat} {es : Nat → Int32} {ea : Nat → Nat → Int32} {a1 : Int32} {out : Int32 × (Nat → Int32)} (hf : f_X0_readSign N es ea a1 = some out) : KC l yX0_readSign cX0_readSign 2 (some .boolean) 1 22 false D cy Bd xa [.ref (ed 0), .int a1] (eC cy ed es ea) (some (.int out.1)) (eC cy ed out.2 ea) := by
  refine kc_start (own := RX0) (by decide +kernel) rfl (Nat.le_of_ble_eq_true rfl) ?_
  intro p e s m args below meth c A C
  unfold f_X0_readSign at hf
  refine tt_locs (L' := [(0, .ref (ed 0)), (1, .int a1)]) [0, 1] rfl ?_
  refine tt_aload_n (pc := 0) (k := 0) C dX0_readSign_0 rfl rfl ?_
  refine tt_iload_n (pc := 1) (k := 1) C dX0_readSign_1 rfl rfl ?_
  refine tt_iload_n (pc := 2) (k := 1) C dX0_readSign_2 rfl rfl ?_
  obtain ⟨r1, hr1, hf⟩ := bind_some hf
  refine tt_callR (pc := 3) (ws := (eC cy ed es ea)) (q0 := 0) (ci := 0) (rest := []) (st' := [.int r1]) C (k_X0_isBetween hr1) okX0_isBetween q2_117 rfl eC_obj (fun _ h => h) rfl rfl rfl (Nat.le_of_ble_eq_true rfl) ⟨Nat.le_of_ble_eq_true rfl, Nat.le_of_ble_eq_true rfl⟩ dX0_readSign_3 ?_
  refine tt_if_ne (pc := 6) (tgt := 11) C dX0_readSign_6 (by decide) hf (fun hf => ?_) (fun hf => ?_)
  · refine tt_aload_n (pc := 11) (k := 0) C dX0_readSign_11 rfl rfl ?_
    refine tt_dup (pc := 12) C dX0_readSign_12 rfl ?_
    refine tt_get (pc := 13) (ws := (eC cy ed es ea)) (ci := 0) (v := .int (es 1)) C fiX0 rfl 0 eC_obj 1 (by decide) q1_148 rfl dX0_readSign_13 ?_
    refine tt_iconst (pc := 16) (v := (1 : Int32)) C dX0_readSign_16 (by decide) ?_
    refine tt_iadd (pc := 17) C dX0_readSign_17 ?_
    refine tt_put (pc := 18) (ws := (eC cy ed es ea)) (ci := 0) (ty := .int) (ws' := (eC cy ed (upd es 1 ((es 1) + (1 : Int32))) ea)) C rfl fiX0 rfl 0 eC_obj 1 (by decide) q1_148 rfl rfl rfl rfl (Nat.le_of_ble_eq_true rfl) dX0_readSign_18 eC_put1 ?_
    refine tt_iconst (pc := 21) (v := (1 : Int32)) C dX0_readSign_21 (by decide) ?_
    obtain rfl := Option.some.inj hf
    exact tt_zreturn (pc := 22) C rfl rfl rfl rfl dX0_readSign_22
  · refine tt_iconst (pc := 9) (v := (0 : Int32)) C dX0_readSign_9 (by decide) ?_
    obtain rfl := Option.some.inj hf
    exact tt_zreturn (pc := 10) C rfl rfl rfl rfl dX0_readSign_10
theorem dX0_readNumber_0 : decode cX0_readNumber 0 = .ok (.aload_n 0, 1) := by decide +kernel
theorem dX0_readNumber_1 : decode cX0_readNumber 1 = .ok (.bipush 32, 2) := by decide +kernel
theorem dX0_readNumber_3 : decode cX0_readNumber 3 = .ok (.invokevirtual 55, 3) := by decide +kernel
theorem dX0_readNumber_6 : decode cX0_readNumber 6 = .ok (.ifCond .eq 14, 3) := by decide +kernel
theorem dX0_readNumber_9 : decode cX0_readNumber 9 = .ok (.aload_n 0, 1) := by decide +kernel
theorem dX0_readNumber_10 : decode cX0_readNumber 10 = .ok (.bipush 48, 2) := by decide +kernel
theorem dX0_readNumber_12 : decode cX0_readNumber 12 = .ok (.bipush 57, 2) := by decide +kernel
theorem dX0_readNumber_14 : decode cX0_readNumber 14 = .ok (.invokevirtual 91, 3) := by decide +kernel
theorem dX0_readNumber_17 : decode cX0_readNumber 17 = .ok (.ifCond .ne 5, 3) := by decide +kernel
theorem dX0_readNumber_20 : decode cX0_readNumber 20 = .ok (.iconst 0, 1) := by decide +kernel
theorem dX0_readNumber_21 : decode cX0_readNumber 21 = .ok (.ireturn, 1) := by decide +kernel
theorem dX0_readNumber_22 : decode cX0_readNumber 22 = .ok (.aload_n 0, 1) := by decide +kernel
theorem dX0_readNumber_23 : decode cX0_readNumber 23 = .ok (.getfield 18, 3) := by decide +kernel
theorem dX0_readNumber_26 : decode cX0_readNumber 26 = .ok (.aload_n 0, 1) := by decide +kernel
theorem dX0_readNumber_27 : decode cX0_readNumber 27 = .ok (.getfield 15, 3) := by decide +kernel
theorem dX0_readNumber_30 : decode cX0_readNumber 30 = .ok (.caload, 1) := by decide +kernel
theorem dX0_readNumber_31 : decode cX0_readNumber 31 = .ok (.bipush 48, 2) := by decide +kernel
theorem dX0_readNumber_33 : decode cX0_readNumber 33 = .ok (.isub, 1) := by decide +kernel
theorem dX0_readNumber_34 : decode cX0_readNumber 34 = .ok (.istore_n 2, 1) := by decide +kernel
theorem dX0_readNumber_35 : decode cX0_readNumber 35 = .ok (.aload_n 0, 1) := by decide +kernel
theorem dX0_readNumber_36 : decode cX0_readNumber 36 = .ok (.dup, 1) := by decide +kernel
theorem dX0_readNumber_37 : decode cX0_readNumber 37 = .ok (.getfield 15, 3) := by decide +kernel
theorem dX0_readNumber_40 : decode cX0_readNumber 40 = .ok (.iconst 1, 1) := by decide +kernel
theorem dX0_readNumber_41 : decode cX0_readNumber 41 = .ok (.iadd, 1) := by decide +kernel
theorem dX0_readNumber_42 : decode cX0_readNumber 42 = .ok (.putfield 15, 3) := by decide +kernel
theorem dX0_readNumber_45 : decode cX0_readNumber 45 = .ok (.aload_n 0, 1) := by decide +kernel
theorem dX0_readNumber_46 : decode cX0_readNumber 46 = .ok (.bipush 48, 2) := by decide +kernel
theorem dX0_readNumber_48 : decode cX0_readNumber 48 = .ok (.bipush 57, 2) := by decide +kernel
theorem dX0_readNumber_50 : decode cX0_readNumber 50 = .ok (.invokevirtual 91, 3) := by decide +kernel
theorem dX0_readNumber_53 : decode cX0_readNumber 53 = .ok (.ifCond .eq 31, 3) := by decide +kernel
theorem dX0_readNumber_56 : decode cX0_readNumber 56 = .ok (.bipush 10, 2) := by decide +kernel
theorem dX0_readNumber_58 : decode cX0_readNumber 58 = .ok (.iload_n 2, 1) := by decide +kernel
theorem dX0_readNumber_59 : decode cX0_readNumber 59 = .ok (.imul, 1) := by decide +kernel
theorem dX0_readNumber_60 : decode cX0_readNumber 60 = .ok (.aload_n 0, 1) := by decide +kernel
theorem dX0_readNumber_61 : decode cX0_readNumber 61 = .ok (.getfield 18, 3) := by decide +kernel
theorem dX0_readNumber_64 : decode cX0_readNumber 64 = .ok (.aload_n 0, 1) := by decide +kernel
theorem dX0_readNumber_65 : decode cX0_readNumber 65 = .ok (.getfield 15, 3) := by decide +kernel
theorem dX0_readNumber_68 : decode cX0_readNumber 68 = .ok (.caload, 1) := by decide +kernel
theorem dX0_readNumber_69 : decode cX0_readNumber 69 = .ok (.iadd, 1) := by decide +kernel
theorem dX0_readNumber_70 : decode cX0_readNumber 70 = .ok (.bipush 48, 2) := by decide +kernel
theorem dX0_readNumber_72 : decode cX0_readNumber 72 = .ok (.isub, 1) := by decide +kernel
theorem dX0_readNumber_73 : decode cX0_readNumber 73 = .ok (.istore_n 2, 1) := by decide +kernel
theorem dX0_readNumber_74 : decode cX0_readNumber 74 = .ok (.aload_n 0, 1) := by decide +kernel
theorem dX0_readNumber_75 : decode cX0_readNumber 75 = .ok (.dup, 1) := by decide +kernel
theorem dX0_readNumber_76 : decode cX0_readNumber 76 = .ok (.getfield 15, 3) := by decide +kernel
theorem dX0_readNumber_79 : decode cX0_readNumber 79 = .ok (.iconst 1, 1) := by decide +kernel
theorem dX0_readNumber_80 : decode cX0_readNumber 80 = .ok (.iadd, 1) := by decide +kernel
theorem dX0_readNumber_81 : decode cX0_readNumber 81 = .ok (.putfield 15, 3) := by decide +kernel
theorem dX0_readNumber_84 : decode cX0_readNumber 84 = .ok (.aload_n 0, 1) := by decide +kernel
theorem dX0_readNumber_85 : decode cX0_readNumber 85 = .ok (.getfield 31, 3) := by decide +kernel
theorem dX0_readNumber_88 : decode cX0_readNumber 88 = .ok (.iload_n 1, 1) := by decide +kernel
theorem dX0_readNumber_89 : decode cX0_readNumber 89 = .ok (.iload_n 2, 1) := by decide +kernel
theorem dX0_readNumber_90 : decode cX0_readNumber 90 = .ok (.iastore, 1) := by decide +kernel
theorem dX0_readNumber_91 : decode cX0_readNumber 91 = .ok (.iconst 1, 1) := by decide +kernel
theorem dX0_readNumber_92 : decode cX0_readNumber 92 = .ok (.ireturn, 1) := by decide +kernel
set_option maxHeartbeats 4000000 in
set_option maxRecDepth 100000 in
theorem k_X0_readNumber {l : Launch} {D : va_G} {cy : Nat → ClassId} {Bd : Nat} {xa : Xa} {ed : Nat → Nat} {N : Nat} {es : Nat → Int32} {ea : Nat → Nat → Int32} {a1 : Int32} {out : Int32 × (Nat → Int32) × (Nat → Nat → Int32)} (hf : f_X0_readNumber N es ea a1 = some out) : KC l yX0_readNumber cX0_readNumber 3 (some .boolean) 2 43 false D cy Bd xa [.ref (ed 0), .int a1] (eC cy ed es ea) (some (.int out.1)) (eC cy ed out.2.1 out.2.2) := by
  refine kc_start (own := RX0) (by decide +kernel) rfl (Nat.le_of_ble_eq_true rfl) ?_
  intro p e s m args below meth c A C
  unfold f_X0_readNumber at hf
  refine tt_locs (L' := [(0, .ref (ed 0)), (1, .int a1)]) [0, 1] rfl ?_
  refine tt_aload_n (pc := 0) (k := 0) C dX0_readNumber_0 rfl rfl ?_
  refine tt_bipush (pc := 1) (v := (32 : Int32)) C dX0_readNumber_1 (by decide) ?_
  obtain ⟨r1, hr1, hf⟩ := bind_some hf
  refine tt_callM (pc := 3) (ws := (eC cy ed es ea)) (q0 := 0) (ci := 0) (rest := []) (st' := [.int r1.1]) C rfl (k_X0_readSign hr1) okX0_readSign q2_113 rfl eC_obj rfl rfl rfl (Nat.le_of_ble_eq_true rfl) ⟨Nat.le_of_ble_eq_true rfl, Nat.le_of_ble_eq_true rfl⟩ dX0_readNumber_3 ?_
  refine tt_if_eq (pc := 6) (tgt := 20) C dX0_readNumber_6 (by decide) hf (fun hf => ?_) (fun hf => ?_)
  · refine tt_iconst (pc := 20) (v := (0 : Int32)) C dX0_readNumber_20 (by decide) ?_
    obtain rfl := Option.some.inj hf
    exact tt_zreturn (pc := 21) C rfl rfl rfl rfl dX0_readNumber_21
  · refine tt_aload_n (pc := 9) (k := 0) C dX0_readNumber_9 rfl rfl ?_
    refine tt_bipush (pc := 10) (v := (48 : Int32)) C dX0_readNumber_10 (by decide) ?_
    refine tt_bipush (pc := 12) (v := (57 : Int32)) C dX0_readNumber_12 (by decide) ?_
    obtain ⟨r2, hr2, hf⟩ := bind_some hf
    refine tt_callR (pc := 14) (ws := (eC cy ed r1.2 ea)) (q0 := 0) (ci := 0) (rest := []) (st' := [.int r2]) C (k_X0_isBetween hr2) okX0_isBetween q2_117 rfl eC_obj (fun _ h => h) rfl rfl rfl (Nat.le_of_ble_eq_true rfl) ⟨Nat.le_of_ble_eq_true rfl, Nat.le_of_ble_eq_true rfl⟩ dX0_readNumber_14 ?_
    refine tt_if_ne (pc := 17) (tgt := 22) C dX0_readNumber_17 (by decide) hf (fun hf => ?_) (fun hf => ?_)
    · refine tt_aload_n (pc := 22) (k := 0) C dX0_readNumber_22 rfl rfl ?_
      refine tt_get (pc := 23) (ws := (eC cy ed r1.2 ea)) (ci := 0) (v := .ref (ed 2)) C fiX0 rfl 0 eC_obj 2 (by decide) q1_150 rfl dX0_readNumber_23 ?_
      refine tt_aload_n (pc := 26) (k := 0) C dX0_readNumber_26 rfl rfl ?_
      refine tt_get (pc := 27) (ws := (eC cy ed r1.2 ea)) (ci := 0) (v := .int (r1.2 1)) C fiX0 rfl 0 eC_obj 1 (by decide) q1_148 rfl dX0_readNumber_27 ?_
      refine tt_caload (pc := 30) (ws := (eC cy ed r1.2 ea)) (n := 120) (f := (ea 2)) C 1 2 eC_get2 rfl hf dX0_readNumber_30 (fun hf => ?_)
      refine tt_bipush (pc := 31) (v := (48 : Int32)) C dX0_readNumber_31 (by decide) ?_
      refine tt_isub (pc := 33) C dX0_readNumber_33 ?_
      refine tt_istore_n (pc := 34) (L' := [(2, .int (((ea 2) (ix (r1.2 1))) - (48 : Int32))), (0, .ref (ed 0)), (1, .int a1)]) C dX0_readNumber_34 rfl (by decide) rfl ?_
      refine tt_aload_n (pc := 35) (k := 1) C dX0_readNumber_35 rfl rfl ?_
      refine tt_dup (pc := 36) C dX0_readNumber_36 rfl ?_
      refine tt_get (pc := 37) (ws := (eC cy ed r1.2 ea)) (ci := 0) (v := .int (r1.2 1)) C fiX0 rfl 0 eC_obj 1 (by decide) q1_148 rfl dX0_readNumber_37 ?_
      refine tt_iconst (pc := 40) (v := (1 : Int32)) C dX0_readNumber_40 (by decide) ?_
      refine tt_iadd (pc := 41) C dX0_readNumber_41 ?_
      refine tt_put (pc := 42) (ws := (eC cy ed r1.2 ea)) (ci := 0) (ty := .int) (ws' := (eC cy ed (upd r1.2 1 ((r1.2 1) + (1 : Int32))) ea)) C rfl fiX0 rfl 0 eC_obj 1 (by decide) q1_148 rfl rfl rfl rfl (Nat.le_of_ble_eq_true rfl) dX0_readNumber_42 eC_put1 ?_
      refine tt_aload_n (pc := 45) (k := 1) C dX0_readNumber_45 rfl rfl ?_
      refine tt_bipush (pc := 46) (v := (48 : Int32)) C dX0_readNumber_46 (by decide) ?_
      refine tt_bipush (pc := 48) (v := (57 : Int32)) C dX0_readNumber_48 (by decide) ?_
      obtain ⟨r3, hr3, hf⟩ := bind_some hf
      refine tt_callR (pc := 50) (ws := (eC cy ed (upd r1.2 1 ((r1.2 1) + (1 : Int32))) ea)) (q0 := 0) (ci := 0) (rest := []) (st' := [.int r3]) C (k_X0_isBetween hr3) okX0_isBetween q2_117 rfl eC_obj (fun _ h => h) rfl rfl rfl (Nat.le_of_ble_eq_true rfl) ⟨Nat.le_of_ble_eq_true rfl, Nat.le_of_ble_eq_true rfl⟩ dX0_readNumber_50 ?_
      obtain ⟨j4, hj4, hf⟩ := bind_some hf
      have k5 : TT p l e { frames := 2, cells := 0, slots := 0, locals := 43 } s m args below meth c 3 D A false (some (.int out.1)) (eC cy ed out.2.1 out.2.2) 84 [(0, .ref (ed 0)), (1, .int a1), (2, .int j4.1)] [] (eC cy ed j4.2 ea) := by
        refine tt_aload_n (pc := 84) (k := 0) C dX0_readNumber_84 rfl rfl ?_
        refine tt_get (pc := 85) (ws := (eC cy ed j4.2 ea)) (ci := 0) (v := .ref (ed 6)) C fiX0 rfl 0 eC_obj 6 (by decide) q1_154 rfl dX0_readNumber_85 ?_
        refine tt_iload_n (pc := 88) (k := 1) C dX0_readNumber_88 rfl rfl ?_
        refine tt_iload_n (pc := 89) (k := 2) C dX0_readNumber_89 rfl rfl ?_
        refine tt_iastore (pc := 90) (ws := (eC cy ed j4.2 ea)) (n := 4) (f := (ea 6)) (ws' := (eC cy ed j4.2 (va_up ea 6 (upd (ea 6) (ix a1) j4.1)))) C rfl 2 0 eC_get6 rfl hf dX0_readNumber_90 eC_set6 (fun hf => ?_)
        refine tt_iconst (pc := 91) (v := (1 : Int32)) C dX0_readNumber_91 (by decide) ?_
        obtain rfl := Option.some.inj hf
        exact tt_zreturn (pc := 92) C rfl rfl rfl rfl dX0_readNumber_92
      refine tt_if_eq (pc := 53) (tgt := 84) C dX0_readNumber_53 (by decide) hj4 (fun hj4 => ?_) (fun hj4 => ?_)
      · obtain rfl := Option.some.inj hj4
        exact tt_locs [1, 2, 0] rfl k5
      · refine tt_bipush (pc := 56) (v := (10 : Int32)) C dX0_readNumber_56 (by decide) ?_
        refine tt_iload_n (pc := 58) (k := 0) C dX0_readNumber_58 rfl rfl ?_
        refine tt_imul (pc := 59) C dX0_readNumber_59 ?_
        refine tt_aload_n (pc := 60) (k := 1) C dX0_readNumber_60 rfl rfl ?_
        refine tt_get (pc := 61) (ws := (eC cy ed (upd r1.2 1 ((r1.2 1) + (1 : Int32))) ea)) (ci := 0) (v := .ref (ed 2)) C fiX0 rfl 0 eC_obj 2 (by decide) q1_150 rfl dX0_readNumber_61 ?_
        refine tt_aload_n (pc := 64) (k := 1) C dX0_readNumber_64 rfl rfl ?_
        refine tt_get (pc := 65) (ws := (eC cy ed (upd r1.2 1 ((r1.2 1) + (1 : Int32))) ea)) (ci := 0) (v := .int ((r1.2 1) + (1 : Int32))) C fiX0 rfl 0 eC_obj 1 (by decide) q1_148 rfl dX0_readNumber_65 ?_
        refine tt_caload (pc := 68) (ws := (eC cy ed (upd r1.2 1 ((r1.2 1) + (1 : Int32))) ea)) (n := 120) (f := (ea 2)) C 1 2 eC_get2 rfl hj4 dX0_readNumber_68 (fun hj4 => ?_)
        refine tt_iadd (pc := 69) C dX0_readNumber_69 ?_
        refine tt_bipush (pc := 70) (v := (48 : Int32)) C dX0_readNumber_70 (by decide) ?_
        refine tt_isub (pc := 72) C dX0_readNumber_72 ?_
        refine tt_istore_n (pc := 73) (L' := [(2, .int ((((10 : Int32) * (((ea 2) (ix (r1.2 1))) - (48 : Int32))) + ((ea 2) (ix ((r1.2 1) + (1 : Int32))))) - (48 : Int32))), (0, .ref (ed 0)), (1, .int a1)]) C dX0_readNumber_73 rfl (by decide) rfl ?_
        refine tt_aload_n (pc := 74) (k := 1) C dX0_readNumber_74 rfl rfl ?_
        refine tt_dup (pc := 75) C dX0_readNumber_75 rfl ?_
        refine tt_get (pc := 76) (ws := (eC cy ed (upd r1.2 1 ((r1.2 1) + (1 : Int32))) ea)) (ci := 0) (v := .int ((r1.2 1) + (1 : Int32))) C fiX0 rfl 0 eC_obj 1 (by decide) q1_148 rfl dX0_readNumber_76 ?_
        refine tt_iconst (pc := 79) (v := (1 : Int32)) C dX0_readNumber_79 (by decide) ?_
        refine tt_iadd (pc := 80) C dX0_readNumber_80 ?_
        refine tt_put (pc := 81) (ws := (eC cy ed (upd r1.2 1 ((r1.2 1) + (1 : Int32))) ea)) (ci := 0) (ty := .int) (ws' := (eC cy ed (upd (upd r1.2 1 ((r1.2 1) + (1 : Int32))) 1 (((r1.2 1) + (1 : Int32)) + (1 : Int32))) ea)) C rfl fiX0 rfl 0 eC_obj 1 (by decide) q1_148 rfl rfl rfl rfl (Nat.le_of_ble_eq_true rfl) dX0_readNumber_81 eC_put1 ?_
        obtain rfl := Option.some.inj hj4
        exact tt_locs [1, 2, 0] rfl k5
    · refine tt_iconst (pc := 20) (v := (0 : Int32)) C dX0_readNumber_20 (by decide) ?_
      obtain rfl := Option.some.inj hf
      exact tt_zreturn (pc := 21) C rfl rfl rfl rfl dX0_readNumber_21
theorem dX0_readName_0 : decode cX0_readName 0 = .ok (.aload_n 0, 1) := by decide +kernel
theorem dX0_readName_1 : decode cX0_readName 1 = .ok (.bipush 32, 2) := by decide +kernel
theorem dX0_readName_3 : decode cX0_readName 3 = .ok (.invokevirtual 55, 3) := by decide +kernel
theorem dX0_readName_6 : decode cX0_readName 6 = .ok (.ifCond .ne 5, 3) := by decide +kernel
theorem dX0_readName_9 : decode cX0_readName 9 = .ok (.iconst 0, 1) := by decide +kernel
theorem dX0_readName_10 : decode cX0_readName 10 = .ok (.ireturn, 1) := by decide +kernel
theorem dX0_readName_11 : decode cX0_readName 11 = .ok (.aload_n 0, 1) := by decide +kernel
theorem dX0_readName_12 : decode cX0_readName 12 = .ok (.aload_n 0, 1) := by decide +kernel
theorem dX0_readName_13 : decode cX0_readName 13 = .ok (.getfield 15, 3) := by decide +kernel
theorem dX0_readName_16 : decode cX0_readName 16 = .ok (.putfield 25, 3) := by decide +kernel
theorem dX0_readName_19 : decode cX0_readName 19 = .ok (.iconst 0, 1) := by decide +kernel
theorem dX0_readName_20 : decode cX0_readName 20 = .ok (.istore_n 1, 1) := by decide +kernel
theorem dX0_readName_21 : decode cX0_readName 21 = .ok (.iload_n 1, 1) := by decide +kernel
theorem dX0_readName_22 : decode cX0_readName 22 = .ok (.bipush 7, 2) := by decide +kernel
theorem dX0_readName_24 : decode cX0_readName 24 = .ok (.if_icmp .ge 30, 3) := by decide +kernel
theorem dX0_readName_27 : decode cX0_readName 27 = .ok (.aload_n 0, 1) := by decide +kernel
theorem dX0_readName_28 : decode cX0_readName 28 = .ok (.bipush 97, 2) := by decide +kernel
theorem dX0_readName_30 : decode cX0_readName 30 = .ok (.bipush 122, 2) := by decide +kernel
theorem dX0_readName_32 : decode cX0_readName 32 = .ok (.invokevirtual 91, 3) := by decide +kernel
theorem dX0_readName_35 : decode cX0_readName 35 = .ok (.ifCond .eq 19, 3) := by decide +kernel
theorem dX0_readName_38 : decode cX0_readName 38 = .ok (.aload_n 0, 1) := by decide +kernel
theorem dX0_readName_39 : decode cX0_readName 39 = .ok (.dup, 1) := by decide +kernel
theorem dX0_readName_40 : decode cX0_readName 40 = .ok (.getfield 15, 3) := by decide +kernel
theorem dX0_readName_43 : decode cX0_readName 43 = .ok (.iconst 1, 1) := by decide +kernel
theorem dX0_readName_44 : decode cX0_readName 44 = .ok (.iadd, 1) := by decide +kernel
theorem dX0_readName_45 : decode cX0_readName 45 = .ok (.putfield 15, 3) := by decide +kernel
theorem dX0_readName_48 : decode cX0_readName 48 = .ok (.iinc 1 1, 3) := by decide +kernel
theorem dX0_readName_51 : decode cX0_readName 51 = .ok (.goto (-30), 3) := by decide +kernel
theorem dX0_readName_54 : decode cX0_readName 54 = .ok (.aload_n 0, 1) := by decide +kernel
theorem dX0_readName_55 : decode cX0_readName 55 = .ok (.aload_n 0, 1) := by decide +kernel
theorem dX0_readName_56 : decode cX0_readName 56 = .ok (.getfield 15, 3) := by decide +kernel
theorem dX0_readName_59 : decode cX0_readName 59 = .ok (.aload_n 0, 1) := by decide +kernel
theorem dX0_readName_60 : decode cX0_readName 60 = .ok (.getfield 25, 3) := by decide +kernel
theorem dX0_readName_63 : decode cX0_readName 63 = .ok (.isub, 1) := by decide +kernel
theorem dX0_readName_64 : decode cX0_readName 64 = .ok (.putfield 28, 3) := by decide +kernel
theorem dX0_readName_67 : decode cX0_readName 67 = .ok (.aload_n 0, 1) := by decide +kernel
theorem dX0_readName_68 : decode cX0_readName 68 = .ok (.getfield 28, 3) := by decide +kernel
theorem dX0_readName_71 : decode cX0_readName 71 = .ok (.ifCond .le 7, 3) := by decide +kernel
theorem dX0_readName_74 : decode cX0_readName 74 = .ok (.iconst 1, 1) := by decide +kernel
theorem dX0_readName_75 : decode cX0_readName 75 = .ok (.goto 4, 3) := by decide +kernel
theorem dX0_readName_78 : decode cX0_readName 78 = .ok (.iconst 0, 1) := by decide +kernel
theorem dX0_readName_79 : decode cX0_readName 79 = .ok (.ireturn, 1) := by decide +kernel
set_option maxHeartbeats 4000000 in
set_option maxRecDepth 100000 in
theorem l_X0_readName_21 {p : Program} {l : Launch} {e : Env} {s : State} {m : MethodId} {args : Array Value} {below : List Frame} {meth : Method} {c : Code} {D : va_G} {cy : Nat → ClassId} {A : Nat → Prop} {Bd : Nat} {xa : Xa} {ed : Nat → Nat} {β : Type} {vO : Option Value} {wO : va_W} {N : Nat} {ea : Nat → Nat → Int32} {kx : (Nat → Int32) → Option (β)} {out : β} (C : CC p s m args meth c cX0_readName RX0 2 (some .boolean) D cy A false Bd xa) (hk : ∀ (es1 : Nat → Int32), kx es1 = some out → TT p l e { frames := 2, cells := 0, slots := 0, locals := 43 } s m args below meth c 2 D A false vO wO 54 [(0, .ref (ed 0))] [] (eC cy ed es1 ea)) {n : Nat} {v1 : Int32} {es : Nat → Int32} (hf : f_X0_readName_L21 N ea kx n v1 es = some out) : TT p l e { frames := 2, cells := 0, slots := 0, locals := 43 } s m args below meth c 2 D A false vO wO 21 [(0, .ref (ed 0)), (1, .int v1)] [] (eC cy ed es ea) := by
  induction n generalizing v1 es with
  | zero => cases hf
  | succ n ih =>
    rw [f_X0_readName_L21] at hf
    refine tt_iload_n (pc := 21) (k := 1) C dX0_readName_21 rfl rfl ?_
    refine tt_bipush (pc := 22) (v := (7 : Int32)) C dX0_readName_22 (by decide) ?_
    refine tt_icmp_ge (pc := 24) (tgt := 54) C dX0_readName_24 (by decide) hf (fun hf => ?_) (fun hf => ?_)
    · exact tt_locs [0] rfl (hk _ hf)
    · refine tt_aload_n (pc := 27) (k := 0) C dX0_readName_27 rfl rfl ?_
      refine tt_bipush (pc := 28) (v := (97 : Int32)) C dX0_readName_28 (by decide) ?_
      refine tt_bipush (pc := 30) (v := (122 : Int32)) C dX0_readName_30 (by decide) ?_
      obtain ⟨r2, hr2, hf⟩ := bind_some hf
      refine tt_callR (pc := 32) (ws := (eC cy ed es ea)) (q0 := 0) (ci := 0) (rest := []) (st' := [.int r2]) C (k_X0_isBetween hr2) okX0_isBetween q2_117 rfl eC_obj (fun _ h => h) rfl rfl rfl (Nat.le_of_ble_eq_true rfl) ⟨Nat.le_of_ble_eq_true rfl, Nat.le_of_ble_eq_true rfl⟩ dX0_readName_32 ?_
      refine tt_if_eq (pc := 35) (tgt := 54) C dX0_readName_35 (by decide) hf (fun hf => ?_) (fun hf => ?_)
      · exact tt_locs [0] rfl (hk _ hf)
      · refine tt_aload_n (pc := 38) (k := 0) C dX0_readName_38 rfl rfl ?_
        refine tt_dup (pc := 39) C dX0_readName_39 rfl ?_
        refine tt_get (pc := 40) (ws := (eC cy ed es ea)) (ci := 0) (v := .int (es 1)) C fiX0 rfl 0 eC_obj 1 (by decide) q1_148 rfl dX0_readName_40 ?_
        refine tt_iconst (pc := 43) (v := (1 : Int32)) C dX0_readName_43 (by decide) ?_
        refine tt_iadd (pc := 44) C dX0_readName_44 ?_
        refine tt_put (pc := 45) (ws := (eC cy ed es ea)) (ci := 0) (ty := .int) (ws' := (eC cy ed (upd es 1 ((es 1) + (1 : Int32))) ea)) C rfl fiX0 rfl 0 eC_obj 1 (by decide) q1_148 rfl rfl rfl rfl (Nat.le_of_ble_eq_true rfl) dX0_readName_45 eC_put1 ?_
        refine tt_iinc (pc := 48) (k := 1) (v := (v1 + 1)) (L' := [(1, .int (v1 + 1)), (0, .ref (ed 0))]) C dX0_readName_48 rfl rfl (by decide) rfl ?_
        refine tt_goto (pc := 51) (tgt := 21) C dX0_readName_51 (by decide) ?_
        exact tt_locs [1, 0] rfl (ih hf)
set_option maxHeartbeats 4000000 in
set_option maxRecDepth 100000 in
theorem k_X0_readName {l : Launch} {D : va_G} {cy : Nat → ClassId} {Bd : Nat} {xa : Xa} {ed : Nat → Nat} {N : Nat} {es : Nat → Int32} {ea : Nat → Nat → Int32} {out : Int32 × (Nat → Int32)} (hf : f_X0_readName N es ea = some out) : KC l yX0_readName cX0_readName 2 (some .boolean) 2 43 false D cy Bd xa [.ref (ed 0)] (eC cy ed es ea) (some (.int out.1)) (eC cy ed out.2 ea) := by
  refine kc_start (own := RX0) (by decide +kernel) rfl (Nat.le_of_ble_eq_true rfl) ?_
  intro p e s m args below meth c A C
  unfold f_X0_readName at hf
  refine tt_locs (L' := [(0, .ref (ed 0))]) [0] rfl ?_
  refine tt_aload_n (pc := 0) (k := 0) C dX0_readName_0 rfl rfl ?_
  refine tt_bipush (pc := 1) (v := (32 : Int32)) C dX0_readName_1 (by decide) ?_
  obtain ⟨r1, hr1, hf⟩ := bind_some hf
  refine tt_callM (pc := 3) (ws := (eC cy ed es ea)) (q0 := 0) (ci := 0) (rest := []) (st' := [.int r1.1]) C rfl (k_X0_readSign hr1) okX0_readSign q2_113 rfl eC_obj rfl rfl rfl (Nat.le_of_ble_eq_true rfl) ⟨Nat.le_of_ble_eq_true rfl, Nat.le_of_ble_eq_true rfl⟩ dX0_readName_3 ?_
  refine tt_if_ne (pc := 6) (tgt := 11) C dX0_readName_6 (by decide) hf (fun hf => ?_) (fun hf => ?_)
  · refine tt_aload_n (pc := 11) (k := 0) C dX0_readName_11 rfl rfl ?_
    refine tt_aload_n (pc := 12) (k := 0) C dX0_readName_12 rfl rfl ?_
    refine tt_get (pc := 13) (ws := (eC cy ed r1.2 ea)) (ci := 0) (v := .int (r1.2 1)) C fiX0 rfl 0 eC_obj 1 (by decide) q1_148 rfl dX0_readName_13 ?_
    refine tt_put (pc := 16) (ws := (eC cy ed r1.2 ea)) (ci := 0) (ty := .int) (ws' := (eC cy ed (upd r1.2 4 (r1.2 1)) ea)) C rfl fiX0 rfl 0 eC_obj 4 (by decide) q1_152 rfl rfl rfl rfl (Nat.le_of_ble_eq_true rfl) dX0_readName_16 eC_put4 ?_
    refine tt_iconst (pc := 19) (v := (0 : Int32)) C dX0_readName_19 (by decide) ?_
    refine tt_istore_n (pc := 20) (L' := [(1, .int (0 : Int32)), (0, .ref (ed 0))]) C dX0_readName_20 rfl (by decide) rfl ?_
    refine tt_locs (L' := [(0, .ref (ed 0)), (1, .int (0 : Int32))]) [1, 0] rfl (l_X0_readName_21 C (fun t3 hf => ?_) hf)
    refine tt_aload_n (pc := 54) (k := 0) C dX0_readName_54 rfl rfl ?_
    refine tt_aload_n (pc := 55) (k := 0) C dX0_readName_55 rfl rfl ?_
    refine tt_get (pc := 56) (ws := (eC cy ed t3 ea)) (ci := 0) (v := .int (t3 1)) C fiX0 rfl 0 eC_obj 1 (by decide) q1_148 rfl dX0_readName_56 ?_
    refine tt_aload_n (pc := 59) (k := 0) C dX0_readName_59 rfl rfl ?_
    refine tt_get (pc := 60) (ws := (eC cy ed t3 ea)) (ci := 0) (v := .int (t3 4)) C fiX0 rfl 0 eC_obj 4 (by decide) q1_152 rfl dX0_readName_60 ?_
    refine tt_isub (pc := 63) C dX0_readName_63 ?_
    refine tt_put (pc := 64) (ws := (eC cy ed t3 ea)) (ci := 0) (ty := .int) (ws' := (eC cy ed (upd t3 5 ((t3 1) - (t3 4))) ea)) C rfl fiX0 rfl 0 eC_obj 5 (by decide) q1_153 rfl rfl rfl rfl (Nat.le_of_ble_eq_true rfl) dX0_readName_64 eC_put5 ?_
    refine tt_aload_n (pc := 67) (k := 0) C dX0_readName_67 rfl rfl ?_
    refine tt_get (pc := 68) (ws := (eC cy ed (upd t3 5 ((t3 1) - (t3 4))) ea)) (ci := 0) (v := .int ((t3 1) - (t3 4))) C fiX0 rfl 0 eC_obj 5 (by decide) q1_153 rfl dX0_readName_68 ?_
    have k5 : TT p l e { frames := 2, cells := 0, slots := 0, locals := 43 } s m args below meth c 2 D A false (some (.int out.1)) (eC cy ed out.2 ea) 79 [] [.int (if ((t3 1) - (t3 4)) ≤ 0 then (0 : Int32) else (1 : Int32))] (eC cy ed (upd t3 5 ((t3 1) - (t3 4))) ea) := by
      obtain rfl := Option.some.inj hf
      exact tt_zreturn (pc := 79) C rfl (nb_if rfl rfl) rfl rfl dX0_readName_79
    refine tr_if_le (pc := 71) (tgt := 78) C dX0_readName_71 (by decide) (fun c4 => ?_) (fun c4 => ?_)
    · refine tt_iconst (pc := 78) (v := (0 : Int32)) C dX0_readName_78 (by decide) ?_
      try simp only [if_pos c4] at k5 ⊢
      exact tt_locs [] rfl k5
    · refine tt_iconst (pc := 74) (v := (1 : Int32)) C dX0_readName_74 (by decide) ?_
      refine tt_goto (pc := 75) (tgt := 79) C dX0_readName_75 (by decide) ?_
      try simp only [if_neg c4] at k5 ⊢
      exact tt_locs [] rfl k5
  · refine tt_iconst (pc := 9) (v := (0 : Int32)) C dX0_readName_9 (by decide) ?_
    obtain rfl := Option.some.inj hf
    exact tt_zreturn (pc := 10) C rfl rfl rfl rfl dX0_readName_10
theorem dX0_readStatement_0 : decode cX0_readStatement 0 = .ok (.aload_n 0, 1) := by decide +kernel
theorem dX0_readStatement_1 : decode cX0_readStatement 1 = .ok (.invokevirtual 42, 3) := by decide +kernel
theorem dX0_readStatement_4 : decode cX0_readStatement 4 = .ok (.ifCond .ne 5, 3) := by decide +kernel
theorem dX0_readStatement_7 : decode cX0_readStatement 7 = .ok (.iconst 0, 1) := by decide +kernel
theorem dX0_readStatement_8 : decode cX0_readStatement 8 = .ok (.ireturn, 1) := by decide +kernel
theorem dX0_readStatement_9 : decode cX0_readStatement 9 = .ok (.aload_n 0, 1) := by decide +kernel
theorem dX0_readStatement_10 : decode cX0_readStatement 10 = .ok (.getfield 22, 3) := by decide +kernel
theorem dX0_readStatement_13 : decode cX0_readStatement 13 = .ok (.bipush 6, 2) := by decide +kernel
theorem dX0_readStatement_15 : decode cX0_readStatement 15 = .ok (.if_icmp .ne 12, 3) := by decide +kernel
theorem dX0_readStatement_18 : decode cX0_readStatement 18 = .ok (.aload_n 0, 1) := by decide +kernel
theorem dX0_readStatement_19 : decode cX0_readStatement 19 = .ok (.invokevirtual 45, 3) := by decide +kernel
theorem dX0_readStatement_22 : decode cX0_readStatement 22 = .ok (.ifCond .ne 5, 3) := by decide +kernel
theorem dX0_readStatement_25 : decode cX0_readStatement 25 = .ok (.iconst 0, 1) := by decide +kernel
theorem dX0_readStatement_26 : decode cX0_readStatement 26 = .ok (.ireturn, 1) := by decide +kernel
theorem dX0_readStatement_27 : decode cX0_readStatement 27 = .ok (.iconst 0, 1) := by decide +kernel
theorem dX0_readStatement_28 : decode cX0_readStatement 28 = .ok (.istore_n 1, 1) := by decide +kernel
theorem dX0_readStatement_29 : decode cX0_readStatement 29 = .ok (.iload_n 1, 1) := by decide +kernel
theorem dX0_readStatement_30 : decode cX0_readStatement 30 = .ok (.getstatic 48, 3) := by decide +kernel
theorem dX0_readStatement_33 : decode cX0_readStatement 33 = .ok (.aload_n 0, 1) := by decide +kernel
theorem dX0_readStatement_34 : decode cX0_readStatement 34 = .ok (.getfield 22, 3) := by decide +kernel
theorem dX0_readStatement_37 : decode cX0_readStatement 37 = .ok (.iaload, 1) := by decide +kernel
theorem dX0_readStatement_38 : decode cX0_readStatement 38 = .ok (.if_icmp .ge 19, 3) := by decide +kernel
theorem dX0_readStatement_41 : decode cX0_readStatement 41 = .ok (.aload_n 0, 1) := by decide +kernel
theorem dX0_readStatement_42 : decode cX0_readStatement 42 = .ok (.iload_n 1, 1) := by decide +kernel
theorem dX0_readStatement_43 : decode cX0_readStatement 43 = .ok (.invokevirtual 51, 3) := by decide +kernel
theorem dX0_readStatement_46 : decode cX0_readStatement 46 = .ok (.ifCond .ne 5, 3) := by decide +kernel
theorem dX0_readStatement_49 : decode cX0_readStatement 49 = .ok (.iconst 0, 1) := by decide +kernel
theorem dX0_readStatement_50 : decode cX0_readStatement 50 = .ok (.ireturn, 1) := by decide +kernel
theorem dX0_readStatement_51 : decode cX0_readStatement 51 = .ok (.iinc 1 1, 3) := by decide +kernel
theorem dX0_readStatement_54 : decode cX0_readStatement 54 = .ok (.goto (-25), 3) := by decide +kernel
theorem dX0_readStatement_57 : decode cX0_readStatement 57 = .ok (.aload_n 0, 1) := by decide +kernel
theorem dX0_readStatement_58 : decode cX0_readStatement 58 = .ok (.bipush 59, 2) := by decide +kernel
theorem dX0_readStatement_60 : decode cX0_readStatement 60 = .ok (.invokevirtual 55, 3) := by decide +kernel
theorem dX0_readStatement_63 : decode cX0_readStatement 63 = .ok (.ireturn, 1) := by decide +kernel
set_option maxHeartbeats 4000000 in
set_option maxRecDepth 100000 in
theorem l_X0_readStatement_29 {p : Program} {l : Launch} {e : Env} {s : State} {m : MethodId} {args : Array Value} {below : List Frame} {meth : Method} {c : Code} {D : va_G} {cy : Nat → ClassId} {A : Nat → Prop} {Bd : Nat} {xa : Xa} {ed : Nat → Nat} {N : Nat}  {kx : (Nat → Int32) → (Nat → Nat → Int32) → Option (Int32 × (Nat → Int32) × (Nat → Nat → Int32))} {out : Int32 × (Nat → Int32) × (Nat → Nat → Int32)} (C : CC p s m args meth c cX0_readStatement RX0 2 (some .boolean) D cy A false Bd xa) (hk : ∀ (es1 : Nat → Int32) (ea1 : Nat → Nat → Int32), kx es1 ea1 = some out → TT p l e { frames := 6, cells := 0, slots := 0, locals := 134 } s m args below meth c 2 D A false (some (.int out.1)) (eC cy ed out.2.1 out.2.2) 57 [(0, .ref (ed 0))] [] (eC cy ed es1 ea1)) {n : Nat} {v1 : Int32} {es : Nat → Int32} {ea : Nat → Nat → Int32} (hf : f_X0_readStatement_L29 N kx n v1 es ea = some out) : TT p l e { frames := 6, cells := 0, slots := 0, locals := 134 } s m args below meth c 2 D A false (some (.int out.1)) (eC cy ed out.2.1 out.2.2) 29 [(0, .ref (ed 0)), (1, .int v1)] [] (eC cy ed es ea) := by
  induction n generalizing v1 es ea with
  | zero => cases hf
  | succ n ih =>
    rw [f_X0_readStatement_L29] at hf
    refine tt_iload_n (pc := 29) (k := 1) C dX0_readStatement_29 rfl rfl ?_
    refine tt_nums (pc := 30) C q2_121 dX0_readStatement_30 ?_
    refine tt_aload_n (pc := 33) (k := 0) C dX0_readStatement_33 rfl rfl ?_
    refine tt_get (pc := 34) (ws := (eC cy ed es ea)) (ci := 0) (v := .int (es 3)) C fiX0 rfl 0 eC_obj 3 (by decide) q1_151 rfl dX0_readStatement_34 ?_
    refine tt_nload (pc := 37) C hf dX0_readStatement_37 (fun hf => ?_)
    refine tt_icmp_ge (pc := 38) (tgt := 57) C dX0_readStatement_38 (by decide) hf (fun hf => ?_) (fun hf => ?_)
    · exact tt_locs [0] rfl (hk _ _ hf)
    · refine tt_aload_n (pc := 41) (k := 0) C dX0_readStatement_41 rfl rfl ?_
      refine tt_iload_n (pc := 42) (k := 1) C dX0_readStatement_42 rfl rfl ?_
      obtain ⟨r2, hr2, hf⟩ := bind_some hf
      refine tt_callM (pc := 43) (ws := (eC cy ed es ea)) (q0 := 0) (ci := 0) (rest := []) (st' := [.int r2.1]) C rfl (k_X0_readNumber hr2) okX0_readNumber q2_123 rfl eC_obj rfl rfl rfl (Nat.le_of_ble_eq_true rfl) ⟨Nat.le_of_ble_eq_true rfl, Nat.le_of_ble_eq_true rfl⟩ dX0_readStatement_43 ?_
      refine tt_if_ne (pc := 46) (tgt := 51) C dX0_readStatement_46 (by decide) hf (fun hf => ?_) (fun hf => ?_)
      · refine tt_iinc (pc := 51) (k := 1) (v := (v1 + 1)) (L' := [(1, .int (v1 + 1)), (0, .ref (ed 0))]) C dX0_readStatement_51 rfl rfl (by decide) rfl ?_
        refine tt_goto (pc := 54) (tgt := 29) C dX0_readStatement_54 (by decide) ?_
        exact tt_locs [1, 0] rfl (ih hf)
      · refine tt_iconst (pc := 49) (v := (0 : Int32)) C dX0_readStatement_49 (by decide) ?_
        obtain rfl := Option.some.inj hf
        exact tt_zreturn (pc := 50) C rfl rfl rfl rfl dX0_readStatement_50
set_option maxHeartbeats 4000000 in
set_option maxRecDepth 100000 in
theorem k_X0_readStatement {l : Launch} {D : va_G} {cy : Nat → ClassId} {Bd : Nat} {xa : Xa} {ed : Nat → Nat} {N : Nat} {es : Nat → Int32} {ea : Nat → Nat → Int32} {out : Int32 × (Nat → Int32) × (Nat → Nat → Int32)} (hf : f_X0_readStatement N es ea = some out) : KC l yX0_readStatement cX0_readStatement 2 (some .boolean) 6 134 false D cy Bd xa [.ref (ed 0)] (eC cy ed es ea) (some (.int out.1)) (eC cy ed out.2.1 out.2.2) := by
  refine kc_start (own := RX0) (by decide +kernel) rfl (Nat.le_of_ble_eq_true rfl) ?_
  intro p e s m args below meth c A C
  unfold f_X0_readStatement at hf
  refine tt_locs (L' := [(0, .ref (ed 0))]) [0] rfl ?_
  refine tt_aload_n (pc := 0) (k := 0) C dX0_readStatement_0 rfl rfl ?_
  obtain ⟨r1, hr1, hf⟩ := bind_some hf
  refine tt_callM (pc := 1) (ws := (eC cy ed es ea)) (q0 := 0) (ci := 0) (rest := []) (st' := [.int r1.1]) C rfl (k_X0_readWord hr1) okX0_readWord q2_43 rfl eC_obj rfl rfl rfl (Nat.le_of_ble_eq_true rfl) ⟨Nat.le_of_ble_eq_true rfl, Nat.le_of_ble_eq_true rfl⟩ dX0_readStatement_1 ?_
  refine tt_if_ne (pc := 4) (tgt := 9) C dX0_readStatement_4 (by decide) hf (fun hf => ?_) (fun hf => ?_)
  · refine tt_aload_n (pc := 9) (k := 0) C dX0_readStatement_9 rfl rfl ?_
    refine tt_get (pc := 10) (ws := (eC cy ed r1.2 ea)) (ci := 0) (v := .int (r1.2 3)) C fiX0 rfl 0 eC_obj 3 (by decide) q1_151 rfl dX0_readStatement_10 ?_
    refine tt_bipush (pc := 13) (v := (6 : Int32)) C dX0_readStatement_13 (by decide) ?_
    refine tt_icmp_ne (pc := 15) (tgt := 27) C dX0_readStatement_15 (by decide) hf (fun hf => ?_) (fun hf => ?_)
    · refine tt_iconst (pc := 27) (v := (0 : Int32)) C dX0_readStatement_27 (by decide) ?_
      refine tt_istore_n (pc := 28) (L' := [(1, .int (0 : Int32)), (0, .ref (ed 0))]) C dX0_readStatement_28 rfl (by decide) rfl ?_
      refine tt_locs (L' := [(0, .ref (ed 0)), (1, .int (0 : Int32))]) [1, 0] rfl (l_X0_readStatement_29 C (fun t3 t4 hf => ?_) hf)
      refine tt_aload_n (pc := 57) (k := 0) C dX0_readStatement_57 rfl rfl ?_
      refine tt_bipush (pc := 58) (v := (59 : Int32)) C dX0_readStatement_58 (by decide) ?_
      obtain ⟨r5, hr5, hf⟩ := bind_some hf
      refine tt_callM (pc := 60) (ws := (eC cy ed t3 t4)) (q0 := 0) (ci := 0) (rest := []) (st' := [.int r5.1]) C rfl (k_X0_readSign hr5) okX0_readSign q2_113 rfl eC_obj rfl rfl rfl (Nat.le_of_ble_eq_true rfl) ⟨Nat.le_of_ble_eq_true rfl, Nat.le_of_ble_eq_true rfl⟩ dX0_readStatement_60 ?_
      obtain ⟨hz, hf⟩ := zchk hf
      obtain rfl := Option.some.inj hf
      exact tt_zreturn (pc := 63) C rfl hz rfl rfl dX0_readStatement_63
    · refine tt_aload_n (pc := 18) (k := 0) C dX0_readStatement_18 rfl rfl ?_
      obtain ⟨r6, hr6, hf⟩ := bind_some hf
      refine tt_callM (pc := 19) (ws := (eC cy ed r1.2 ea)) (q0 := 0) (ci := 0) (rest := []) (st' := [.int r6.1]) C rfl (k_X0_readName hr6) okX0_readName q2_109 rfl eC_obj rfl rfl rfl (Nat.le_of_ble_eq_true rfl) ⟨Nat.le_of_ble_eq_true rfl, Nat.le_of_ble_eq_true rfl⟩ dX0_readStatement_19 ?_
      refine tt_if_ne (pc := 22) (tgt := 27) C dX0_readStatement_22 (by decide) hf (fun hf => ?_) (fun hf => ?_)
      · refine tt_iconst (pc := 27) (v := (0 : Int32)) C dX0_readStatement_27 (by decide) ?_
        refine tt_istore_n (pc := 28) (L' := [(1, .int (0 : Int32)), (0, .ref (ed 0))]) C dX0_readStatement_28 rfl (by decide) rfl ?_
        refine tt_locs (L' := [(0, .ref (ed 0)), (1, .int (0 : Int32))]) [1, 0] rfl (l_X0_readStatement_29 C (fun t7 t8 hf => ?_) hf)
        refine tt_aload_n (pc := 57) (k := 0) C dX0_readStatement_57 rfl rfl ?_
        refine tt_bipush (pc := 58) (v := (59 : Int32)) C dX0_readStatement_58 (by decide) ?_
        obtain ⟨r9, hr9, hf⟩ := bind_some hf
        refine tt_callM (pc := 60) (ws := (eC cy ed t7 t8)) (q0 := 0) (ci := 0) (rest := []) (st' := [.int r9.1]) C rfl (k_X0_readSign hr9) okX0_readSign q2_113 rfl eC_obj rfl rfl rfl (Nat.le_of_ble_eq_true rfl) ⟨Nat.le_of_ble_eq_true rfl, Nat.le_of_ble_eq_true rfl⟩ dX0_readStatement_60 ?_
        obtain ⟨hz, hf⟩ := zchk hf
        obtain rfl := Option.some.inj hf
        exact tt_zreturn (pc := 63) C rfl hz rfl rfl dX0_readStatement_63
      · refine tt_iconst (pc := 25) (v := (0 : Int32)) C dX0_readStatement_25 (by decide) ?_
        obtain rfl := Option.some.inj hf
        exact tt_zreturn (pc := 26) C rfl rfl rfl rfl dX0_readStatement_26
  · refine tt_iconst (pc := 7) (v := (0 : Int32)) C dX0_readStatement_7 (by decide) ?_
    obtain rfl := Option.some.inj hf
    exact tt_zreturn (pc := 8) C rfl rfl rfl rfl dX0_readStatement_8
theorem dX0_faultOfForm_0 : decode cX0_faultOfForm 0 = .ok (.aload_n 0, 1) := by decide +kernel
theorem dX0_faultOfForm_1 : decode cX0_faultOfForm 1 = .ok (.iconst 0, 1) := by decide +kernel
theorem dX0_faultOfForm_2 : decode cX0_faultOfForm 2 = .ok (.putfield 15, 3) := by decide +kernel
theorem dX0_faultOfForm_5 : decode cX0_faultOfForm 5 = .ok (.aload_n 0, 1) := by decide +kernel
theorem dX0_faultOfForm_6 : decode cX0_faultOfForm 6 = .ok (.getfield 9, 3) := by decide +kernel
theorem dX0_faultOfForm_9 : decode cX0_faultOfForm 9 = .ok (.ifCond .ne 5, 3) := by decide +kernel
theorem dX0_faultOfForm_12 : decode cX0_faultOfForm 12 = .ok (.iconst 0, 1) := by decide +kernel
theorem dX0_faultOfForm_13 : decode cX0_faultOfForm 13 = .ok (.ireturn, 1) := by decide +kernel
theorem dX0_faultOfForm_14 : decode cX0_faultOfForm 14 = .ok (.iconst 0, 1) := by decide +kernel
theorem dX0_faultOfForm_15 : decode cX0_faultOfForm 15 = .ok (.istore_n 1, 1) := by decide +kernel
theorem dX0_faultOfForm_16 : decode cX0_faultOfForm 16 = .ok (.iload_n 1, 1) := by decide +kernel
theorem dX0_faultOfForm_17 : decode cX0_faultOfForm 17 = .ok (.bipush 120, 2) := by decide +kernel
theorem dX0_faultOfForm_19 : decode cX0_faultOfForm 19 = .ok (.if_icmp .ge 28, 3) := by decide +kernel
theorem dX0_faultOfForm_22 : decode cX0_faultOfForm 22 = .ok (.aload_n 0, 1) := by decide +kernel
theorem dX0_faultOfForm_23 : decode cX0_faultOfForm 23 = .ok (.invokevirtual 35, 3) := by decide +kernel
theorem dX0_faultOfForm_26 : decode cX0_faultOfForm 26 = .ok (.ifCond .eq 21, 3) := by decide +kernel
theorem dX0_faultOfForm_29 : decode cX0_faultOfForm 29 = .ok (.aload_n 0, 1) := by decide +kernel
theorem dX0_faultOfForm_30 : decode cX0_faultOfForm 30 = .ok (.invokevirtual 39, 3) := by decide +kernel
theorem dX0_faultOfForm_33 : decode cX0_faultOfForm 33 = .ok (.ifCond .ne 8, 3) := by decide +kernel
theorem dX0_faultOfForm_36 : decode cX0_faultOfForm 36 = .ok (.aload_n 0, 1) := by decide +kernel
theorem dX0_faultOfForm_37 : decode cX0_faultOfForm 37 = .ok (.getfield 15, 3) := by decide +kernel
theorem dX0_faultOfForm_40 : decode cX0_faultOfForm 40 = .ok (.ireturn, 1) := by decide +kernel
theorem dX0_faultOfForm_41 : decode cX0_faultOfForm 41 = .ok (.iinc 1 1, 3) := by decide +kernel
theorem dX0_faultOfForm_44 : decode cX0_faultOfForm 44 = .ok (.goto (-28), 3) := by decide +kernel
theorem dX0_faultOfForm_47 : decode cX0_faultOfForm 47 = .ok (.iconst (-1), 1) := by decide +kernel
theorem dX0_faultOfForm_48 : decode cX0_faultOfForm 48 = .ok (.ireturn, 1) := by decide +kernel
set_option maxHeartbeats 4000000 in
set_option maxRecDepth 100000 in
theorem l_X0_faultOfForm_16 {p : Program} {l : Launch} {e : Env} {s : State} {m : MethodId} {args : Array Value} {below : List Frame} {meth : Method} {c : Code} {D : va_G} {cy : Nat → ClassId} {A : Nat → Prop} {Bd : Nat} {xa : Xa} {ed : Nat → Nat} {N : Nat}  {kx : (Nat → Int32) → (Nat → Nat → Int32) → Option (Int32 × (Nat → Int32) × (Nat → Nat → Int32))} {out : Int32 × (Nat → Int32) × (Nat → Nat → Int32)} (C : CC p s m args meth c cX0_faultOfForm RX0 2 (some .int) D cy A false Bd xa) (hk : ∀ (es1 : Nat → Int32) (ea1 : Nat → Nat → Int32), kx es1 ea1 = some out → TT p l e { frames := 7, cells := 0, slots := 0, locals := 155 } s m args below meth c 2 D A false (some (.int out.1)) (eC cy ed out.2.1 out.2.2) 47 [] [] (eC cy ed es1 ea1)) {n : Nat} {v1 : Int32} {es : Nat → Int32} {ea : Nat → Nat → Int32} (hf : f_X0_faultOfForm_L16 N kx n v1 es ea = some out) : TT p l e { frames := 7, cells := 0, slots := 0, locals := 155 } s m args below meth c 2 D A false (some (.int out.1)) (eC cy ed out.2.1 out.2.2) 16 [(0, .ref (ed 0)), (1, .int v1)] [] (eC cy ed es ea) := by
  induction n generalizing v1 es ea with
  | zero => cases hf
  | succ n ih =>
    rw [f_X0_faultOfForm_L16] at hf
    refine tt_iload_n (pc := 16) (k := 1) C dX0_faultOfForm_16 rfl rfl ?_
    refine tt_bipush (pc := 17) (v := (120 : Int32)) C dX0_faultOfForm_17 (by decide) ?_
    refine tt_icmp_ge (pc := 19) (tgt := 47) C dX0_faultOfForm_19 (by decide) hf (fun hf => ?_) (fun hf => ?_)
    · exact tt_locs [] rfl (hk _ _ hf)
    · refine tt_aload_n (pc := 22) (k := 0) C dX0_faultOfForm_22 rfl rfl ?_
      obtain ⟨r1, hr1, hf⟩ := bind_some hf
      refine tt_callR (pc := 23) (ws := (eC cy ed es ea)) (q0 := 0) (ci := 0) (rest := []) (st' := [.int r1]) C (k_X0_hasMore hr1) okX0_hasMore q2_35 rfl eC_obj (fun _ h => h) rfl rfl rfl (Nat.le_of_ble_eq_true rfl) ⟨Nat.le_of_ble_eq_true rfl, Nat.le_of_ble_eq_true rfl⟩ dX0_faultOfForm_23 ?_
      refine tt_if_eq (pc := 26) (tgt := 47) C dX0_faultOfForm_26 (by decide) hf (fun hf => ?_) (fun hf => ?_)
      · exact tt_locs [] rfl (hk _ _ hf)
      · refine tt_aload_n (pc := 29) (k := 0) C dX0_faultOfForm_29 rfl rfl ?_
        obtain ⟨r2, hr2, hf⟩ := bind_some hf
        refine tt_callM (pc := 30) (ws := (eC cy ed es ea)) (q0 := 0) (ci := 0) (rest := []) (st' := [.int r2.1]) C rfl (k_X0_readStatement hr2) okX0_readStatement q2_39 rfl eC_obj rfl rfl rfl (Nat.le_of_ble_eq_true rfl) ⟨Nat.le_of_ble_eq_true rfl, Nat.le_of_ble_eq_true rfl⟩ dX0_faultOfForm_30 ?_
        refine tt_if_ne (pc := 33) (tgt := 41) C dX0_faultOfForm_33 (by decide) hf (fun hf => ?_) (fun hf => ?_)
        · refine tt_iinc (pc := 41) (k := 1) (v := (v1 + 1)) (L' := [(1, .int (v1 + 1)), (0, .ref (ed 0))]) C dX0_faultOfForm_41 rfl rfl (by decide) rfl ?_
          refine tt_goto (pc := 44) (tgt := 16) C dX0_faultOfForm_44 (by decide) ?_
          exact tt_locs [1, 0] rfl (ih hf)
        · refine tt_aload_n (pc := 36) (k := 0) C dX0_faultOfForm_36 rfl rfl ?_
          refine tt_get (pc := 37) (ws := (eC cy ed r2.2.1 r2.2.2)) (ci := 0) (v := .int (r2.2.1 1)) C fiX0 rfl 0 eC_obj 1 (by decide) q1_148 rfl dX0_faultOfForm_37 ?_
          obtain rfl := Option.some.inj hf
          exact tt_ireturn (pc := 40) C rfl rfl rfl dX0_faultOfForm_40
set_option maxHeartbeats 4000000 in
set_option maxRecDepth 100000 in
theorem k_X0_faultOfForm {l : Launch} {D : va_G} {cy : Nat → ClassId} {Bd : Nat} {xa : Xa} {ed : Nat → Nat} {N : Nat} {es : Nat → Int32} {ea : Nat → Nat → Int32} {out : Int32 × (Nat → Int32) × (Nat → Nat → Int32)} (hf : f_X0_faultOfForm N es ea = some out) : KC l yX0_faultOfForm cX0_faultOfForm 2 (some .int) 7 155 false D cy Bd xa [.ref (ed 0)] (eC cy ed es ea) (some (.int out.1)) (eC cy ed out.2.1 out.2.2) := by
  refine kc_start (own := RX0) (by decide +kernel) rfl (Nat.le_of_ble_eq_true rfl) ?_
  intro p e s m args below meth c A C
  unfold f_X0_faultOfForm at hf
  refine tt_locs (L' := [(0, .ref (ed 0))]) [0] rfl ?_
  refine tt_aload_n (pc := 0) (k := 0) C dX0_faultOfForm_0 rfl rfl ?_
  refine tt_iconst (pc := 1) (v := (0 : Int32)) C dX0_faultOfForm_1 (by decide) ?_
  refine tt_put (pc := 2) (ws := (eC cy ed es ea)) (ci := 0) (ty := .int) (ws' := (eC cy ed (upd es 1 (0 : Int32)) ea)) C rfl fiX0 rfl 0 eC_obj 1 (by decide) q1_148 rfl rfl rfl rfl (Nat.le_of_ble_eq_true rfl) dX0_faultOfForm_2 eC_put1 ?_
  refine tt_aload_n (pc := 5) (k := 0) C dX0_faultOfForm_5 rfl rfl ?_
  refine tt_get (pc := 6) (ws := (eC cy ed (upd es 1 (0 : Int32)) ea)) (ci := 0) (v := .int (es 0)) C fiX0 rfl 0 eC_obj 0 (by decide) q1_146 rfl dX0_faultOfForm_6 ?_
  refine tt_if_ne (pc := 9) (tgt := 14) C dX0_faultOfForm_9 (by decide) hf (fun hf => ?_) (fun hf => ?_)
  · refine tt_iconst (pc := 14) (v := (0 : Int32)) C dX0_faultOfForm_14 (by decide) ?_
    refine tt_istore_n (pc := 15) (L' := [(1, .int (0 : Int32)), (0, .ref (ed 0))]) C dX0_faultOfForm_15 rfl (by decide) rfl ?_
    refine tt_locs (L' := [(0, .ref (ed 0)), (1, .int (0 : Int32))]) [1, 0] rfl (l_X0_faultOfForm_16 C (fun t3 t4 hf => ?_) hf)
    refine tt_iconst (pc := 47) (v := (-1 : Int32)) C dX0_faultOfForm_47 (by decide) ?_
    obtain rfl := Option.some.inj hf
    exact tt_ireturn (pc := 48) C rfl rfl rfl dX0_faultOfForm_48
  · refine tt_iconst (pc := 12) (v := (0 : Int32)) C dX0_faultOfForm_12 (by decide) ?_
    obtain rfl := Option.some.inj hf
    exact tt_ireturn (pc := 13) C rfl rfl rfl dX0_faultOfForm_13
theorem dX5_copyFrom_0 : decode cX5_copyFrom 0 = .ok (.aload_n 0, 1) := by decide +kernel
theorem dX5_copyFrom_1 : decode cX5_copyFrom 1 = .ok (.aload_n 1, 1) := by decide +kernel
theorem dX5_copyFrom_2 : decode cX5_copyFrom 2 = .ok (.getfield 9, 3) := by decide +kernel
theorem dX5_copyFrom_5 : decode cX5_copyFrom 5 = .ok (.putfield 9, 3) := by decide +kernel
theorem dX5_copyFrom_8 : decode cX5_copyFrom 8 = .ok (.aload_n 0, 1) := by decide +kernel
theorem dX5_copyFrom_9 : decode cX5_copyFrom 9 = .ok (.aload_n 1, 1) := by decide +kernel
theorem dX5_copyFrom_10 : decode cX5_copyFrom 10 = .ok (.getfield 15, 3) := by decide +kernel
theorem dX5_copyFrom_13 : decode cX5_copyFrom 13 = .ok (.putfield 15, 3) := by decide +kernel
theorem dX5_copyFrom_16 : decode cX5_copyFrom 16 = .ok (.aload_n 0, 1) := by decide +kernel
theorem dX5_copyFrom_17 : decode cX5_copyFrom 17 = .ok (.aload_n 1, 1) := by decide +kernel
theorem dX5_copyFrom_18 : decode cX5_copyFrom 18 = .ok (.getfield 18, 3) := by decide +kernel
theorem dX5_copyFrom_21 : decode cX5_copyFrom 21 = .ok (.putfield 18, 3) := by decide +kernel
theorem dX5_copyFrom_24 : decode cX5_copyFrom 24 = .ok (.aload_n 0, 1) := by decide +kernel
theorem dX5_copyFrom_25 : decode cX5_copyFrom 25 = .ok (.aload_n 1, 1) := by decide +kernel
theorem dX5_copyFrom_26 : decode cX5_copyFrom 26 = .ok (.getfield 21, 3) := by decide +kernel
theorem dX5_copyFrom_29 : decode cX5_copyFrom 29 = .ok (.putfield 21, 3) := by decide +kernel
theorem dX5_copyFrom_32 : decode cX5_copyFrom 32 = .ok (.return_, 1) := by decide +kernel
set_option maxHeartbeats 4000000 in
set_option maxRecDepth 100000 in
theorem k_X5_copyFrom {l : Launch} {D : va_G} {cy : Nat → ClassId} {Bd : Nat} {xa : Xa} {q q2 : Nat} {N : Nat} {u : Nat → Int32} {u2 : Nat → Int32} {out : (Nat → Int32)} (hf : f_X5_copyFrom N u u2 = some out) : KC l yX5_copyFrom cX5_copyFrom 2 none 0 0 false D cy Bd xa [.ref q, .ref q2] [(q, tE u), (q2, tE u2)] none [(q, tE out), (q2, tE u2)] := by
  refine kc_start (own := RX5) (by decide +kernel) rfl (Nat.le_of_ble_eq_true rfl) ?_
  intro p e s m args below meth c A C
  unfold f_X5_copyFrom at hf
  refine tt_locs (L' := [(0, .ref q), (1, .ref q2)]) [0, 1] rfl ?_
  refine tt_aload_n (pc := 0) (k := 0) C dX5_copyFrom_0 rfl rfl ?_
  refine tt_aload_n (pc := 1) (k := 1) C dX5_copyFrom_1 rfl rfl ?_
  refine tt_get (pc := 2) (ws := [(q, tE u), (q2, tE u2)]) (ci := 5) (v := .int (u2 0)) C fiX5 rfl 1 rfl 0 (by decide) q1_61 rfl dX5_copyFrom_2 ?_
  refine tt_put (pc := 5) (ws := [(q, tE u), (q2, tE u2)]) (ci := 5) (ty := .int) (ws' := [(q, tE (upd u 0 (u2 0))), (q2, tE u2)]) C rfl fiX5 rfl 0 rfl 0 (by decide) q1_61 rfl rfl rfl rfl (Nat.le_of_ble_eq_true rfl) dX5_copyFrom_5 rfl ?_
  refine tt_aload_n (pc := 8) (k := 0) C dX5_copyFrom_8 rfl rfl ?_
  refine tt_aload_n (pc := 9) (k := 1) C dX5_copyFrom_9 rfl rfl ?_
  refine tt_get (pc := 10) (ws := [(q, tE (upd u 0 (u2 0))), (q2, tE u2)]) (ci := 5) (v := .int (u2 1)) C fiX5 rfl 1 rfl 1 (by decide) q1_64 rfl dX5_copyFrom_10 ?_
  refine tt_put (pc := 13) (ws := [(q, tE (upd u 0 (u2 0))), (q2, tE u2)]) (ci := 5) (ty := .int) (ws' := [(q, tE (upd (upd u 0 (u2 0)) 1 (u2 1))), (q2, tE u2)]) C rfl fiX5 rfl 0 rfl 1 (by decide) q1_64 rfl rfl rfl rfl (Nat.le_of_ble_eq_true rfl) dX5_copyFrom_13 rfl ?_
  refine tt_aload_n (pc := 16) (k := 0) C dX5_copyFrom_16 rfl rfl ?_
  refine tt_aload_n (pc := 17) (k := 1) C dX5_copyFrom_17 rfl rfl ?_
  refine tt_get (pc := 18) (ws := [(q, tE (upd (upd u 0 (u2 0)) 1 (u2 1))), (q2, tE u2)]) (ci := 5) (v := .int (u2 2)) C fiX5 rfl 1 rfl 2 (by decide) q1_67 rfl dX5_copyFrom_18 ?_
  refine tt_put (pc := 21) (ws := [(q, tE (upd (upd u 0 (u2 0)) 1 (u2 1))), (q2, tE u2)]) (ci := 5) (ty := .int) (ws' := [(q, tE (upd (upd (upd u 0 (u2 0)) 1 (u2 1)) 2 (u2 2))), (q2, tE u2)]) C rfl fiX5 rfl 0 rfl 2 (by decide) q1_67 rfl rfl rfl rfl (Nat.le_of_ble_eq_true rfl) dX5_copyFrom_21 rfl ?_
  refine tt_aload_n (pc := 24) (k := 0) C dX5_copyFrom_24 rfl rfl ?_
  refine tt_aload_n (pc := 25) (k := 1) C dX5_copyFrom_25 rfl rfl ?_
  refine tt_get (pc := 26) (ws := [(q, tE (upd (upd (upd u 0 (u2 0)) 1 (u2 1)) 2 (u2 2))), (q2, tE u2)]) (ci := 5) (v := .int (u2 3)) C fiX5 rfl 1 rfl 3 (by decide) q1_70 rfl dX5_copyFrom_26 ?_
  refine tt_put (pc := 29) (ws := [(q, tE (upd (upd (upd u 0 (u2 0)) 1 (u2 1)) 2 (u2 2))), (q2, tE u2)]) (ci := 5) (ty := .int) (ws' := [(q, tE (upd (upd (upd (upd u 0 (u2 0)) 1 (u2 1)) 2 (u2 2)) 3 (u2 3))), (q2, tE u2)]) C rfl fiX5 rfl 0 rfl 3 (by decide) q1_70 rfl rfl rfl rfl (Nat.le_of_ble_eq_true rfl) dX5_copyFrom_29 rfl ?_
  obtain rfl := Option.some.inj hf
  exact tt_vreturn (pc := 32) C rfl rfl rfl dX5_copyFrom_32
theorem dX3_copyFrom_0 : decode cX3_copyFrom 0 = .ok (.aload_n 0, 1) := by decide +kernel
theorem dX3_copyFrom_1 : decode cX3_copyFrom 1 = .ok (.aload_n 1, 1) := by decide +kernel
theorem dX3_copyFrom_2 : decode cX3_copyFrom 2 = .ok (.getfield 9, 3) := by decide +kernel
theorem dX3_copyFrom_5 : decode cX3_copyFrom 5 = .ok (.putfield 9, 3) := by decide +kernel
theorem dX3_copyFrom_8 : decode cX3_copyFrom 8 = .ok (.aload_n 1, 1) := by decide +kernel
theorem dX3_copyFrom_9 : decode cX3_copyFrom 9 = .ok (.getfield 15, 3) := by decide +kernel
theorem dX3_copyFrom_12 : decode cX3_copyFrom 12 = .ok (.iconst 0, 1) := by decide +kernel
theorem dX3_copyFrom_13 : decode cX3_copyFrom 13 = .ok (.aload_n 0, 1) := by decide +kernel
theorem dX3_copyFrom_14 : decode cX3_copyFrom 14 = .ok (.getfield 15, 3) := by decide +kernel
theorem dX3_copyFrom_17 : decode cX3_copyFrom 17 = .ok (.iconst 0, 1) := by decide +kernel
theorem dX3_copyFrom_18 : decode cX3_copyFrom 18 = .ok (.bipush 8, 2) := by decide +kernel
theorem dX3_copyFrom_20 : decode cX3_copyFrom 20 = .ok (.invokestatic 26, 3) := by decide +kernel
theorem dX3_copyFrom_23 : decode cX3_copyFrom 23 = .ok (.aload_n 1, 1) := by decide +kernel
theorem dX3_copyFrom_24 : decode cX3_copyFrom 24 = .ok (.getfield 19, 3) := by decide +kernel
theorem dX3_copyFrom_27 : decode cX3_copyFrom 27 = .ok (.iconst 0, 1) := by decide +kernel
theorem dX3_copyFrom_28 : decode cX3_copyFrom 28 = .ok (.aload_n 0, 1) := by decide +kernel
theorem dX3_copyFrom_29 : decode cX3_copyFrom 29 = .ok (.getfield 19, 3) := by decide +kernel
theorem dX3_copyFrom_32 : decode cX3_copyFrom 32 = .ok (.iconst 0, 1) := by decide +kernel
theorem dX3_copyFrom_33 : decode cX3_copyFrom 33 = .ok (.bipush 8, 2) := by decide +kernel
theorem dX3_copyFrom_35 : decode cX3_copyFrom 35 = .ok (.invokestatic 26, 3) := by decide +kernel
theorem dX3_copyFrom_38 : decode cX3_copyFrom 38 = .ok (.aload_n 1, 1) := by decide +kernel
theorem dX3_copyFrom_39 : decode cX3_copyFrom 39 = .ok (.getfield 22, 3) := by decide +kernel
theorem dX3_copyFrom_42 : decode cX3_copyFrom 42 = .ok (.iconst 0, 1) := by decide +kernel
theorem dX3_copyFrom_43 : decode cX3_copyFrom 43 = .ok (.aload_n 0, 1) := by decide +kernel
theorem dX3_copyFrom_44 : decode cX3_copyFrom 44 = .ok (.getfield 22, 3) := by decide +kernel
theorem dX3_copyFrom_47 : decode cX3_copyFrom 47 = .ok (.iconst 0, 1) := by decide +kernel
theorem dX3_copyFrom_48 : decode cX3_copyFrom 48 = .ok (.bipush 56, 2) := by decide +kernel
theorem dX3_copyFrom_50 : decode cX3_copyFrom 50 = .ok (.invokestatic 26, 3) := by decide +kernel
theorem dX3_copyFrom_53 : decode cX3_copyFrom 53 = .ok (.return_, 1) := by decide +kernel
set_option maxHeartbeats 4000000 in
set_option maxRecDepth 100000 in
theorem k_X3_copyFrom {l : Launch} {D : va_G} {cy : Nat → ClassId} {Bd : Nat} {xa : Xa} {ad ad2 : Nat → Nat} {N : Nat} {ps : Nat → Int32} {pa : Nat → Nat → Int32} {ps2 : Nat → Int32} {pa2 : Nat → Nat → Int32} {out : (Nat → Int32) × (Nat → Nat → Int32)} (hf : f_X3_copyFrom N ps pa ps2 pa2 = some out) : KC l yX3_copyFrom cX3_copyFrom 2 none 1 28 false D cy Bd xa [.ref (ad 12), .ref (ad2 12)] (pC cy ad ps pa ++ pC cy ad2 ps2 pa2) none (pC cy ad out.1 out.2 ++ pC cy ad2 ps2 pa2) := by
  refine kc_start (own := RX3) (by decide +kernel) rfl (Nat.le_of_ble_eq_true rfl) ?_
  intro p e s m args below meth c A C
  unfold f_X3_copyFrom at hf
  refine tt_locs (L' := [(0, .ref (ad 12)), (1, .ref (ad2 12))]) [0, 1] rfl ?_
  refine tt_aload_n (pc := 0) (k := 0) C dX3_copyFrom_0 rfl rfl ?_
  refine tt_aload_n (pc := 1) (k := 1) C dX3_copyFrom_1 rfl rfl ?_
  refine tt_get (pc := 2) (ws := (pC cy ad ps pa ++ pC cy ad2 ps2 pa2)) (ci := 3) (v := .int (ps2 0)) C fiX3 rfl 4 rfl 0 (by decide) q1_38 rfl dX3_copyFrom_2 ?_
  refine tt_put (pc := 5) (ws := (pC cy ad ps pa ++ pC cy ad2 ps2 pa2)) (ci := 3) (ty := .int) (ws' := (pC cy ad (upd ps 0 (ps2 0)) pa ++ pC cy ad2 ps2 pa2)) C rfl fiX3 rfl 0 rfl 0 (by decide) q1_38 rfl rfl rfl rfl (Nat.le_of_ble_eq_true rfl) dX3_copyFrom_5 rfl ?_
  refine tt_aload_n (pc := 8) (k := 1) C dX3_copyFrom_8 rfl rfl ?_
  refine tt_get (pc := 9) (ws := (pC cy ad (upd ps 0 (ps2 0)) pa ++ pC cy ad2 ps2 pa2)) (ci := 3) (v := .ref (ad2 21)) C fiX3 rfl 4 rfl 1 (by decide) q1_40 rfl dX3_copyFrom_9 ?_
  refine tt_iconst (pc := 12) (v := (0 : Int32)) C dX3_copyFrom_12 (by decide) ?_
  refine tt_aload_n (pc := 13) (k := 0) C dX3_copyFrom_13 rfl rfl ?_
  refine tt_get (pc := 14) (ws := (pC cy ad (upd ps 0 (ps2 0)) pa ++ pC cy ad2 ps2 pa2)) (ci := 3) (v := .ref (ad 21)) C fiX3 rfl 0 rfl 1 (by decide) q1_40 rfl dX3_copyFrom_14 ?_
  refine tt_iconst (pc := 17) (v := (0 : Int32)) C dX3_copyFrom_17 (by decide) ?_
  refine tt_bipush (pc := 18) (v := (8 : Int32)) C dX3_copyFrom_18 (by decide) ?_
  refine tt_copyI (pc := 20) (ws := (pC cy ad (upd ps 0 (ps2 0)) pa ++ pC cy ad2 ps2 pa2)) (n0 := 8) (n1 := 8) (f := (pa2 1)) (g := (pa 1)) (ws' := (pC cy ad (upd ps 0 (ps2 0)) (va_up pa 1 (va_cpy (pa2 1) (pa 1) (ix (0 : Int32)) (ix (0 : Int32)) (ix (8 : Int32)))) ++ pC cy ad2 ps2 pa2)) C rfl q2_142 q2_133 q2_132 q1_13 5 1 rfl rfl hf (Nat.le_of_ble_eq_true rfl) (Nat.le_of_ble_eq_true rfl) dX3_copyFrom_20 rfl (fun hf => ?_)
  refine tt_aload_n (pc := 23) (k := 1) C dX3_copyFrom_23 rfl rfl ?_
  refine tt_get (pc := 24) (ws := (pC cy ad (upd ps 0 (ps2 0)) (va_up pa 1 (va_cpy (pa2 1) (pa 1) (ix (0 : Int32)) (ix (0 : Int32)) (ix (8 : Int32)))) ++ pC cy ad2 ps2 pa2)) (ci := 3) (v := .ref (ad2 22)) C fiX3 rfl 4 rfl 2 (by decide) q1_42 rfl dX3_copyFrom_24 ?_
  refine tt_iconst (pc := 27) (v := (0 : Int32)) C dX3_copyFrom_27 (by decide) ?_
  refine tt_aload_n (pc := 28) (k := 0) C dX3_copyFrom_28 rfl rfl ?_
  refine tt_get (pc := 29) (ws := (pC cy ad (upd ps 0 (ps2 0)) (va_up pa 1 (va_cpy (pa2 1) (pa 1) (ix (0 : Int32)) (ix (0 : Int32)) (ix (8 : Int32)))) ++ pC cy ad2 ps2 pa2)) (ci := 3) (v := .ref (ad 22)) C fiX3 rfl 0 rfl 2 (by decide) q1_42 rfl dX3_copyFrom_29 ?_
  refine tt_iconst (pc := 32) (v := (0 : Int32)) C dX3_copyFrom_32 (by decide) ?_
  refine tt_bipush (pc := 33) (v := (8 : Int32)) C dX3_copyFrom_33 (by decide) ?_
  refine tt_copyI (pc := 35) (ws := (pC cy ad (upd ps 0 (ps2 0)) (va_up pa 1 (va_cpy (pa2 1) (pa 1) (ix (0 : Int32)) (ix (0 : Int32)) (ix (8 : Int32)))) ++ pC cy ad2 ps2 pa2)) (n0 := 8) (n1 := 8) (f := (pa2 2)) (g := (pa 2)) (ws' := (pC cy ad (upd ps 0 (ps2 0)) (va_up (va_up pa 1 (va_cpy (pa2 1) (pa 1) (ix (0 : Int32)) (ix (0 : Int32)) (ix (8 : Int32)))) 2 (va_cpy (pa2 2) (pa 2) (ix (0 : Int32)) (ix (0 : Int32)) (ix (8 : Int32)))) ++ pC cy ad2 ps2 pa2)) C rfl q2_142 q2_133 q2_132 q1_13 6 2 rfl rfl hf (Nat.le_of_ble_eq_true rfl) (Nat.le_of_ble_eq_true rfl) dX3_copyFrom_35 rfl (fun hf => ?_)
  refine tt_aload_n (pc := 38) (k := 1) C dX3_copyFrom_38 rfl rfl ?_
  refine tt_get (pc := 39) (ws := (pC cy ad (upd ps 0 (ps2 0)) (va_up (va_up pa 1 (va_cpy (pa2 1) (pa 1) (ix (0 : Int32)) (ix (0 : Int32)) (ix (8 : Int32)))) 2 (va_cpy (pa2 2) (pa 2) (ix (0 : Int32)) (ix (0 : Int32)) (ix (8 : Int32)))) ++ pC cy ad2 ps2 pa2)) (ci := 3) (v := .ref (ad2 23)) C fiX3 rfl 4 rfl 3 (by decide) q1_44 rfl dX3_copyFrom_39 ?_
  refine tt_iconst (pc := 42) (v := (0 : Int32)) C dX3_copyFrom_42 (by decide) ?_
  refine tt_aload_n (pc := 43) (k := 0) C dX3_copyFrom_43 rfl rfl ?_
  refine tt_get (pc := 44) (ws := (pC cy ad (upd ps 0 (ps2 0)) (va_up (va_up pa 1 (va_cpy (pa2 1) (pa 1) (ix (0 : Int32)) (ix (0 : Int32)) (ix (8 : Int32)))) 2 (va_cpy (pa2 2) (pa 2) (ix (0 : Int32)) (ix (0 : Int32)) (ix (8 : Int32)))) ++ pC cy ad2 ps2 pa2)) (ci := 3) (v := .ref (ad 23)) C fiX3 rfl 0 rfl 3 (by decide) q1_44 rfl dX3_copyFrom_44 ?_
  refine tt_iconst (pc := 47) (v := (0 : Int32)) C dX3_copyFrom_47 (by decide) ?_
  refine tt_bipush (pc := 48) (v := (56 : Int32)) C dX3_copyFrom_48 (by decide) ?_
  refine tt_copyC (pc := 50) (ws := (pC cy ad (upd ps 0 (ps2 0)) (va_up (va_up pa 1 (va_cpy (pa2 1) (pa 1) (ix (0 : Int32)) (ix (0 : Int32)) (ix (8 : Int32)))) 2 (va_cpy (pa2 2) (pa 2) (ix (0 : Int32)) (ix (0 : Int32)) (ix (8 : Int32)))) ++ pC cy ad2 ps2 pa2)) (n0 := 56) (n1 := 56) (f := (pa2 3)) (g := (pa 3)) (ws' := (pC cy ad (upd ps 0 (ps2 0)) (va_up (va_up (va_up pa 1 (va_cpy (pa2 1) (pa 1) (ix (0 : Int32)) (ix (0 : Int32)) (ix (8 : Int32)))) 2 (va_cpy (pa2 2) (pa 2) (ix (0 : Int32)) (ix (0 : Int32)) (ix (8 : Int32)))) 3 (va_cpy (pa2 3) (pa 3) (ix (0 : Int32)) (ix (0 : Int32)) (ix (56 : Int32)))) ++ pC cy ad2 ps2 pa2)) C rfl q2_142 q2_133 q2_132 q1_13 7 3 rfl rfl hf (Nat.le_of_ble_eq_true rfl) (Nat.le_of_ble_eq_true rfl) dX3_copyFrom_50 rfl (fun hf => ?_)
  obtain rfl := Option.some.inj hf
  exact tt_vreturn (pc := 53) C rfl rfl rfl dX3_copyFrom_53
theorem dX1_copyFrom_0 : decode cX1_copyFrom 0 = .ok (.aload_n 0, 1) := by decide +kernel
theorem dX1_copyFrom_1 : decode cX1_copyFrom 1 = .ok (.aload_n 1, 1) := by decide +kernel
theorem dX1_copyFrom_2 : decode cX1_copyFrom 2 = .ok (.getfield 9, 3) := by decide +kernel
theorem dX1_copyFrom_5 : decode cX1_copyFrom 5 = .ok (.putfield 9, 3) := by decide +kernel
theorem dX1_copyFrom_8 : decode cX1_copyFrom 8 = .ok (.aload_n 1, 1) := by decide +kernel
theorem dX1_copyFrom_9 : decode cX1_copyFrom 9 = .ok (.getfield 15, 3) := by decide +kernel
theorem dX1_copyFrom_12 : decode cX1_copyFrom 12 = .ok (.iconst 0, 1) := by decide +kernel
theorem dX1_copyFrom_13 : decode cX1_copyFrom 13 = .ok (.aload_n 0, 1) := by decide +kernel
theorem dX1_copyFrom_14 : decode cX1_copyFrom 14 = .ok (.getfield 15, 3) := by decide +kernel
theorem dX1_copyFrom_17 : decode cX1_copyFrom 17 = .ok (.iconst 0, 1) := by decide +kernel
theorem dX1_copyFrom_18 : decode cX1_copyFrom 18 = .ok (.bipush 24, 2) := by decide +kernel
theorem dX1_copyFrom_20 : decode cX1_copyFrom 20 = .ok (.invokestatic 60, 3) := by decide +kernel
theorem dX1_copyFrom_23 : decode cX1_copyFrom 23 = .ok (.aload_n 0, 1) := by decide +kernel
theorem dX1_copyFrom_24 : decode cX1_copyFrom 24 = .ok (.aload_n 1, 1) := by decide +kernel
theorem dX1_copyFrom_25 : decode cX1_copyFrom 25 = .ok (.getfield 19, 3) := by decide +kernel
theorem dX1_copyFrom_28 : decode cX1_copyFrom 28 = .ok (.putfield 19, 3) := by decide +kernel
theorem dX1_copyFrom_31 : decode cX1_copyFrom 31 = .ok (.aload_n 1, 1) := by decide +kernel
theorem dX1_copyFrom_32 : decode cX1_copyFrom 32 = .ok (.getfield 22, 3) := by decide +kernel
theorem dX1_copyFrom_35 : decode cX1_copyFrom 35 = .ok (.iconst 0, 1) := by decide +kernel
theorem dX1_copyFrom_36 : decode cX1_copyFrom 36 = .ok (.aload_n 0, 1) := by decide +kernel
theorem dX1_copyFrom_37 : decode cX1_copyFrom 37 = .ok (.getfield 22, 3) := by decide +kernel
theorem dX1_copyFrom_40 : decode cX1_copyFrom 40 = .ok (.iconst 0, 1) := by decide +kernel
theorem dX1_copyFrom_41 : decode cX1_copyFrom 41 = .ok (.iconst 4, 1) := by decide +kernel
theorem dX1_copyFrom_42 : decode cX1_copyFrom 42 = .ok (.invokestatic 60, 3) := by decide +kernel
theorem dX1_copyFrom_45 : decode cX1_copyFrom 45 = .ok (.aload_n 1, 1) := by decide +kernel
theorem dX1_copyFrom_46 : decode cX1_copyFrom 46 = .ok (.getfield 25, 3) := by decide +kernel
theorem dX1_copyFrom_49 : decode cX1_copyFrom 49 = .ok (.iconst 0, 1) := by decide +kernel
theorem dX1_copyFrom_50 : decode cX1_copyFrom 50 = .ok (.aload_n 0, 1) := by decide +kernel
theorem dX1_copyFrom_51 : decode cX1_copyFrom 51 = .ok (.getfield 25, 3) := by decide +kernel
theorem dX1_copyFrom_54 : decode cX1_copyFrom 54 = .ok (.iconst 0, 1) := by decide +kernel
theorem dX1_copyFrom_55 : decode cX1_copyFrom 55 = .ok (.iconst 4, 1) := by decide +kernel
theorem dX1_copyFrom_56 : decode cX1_copyFrom 56 = .ok (.invokestatic 60, 3) := by decide +kernel
theorem dX1_copyFrom_59 : decode cX1_copyFrom 59 = .ok (.aload_n 1, 1) := by decide +kernel
theorem dX1_copyFrom_60 : decode cX1_copyFrom 60 = .ok (.getfield 28, 3) := by decide +kernel
theorem dX1_copyFrom_63 : decode cX1_copyFrom 63 = .ok (.iconst 0, 1) := by decide +kernel
theorem dX1_copyFrom_64 : decode cX1_copyFrom 64 = .ok (.aload_n 0, 1) := by decide +kernel
theorem dX1_copyFrom_65 : decode cX1_copyFrom 65 = .ok (.getfield 28, 3) := by decide +kernel
theorem dX1_copyFrom_68 : decode cX1_copyFrom 68 = .ok (.iconst 0, 1) := by decide +kernel
theorem dX1_copyFrom_69 : decode cX1_copyFrom 69 = .ok (.iconst 4, 1) := by decide +kernel
theorem dX1_copyFrom_70 : decode cX1_copyFrom 70 = .ok (.invokestatic 60, 3) := by decide +kernel
theorem dX1_copyFrom_73 : decode cX1_copyFrom 73 = .ok (.aload_n 0, 1) := by decide +kernel
theorem dX1_copyFrom_74 : decode cX1_copyFrom 74 = .ok (.aload_n 1, 1) := by decide +kernel
theorem dX1_copyFrom_75 : decode cX1_copyFrom 75 = .ok (.getfield 31, 3) := by decide +kernel
theorem dX1_copyFrom_78 : decode cX1_copyFrom 78 = .ok (.putfield 31, 3) := by decide +kernel
theorem dX1_copyFrom_81 : decode cX1_copyFrom 81 = .ok (.aload_n 1, 1) := by decide +kernel
theorem dX1_copyFrom_82 : decode cX1_copyFrom 82 = .ok (.getfield 34, 3) := by decide +kernel
theorem dX1_copyFrom_85 : decode cX1_copyFrom 85 = .ok (.iconst 0, 1) := by decide +kernel
theorem dX1_copyFrom_86 : decode cX1_copyFrom 86 = .ok (.aload_n 0, 1) := by decide +kernel
theorem dX1_copyFrom_87 : decode cX1_copyFrom 87 = .ok (.getfield 34, 3) := by decide +kernel
theorem dX1_copyFrom_90 : decode cX1_copyFrom 90 = .ok (.iconst 0, 1) := by decide +kernel
theorem dX1_copyFrom_91 : decode cX1_copyFrom 91 = .ok (.iconst 5, 1) := by decide +kernel
theorem dX1_copyFrom_92 : decode cX1_copyFrom 92 = .ok (.invokestatic 60, 3) := by decide +kernel
theorem dX1_copyFrom_95 : decode cX1_copyFrom 95 = .ok (.aload_n 1, 1) := by decide +kernel
theorem dX1_copyFrom_96 : decode cX1_copyFrom 96 = .ok (.getfield 37, 3) := by decide +kernel
theorem dX1_copyFrom_99 : decode cX1_copyFrom 99 = .ok (.iconst 0, 1) := by decide +kernel
theorem dX1_copyFrom_100 : decode cX1_copyFrom 100 = .ok (.aload_n 0, 1) := by decide +kernel
theorem dX1_copyFrom_101 : decode cX1_copyFrom 101 = .ok (.getfield 37, 3) := by decide +kernel
theorem dX1_copyFrom_104 : decode cX1_copyFrom 104 = .ok (.iconst 0, 1) := by decide +kernel
theorem dX1_copyFrom_105 : decode cX1_copyFrom 105 = .ok (.iconst 5, 1) := by decide +kernel
theorem dX1_copyFrom_106 : decode cX1_copyFrom 106 = .ok (.invokestatic 60, 3) := by decide +kernel
theorem dX1_copyFrom_109 : decode cX1_copyFrom 109 = .ok (.aload_n 0, 1) := by decide +kernel
theorem dX1_copyFrom_110 : decode cX1_copyFrom 110 = .ok (.aload_n 1, 1) := by decide +kernel
theorem dX1_copyFrom_111 : decode cX1_copyFrom 111 = .ok (.getfield 40, 3) := by decide +kernel
theorem dX1_copyFrom_114 : decode cX1_copyFrom 114 = .ok (.putfield 40, 3) := by decide +kernel
theorem dX1_copyFrom_117 : decode cX1_copyFrom 117 = .ok (.iconst 0, 1) := by decide +kernel
theorem dX1_copyFrom_118 : decode cX1_copyFrom 118 = .ok (.istore_n 2, 1) := by decide +kernel
theorem dX1_copyFrom_119 : decode cX1_copyFrom 119 = .ok (.iload_n 2, 1) := by decide +kernel
theorem dX1_copyFrom_120 : decode cX1_copyFrom 120 = .ok (.iconst 4, 1) := by decide +kernel
theorem dX1_copyFrom_121 : decode cX1_copyFrom 121 = .ok (.if_icmp .ge 24, 3) := by decide +kernel
theorem dX1_copyFrom_124 : decode cX1_copyFrom 124 = .ok (.aload_n 0, 1) := by decide +kernel
theorem dX1_copyFrom_125 : decode cX1_copyFrom 125 = .ok (.getfield 45, 3) := by decide +kernel
theorem dX1_copyFrom_128 : decode cX1_copyFrom 128 = .ok (.iload_n 2, 1) := by decide +kernel
theorem dX1_copyFrom_129 : decode cX1_copyFrom 129 = .ok (.aaload, 1) := by decide +kernel
theorem dX1_copyFrom_130 : decode cX1_copyFrom 130 = .ok (.aload_n 1, 1) := by decide +kernel
theorem dX1_copyFrom_131 : decode cX1_copyFrom 131 = .ok (.getfield 45, 3) := by decide +kernel
theorem dX1_copyFrom_134 : decode cX1_copyFrom 134 = .ok (.iload_n 2, 1) := by decide +kernel
theorem dX1_copyFrom_135 : decode cX1_copyFrom 135 = .ok (.aaload, 1) := by decide +kernel
theorem dX1_copyFrom_136 : decode cX1_copyFrom 136 = .ok (.invokevirtual 66, 3) := by decide +kernel
theorem dX1_copyFrom_139 : decode cX1_copyFrom 139 = .ok (.iinc 2 1, 3) := by decide +kernel
theorem dX1_copyFrom_142 : decode cX1_copyFrom 142 = .ok (.goto (-23), 3) := by decide +kernel
theorem dX1_copyFrom_145 : decode cX1_copyFrom 145 = .ok (.aload_n 0, 1) := by decide +kernel
theorem dX1_copyFrom_146 : decode cX1_copyFrom 146 = .ok (.aload_n 1, 1) := by decide +kernel
theorem dX1_copyFrom_147 : decode cX1_copyFrom 147 = .ok (.getfield 49, 3) := by decide +kernel
theorem dX1_copyFrom_150 : decode cX1_copyFrom 150 = .ok (.putfield 49, 3) := by decide +kernel
theorem dX1_copyFrom_153 : decode cX1_copyFrom 153 = .ok (.aload_n 0, 1) := by decide +kernel
theorem dX1_copyFrom_154 : decode cX1_copyFrom 154 = .ok (.getfield 55, 3) := by decide +kernel
theorem dX1_copyFrom_157 : decode cX1_copyFrom 157 = .ok (.aload_n 1, 1) := by decide +kernel
theorem dX1_copyFrom_158 : decode cX1_copyFrom 158 = .ok (.getfield 55, 3) := by decide +kernel
theorem dX1_copyFrom_161 : decode cX1_copyFrom 161 = .ok (.invokevirtual 70, 3) := by decide +kernel
theorem dX1_copyFrom_164 : decode cX1_copyFrom 164 = .ok (.return_, 1) := by decide +kernel
set_option maxHeartbeats 4000000 in
set_option maxRecDepth 100000 in
theorem l_X1_copyFrom_119 {p : Program} {l : Launch} {e : Env} {s : State} {m : MethodId} {args : Array Value} {below : List Frame} {meth : Method} {c : Code} {D : va_G} {cy : Nat → ClassId} {A : Nat → Prop} {Bd : Nat} {xa : Xa} {ad ad2 : Nat → Nat} {β : Type} {vO : Option Value} {wO : va_W} {N : Nat} {sc : Nat → Int32} {ar : Nat → Nat → Int32} {ps : Nat → Int32} {pa : Nat → Nat → Int32} {sc2 : Nat → Int32} {ar2 : Nat → Nat → Int32} {tr2 : Nat → Nat → Int32} {ps2 : Nat → Int32} {pa2 : Nat → Nat → Int32} {kx : (Nat → Nat → Int32) → Option (β)} {out : β} (C : CC p s m args meth c cX1_copyFrom RX1 3 none D cy A false Bd xa) (hk : ∀ (tr1 : Nat → Nat → Int32), kx tr1 = some out → TT p l e { frames := 2, cells := 0, slots := 0, locals := 49 } s m args below meth c 3 D A false vO wO 145 [(0, .ref (ad 0)), (1, .ref (ad2 0))] [] (lC cy ad sc ar tr1 ps pa ++ lC cy ad2 sc2 ar2 tr2 ps2 pa2)) {n : Nat} {v2 : Int32} {tr : Nat → Nat → Int32} (hf : f_X1_copyFrom_L119 N sc ar ps pa sc2 ar2 tr2 ps2 pa2 kx n v2 tr = some out) : TT p l e { frames := 2, cells := 0, slots := 0, locals := 49 } s m args below meth c 3 D A false vO wO 119 [(0, .ref (ad 0)), (1, .ref (ad2 0)), (2, .int v2)] [] (lC cy ad sc ar tr ps pa ++ lC cy ad2 sc2 ar2 tr2 ps2 pa2) := by
  induction n generalizing v2 tr with
  | zero => cases hf
  | succ n ih =>
    rw [f_X1_copyFrom_L119] at hf
    refine tt_iload_n (pc := 119) (k := 2) C dX1_copyFrom_119 rfl rfl ?_
    refine tt_iconst (pc := 120) (v := (4 : Int32)) C dX1_copyFrom_120 (by decide) ?_
    refine tt_icmp_ge (pc := 121) (tgt := 145) C dX1_copyFrom_121 (by decide) hf (fun hf => ?_) (fun hf => ?_)
    · exact tt_locs [0, 1] rfl (hk _ hf)
    · refine tt_aload_n (pc := 124) (k := 0) C dX1_copyFrom_124 rfl rfl ?_
      refine tt_get (pc := 125) (ws := (lC cy ad sc ar tr ps pa ++ lC cy ad2 sc2 ar2 tr2 ps2 pa2)) (ci := 1) (v := .ref (ad 10)) C fiX1 rfl 0 rfl 10 (by decide) q1_106 rfl dX1_copyFrom_125 ?_
      refine tt_iload_n (pc := 128) (k := 2) C dX1_copyFrom_128 rfl rfl ?_
      refine tt_aaload (pc := 129) (ws := (lC cy ad sc ar tr ps pa ++ lC cy ad2 sc2 ar2 tr2 ps2 pa2)) (n := 4) (r := (fun j => ad (40 + j))) C 7 4 rfl rfl hf (fun _ _ => rfl) dX1_copyFrom_129 (fun hf hlt1 => ?_)
      refine tt_aload_n (pc := 130) (k := 1) C dX1_copyFrom_130 rfl rfl ?_
      refine tt_get (pc := 131) (ws := (lC cy ad sc ar tr ps pa ++ lC cy ad2 sc2 ar2 tr2 ps2 pa2)) (ci := 1) (v := .ref (ad2 10)) C fiX1 rfl 16 rfl 10 (by decide) q1_106 rfl dX1_copyFrom_131 ?_
      refine tt_iload_n (pc := 134) (k := 2) C dX1_copyFrom_134 rfl rfl ?_
      refine tt_aaload (pc := 135) (ws := (lC cy ad sc ar tr ps pa ++ lC cy ad2 sc2 ar2 tr2 ps2 pa2)) (n := 4) (r := (fun j => ad2 (40 + j))) C 23 4 rfl rfl hf (fun _ _ => rfl) dX1_copyFrom_135 (fun hf hlt2 => ?_)
      obtain ⟨r3, hr3, hf⟩ := bind_some hf
      refine tt_perm (ll_permA hlt1) ?_
      refine tt_callG (pc := 136) (q0 := 0) (ci := 5) (rest := []) (st' := []) C rfl (k_X5_copyFrom hr3) okX5_copyFrom q2_134 rfl rfl [] _ rfl rfl rfl rfl rfl (Nat.le_of_ble_eq_true rfl) ⟨Nat.le_of_ble_eq_true rfl, Nat.le_of_ble_eq_true rfl⟩ dX1_copyFrom_136 ?_
      refine tt_perm (ws2 := (lC cy ad sc ar (va_up tr (ix v2) r3) ps pa ++ lC cy ad2 sc2 ar2 tr2 ps2 pa2)) (ll_permB hlt1) ?_
      refine tt_iinc (pc := 139) (k := 2) (v := (v2 + 1)) (L' := [(2, .int (v2 + 1)), (0, .ref (ad 0)), (1, .ref (ad2 0))]) C dX1_copyFrom_139 rfl rfl (by decide) rfl ?_
      refine tt_goto (pc := 142) (tgt := 119) C dX1_copyFrom_142 (by decide) ?_
      exact tt_locs [1, 2, 0] rfl (ih hf)
set_option maxHeartbeats 4000000 in
set_option maxRecDepth 100000 in
theorem k_X1_copyFrom {l : Launch} {D : va_G} {cy : Nat → ClassId} {Bd : Nat} {xa : Xa} {ad ad2 : Nat → Nat} {N : Nat} {sc : Nat → Int32} {ar : Nat → Nat → Int32} {tr : Nat → Nat → Int32} {ps : Nat → Int32} {pa : Nat → Nat → Int32} {sc2 : Nat → Int32} {ar2 : Nat → Nat → Int32} {tr2 : Nat → Nat → Int32} {ps2 : Nat → Int32} {pa2 : Nat → Nat → Int32} {out : (Nat → Int32) × (Nat → Nat → Int32) × (Nat → Nat → Int32) × (Nat → Int32) × (Nat → Nat → Int32)} (hf : f_X1_copyFrom N sc ar tr ps pa sc2 ar2 tr2 ps2 pa2 = some out) : KC l yX1_copyFrom cX1_copyFrom 3 none 2 49 false D cy Bd xa [.ref (ad 0), .ref (ad2 0)] (lC cy ad sc ar tr ps pa ++ lC cy ad2 sc2 ar2 tr2 ps2 pa2) none (lC cy ad out.1 out.2.1 out.2.2.1 out.2.2.2.1 out.2.2.2.2 ++ lC cy ad2 sc2 ar2 tr2 ps2 pa2) := by
  refine kc_start (own := RX1) (by decide +kernel) rfl (Nat.le_of_ble_eq_true rfl) ?_
  intro p e s m args below meth c A C
  unfold f_X1_copyFrom at hf
  refine tt_locs (L' := [(0, .ref (ad 0)), (1, .ref (ad2 0))]) [0, 1] rfl ?_
  refine tt_aload_n (pc := 0) (k := 0) C dX1_copyFrom_0 rfl rfl ?_
  refine tt_aload_n (pc := 1) (k := 1) C dX1_copyFrom_1 rfl rfl ?_
  refine tt_get (pc := 2) (ws := (lC cy ad sc ar tr ps pa ++ lC cy ad2 sc2 ar2 tr2 ps2 pa2)) (ci := 1) (v := .int (sc2 0)) C fiX1 rfl 16 rfl 0 (by decide) q1_82 rfl dX1_copyFrom_2 ?_
  refine tt_put (pc := 5) (ws := (lC cy ad sc ar tr ps pa ++ lC cy ad2 sc2 ar2 tr2 ps2 pa2)) (ci := 1) (ty := .int) (ws' := (lC cy ad (upd sc 0 (sc2 0)) ar tr ps pa ++ lC cy ad2 sc2 ar2 tr2 ps2 pa2)) C rfl fiX1 rfl 0 rfl 0 (by decide) q1_82 rfl rfl rfl rfl (Nat.le_of_ble_eq_true rfl) dX1_copyFrom_5 rfl ?_
  refine tt_aload_n (pc := 8) (k := 1) C dX1_copyFrom_8 rfl rfl ?_
  refine tt_get (pc := 9) (ws := (lC cy ad (upd sc 0 (sc2 0)) ar tr ps pa ++ lC cy ad2 sc2 ar2 tr2 ps2 pa2)) (ci := 1) (v := .ref (ad2 1)) C fiX1 rfl 16 rfl 1 (by decide) q1_85 rfl dX1_copyFrom_9 ?_
  refine tt_iconst (pc := 12) (v := (0 : Int32)) C dX1_copyFrom_12 (by decide) ?_
  refine tt_aload_n (pc := 13) (k := 0) C dX1_copyFrom_13 rfl rfl ?_
  refine tt_get (pc := 14) (ws := (lC cy ad (upd sc 0 (sc2 0)) ar tr ps pa ++ lC cy ad2 sc2 ar2 tr2 ps2 pa2)) (ci := 1) (v := .ref (ad 1)) C fiX1 rfl 0 rfl 1 (by decide) q1_85 rfl dX1_copyFrom_14 ?_
  refine tt_iconst (pc := 17) (v := (0 : Int32)) C dX1_copyFrom_17 (by decide) ?_
  refine tt_bipush (pc := 18) (v := (24 : Int32)) C dX1_copyFrom_18 (by decide) ?_
  refine tt_copyI (pc := 20) (ws := (lC cy ad (upd sc 0 (sc2 0)) ar tr ps pa ++ lC cy ad2 sc2 ar2 tr2 ps2 pa2)) (n0 := 24) (n1 := 24) (f := (ar2 1)) (g := (ar 1)) (ws' := (lC cy ad (upd sc 0 (sc2 0)) (va_up ar 1 (va_cpy (ar2 1) (ar 1) (ix (0 : Int32)) (ix (0 : Int32)) (ix (24 : Int32)))) tr ps pa ++ lC cy ad2 sc2 ar2 tr2 ps2 pa2)) C rfl q2_131 q2_133 q2_132 q1_13 17 1 rfl rfl hf (Nat.le_of_ble_eq_true rfl) (Nat.le_of_ble_eq_true rfl) dX1_copyFrom_20 rfl (fun hf => ?_)
  refine tt_aload_n (pc := 23) (k := 0) C dX1_copyFrom_23 rfl rfl ?_
  refine tt_aload_n (pc := 24) (k := 1) C dX1_copyFrom_24 rfl rfl ?_
  refine tt_get (pc := 25) (ws := (lC cy ad (upd sc 0 (sc2 0)) (va_up ar 1 (va_cpy (ar2 1) (ar 1) (ix (0 : Int32)) (ix (0 : Int32)) (ix (24 : Int32)))) tr ps pa ++ lC cy ad2 sc2 ar2 tr2 ps2 pa2)) (ci := 1) (v := .int (sc2 2)) C fiX1 rfl 16 rfl 2 (by decide) q1_87 rfl dX1_copyFrom_25 ?_
  refine tt_put (pc := 28) (ws := (lC cy ad (upd sc 0 (sc2 0)) (va_up ar 1 (va_cpy (ar2 1) (ar 1) (ix (0 : Int32)) (ix (0 : Int32)) (ix (24 : Int32)))) tr ps pa ++ lC cy ad2 sc2 ar2 tr2 ps2 pa2)) (ci := 1) (ty := .int) (ws' := (lC cy ad (upd (upd sc 0 (sc2 0)) 2 (sc2 2)) (va_up ar 1 (va_cpy (ar2 1) (ar 1) (ix (0 : Int32)) (ix (0 : Int32)) (ix (24 : Int32)))) tr ps pa ++ lC cy ad2 sc2 ar2 tr2 ps2 pa2)) C rfl fiX1 rfl 0 rfl 2 (by decide) q1_87 rfl rfl rfl rfl (Nat.le_of_ble_eq_true rfl) dX1_copyFrom_28 rfl ?_
  refine tt_aload_n (pc := 31) (k := 1) C dX1_copyFrom_31 rfl rfl ?_
  refine tt_get (pc := 32) (ws := (lC cy ad (upd (upd sc 0 (sc2 0)) 2 (sc2 2)) (va_up ar 1 (va_cpy (ar2 1) (ar 1) (ix (0 : Int32)) (ix (0 : Int32)) (ix (24 : Int32)))) tr ps pa ++ lC cy ad2 sc2 ar2 tr2 ps2 pa2)) (ci := 1) (v := .ref (ad2 3)) C fiX1 rfl 16 rfl 3 (by decide) q1_89 rfl dX1_copyFrom_32 ?_
  refine tt_iconst (pc := 35) (v := (0 : Int32)) C dX1_copyFrom_35 (by decide) ?_
  refine tt_aload_n (pc := 36) (k := 0) C dX1_copyFrom_36 rfl rfl ?_
  refine tt_get (pc := 37) (ws := (lC cy ad (upd (upd sc 0 (sc2 0)) 2 (sc2 2)) (va_up ar 1 (va_cpy (ar2 1) (ar 1) (ix (0 : Int32)) (ix (0 : Int32)) (ix (24 : Int32)))) tr ps pa ++ lC cy ad2 sc2 ar2 tr2 ps2 pa2)) (ci := 1) (v := .ref (ad 3)) C fiX1 rfl 0 rfl 3 (by decide) q1_89 rfl dX1_copyFrom_37 ?_
  refine tt_iconst (pc := 40) (v := (0 : Int32)) C dX1_copyFrom_40 (by decide) ?_
  refine tt_iconst (pc := 41) (v := (4 : Int32)) C dX1_copyFrom_41 (by decide) ?_
  refine tt_copyI (pc := 42) (ws := (lC cy ad (upd (upd sc 0 (sc2 0)) 2 (sc2 2)) (va_up ar 1 (va_cpy (ar2 1) (ar 1) (ix (0 : Int32)) (ix (0 : Int32)) (ix (24 : Int32)))) tr ps pa ++ lC cy ad2 sc2 ar2 tr2 ps2 pa2)) (n0 := 4) (n1 := 4) (f := (ar2 3)) (g := (ar 3)) (ws' := (lC cy ad (upd (upd sc 0 (sc2 0)) 2 (sc2 2)) (va_up (va_up ar 1 (va_cpy (ar2 1) (ar 1) (ix (0 : Int32)) (ix (0 : Int32)) (ix (24 : Int32)))) 3 (va_cpy (ar2 3) (ar 3) (ix (0 : Int32)) (ix (0 : Int32)) (ix (4 : Int32)))) tr ps pa ++ lC cy ad2 sc2 ar2 tr2 ps2 pa2)) C rfl q2_131 q2_133 q2_132 q1_13 18 2 rfl rfl hf (Nat.le_of_ble_eq_true rfl) (Nat.le_of_ble_eq_true rfl) dX1_copyFrom_42 rfl (fun hf => ?_)
  refine tt_aload_n (pc := 45) (k := 1) C dX1_copyFrom_45 rfl rfl ?_
  refine tt_get (pc := 46) (ws := (lC cy ad (upd (upd sc 0 (sc2 0)) 2 (sc2 2)) (va_up (va_up ar 1 (va_cpy (ar2 1) (ar 1) (ix (0 : Int32)) (ix (0 : Int32)) (ix (24 : Int32)))) 3 (va_cpy (ar2 3) (ar 3) (ix (0 : Int32)) (ix (0 : Int32)) (ix (4 : Int32)))) tr ps pa ++ lC cy ad2 sc2 ar2 tr2 ps2 pa2)) (ci := 1) (v := .ref (ad2 4)) C fiX1 rfl 16 rfl 4 (by decide) q1_91 rfl dX1_copyFrom_46 ?_
  refine tt_iconst (pc := 49) (v := (0 : Int32)) C dX1_copyFrom_49 (by decide) ?_
  refine tt_aload_n (pc := 50) (k := 0) C dX1_copyFrom_50 rfl rfl ?_
  refine tt_get (pc := 51) (ws := (lC cy ad (upd (upd sc 0 (sc2 0)) 2 (sc2 2)) (va_up (va_up ar 1 (va_cpy (ar2 1) (ar 1) (ix (0 : Int32)) (ix (0 : Int32)) (ix (24 : Int32)))) 3 (va_cpy (ar2 3) (ar 3) (ix (0 : Int32)) (ix (0 : Int32)) (ix (4 : Int32)))) tr ps pa ++ lC cy ad2 sc2 ar2 tr2 ps2 pa2)) (ci := 1) (v := .ref (ad 4)) C fiX1 rfl 0 rfl 4 (by decide) q1_91 rfl dX1_copyFrom_51 ?_
  refine tt_iconst (pc := 54) (v := (0 : Int32)) C dX1_copyFrom_54 (by decide) ?_
  refine tt_iconst (pc := 55) (v := (4 : Int32)) C dX1_copyFrom_55 (by decide) ?_
  refine tt_copyI (pc := 56) (ws := (lC cy ad (upd (upd sc 0 (sc2 0)) 2 (sc2 2)) (va_up (va_up ar 1 (va_cpy (ar2 1) (ar 1) (ix (0 : Int32)) (ix (0 : Int32)) (ix (24 : Int32)))) 3 (va_cpy (ar2 3) (ar 3) (ix (0 : Int32)) (ix (0 : Int32)) (ix (4 : Int32)))) tr ps pa ++ lC cy ad2 sc2 ar2 tr2 ps2 pa2)) (n0 := 4) (n1 := 4) (f := (ar2 4)) (g := (ar 4)) (ws' := (lC cy ad (upd (upd sc 0 (sc2 0)) 2 (sc2 2)) (va_up (va_up (va_up ar 1 (va_cpy (ar2 1) (ar 1) (ix (0 : Int32)) (ix (0 : Int32)) (ix (24 : Int32)))) 3 (va_cpy (ar2 3) (ar 3) (ix (0 : Int32)) (ix (0 : Int32)) (ix (4 : Int32)))) 4 (va_cpy (ar2 4) (ar 4) (ix (0 : Int32)) (ix (0 : Int32)) (ix (4 : Int32)))) tr ps pa ++ lC cy ad2 sc2 ar2 tr2 ps2 pa2)) C rfl q2_131 q2_133 q2_132 q1_13 19 3 rfl rfl hf (Nat.le_of_ble_eq_true rfl) (Nat.le_of_ble_eq_true rfl) dX1_copyFrom_56 rfl (fun hf => ?_)
  refine tt_aload_n (pc := 59) (k := 1) C dX1_copyFrom_59 rfl rfl ?_
  refine tt_get (pc := 60) (ws := (lC cy ad (upd (upd sc 0 (sc2 0)) 2 (sc2 2)) (va_up (va_up (va_up ar 1 (va_cpy (ar2 1) (ar 1) (ix (0 : Int32)) (ix (0 : Int32)) (ix (24 : Int32)))) 3 (va_cpy (ar2 3) (ar 3) (ix (0 : Int32)) (ix (0 : Int32)) (ix (4 : Int32)))) 4 (va_cpy (ar2 4) (ar 4) (ix (0 : Int32)) (ix (0 : Int32)) (ix (4 : Int32)))) tr ps pa ++ lC cy ad2 sc2 ar2 tr2 ps2 pa2)) (ci := 1) (v := .ref (ad2 5)) C fiX1 rfl 16 rfl 5 (by decide) q1_93 rfl dX1_copyFrom_60 ?_
  refine tt_iconst (pc := 63) (v := (0 : Int32)) C dX1_copyFrom_63 (by decide) ?_
  refine tt_aload_n (pc := 64) (k := 0) C dX1_copyFrom_64 rfl rfl ?_
  refine tt_get (pc := 65) (ws := (lC cy ad (upd (upd sc 0 (sc2 0)) 2 (sc2 2)) (va_up (va_up (va_up ar 1 (va_cpy (ar2 1) (ar 1) (ix (0 : Int32)) (ix (0 : Int32)) (ix (24 : Int32)))) 3 (va_cpy (ar2 3) (ar 3) (ix (0 : Int32)) (ix (0 : Int32)) (ix (4 : Int32)))) 4 (va_cpy (ar2 4) (ar 4) (ix (0 : Int32)) (ix (0 : Int32)) (ix (4 : Int32)))) tr ps pa ++ lC cy ad2 sc2 ar2 tr2 ps2 pa2)) (ci := 1) (v := .ref (ad 5)) C fiX1 rfl 0 rfl 5 (by decide) q1_93 rfl dX1_copyFrom_65 ?_
  refine tt_iconst (pc := 68) (v := (0 : Int32)) C dX1_copyFrom_68 (by decide) ?_
  refine tt_iconst (pc := 69) (v := (4 : Int32)) C dX1_copyFrom_69 (by decide) ?_
  refine tt_copyI (pc := 70) (ws := (lC cy ad (upd (upd sc 0 (sc2 0)) 2 (sc2 2)) (va_up (va_up (va_up ar 1 (va_cpy (ar2 1) (ar 1) (ix (0 : Int32)) (ix (0 : Int32)) (ix (24 : Int32)))) 3 (va_cpy (ar2 3) (ar 3) (ix (0 : Int32)) (ix (0 : Int32)) (ix (4 : Int32)))) 4 (va_cpy (ar2 4) (ar 4) (ix (0 : Int32)) (ix (0 : Int32)) (ix (4 : Int32)))) tr ps pa ++ lC cy ad2 sc2 ar2 tr2 ps2 pa2)) (n0 := 4) (n1 := 4) (f := (ar2 5)) (g := (ar 5)) (ws' := (lC cy ad (upd (upd sc 0 (sc2 0)) 2 (sc2 2)) (va_up (va_up (va_up (va_up ar 1 (va_cpy (ar2 1) (ar 1) (ix (0 : Int32)) (ix (0 : Int32)) (ix (24 : Int32)))) 3 (va_cpy (ar2 3) (ar 3) (ix (0 : Int32)) (ix (0 : Int32)) (ix (4 : Int32)))) 4 (va_cpy (ar2 4) (ar 4) (ix (0 : Int32)) (ix (0 : Int32)) (ix (4 : Int32)))) 5 (va_cpy (ar2 5) (ar 5) (ix (0 : Int32)) (ix (0 : Int32)) (ix (4 : Int32)))) tr ps pa ++ lC cy ad2 sc2 ar2 tr2 ps2 pa2)) C rfl q2_131 q2_133 q2_132 q1_13 20 4 rfl rfl hf (Nat.le_of_ble_eq_true rfl) (Nat.le_of_ble_eq_true rfl) dX1_copyFrom_70 rfl (fun hf => ?_)
  refine tt_aload_n (pc := 73) (k := 0) C dX1_copyFrom_73 rfl rfl ?_
  refine tt_aload_n (pc := 74) (k := 1) C dX1_copyFrom_74 rfl rfl ?_
  refine tt_get (pc := 75) (ws := (lC cy ad (upd (upd sc 0 (sc2 0)) 2 (sc2 2)) (va_up (va_up (va_up (va_up ar 1 (va_cpy (ar2 1) (ar 1) (ix (0 : Int32)) (ix (0 : Int32)) (ix (24 : Int32)))) 3 (va_cpy (ar2 3) (ar 3) (ix (0 : Int32)) (ix (0 : Int32)) (ix (4 : Int32)))) 4 (va_cpy (ar2 4) (ar 4) (ix (0 : Int32)) (ix (0 : Int32)) (ix (4 : Int32)))) 5 (va_cpy (ar2 5) (ar 5) (ix (0 : Int32)) (ix (0 : Int32)) (ix (4 : Int32)))) tr ps pa ++ lC cy ad2 sc2 ar2 tr2 ps2 pa2)) (ci := 1) (v := .int (sc2 6)) C fiX1 rfl 16 rfl 6 (by decide) q1_95 rfl dX1_copyFrom_75 ?_
  refine tt_put (pc := 78) (ws := (lC cy ad (upd (upd sc 0 (sc2 0)) 2 (sc2 2)) (va_up (va_up (va_up (va_up ar 1 (va_cpy (ar2 1) (ar 1) (ix (0 : Int32)) (ix (0 : Int32)) (ix (24 : Int32)))) 3 (va_cpy (ar2 3) (ar 3) (ix (0 : Int32)) (ix (0 : Int32)) (ix (4 : Int32)))) 4 (va_cpy (ar2 4) (ar 4) (ix (0 : Int32)) (ix (0 : Int32)) (ix (4 : Int32)))) 5 (va_cpy (ar2 5) (ar 5) (ix (0 : Int32)) (ix (0 : Int32)) (ix (4 : Int32)))) tr ps pa ++ lC cy ad2 sc2 ar2 tr2 ps2 pa2)) (ci := 1) (ty := .int) (ws' := (lC cy ad (upd (upd (upd sc 0 (sc2 0)) 2 (sc2 2)) 6 (sc2 6)) (va_up (va_up (va_up (va_up ar 1 (va_cpy (ar2 1) (ar 1) (ix (0 : Int32)) (ix (0 : Int32)) (ix (24 : Int32)))) 3 (va_cpy (ar2 3) (ar 3) (ix (0 : Int32)) (ix (0 : Int32)) (ix (4 : Int32)))) 4 (va_cpy (ar2 4) (ar 4) (ix (0 : Int32)) (ix (0 : Int32)) (ix (4 : Int32)))) 5 (va_cpy (ar2 5) (ar 5) (ix (0 : Int32)) (ix (0 : Int32)) (ix (4 : Int32)))) tr ps pa ++ lC cy ad2 sc2 ar2 tr2 ps2 pa2)) C rfl fiX1 rfl 0 rfl 6 (by decide) q1_95 rfl rfl rfl rfl (Nat.le_of_ble_eq_true rfl) dX1_copyFrom_78 rfl ?_
  refine tt_aload_n (pc := 81) (k := 1) C dX1_copyFrom_81 rfl rfl ?_
  refine tt_get (pc := 82) (ws := (lC cy ad (upd (upd (upd sc 0 (sc2 0)) 2 (sc2 2)) 6 (sc2 6)) (va_up (va_up (va_up (va_up ar 1 (va_cpy (ar2 1) (ar 1) (ix (0 : Int32)) (ix (0 : Int32)) (ix (24 : Int32)))) 3 (va_cpy (ar2 3) (ar 3) (ix (0 : Int32)) (ix (0 : Int32)) (ix (4 : Int32)))) 4 (va_cpy (ar2 4) (ar 4) (ix (0 : Int32)) (ix (0 : Int32)) (ix (4 : Int32)))) 5 (va_cpy (ar2 5) (ar 5) (ix (0 : Int32)) (ix (0 : Int32)) (ix (4 : Int32)))) tr ps pa ++ lC cy ad2 sc2 ar2 tr2 ps2 pa2)) (ci := 1) (v := .ref (ad2 7)) C fiX1 rfl 16 rfl 7 (by decide) q1_98 rfl dX1_copyFrom_82 ?_
  refine tt_iconst (pc := 85) (v := (0 : Int32)) C dX1_copyFrom_85 (by decide) ?_
  refine tt_aload_n (pc := 86) (k := 0) C dX1_copyFrom_86 rfl rfl ?_
  refine tt_get (pc := 87) (ws := (lC cy ad (upd (upd (upd sc 0 (sc2 0)) 2 (sc2 2)) 6 (sc2 6)) (va_up (va_up (va_up (va_up ar 1 (va_cpy (ar2 1) (ar 1) (ix (0 : Int32)) (ix (0 : Int32)) (ix (24 : Int32)))) 3 (va_cpy (ar2 3) (ar 3) (ix (0 : Int32)) (ix (0 : Int32)) (ix (4 : Int32)))) 4 (va_cpy (ar2 4) (ar 4) (ix (0 : Int32)) (ix (0 : Int32)) (ix (4 : Int32)))) 5 (va_cpy (ar2 5) (ar 5) (ix (0 : Int32)) (ix (0 : Int32)) (ix (4 : Int32)))) tr ps pa ++ lC cy ad2 sc2 ar2 tr2 ps2 pa2)) (ci := 1) (v := .ref (ad 7)) C fiX1 rfl 0 rfl 7 (by decide) q1_98 rfl dX1_copyFrom_87 ?_
  refine tt_iconst (pc := 90) (v := (0 : Int32)) C dX1_copyFrom_90 (by decide) ?_
  refine tt_iconst (pc := 91) (v := (5 : Int32)) C dX1_copyFrom_91 (by decide) ?_
  refine tt_copyI (pc := 92) (ws := (lC cy ad (upd (upd (upd sc 0 (sc2 0)) 2 (sc2 2)) 6 (sc2 6)) (va_up (va_up (va_up (va_up ar 1 (va_cpy (ar2 1) (ar 1) (ix (0 : Int32)) (ix (0 : Int32)) (ix (24 : Int32)))) 3 (va_cpy (ar2 3) (ar 3) (ix (0 : Int32)) (ix (0 : Int32)) (ix (4 : Int32)))) 4 (va_cpy (ar2 4) (ar 4) (ix (0 : Int32)) (ix (0 : Int32)) (ix (4 : Int32)))) 5 (va_cpy (ar2 5) (ar 5) (ix (0 : Int32)) (ix (0 : Int32)) (ix (4 : Int32)))) tr ps pa ++ lC cy ad2 sc2 ar2 tr2 ps2 pa2)) (n0 := 5) (n1 := 5) (f := (ar2 7)) (g := (ar 7)) (ws' := (lC cy ad (upd (upd (upd sc 0 (sc2 0)) 2 (sc2 2)) 6 (sc2 6)) (va_up (va_up (va_up (va_up (va_up ar 1 (va_cpy (ar2 1) (ar 1) (ix (0 : Int32)) (ix (0 : Int32)) (ix (24 : Int32)))) 3 (va_cpy (ar2 3) (ar 3) (ix (0 : Int32)) (ix (0 : Int32)) (ix (4 : Int32)))) 4 (va_cpy (ar2 4) (ar 4) (ix (0 : Int32)) (ix (0 : Int32)) (ix (4 : Int32)))) 5 (va_cpy (ar2 5) (ar 5) (ix (0 : Int32)) (ix (0 : Int32)) (ix (4 : Int32)))) 7 (va_cpy (ar2 7) (ar 7) (ix (0 : Int32)) (ix (0 : Int32)) (ix (5 : Int32)))) tr ps pa ++ lC cy ad2 sc2 ar2 tr2 ps2 pa2)) C rfl q2_131 q2_133 q2_132 q1_13 21 5 rfl rfl hf (Nat.le_of_ble_eq_true rfl) (Nat.le_of_ble_eq_true rfl) dX1_copyFrom_92 rfl (fun hf => ?_)
  refine tt_aload_n (pc := 95) (k := 1) C dX1_copyFrom_95 rfl rfl ?_
  refine tt_get (pc := 96) (ws := (lC cy ad (upd (upd (upd sc 0 (sc2 0)) 2 (sc2 2)) 6 (sc2 6)) (va_up (va_up (va_up (va_up (va_up ar 1 (va_cpy (ar2 1) (ar 1) (ix (0 : Int32)) (ix (0 : Int32)) (ix (24 : Int32)))) 3 (va_cpy (ar2 3) (ar 3) (ix (0 : Int32)) (ix (0 : Int32)) (ix (4 : Int32)))) 4 (va_cpy (ar2 4) (ar 4) (ix (0 : Int32)) (ix (0 : Int32)) (ix (4 : Int32)))) 5 (va_cpy (ar2 5) (ar 5) (ix (0 : Int32)) (ix (0 : Int32)) (ix (4 : Int32)))) 7 (va_cpy (ar2 7) (ar 7) (ix (0 : Int32)) (ix (0 : Int32)) (ix (5 : Int32)))) tr ps pa ++ lC cy ad2 sc2 ar2 tr2 ps2 pa2)) (ci := 1) (v := .ref (ad2 8)) C fiX1 rfl 16 rfl 8 (by decide) q1_101 rfl dX1_copyFrom_96 ?_
  refine tt_iconst (pc := 99) (v := (0 : Int32)) C dX1_copyFrom_99 (by decide) ?_
  refine tt_aload_n (pc := 100) (k := 0) C dX1_copyFrom_100 rfl rfl ?_
  refine tt_get (pc := 101) (ws := (lC cy ad (upd (upd (upd sc 0 (sc2 0)) 2 (sc2 2)) 6 (sc2 6)) (va_up (va_up (va_up (va_up (va_up ar 1 (va_cpy (ar2 1) (ar 1) (ix (0 : Int32)) (ix (0 : Int32)) (ix (24 : Int32)))) 3 (va_cpy (ar2 3) (ar 3) (ix (0 : Int32)) (ix (0 : Int32)) (ix (4 : Int32)))) 4 (va_cpy (ar2 4) (ar 4) (ix (0 : Int32)) (ix (0 : Int32)) (ix (4 : Int32)))) 5 (va_cpy (ar2 5) (ar 5) (ix (0 : Int32)) (ix (0 : Int32)) (ix (4 : Int32)))) 7 (va_cpy (ar2 7) (ar 7) (ix (0 : Int32)) (ix (0 : Int32)) (ix (5 : Int32)))) tr ps pa ++ lC cy ad2 sc2 ar2 tr2 ps2 pa2)) (ci := 1) (v := .ref (ad 8)) C fiX1 rfl 0 rfl 8 (by decide) q1_101 rfl dX1_copyFrom_101 ?_
  refine tt_iconst (pc := 104) (v := (0 : Int32)) C dX1_copyFrom_104 (by decide) ?_
  refine tt_iconst (pc := 105) (v := (5 : Int32)) C dX1_copyFrom_105 (by decide) ?_
  refine tt_copyI (pc := 106) (ws := (lC cy ad (upd (upd (upd sc 0 (sc2 0)) 2 (sc2 2)) 6 (sc2 6)) (va_up (va_up (va_up (va_up (va_up ar 1 (va_cpy (ar2 1) (ar 1) (ix (0 : Int32)) (ix (0 : Int32)) (ix (24 : Int32)))) 3 (va_cpy (ar2 3) (ar 3) (ix (0 : Int32)) (ix (0 : Int32)) (ix (4 : Int32)))) 4 (va_cpy (ar2 4) (ar 4) (ix (0 : Int32)) (ix (0 : Int32)) (ix (4 : Int32)))) 5 (va_cpy (ar2 5) (ar 5) (ix (0 : Int32)) (ix (0 : Int32)) (ix (4 : Int32)))) 7 (va_cpy (ar2 7) (ar 7) (ix (0 : Int32)) (ix (0 : Int32)) (ix (5 : Int32)))) tr ps pa ++ lC cy ad2 sc2 ar2 tr2 ps2 pa2)) (n0 := 5) (n1 := 5) (f := (ar2 8)) (g := (ar 8)) (ws' := (lC cy ad (upd (upd (upd sc 0 (sc2 0)) 2 (sc2 2)) 6 (sc2 6)) (va_up (va_up (va_up (va_up (va_up (va_up ar 1 (va_cpy (ar2 1) (ar 1) (ix (0 : Int32)) (ix (0 : Int32)) (ix (24 : Int32)))) 3 (va_cpy (ar2 3) (ar 3) (ix (0 : Int32)) (ix (0 : Int32)) (ix (4 : Int32)))) 4 (va_cpy (ar2 4) (ar 4) (ix (0 : Int32)) (ix (0 : Int32)) (ix (4 : Int32)))) 5 (va_cpy (ar2 5) (ar 5) (ix (0 : Int32)) (ix (0 : Int32)) (ix (4 : Int32)))) 7 (va_cpy (ar2 7) (ar 7) (ix (0 : Int32)) (ix (0 : Int32)) (ix (5 : Int32)))) 8 (va_cpy (ar2 8) (ar 8) (ix (0 : Int32)) (ix (0 : Int32)) (ix (5 : Int32)))) tr ps pa ++ lC cy ad2 sc2 ar2 tr2 ps2 pa2)) C rfl q2_131 q2_133 q2_132 q1_13 22 6 rfl rfl hf (Nat.le_of_ble_eq_true rfl) (Nat.le_of_ble_eq_true rfl) dX1_copyFrom_106 rfl (fun hf => ?_)
  refine tt_aload_n (pc := 109) (k := 0) C dX1_copyFrom_109 rfl rfl ?_
  refine tt_aload_n (pc := 110) (k := 1) C dX1_copyFrom_110 rfl rfl ?_
  refine tt_get (pc := 111) (ws := (lC cy ad (upd (upd (upd sc 0 (sc2 0)) 2 (sc2 2)) 6 (sc2 6)) (va_up (va_up (va_up (va_up (va_up (va_up ar 1 (va_cpy (ar2 1) (ar 1) (ix (0 : Int32)) (ix (0 : Int32)) (ix (24 : Int32)))) 3 (va_cpy (ar2 3) (ar 3) (ix (0 : Int32)) (ix (0 : Int32)) (ix (4 : Int32)))) 4 (va_cpy (ar2 4) (ar 4) (ix (0 : Int32)) (ix (0 : Int32)) (ix (4 : Int32)))) 5 (va_cpy (ar2 5) (ar 5) (ix (0 : Int32)) (ix (0 : Int32)) (ix (4 : Int32)))) 7 (va_cpy (ar2 7) (ar 7) (ix (0 : Int32)) (ix (0 : Int32)) (ix (5 : Int32)))) 8 (va_cpy (ar2 8) (ar 8) (ix (0 : Int32)) (ix (0 : Int32)) (ix (5 : Int32)))) tr ps pa ++ lC cy ad2 sc2 ar2 tr2 ps2 pa2)) (ci := 1) (v := .int (sc2 9)) C fiX1 rfl 16 rfl 9 (by decide) q1_104 rfl dX1_copyFrom_111 ?_
  refine tt_put (pc := 114) (ws := (lC cy ad (upd (upd (upd sc 0 (sc2 0)) 2 (sc2 2)) 6 (sc2 6)) (va_up (va_up (va_up (va_up (va_up (va_up ar 1 (va_cpy (ar2 1) (ar 1) (ix (0 : Int32)) (ix (0 : Int32)) (ix (24 : Int32)))) 3 (va_cpy (ar2 3) (ar 3) (ix (0 : Int32)) (ix (0 : Int32)) (ix (4 : Int32)))) 4 (va_cpy (ar2 4) (ar 4) (ix (0 : Int32)) (ix (0 : Int32)) (ix (4 : Int32)))) 5 (va_cpy (ar2 5) (ar 5) (ix (0 : Int32)) (ix (0 : Int32)) (ix (4 : Int32)))) 7 (va_cpy (ar2 7) (ar 7) (ix (0 : Int32)) (ix (0 : Int32)) (ix (5 : Int32)))) 8 (va_cpy (ar2 8) (ar 8) (ix (0 : Int32)) (ix (0 : Int32)) (ix (5 : Int32)))) tr ps pa ++ lC cy ad2 sc2 ar2 tr2 ps2 pa2)) (ci := 1) (ty := .int) (ws' := (lC cy ad (upd (upd (upd (upd sc 0 (sc2 0)) 2 (sc2 2)) 6 (sc2 6)) 9 (sc2 9)) (va_up (va_up (va_up (va_up (va_up (va_up ar 1 (va_cpy (ar2 1) (ar 1) (ix (0 : Int32)) (ix (0 : Int32)) (ix (24 : Int32)))) 3 (va_cpy (ar2 3) (ar 3) (ix (0 : Int32)) (ix (0 : Int32)) (ix (4 : Int32)))) 4 (va_cpy (ar2 4) (ar 4) (ix (0 : Int32)) (ix (0 : Int32)) (ix (4 : Int32)))) 5 (va_cpy (ar2 5) (ar 5) (ix (0 : Int32)) (ix (0 : Int32)) (ix (4 : Int32)))) 7 (va_cpy (ar2 7) (ar 7) (ix (0 : Int32)) (ix (0 : Int32)) (ix (5 : Int32)))) 8 (va_cpy (ar2 8) (ar 8) (ix (0 : Int32)) (ix (0 : Int32)) (ix (5 : Int32)))) tr ps pa ++ lC cy ad2 sc2 ar2 tr2 ps2 pa2)) C rfl fiX1 rfl 0 rfl 9 (by decide) q1_104 rfl rfl rfl rfl (Nat.le_of_ble_eq_true rfl) dX1_copyFrom_114 rfl ?_
  refine tt_iconst (pc := 117) (v := (0 : Int32)) C dX1_copyFrom_117 (by decide) ?_
  refine tt_istore_n (pc := 118) (L' := [(2, .int (0 : Int32)), (0, .ref (ad 0)), (1, .ref (ad2 0))]) C dX1_copyFrom_118 rfl (by decide) rfl ?_
  refine tt_locs (L' := [(0, .ref (ad 0)), (1, .ref (ad2 0)), (2, .int (0 : Int32))]) [1, 2, 0] rfl (l_X1_copyFrom_119 C (fun t4 hf => ?_) hf)
  refine tt_aload_n (pc := 145) (k := 0) C dX1_copyFrom_145 rfl rfl ?_
  refine tt_aload_n (pc := 146) (k := 1) C dX1_copyFrom_146 rfl rfl ?_
  refine tt_get (pc := 147) (ws := (lC cy ad (upd (upd (upd (upd sc 0 (sc2 0)) 2 (sc2 2)) 6 (sc2 6)) 9 (sc2 9)) (va_up (va_up (va_up (va_up (va_up (va_up ar 1 (va_cpy (ar2 1) (ar 1) (ix (0 : Int32)) (ix (0 : Int32)) (ix (24 : Int32)))) 3 (va_cpy (ar2 3) (ar 3) (ix (0 : Int32)) (ix (0 : Int32)) (ix (4 : Int32)))) 4 (va_cpy (ar2 4) (ar 4) (ix (0 : Int32)) (ix (0 : Int32)) (ix (4 : Int32)))) 5 (va_cpy (ar2 5) (ar 5) (ix (0 : Int32)) (ix (0 : Int32)) (ix (4 : Int32)))) 7 (va_cpy (ar2 7) (ar 7) (ix (0 : Int32)) (ix (0 : Int32)) (ix (5 : Int32)))) 8 (va_cpy (ar2 8) (ar 8) (ix (0 : Int32)) (ix (0 : Int32)) (ix (5 : Int32)))) t4 ps pa ++ lC cy ad2 sc2 ar2 tr2 ps2 pa2)) (ci := 1) (v := .int (sc2 11)) C fiX1 rfl 16 rfl 11 (by decide) q1_108 rfl dX1_copyFrom_147 ?_
  refine tt_put (pc := 150) (ws := (lC cy ad (upd (upd (upd (upd sc 0 (sc2 0)) 2 (sc2 2)) 6 (sc2 6)) 9 (sc2 9)) (va_up (va_up (va_up (va_up (va_up (va_up ar 1 (va_cpy (ar2 1) (ar 1) (ix (0 : Int32)) (ix (0 : Int32)) (ix (24 : Int32)))) 3 (va_cpy (ar2 3) (ar 3) (ix (0 : Int32)) (ix (0 : Int32)) (ix (4 : Int32)))) 4 (va_cpy (ar2 4) (ar 4) (ix (0 : Int32)) (ix (0 : Int32)) (ix (4 : Int32)))) 5 (va_cpy (ar2 5) (ar 5) (ix (0 : Int32)) (ix (0 : Int32)) (ix (4 : Int32)))) 7 (va_cpy (ar2 7) (ar 7) (ix (0 : Int32)) (ix (0 : Int32)) (ix (5 : Int32)))) 8 (va_cpy (ar2 8) (ar 8) (ix (0 : Int32)) (ix (0 : Int32)) (ix (5 : Int32)))) t4 ps pa ++ lC cy ad2 sc2 ar2 tr2 ps2 pa2)) (ci := 1) (ty := .int) (ws' := (lC cy ad (upd (upd (upd (upd (upd sc 0 (sc2 0)) 2 (sc2 2)) 6 (sc2 6)) 9 (sc2 9)) 11 (sc2 11)) (va_up (va_up (va_up (va_up (va_up (va_up ar 1 (va_cpy (ar2 1) (ar 1) (ix (0 : Int32)) (ix (0 : Int32)) (ix (24 : Int32)))) 3 (va_cpy (ar2 3) (ar 3) (ix (0 : Int32)) (ix (0 : Int32)) (ix (4 : Int32)))) 4 (va_cpy (ar2 4) (ar 4) (ix (0 : Int32)) (ix (0 : Int32)) (ix (4 : Int32)))) 5 (va_cpy (ar2 5) (ar 5) (ix (0 : Int32)) (ix (0 : Int32)) (ix (4 : Int32)))) 7 (va_cpy (ar2 7) (ar 7) (ix (0 : Int32)) (ix (0 : Int32)) (ix (5 : Int32)))) 8 (va_cpy (ar2 8) (ar 8) (ix (0 : Int32)) (ix (0 : Int32)) (ix (5 : Int32)))) t4 ps pa ++ lC cy ad2 sc2 ar2 tr2 ps2 pa2)) C rfl fiX1 rfl 0 rfl 11 (by decide) q1_108 rfl rfl rfl rfl (Nat.le_of_ble_eq_true rfl) dX1_copyFrom_150 rfl ?_
  refine tt_aload_n (pc := 153) (k := 0) C dX1_copyFrom_153 rfl rfl ?_
  refine tt_get (pc := 154) (ws := (lC cy ad (upd (upd (upd (upd (upd sc 0 (sc2 0)) 2 (sc2 2)) 6 (sc2 6)) 9 (sc2 9)) 11 (sc2 11)) (va_up (va_up (va_up (va_up (va_up (va_up ar 1 (va_cpy (ar2 1) (ar 1) (ix (0 : Int32)) (ix (0 : Int32)) (ix (24 : Int32)))) 3 (va_cpy (ar2 3) (ar 3) (ix (0 : Int32)) (ix (0 : Int32)) (ix (4 : Int32)))) 4 (va_cpy (ar2 4) (ar 4) (ix (0 : Int32)) (ix (0 : Int32)) (ix (4 : Int32)))) 5 (va_cpy (ar2 5) (ar 5) (ix (0 : Int32)) (ix (0 : Int32)) (ix (4 : Int32)))) 7 (va_cpy (ar2 7) (ar 7) (ix (0 : Int32)) (ix (0 : Int32)) (ix (5 : Int32)))) 8 (va_cpy (ar2 8) (ar 8) (ix (0 : Int32)) (ix (0 : Int32)) (ix (5 : Int32)))) t4 ps pa ++ lC cy ad2 sc2 ar2 tr2 ps2 pa2)) (ci := 1) (v := .ref (ad 12)) C fiX1 rfl 0 rfl 12 (by decide) q1_110 rfl dX1_copyFrom_154 ?_
  refine tt_aload_n (pc := 157) (k := 1) C dX1_copyFrom_157 rfl rfl ?_
  refine tt_get (pc := 158) (ws := (lC cy ad (upd (upd (upd (upd (upd sc 0 (sc2 0)) 2 (sc2 2)) 6 (sc2 6)) 9 (sc2 9)) 11 (sc2 11)) (va_up (va_up (va_up (va_up (va_up (va_up ar 1 (va_cpy (ar2 1) (ar 1) (ix (0 : Int32)) (ix (0 : Int32)) (ix (24 : Int32)))) 3 (va_cpy (ar2 3) (ar 3) (ix (0 : Int32)) (ix (0 : Int32)) (ix (4 : Int32)))) 4 (va_cpy (ar2 4) (ar 4) (ix (0 : Int32)) (ix (0 : Int32)) (ix (4 : Int32)))) 5 (va_cpy (ar2 5) (ar 5) (ix (0 : Int32)) (ix (0 : Int32)) (ix (4 : Int32)))) 7 (va_cpy (ar2 7) (ar 7) (ix (0 : Int32)) (ix (0 : Int32)) (ix (5 : Int32)))) 8 (va_cpy (ar2 8) (ar 8) (ix (0 : Int32)) (ix (0 : Int32)) (ix (5 : Int32)))) t4 ps pa ++ lC cy ad2 sc2 ar2 tr2 ps2 pa2)) (ci := 1) (v := .ref (ad2 12)) C fiX1 rfl 16 rfl 12 (by decide) q1_110 rfl dX1_copyFrom_158 ?_
  obtain ⟨r5, hr5, hf⟩ := bind_some hf
  refine tt_perm ll_permP ?_
  refine tt_callG (pc := 161) (q0 := 0) (ci := 3) (rest := []) (st' := []) C rfl (k_X3_copyFrom hr5) okX3_copyFrom q2_138 rfl rfl [] _ rfl rfl rfl rfl rfl (Nat.le_of_ble_eq_true rfl) ⟨Nat.le_of_ble_eq_true rfl, Nat.le_of_ble_eq_true rfl⟩ dX1_copyFrom_161 ?_
  refine tt_perm (ws2 := (lC cy ad (upd (upd (upd (upd (upd sc 0 (sc2 0)) 2 (sc2 2)) 6 (sc2 6)) 9 (sc2 9)) 11 (sc2 11)) (va_up (va_up (va_up (va_up (va_up (va_up ar 1 (va_cpy (ar2 1) (ar 1) (ix (0 : Int32)) (ix (0 : Int32)) (ix (24 : Int32)))) 3 (va_cpy (ar2 3) (ar 3) (ix (0 : Int32)) (ix (0 : Int32)) (ix (4 : Int32)))) 4 (va_cpy (ar2 4) (ar 4) (ix (0 : Int32)) (ix (0 : Int32)) (ix (4 : Int32)))) 5 (va_cpy (ar2 5) (ar 5) (ix (0 : Int32)) (ix (0 : Int32)) (ix (4 : Int32)))) 7 (va_cpy (ar2 7) (ar 7) (ix (0 : Int32)) (ix (0 : Int32)) (ix (5 : Int32)))) 8 (va_cpy (ar2 8) (ar 8) (ix (0 : Int32)) (ix (0 : Int32)) (ix (5 : Int32)))) t4 r5.1 r5.2 ++ lC cy ad2 sc2 ar2 tr2 ps2 pa2)) ll_permQ ?_
  obtain rfl := Option.some.inj hf
  exact tt_vreturn (pc := 164) C rfl rfl rfl dX1_copyFrom_164
theorem dX0_rewind_0 : decode cX0_rewind 0 = .ok (.aload_n 0, 1) := by decide +kernel
theorem dX0_rewind_1 : decode cX0_rewind 1 = .ok (.iconst 0, 1) := by decide +kernel
theorem dX0_rewind_2 : decode cX0_rewind 2 = .ok (.putfield 15, 3) := by decide +kernel
theorem dX0_rewind_5 : decode cX0_rewind 5 = .ok (.return_, 1) := by decide +kernel
set_option maxHeartbeats 4000000 in
set_option maxRecDepth 100000 in
theorem k_X0_rewind {l : Launch} {D : va_G} {cy : Nat → ClassId} {Bd : Nat} {xa : Xa} {ed : Nat → Nat} {N : Nat} {es : Nat → Int32} {ea : Nat → Nat → Int32} {out : (Nat → Int32)} (hf : f_X0_rewind N es = some out) : KC l yX0_rewind cX0_rewind 1 none 0 0 false D cy Bd xa [.ref (ed 0)] (eC cy ed es ea) none (eC cy ed out ea) := by
  refine kc_start (own := RX0) (by decide +kernel) rfl (Nat.le_of_ble_eq_true rfl) ?_
  intro p e s m args below meth c A C
  unfold f_X0_rewind at hf
  refine tt_locs (L' := [(0, .ref (ed 0))]) [0] rfl ?_
  refine tt_aload_n (pc := 0) (k := 0) C dX0_rewind_0 rfl rfl ?_
  refine tt_iconst (pc := 1) (v := (0 : Int32)) C dX0_rewind_1 (by decide) ?_
  refine tt_put (pc := 2) (ws := (eC cy ed es ea)) (ci := 0) (ty := .int) (ws' := (eC cy ed (upd es 1 (0 : Int32)) ea)) C rfl fiX0 rfl 0 eC_obj 1 (by decide) q1_148 rfl rfl rfl rfl (Nat.le_of_ble_eq_true rfl) dX0_rewind_2 eC_put1 ?_
  obtain rfl := Option.some.inj hf
  exact tt_vreturn (pc := 5) C rfl rfl rfl dX0_rewind_5
theorem dX1_hasCell_0 : decode cX1_hasCell 0 = .ok (.iload_n 1, 1) := by decide +kernel
theorem dX1_hasCell_1 : decode cX1_hasCell 1 = .ok (.ifCond .lt 15, 3) := by decide +kernel
theorem dX1_hasCell_4 : decode cX1_hasCell 4 = .ok (.iload_n 1, 1) := by decide +kernel
theorem dX1_hasCell_5 : decode cX1_hasCell 5 = .ok (.aload_n 0, 1) := by decide +kernel
theorem dX1_hasCell_6 : decode cX1_hasCell 6 = .ok (.getfield 9, 3) := by decide +kernel
theorem dX1_hasCell_9 : decode cX1_hasCell 9 = .ok (.if_icmp .ge 7, 3) := by decide +kernel
theorem dX1_hasCell_12 : decode cX1_hasCell 12 = .ok (.iconst 1, 1) := by decide +kernel
theorem dX1_hasCell_13 : decode cX1_hasCell 13 = .ok (.goto 4, 3) := by decide +kernel
theorem dX1_hasCell_16 : decode cX1_hasCell 16 = .ok (.iconst 0, 1) := by decide +kernel
theorem dX1_hasCell_17 : decode cX1_hasCell 17 = .ok (.ireturn, 1) := by decide +kernel
set_option maxHeartbeats 4000000 in
set_option maxRecDepth 100000 in
theorem k_X1_hasCell {l : Launch} {D : va_G} {cy : Nat → ClassId} {Bd : Nat} {xa : Xa} {ad : Nat → Nat} {N : Nat} {sc : Nat → Int32} {ar : Nat → Nat → Int32} {tr : Nat → Nat → Int32} {ps : Nat → Int32} {pa : Nat → Nat → Int32} {a1 : Int32} {out : Int32} (hf : f_X1_hasCell N sc a1 = some out) : KC l yX1_hasCell cX1_hasCell 2 (some .boolean) 0 0 true D cy Bd xa [.ref (ad 0), .int a1] (lC cy ad sc ar tr ps pa) (some (.int out)) (lC cy ad sc ar tr ps pa) := by
  refine kc_start (own := RX1) (by decide +kernel) rfl (Nat.le_of_ble_eq_true rfl) ?_
  intro p e s m args below meth c A C
  unfold f_X1_hasCell at hf
  refine tt_locs (L' := [(0, .ref (ad 0)), (1, .int a1)]) [0, 1] rfl ?_
  refine tt_iload_n (pc := 0) (k := 1) C dX1_hasCell_0 rfl rfl ?_
  have k3 : TT p l e { frames := 0, cells := 0, slots := 0, locals := 0 } s m args below meth c 2 D A true (some (.int out)) (lC cy ad sc ar tr ps pa) 17 [] [.int (if a1 < 0 then (0 : Int32) else (if (sc 0) ≤ a1 then (0 : Int32) else (1 : Int32)))] (lC cy ad sc ar tr ps pa) := by
    obtain rfl := Option.some.inj hf
    exact tt_zreturn (pc := 17) C rfl (nb_if rfl (nb_if rfl rfl)) rfl rfl dX1_hasCell_17
  refine tr_if_lt (pc := 1) (tgt := 16) C dX1_hasCell_1 (by decide) (fun c1 => ?_) (fun c1 => ?_)
  · refine tt_iconst (pc := 16) (v := (0 : Int32)) C dX1_hasCell_16 (by decide) ?_
    try simp only [if_pos c1] at k3 ⊢
    exact tt_locs [] rfl k3
  · refine tt_iload_n (pc := 4) (k := 1) C dX1_hasCell_4 rfl rfl ?_
    refine tt_aload_n (pc := 5) (k := 0) C dX1_hasCell_5 rfl rfl ?_
    refine tt_get (pc := 6) (ws := (lC cy ad sc ar tr ps pa)) (ci := 1) (v := .int (sc 0)) C fiX1 rfl 0 lC_obj 0 (by decide) q1_82 rfl dX1_hasCell_6 ?_
    refine tr_icmp_ge (pc := 9) (tgt := 16) C dX1_hasCell_9 (by decide) (fun c2 => ?_) (fun c2 => ?_)
    · refine tt_iconst (pc := 16) (v := (0 : Int32)) C dX1_hasCell_16 (by decide) ?_
      try simp only [if_neg c1, if_pos c2] at k3 ⊢
      exact tt_locs [] rfl k3
    · refine tt_iconst (pc := 12) (v := (1 : Int32)) C dX1_hasCell_12 (by decide) ?_
      refine tt_goto (pc := 13) (tgt := 17) C dX1_hasCell_13 (by decide) ?_
      try simp only [if_neg c1, if_neg c2] at k3 ⊢
      exact tt_locs [] rfl k3
theorem dX1_setGround_0 : decode cX1_setGround 0 = .ok (.aload_n 0, 1) := by decide +kernel
theorem dX1_setGround_1 : decode cX1_setGround 1 = .ok (.iload_n 1, 1) := by decide +kernel
theorem dX1_setGround_2 : decode cX1_setGround 2 = .ok (.invokevirtual 83, 3) := by decide +kernel
theorem dX1_setGround_5 : decode cX1_setGround 5 = .ok (.ifCond .ne 5, 3) := by decide +kernel
theorem dX1_setGround_8 : decode cX1_setGround 8 = .ok (.iconst (-1), 1) := by decide +kernel
theorem dX1_setGround_9 : decode cX1_setGround 9 = .ok (.ireturn, 1) := by decide +kernel
theorem dX1_setGround_10 : decode cX1_setGround 10 = .ok (.iload_n 2, 1) := by decide +kernel
theorem dX1_setGround_11 : decode cX1_setGround 11 = .ok (.ifCond .ge 6, 3) := by decide +kernel
theorem dX1_setGround_14 : decode cX1_setGround 14 = .ok (.bipush (-4), 2) := by decide +kernel
theorem dX1_setGround_16 : decode cX1_setGround 16 = .ok (.ireturn, 1) := by decide +kernel
theorem dX1_setGround_17 : decode cX1_setGround 17 = .ok (.iload_n 2, 1) := by decide +kernel
theorem dX1_setGround_18 : decode cX1_setGround 18 = .ok (.bipush 30, 2) := by decide +kernel
theorem dX1_setGround_20 : decode cX1_setGround 20 = .ok (.if_icmp .le 6, 3) := by decide +kernel
theorem dX1_setGround_23 : decode cX1_setGround 23 = .ok (.bipush (-6), 2) := by decide +kernel
theorem dX1_setGround_25 : decode cX1_setGround 25 = .ok (.ireturn, 1) := by decide +kernel
theorem dX1_setGround_26 : decode cX1_setGround 26 = .ok (.aload_n 0, 1) := by decide +kernel
theorem dX1_setGround_27 : decode cX1_setGround 27 = .ok (.getfield 15, 3) := by decide +kernel
theorem dX1_setGround_30 : decode cX1_setGround 30 = .ok (.iload_n 1, 1) := by decide +kernel
theorem dX1_setGround_31 : decode cX1_setGround 31 = .ok (.iaload, 1) := by decide +kernel
theorem dX1_setGround_32 : decode cX1_setGround 32 = .ok (.istore_n 3, 1) := by decide +kernel
theorem dX1_setGround_33 : decode cX1_setGround 33 = .ok (.aload_n 0, 1) := by decide +kernel
theorem dX1_setGround_34 : decode cX1_setGround 34 = .ok (.getfield 15, 3) := by decide +kernel
theorem dX1_setGround_37 : decode cX1_setGround 37 = .ok (.iload_n 1, 1) := by decide +kernel
theorem dX1_setGround_38 : decode cX1_setGround 38 = .ok (.iload_n 2, 1) := by decide +kernel
theorem dX1_setGround_39 : decode cX1_setGround 39 = .ok (.iastore, 1) := by decide +kernel
theorem dX1_setGround_40 : decode cX1_setGround 40 = .ok (.iload_n 3, 1) := by decide +kernel
theorem dX1_setGround_41 : decode cX1_setGround 41 = .ok (.ireturn, 1) := by decide +kernel
set_option maxHeartbeats 4000000 in
set_option maxRecDepth 100000 in
theorem k_X1_setGround {l : Launch} {D : va_G} {cy : Nat → ClassId} {Bd : Nat} {xa : Xa} {ad : Nat → Nat} {N : Nat} {sc : Nat → Int32} {ar : Nat → Nat → Int32} {tr : Nat → Nat → Int32} {ps : Nat → Int32} {pa : Nat → Nat → Int32} {a1 : Int32} {a2 : Int32} {out : Int32 × (Nat → Nat → Int32)} (hf : f_X1_setGround N sc ar a1 a2 = some out) : KC l yX1_setGround cX1_setGround 4 (some .int) 1 21 false D cy Bd xa [.ref (ad 0), .int a1, .int a2] (lC cy ad sc ar tr ps pa) (some (.int out.1)) (lC cy ad sc out.2 tr ps pa) := by
  refine kc_start (own := RX1) (by decide +kernel) rfl (Nat.le_of_ble_eq_true rfl) ?_
  intro p e s m args below meth c A C
  unfold f_X1_setGround at hf
  refine tt_locs (L' := [(0, .ref (ad 0)), (1, .int a1), (2, .int a2)]) [0, 1, 2] rfl ?_
  refine tt_aload_n (pc := 0) (k := 0) C dX1_setGround_0 rfl rfl ?_
  refine tt_iload_n (pc := 1) (k := 1) C dX1_setGround_1 rfl rfl ?_
  obtain ⟨r1, hr1, hf⟩ := bind_some hf
  refine tt_callR (pc := 2) (ws := (lC cy ad sc ar tr ps pa)) (q0 := 0) (ci := 1) (rest := []) (st' := [.int r1]) C (k_X1_hasCell hr1) okX1_hasCell q2_157 rfl lC_obj (fun _ h => h) rfl rfl rfl (Nat.le_of_ble_eq_true rfl) ⟨Nat.le_of_ble_eq_true rfl, Nat.le_of_ble_eq_true rfl⟩ dX1_setGround_2 ?_
  refine tt_if_ne (pc := 5) (tgt := 10) C dX1_setGround_5 (by decide) hf (fun hf => ?_) (fun hf => ?_)
  · refine tt_iload_n (pc := 10) (k := 2) C dX1_setGround_10 rfl rfl ?_
    refine tt_if_ge (pc := 11) (tgt := 17) C dX1_setGround_11 (by decide) hf (fun hf => ?_) (fun hf => ?_)
    · refine tt_iload_n (pc := 17) (k := 2) C dX1_setGround_17 rfl rfl ?_
      refine tt_bipush (pc := 18) (v := (30 : Int32)) C dX1_setGround_18 (by decide) ?_
      refine tt_icmp_le (pc := 20) (tgt := 26) C dX1_setGround_20 (by decide) hf (fun hf => ?_) (fun hf => ?_)
      · refine tt_aload_n (pc := 26) (k := 0) C dX1_setGround_26 rfl rfl ?_
        refine tt_get (pc := 27) (ws := (lC cy ad sc ar tr ps pa)) (ci := 1) (v := .ref (ad 1)) C fiX1 rfl 0 lC_obj 1 (by decide) q1_85 rfl dX1_setGround_27 ?_
        refine tt_iload_n (pc := 30) (k := 1) C dX1_setGround_30 rfl rfl ?_
        refine tt_iaload (pc := 31) (ws := (lC cy ad sc ar tr ps pa)) (n := 24) (f := (ar 1)) C 1 0 lC_get1 rfl hf dX1_setGround_31 (fun hf => ?_)
        refine tt_istore_n (pc := 32) (L' := [(3, .int ((ar 1) (ix a1))), (0, .ref (ad 0)), (1, .int a1), (2, .int a2)]) C dX1_setGround_32 rfl (by decide) rfl ?_
        refine tt_aload_n (pc := 33) (k := 1) C dX1_setGround_33 rfl rfl ?_
        refine tt_get (pc := 34) (ws := (lC cy ad sc ar tr ps pa)) (ci := 1) (v := .ref (ad 1)) C fiX1 rfl 0 lC_obj 1 (by decide) q1_85 rfl dX1_setGround_34 ?_
        refine tt_iload_n (pc := 37) (k := 2) C dX1_setGround_37 rfl rfl ?_
        refine tt_iload_n (pc := 38) (k := 3) C dX1_setGround_38 rfl rfl ?_
        refine tt_iastore (pc := 39) (ws := (lC cy ad sc ar tr ps pa)) (n := 24) (f := (ar 1)) (ws' := (lC cy ad sc (va_up ar 1 (upd (ar 1) (ix a1) a2)) tr ps pa)) C rfl 1 0 lC_get1 rfl hf dX1_setGround_39 lC_set1 (fun hf => ?_)
        refine tt_iload_n (pc := 40) (k := 0) C dX1_setGround_40 rfl rfl ?_
        obtain rfl := Option.some.inj hf
        exact tt_ireturn (pc := 41) C rfl rfl rfl dX1_setGround_41
      · refine tt_bipush (pc := 23) (v := (-6 : Int32)) C dX1_setGround_23 (by decide) ?_
        obtain rfl := Option.some.inj hf
        exact tt_ireturn (pc := 25) C rfl rfl rfl dX1_setGround_25
    · refine tt_bipush (pc := 14) (v := (-4 : Int32)) C dX1_setGround_14 (by decide) ?_
      obtain rfl := Option.some.inj hf
      exact tt_ireturn (pc := 16) C rfl rfl rfl dX1_setGround_16
  · refine tt_iconst (pc := 8) (v := (-1 : Int32)) C dX1_setGround_8 (by decide) ?_
    obtain rfl := Option.some.inj hf
    exact tt_ireturn (pc := 9) C rfl rfl rfl dX1_setGround_9
theorem dX1_addBridge_0 : decode cX1_addBridge 0 = .ok (.aload_n 0, 1) := by decide +kernel
theorem dX1_addBridge_1 : decode cX1_addBridge 1 = .ok (.iload_n 1, 1) := by decide +kernel
theorem dX1_addBridge_2 : decode cX1_addBridge 2 = .ok (.invokevirtual 83, 3) := by decide +kernel
theorem dX1_addBridge_5 : decode cX1_addBridge 5 = .ok (.ifCond .ne 5, 3) := by decide +kernel
theorem dX1_addBridge_8 : decode cX1_addBridge 8 = .ok (.iconst (-1), 1) := by decide +kernel
theorem dX1_addBridge_9 : decode cX1_addBridge 9 = .ok (.ireturn, 1) := by decide +kernel
theorem dX1_addBridge_10 : decode cX1_addBridge 10 = .ok (.iload_n 2, 1) := by decide +kernel
theorem dX1_addBridge_11 : decode cX1_addBridge 11 = .ok (.ifCond .lt 7, 3) := by decide +kernel
theorem dX1_addBridge_14 : decode cX1_addBridge 14 = .ok (.iload_n 3, 1) := by decide +kernel
theorem dX1_addBridge_15 : decode cX1_addBridge 15 = .ok (.ifCond .ge 6, 3) := by decide +kernel
theorem dX1_addBridge_18 : decode cX1_addBridge 18 = .ok (.bipush (-4), 2) := by decide +kernel
theorem dX1_addBridge_20 : decode cX1_addBridge 20 = .ok (.ireturn, 1) := by decide +kernel
theorem dX1_addBridge_21 : decode cX1_addBridge 21 = .ok (.iload_n 2, 1) := by decide +kernel
theorem dX1_addBridge_22 : decode cX1_addBridge 22 = .ok (.bipush 60, 2) := by decide +kernel
theorem dX1_addBridge_24 : decode cX1_addBridge 24 = .ok (.if_icmp .gt 17, 3) := by decide +kernel
theorem dX1_addBridge_27 : decode cX1_addBridge 27 = .ok (.iload_n 3, 1) := by decide +kernel
theorem dX1_addBridge_28 : decode cX1_addBridge 28 = .ok (.bipush 60, 2) := by decide +kernel
theorem dX1_addBridge_30 : decode cX1_addBridge 30 = .ok (.if_icmp .gt 11, 3) := by decide +kernel
theorem dX1_addBridge_33 : decode cX1_addBridge 33 = .ok (.aload_n 0, 1) := by decide +kernel
theorem dX1_addBridge_34 : decode cX1_addBridge 34 = .ok (.getfield 19, 3) := by decide +kernel
theorem dX1_addBridge_37 : decode cX1_addBridge 37 = .ok (.iconst 4, 1) := by decide +kernel
theorem dX1_addBridge_38 : decode cX1_addBridge 38 = .ok (.if_icmp .lt 6, 3) := by decide +kernel
theorem dX1_addBridge_41 : decode cX1_addBridge 41 = .ok (.bipush (-6), 2) := by decide +kernel
theorem dX1_addBridge_43 : decode cX1_addBridge 43 = .ok (.ireturn, 1) := by decide +kernel
theorem dX1_addBridge_44 : decode cX1_addBridge 44 = .ok (.iload_n 2, 1) := by decide +kernel
theorem dX1_addBridge_45 : decode cX1_addBridge 45 = .ok (.iload_n 3, 1) := by decide +kernel
theorem dX1_addBridge_46 : decode cX1_addBridge 46 = .ok (.if_icmp .le 6, 3) := by decide +kernel
theorem dX1_addBridge_49 : decode cX1_addBridge 49 = .ok (.bipush (-3), 2) := by decide +kernel
theorem dX1_addBridge_51 : decode cX1_addBridge 51 = .ok (.ireturn, 1) := by decide +kernel
theorem dX1_addBridge_52 : decode cX1_addBridge 52 = .ok (.aload_n 0, 1) := by decide +kernel
theorem dX1_addBridge_53 : decode cX1_addBridge 53 = .ok (.getfield 22, 3) := by decide +kernel
theorem dX1_addBridge_56 : decode cX1_addBridge 56 = .ok (.aload_n 0, 1) := by decide +kernel
theorem dX1_addBridge_57 : decode cX1_addBridge 57 = .ok (.getfield 19, 3) := by decide +kernel
theorem dX1_addBridge_60 : decode cX1_addBridge 60 = .ok (.iload_n 1, 1) := by decide +kernel
theorem dX1_addBridge_61 : decode cX1_addBridge 61 = .ok (.iastore, 1) := by decide +kernel
theorem dX1_addBridge_62 : decode cX1_addBridge 62 = .ok (.aload_n 0, 1) := by decide +kernel
theorem dX1_addBridge_63 : decode cX1_addBridge 63 = .ok (.getfield 25, 3) := by decide +kernel
theorem dX1_addBridge_66 : decode cX1_addBridge 66 = .ok (.aload_n 0, 1) := by decide +kernel
theorem dX1_addBridge_67 : decode cX1_addBridge 67 = .ok (.getfield 19, 3) := by decide +kernel
theorem dX1_addBridge_70 : decode cX1_addBridge 70 = .ok (.iload_n 2, 1) := by decide +kernel
theorem dX1_addBridge_71 : decode cX1_addBridge 71 = .ok (.iastore, 1) := by decide +kernel
theorem dX1_addBridge_72 : decode cX1_addBridge 72 = .ok (.aload_n 0, 1) := by decide +kernel
theorem dX1_addBridge_73 : decode cX1_addBridge 73 = .ok (.getfield 28, 3) := by decide +kernel
theorem dX1_addBridge_76 : decode cX1_addBridge 76 = .ok (.aload_n 0, 1) := by decide +kernel
theorem dX1_addBridge_77 : decode cX1_addBridge 77 = .ok (.getfield 19, 3) := by decide +kernel
theorem dX1_addBridge_80 : decode cX1_addBridge 80 = .ok (.iload_n 3, 1) := by decide +kernel
theorem dX1_addBridge_81 : decode cX1_addBridge 81 = .ok (.iastore, 1) := by decide +kernel
theorem dX1_addBridge_82 : decode cX1_addBridge 82 = .ok (.aload_n 0, 1) := by decide +kernel
theorem dX1_addBridge_83 : decode cX1_addBridge 83 = .ok (.dup, 1) := by decide +kernel
theorem dX1_addBridge_84 : decode cX1_addBridge 84 = .ok (.getfield 19, 3) := by decide +kernel
theorem dX1_addBridge_87 : decode cX1_addBridge 87 = .ok (.dup_x1, 1) := by decide +kernel
theorem dX1_addBridge_88 : decode cX1_addBridge 88 = .ok (.iconst 1, 1) := by decide +kernel
theorem dX1_addBridge_89 : decode cX1_addBridge 89 = .ok (.iadd, 1) := by decide +kernel
theorem dX1_addBridge_90 : decode cX1_addBridge 90 = .ok (.putfield 19, 3) := by decide +kernel
theorem dX1_addBridge_93 : decode cX1_addBridge 93 = .ok (.ireturn, 1) := by decide +kernel
set_option maxHeartbeats 4000000 in
set_option maxRecDepth 100000 in
theorem k_X1_addBridge {l : Launch} {D : va_G} {cy : Nat → ClassId} {Bd : Nat} {xa : Xa} {ad : Nat → Nat} {N : Nat} {sc : Nat → Int32} {ar : Nat → Nat → Int32} {tr : Nat → Nat → Int32} {ps : Nat → Int32} {pa : Nat → Nat → Int32} {a1 : Int32} {a2 : Int32} {a3 : Int32} {out : Int32 × (Nat → Int32) × (Nat → Nat → Int32)} (hf : f_X1_addBridge N sc ar a1 a2 a3 = some out) : KC l yX1_addBridge cX1_addBridge 4 (some .int) 1 21 false D cy Bd xa [.ref (ad 0), .int a1, .int a2, .int a3] (lC cy ad sc ar tr ps pa) (some (.int out.1)) (lC cy ad out.2.1 out.2.2 tr ps pa) := by
  refine kc_start (own := RX1) (by decide +kernel) rfl (Nat.le_of_ble_eq_true rfl) ?_
  intro p e s m args below meth c A C
  unfold f_X1_addBridge at hf
  refine tt_locs (L' := [(0, .ref (ad 0)), (1, .int a1), (2, .int a2), (3, .int a3)]) [0, 1, 2, 3] rfl ?_
  refine tt_aload_n (pc := 0) (k := 0) C dX1_addBridge_0 rfl rfl ?_
  refine tt_iload_n (pc := 1) (k := 1) C dX1_addBridge_1 rfl rfl ?_
  obtain ⟨r1, hr1, hf⟩ := bind_some hf
  refine tt_callR (pc := 2) (ws := (lC cy ad sc ar tr ps pa)) (q0 := 0) (ci := 1) (rest := []) (st' := [.int r1]) C (k_X1_hasCell hr1) okX1_hasCell q2_157 rfl lC_obj (fun _ h => h) rfl rfl rfl (Nat.le_of_ble_eq_true rfl) ⟨Nat.le_of_ble_eq_true rfl, Nat.le_of_ble_eq_true rfl⟩ dX1_addBridge_2 ?_
  refine tt_if_ne (pc := 5) (tgt := 10) C dX1_addBridge_5 (by decide) hf (fun hf => ?_) (fun hf => ?_)
  · refine tt_iload_n (pc := 10) (k := 2) C dX1_addBridge_10 rfl rfl ?_
    refine tt_if_lt (pc := 11) (tgt := 18) C dX1_addBridge_11 (by decide) hf (fun hf => ?_) (fun hf => ?_)
    · refine tt_bipush (pc := 18) (v := (-4 : Int32)) C dX1_addBridge_18 (by decide) ?_
      obtain rfl := Option.some.inj hf
      exact tt_ireturn (pc := 20) C rfl rfl rfl dX1_addBridge_20
    · refine tt_iload_n (pc := 14) (k := 3) C dX1_addBridge_14 rfl rfl ?_
      refine tt_if_ge (pc := 15) (tgt := 21) C dX1_addBridge_15 (by decide) hf (fun hf => ?_) (fun hf => ?_)
      · refine tt_iload_n (pc := 21) (k := 2) C dX1_addBridge_21 rfl rfl ?_
        refine tt_bipush (pc := 22) (v := (60 : Int32)) C dX1_addBridge_22 (by decide) ?_
        refine tt_icmp_gt (pc := 24) (tgt := 41) C dX1_addBridge_24 (by decide) hf (fun hf => ?_) (fun hf => ?_)
        · refine tt_bipush (pc := 41) (v := (-6 : Int32)) C dX1_addBridge_41 (by decide) ?_
          obtain rfl := Option.some.inj hf
          exact tt_ireturn (pc := 43) C rfl rfl rfl dX1_addBridge_43
        · refine tt_iload_n (pc := 27) (k := 3) C dX1_addBridge_27 rfl rfl ?_
          refine tt_bipush (pc := 28) (v := (60 : Int32)) C dX1_addBridge_28 (by decide) ?_
          refine tt_icmp_gt (pc := 30) (tgt := 41) C dX1_addBridge_30 (by decide) hf (fun hf => ?_) (fun hf => ?_)
          · refine tt_bipush (pc := 41) (v := (-6 : Int32)) C dX1_addBridge_41 (by decide) ?_
            obtain rfl := Option.some.inj hf
            exact tt_ireturn (pc := 43) C rfl rfl rfl dX1_addBridge_43
          · refine tt_aload_n (pc := 33) (k := 0) C dX1_addBridge_33 rfl rfl ?_
            refine tt_get (pc := 34) (ws := (lC cy ad sc ar tr ps pa)) (ci := 1) (v := .int (sc 2)) C fiX1 rfl 0 lC_obj 2 (by decide) q1_87 rfl dX1_addBridge_34 ?_
            refine tt_iconst (pc := 37) (v := (4 : Int32)) C dX1_addBridge_37 (by decide) ?_
            refine tt_icmp_lt (pc := 38) (tgt := 44) C dX1_addBridge_38 (by decide) hf (fun hf => ?_) (fun hf => ?_)
            · refine tt_iload_n (pc := 44) (k := 2) C dX1_addBridge_44 rfl rfl ?_
              refine tt_iload_n (pc := 45) (k := 3) C dX1_addBridge_45 rfl rfl ?_
              refine tt_icmp_le (pc := 46) (tgt := 52) C dX1_addBridge_46 (by decide) hf (fun hf => ?_) (fun hf => ?_)
              · refine tt_aload_n (pc := 52) (k := 0) C dX1_addBridge_52 rfl rfl ?_
                refine tt_get (pc := 53) (ws := (lC cy ad sc ar tr ps pa)) (ci := 1) (v := .ref (ad 3)) C fiX1 rfl 0 lC_obj 3 (by decide) q1_89 rfl dX1_addBridge_53 ?_
                refine tt_aload_n (pc := 56) (k := 0) C dX1_addBridge_56 rfl rfl ?_
                refine tt_get (pc := 57) (ws := (lC cy ad sc ar tr ps pa)) (ci := 1) (v := .int (sc 2)) C fiX1 rfl 0 lC_obj 2 (by decide) q1_87 rfl dX1_addBridge_57 ?_
                refine tt_iload_n (pc := 60) (k := 1) C dX1_addBridge_60 rfl rfl ?_
                refine tt_iastore (pc := 61) (ws := (lC cy ad sc ar tr ps pa)) (n := 4) (f := (ar 3)) (ws' := (lC cy ad sc (va_up ar 3 (upd (ar 3) (ix (sc 2)) a1)) tr ps pa)) C rfl 2 0 lC_get3 rfl hf dX1_addBridge_61 lC_set3 (fun hf => ?_)
                refine tt_aload_n (pc := 62) (k := 0) C dX1_addBridge_62 rfl rfl ?_
                refine tt_get (pc := 63) (ws := (lC cy ad sc (va_up ar 3 (upd (ar 3) (ix (sc 2)) a1)) tr ps pa)) (ci := 1) (v := .ref (ad 4)) C fiX1 rfl 0 lC_obj 4 (by decide) q1_91 rfl dX1_addBridge_63 ?_
                refine tt_aload_n (pc := 66) (k := 0) C dX1_addBridge_66 rfl rfl ?_
                refine tt_get (pc := 67) (ws := (lC cy ad sc (va_up ar 3 (upd (ar 3) (ix (sc 2)) a1)) tr ps pa)) (ci := 1) (v := .int (sc 2)) C fiX1 rfl 0 lC_obj 2 (by decide) q1_87 rfl dX1_addBridge_67 ?_
                refine tt_iload_n (pc := 70) (k := 2) C dX1_addBridge_70 rfl rfl ?_
                refine tt_iastore (pc := 71) (ws := (lC cy ad sc (va_up ar 3 (upd (ar 3) (ix (sc 2)) a1)) tr ps pa)) (n := 4) (f := (ar 4)) (ws' := (lC cy ad sc (va_up (va_up ar 3 (upd (ar 3) (ix (sc 2)) a1)) 4 (upd (ar 4) (ix (sc 2)) a2)) tr ps pa)) C rfl 3 0 lC_get4 rfl hf dX1_addBridge_71 lC_set4 (fun hf => ?_)
                refine tt_aload_n (pc := 72) (k := 0) C dX1_addBridge_72 rfl rfl ?_
                refine tt_get (pc := 73) (ws := (lC cy ad sc (va_up (va_up ar 3 (upd (ar 3) (ix (sc 2)) a1)) 4 (upd (ar 4) (ix (sc 2)) a2)) tr ps pa)) (ci := 1) (v := .ref (ad 5)) C fiX1 rfl 0 lC_obj 5 (by decide) q1_93 rfl dX1_addBridge_73 ?_
                refine tt_aload_n (pc := 76) (k := 0) C dX1_addBridge_76 rfl rfl ?_
                refine tt_get (pc := 77) (ws := (lC cy ad sc (va_up (va_up ar 3 (upd (ar 3) (ix (sc 2)) a1)) 4 (upd (ar 4) (ix (sc 2)) a2)) tr ps pa)) (ci := 1) (v := .int (sc 2)) C fiX1 rfl 0 lC_obj 2 (by decide) q1_87 rfl dX1_addBridge_77 ?_
                refine tt_iload_n (pc := 80) (k := 3) C dX1_addBridge_80 rfl rfl ?_
                refine tt_iastore (pc := 81) (ws := (lC cy ad sc (va_up (va_up ar 3 (upd (ar 3) (ix (sc 2)) a1)) 4 (upd (ar 4) (ix (sc 2)) a2)) tr ps pa)) (n := 4) (f := (ar 5)) (ws' := (lC cy ad sc (va_up (va_up (va_up ar 3 (upd (ar 3) (ix (sc 2)) a1)) 4 (upd (ar 4) (ix (sc 2)) a2)) 5 (upd (ar 5) (ix (sc 2)) a3)) tr ps pa)) C rfl 4 0 lC_get5 rfl hf dX1_addBridge_81 lC_set5 (fun hf => ?_)
                refine tt_aload_n (pc := 82) (k := 0) C dX1_addBridge_82 rfl rfl ?_
                refine tt_dup (pc := 83) C dX1_addBridge_83 rfl ?_
                refine tt_get (pc := 84) (ws := (lC cy ad sc (va_up (va_up (va_up ar 3 (upd (ar 3) (ix (sc 2)) a1)) 4 (upd (ar 4) (ix (sc 2)) a2)) 5 (upd (ar 5) (ix (sc 2)) a3)) tr ps pa)) (ci := 1) (v := .int (sc 2)) C fiX1 rfl 0 lC_obj 2 (by decide) q1_87 rfl dX1_addBridge_84 ?_
                refine tt_dup_x1 (pc := 87) C dX1_addBridge_87 rfl rfl ?_
                refine tt_iconst (pc := 88) (v := (1 : Int32)) C dX1_addBridge_88 (by decide) ?_
                refine tt_iadd (pc := 89) C dX1_addBridge_89 ?_
                refine tt_put (pc := 90) (ws := (lC cy ad sc (va_up (va_up (va_up ar 3 (upd (ar 3) (ix (sc 2)) a1)) 4 (upd (ar 4) (ix (sc 2)) a2)) 5 (upd (ar 5) (ix (sc 2)) a3)) tr ps pa)) (ci := 1) (ty := .int) (ws' := (lC cy ad (upd sc 2 ((sc 2) + (1 : Int32))) (va_up (va_up (va_up ar 3 (upd (ar 3) (ix (sc 2)) a1)) 4 (upd (ar 4) (ix (sc 2)) a2)) 5 (upd (ar 5) (ix (sc 2)) a3)) tr ps pa)) C rfl fiX1 rfl 0 lC_obj 2 (by decide) q1_87 rfl rfl rfl rfl (Nat.le_of_ble_eq_true rfl) dX1_addBridge_90 lC_put2 ?_
                obtain rfl := Option.some.inj hf
                exact tt_ireturn (pc := 93) C rfl rfl rfl dX1_addBridge_93
              · refine tt_bipush (pc := 49) (v := (-3 : Int32)) C dX1_addBridge_49 (by decide) ?_
                obtain rfl := Option.some.inj hf
                exact tt_ireturn (pc := 51) C rfl rfl rfl dX1_addBridge_51
            · refine tt_bipush (pc := 41) (v := (-6 : Int32)) C dX1_addBridge_41 (by decide) ?_
              obtain rfl := Option.some.inj hf
              exact tt_ireturn (pc := 43) C rfl rfl rfl dX1_addBridge_43
      · refine tt_bipush (pc := 18) (v := (-4 : Int32)) C dX1_addBridge_18 (by decide) ?_
        obtain rfl := Option.some.inj hf
        exact tt_ireturn (pc := 20) C rfl rfl rfl dX1_addBridge_20
  · refine tt_iconst (pc := 8) (v := (-1 : Int32)) C dX1_addBridge_8 (by decide) ?_
    obtain rfl := Option.some.inj hf
    exact tt_ireturn (pc := 9) C rfl rfl rfl dX1_addBridge_9
theorem dX1_postAt_0 : decode cX1_postAt 0 = .ok (.iconst 0, 1) := by decide +kernel
theorem dX1_postAt_1 : decode cX1_postAt 1 = .ok (.istore_n 2, 1) := by decide +kernel
theorem dX1_postAt_2 : decode cX1_postAt 2 = .ok (.iload_n 2, 1) := by decide +kernel
theorem dX1_postAt_3 : decode cX1_postAt 3 = .ok (.aload_n 0, 1) := by decide +kernel
theorem dX1_postAt_4 : decode cX1_postAt 4 = .ok (.getfield 31, 3) := by decide +kernel
theorem dX1_postAt_7 : decode cX1_postAt 7 = .ok (.if_icmp .ge 21, 3) := by decide +kernel
theorem dX1_postAt_10 : decode cX1_postAt 10 = .ok (.aload_n 0, 1) := by decide +kernel
theorem dX1_postAt_11 : decode cX1_postAt 11 = .ok (.getfield 34, 3) := by decide +kernel
theorem dX1_postAt_14 : decode cX1_postAt 14 = .ok (.iload_n 2, 1) := by decide +kernel
theorem dX1_postAt_15 : decode cX1_postAt 15 = .ok (.iaload, 1) := by decide +kernel
theorem dX1_postAt_16 : decode cX1_postAt 16 = .ok (.iload_n 1, 1) := by decide +kernel
theorem dX1_postAt_17 : decode cX1_postAt 17 = .ok (.if_icmp .ne 5, 3) := by decide +kernel
theorem dX1_postAt_20 : decode cX1_postAt 20 = .ok (.iload_n 2, 1) := by decide +kernel
theorem dX1_postAt_21 : decode cX1_postAt 21 = .ok (.ireturn, 1) := by decide +kernel
theorem dX1_postAt_22 : decode cX1_postAt 22 = .ok (.iinc 2 1, 3) := by decide +kernel
theorem dX1_postAt_25 : decode cX1_postAt 25 = .ok (.goto (-23), 3) := by decide +kernel
theorem dX1_postAt_28 : decode cX1_postAt 28 = .ok (.bipush (-9), 2) := by decide +kernel
theorem dX1_postAt_30 : decode cX1_postAt 30 = .ok (.ireturn, 1) := by decide +kernel
set_option maxHeartbeats 4000000 in
set_option maxRecDepth 100000 in
theorem l_X1_postAt_2 {p : Program} {l : Launch} {e : Env} {s : State} {m : MethodId} {args : Array Value} {below : List Frame} {meth : Method} {c : Code} {D : va_G} {cy : Nat → ClassId} {A : Nat → Prop} {Bd : Nat} {xa : Xa} {ad : Nat → Nat} {N : Nat} {sc : Nat → Int32} {ar : Nat → Nat → Int32} {tr : Nat → Nat → Int32} {ps : Nat → Int32} {pa : Nat → Nat → Int32} {v1 : Int32} {kx : Unit → Option (Int32)} {out : Int32} (C : CC p s m args meth c cX1_postAt RX1 3 (some .int) D cy A true Bd xa) (hk : ∀ (uu : Unit), kx uu = some out → TT p l e { frames := 0, cells := 0, slots := 0, locals := 0 } s m args below meth c 3 D A true (some (.int out)) (lC cy ad sc ar tr ps pa) 28 [] [] (lC cy ad sc ar tr ps pa)) {n : Nat} {v2 : Int32} (hf : f_X1_postAt_L2 N sc ar v1 kx n v2 = some out) : TT p l e { frames := 0, cells := 0, slots := 0, locals := 0 } s m args below meth c 3 D A true (some (.int out)) (lC cy ad sc ar tr ps pa) 2 [(0, .ref (ad 0)), (1, .int v1), (2, .int v2)] [] (lC cy ad sc ar tr ps pa) := by
  induction n generalizing v2 with
  | zero => cases hf
  | succ n ih =>
    rw [f_X1_postAt_L2] at hf
    refine tt_iload_n (pc := 2) (k := 2) C dX1_postAt_2 rfl rfl ?_
    refine tt_aload_n (pc := 3) (k := 0) C dX1_postAt_3 rfl rfl ?_
    refine tt_get (pc := 4) (ws := (lC cy ad sc ar tr ps pa)) (ci := 1) (v := .int (sc 6)) C fiX1 rfl 0 lC_obj 6 (by decide) q1_95 rfl dX1_postAt_4 ?_
    refine tt_icmp_ge (pc := 7) (tgt := 28) C dX1_postAt_7 (by decide) hf (fun hf => ?_) (fun hf => ?_)
    · exact tt_locs [] rfl (hk () hf)
    · refine tt_aload_n (pc := 10) (k := 0) C dX1_postAt_10 rfl rfl ?_
      refine tt_get (pc := 11) (ws := (lC cy ad sc ar tr ps pa)) (ci := 1) (v := .ref (ad 7)) C fiX1 rfl 0 lC_obj 7 (by decide) q1_98 rfl dX1_postAt_11 ?_
      refine tt_iload_n (pc := 14) (k := 2) C dX1_postAt_14 rfl rfl ?_
      refine tt_iaload (pc := 15) (ws := (lC cy ad sc ar tr ps pa)) (n := 5) (f := (ar 7)) C 5 0 lC_get7 rfl hf dX1_postAt_15 (fun hf => ?_)
      refine tt_iload_n (pc := 16) (k := 1) C dX1_postAt_16 rfl rfl ?_
      refine tt_icmp_ne (pc := 17) (tgt := 22) C dX1_postAt_17 (by decide) hf (fun hf => ?_) (fun hf => ?_)
      · refine tt_iinc (pc := 22) (k := 2) (v := (v2 + 1)) (L' := [(2, .int (v2 + 1)), (0, .ref (ad 0)), (1, .int v1)]) C dX1_postAt_22 rfl rfl (by decide) rfl ?_
        refine tt_goto (pc := 25) (tgt := 2) C dX1_postAt_25 (by decide) ?_
        exact tt_locs [1, 2, 0] rfl (ih hf)
      · refine tt_iload_n (pc := 20) (k := 2) C dX1_postAt_20 rfl rfl ?_
        obtain rfl := Option.some.inj hf
        exact tt_ireturn (pc := 21) C rfl rfl rfl dX1_postAt_21
set_option maxHeartbeats 4000000 in
set_option maxRecDepth 100000 in
theorem k_X1_postAt {l : Launch} {D : va_G} {cy : Nat → ClassId} {Bd : Nat} {xa : Xa} {ad : Nat → Nat} {N : Nat} {sc : Nat → Int32} {ar : Nat → Nat → Int32} {tr : Nat → Nat → Int32} {ps : Nat → Int32} {pa : Nat → Nat → Int32} {a1 : Int32} {out : Int32} (hf : f_X1_postAt N sc ar a1 = some out) : KC l yX1_postAt cX1_postAt 3 (some .int) 0 0 true D cy Bd xa [.ref (ad 0), .int a1] (lC cy ad sc ar tr ps pa) (some (.int out)) (lC cy ad sc ar tr ps pa) := by
  refine kc_start (own := RX1) (by decide +kernel) rfl (Nat.le_of_ble_eq_true rfl) ?_
  intro p e s m args below meth c A C
  unfold f_X1_postAt at hf
  refine tt_locs (L' := [(0, .ref (ad 0)), (1, .int a1)]) [0, 1] rfl ?_
  refine tt_iconst (pc := 0) (v := (0 : Int32)) C dX1_postAt_0 (by decide) ?_
  refine tt_istore_n (pc := 1) (L' := [(2, .int (0 : Int32)), (0, .ref (ad 0)), (1, .int a1)]) C dX1_postAt_1 rfl (by decide) rfl ?_
  refine tt_locs (L' := [(0, .ref (ad 0)), (1, .int a1), (2, .int (0 : Int32))]) [1, 2, 0] rfl (l_X1_postAt_2 C (fun _ hf => ?_) hf)
  refine tt_bipush (pc := 28) (v := (-9 : Int32)) C dX1_postAt_28 (by decide) ?_
  obtain rfl := Option.some.inj hf
  exact tt_ireturn (pc := 30) C rfl rfl rfl dX1_postAt_30
theorem dX1_addPost_0 : decode cX1_addPost 0 = .ok (.aload_n 0, 1) := by decide +kernel
theorem dX1_addPost_1 : decode cX1_addPost 1 = .ok (.iload_n 1, 1) := by decide +kernel
theorem dX1_addPost_2 : decode cX1_addPost 2 = .ok (.invokevirtual 83, 3) := by decide +kernel
theorem dX1_addPost_5 : decode cX1_addPost 5 = .ok (.ifCond .ne 5, 3) := by decide +kernel
theorem dX1_addPost_8 : decode cX1_addPost 8 = .ok (.iconst (-1), 1) := by decide +kernel
theorem dX1_addPost_9 : decode cX1_addPost 9 = .ok (.ireturn, 1) := by decide +kernel
theorem dX1_addPost_10 : decode cX1_addPost 10 = .ok (.iload_n 2, 1) := by decide +kernel
theorem dX1_addPost_11 : decode cX1_addPost 11 = .ok (.ifCond .ge 6, 3) := by decide +kernel
theorem dX1_addPost_14 : decode cX1_addPost 14 = .ok (.bipush (-4), 2) := by decide +kernel
theorem dX1_addPost_16 : decode cX1_addPost 16 = .ok (.ireturn, 1) := by decide +kernel
theorem dX1_addPost_17 : decode cX1_addPost 17 = .ok (.iload_n 2, 1) := by decide +kernel
theorem dX1_addPost_18 : decode cX1_addPost 18 = .ok (.bipush 15, 2) := by decide +kernel
theorem dX1_addPost_20 : decode cX1_addPost 20 = .ok (.if_icmp .gt 11, 3) := by decide +kernel
theorem dX1_addPost_23 : decode cX1_addPost 23 = .ok (.aload_n 0, 1) := by decide +kernel
theorem dX1_addPost_24 : decode cX1_addPost 24 = .ok (.getfield 31, 3) := by decide +kernel
theorem dX1_addPost_27 : decode cX1_addPost 27 = .ok (.iconst 5, 1) := by decide +kernel
theorem dX1_addPost_28 : decode cX1_addPost 28 = .ok (.if_icmp .lt 6, 3) := by decide +kernel
theorem dX1_addPost_31 : decode cX1_addPost 31 = .ok (.bipush (-6), 2) := by decide +kernel
theorem dX1_addPost_33 : decode cX1_addPost 33 = .ok (.ireturn, 1) := by decide +kernel
theorem dX1_addPost_34 : decode cX1_addPost 34 = .ok (.aload_n 0, 1) := by decide +kernel
theorem dX1_addPost_35 : decode cX1_addPost 35 = .ok (.iload_n 1, 1) := by decide +kernel
theorem dX1_addPost_36 : decode cX1_addPost 36 = .ok (.invokevirtual 87, 3) := by decide +kernel
theorem dX1_addPost_39 : decode cX1_addPost 39 = .ok (.bipush (-9), 2) := by decide +kernel
theorem dX1_addPost_41 : decode cX1_addPost 41 = .ok (.if_icmp .eq 6, 3) := by decide +kernel
theorem dX1_addPost_44 : decode cX1_addPost 44 = .ok (.bipush (-3), 2) := by decide +kernel
theorem dX1_addPost_46 : decode cX1_addPost 46 = .ok (.ireturn, 1) := by decide +kernel
theorem dX1_addPost_47 : decode cX1_addPost 47 = .ok (.aload_n 0, 1) := by decide +kernel
theorem dX1_addPost_48 : decode cX1_addPost 48 = .ok (.getfield 34, 3) := by decide +kernel
theorem dX1_addPost_51 : decode cX1_addPost 51 = .ok (.aload_n 0, 1) := by decide +kernel
theorem dX1_addPost_52 : decode cX1_addPost 52 = .ok (.getfield 31, 3) := by decide +kernel
theorem dX1_addPost_55 : decode cX1_addPost 55 = .ok (.iload_n 1, 1) := by decide +kernel
theorem dX1_addPost_56 : decode cX1_addPost 56 = .ok (.iastore, 1) := by decide +kernel
theorem dX1_addPost_57 : decode cX1_addPost 57 = .ok (.aload_n 0, 1) := by decide +kernel
theorem dX1_addPost_58 : decode cX1_addPost 58 = .ok (.getfield 37, 3) := by decide +kernel
theorem dX1_addPost_61 : decode cX1_addPost 61 = .ok (.aload_n 0, 1) := by decide +kernel
theorem dX1_addPost_62 : decode cX1_addPost 62 = .ok (.getfield 31, 3) := by decide +kernel
theorem dX1_addPost_65 : decode cX1_addPost 65 = .ok (.iload_n 2, 1) := by decide +kernel
theorem dX1_addPost_66 : decode cX1_addPost 66 = .ok (.iastore, 1) := by decide +kernel
theorem dX1_addPost_67 : decode cX1_addPost 67 = .ok (.aload_n 0, 1) := by decide +kernel
theorem dX1_addPost_68 : decode cX1_addPost 68 = .ok (.dup, 1) := by decide +kernel
theorem dX1_addPost_69 : decode cX1_addPost 69 = .ok (.getfield 31, 3) := by decide +kernel
theorem dX1_addPost_72 : decode cX1_addPost 72 = .ok (.dup_x1, 1) := by decide +kernel
theorem dX1_addPost_73 : decode cX1_addPost 73 = .ok (.iconst 1, 1) := by decide +kernel
theorem dX1_addPost_74 : decode cX1_addPost 74 = .ok (.iadd, 1) := by decide +kernel
theorem dX1_addPost_75 : decode cX1_addPost 75 = .ok (.putfield 31, 3) := by decide +kernel
theorem dX1_addPost_78 : decode cX1_addPost 78 = .ok (.ireturn, 1) := by decide +kernel
set_option maxHeartbeats 4000000 in
set_option maxRecDepth 100000 in
theorem k_X1_addPost {l : Launch} {D : va_G} {cy : Nat → ClassId} {Bd : Nat} {xa : Xa} {ad : Nat → Nat} {N : Nat} {sc : Nat → Int32} {ar : Nat → Nat → Int32} {tr : Nat → Nat → Int32} {ps : Nat → Int32} {pa : Nat → Nat → Int32} {a1 : Int32} {a2 : Int32} {out : Int32 × (Nat → Int32) × (Nat → Nat → Int32)} (hf : f_X1_addPost N sc ar a1 a2 = some out) : KC l yX1_addPost cX1_addPost 3 (some .int) 1 22 false D cy Bd xa [.ref (ad 0), .int a1, .int a2] (lC cy ad sc ar tr ps pa) (some (.int out.1)) (lC cy ad out.2.1 out.2.2 tr ps pa) := by
  refine kc_start (own := RX1) (by decide +kernel) rfl (Nat.le_of_ble_eq_true rfl) ?_
  intro p e s m args below meth c A C
  unfold f_X1_addPost at hf
  refine tt_locs (L' := [(0, .ref (ad 0)), (1, .int a1), (2, .int a2)]) [0, 1, 2] rfl ?_
  refine tt_aload_n (pc := 0) (k := 0) C dX1_addPost_0 rfl rfl ?_
  refine tt_iload_n (pc := 1) (k := 1) C dX1_addPost_1 rfl rfl ?_
  obtain ⟨r1, hr1, hf⟩ := bind_some hf
  refine tt_callR (pc := 2) (ws := (lC cy ad sc ar tr ps pa)) (q0 := 0) (ci := 1) (rest := []) (st' := [.int r1]) C (k_X1_hasCell hr1) okX1_hasCell q2_157 rfl lC_obj (fun _ h => h) rfl rfl rfl (Nat.le_of_ble_eq_true rfl) ⟨Nat.le_of_ble_eq_true rfl, Nat.le_of_ble_eq_true rfl⟩ dX1_addPost_2 ?_
  refine tt_if_ne (pc := 5) (tgt := 10) C dX1_addPost_5 (by decide) hf (fun hf => ?_) (fun hf => ?_)
  · refine tt_iload_n (pc := 10) (k := 2) C dX1_addPost_10 rfl rfl ?_
    refine tt_if_ge (pc := 11) (tgt := 17) C dX1_addPost_11 (by decide) hf (fun hf => ?_) (fun hf => ?_)
    · refine tt_iload_n (pc := 17) (k := 2) C dX1_addPost_17 rfl rfl ?_
      refine tt_bipush (pc := 18) (v := (15 : Int32)) C dX1_addPost_18 (by decide) ?_
      refine tt_icmp_gt (pc := 20) (tgt := 31) C dX1_addPost_20 (by decide) hf (fun hf => ?_) (fun hf => ?_)
      · refine tt_bipush (pc := 31) (v := (-6 : Int32)) C dX1_addPost_31 (by decide) ?_
        obtain rfl := Option.some.inj hf
        exact tt_ireturn (pc := 33) C rfl rfl rfl dX1_addPost_33
      · refine tt_aload_n (pc := 23) (k := 0) C dX1_addPost_23 rfl rfl ?_
        refine tt_get (pc := 24) (ws := (lC cy ad sc ar tr ps pa)) (ci := 1) (v := .int (sc 6)) C fiX1 rfl 0 lC_obj 6 (by decide) q1_95 rfl dX1_addPost_24 ?_
        refine tt_iconst (pc := 27) (v := (5 : Int32)) C dX1_addPost_27 (by decide) ?_
        refine tt_icmp_lt (pc := 28) (tgt := 34) C dX1_addPost_28 (by decide) hf (fun hf => ?_) (fun hf => ?_)
        · refine tt_aload_n (pc := 34) (k := 0) C dX1_addPost_34 rfl rfl ?_
          refine tt_iload_n (pc := 35) (k := 1) C dX1_addPost_35 rfl rfl ?_
          obtain ⟨r2, hr2, hf⟩ := bind_some hf
          refine tt_callR (pc := 36) (ws := (lC cy ad sc ar tr ps pa)) (q0 := 0) (ci := 1) (rest := []) (st' := [.int r2]) C (k_X1_postAt hr2) okX1_postAt q2_169 rfl lC_obj (fun _ h => h) rfl rfl rfl (Nat.le_of_ble_eq_true rfl) ⟨Nat.le_of_ble_eq_true rfl, Nat.le_of_ble_eq_true rfl⟩ dX1_addPost_36 ?_
          refine tt_bipush (pc := 39) (v := (-9 : Int32)) C dX1_addPost_39 (by decide) ?_
          refine tt_icmp_eq (pc := 41) (tgt := 47) C dX1_addPost_41 (by decide) hf (fun hf => ?_) (fun hf => ?_)
          · refine tt_aload_n (pc := 47) (k := 0) C dX1_addPost_47 rfl rfl ?_
            refine tt_get (pc := 48) (ws := (lC cy ad sc ar tr ps pa)) (ci := 1) (v := .ref (ad 7)) C fiX1 rfl 0 lC_obj 7 (by decide) q1_98 rfl dX1_addPost_48 ?_
            refine tt_aload_n (pc := 51) (k := 0) C dX1_addPost_51 rfl rfl ?_
            refine tt_get (pc := 52) (ws := (lC cy ad sc ar tr ps pa)) (ci := 1) (v := .int (sc 6)) C fiX1 rfl 0 lC_obj 6 (by decide) q1_95 rfl dX1_addPost_52 ?_
            refine tt_iload_n (pc := 55) (k := 1) C dX1_addPost_55 rfl rfl ?_
            refine tt_iastore (pc := 56) (ws := (lC cy ad sc ar tr ps pa)) (n := 5) (f := (ar 7)) (ws' := (lC cy ad sc (va_up ar 7 (upd (ar 7) (ix (sc 6)) a1)) tr ps pa)) C rfl 5 0 lC_get7 rfl hf dX1_addPost_56 lC_set7 (fun hf => ?_)
            refine tt_aload_n (pc := 57) (k := 0) C dX1_addPost_57 rfl rfl ?_
            refine tt_get (pc := 58) (ws := (lC cy ad sc (va_up ar 7 (upd (ar 7) (ix (sc 6)) a1)) tr ps pa)) (ci := 1) (v := .ref (ad 8)) C fiX1 rfl 0 lC_obj 8 (by decide) q1_101 rfl dX1_addPost_58 ?_
            refine tt_aload_n (pc := 61) (k := 0) C dX1_addPost_61 rfl rfl ?_
            refine tt_get (pc := 62) (ws := (lC cy ad sc (va_up ar 7 (upd (ar 7) (ix (sc 6)) a1)) tr ps pa)) (ci := 1) (v := .int (sc 6)) C fiX1 rfl 0 lC_obj 6 (by decide) q1_95 rfl dX1_addPost_62 ?_
            refine tt_iload_n (pc := 65) (k := 2) C dX1_addPost_65 rfl rfl ?_
            refine tt_iastore (pc := 66) (ws := (lC cy ad sc (va_up ar 7 (upd (ar 7) (ix (sc 6)) a1)) tr ps pa)) (n := 5) (f := (ar 8)) (ws' := (lC cy ad sc (va_up (va_up ar 7 (upd (ar 7) (ix (sc 6)) a1)) 8 (upd (ar 8) (ix (sc 6)) a2)) tr ps pa)) C rfl 6 0 lC_get8 rfl hf dX1_addPost_66 lC_set8 (fun hf => ?_)
            refine tt_aload_n (pc := 67) (k := 0) C dX1_addPost_67 rfl rfl ?_
            refine tt_dup (pc := 68) C dX1_addPost_68 rfl ?_
            refine tt_get (pc := 69) (ws := (lC cy ad sc (va_up (va_up ar 7 (upd (ar 7) (ix (sc 6)) a1)) 8 (upd (ar 8) (ix (sc 6)) a2)) tr ps pa)) (ci := 1) (v := .int (sc 6)) C fiX1 rfl 0 lC_obj 6 (by decide) q1_95 rfl dX1_addPost_69 ?_
            refine tt_dup_x1 (pc := 72) C dX1_addPost_72 rfl rfl ?_
            refine tt_iconst (pc := 73) (v := (1 : Int32)) C dX1_addPost_73 (by decide) ?_
            refine tt_iadd (pc := 74) C dX1_addPost_74 ?_
            refine tt_put (pc := 75) (ws := (lC cy ad sc (va_up (va_up ar 7 (upd (ar 7) (ix (sc 6)) a1)) 8 (upd (ar 8) (ix (sc 6)) a2)) tr ps pa)) (ci := 1) (ty := .int) (ws' := (lC cy ad (upd sc 6 ((sc 6) + (1 : Int32))) (va_up (va_up ar 7 (upd (ar 7) (ix (sc 6)) a1)) 8 (upd (ar 8) (ix (sc 6)) a2)) tr ps pa)) C rfl fiX1 rfl 0 lC_obj 6 (by decide) q1_95 rfl rfl rfl rfl (Nat.le_of_ble_eq_true rfl) dX1_addPost_75 lC_put6 ?_
            obtain rfl := Option.some.inj hf
            exact tt_ireturn (pc := 78) C rfl rfl rfl dX1_addPost_78
          · refine tt_bipush (pc := 44) (v := (-3 : Int32)) C dX1_addPost_44 (by decide) ?_
            obtain rfl := Option.some.inj hf
            exact tt_ireturn (pc := 46) C rfl rfl rfl dX1_addPost_46
        · refine tt_bipush (pc := 31) (v := (-6 : Int32)) C dX1_addPost_31 (by decide) ?_
          obtain rfl := Option.some.inj hf
          exact tt_ireturn (pc := 33) C rfl rfl rfl dX1_addPost_33
    · refine tt_bipush (pc := 14) (v := (-4 : Int32)) C dX1_addPost_14 (by decide) ?_
      obtain rfl := Option.some.inj hf
      exact tt_ireturn (pc := 16) C rfl rfl rfl dX1_addPost_16
  · refine tt_iconst (pc := 8) (v := (-1 : Int32)) C dX1_addPost_8 (by decide) ?_
    obtain rfl := Option.some.inj hf
    exact tt_ireturn (pc := 9) C rfl rfl rfl dX1_addPost_9
theorem dX1_addTrain_0 : decode cX1_addTrain 0 = .ok (.iload_n 1, 1) := by decide +kernel
theorem dX1_addTrain_1 : decode cX1_addTrain 1 = .ok (.ifCond .lt 20, 3) := by decide +kernel
theorem dX1_addTrain_4 : decode cX1_addTrain 4 = .ok (.iload_n 1, 1) := by decide +kernel
theorem dX1_addTrain_5 : decode cX1_addTrain 5 = .ok (.bipush 6, 2) := by decide +kernel
theorem dX1_addTrain_7 : decode cX1_addTrain 7 = .ok (.if_icmp .ge 14, 3) := by decide +kernel
theorem dX1_addTrain_10 : decode cX1_addTrain 10 = .ok (.iload 4, 2) := by decide +kernel
theorem dX1_addTrain_12 : decode cX1_addTrain 12 = .ok (.ifCond .lt 9, 3) := by decide +kernel
theorem dX1_addTrain_15 : decode cX1_addTrain 15 = .ok (.iload 4, 2) := by decide +kernel
theorem dX1_addTrain_17 : decode cX1_addTrain 17 = .ok (.iconst 1, 1) := by decide +kernel
theorem dX1_addTrain_18 : decode cX1_addTrain 18 = .ok (.if_icmp .le 6, 3) := by decide +kernel
theorem dX1_addTrain_21 : decode cX1_addTrain 21 = .ok (.bipush (-2), 2) := by decide +kernel
theorem dX1_addTrain_23 : decode cX1_addTrain 23 = .ok (.ireturn, 1) := by decide +kernel
theorem dX1_addTrain_24 : decode cX1_addTrain 24 = .ok (.iload_n 2, 1) := by decide +kernel
theorem dX1_addTrain_25 : decode cX1_addTrain 25 = .ok (.ifCond .lt 8, 3) := by decide +kernel
theorem dX1_addTrain_28 : decode cX1_addTrain 28 = .ok (.iload_n 3, 1) := by decide +kernel
theorem dX1_addTrain_29 : decode cX1_addTrain 29 = .ok (.iconst 1, 1) := by decide +kernel
theorem dX1_addTrain_30 : decode cX1_addTrain 30 = .ok (.if_icmp .ge 6, 3) := by decide +kernel
theorem dX1_addTrain_33 : decode cX1_addTrain 33 = .ok (.bipush (-4), 2) := by decide +kernel
theorem dX1_addTrain_35 : decode cX1_addTrain 35 = .ok (.ireturn, 1) := by decide +kernel
theorem dX1_addTrain_36 : decode cX1_addTrain 36 = .ok (.iload_n 2, 1) := by decide +kernel
theorem dX1_addTrain_37 : decode cX1_addTrain 37 = .ok (.bipush 9, 2) := by decide +kernel
theorem dX1_addTrain_39 : decode cX1_addTrain 39 = .ok (.if_icmp .gt 17, 3) := by decide +kernel
theorem dX1_addTrain_42 : decode cX1_addTrain 42 = .ok (.iload_n 3, 1) := by decide +kernel
theorem dX1_addTrain_43 : decode cX1_addTrain 43 = .ok (.bipush 9, 2) := by decide +kernel
theorem dX1_addTrain_45 : decode cX1_addTrain 45 = .ok (.if_icmp .gt 11, 3) := by decide +kernel
theorem dX1_addTrain_48 : decode cX1_addTrain 48 = .ok (.aload_n 0, 1) := by decide +kernel
theorem dX1_addTrain_49 : decode cX1_addTrain 49 = .ok (.getfield 40, 3) := by decide +kernel
theorem dX1_addTrain_52 : decode cX1_addTrain 52 = .ok (.iconst 4, 1) := by decide +kernel
theorem dX1_addTrain_53 : decode cX1_addTrain 53 = .ok (.if_icmp .lt 6, 3) := by decide +kernel
theorem dX1_addTrain_56 : decode cX1_addTrain 56 = .ok (.bipush (-6), 2) := by decide +kernel
theorem dX1_addTrain_58 : decode cX1_addTrain 58 = .ok (.ireturn, 1) := by decide +kernel
theorem dX1_addTrain_59 : decode cX1_addTrain 59 = .ok (.aload_n 0, 1) := by decide +kernel
theorem dX1_addTrain_60 : decode cX1_addTrain 60 = .ok (.getfield 45, 3) := by decide +kernel
theorem dX1_addTrain_63 : decode cX1_addTrain 63 = .ok (.aload_n 0, 1) := by decide +kernel
theorem dX1_addTrain_64 : decode cX1_addTrain 64 = .ok (.getfield 40, 3) := by decide +kernel
theorem dX1_addTrain_67 : decode cX1_addTrain 67 = .ok (.aaload, 1) := by decide +kernel
theorem dX1_addTrain_68 : decode cX1_addTrain 68 = .ok (.astore 5, 2) := by decide +kernel
theorem dX1_addTrain_70 : decode cX1_addTrain 70 = .ok (.aload 5, 2) := by decide +kernel
theorem dX1_addTrain_72 : decode cX1_addTrain 72 = .ok (.iload_n 1, 1) := by decide +kernel
theorem dX1_addTrain_73 : decode cX1_addTrain 73 = .ok (.putfield 94, 3) := by decide +kernel
theorem dX1_addTrain_76 : decode cX1_addTrain 76 = .ok (.aload 5, 2) := by decide +kernel
theorem dX1_addTrain_78 : decode cX1_addTrain 78 = .ok (.iload_n 2, 1) := by decide +kernel
theorem dX1_addTrain_79 : decode cX1_addTrain 79 = .ok (.putfield 97, 3) := by decide +kernel
theorem dX1_addTrain_82 : decode cX1_addTrain 82 = .ok (.aload 5, 2) := by decide +kernel
theorem dX1_addTrain_84 : decode cX1_addTrain 84 = .ok (.iload_n 3, 1) := by decide +kernel
theorem dX1_addTrain_85 : decode cX1_addTrain 85 = .ok (.putfield 100, 3) := by decide +kernel
theorem dX1_addTrain_88 : decode cX1_addTrain 88 = .ok (.aload 5, 2) := by decide +kernel
theorem dX1_addTrain_90 : decode cX1_addTrain 90 = .ok (.iload 4, 2) := by decide +kernel
theorem dX1_addTrain_92 : decode cX1_addTrain 92 = .ok (.putfield 103, 3) := by decide +kernel
theorem dX1_addTrain_95 : decode cX1_addTrain 95 = .ok (.aload_n 0, 1) := by decide +kernel
theorem dX1_addTrain_96 : decode cX1_addTrain 96 = .ok (.dup, 1) := by decide +kernel
theorem dX1_addTrain_97 : decode cX1_addTrain 97 = .ok (.getfield 40, 3) := by decide +kernel
theorem dX1_addTrain_100 : decode cX1_addTrain 100 = .ok (.dup_x1, 1) := by decide +kernel
theorem dX1_addTrain_101 : decode cX1_addTrain 101 = .ok (.iconst 1, 1) := by decide +kernel
theorem dX1_addTrain_102 : decode cX1_addTrain 102 = .ok (.iadd, 1) := by decide +kernel
theorem dX1_addTrain_103 : decode cX1_addTrain 103 = .ok (.putfield 40, 3) := by decide +kernel
theorem dX1_addTrain_106 : decode cX1_addTrain 106 = .ok (.ireturn, 1) := by decide +kernel
set_option maxHeartbeats 4000000 in
set_option maxRecDepth 100000 in
theorem k_X1_addTrain {l : Launch} {D : va_G} {cy : Nat → ClassId} {Bd : Nat} {xa : Xa} {ad : Nat → Nat} {N : Nat} {sc : Nat → Int32} {ar : Nat → Nat → Int32} {tr : Nat → Nat → Int32} {ps : Nat → Int32} {pa : Nat → Nat → Int32} {a1 : Int32} {a2 : Int32} {a3 : Int32} {a4 : Int32} {out : Int32 × (Nat → Int32) × (Nat → Nat → Int32)} (hf : f_X1_addTrain N sc tr a1 a2 a3 a4 = some out) : KC l yX1_addTrain cX1_addTrain 6 (some .int) 0 0 false D cy Bd xa [.ref (ad 0), .int a1, .int a2, .int a3, .int a4] (lC cy ad sc ar tr ps pa) (some (.int out.1)) (lC cy ad out.2.1 ar out.2.2 ps pa) := by
  refine kc_start (own := RX1) (by decide +kernel) rfl (Nat.le_of_ble_eq_true rfl) ?_
  intro p e s m args below meth c A C
  unfold f_X1_addTrain at hf
  refine tt_locs (L' := [(0, .ref (ad 0)), (1, .int a1), (2, .int a2), (3, .int a3), (4, .int a4)]) [0, 1, 2, 3, 4] rfl ?_
  refine tt_iload_n (pc := 0) (k := 1) C dX1_addTrain_0 rfl rfl ?_
  refine tt_if_lt (pc := 1) (tgt := 21) C dX1_addTrain_1 (by decide) hf (fun hf => ?_) (fun hf => ?_)
  · refine tt_bipush (pc := 21) (v := (-2 : Int32)) C dX1_addTrain_21 (by decide) ?_
    obtain rfl := Option.some.inj hf
    exact tt_ireturn (pc := 23) C rfl rfl rfl dX1_addTrain_23
  · refine tt_iload_n (pc := 4) (k := 1) C dX1_addTrain_4 rfl rfl ?_
    refine tt_bipush (pc := 5) (v := (6 : Int32)) C dX1_addTrain_5 (by decide) ?_
    refine tt_icmp_ge (pc := 7) (tgt := 21) C dX1_addTrain_7 (by decide) hf (fun hf => ?_) (fun hf => ?_)
    · refine tt_bipush (pc := 21) (v := (-2 : Int32)) C dX1_addTrain_21 (by decide) ?_
      obtain rfl := Option.some.inj hf
      exact tt_ireturn (pc := 23) C rfl rfl rfl dX1_addTrain_23
    · refine tt_iload (pc := 10) (k := 4) C dX1_addTrain_10 rfl ?_
      refine tt_if_lt (pc := 12) (tgt := 21) C dX1_addTrain_12 (by decide) hf (fun hf => ?_) (fun hf => ?_)
      · refine tt_bipush (pc := 21) (v := (-2 : Int32)) C dX1_addTrain_21 (by decide) ?_
        obtain rfl := Option.some.inj hf
        exact tt_ireturn (pc := 23) C rfl rfl rfl dX1_addTrain_23
      · refine tt_iload (pc := 15) (k := 4) C dX1_addTrain_15 rfl ?_
        refine tt_iconst (pc := 17) (v := (1 : Int32)) C dX1_addTrain_17 (by decide) ?_
        refine tt_icmp_le (pc := 18) (tgt := 24) C dX1_addTrain_18 (by decide) hf (fun hf => ?_) (fun hf => ?_)
        · refine tt_iload_n (pc := 24) (k := 2) C dX1_addTrain_24 rfl rfl ?_
          refine tt_if_lt (pc := 25) (tgt := 33) C dX1_addTrain_25 (by decide) hf (fun hf => ?_) (fun hf => ?_)
          · refine tt_bipush (pc := 33) (v := (-4 : Int32)) C dX1_addTrain_33 (by decide) ?_
            obtain rfl := Option.some.inj hf
            exact tt_ireturn (pc := 35) C rfl rfl rfl dX1_addTrain_35
          · refine tt_iload_n (pc := 28) (k := 3) C dX1_addTrain_28 rfl rfl ?_
            refine tt_iconst (pc := 29) (v := (1 : Int32)) C dX1_addTrain_29 (by decide) ?_
            refine tt_icmp_ge (pc := 30) (tgt := 36) C dX1_addTrain_30 (by decide) hf (fun hf => ?_) (fun hf => ?_)
            · refine tt_iload_n (pc := 36) (k := 2) C dX1_addTrain_36 rfl rfl ?_
              refine tt_bipush (pc := 37) (v := (9 : Int32)) C dX1_addTrain_37 (by decide) ?_
              refine tt_icmp_gt (pc := 39) (tgt := 56) C dX1_addTrain_39 (by decide) hf (fun hf => ?_) (fun hf => ?_)
              · refine tt_bipush (pc := 56) (v := (-6 : Int32)) C dX1_addTrain_56 (by decide) ?_
                obtain rfl := Option.some.inj hf
                exact tt_ireturn (pc := 58) C rfl rfl rfl dX1_addTrain_58
              · refine tt_iload_n (pc := 42) (k := 3) C dX1_addTrain_42 rfl rfl ?_
                refine tt_bipush (pc := 43) (v := (9 : Int32)) C dX1_addTrain_43 (by decide) ?_
                refine tt_icmp_gt (pc := 45) (tgt := 56) C dX1_addTrain_45 (by decide) hf (fun hf => ?_) (fun hf => ?_)
                · refine tt_bipush (pc := 56) (v := (-6 : Int32)) C dX1_addTrain_56 (by decide) ?_
                  obtain rfl := Option.some.inj hf
                  exact tt_ireturn (pc := 58) C rfl rfl rfl dX1_addTrain_58
                · refine tt_aload_n (pc := 48) (k := 0) C dX1_addTrain_48 rfl rfl ?_
                  refine tt_get (pc := 49) (ws := (lC cy ad sc ar tr ps pa)) (ci := 1) (v := .int (sc 9)) C fiX1 rfl 0 lC_obj 9 (by decide) q1_104 rfl dX1_addTrain_49 ?_
                  refine tt_iconst (pc := 52) (v := (4 : Int32)) C dX1_addTrain_52 (by decide) ?_
                  refine tt_icmp_lt (pc := 53) (tgt := 59) C dX1_addTrain_53 (by decide) hf (fun hf => ?_) (fun hf => ?_)
                  · refine tt_aload_n (pc := 59) (k := 0) C dX1_addTrain_59 rfl rfl ?_
                    refine tt_get (pc := 60) (ws := (lC cy ad sc ar tr ps pa)) (ci := 1) (v := .ref (ad 10)) C fiX1 rfl 0 lC_obj 10 (by decide) q1_106 rfl dX1_addTrain_60 ?_
                    refine tt_aload_n (pc := 63) (k := 0) C dX1_addTrain_63 rfl rfl ?_
                    refine tt_get (pc := 64) (ws := (lC cy ad sc ar tr ps pa)) (ci := 1) (v := .int (sc 9)) C fiX1 rfl 0 lC_obj 9 (by decide) q1_104 rfl dX1_addTrain_64 ?_
                    refine tt_aaload (pc := 67) (ws := (lC cy ad sc ar tr ps pa)) (n := 4) (r := (fun j => ad (40 + j))) C 7 4 lC_get10 rfl hf (fun _ _ => rfl) dX1_addTrain_67 (fun hf hlt1 => ?_)
                    refine tt_astore (pc := 68) (L' := [(5, .ref (ad (40 + (ix (sc 9))))), (0, .ref (ad 0)), (1, .int a1), (2, .int a2), (3, .int a3), (4, .int a4)]) C dX1_addTrain_68 (by decide) rfl ?_
                    refine tt_aload (pc := 70) (k := 0) C dX1_addTrain_70 rfl ?_
                    refine tt_iload_n (pc := 72) (k := 2) C dX1_addTrain_72 rfl rfl ?_
                    refine tt_put (pc := 73) (ws := (lC cy ad sc ar tr ps pa)) (ci := 5) (ty := .int) (ws' := (lC cy ad sc ar (va_up tr (ix (sc 9)) (upd (tr (ix (sc 9))) 0 a1)) ps pa)) C rfl fiX5 rfl (8 + (ix (sc 9))) (lC_tget hlt1) 0 (by decide) q1_63 rfl rfl rfl rfl (Nat.le_of_ble_eq_true rfl) dX1_addTrain_73 (lC_tput hlt1 (u := (upd (tr (ix (sc 9))) 0 a1))) ?_
                    refine tt_aload (pc := 76) (k := 0) C dX1_addTrain_76 rfl ?_
                    refine tt_iload_n (pc := 78) (k := 3) C dX1_addTrain_78 rfl rfl ?_
                    refine tt_put (pc := 79) (ws := (lC cy ad sc ar (va_up tr (ix (sc 9)) (upd (tr (ix (sc 9))) 0 a1)) ps pa)) (ci := 5) (ty := .int) (ws' := (lC cy ad sc ar (va_up (va_up tr (ix (sc 9)) (upd (tr (ix (sc 9))) 0 a1)) (ix (sc 9)) (upd ((va_up tr (ix (sc 9)) (upd (tr (ix (sc 9))) 0 a1)) (ix (sc 9))) 1 a2)) ps pa)) C rfl fiX5 rfl (8 + (ix (sc 9))) (lC_tget hlt1) 1 (by decide) q1_66 rfl rfl rfl rfl (Nat.le_of_ble_eq_true rfl) dX1_addTrain_79 (lC_tput hlt1 (u := (upd ((va_up tr (ix (sc 9)) (upd (tr (ix (sc 9))) 0 a1)) (ix (sc 9))) 1 a2))) ?_
                    refine tt_aload (pc := 82) (k := 0) C dX1_addTrain_82 rfl ?_
                    refine tt_iload_n (pc := 84) (k := 4) C dX1_addTrain_84 rfl rfl ?_
                    refine tt_put (pc := 85) (ws := (lC cy ad sc ar (va_up (va_up tr (ix (sc 9)) (upd (tr (ix (sc 9))) 0 a1)) (ix (sc 9)) (upd ((va_up tr (ix (sc 9)) (upd (tr (ix (sc 9))) 0 a1)) (ix (sc 9))) 1 a2)) ps pa)) (ci := 5) (ty := .int) (ws' := (lC cy ad sc ar (va_up (va_up (va_up tr (ix (sc 9)) (upd (tr (ix (sc 9))) 0 a1)) (ix (sc 9)) (upd ((va_up tr (ix (sc 9)) (upd (tr (ix (sc 9))) 0 a1)) (ix (sc 9))) 1 a2)) (ix (sc 9)) (upd ((va_up (va_up tr (ix (sc 9)) (upd (tr (ix (sc 9))) 0 a1)) (ix (sc 9)) (upd ((va_up tr (ix (sc 9)) (upd (tr (ix (sc 9))) 0 a1)) (ix (sc 9))) 1 a2)) (ix (sc 9))) 2 a3)) ps pa)) C rfl fiX5 rfl (8 + (ix (sc 9))) (lC_tget hlt1) 2 (by decide) q1_69 rfl rfl rfl rfl (Nat.le_of_ble_eq_true rfl) dX1_addTrain_85 (lC_tput hlt1 (u := (upd ((va_up (va_up tr (ix (sc 9)) (upd (tr (ix (sc 9))) 0 a1)) (ix (sc 9)) (upd ((va_up tr (ix (sc 9)) (upd (tr (ix (sc 9))) 0 a1)) (ix (sc 9))) 1 a2)) (ix (sc 9))) 2 a3))) ?_
                    refine tt_aload (pc := 88) (k := 0) C dX1_addTrain_88 rfl ?_
                    refine tt_iload (pc := 90) (k := 5) C dX1_addTrain_90 rfl ?_
                    refine tt_put (pc := 92) (ws := (lC cy ad sc ar (va_up (va_up (va_up tr (ix (sc 9)) (upd (tr (ix (sc 9))) 0 a1)) (ix (sc 9)) (upd ((va_up tr (ix (sc 9)) (upd (tr (ix (sc 9))) 0 a1)) (ix (sc 9))) 1 a2)) (ix (sc 9)) (upd ((va_up (va_up tr (ix (sc 9)) (upd (tr (ix (sc 9))) 0 a1)) (ix (sc 9)) (upd ((va_up tr (ix (sc 9)) (upd (tr (ix (sc 9))) 0 a1)) (ix (sc 9))) 1 a2)) (ix (sc 9))) 2 a3)) ps pa)) (ci := 5) (ty := .int) (ws' := (lC cy ad sc ar (va_up (va_up (va_up (va_up tr (ix (sc 9)) (upd (tr (ix (sc 9))) 0 a1)) (ix (sc 9)) (upd ((va_up tr (ix (sc 9)) (upd (tr (ix (sc 9))) 0 a1)) (ix (sc 9))) 1 a2)) (ix (sc 9)) (upd ((va_up (va_up tr (ix (sc 9)) (upd (tr (ix (sc 9))) 0 a1)) (ix (sc 9)) (upd ((va_up tr (ix (sc 9)) (upd (tr (ix (sc 9))) 0 a1)) (ix (sc 9))) 1 a2)) (ix (sc 9))) 2 a3)) (ix (sc 9)) (upd ((va_up (va_up (va_up tr (ix (sc 9)) (upd (tr (ix (sc 9))) 0 a1)) (ix (sc 9)) (upd ((va_up tr (ix (sc 9)) (upd (tr (ix (sc 9))) 0 a1)) (ix (sc 9))) 1 a2)) (ix (sc 9)) (upd ((va_up (va_up tr (ix (sc 9)) (upd (tr (ix (sc 9))) 0 a1)) (ix (sc 9)) (upd ((va_up tr (ix (sc 9)) (upd (tr (ix (sc 9))) 0 a1)) (ix (sc 9))) 1 a2)) (ix (sc 9))) 2 a3)) (ix (sc 9))) 3 a4)) ps pa)) C rfl fiX5 rfl (8 + (ix (sc 9))) (lC_tget hlt1) 3 (by decide) q1_72 rfl rfl rfl rfl (Nat.le_of_ble_eq_true rfl) dX1_addTrain_92 (lC_tput hlt1 (u := (upd ((va_up (va_up (va_up tr (ix (sc 9)) (upd (tr (ix (sc 9))) 0 a1)) (ix (sc 9)) (upd ((va_up tr (ix (sc 9)) (upd (tr (ix (sc 9))) 0 a1)) (ix (sc 9))) 1 a2)) (ix (sc 9)) (upd ((va_up (va_up tr (ix (sc 9)) (upd (tr (ix (sc 9))) 0 a1)) (ix (sc 9)) (upd ((va_up tr (ix (sc 9)) (upd (tr (ix (sc 9))) 0 a1)) (ix (sc 9))) 1 a2)) (ix (sc 9))) 2 a3)) (ix (sc 9))) 3 a4))) ?_
                    refine tt_aload_n (pc := 95) (k := 1) C dX1_addTrain_95 rfl rfl ?_
                    refine tt_dup (pc := 96) C dX1_addTrain_96 rfl ?_
                    refine tt_get (pc := 97) (ws := (lC cy ad sc ar (va_up (va_up (va_up (va_up tr (ix (sc 9)) (upd (tr (ix (sc 9))) 0 a1)) (ix (sc 9)) (upd ((va_up tr (ix (sc 9)) (upd (tr (ix (sc 9))) 0 a1)) (ix (sc 9))) 1 a2)) (ix (sc 9)) (upd ((va_up (va_up tr (ix (sc 9)) (upd (tr (ix (sc 9))) 0 a1)) (ix (sc 9)) (upd ((va_up tr (ix (sc 9)) (upd (tr (ix (sc 9))) 0 a1)) (ix (sc 9))) 1 a2)) (ix (sc 9))) 2 a3)) (ix (sc 9)) (upd ((va_up (va_up (va_up tr (ix (sc 9)) (upd (tr (ix (sc 9))) 0 a1)) (ix (sc 9)) (upd ((va_up tr (ix (sc 9)) (upd (tr (ix (sc 9))) 0 a1)) (ix (sc 9))) 1 a2)) (ix (sc 9)) (upd ((va_up (va_up tr (ix (sc 9)) (upd (tr (ix (sc 9))) 0 a1)) (ix (sc 9)) (upd ((va_up tr (ix (sc 9)) (upd (tr (ix (sc 9))) 0 a1)) (ix (sc 9))) 1 a2)) (ix (sc 9))) 2 a3)) (ix (sc 9))) 3 a4)) ps pa)) (ci := 1) (v := .int (sc 9)) C fiX1 rfl 0 lC_obj 9 (by decide) q1_104 rfl dX1_addTrain_97 ?_
                    refine tt_dup_x1 (pc := 100) C dX1_addTrain_100 rfl rfl ?_
                    refine tt_iconst (pc := 101) (v := (1 : Int32)) C dX1_addTrain_101 (by decide) ?_
                    refine tt_iadd (pc := 102) C dX1_addTrain_102 ?_
                    refine tt_put (pc := 103) (ws := (lC cy ad sc ar (va_up (va_up (va_up (va_up tr (ix (sc 9)) (upd (tr (ix (sc 9))) 0 a1)) (ix (sc 9)) (upd ((va_up tr (ix (sc 9)) (upd (tr (ix (sc 9))) 0 a1)) (ix (sc 9))) 1 a2)) (ix (sc 9)) (upd ((va_up (va_up tr (ix (sc 9)) (upd (tr (ix (sc 9))) 0 a1)) (ix (sc 9)) (upd ((va_up tr (ix (sc 9)) (upd (tr (ix (sc 9))) 0 a1)) (ix (sc 9))) 1 a2)) (ix (sc 9))) 2 a3)) (ix (sc 9)) (upd ((va_up (va_up (va_up tr (ix (sc 9)) (upd (tr (ix (sc 9))) 0 a1)) (ix (sc 9)) (upd ((va_up tr (ix (sc 9)) (upd (tr (ix (sc 9))) 0 a1)) (ix (sc 9))) 1 a2)) (ix (sc 9)) (upd ((va_up (va_up tr (ix (sc 9)) (upd (tr (ix (sc 9))) 0 a1)) (ix (sc 9)) (upd ((va_up tr (ix (sc 9)) (upd (tr (ix (sc 9))) 0 a1)) (ix (sc 9))) 1 a2)) (ix (sc 9))) 2 a3)) (ix (sc 9))) 3 a4)) ps pa)) (ci := 1) (ty := .int) (ws' := (lC cy ad (upd sc 9 ((sc 9) + (1 : Int32))) ar (va_up (va_up (va_up (va_up tr (ix (sc 9)) (upd (tr (ix (sc 9))) 0 a1)) (ix (sc 9)) (upd ((va_up tr (ix (sc 9)) (upd (tr (ix (sc 9))) 0 a1)) (ix (sc 9))) 1 a2)) (ix (sc 9)) (upd ((va_up (va_up tr (ix (sc 9)) (upd (tr (ix (sc 9))) 0 a1)) (ix (sc 9)) (upd ((va_up tr (ix (sc 9)) (upd (tr (ix (sc 9))) 0 a1)) (ix (sc 9))) 1 a2)) (ix (sc 9))) 2 a3)) (ix (sc 9)) (upd ((va_up (va_up (va_up tr (ix (sc 9)) (upd (tr (ix (sc 9))) 0 a1)) (ix (sc 9)) (upd ((va_up tr (ix (sc 9)) (upd (tr (ix (sc 9))) 0 a1)) (ix (sc 9))) 1 a2)) (ix (sc 9)) (upd ((va_up (va_up tr (ix (sc 9)) (upd (tr (ix (sc 9))) 0 a1)) (ix (sc 9)) (upd ((va_up tr (ix (sc 9)) (upd (tr (ix (sc 9))) 0 a1)) (ix (sc 9))) 1 a2)) (ix (sc 9))) 2 a3)) (ix (sc 9))) 3 a4)) ps pa)) C rfl fiX1 rfl 0 lC_obj 9 (by decide) q1_104 rfl rfl rfl rfl (Nat.le_of_ble_eq_true rfl) dX1_addTrain_103 lC_put9 ?_
                    obtain rfl := Option.some.inj hf
                    exact tt_ireturn (pc := 106) C rfl rfl rfl dX1_addTrain_106
                  · refine tt_bipush (pc := 56) (v := (-6 : Int32)) C dX1_addTrain_56 (by decide) ?_
                    obtain rfl := Option.some.inj hf
                    exact tt_ireturn (pc := 58) C rfl rfl rfl dX1_addTrain_58
            · refine tt_bipush (pc := 33) (v := (-4 : Int32)) C dX1_addTrain_33 (by decide) ?_
              obtain rfl := Option.some.inj hf
              exact tt_ireturn (pc := 35) C rfl rfl rfl dX1_addTrain_35
        · refine tt_bipush (pc := 21) (v := (-2 : Int32)) C dX1_addTrain_21 (by decide) ?_
          obtain rfl := Option.some.inj hf
          exact tt_ireturn (pc := 23) C rfl rfl rfl dX1_addTrain_23
theorem dX1_setNeed_0 : decode cX1_setNeed 0 = .ok (.iload_n 1, 1) := by decide +kernel
theorem dX1_setNeed_1 : decode cX1_setNeed 1 = .ok (.ifCond .ge 6, 3) := by decide +kernel
theorem dX1_setNeed_4 : decode cX1_setNeed 4 = .ok (.bipush (-4), 2) := by decide +kernel
theorem dX1_setNeed_6 : decode cX1_setNeed 6 = .ok (.ireturn, 1) := by decide +kernel
theorem dX1_setNeed_7 : decode cX1_setNeed 7 = .ok (.iload_n 1, 1) := by decide +kernel
theorem dX1_setNeed_8 : decode cX1_setNeed 8 = .ok (.bipush 99, 2) := by decide +kernel
theorem dX1_setNeed_10 : decode cX1_setNeed 10 = .ok (.if_icmp .le 6, 3) := by decide +kernel
theorem dX1_setNeed_13 : decode cX1_setNeed 13 = .ok (.bipush (-6), 2) := by decide +kernel
theorem dX1_setNeed_15 : decode cX1_setNeed 15 = .ok (.ireturn, 1) := by decide +kernel
theorem dX1_setNeed_16 : decode cX1_setNeed 16 = .ok (.aload_n 0, 1) := by decide +kernel
theorem dX1_setNeed_17 : decode cX1_setNeed 17 = .ok (.getfield 49, 3) := by decide +kernel
theorem dX1_setNeed_20 : decode cX1_setNeed 20 = .ok (.istore_n 2, 1) := by decide +kernel
theorem dX1_setNeed_21 : decode cX1_setNeed 21 = .ok (.aload_n 0, 1) := by decide +kernel
theorem dX1_setNeed_22 : decode cX1_setNeed 22 = .ok (.iload_n 1, 1) := by decide +kernel
theorem dX1_setNeed_23 : decode cX1_setNeed 23 = .ok (.putfield 49, 3) := by decide +kernel
theorem dX1_setNeed_26 : decode cX1_setNeed 26 = .ok (.iload_n 2, 1) := by decide +kernel
theorem dX1_setNeed_27 : decode cX1_setNeed 27 = .ok (.ireturn, 1) := by decide +kernel
set_option maxHeartbeats 4000000 in
set_option maxRecDepth 100000 in
theorem k_X1_setNeed {l : Launch} {D : va_G} {cy : Nat → ClassId} {Bd : Nat} {xa : Xa} {ad : Nat → Nat} {N : Nat} {sc : Nat → Int32} {ar : Nat → Nat → Int32} {tr : Nat → Nat → Int32} {ps : Nat → Int32} {pa : Nat → Nat → Int32} {a1 : Int32} {out : Int32 × (Nat → Int32)} (hf : f_X1_setNeed N sc a1 = some out) : KC l yX1_setNeed cX1_setNeed 3 (some .int) 0 0 false D cy Bd xa [.ref (ad 0), .int a1] (lC cy ad sc ar tr ps pa) (some (.int out.1)) (lC cy ad out.2 ar tr ps pa) := by
  refine kc_start (own := RX1) (by decide +kernel) rfl (Nat.le_of_ble_eq_true rfl) ?_
  intro p e s m args below meth c A C
  unfold f_X1_setNeed at hf
  refine tt_locs (L' := [(0, .ref (ad 0)), (1, .int a1)]) [0, 1] rfl ?_
  refine tt_iload_n (pc := 0) (k := 1) C dX1_setNeed_0 rfl rfl ?_
  refine tt_if_ge (pc := 1) (tgt := 7) C dX1_setNeed_1 (by decide) hf (fun hf => ?_) (fun hf => ?_)
  · refine tt_iload_n (pc := 7) (k := 1) C dX1_setNeed_7 rfl rfl ?_
    refine tt_bipush (pc := 8) (v := (99 : Int32)) C dX1_setNeed_8 (by decide) ?_
    refine tt_icmp_le (pc := 10) (tgt := 16) C dX1_setNeed_10 (by decide) hf (fun hf => ?_) (fun hf => ?_)
    · refine tt_aload_n (pc := 16) (k := 0) C dX1_setNeed_16 rfl rfl ?_
      refine tt_get (pc := 17) (ws := (lC cy ad sc ar tr ps pa)) (ci := 1) (v := .int (sc 11)) C fiX1 rfl 0 lC_obj 11 (by decide) q1_108 rfl dX1_setNeed_17 ?_
      refine tt_istore_n (pc := 20) (L' := [(2, .int (sc 11)), (0, .ref (ad 0)), (1, .int a1)]) C dX1_setNeed_20 rfl (by decide) rfl ?_
      refine tt_aload_n (pc := 21) (k := 1) C dX1_setNeed_21 rfl rfl ?_
      refine tt_iload_n (pc := 22) (k := 2) C dX1_setNeed_22 rfl rfl ?_
      refine tt_put (pc := 23) (ws := (lC cy ad sc ar tr ps pa)) (ci := 1) (ty := .int) (ws' := (lC cy ad (upd sc 11 a1) ar tr ps pa)) C rfl fiX1 rfl 0 lC_obj 11 (by decide) q1_108 rfl rfl rfl rfl (Nat.le_of_ble_eq_true rfl) dX1_setNeed_23 lC_put11 ?_
      refine tt_iload_n (pc := 26) (k := 0) C dX1_setNeed_26 rfl rfl ?_
      obtain rfl := Option.some.inj hf
      exact tt_ireturn (pc := 27) C rfl rfl rfl dX1_setNeed_27
    · refine tt_bipush (pc := 13) (v := (-6 : Int32)) C dX1_setNeed_13 (by decide) ?_
      obtain rfl := Option.some.inj hf
      exact tt_ireturn (pc := 15) C rfl rfl rfl dX1_setNeed_15
  · refine tt_bipush (pc := 4) (v := (-4 : Int32)) C dX1_setNeed_4 (by decide) ?_
    obtain rfl := Option.some.inj hf
    exact tt_ireturn (pc := 6) C rfl rfl rfl dX1_setNeed_6
theorem dX1_removeBridge_0 : decode cX1_removeBridge 0 = .ok (.iload_n 1, 1) := by decide +kernel
theorem dX1_removeBridge_1 : decode cX1_removeBridge 1 = .ok (.istore_n 2, 1) := by decide +kernel
theorem dX1_removeBridge_2 : decode cX1_removeBridge 2 = .ok (.iload_n 2, 1) := by decide +kernel
theorem dX1_removeBridge_3 : decode cX1_removeBridge 3 = .ok (.iconst 1, 1) := by decide +kernel
theorem dX1_removeBridge_4 : decode cX1_removeBridge 4 = .ok (.iadd, 1) := by decide +kernel
theorem dX1_removeBridge_5 : decode cX1_removeBridge 5 = .ok (.aload_n 0, 1) := by decide +kernel
theorem dX1_removeBridge_6 : decode cX1_removeBridge 6 = .ok (.getfield 19, 3) := by decide +kernel
theorem dX1_removeBridge_9 : decode cX1_removeBridge 9 = .ok (.if_icmp .ge 51, 3) := by decide +kernel
theorem dX1_removeBridge_12 : decode cX1_removeBridge 12 = .ok (.aload_n 0, 1) := by decide +kernel
theorem dX1_removeBridge_13 : decode cX1_removeBridge 13 = .ok (.getfield 22, 3) := by decide +kernel
theorem dX1_removeBridge_16 : decode cX1_removeBridge 16 = .ok (.iload_n 2, 1) := by decide +kernel
theorem dX1_removeBridge_17 : decode cX1_removeBridge 17 = .ok (.aload_n 0, 1) := by decide +kernel
theorem dX1_removeBridge_18 : decode cX1_removeBridge 18 = .ok (.getfield 22, 3) := by decide +kernel
theorem dX1_removeBridge_21 : decode cX1_removeBridge 21 = .ok (.iload_n 2, 1) := by decide +kernel
theorem dX1_removeBridge_22 : decode cX1_removeBridge 22 = .ok (.iconst 1, 1) := by decide +kernel
theorem dX1_removeBridge_23 : decode cX1_removeBridge 23 = .ok (.iadd, 1) := by decide +kernel
theorem dX1_removeBridge_24 : decode cX1_removeBridge 24 = .ok (.iaload, 1) := by decide +kernel
theorem dX1_removeBridge_25 : decode cX1_removeBridge 25 = .ok (.iastore, 1) := by decide +kernel
theorem dX1_removeBridge_26 : decode cX1_removeBridge 26 = .ok (.aload_n 0, 1) := by decide +kernel
theorem dX1_removeBridge_27 : decode cX1_removeBridge 27 = .ok (.getfield 25, 3) := by decide +kernel
theorem dX1_removeBridge_30 : decode cX1_removeBridge 30 = .ok (.iload_n 2, 1) := by decide +kernel
theorem dX1_removeBridge_31 : decode cX1_removeBridge 31 = .ok (.aload_n 0, 1) := by decide +kernel
theorem dX1_removeBridge_32 : decode cX1_removeBridge 32 = .ok (.getfield 25, 3) := by decide +kernel
theorem dX1_removeBridge_35 : decode cX1_removeBridge 35 = .ok (.iload_n 2, 1) := by decide +kernel
theorem dX1_removeBridge_36 : decode cX1_removeBridge 36 = .ok (.iconst 1, 1) := by decide +kernel
theorem dX1_removeBridge_37 : decode cX1_removeBridge 37 = .ok (.iadd, 1) := by decide +kernel
theorem dX1_removeBridge_38 : decode cX1_removeBridge 38 = .ok (.iaload, 1) := by decide +kernel
theorem dX1_removeBridge_39 : decode cX1_removeBridge 39 = .ok (.iastore, 1) := by decide +kernel
theorem dX1_removeBridge_40 : decode cX1_removeBridge 40 = .ok (.aload_n 0, 1) := by decide +kernel
theorem dX1_removeBridge_41 : decode cX1_removeBridge 41 = .ok (.getfield 28, 3) := by decide +kernel
theorem dX1_removeBridge_44 : decode cX1_removeBridge 44 = .ok (.iload_n 2, 1) := by decide +kernel
theorem dX1_removeBridge_45 : decode cX1_removeBridge 45 = .ok (.aload_n 0, 1) := by decide +kernel
theorem dX1_removeBridge_46 : decode cX1_removeBridge 46 = .ok (.getfield 28, 3) := by decide +kernel
theorem dX1_removeBridge_49 : decode cX1_removeBridge 49 = .ok (.iload_n 2, 1) := by decide +kernel
theorem dX1_removeBridge_50 : decode cX1_removeBridge 50 = .ok (.iconst 1, 1) := by decide +kernel
theorem dX1_removeBridge_51 : decode cX1_removeBridge 51 = .ok (.iadd, 1) := by decide +kernel
theorem dX1_removeBridge_52 : decode cX1_removeBridge 52 = .ok (.iaload, 1) := by decide +kernel
theorem dX1_removeBridge_53 : decode cX1_removeBridge 53 = .ok (.iastore, 1) := by decide +kernel
theorem dX1_removeBridge_54 : decode cX1_removeBridge 54 = .ok (.iinc 2 1, 3) := by decide +kernel
theorem dX1_removeBridge_57 : decode cX1_removeBridge 57 = .ok (.goto (-55), 3) := by decide +kernel
theorem dX1_removeBridge_60 : decode cX1_removeBridge 60 = .ok (.aload_n 0, 1) := by decide +kernel
theorem dX1_removeBridge_61 : decode cX1_removeBridge 61 = .ok (.dup, 1) := by decide +kernel
theorem dX1_removeBridge_62 : decode cX1_removeBridge 62 = .ok (.getfield 19, 3) := by decide +kernel
theorem dX1_removeBridge_65 : decode cX1_removeBridge 65 = .ok (.iconst 1, 1) := by decide +kernel
theorem dX1_removeBridge_66 : decode cX1_removeBridge 66 = .ok (.isub, 1) := by decide +kernel
theorem dX1_removeBridge_67 : decode cX1_removeBridge 67 = .ok (.putfield 19, 3) := by decide +kernel
theorem dX1_removeBridge_70 : decode cX1_removeBridge 70 = .ok (.return_, 1) := by decide +kernel
set_option maxHeartbeats 4000000 in
set_option maxRecDepth 100000 in
theorem l_X1_removeBridge_2 {p : Program} {l : Launch} {e : Env} {s : State} {m : MethodId} {args : Array Value} {below : List Frame} {meth : Method} {c : Code} {D : va_G} {cy : Nat → ClassId} {A : Nat → Prop} {Bd : Nat} {xa : Xa} {ad : Nat → Nat} {β : Type} {vO : Option Value} {wO : va_W} {N : Nat} {sc : Nat → Int32} {tr : Nat → Nat → Int32} {ps : Nat → Int32} {pa : Nat → Nat → Int32} {kx : (Nat → Nat → Int32) → Option (β)} {out : β} (C : CC p s m args meth c cX1_removeBridge RX1 3 none D cy A false Bd xa) (hk : ∀ (ar1 : Nat → Nat → Int32), kx ar1 = some out → TT p l e { frames := 0, cells := 0, slots := 0, locals := 0 } s m args below meth c 3 D A false vO wO 60 [(0, .ref (ad 0))] [] (lC cy ad sc ar1 tr ps pa)) {n : Nat} {v2 : Int32} {ar : Nat → Nat → Int32} (hf : f_X1_removeBridge_L2 N sc kx n v2 ar = some out) : TT p l e { frames := 0, cells := 0, slots := 0, locals := 0 } s m args below meth c 3 D A false vO wO 2 [(0, .ref (ad 0)), (2, .int v2)] [] (lC cy ad sc ar tr ps pa) := by
  induction n generalizing v2 ar with
  | zero => cases hf
  | succ n ih =>
    rw [f_X1_removeBridge_L2] at hf
    refine tt_iload_n (pc := 2) (k := 1) C dX1_removeBridge_2 rfl rfl ?_
    refine tt_iconst (pc := 3) (v := (1 : Int32)) C dX1_removeBridge_3 (by decide) ?_
    refine tt_iadd (pc := 4) C dX1_removeBridge_4 ?_
    refine tt_aload_n (pc := 5) (k := 0) C dX1_removeBridge_5 rfl rfl ?_
    refine tt_get (pc := 6) (ws := (lC cy ad sc ar tr ps pa)) (ci := 1) (v := .int (sc 2)) C fiX1 rfl 0 lC_obj 2 (by decide) q1_87 rfl dX1_removeBridge_6 ?_
    refine tt_icmp_ge (pc := 9) (tgt := 60) C dX1_removeBridge_9 (by decide) hf (fun hf => ?_) (fun hf => ?_)
    · exact tt_locs [0] rfl (hk _ hf)
    · refine tt_aload_n (pc := 12) (k := 0) C dX1_removeBridge_12 rfl rfl ?_
      refine tt_get (pc := 13) (ws := (lC cy ad sc ar tr ps pa)) (ci := 1) (v := .ref (ad 3)) C fiX1 rfl 0 lC_obj 3 (by decide) q1_89 rfl dX1_removeBridge_13 ?_
      refine tt_iload_n (pc := 16) (k := 1) C dX1_removeBridge_16 rfl rfl ?_
      refine tt_aload_n (pc := 17) (k := 0) C dX1_removeBridge_17 rfl rfl ?_
      refine tt_get (pc := 18) (ws := (lC cy ad sc ar tr ps pa)) (ci := 1) (v := .ref (ad 3)) C fiX1 rfl 0 lC_obj 3 (by decide) q1_89 rfl dX1_removeBridge_18 ?_
      refine tt_iload_n (pc := 21) (k := 1) C dX1_removeBridge_21 rfl rfl ?_
      refine tt_iconst (pc := 22) (v := (1 : Int32)) C dX1_removeBridge_22 (by decide) ?_
      refine tt_iadd (pc := 23) C dX1_removeBridge_23 ?_
      refine tt_iaload (pc := 24) (ws := (lC cy ad sc ar tr ps pa)) (n := 4) (f := (ar 3)) C 2 0 lC_get3 rfl hf dX1_removeBridge_24 (fun hf => ?_)
      refine tt_iastore (pc := 25) (ws := (lC cy ad sc ar tr ps pa)) (n := 4) (f := (ar 3)) (ws' := (lC cy ad sc (va_up ar 3 (upd (ar 3) (ix v2) ((ar 3) (ix (v2 + (1 : Int32)))))) tr ps pa)) C rfl 2 0 lC_get3 rfl hf dX1_removeBridge_25 lC_set3 (fun hf => ?_)
      refine tt_aload_n (pc := 26) (k := 0) C dX1_removeBridge_26 rfl rfl ?_
      refine tt_get (pc := 27) (ws := (lC cy ad sc (va_up ar 3 (upd (ar 3) (ix v2) ((ar 3) (ix (v2 + (1 : Int32)))))) tr ps pa)) (ci := 1) (v := .ref (ad 4)) C fiX1 rfl 0 lC_obj 4 (by decide) q1_91 rfl dX1_removeBridge_27 ?_
      refine tt_iload_n (pc := 30) (k := 1) C dX1_removeBridge_30 rfl rfl ?_
      refine tt_aload_n (pc := 31) (k := 0) C dX1_removeBridge_31 rfl rfl ?_
      refine tt_get (pc := 32) (ws := (lC cy ad sc (va_up ar 3 (upd (ar 3) (ix v2) ((ar 3) (ix (v2 + (1 : Int32)))))) tr ps pa)) (ci := 1) (v := .ref (ad 4)) C fiX1 rfl 0 lC_obj 4 (by decide) q1_91 rfl dX1_removeBridge_32 ?_
      refine tt_iload_n (pc := 35) (k := 1) C dX1_removeBridge_35 rfl rfl ?_
      refine tt_iconst (pc := 36) (v := (1 : Int32)) C dX1_removeBridge_36 (by decide) ?_
      refine tt_iadd (pc := 37) C dX1_removeBridge_37 ?_
      refine tt_iaload (pc := 38) (ws := (lC cy ad sc (va_up ar 3 (upd (ar 3) (ix v2) ((ar 3) (ix (v2 + (1 : Int32)))))) tr ps pa)) (n := 4) (f := (ar 4)) C 3 0 lC_get4 rfl hf dX1_removeBridge_38 (fun hf => ?_)
      refine tt_iastore (pc := 39) (ws := (lC cy ad sc (va_up ar 3 (upd (ar 3) (ix v2) ((ar 3) (ix (v2 + (1 : Int32)))))) tr ps pa)) (n := 4) (f := (ar 4)) (ws' := (lC cy ad sc (va_up (va_up ar 3 (upd (ar 3) (ix v2) ((ar 3) (ix (v2 + (1 : Int32)))))) 4 (upd (ar 4) (ix v2) ((ar 4) (ix (v2 + (1 : Int32)))))) tr ps pa)) C rfl 3 0 lC_get4 rfl hf dX1_removeBridge_39 lC_set4 (fun hf => ?_)
      refine tt_aload_n (pc := 40) (k := 0) C dX1_removeBridge_40 rfl rfl ?_
      refine tt_get (pc := 41) (ws := (lC cy ad sc (va_up (va_up ar 3 (upd (ar 3) (ix v2) ((ar 3) (ix (v2 + (1 : Int32)))))) 4 (upd (ar 4) (ix v2) ((ar 4) (ix (v2 + (1 : Int32)))))) tr ps pa)) (ci := 1) (v := .ref (ad 5)) C fiX1 rfl 0 lC_obj 5 (by decide) q1_93 rfl dX1_removeBridge_41 ?_
      refine tt_iload_n (pc := 44) (k := 1) C dX1_removeBridge_44 rfl rfl ?_
      refine tt_aload_n (pc := 45) (k := 0) C dX1_removeBridge_45 rfl rfl ?_
      refine tt_get (pc := 46) (ws := (lC cy ad sc (va_up (va_up ar 3 (upd (ar 3) (ix v2) ((ar 3) (ix (v2 + (1 : Int32)))))) 4 (upd (ar 4) (ix v2) ((ar 4) (ix (v2 + (1 : Int32)))))) tr ps pa)) (ci := 1) (v := .ref (ad 5)) C fiX1 rfl 0 lC_obj 5 (by decide) q1_93 rfl dX1_removeBridge_46 ?_
      refine tt_iload_n (pc := 49) (k := 1) C dX1_removeBridge_49 rfl rfl ?_
      refine tt_iconst (pc := 50) (v := (1 : Int32)) C dX1_removeBridge_50 (by decide) ?_
      refine tt_iadd (pc := 51) C dX1_removeBridge_51 ?_
      refine tt_iaload (pc := 52) (ws := (lC cy ad sc (va_up (va_up ar 3 (upd (ar 3) (ix v2) ((ar 3) (ix (v2 + (1 : Int32)))))) 4 (upd (ar 4) (ix v2) ((ar 4) (ix (v2 + (1 : Int32)))))) tr ps pa)) (n := 4) (f := (ar 5)) C 4 0 lC_get5 rfl hf dX1_removeBridge_52 (fun hf => ?_)
      refine tt_iastore (pc := 53) (ws := (lC cy ad sc (va_up (va_up ar 3 (upd (ar 3) (ix v2) ((ar 3) (ix (v2 + (1 : Int32)))))) 4 (upd (ar 4) (ix v2) ((ar 4) (ix (v2 + (1 : Int32)))))) tr ps pa)) (n := 4) (f := (ar 5)) (ws' := (lC cy ad sc (va_up (va_up (va_up ar 3 (upd (ar 3) (ix v2) ((ar 3) (ix (v2 + (1 : Int32)))))) 4 (upd (ar 4) (ix v2) ((ar 4) (ix (v2 + (1 : Int32)))))) 5 (upd (ar 5) (ix v2) ((ar 5) (ix (v2 + (1 : Int32)))))) tr ps pa)) C rfl 4 0 lC_get5 rfl hf dX1_removeBridge_53 lC_set5 (fun hf => ?_)
      refine tt_iinc (pc := 54) (k := 1) (v := (v2 + 1)) (L' := [(2, .int (v2 + 1)), (0, .ref (ad 0))]) C dX1_removeBridge_54 rfl rfl (by decide) rfl ?_
      refine tt_goto (pc := 57) (tgt := 2) C dX1_removeBridge_57 (by decide) ?_
      exact tt_locs [1, 0] rfl (ih hf)
set_option maxHeartbeats 4000000 in
set_option maxRecDepth 100000 in
theorem k_X1_removeBridge {l : Launch} {D : va_G} {cy : Nat → ClassId} {Bd : Nat} {xa : Xa} {ad : Nat → Nat} {N : Nat} {sc : Nat → Int32} {ar : Nat → Nat → Int32} {tr : Nat → Nat → Int32} {ps : Nat → Int32} {pa : Nat → Nat → Int32} {a1 : Int32} {out : (Nat → Int32) × (Nat → Nat → Int32)} (hf : f_X1_removeBridge N sc ar a1 = some out) : KC l yX1_removeBridge cX1_removeBridge 3 none 0 0 false D cy Bd xa [.ref (ad 0), .int a1] (lC cy ad sc ar tr ps pa) none (lC cy ad out.1 out.2 tr ps pa) := by
  refine kc_start (own := RX1) (by decide +kernel) rfl (Nat.le_of_ble_eq_true rfl) ?_
  intro p e s m args below meth c A C
  unfold f_X1_removeBridge at hf
  refine tt_locs (L' := [(0, .ref (ad 0)), (1, .int a1)]) [0, 1] rfl ?_
  refine tt_iload_n (pc := 0) (k := 1) C dX1_removeBridge_0 rfl rfl ?_
  refine tt_istore_n (pc := 1) (L' := [(2, .int a1), (0, .ref (ad 0)), (1, .int a1)]) C dX1_removeBridge_1 rfl (by decide) rfl ?_
  refine tt_locs (L' := [(0, .ref (ad 0)), (2, .int a1)]) [1, 0] rfl (l_X1_removeBridge_2 C (fun t1 hf => ?_) hf)
  refine tt_aload_n (pc := 60) (k := 0) C dX1_removeBridge_60 rfl rfl ?_
  refine tt_dup (pc := 61) C dX1_removeBridge_61 rfl ?_
  refine tt_get (pc := 62) (ws := (lC cy ad sc t1 tr ps pa)) (ci := 1) (v := .int (sc 2)) C fiX1 rfl 0 lC_obj 2 (by decide) q1_87 rfl dX1_removeBridge_62 ?_
  refine tt_iconst (pc := 65) (v := (1 : Int32)) C dX1_removeBridge_65 (by decide) ?_
  refine tt_isub (pc := 66) C dX1_removeBridge_66 ?_
  refine tt_put (pc := 67) (ws := (lC cy ad sc t1 tr ps pa)) (ci := 1) (ty := .int) (ws' := (lC cy ad (upd sc 2 ((sc 2) - (1 : Int32))) t1 tr ps pa)) C rfl fiX1 rfl 0 lC_obj 2 (by decide) q1_87 rfl rfl rfl rfl (Nat.le_of_ble_eq_true rfl) dX1_removeBridge_67 lC_put2 ?_
  obtain rfl := Option.some.inj hf
  exact tt_vreturn (pc := 70) C rfl rfl rfl dX1_removeBridge_70
theorem dX1_removePost_0 : decode cX1_removePost 0 = .ok (.iload_n 1, 1) := by decide +kernel
theorem dX1_removePost_1 : decode cX1_removePost 1 = .ok (.istore_n 2, 1) := by decide +kernel
theorem dX1_removePost_2 : decode cX1_removePost 2 = .ok (.iload_n 2, 1) := by decide +kernel
theorem dX1_removePost_3 : decode cX1_removePost 3 = .ok (.iconst 1, 1) := by decide +kernel
theorem dX1_removePost_4 : decode cX1_removePost 4 = .ok (.iadd, 1) := by decide +kernel
theorem dX1_removePost_5 : decode cX1_removePost 5 = .ok (.aload_n 0, 1) := by decide +kernel
theorem dX1_removePost_6 : decode cX1_removePost 6 = .ok (.getfield 31, 3) := by decide +kernel
theorem dX1_removePost_9 : decode cX1_removePost 9 = .ok (.if_icmp .ge 37, 3) := by decide +kernel
theorem dX1_removePost_12 : decode cX1_removePost 12 = .ok (.aload_n 0, 1) := by decide +kernel
theorem dX1_removePost_13 : decode cX1_removePost 13 = .ok (.getfield 34, 3) := by decide +kernel
theorem dX1_removePost_16 : decode cX1_removePost 16 = .ok (.iload_n 2, 1) := by decide +kernel
theorem dX1_removePost_17 : decode cX1_removePost 17 = .ok (.aload_n 0, 1) := by decide +kernel
theorem dX1_removePost_18 : decode cX1_removePost 18 = .ok (.getfield 34, 3) := by decide +kernel
theorem dX1_removePost_21 : decode cX1_removePost 21 = .ok (.iload_n 2, 1) := by decide +kernel
theorem dX1_removePost_22 : decode cX1_removePost 22 = .ok (.iconst 1, 1) := by decide +kernel
theorem dX1_removePost_23 : decode cX1_removePost 23 = .ok (.iadd, 1) := by decide +kernel
theorem dX1_removePost_24 : decode cX1_removePost 24 = .ok (.iaload, 1) := by decide +kernel
theorem dX1_removePost_25 : decode cX1_removePost 25 = .ok (.iastore, 1) := by decide +kernel
theorem dX1_removePost_26 : decode cX1_removePost 26 = .ok (.aload_n 0, 1) := by decide +kernel
theorem dX1_removePost_27 : decode cX1_removePost 27 = .ok (.getfield 37, 3) := by decide +kernel
theorem dX1_removePost_30 : decode cX1_removePost 30 = .ok (.iload_n 2, 1) := by decide +kernel
theorem dX1_removePost_31 : decode cX1_removePost 31 = .ok (.aload_n 0, 1) := by decide +kernel
theorem dX1_removePost_32 : decode cX1_removePost 32 = .ok (.getfield 37, 3) := by decide +kernel
theorem dX1_removePost_35 : decode cX1_removePost 35 = .ok (.iload_n 2, 1) := by decide +kernel
theorem dX1_removePost_36 : decode cX1_removePost 36 = .ok (.iconst 1, 1) := by decide +kernel
theorem dX1_removePost_37 : decode cX1_removePost 37 = .ok (.iadd, 1) := by decide +kernel
theorem dX1_removePost_38 : decode cX1_removePost 38 = .ok (.iaload, 1) := by decide +kernel
theorem dX1_removePost_39 : decode cX1_removePost 39 = .ok (.iastore, 1) := by decide +kernel
theorem dX1_removePost_40 : decode cX1_removePost 40 = .ok (.iinc 2 1, 3) := by decide +kernel
theorem dX1_removePost_43 : decode cX1_removePost 43 = .ok (.goto (-41), 3) := by decide +kernel
theorem dX1_removePost_46 : decode cX1_removePost 46 = .ok (.aload_n 0, 1) := by decide +kernel
theorem dX1_removePost_47 : decode cX1_removePost 47 = .ok (.dup, 1) := by decide +kernel
theorem dX1_removePost_48 : decode cX1_removePost 48 = .ok (.getfield 31, 3) := by decide +kernel
theorem dX1_removePost_51 : decode cX1_removePost 51 = .ok (.iconst 1, 1) := by decide +kernel
theorem dX1_removePost_52 : decode cX1_removePost 52 = .ok (.isub, 1) := by decide +kernel
theorem dX1_removePost_53 : decode cX1_removePost 53 = .ok (.putfield 31, 3) := by decide +kernel
theorem dX1_removePost_56 : decode cX1_removePost 56 = .ok (.return_, 1) := by decide +kernel
set_option maxHeartbeats 4000000 in
set_option maxRecDepth 100000 in
theorem l_X1_removePost_2 {p : Program} {l : Launch} {e : Env} {s : State} {m : MethodId} {args : Array Value} {below : List Frame} {meth : Method} {c : Code} {D : va_G} {cy : Nat → ClassId} {A : Nat → Prop} {Bd : Nat} {xa : Xa} {ad : Nat → Nat} {β : Type} {vO : Option Value} {wO : va_W} {N : Nat} {sc : Nat → Int32} {tr : Nat → Nat → Int32} {ps : Nat → Int32} {pa : Nat → Nat → Int32} {kx : (Nat → Nat → Int32) → Option (β)} {out : β} (C : CC p s m args meth c cX1_removePost RX1 3 none D cy A false Bd xa) (hk : ∀ (ar1 : Nat → Nat → Int32), kx ar1 = some out → TT p l e { frames := 0, cells := 0, slots := 0, locals := 0 } s m args below meth c 3 D A false vO wO 46 [(0, .ref (ad 0))] [] (lC cy ad sc ar1 tr ps pa)) {n : Nat} {v2 : Int32} {ar : Nat → Nat → Int32} (hf : f_X1_removePost_L2 N sc kx n v2 ar = some out) : TT p l e { frames := 0, cells := 0, slots := 0, locals := 0 } s m args below meth c 3 D A false vO wO 2 [(0, .ref (ad 0)), (2, .int v2)] [] (lC cy ad sc ar tr ps pa) := by
  induction n generalizing v2 ar with
  | zero => cases hf
  | succ n ih =>
    rw [f_X1_removePost_L2] at hf
    refine tt_iload_n (pc := 2) (k := 1) C dX1_removePost_2 rfl rfl ?_
    refine tt_iconst (pc := 3) (v := (1 : Int32)) C dX1_removePost_3 (by decide) ?_
    refine tt_iadd (pc := 4) C dX1_removePost_4 ?_
    refine tt_aload_n (pc := 5) (k := 0) C dX1_removePost_5 rfl rfl ?_
    refine tt_get (pc := 6) (ws := (lC cy ad sc ar tr ps pa)) (ci := 1) (v := .int (sc 6)) C fiX1 rfl 0 lC_obj 6 (by decide) q1_95 rfl dX1_removePost_6 ?_
    refine tt_icmp_ge (pc := 9) (tgt := 46) C dX1_removePost_9 (by decide) hf (fun hf => ?_) (fun hf => ?_)
    · exact tt_locs [0] rfl (hk _ hf)
    · refine tt_aload_n (pc := 12) (k := 0) C dX1_removePost_12 rfl rfl ?_
      refine tt_get (pc := 13) (ws := (lC cy ad sc ar tr ps pa)) (ci := 1) (v := .ref (ad 7)) C fiX1 rfl 0 lC_obj 7 (by decide) q1_98 rfl dX1_removePost_13 ?_
      refine tt_iload_n (pc := 16) (k := 1) C dX1_removePost_16 rfl rfl ?_
      refine tt_aload_n (pc := 17) (k := 0) C dX1_removePost_17 rfl rfl ?_
      refine tt_get (pc := 18) (ws := (lC cy ad sc ar tr ps pa)) (ci := 1) (v := .ref (ad 7)) C fiX1 rfl 0 lC_obj 7 (by decide) q1_98 rfl dX1_removePost_18 ?_
      refine tt_iload_n (pc := 21) (k := 1) C dX1_removePost_21 rfl rfl ?_
      refine tt_iconst (pc := 22) (v := (1 : Int32)) C dX1_removePost_22 (by decide) ?_
      refine tt_iadd (pc := 23) C dX1_removePost_23 ?_
      refine tt_iaload (pc := 24) (ws := (lC cy ad sc ar tr ps pa)) (n := 5) (f := (ar 7)) C 5 0 lC_get7 rfl hf dX1_removePost_24 (fun hf => ?_)
      refine tt_iastore (pc := 25) (ws := (lC cy ad sc ar tr ps pa)) (n := 5) (f := (ar 7)) (ws' := (lC cy ad sc (va_up ar 7 (upd (ar 7) (ix v2) ((ar 7) (ix (v2 + (1 : Int32)))))) tr ps pa)) C rfl 5 0 lC_get7 rfl hf dX1_removePost_25 lC_set7 (fun hf => ?_)
      refine tt_aload_n (pc := 26) (k := 0) C dX1_removePost_26 rfl rfl ?_
      refine tt_get (pc := 27) (ws := (lC cy ad sc (va_up ar 7 (upd (ar 7) (ix v2) ((ar 7) (ix (v2 + (1 : Int32)))))) tr ps pa)) (ci := 1) (v := .ref (ad 8)) C fiX1 rfl 0 lC_obj 8 (by decide) q1_101 rfl dX1_removePost_27 ?_
      refine tt_iload_n (pc := 30) (k := 1) C dX1_removePost_30 rfl rfl ?_
      refine tt_aload_n (pc := 31) (k := 0) C dX1_removePost_31 rfl rfl ?_
      refine tt_get (pc := 32) (ws := (lC cy ad sc (va_up ar 7 (upd (ar 7) (ix v2) ((ar 7) (ix (v2 + (1 : Int32)))))) tr ps pa)) (ci := 1) (v := .ref (ad 8)) C fiX1 rfl 0 lC_obj 8 (by decide) q1_101 rfl dX1_removePost_32 ?_
      refine tt_iload_n (pc := 35) (k := 1) C dX1_removePost_35 rfl rfl ?_
      refine tt_iconst (pc := 36) (v := (1 : Int32)) C dX1_removePost_36 (by decide) ?_
      refine tt_iadd (pc := 37) C dX1_removePost_37 ?_
      refine tt_iaload (pc := 38) (ws := (lC cy ad sc (va_up ar 7 (upd (ar 7) (ix v2) ((ar 7) (ix (v2 + (1 : Int32)))))) tr ps pa)) (n := 5) (f := (ar 8)) C 6 0 lC_get8 rfl hf dX1_removePost_38 (fun hf => ?_)
      refine tt_iastore (pc := 39) (ws := (lC cy ad sc (va_up ar 7 (upd (ar 7) (ix v2) ((ar 7) (ix (v2 + (1 : Int32)))))) tr ps pa)) (n := 5) (f := (ar 8)) (ws' := (lC cy ad sc (va_up (va_up ar 7 (upd (ar 7) (ix v2) ((ar 7) (ix (v2 + (1 : Int32)))))) 8 (upd (ar 8) (ix v2) ((ar 8) (ix (v2 + (1 : Int32)))))) tr ps pa)) C rfl 6 0 lC_get8 rfl hf dX1_removePost_39 lC_set8 (fun hf => ?_)
      refine tt_iinc (pc := 40) (k := 1) (v := (v2 + 1)) (L' := [(2, .int (v2 + 1)), (0, .ref (ad 0))]) C dX1_removePost_40 rfl rfl (by decide) rfl ?_
      refine tt_goto (pc := 43) (tgt := 2) C dX1_removePost_43 (by decide) ?_
      exact tt_locs [1, 0] rfl (ih hf)
set_option maxHeartbeats 4000000 in
set_option maxRecDepth 100000 in
theorem k_X1_removePost {l : Launch} {D : va_G} {cy : Nat → ClassId} {Bd : Nat} {xa : Xa} {ad : Nat → Nat} {N : Nat} {sc : Nat → Int32} {ar : Nat → Nat → Int32} {tr : Nat → Nat → Int32} {ps : Nat → Int32} {pa : Nat → Nat → Int32} {a1 : Int32} {out : (Nat → Int32) × (Nat → Nat → Int32)} (hf : f_X1_removePost N sc ar a1 = some out) : KC l yX1_removePost cX1_removePost 3 none 0 0 false D cy Bd xa [.ref (ad 0), .int a1] (lC cy ad sc ar tr ps pa) none (lC cy ad out.1 out.2 tr ps pa) := by
  refine kc_start (own := RX1) (by decide +kernel) rfl (Nat.le_of_ble_eq_true rfl) ?_
  intro p e s m args below meth c A C
  unfold f_X1_removePost at hf
  refine tt_locs (L' := [(0, .ref (ad 0)), (1, .int a1)]) [0, 1] rfl ?_
  refine tt_iload_n (pc := 0) (k := 1) C dX1_removePost_0 rfl rfl ?_
  refine tt_istore_n (pc := 1) (L' := [(2, .int a1), (0, .ref (ad 0)), (1, .int a1)]) C dX1_removePost_1 rfl (by decide) rfl ?_
  refine tt_locs (L' := [(0, .ref (ad 0)), (2, .int a1)]) [1, 0] rfl (l_X1_removePost_2 C (fun t1 hf => ?_) hf)
  refine tt_aload_n (pc := 46) (k := 0) C dX1_removePost_46 rfl rfl ?_
  refine tt_dup (pc := 47) C dX1_removePost_47 rfl ?_
  refine tt_get (pc := 48) (ws := (lC cy ad sc t1 tr ps pa)) (ci := 1) (v := .int (sc 6)) C fiX1 rfl 0 lC_obj 6 (by decide) q1_95 rfl dX1_removePost_48 ?_
  refine tt_iconst (pc := 51) (v := (1 : Int32)) C dX1_removePost_51 (by decide) ?_
  refine tt_isub (pc := 52) C dX1_removePost_52 ?_
  refine tt_put (pc := 53) (ws := (lC cy ad sc t1 tr ps pa)) (ci := 1) (ty := .int) (ws' := (lC cy ad (upd sc 6 ((sc 6) - (1 : Int32))) t1 tr ps pa)) C rfl fiX1 rfl 0 lC_obj 6 (by decide) q1_95 rfl rfl rfl rfl (Nat.le_of_ble_eq_true rfl) dX1_removePost_53 lC_put6 ?_
  obtain rfl := Option.some.inj hf
  exact tt_vreturn (pc := 56) C rfl rfl rfl dX1_removePost_56
theorem dX3_dropFrom_0 : decode cX3_dropFrom 0 = .ok (.iconst 0, 1) := by decide +kernel
theorem dX3_dropFrom_1 : decode cX3_dropFrom 1 = .ok (.istore_n 2, 1) := by decide +kernel
theorem dX3_dropFrom_2 : decode cX3_dropFrom 2 = .ok (.iconst 0, 1) := by decide +kernel
theorem dX3_dropFrom_3 : decode cX3_dropFrom 3 = .ok (.istore_n 3, 1) := by decide +kernel
theorem dX3_dropFrom_4 : decode cX3_dropFrom 4 = .ok (.iload_n 3, 1) := by decide +kernel
theorem dX3_dropFrom_5 : decode cX3_dropFrom 5 = .ok (.aload_n 0, 1) := by decide +kernel
theorem dX3_dropFrom_6 : decode cX3_dropFrom 6 = .ok (.getfield 9, 3) := by decide +kernel
theorem dX3_dropFrom_9 : decode cX3_dropFrom 9 = .ok (.if_icmp .ge 67, 3) := by decide +kernel
theorem dX3_dropFrom_12 : decode cX3_dropFrom 12 = .ok (.aload_n 0, 1) := by decide +kernel
theorem dX3_dropFrom_13 : decode cX3_dropFrom 13 = .ok (.getfield 15, 3) := by decide +kernel
theorem dX3_dropFrom_16 : decode cX3_dropFrom 16 = .ok (.iload_n 3, 1) := by decide +kernel
theorem dX3_dropFrom_17 : decode cX3_dropFrom 17 = .ok (.iaload, 1) := by decide +kernel
theorem dX3_dropFrom_18 : decode cX3_dropFrom 18 = .ok (.iload_n 1, 1) := by decide +kernel
theorem dX3_dropFrom_19 : decode cX3_dropFrom 19 = .ok (.if_icmp .ge 51, 3) := by decide +kernel
theorem dX3_dropFrom_22 : decode cX3_dropFrom 22 = .ok (.aload_n 0, 1) := by decide +kernel
theorem dX3_dropFrom_23 : decode cX3_dropFrom 23 = .ok (.getfield 15, 3) := by decide +kernel
theorem dX3_dropFrom_26 : decode cX3_dropFrom 26 = .ok (.iload_n 2, 1) := by decide +kernel
theorem dX3_dropFrom_27 : decode cX3_dropFrom 27 = .ok (.aload_n 0, 1) := by decide +kernel
theorem dX3_dropFrom_28 : decode cX3_dropFrom 28 = .ok (.getfield 15, 3) := by decide +kernel
theorem dX3_dropFrom_31 : decode cX3_dropFrom 31 = .ok (.iload_n 3, 1) := by decide +kernel
theorem dX3_dropFrom_32 : decode cX3_dropFrom 32 = .ok (.iaload, 1) := by decide +kernel
theorem dX3_dropFrom_33 : decode cX3_dropFrom 33 = .ok (.iastore, 1) := by decide +kernel
theorem dX3_dropFrom_34 : decode cX3_dropFrom 34 = .ok (.aload_n 0, 1) := by decide +kernel
theorem dX3_dropFrom_35 : decode cX3_dropFrom 35 = .ok (.getfield 19, 3) := by decide +kernel
theorem dX3_dropFrom_38 : decode cX3_dropFrom 38 = .ok (.iload_n 2, 1) := by decide +kernel
theorem dX3_dropFrom_39 : decode cX3_dropFrom 39 = .ok (.aload_n 0, 1) := by decide +kernel
theorem dX3_dropFrom_40 : decode cX3_dropFrom 40 = .ok (.getfield 19, 3) := by decide +kernel
theorem dX3_dropFrom_43 : decode cX3_dropFrom 43 = .ok (.iload_n 3, 1) := by decide +kernel
theorem dX3_dropFrom_44 : decode cX3_dropFrom 44 = .ok (.iaload, 1) := by decide +kernel
theorem dX3_dropFrom_45 : decode cX3_dropFrom 45 = .ok (.iastore, 1) := by decide +kernel
theorem dX3_dropFrom_46 : decode cX3_dropFrom 46 = .ok (.aload_n 0, 1) := by decide +kernel
theorem dX3_dropFrom_47 : decode cX3_dropFrom 47 = .ok (.getfield 22, 3) := by decide +kernel
theorem dX3_dropFrom_50 : decode cX3_dropFrom 50 = .ok (.iload_n 3, 1) := by decide +kernel
theorem dX3_dropFrom_51 : decode cX3_dropFrom 51 = .ok (.bipush 7, 2) := by decide +kernel
theorem dX3_dropFrom_53 : decode cX3_dropFrom 53 = .ok (.imul, 1) := by decide +kernel
theorem dX3_dropFrom_54 : decode cX3_dropFrom 54 = .ok (.aload_n 0, 1) := by decide +kernel
theorem dX3_dropFrom_55 : decode cX3_dropFrom 55 = .ok (.getfield 22, 3) := by decide +kernel
theorem dX3_dropFrom_58 : decode cX3_dropFrom 58 = .ok (.iload_n 2, 1) := by decide +kernel
theorem dX3_dropFrom_59 : decode cX3_dropFrom 59 = .ok (.bipush 7, 2) := by decide +kernel
theorem dX3_dropFrom_61 : decode cX3_dropFrom 61 = .ok (.imul, 1) := by decide +kernel
theorem dX3_dropFrom_62 : decode cX3_dropFrom 62 = .ok (.bipush 7, 2) := by decide +kernel
theorem dX3_dropFrom_64 : decode cX3_dropFrom 64 = .ok (.invokestatic 26, 3) := by decide +kernel
theorem dX3_dropFrom_67 : decode cX3_dropFrom 67 = .ok (.iinc 2 1, 3) := by decide +kernel
theorem dX3_dropFrom_70 : decode cX3_dropFrom 70 = .ok (.iinc 3 1, 3) := by decide +kernel
theorem dX3_dropFrom_73 : decode cX3_dropFrom 73 = .ok (.goto (-69), 3) := by decide +kernel
theorem dX3_dropFrom_76 : decode cX3_dropFrom 76 = .ok (.aload_n 0, 1) := by decide +kernel
theorem dX3_dropFrom_77 : decode cX3_dropFrom 77 = .ok (.iload_n 2, 1) := by decide +kernel
theorem dX3_dropFrom_78 : decode cX3_dropFrom 78 = .ok (.putfield 9, 3) := by decide +kernel
theorem dX3_dropFrom_81 : decode cX3_dropFrom 81 = .ok (.return_, 1) := by decide +kernel
set_option maxHeartbeats 4000000 in
set_option maxRecDepth 100000 in
theorem l_X3_dropFrom_4 {p : Program} {l : Launch} {e : Env} {s : State} {m : MethodId} {args : Array Value} {below : List Frame} {meth : Method} {c : Code} {D : va_G} {cy : Nat → ClassId} {A : Nat → Prop} {Bd : Nat} {xa : Xa} {ad : Nat → Nat} {β : Type} {vO : Option Value} {wO : va_W} {N : Nat} {ps : Nat → Int32} {v1 : Int32} {kx : Int32 → (Nat → Nat → Int32) → Option (β)} {out : β} (C : CC p s m args meth c cX3_dropFrom RX3 4 none D cy A false Bd xa) (hk : ∀ (x2 : Int32) (pa1 : Nat → Nat → Int32), kx x2 pa1 = some out → TT p l e { frames := 1, cells := 0, slots := 0, locals := 28 } s m args below meth c 4 D A false vO wO 76 [(0, .ref (ad 12)), (2, .int x2)] [] (pC cy ad ps pa1)) {n : Nat} {v2 : Int32} {v3 : Int32} {pa : Nat → Nat → Int32} (hf : f_X3_dropFrom_L4 N ps v1 kx n v2 v3 pa = some out) : TT p l e { frames := 1, cells := 0, slots := 0, locals := 28 } s m args below meth c 4 D A false vO wO 4 [(0, .ref (ad 12)), (1, .int v1), (2, .int v2), (3, .int v3)] [] (pC cy ad ps pa) := by
  induction n generalizing v2 v3 pa with
  | zero => cases hf
  | succ n ih =>
    rw [f_X3_dropFrom_L4] at hf
    refine tt_iload_n (pc := 4) (k := 3) C dX3_dropFrom_4 rfl rfl ?_
    refine tt_aload_n (pc := 5) (k := 0) C dX3_dropFrom_5 rfl rfl ?_
    refine tt_get (pc := 6) (ws := (pC cy ad ps pa)) (ci := 3) (v := .int (ps 0)) C fiX3 rfl 0 pC_obj 0 (by decide) q1_38 rfl dX3_dropFrom_6 ?_
    refine tt_icmp_ge (pc := 9) (tgt := 76) C dX3_dropFrom_9 (by decide) hf (fun hf => ?_) (fun hf => ?_)
    · exact tt_locs [0, 2] rfl (hk _ _ hf)
    · refine tt_aload_n (pc := 12) (k := 0) C dX3_dropFrom_12 rfl rfl ?_
      refine tt_get (pc := 13) (ws := (pC cy ad ps pa)) (ci := 3) (v := .ref (ad 21)) C fiX3 rfl 0 pC_obj 1 (by decide) q1_40 rfl dX3_dropFrom_13 ?_
      refine tt_iload_n (pc := 16) (k := 3) C dX3_dropFrom_16 rfl rfl ?_
      refine tt_iaload (pc := 17) (ws := (pC cy ad ps pa)) (n := 8) (f := (pa 1)) C 1 0 pC_get1 rfl hf dX3_dropFrom_17 (fun hf => ?_)
      refine tt_iload_n (pc := 18) (k := 1) C dX3_dropFrom_18 rfl rfl ?_
      obtain ⟨j1, hj1, hf⟩ := bind_some hf
      have k2 : TT p l e { frames := 1, cells := 0, slots := 0, locals := 28 } s m args below meth c 4 D A false vO wO 70 [(0, .ref (ad 12)), (1, .int v1), (2, .int j1.1), (3, .int v3)] [] (pC cy ad ps j1.2) := by
        refine tt_iinc (pc := 70) (k := 3) (v := (v3 + 1)) (L' := [(3, .int (v3 + 1)), (0, .ref (ad 12)), (1, .int v1), (2, .int j1.1)]) C dX3_dropFrom_70 rfl rfl (by decide) rfl ?_
        refine tt_goto (pc := 73) (tgt := 4) C dX3_dropFrom_73 (by decide) ?_
        exact tt_locs [1, 2, 3, 0] rfl (ih hf)
      refine tt_icmp_ge (pc := 19) (tgt := 70) C dX3_dropFrom_19 (by decide) hj1 (fun hj1 => ?_) (fun hj1 => ?_)
      · obtain rfl := Option.some.inj hj1
        exact tt_locs [0, 1, 2, 3] rfl k2
      · refine tt_aload_n (pc := 22) (k := 0) C dX3_dropFrom_22 rfl rfl ?_
        refine tt_get (pc := 23) (ws := (pC cy ad ps pa)) (ci := 3) (v := .ref (ad 21)) C fiX3 rfl 0 pC_obj 1 (by decide) q1_40 rfl dX3_dropFrom_23 ?_
        refine tt_iload_n (pc := 26) (k := 2) C dX3_dropFrom_26 rfl rfl ?_
        refine tt_aload_n (pc := 27) (k := 0) C dX3_dropFrom_27 rfl rfl ?_
        refine tt_get (pc := 28) (ws := (pC cy ad ps pa)) (ci := 3) (v := .ref (ad 21)) C fiX3 rfl 0 pC_obj 1 (by decide) q1_40 rfl dX3_dropFrom_28 ?_
        refine tt_iload_n (pc := 31) (k := 3) C dX3_dropFrom_31 rfl rfl ?_
        refine tt_iaload (pc := 32) (ws := (pC cy ad ps pa)) (n := 8) (f := (pa 1)) C 1 0 pC_get1 rfl hj1 dX3_dropFrom_32 (fun hj1 => ?_)
        refine tt_iastore (pc := 33) (ws := (pC cy ad ps pa)) (n := 8) (f := (pa 1)) (ws' := (pC cy ad ps (va_up pa 1 (upd (pa 1) (ix v2) ((pa 1) (ix v3)))))) C rfl 1 0 pC_get1 rfl hj1 dX3_dropFrom_33 pC_set1 (fun hj1 => ?_)
        refine tt_aload_n (pc := 34) (k := 0) C dX3_dropFrom_34 rfl rfl ?_
        refine tt_get (pc := 35) (ws := (pC cy ad ps (va_up pa 1 (upd (pa 1) (ix v2) ((pa 1) (ix v3)))))) (ci := 3) (v := .ref (ad 22)) C fiX3 rfl 0 pC_obj 2 (by decide) q1_42 rfl dX3_dropFrom_35 ?_
        refine tt_iload_n (pc := 38) (k := 2) C dX3_dropFrom_38 rfl rfl ?_
        refine tt_aload_n (pc := 39) (k := 0) C dX3_dropFrom_39 rfl rfl ?_
        refine tt_get (pc := 40) (ws := (pC cy ad ps (va_up pa 1 (upd (pa 1) (ix v2) ((pa 1) (ix v3)))))) (ci := 3) (v := .ref (ad 22)) C fiX3 rfl 0 pC_obj 2 (by decide) q1_42 rfl dX3_dropFrom_40 ?_
        refine tt_iload_n (pc := 43) (k := 3) C dX3_dropFrom_43 rfl rfl ?_
        refine tt_iaload (pc := 44) (ws := (pC cy ad ps (va_up pa 1 (upd (pa 1) (ix v2) ((pa 1) (ix v3)))))) (n := 8) (f := (pa 2)) C 2 0 pC_get2 rfl hj1 dX3_dropFrom_44 (fun hj1 => ?_)
        refine tt_iastore (pc := 45) (ws := (pC cy ad ps (va_up pa 1 (upd (pa 1) (ix v2) ((pa 1) (ix v3)))))) (n := 8) (f := (pa 2)) (ws' := (pC cy ad ps (va_up (va_up pa 1 (upd (pa 1) (ix v2) ((pa 1) (ix v3)))) 2 (upd (pa 2) (ix v2) ((pa 2) (ix v3)))))) C rfl 2 0 pC_get2 rfl hj1 dX3_dropFrom_45 pC_set2 (fun hj1 => ?_)
        refine tt_aload_n (pc := 46) (k := 0) C dX3_dropFrom_46 rfl rfl ?_
        refine tt_get (pc := 47) (ws := (pC cy ad ps (va_up (va_up pa 1 (upd (pa 1) (ix v2) ((pa 1) (ix v3)))) 2 (upd (pa 2) (ix v2) ((pa 2) (ix v3)))))) (ci := 3) (v := .ref (ad 23)) C fiX3 rfl 0 pC_obj 3 (by decide) q1_44 rfl dX3_dropFrom_47 ?_
        refine tt_iload_n (pc := 50) (k := 3) C dX3_dropFrom_50 rfl rfl ?_
        refine tt_bipush (pc := 51) (v := (7 : Int32)) C dX3_dropFrom_51 (by decide) ?_
        refine tt_imul (pc := 53) C dX3_dropFrom_53 ?_
        refine tt_aload_n (pc := 54) (k := 0) C dX3_dropFrom_54 rfl rfl ?_
        refine tt_get (pc := 55) (ws := (pC cy ad ps (va_up (va_up pa 1 (upd (pa 1) (ix v2) ((pa 1) (ix v3)))) 2 (upd (pa 2) (ix v2) ((pa 2) (ix v3)))))) (ci := 3) (v := .ref (ad 23)) C fiX3 rfl 0 pC_obj 3 (by decide) q1_44 rfl dX3_dropFrom_55 ?_
        refine tt_iload_n (pc := 58) (k := 2) C dX3_dropFrom_58 rfl rfl ?_
        refine tt_bipush (pc := 59) (v := (7 : Int32)) C dX3_dropFrom_59 (by decide) ?_
        refine tt_imul (pc := 61) C dX3_dropFrom_61 ?_
        refine tt_bipush (pc := 62) (v := (7 : Int32)) C dX3_dropFrom_62 (by decide) ?_
        refine tt_copyC (pc := 64) (ws := (pC cy ad ps (va_up (va_up pa 1 (upd (pa 1) (ix v2) ((pa 1) (ix v3)))) 2 (upd (pa 2) (ix v2) ((pa 2) (ix v3)))))) (n0 := 56) (n1 := 56) (f := (pa 3)) (g := (pa 3)) (ws' := (pC cy ad ps (va_up (va_up (va_up pa 1 (upd (pa 1) (ix v2) ((pa 1) (ix v3)))) 2 (upd (pa 2) (ix v2) ((pa 2) (ix v3)))) 3 (va_cpy (pa 3) (pa 3) (ix (v3 * (7 : Int32))) (ix (v2 * (7 : Int32))) (ix (7 : Int32)))))) C rfl q2_142 q2_133 q2_132 q1_13 3 3 pC_get3 pC_get3 hj1 (Nat.le_of_ble_eq_true rfl) (Nat.le_of_ble_eq_true rfl) dX3_dropFrom_64 pC_set3 (fun hj1 => ?_)
        refine tt_iinc (pc := 67) (k := 2) (v := (v2 + 1)) (L' := [(2, .int (v2 + 1)), (0, .ref (ad 12)), (1, .int v1), (3, .int v3)]) C dX3_dropFrom_67 rfl rfl (by decide) rfl ?_
        obtain rfl := Option.some.inj hj1
        exact tt_locs [1, 2, 0, 3] rfl k2
set_option maxHeartbeats 4000000 in
set_option maxRecDepth 100000 in
theorem k_X3_dropFrom {l : Launch} {D : va_G} {cy : Nat → ClassId} {Bd : Nat} {xa : Xa} {ad : Nat → Nat} {N : Nat} {ps : Nat → Int32} {pa : Nat → Nat → Int32} {a1 : Int32} {out : (Nat → Int32) × (Nat → Nat → Int32)} (hf : f_X3_dropFrom N ps pa a1 = some out) : KC l yX3_dropFrom cX3_dropFrom 4 none 1 28 false D cy Bd xa [.ref (ad 12), .int a1] (pC cy ad ps pa) none (pC cy ad out.1 out.2) := by
  refine kc_start (own := RX3) (by decide +kernel) rfl (Nat.le_of_ble_eq_true rfl) ?_
  intro p e s m args below meth c A C
  unfold f_X3_dropFrom at hf
  refine tt_locs (L' := [(0, .ref (ad 12)), (1, .int a1)]) [0, 1] rfl ?_
  refine tt_iconst (pc := 0) (v := (0 : Int32)) C dX3_dropFrom_0 (by decide) ?_
  refine tt_istore_n (pc := 1) (L' := [(2, .int (0 : Int32)), (0, .ref (ad 12)), (1, .int a1)]) C dX3_dropFrom_1 rfl (by decide) rfl ?_
  refine tt_iconst (pc := 2) (v := (0 : Int32)) C dX3_dropFrom_2 (by decide) ?_
  refine tt_istore_n (pc := 3) (L' := [(3, .int (0 : Int32)), (2, .int (0 : Int32)), (0, .ref (ad 12)), (1, .int a1)]) C dX3_dropFrom_3 rfl (by decide) rfl ?_
  refine tt_locs (L' := [(0, .ref (ad 12)), (1, .int a1), (2, .int (0 : Int32)), (3, .int (0 : Int32))]) [2, 3, 1, 0] rfl (l_X3_dropFrom_4 C (fun x2_3 t3 hf => ?_) hf)
  refine tt_aload_n (pc := 76) (k := 0) C dX3_dropFrom_76 rfl rfl ?_
  refine tt_iload_n (pc := 77) (k := 1) C dX3_dropFrom_77 rfl rfl ?_
  refine tt_put (pc := 78) (ws := (pC cy ad ps t3)) (ci := 3) (ty := .int) (ws' := (pC cy ad (upd ps 0 x2_3) t3)) C rfl fiX3 rfl 0 pC_obj 0 (by decide) q1_38 rfl rfl rfl rfl (Nat.le_of_ble_eq_true rfl) dX3_dropFrom_78 pC_put0 ?_
  obtain rfl := Option.some.inj hf
  exact tt_vreturn (pc := 81) C rfl rfl rfl dX3_dropFrom_81
