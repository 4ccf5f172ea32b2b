theorem dX1_postsSeen_0 : decode cX1_postsSeen 0 = .ok (.iconst 0, 1) := by decide +kernel
theorem dX1_postsSeen_1 : decode cX1_postsSeen 1 = .ok (.istore_n 3, 1) := by decide +kernel
theorem dX1_postsSeen_2 : decode cX1_postsSeen 2 = .ok (.iconst 0, 1) := by decide +kernel
theorem dX1_postsSeen_3 : decode cX1_postsSeen 3 = .ok (.istore 4, 2) := by decide +kernel
theorem dX1_postsSeen_5 : decode cX1_postsSeen 5 = .ok (.iload 4, 2) := by decide +kernel
theorem dX1_postsSeen_7 : decode cX1_postsSeen 7 = .ok (.aload_n 0, 1) := by decide +kernel
theorem dX1_postsSeen_8 : decode cX1_postsSeen 8 = .ok (.getfield 31, 3) := by decide +kernel
theorem dX1_postsSeen_11 : decode cX1_postsSeen 11 = .ok (.if_icmp .ge 27, 3) := by decide +kernel
theorem dX1_postsSeen_14 : decode cX1_postsSeen 14 = .ok (.aload_n 0, 1) := by decide +kernel
theorem dX1_postsSeen_15 : decode cX1_postsSeen 15 = .ok (.aload_n 1, 1) := by decide +kernel
theorem dX1_postsSeen_16 : decode cX1_postsSeen 16 = .ok (.iload 4, 2) := by decide +kernel
theorem dX1_postsSeen_18 : decode cX1_postsSeen 18 = .ok (.iload_n 2, 1) := by decide +kernel
theorem dX1_postsSeen_19 : decode cX1_postsSeen 19 = .ok (.aload_n 0, 1) := by decide +kernel
theorem dX1_postsSeen_20 : decode cX1_postsSeen 20 = .ok (.invokevirtual 145, 3) := by decide +kernel
theorem dX1_postsSeen_23 : decode cX1_postsSeen 23 = .ok (.invokevirtual 151, 3) := by decide +kernel
theorem dX1_postsSeen_26 : decode cX1_postsSeen 26 = .ok (.ifCond .eq 6, 3) := by decide +kernel
theorem dX1_postsSeen_29 : decode cX1_postsSeen 29 = .ok (.iinc 3 1, 3) := by decide +kernel
theorem dX1_postsSeen_32 : decode cX1_postsSeen 32 = .ok (.iinc 4 1, 3) := by decide +kernel
theorem dX1_postsSeen_35 : decode cX1_postsSeen 35 = .ok (.goto (-30), 3) := by decide +kernel
theorem dX1_postsSeen_38 : decode cX1_postsSeen 38 = .ok (.iload_n 3, 1) := by decide +kernel
theorem dX1_postsSeen_39 : decode cX1_postsSeen 39 = .ok (.ireturn, 1) := by decide +kernel
set_option maxHeartbeats 4000000 in
set_option maxRecDepth 100000 in
theorem l_X1_postsSeen_5 {p : Program} {l : Launch} {e : Env} {s : State} {m : MethodId} {args : Array Value} {below : List Frame} {meth : Method} {c : Code} {D : va_G} {cy : Nat → ClassId} {A : Nat → Prop} {Bd : Nat} {xa : Xa} {q : Nat} {ad : Nat → Nat} {β : Type} {vO : Option Value} {wO : va_W} {N : Nat} {u : Nat → Int32} {sc : Nat → Int32} {ar : Nat → Nat → Int32} {tr : Nat → Nat → Int32} {ps : Nat → Int32} {pa : Nat → Nat → Int32} {v2 : Int32} {kx : Int32 → Option (β)} {out : β} (C : CC p s m args meth c cX1_postsSeen RX1 5 (some .int) D cy A true Bd xa) (hk : ∀ (x3 : Int32), kx x3 = some out → TT p l e { frames := 3, cells := 0, slots := 0, locals := 80 } s m args below meth c 5 D A true vO wO 38 [(3, .int x3)] [] ((q, tE u) :: lC cy ad sc ar tr ps pa)) {n : Nat} {v3 : Int32} {v4 : Int32} (hf : f_X1_postsSeen_L5 N u sc ar v2 kx n v3 v4 = some out) : TT p l e { frames := 3, cells := 0, slots := 0, locals := 80 } s m args below meth c 5 D A true vO wO 5 [(0, .ref (ad 0)), (1, .ref q), (2, .int v2), (3, .int v3), (4, .int v4)] [] ((q, tE u) :: lC cy ad sc ar tr ps pa) := by
  induction n generalizing v3 v4 with
  | zero => cases hf
  | succ n ih =>
    rw [f_X1_postsSeen_L5] at hf
    refine tt_iload (pc := 5) (k := 4) C dX1_postsSeen_5 rfl ?_
    refine tt_aload_n (pc := 7) (k := 0) C dX1_postsSeen_7 rfl rfl ?_
    refine tt_get (pc := 8) (ws := ((q, tE u) :: lC cy ad sc ar tr ps pa)) (ci := 1) (v := .int (sc 6)) C fiX1 rfl 1 rfl 6 (by decide) q1_95 rfl dX1_postsSeen_8 ?_
    refine tt_icmp_ge (pc := 11) (tgt := 38) C dX1_postsSeen_11 (by decide) hf (fun hf => ?_) (fun hf => ?_)
    · exact tt_locs [3] rfl (hk _ hf)
    · refine tt_aload_n (pc := 14) (k := 0) C dX1_postsSeen_14 rfl rfl ?_
      refine tt_aload_n (pc := 15) (k := 1) C dX1_postsSeen_15 rfl rfl ?_
      refine tt_iload (pc := 16) (k := 4) C dX1_postsSeen_16 rfl ?_
      refine tt_iload_n (pc := 18) (k := 2) C dX1_postsSeen_18 rfl rfl ?_
      refine tt_aload_n (pc := 19) (k := 0) C dX1_postsSeen_19 rfl rfl ?_
      obtain ⟨r1, hr1, hf⟩ := bind_some hf
      refine tt_callR (pc := 20) (ws := ((q, tE u) :: lC cy ad sc ar tr ps pa)) (q0 := 1) (ci := 1) (rest := [.int v2, .int v4, .ref q, .ref (ad 0)]) (st' := [.int r1, .int v2, .int v4, .ref q, .ref (ad 0)]) C (k_X1_allBridges hr1) okX1_allBridges q3_154 rfl rfl (fun _ h => List.mem_cons_of_mem _ h) rfl rfl rfl (Nat.le_of_ble_eq_true rfl) ⟨Nat.le_of_ble_eq_true rfl, Nat.le_of_ble_eq_true rfl⟩ dX1_postsSeen_20 ?_
      obtain ⟨r2, hr2, hf⟩ := bind_some hf
      refine tt_callR (pc := 23) (ws := ((q, tE u) :: lC cy ad sc ar tr ps pa)) (q0 := 1) (ci := 1) (rest := []) (st' := [.int r2]) C (k_X1_seesPost hr2) okX1_seesPost q3_207 rfl rfl (sub_c List.mem_cons_self (fun _ h => List.mem_cons_of_mem _ h)) rfl rfl rfl (Nat.le_of_ble_eq_true rfl) ⟨Nat.le_of_ble_eq_true rfl, Nat.le_of_ble_eq_true rfl⟩ dX1_postsSeen_23 ?_
      have k4 : TT p l e { frames := 3, cells := 0, slots := 0, locals := 80 } s m args below meth c 5 D A true vO wO 32 [(0, .ref (ad 0)), (1, .ref q), (2, .int v2), (3, .int (if r2 = 0 then v3 else (v3 + 1))), (4, .int v4)] [] ((q, tE u) :: lC cy ad sc ar tr ps pa) := by
        refine tt_iinc (pc := 32) (k := 4) (v := (v4 + 1)) (L' := [(4, .int (v4 + 1)), (0, .ref (ad 0)), (1, .ref q), (2, .int v2), (3, .int (if r2 = 0 then v3 else (v3 + 1)))]) C dX1_postsSeen_32 rfl rfl (by decide) rfl ?_
        refine tt_goto (pc := 35) (tgt := 5) C dX1_postsSeen_35 (by decide) ?_
        exact tt_locs [1, 2, 3, 4, 0] rfl (ih hf)
      refine tr_if_eq (pc := 26) (tgt := 32) C dX1_postsSeen_26 (by decide) (fun c3 => ?_) (fun c3 => ?_)
      · try simp only [if_pos c3] at k4 ⊢
        exact tt_locs [0, 1, 2, 3, 4] rfl k4
      · refine tt_iinc (pc := 29) (k := 3) (v := (v3 + 1)) (L' := [(3, .int (v3 + 1)), (0, .ref (ad 0)), (1, .ref q), (2, .int v2), (4, .int v4)]) C dX1_postsSeen_29 rfl rfl (by decide) rfl ?_
        try simp only [if_neg c3] at k4 ⊢
        exact tt_locs [1, 2, 3, 0, 4] rfl k4
set_option maxHeartbeats 4000000 in
set_option maxRecDepth 100000 in
theorem k_X1_postsSeen {l : Launch} {D : va_G} {cy : Nat → ClassId} {Bd : Nat} {xa : Xa} {q : Nat} {ad : Nat → Nat} {N : Nat} {u : Nat → Int32} {sc : Nat → Int32} {ar : Nat → Nat → Int32} {tr : Nat → Nat → Int32} {ps : Nat → Int32} {pa : Nat → Nat → Int32} {a2 : Int32} {out : Int32} (hf : f_X1_postsSeen N u sc ar a2 = some out) : KC l yX1_postsSeen cX1_postsSeen 5 (some .int) 3 80 true D cy Bd xa [.ref (ad 0), .ref q, .int a2] ((q, tE u) :: lC cy ad sc ar tr ps pa) (some (.int out)) ((q, tE u) :: lC cy ad sc ar tr ps pa) := by
  refine kc_start (own := RX1) (by decide +kernel) rfl (Nat.le_of_ble_eq_true rfl) ?_
  intro p e s m args below meth c A C
  unfold f_X1_postsSeen at hf
  refine tt_locs (L' := [(0, .ref (ad 0)), (1, .ref q), (2, .int a2)]) [0, 1, 2] rfl ?_
  refine tt_iconst (pc := 0) (v := (0 : Int32)) C dX1_postsSeen_0 (by decide) ?_
  refine tt_istore_n (pc := 1) (L' := [(3, .int (0 : Int32)), (0, .ref (ad 0)), (1, .ref q), (2, .int a2)]) C dX1_postsSeen_1 rfl (by decide) rfl ?_
  refine tt_iconst (pc := 2) (v := (0 : Int32)) C dX1_postsSeen_2 (by decide) ?_
  refine tt_istore (pc := 3) (L' := [(4, .int (0 : Int32)), (3, .int (0 : Int32)), (0, .ref (ad 0)), (1, .ref q), (2, .int a2)]) C dX1_postsSeen_3 (by decide) rfl ?_
  refine tt_locs (L' := [(0, .ref (ad 0)), (1, .ref q), (2, .int a2), (3, .int (0 : Int32)), (4, .int (0 : Int32))]) [2, 3, 4, 1, 0] rfl (l_X1_postsSeen_5 C (fun x3_5 hf => ?_) hf)
  refine tt_iload_n (pc := 38) (k := 0) C dX1_postsSeen_38 rfl rfl ?_
  obtain rfl := Option.some.inj hf
  exact tt_ireturn (pc := 39) C rfl rfl rfl dX1_postsSeen_39
theorem dX6_atOnce_0 : decode cX6_atOnce 0 = .ok (.aload_n 0, 1) := by decide +kernel
theorem dX6_atOnce_1 : decode cX6_atOnce 1 = .ok (.getfield 10, 3) := by decide +kernel
theorem dX6_atOnce_4 : decode cX6_atOnce 4 = .ok (.iload_n 1, 1) := by decide +kernel
theorem dX6_atOnce_5 : decode cX6_atOnce 5 = .ok (.invokevirtual 129, 3) := by decide +kernel
theorem dX6_atOnce_8 : decode cX6_atOnce 8 = .ok (.ifCond .eq 14, 3) := by decide +kernel
theorem dX6_atOnce_11 : decode cX6_atOnce 11 = .ok (.aload_n 0, 1) := by decide +kernel
theorem dX6_atOnce_12 : decode cX6_atOnce 12 = .ok (.getfield 10, 3) := by decide +kernel
theorem dX6_atOnce_15 : decode cX6_atOnce 15 = .ok (.iload_n 2, 1) := by decide +kernel
theorem dX6_atOnce_16 : decode cX6_atOnce 16 = .ok (.invokevirtual 151, 3) := by decide +kernel
theorem dX6_atOnce_19 : decode cX6_atOnce 19 = .ok (.ifCond .ne 9, 3) := by decide +kernel
theorem dX6_atOnce_22 : decode cX6_atOnce 22 = .ok (.aload_n 0, 1) := by decide +kernel
theorem dX6_atOnce_23 : decode cX6_atOnce 23 = .ok (.iconst (-1), 1) := by decide +kernel
theorem dX6_atOnce_24 : decode cX6_atOnce 24 = .ok (.invokevirtual 87, 3) := by decide +kernel
theorem dX6_atOnce_27 : decode cX6_atOnce 27 = .ok (.ireturn, 1) := by decide +kernel
theorem dX6_atOnce_28 : decode cX6_atOnce 28 = .ok (.aload_n 0, 1) := by decide +kernel
theorem dX6_atOnce_29 : decode cX6_atOnce 29 = .ok (.getfield 10, 3) := by decide +kernel
theorem dX6_atOnce_32 : decode cX6_atOnce 32 = .ok (.aload_n 0, 1) := by decide +kernel
theorem dX6_atOnce_33 : decode cX6_atOnce 33 = .ok (.getfield 10, 3) := by decide +kernel
theorem dX6_atOnce_36 : decode cX6_atOnce 36 = .ok (.getfield 132, 3) := by decide +kernel
theorem dX6_atOnce_39 : decode cX6_atOnce 39 = .ok (.iload_n 1, 1) := by decide +kernel
theorem dX6_atOnce_40 : decode cX6_atOnce 40 = .ok (.aaload, 1) := by decide +kernel
theorem dX6_atOnce_41 : decode cX6_atOnce 41 = .ok (.iload_n 2, 1) := by decide +kernel
theorem dX6_atOnce_42 : decode cX6_atOnce 42 = .ok (.invokevirtual 214, 3) := by decide +kernel
theorem dX6_atOnce_45 : decode cX6_atOnce 45 = .ok (.ireturn, 1) := by decide +kernel
set_option maxHeartbeats 4000000 in
set_option maxRecDepth 100000 in
theorem k_X6_atOnce {l : Launch} {D : va_G} {cy : Nat → ClassId} {Bd : Nat} {xa : Xa} {xd : Nat → Nat → Nat} {N : Nat} {sX : Nat → Int32} {aX : Nat → Nat → Int32} {uG : Nat → Int32} {es : Nat → Int32} {ea : Nat → Nat → Int32} {sT : Nat → Int32} {aT : Nat → Nat → Int32} {tT : Nat → Nat → Int32} {pT : Nat → Int32} {qT : Nat → Nat → Int32} {ma : Nat → Nat → Int32} {sL : Nat → Int32} {aL : Nat → Nat → Int32} {tL : Nat → Nat → Int32} {pL : Nat → Int32} {qL : Nat → Nat → Int32} {sK : Nat → Int32} {aK : Nat → Nat → Int32} {tK : Nat → Nat → Int32} {pK : Nat → Int32} {qK : Nat → Nat → Int32} {sH : Nat → Nat → Int32} {rH : Nat → Nat → Int64} {uH : Nat → Nat → Int32} {a1 : Int32} {a2 : Int32} {out : Int32 × (Nat → Nat → Int32)} (hf : f_X6_atOnce N aX sL aL tL a1 a2 = some out) : KC l yX6_atOnce cX6_atOnce 3 (some .int) 4 104 false D cy Bd xa [.ref (xd 0 0), .int a1, .int a2] (xC cy xd sX aX uG es ea sT aT tT pT qT ma sL aL tL pL qL sK aK tK pK qK sH rH uH) (some (.int out.1)) (xC cy xd sX out.2 uG es ea sT aT tT pT qT ma sL aL tL pL qL sK aK tK pK qK sH rH uH) := by
  refine kc_start (own := RX6) (by decide +kernel) rfl (Nat.le_of_ble_eq_true rfl) ?_
  intro p e s m args below meth c A C
  unfold f_X6_atOnce at hf
  refine tt_locs (L' := [(0, .ref (xd 0 0)), (1, .int a1), (2, .int a2)]) [0, 1, 2] rfl ?_
  refine tt_aload_n (pc := 0) (k := 0) C dX6_atOnce_0 rfl rfl ?_
  refine tt_get (pc := 1) (ws := (xC cy xd sX aX uG es ea sT aT tT pT qT ma sL aL tL pL qL sK aK tK pK qK sH rH uH)) (ci := 6) (v := .ref ((xd 1) 0)) C fiX6 rfl 0 xC_obj 0 (by decide) q1_219 rfl dX6_atOnce_1 ?_
  refine tt_iload_n (pc := 4) (k := 1) C dX6_atOnce_4 rfl rfl ?_
  obtain ⟨r1, hr1, hf⟩ := bind_some hf
  refine tt_callR (pc := 5) (ws := (xC cy xd sX aX uG es ea sT aT tT pT qT ma sL aL tL pL qL sK aK tK pK qK sH rH uH)) (q0 := 28) (ci := 1) (rest := []) (st' := [.int r1]) C (k_X1_hasTrain hr1) okX1_hasTrain q3_43 rfl rfl xC_subL rfl rfl rfl (Nat.le_of_ble_eq_true rfl) ⟨Nat.le_of_ble_eq_true rfl, Nat.le_of_ble_eq_true rfl⟩ dX6_atOnce_5 ?_
  refine tt_if_eq (pc := 8) (tgt := 22) C dX6_atOnce_8 (by decide) hf (fun hf => ?_) (fun hf => ?_)
  · refine tt_aload_n (pc := 22) (k := 0) C dX6_atOnce_22 rfl rfl ?_
    refine tt_iconst (pc := 23) (v := (-1 : Int32)) C dX6_atOnce_23 (by decide) ?_
    obtain ⟨r2, hr2, hf⟩ := bind_some hf
    refine tt_callM (pc := 24) (ws := (xC cy xd sX aX uG es ea sT aT tT pT qT ma sL aL tL pL qL sK aK tK pK qK sH rH uH)) (q0 := 0) (ci := 6) (rest := []) (st' := [.int r2.1]) C rfl (k_X6_refused hr2) okX6_refused q2_19 rfl xC_obj rfl rfl rfl (Nat.le_of_ble_eq_true rfl) ⟨Nat.le_of_ble_eq_true rfl, Nat.le_of_ble_eq_true rfl⟩ dX6_atOnce_24 ?_
    obtain rfl := Option.some.inj hf
    exact tt_ireturn (pc := 27) C rfl rfl rfl dX6_atOnce_27
  · refine tt_aload_n (pc := 11) (k := 0) C dX6_atOnce_11 rfl rfl ?_
    refine tt_get (pc := 12) (ws := (xC cy xd sX aX uG es ea sT aT tT pT qT ma sL aL tL pL qL sK aK tK pK qK sH rH uH)) (ci := 6) (v := .ref ((xd 1) 0)) C fiX6 rfl 0 xC_obj 0 (by decide) q1_219 rfl dX6_atOnce_12 ?_
    refine tt_iload_n (pc := 15) (k := 2) C dX6_atOnce_15 rfl rfl ?_
    obtain ⟨r3, hr3, hf⟩ := bind_some hf
    refine tt_callR (pc := 16) (ws := (xC cy xd sX aX uG es ea sT aT tT pT qT ma sL aL tL pL qL sK aK tK pK qK sH rH uH)) (q0 := 28) (ci := 1) (rest := []) (st' := [.int r3]) C (k_X1_hasCell hr3) okX1_hasCell q3_55 rfl rfl xC_subL rfl rfl rfl (Nat.le_of_ble_eq_true rfl) ⟨Nat.le_of_ble_eq_true rfl, Nat.le_of_ble_eq_true rfl⟩ dX6_atOnce_16 ?_
    refine tt_if_ne (pc := 19) (tgt := 28) C dX6_atOnce_19 (by decide) hf (fun hf => ?_) (fun hf => ?_)
    · refine tt_aload_n (pc := 28) (k := 0) C dX6_atOnce_28 rfl rfl ?_
      refine tt_get (pc := 29) (ws := (xC cy xd sX aX uG es ea sT aT tT pT qT ma sL aL tL pL qL sK aK tK pK qK sH rH uH)) (ci := 6) (v := .ref ((xd 1) 0)) C fiX6 rfl 0 xC_obj 0 (by decide) q1_219 rfl dX6_atOnce_29 ?_
      refine tt_aload_n (pc := 32) (k := 0) C dX6_atOnce_32 rfl rfl ?_
      refine tt_get (pc := 33) (ws := (xC cy xd sX aX uG es ea sT aT tT pT qT ma sL aL tL pL qL sK aK tK pK qK sH rH uH)) (ci := 6) (v := .ref ((xd 1) 0)) C fiX6 rfl 0 xC_obj 0 (by decide) q1_219 rfl dX6_atOnce_33 ?_
      refine tt_get (pc := 36) (ws := (xC cy xd sX aX uG es ea sT aT tT pT qT ma sL aL tL pL qL sK aK tK pK qK sH rH uH)) (ci := 1) (v := .ref ((xd 1) 10)) C fiX1 rfl 28 rfl 10 (by decide) q1_107 rfl dX6_atOnce_36 ?_
      refine tt_iload_n (pc := 39) (k := 1) C dX6_atOnce_39 rfl rfl ?_
      refine tt_aaload (pc := 40) (ws := (xC cy xd sX aX uG es ea sT aT tT pT qT ma sL aL tL pL qL sK aK tK pK qK sH rH uH)) (n := 4) (r := (fun j => (xd 1) (40 + j))) C 35 4 rfl rfl hf (fun _ _ => rfl) dX6_atOnce_40 (fun hf hlt4 => ?_)
      refine tt_iload_n (pc := 41) (k := 2) C dX6_atOnce_41 rfl rfl ?_
      obtain ⟨r5, hr5, hf⟩ := bind_some hf
      refine tt_callR (pc := 42) (ws := (xC cy xd sX aX uG es ea sT aT tT pT qT ma sL aL tL pL qL sK aK tK pK qK sH rH uH)) (q0 := 28) (ci := 1) (rest := []) (st' := [.int r5]) C (k_X1_postsSeen hr5) okX1_postsSeen q3_203 rfl rfl (sub_c (xC_subL _ (lC_tmem hlt4)) xC_subL) rfl rfl rfl (Nat.le_of_ble_eq_true rfl) ⟨Nat.le_of_ble_eq_true rfl, Nat.le_of_ble_eq_true rfl⟩ dX6_atOnce_42 ?_
      obtain rfl := Option.some.inj hf
      exact tt_ireturn (pc := 45) C rfl rfl rfl dX6_atOnce_45
    · refine tt_aload_n (pc := 22) (k := 0) C dX6_atOnce_22 rfl rfl ?_
      refine tt_iconst (pc := 23) (v := (-1 : Int32)) C dX6_atOnce_23 (by decide) ?_
      obtain ⟨r6, hr6, hf⟩ := bind_some hf
      refine tt_callM (pc := 24) (ws := (xC cy xd sX aX uG es ea sT aT tT pT qT ma sL aL tL pL qL sK aK tK pK qK sH rH uH)) (q0 := 0) (ci := 6) (rest := []) (st' := [.int r6.1]) C rfl (k_X6_refused hr6) okX6_refused q2_19 rfl xC_obj rfl rfl rfl (Nat.le_of_ble_eq_true rfl) ⟨Nat.le_of_ble_eq_true rfl, Nat.le_of_ble_eq_true rfl⟩ dX6_atOnce_24 ?_
      obtain rfl := Option.some.inj hf
      exact tt_ireturn (pc := 27) C rfl rfl rfl dX6_atOnce_27
theorem dX1_cellOfMost_0 : decode cX1_cellOfMost 0 = .ok (.iconst 0, 1) := by decide +kernel
theorem dX1_cellOfMost_1 : decode cX1_cellOfMost 1 = .ok (.istore_n 2, 1) := by decide +kernel
theorem dX1_cellOfMost_2 : decode cX1_cellOfMost 2 = .ok (.iconst (-1), 1) := by decide +kernel
theorem dX1_cellOfMost_3 : decode cX1_cellOfMost 3 = .ok (.istore_n 3, 1) := by decide +kernel
theorem dX1_cellOfMost_4 : decode cX1_cellOfMost 4 = .ok (.iconst 0, 1) := by decide +kernel
theorem dX1_cellOfMost_5 : decode cX1_cellOfMost 5 = .ok (.istore 4, 2) := by decide +kernel
theorem dX1_cellOfMost_7 : decode cX1_cellOfMost 7 = .ok (.iload 4, 2) := by decide +kernel
theorem dX1_cellOfMost_9 : decode cX1_cellOfMost 9 = .ok (.aload_n 0, 1) := by decide +kernel
theorem dX1_cellOfMost_10 : decode cX1_cellOfMost 10 = .ok (.getfield 9, 3) := by decide +kernel
theorem dX1_cellOfMost_13 : decode cX1_cellOfMost 13 = .ok (.if_icmp .ge 30, 3) := by decide +kernel
theorem dX1_cellOfMost_16 : decode cX1_cellOfMost 16 = .ok (.aload_n 0, 1) := by decide +kernel
theorem dX1_cellOfMost_17 : decode cX1_cellOfMost 17 = .ok (.aload_n 1, 1) := by decide +kernel
theorem dX1_cellOfMost_18 : decode cX1_cellOfMost 18 = .ok (.iload 4, 2) := by decide +kernel
theorem dX1_cellOfMost_20 : decode cX1_cellOfMost 20 = .ok (.invokevirtual 155, 3) := by decide +kernel
theorem dX1_cellOfMost_23 : decode cX1_cellOfMost 23 = .ok (.istore 5, 2) := by decide +kernel
theorem dX1_cellOfMost_25 : decode cX1_cellOfMost 25 = .ok (.iload 5, 2) := by decide +kernel
theorem dX1_cellOfMost_27 : decode cX1_cellOfMost 27 = .ok (.iload_n 3, 1) := by decide +kernel
theorem dX1_cellOfMost_28 : decode cX1_cellOfMost 28 = .ok (.if_icmp .le 9, 3) := by decide +kernel
theorem dX1_cellOfMost_31 : decode cX1_cellOfMost 31 = .ok (.iload 5, 2) := by decide +kernel
theorem dX1_cellOfMost_33 : decode cX1_cellOfMost 33 = .ok (.istore_n 3, 1) := by decide +kernel
theorem dX1_cellOfMost_34 : decode cX1_cellOfMost 34 = .ok (.iload 4, 2) := by decide +kernel
theorem dX1_cellOfMost_36 : decode cX1_cellOfMost 36 = .ok (.istore_n 2, 1) := by decide +kernel
theorem dX1_cellOfMost_37 : decode cX1_cellOfMost 37 = .ok (.iinc 4 1, 3) := by decide +kernel
theorem dX1_cellOfMost_40 : decode cX1_cellOfMost 40 = .ok (.goto (-33), 3) := by decide +kernel
theorem dX1_cellOfMost_43 : decode cX1_cellOfMost 43 = .ok (.iload_n 2, 1) := by decide +kernel
theorem dX1_cellOfMost_44 : decode cX1_cellOfMost 44 = .ok (.ireturn, 1) := by decide +kernel
set_option maxHeartbeats 4000000 in
set_option maxRecDepth 100000 in
theorem l_X1_cellOfMost_7 {p : Program} {l : Launch} {e : Env} {s : State} {m : MethodId} {args : Array Value} {below : List Frame} {meth : Method} {c : Code} {D : va_G} {cy : Nat → ClassId} {A : Nat → Prop} {Bd : Nat} {xa : Xa} {q : Nat} {ad : Nat → Nat} {β : Type} {vO : Option Value} {wO : va_W} {N : Nat} {u : Nat → Int32} {sc : Nat → Int32} {ar : Nat → Nat → Int32} {tr : Nat → Nat → Int32} {ps : Nat → Int32} {pa : Nat → Nat → Int32} {kx : Int32 → Option (β)} {out : β} (C : CC p s m args meth c cX1_cellOfMost RX1 6 (some .int) D cy A true Bd xa) (hk : ∀ (x2 : Int32), kx x2 = some out → TT p l e { frames := 4, cells := 0, slots := 0, locals := 104 } s m args below meth c 6 D A true vO wO 43 [(2, .int x2)] [] ((q, tE u) :: lC cy ad sc ar tr ps pa)) {n : Nat} {v2 : Int32} {v3 : Int32} {v4 : Int32} (hf : f_X1_cellOfMost_L7 N u sc ar kx n v2 v3 v4 = some out) : TT p l e { frames := 4, cells := 0, slots := 0, locals := 104 } s m args below meth c 6 D A true vO wO 7 [(0, .ref (ad 0)), (1, .ref q), (2, .int v2), (3, .int v3), (4, .int v4)] [] ((q, tE u) :: lC cy ad sc ar tr ps pa) := by
  induction n generalizing v2 v3 v4 with
  | zero => cases hf
  | succ n ih =>
    rw [f_X1_cellOfMost_L7] at hf
    refine tt_iload (pc := 7) (k := 4) C dX1_cellOfMost_7 rfl ?_
    refine tt_aload_n (pc := 9) (k := 0) C dX1_cellOfMost_9 rfl rfl ?_
    refine tt_get (pc := 10) (ws := ((q, tE u) :: lC cy ad sc ar tr ps pa)) (ci := 1) (v := .int (sc 0)) C fiX1 rfl 1 rfl 0 (by decide) q1_82 rfl dX1_cellOfMost_10 ?_
    refine tt_icmp_ge (pc := 13) (tgt := 43) C dX1_cellOfMost_13 (by decide) hf (fun hf => ?_) (fun hf => ?_)
    · exact tt_locs [2] rfl (hk _ hf)
    · refine tt_aload_n (pc := 16) (k := 0) C dX1_cellOfMost_16 rfl rfl ?_
      refine tt_aload_n (pc := 17) (k := 1) C dX1_cellOfMost_17 rfl rfl ?_
      refine tt_iload (pc := 18) (k := 4) C dX1_cellOfMost_18 rfl ?_
      obtain ⟨r1, hr1, hf⟩ := bind_some hf
      refine tt_callR (pc := 20) (ws := ((q, tE u) :: lC cy ad sc ar tr ps pa)) (q0 := 1) (ci := 1) (rest := []) (st' := [.int r1]) C (k_X1_postsSeen hr1) okX1_postsSeen q3_216 rfl rfl (sub_c List.mem_cons_self (fun _ h => List.mem_cons_of_mem _ h)) rfl rfl rfl (Nat.le_of_ble_eq_true rfl) ⟨Nat.le_of_ble_eq_true rfl, Nat.le_of_ble_eq_true rfl⟩ dX1_cellOfMost_20 ?_
      refine tt_istore (pc := 23) (L' := [(5, .int r1), (0, .ref (ad 0)), (1, .ref q), (2, .int v2), (3, .int v3), (4, .int v4)]) C dX1_cellOfMost_23 (by decide) rfl ?_
      refine tt_iload (pc := 25) (k := 0) C dX1_cellOfMost_25 rfl ?_
      refine tt_iload_n (pc := 27) (k := 4) C dX1_cellOfMost_27 rfl rfl ?_
      have k3 : TT p l e { frames := 4, cells := 0, slots := 0, locals := 104 } s m args below meth c 6 D A true vO wO 37 [(0, .ref (ad 0)), (1, .ref q), (2, .int (if r1 ≤ v3 then v2 else v4)), (3, .int (if r1 ≤ v3 then v3 else r1)), (4, .int v4)] [] ((q, tE u) :: lC cy ad sc ar tr ps pa) := by
        refine tt_iinc (pc := 37) (k := 4) (v := (v4 + 1)) (L' := [(4, .int (v4 + 1)), (0, .ref (ad 0)), (1, .ref q), (2, .int (if r1 ≤ v3 then v2 else v4)), (3, .int (if r1 ≤ v3 then v3 else r1))]) C dX1_cellOfMost_37 rfl rfl (by decide) rfl ?_
        refine tt_goto (pc := 40) (tgt := 7) C dX1_cellOfMost_40 (by decide) ?_
        exact tt_locs [1, 2, 3, 4, 0] rfl (ih hf)
      refine tr_icmp_le (pc := 28) (tgt := 37) C dX1_cellOfMost_28 (by decide) (fun c2 => ?_) (fun c2 => ?_)
      · try simp only [if_pos c2] at k3 ⊢
        exact tt_locs [1, 2, 3, 4, 5] rfl k3
      · refine tt_iload (pc := 31) (k := 0) C dX1_cellOfMost_31 rfl ?_
        refine tt_istore_n (pc := 33) (L' := [(3, .int r1), (5, .int r1), (0, .ref (ad 0)), (1, .ref q), (2, .int v2), (4, .int v4)]) C dX1_cellOfMost_33 rfl (by decide) rfl ?_
        refine tt_iload (pc := 34) (k := 5) C dX1_cellOfMost_34 rfl ?_
        refine tt_istore_n (pc := 36) (L' := [(2, .int v4), (3, .int r1), (5, .int r1), (0, .ref (ad 0)), (1, .ref q), (4, .int v4)]) C dX1_cellOfMost_36 rfl (by decide) rfl ?_
        try simp only [if_neg c2] at k3 ⊢
        exact tt_locs [3, 4, 0, 1, 5] rfl k3
set_option maxHeartbeats 4000000 in
set_option maxRecDepth 100000 in
theorem k_X1_cellOfMost {l : Launch} {D : va_G} {cy : Nat → ClassId} {Bd : Nat} {xa : Xa} {q : Nat} {ad : Nat → Nat} {N : Nat} {u : Nat → Int32} {sc : Nat → Int32} {ar : Nat → Nat → Int32} {tr : Nat → Nat → Int32} {ps : Nat → Int32} {pa : Nat → Nat → Int32} {out : Int32} (hf : f_X1_cellOfMost N u sc ar = some out) : KC l yX1_cellOfMost cX1_cellOfMost 6 (some .int) 4 104 true D cy Bd xa [.ref (ad 0), .ref q] ((q, tE u) :: lC cy ad sc ar tr ps pa) (some (.int out)) ((q, tE u) :: lC cy ad sc ar tr ps pa) := by
  refine kc_start (own := RX1) (by decide +kernel) rfl (Nat.le_of_ble_eq_true rfl) ?_
  intro p e s m args below meth c A C
  unfold f_X1_cellOfMost at hf
  refine tt_locs (L' := [(0, .ref (ad 0)), (1, .ref q)]) [0, 1] rfl ?_
  refine tt_iconst (pc := 0) (v := (0 : Int32)) C dX1_cellOfMost_0 (by decide) ?_
  refine tt_istore_n (pc := 1) (L' := [(2, .int (0 : Int32)), (0, .ref (ad 0)), (1, .ref q)]) C dX1_cellOfMost_1 rfl (by decide) rfl ?_
  refine tt_iconst (pc := 2) (v := (-1 : Int32)) C dX1_cellOfMost_2 (by decide) ?_
  refine tt_istore_n (pc := 3) (L' := [(3, .int (-1 : Int32)), (2, .int (0 : Int32)), (0, .ref (ad 0)), (1, .ref q)]) C dX1_cellOfMost_3 rfl (by decide) rfl ?_
  refine tt_iconst (pc := 4) (v := (0 : Int32)) C dX1_cellOfMost_4 (by decide) ?_
  refine tt_istore (pc := 5) (L' := [(4, .int (0 : Int32)), (3, .int (-1 : Int32)), (2, .int (0 : Int32)), (0, .ref (ad 0)), (1, .ref q)]) C dX1_cellOfMost_5 (by decide) rfl ?_
  refine tt_locs (L' := [(0, .ref (ad 0)), (1, .ref q), (2, .int (0 : Int32)), (3, .int (-1 : Int32)), (4, .int (0 : Int32))]) [3, 4, 2, 1, 0] rfl (l_X1_cellOfMost_7 C (fun x2_4 hf => ?_) hf)
  refine tt_iload_n (pc := 43) (k := 0) C dX1_cellOfMost_43 rfl rfl ?_
  obtain rfl := Option.some.inj hf
  exact tt_ireturn (pc := 44) C rfl rfl rfl dX1_cellOfMost_44
theorem dX1_blindCells_0 : decode cX1_blindCells 0 = .ok (.iconst 0, 1) := by decide +kernel
theorem dX1_blindCells_1 : decode cX1_blindCells 1 = .ok (.istore_n 2, 1) := by decide +kernel
theorem dX1_blindCells_2 : decode cX1_blindCells 2 = .ok (.iconst 0, 1) := by decide +kernel
theorem dX1_blindCells_3 : decode cX1_blindCells 3 = .ok (.istore_n 3, 1) := by decide +kernel
theorem dX1_blindCells_4 : decode cX1_blindCells 4 = .ok (.iload_n 3, 1) := by decide +kernel
theorem dX1_blindCells_5 : decode cX1_blindCells 5 = .ok (.aload_n 0, 1) := by decide +kernel
theorem dX1_blindCells_6 : decode cX1_blindCells 6 = .ok (.getfield 9, 3) := by decide +kernel
theorem dX1_blindCells_9 : decode cX1_blindCells 9 = .ok (.if_icmp .ge 24, 3) := by decide +kernel
theorem dX1_blindCells_12 : decode cX1_blindCells 12 = .ok (.aload_n 0, 1) := by decide +kernel
theorem dX1_blindCells_13 : decode cX1_blindCells 13 = .ok (.aload_n 1, 1) := by decide +kernel
theorem dX1_blindCells_14 : decode cX1_blindCells 14 = .ok (.iload_n 3, 1) := by decide +kernel
theorem dX1_blindCells_15 : decode cX1_blindCells 15 = .ok (.invokevirtual 155, 3) := by decide +kernel
theorem dX1_blindCells_18 : decode cX1_blindCells 18 = .ok (.ifCond .ne 9, 3) := by decide +kernel
theorem dX1_blindCells_21 : decode cX1_blindCells 21 = .ok (.iload_n 2, 1) := by decide +kernel
theorem dX1_blindCells_22 : decode cX1_blindCells 22 = .ok (.iconst 1, 1) := by decide +kernel
theorem dX1_blindCells_23 : decode cX1_blindCells 23 = .ok (.iload_n 3, 1) := by decide +kernel
theorem dX1_blindCells_24 : decode cX1_blindCells 24 = .ok (.ishl, 1) := by decide +kernel
theorem dX1_blindCells_25 : decode cX1_blindCells 25 = .ok (.ior, 1) := by decide +kernel
theorem dX1_blindCells_26 : decode cX1_blindCells 26 = .ok (.istore_n 2, 1) := by decide +kernel
theorem dX1_blindCells_27 : decode cX1_blindCells 27 = .ok (.iinc 3 1, 3) := by decide +kernel
theorem dX1_blindCells_30 : decode cX1_blindCells 30 = .ok (.goto (-26), 3) := by decide +kernel
theorem dX1_blindCells_33 : decode cX1_blindCells 33 = .ok (.iload_n 2, 1) := by decide +kernel
theorem dX1_blindCells_34 : decode cX1_blindCells 34 = .ok (.ireturn, 1) := by decide +kernel
set_option maxHeartbeats 4000000 in
set_option maxRecDepth 100000 in
theorem l_X1_blindCells_4 {p : Program} {l : Launch} {e : Env} {s : State} {m : MethodId} {args : Array Value} {below : List Frame} {meth : Method} {c : Code} {D : va_G} {cy : Nat → ClassId} {A : Nat → Prop} {Bd : Nat} {xa : Xa} {q : Nat} {ad : Nat → Nat} {β : Type} {vO : Option Value} {wO : va_W} {N : Nat} {u : Nat → Int32} {sc : Nat → Int32} {ar : Nat → Nat → Int32} {tr : Nat → Nat → Int32} {ps : Nat → Int32} {pa : Nat → Nat → Int32} {kx : Int32 → Option (β)} {out : β} (C : CC p s m args meth c cX1_blindCells RX1 4 (some .int) D cy A true Bd xa) (hk : ∀ (x2 : Int32), kx x2 = some out → TT p l e { frames := 4, cells := 0, slots := 0, locals := 104 } s m args below meth c 4 D A true vO wO 33 [(2, .int x2)] [] ((q, tE u) :: lC cy ad sc ar tr ps pa)) {n : Nat} {v2 : Int32} {v3 : Int32} (hf : f_X1_blindCells_L4 N u sc ar kx n v2 v3 = some out) : TT p l e { frames := 4, cells := 0, slots := 0, locals := 104 } s m args below meth c 4 D A true vO wO 4 [(0, .ref (ad 0)), (1, .ref q), (2, .int v2), (3, .int v3)] [] ((q, tE u) :: lC cy ad sc ar tr ps pa) := by
  induction n generalizing v2 v3 with
  | zero => cases hf
  | succ n ih =>
    rw [f_X1_blindCells_L4] at hf
    refine tt_iload_n (pc := 4) (k := 3) C dX1_blindCells_4 rfl rfl ?_
    refine tt_aload_n (pc := 5) (k := 0) C dX1_blindCells_5 rfl rfl ?_
    refine tt_get (pc := 6) (ws := ((q, tE u) :: lC cy ad sc ar tr ps pa)) (ci := 1) (v := .int (sc 0)) C fiX1 rfl 1 rfl 0 (by decide) q1_82 rfl dX1_blindCells_6 ?_
    refine tt_icmp_ge (pc := 9) (tgt := 33) C dX1_blindCells_9 (by decide) hf (fun hf => ?_) (fun hf => ?_)
    · exact tt_locs [2] rfl (hk _ hf)
    · refine tt_aload_n (pc := 12) (k := 0) C dX1_blindCells_12 rfl rfl ?_
      refine tt_aload_n (pc := 13) (k := 1) C dX1_blindCells_13 rfl rfl ?_
      refine tt_iload_n (pc := 14) (k := 3) C dX1_blindCells_14 rfl rfl ?_
      obtain ⟨r1, hr1, hf⟩ := bind_some hf
      refine tt_callR (pc := 15) (ws := ((q, tE u) :: lC cy ad sc ar tr ps pa)) (q0 := 1) (ci := 1) (rest := []) (st' := [.int r1]) C (k_X1_postsSeen hr1) okX1_postsSeen q3_216 rfl rfl (sub_c List.mem_cons_self (fun _ h => List.mem_cons_of_mem _ h)) rfl rfl rfl (Nat.le_of_ble_eq_true rfl) ⟨Nat.le_of_ble_eq_true rfl, Nat.le_of_ble_eq_true rfl⟩ dX1_blindCells_15 ?_
      have k3 : TT p l e { frames := 4, cells := 0, slots := 0, locals := 104 } s m args below meth c 4 D A true vO wO 27 [(0, .ref (ad 0)), (1, .ref q), (2, .int (if r1 = 0 then (v2 ||| ((1 : Int32) <<< (v3 &&& 31))) else v2)), (3, .int v3)] [] ((q, tE u) :: lC cy ad sc ar tr ps pa) := by
        refine tt_iinc (pc := 27) (k := 3) (v := (v3 + 1)) (L' := [(3, .int (v3 + 1)), (0, .ref (ad 0)), (1, .ref q), (2, .int (if r1 = 0 then (v2 ||| ((1 : Int32) <<< (v3 &&& 31))) else v2))]) C dX1_blindCells_27 rfl rfl (by decide) rfl ?_
        refine tt_goto (pc := 30) (tgt := 4) C dX1_blindCells_30 (by decide) ?_
        exact tt_locs [1, 2, 3, 0] rfl (ih hf)
      refine tr_if_ne (pc := 18) (tgt := 27) C dX1_blindCells_18 (by decide) (fun c2 => ?_) (fun c2 => ?_)
      · try simp only [if_neg c2] at k3 ⊢
        exact tt_locs [0, 1, 2, 3] rfl k3
      · refine tt_iload_n (pc := 21) (k := 2) C dX1_blindCells_21 rfl rfl ?_
        refine tt_iconst (pc := 22) (v := (1 : Int32)) C dX1_blindCells_22 (by decide) ?_
        refine tt_iload_n (pc := 23) (k := 3) C dX1_blindCells_23 rfl rfl ?_
        refine tt_ishl (pc := 24) C dX1_blindCells_24 ?_
        refine tt_ior (pc := 25) C dX1_blindCells_25 ?_
        refine tt_istore_n (pc := 26) (L' := [(2, .int (v2 ||| ((1 : Int32) <<< (v3 &&& 31)))), (0, .ref (ad 0)), (1, .ref q), (3, .int v3)]) C dX1_blindCells_26 rfl (by decide) rfl ?_
        try simp only [if_pos c2] at k3 ⊢
        exact tt_locs [1, 2, 0, 3] rfl k3
set_option maxHeartbeats 4000000 in
set_option maxRecDepth 100000 in
theorem k_X1_blindCells {l : Launch} {D : va_G} {cy : Nat → ClassId} {Bd : Nat} {xa : Xa} {q : Nat} {ad : Nat → Nat} {N : Nat} {u : Nat → Int32} {sc : Nat → Int32} {ar : Nat → Nat → Int32} {tr : Nat → Nat → Int32} {ps : Nat → Int32} {pa : Nat → Nat → Int32} {out : Int32} (hf : f_X1_blindCells N u sc ar = some out) : KC l yX1_blindCells cX1_blindCells 4 (some .int) 4 104 true D cy Bd xa [.ref (ad 0), .ref q] ((q, tE u) :: lC cy ad sc ar tr ps pa) (some (.int out)) ((q, tE u) :: lC cy ad sc ar tr ps pa) := by
  refine kc_start (own := RX1) (by decide +kernel) rfl (Nat.le_of_ble_eq_true rfl) ?_
  intro p e s m args below meth c A C
  unfold f_X1_blindCells at hf
  refine tt_locs (L' := [(0, .ref (ad 0)), (1, .ref q)]) [0, 1] rfl ?_
  refine tt_iconst (pc := 0) (v := (0 : Int32)) C dX1_blindCells_0 (by decide) ?_
  refine tt_istore_n (pc := 1) (L' := [(2, .int (0 : Int32)), (0, .ref (ad 0)), (1, .ref q)]) C dX1_blindCells_1 rfl (by decide) rfl ?_
  refine tt_iconst (pc := 2) (v := (0 : Int32)) C dX1_blindCells_2 (by decide) ?_
  refine tt_istore_n (pc := 3) (L' := [(3, .int (0 : Int32)), (2, .int (0 : Int32)), (0, .ref (ad 0)), (1, .ref q)]) C dX1_blindCells_3 rfl (by decide) rfl ?_
  refine tt_locs (L' := [(0, .ref (ad 0)), (1, .ref q), (2, .int (0 : Int32)), (3, .int (0 : Int32))]) [2, 3, 1, 0] rfl (l_X1_blindCells_4 C (fun x2_4 hf => ?_) hf)
  refine tt_iload_n (pc := 33) (k := 0) C dX1_blindCells_33 rfl rfl ?_
  obtain rfl := Option.some.inj hf
  exact tt_ireturn (pc := 34) C rfl rfl rfl dX1_blindCells_34
theorem dX6_most_0 : decode cX6_most 0 = .ok (.aload_n 0, 1) := by decide +kernel
theorem dX6_most_1 : decode cX6_most 1 = .ok (.getfield 10, 3) := by decide +kernel
theorem dX6_most_4 : decode cX6_most 4 = .ok (.iload_n 1, 1) := by decide +kernel
theorem dX6_most_5 : decode cX6_most 5 = .ok (.invokevirtual 129, 3) := by decide +kernel
theorem dX6_most_8 : decode cX6_most 8 = .ok (.ifCond .ne 9, 3) := by decide +kernel
theorem dX6_most_11 : decode cX6_most 11 = .ok (.aload_n 0, 1) := by decide +kernel
theorem dX6_most_12 : decode cX6_most 12 = .ok (.iconst (-1), 1) := by decide +kernel
theorem dX6_most_13 : decode cX6_most 13 = .ok (.invokevirtual 87, 3) := by decide +kernel
theorem dX6_most_16 : decode cX6_most 16 = .ok (.ireturn, 1) := by decide +kernel
theorem dX6_most_17 : decode cX6_most 17 = .ok (.iload_n 2, 1) := by decide +kernel
theorem dX6_most_18 : decode cX6_most 18 = .ok (.lookupswitch 60 #[(0, 26), (1, 43)], 26) := by decide +kernel
theorem dX6_most_44 : decode cX6_most 44 = .ok (.aload_n 0, 1) := by decide +kernel
theorem dX6_most_45 : decode cX6_most 45 = .ok (.getfield 10, 3) := by decide +kernel
theorem dX6_most_48 : decode cX6_most 48 = .ok (.aload_n 0, 1) := by decide +kernel
theorem dX6_most_49 : decode cX6_most 49 = .ok (.getfield 10, 3) := by decide +kernel
theorem dX6_most_52 : decode cX6_most 52 = .ok (.getfield 132, 3) := by decide +kernel
theorem dX6_most_55 : decode cX6_most 55 = .ok (.iload_n 1, 1) := by decide +kernel
theorem dX6_most_56 : decode cX6_most 56 = .ok (.aaload, 1) := by decide +kernel
theorem dX6_most_57 : decode cX6_most 57 = .ok (.invokevirtual 218, 3) := by decide +kernel
theorem dX6_most_60 : decode cX6_most 60 = .ok (.ireturn, 1) := by decide +kernel
theorem dX6_most_61 : decode cX6_most 61 = .ok (.aload_n 0, 1) := by decide +kernel
theorem dX6_most_62 : decode cX6_most 62 = .ok (.getfield 10, 3) := by decide +kernel
theorem dX6_most_65 : decode cX6_most 65 = .ok (.aload_n 0, 1) := by decide +kernel
theorem dX6_most_66 : decode cX6_most 66 = .ok (.getfield 10, 3) := by decide +kernel
theorem dX6_most_69 : decode cX6_most 69 = .ok (.getfield 132, 3) := by decide +kernel
theorem dX6_most_72 : decode cX6_most 72 = .ok (.iload_n 1, 1) := by decide +kernel
theorem dX6_most_73 : decode cX6_most 73 = .ok (.aaload, 1) := by decide +kernel
theorem dX6_most_74 : decode cX6_most 74 = .ok (.invokevirtual 222, 3) := by decide +kernel
theorem dX6_most_77 : decode cX6_most 77 = .ok (.ireturn, 1) := by decide +kernel
theorem dX6_most_78 : decode cX6_most 78 = .ok (.aload_n 0, 1) := by decide +kernel
theorem dX6_most_79 : decode cX6_most 79 = .ok (.bipush (-2), 2) := by decide +kernel
theorem dX6_most_81 : decode cX6_most 81 = .ok (.invokevirtual 87, 3) := by decide +kernel
theorem dX6_most_84 : decode cX6_most 84 = .ok (.ireturn, 1) := by decide +kernel
set_option maxHeartbeats 4000000 in
set_option maxRecDepth 100000 in
theorem k_X6_most {l : Launch} {D : va_G} {cy : Nat → ClassId} {Bd : Nat} {xa : Xa} {xd : Nat → Nat → Nat} {N : Nat} {sX : Nat → Int32} {aX : Nat → Nat → Int32} {uG : Nat → Int32} {es : Nat → Int32} {ea : Nat → Nat → Int32} {sT : Nat → Int32} {aT : Nat → Nat → Int32} {tT : Nat → Nat → Int32} {pT : Nat → Int32} {qT : Nat → Nat → Int32} {ma : Nat → Nat → Int32} {sL : Nat → Int32} {aL : Nat → Nat → Int32} {tL : Nat → Nat → Int32} {pL : Nat → Int32} {qL : Nat → Nat → Int32} {sK : Nat → Int32} {aK : Nat → Nat → Int32} {tK : Nat → Nat → Int32} {pK : Nat → Int32} {qK : Nat → Nat → Int32} {sH : Nat → Nat → Int32} {rH : Nat → Nat → Int64} {uH : Nat → Nat → Int32} {a1 : Int32} {a2 : Int32} {out : Int32 × (Nat → Nat → Int32)} (hf : f_X6_most N aX sL aL tL a1 a2 = some out) : KC l yX6_most cX6_most 3 (some .int) 5 129 false D cy Bd xa [.ref (xd 0 0), .int a1, .int a2] (xC cy xd sX aX uG es ea sT aT tT pT qT ma sL aL tL pL qL sK aK tK pK qK sH rH uH) (some (.int out.1)) (xC cy xd sX out.2 uG es ea sT aT tT pT qT ma sL aL tL pL qL sK aK tK pK qK sH rH uH) := by
  refine kc_start (own := RX6) (by decide +kernel) rfl (Nat.le_of_ble_eq_true rfl) ?_
  intro p e s m args below meth c A C
  unfold f_X6_most at hf
  refine tt_locs (L' := [(0, .ref (xd 0 0)), (1, .int a1), (2, .int a2)]) [0, 1, 2] rfl ?_
  refine tt_aload_n (pc := 0) (k := 0) C dX6_most_0 rfl rfl ?_
  refine tt_get (pc := 1) (ws := (xC cy xd sX aX uG es ea sT aT tT pT qT ma sL aL tL pL qL sK aK tK pK qK sH rH uH)) (ci := 6) (v := .ref ((xd 1) 0)) C fiX6 rfl 0 xC_obj 0 (by decide) q1_219 rfl dX6_most_1 ?_
  refine tt_iload_n (pc := 4) (k := 1) C dX6_most_4 rfl rfl ?_
  obtain ⟨r1, hr1, hf⟩ := bind_some hf
  refine tt_callR (pc := 5) (ws := (xC cy xd sX aX uG es ea sT aT tT pT qT ma sL aL tL pL qL sK aK tK pK qK sH rH uH)) (q0 := 28) (ci := 1) (rest := []) (st' := [.int r1]) C (k_X1_hasTrain hr1) okX1_hasTrain q3_43 rfl rfl xC_subL rfl rfl rfl (Nat.le_of_ble_eq_true rfl) ⟨Nat.le_of_ble_eq_true rfl, Nat.le_of_ble_eq_true rfl⟩ dX6_most_5 ?_
  refine tt_if_ne (pc := 8) (tgt := 17) C dX6_most_8 (by decide) hf (fun hf => ?_) (fun hf => ?_)
  · refine tt_iload_n (pc := 17) (k := 2) C dX6_most_17 rfl rfl ?_
    refine sw_eq (x := a2) (k := 0) hf (fun hx hf => ?_) (fun n0 hf => ?_)
    · rw [hx]
      refine tt_lookup (pc := 18) (tgt := 44) (x := 0) (off := 26) C dX6_most_18 (by decide) rfl (by decide) ?_
      refine tt_aload_n (pc := 44) (k := 0) C dX6_most_44 rfl rfl ?_
      refine tt_get (pc := 45) (ws := (xC cy xd sX aX uG es ea sT aT tT pT qT ma sL aL tL pL qL sK aK tK pK qK sH rH uH)) (ci := 6) (v := .ref ((xd 1) 0)) C fiX6 rfl 0 xC_obj 0 (by decide) q1_219 rfl dX6_most_45 ?_
      refine tt_aload_n (pc := 48) (k := 0) C dX6_most_48 rfl rfl ?_
      refine tt_get (pc := 49) (ws := (xC cy xd sX aX uG es ea sT aT tT pT qT ma sL aL tL pL qL sK aK tK pK qK sH rH uH)) (ci := 6) (v := .ref ((xd 1) 0)) C fiX6 rfl 0 xC_obj 0 (by decide) q1_219 rfl dX6_most_49 ?_
      refine tt_get (pc := 52) (ws := (xC cy xd sX aX uG es ea sT aT tT pT qT ma sL aL tL pL qL sK aK tK pK qK sH rH uH)) (ci := 1) (v := .ref ((xd 1) 10)) C fiX1 rfl 28 rfl 10 (by decide) q1_107 rfl dX6_most_52 ?_
      refine tt_iload_n (pc := 55) (k := 1) C dX6_most_55 rfl rfl ?_
      refine tt_aaload (pc := 56) (ws := (xC cy xd sX aX uG es ea sT aT tT pT qT ma sL aL tL pL qL sK aK tK pK qK sH rH uH)) (n := 4) (r := (fun j => (xd 1) (40 + j))) C 35 4 rfl rfl hf (fun _ _ => rfl) dX6_most_56 (fun hf hlt3 => ?_)
      obtain ⟨r4, hr4, hf⟩ := bind_some hf
      refine tt_callR (pc := 57) (ws := (xC cy xd sX aX uG es ea sT aT tT pT qT ma sL aL tL pL qL sK aK tK pK qK sH rH uH)) (q0 := 28) (ci := 1) (rest := []) (st' := [.int r4]) C (k_X1_cellOfMost hr4) okX1_cellOfMost q3_212 rfl rfl (sub_c (xC_subL _ (lC_tmem hlt3)) xC_subL) rfl rfl rfl (Nat.le_of_ble_eq_true rfl) ⟨Nat.le_of_ble_eq_true rfl, Nat.le_of_ble_eq_true rfl⟩ dX6_most_57 ?_
      obtain rfl := Option.some.inj hf
      exact tt_ireturn (pc := 60) C rfl rfl rfl dX6_most_60
    · refine sw_eq (x := a2) (k := 1) hf (fun hx hf => ?_) (fun n1 hf => ?_)
      · rw [hx]
        refine tt_lookup (pc := 18) (tgt := 61) (x := 1) (off := 43) C dX6_most_18 (by decide) rfl (by decide) ?_
        refine tt_aload_n (pc := 61) (k := 0) C dX6_most_61 rfl rfl ?_
        refine tt_get (pc := 62) (ws := (xC cy xd sX aX uG es ea sT aT tT pT qT ma sL aL tL pL qL sK aK tK pK qK sH rH uH)) (ci := 6) (v := .ref ((xd 1) 0)) C fiX6 rfl 0 xC_obj 0 (by decide) q1_219 rfl dX6_most_62 ?_
        refine tt_aload_n (pc := 65) (k := 0) C dX6_most_65 rfl rfl ?_
        refine tt_get (pc := 66) (ws := (xC cy xd sX aX uG es ea sT aT tT pT qT ma sL aL tL pL qL sK aK tK pK qK sH rH uH)) (ci := 6) (v := .ref ((xd 1) 0)) C fiX6 rfl 0 xC_obj 0 (by decide) q1_219 rfl dX6_most_66 ?_
        refine tt_get (pc := 69) (ws := (xC cy xd sX aX uG es ea sT aT tT pT qT ma sL aL tL pL qL sK aK tK pK qK sH rH uH)) (ci := 1) (v := .ref ((xd 1) 10)) C fiX1 rfl 28 rfl 10 (by decide) q1_107 rfl dX6_most_69 ?_
        refine tt_iload_n (pc := 72) (k := 1) C dX6_most_72 rfl rfl ?_
        refine tt_aaload (pc := 73) (ws := (xC cy xd sX aX uG es ea sT aT tT pT qT ma sL aL tL pL qL sK aK tK pK qK sH rH uH)) (n := 4) (r := (fun j => (xd 1) (40 + j))) C 35 4 rfl rfl hf (fun _ _ => rfl) dX6_most_73 (fun hf hlt5 => ?_)
        obtain ⟨r6, hr6, hf⟩ := bind_some hf
        refine tt_callR (pc := 74) (ws := (xC cy xd sX aX uG es ea sT aT tT pT qT ma sL aL tL pL qL sK aK tK pK qK sH rH uH)) (q0 := 28) (ci := 1) (rest := []) (st' := [.int r6]) C (k_X1_blindCells hr6) okX1_blindCells q3_217 rfl rfl (sub_c (xC_subL _ (lC_tmem hlt5)) xC_subL) rfl rfl rfl (Nat.le_of_ble_eq_true rfl) ⟨Nat.le_of_ble_eq_true rfl, Nat.le_of_ble_eq_true rfl⟩ dX6_most_74 ?_
        obtain rfl := Option.some.inj hf
        exact tt_ireturn (pc := 77) C rfl rfl rfl dX6_most_77
      · have g0 := sw_ne n0 (z := 0) (by decide)
        have g1 := sw_ne n1 (z := 1) (by decide)
        refine tt_lookup (pc := 18) (tgt := 78) (off := 60) C dX6_most_18 (by decide) (by simp [Op.lookupswitch.offset, g0, g0.symm, g1, g1.symm]) (by decide) ?_
        refine tt_aload_n (pc := 78) (k := 0) C dX6_most_78 rfl rfl ?_
        refine tt_bipush (pc := 79) (v := (-2 : Int32)) C dX6_most_79 (by decide) ?_
        obtain ⟨r7, hr7, hf⟩ := bind_some hf
        refine tt_callM (pc := 81) (ws := (xC cy xd sX aX uG es ea sT aT tT pT qT ma sL aL tL pL qL sK aK tK pK qK sH rH uH)) (q0 := 0) (ci := 6) (rest := []) (st' := [.int r7.1]) C rfl (k_X6_refused hr7) okX6_refused q2_19 rfl xC_obj rfl rfl rfl (Nat.le_of_ble_eq_true rfl) ⟨Nat.le_of_ble_eq_true rfl, Nat.le_of_ble_eq_true rfl⟩ dX6_most_81 ?_
        obtain rfl := Option.some.inj hf
        exact tt_ireturn (pc := 84) C rfl rfl rfl dX6_most_84
  · refine tt_aload_n (pc := 11) (k := 0) C dX6_most_11 rfl rfl ?_
    refine tt_iconst (pc := 12) (v := (-1 : Int32)) C dX6_most_12 (by decide) ?_
    obtain ⟨r8, hr8, hf⟩ := bind_some hf
    refine tt_callM (pc := 13) (ws := (xC cy xd sX aX uG es ea sT aT tT pT qT ma sL aL tL pL qL sK aK tK pK qK sH rH uH)) (q0 := 0) (ci := 6) (rest := []) (st' := [.int r8.1]) C rfl (k_X6_refused hr8) okX6_refused q2_19 rfl xC_obj rfl rfl rfl (Nat.le_of_ble_eq_true rfl) ⟨Nat.le_of_ble_eq_true rfl, Nat.le_of_ble_eq_true rfl⟩ dX6_most_13 ?_
    obtain rfl := Option.some.inj hf
    exact tt_ireturn (pc := 16) C rfl rfl rfl dX6_most_16
theorem dX6_nearest_0 : decode cX6_nearest 0 = .ok (.aload_n 0, 1) := by decide +kernel
theorem dX6_nearest_1 : decode cX6_nearest 1 = .ok (.getfield 10, 3) := by decide +kernel
theorem dX6_nearest_4 : decode cX6_nearest 4 = .ok (.iload_n 1, 1) := by decide +kernel
theorem dX6_nearest_5 : decode cX6_nearest 5 = .ok (.invokevirtual 129, 3) := by decide +kernel
theorem dX6_nearest_8 : decode cX6_nearest 8 = .ok (.ifCond .eq 14, 3) := by decide +kernel
theorem dX6_nearest_11 : decode cX6_nearest 11 = .ok (.aload_n 0, 1) := by decide +kernel
theorem dX6_nearest_12 : decode cX6_nearest 12 = .ok (.getfield 10, 3) := by decide +kernel
theorem dX6_nearest_15 : decode cX6_nearest 15 = .ok (.iload_n 2, 1) := by decide +kernel
theorem dX6_nearest_16 : decode cX6_nearest 16 = .ok (.invokevirtual 151, 3) := by decide +kernel
theorem dX6_nearest_19 : decode cX6_nearest 19 = .ok (.ifCond .ne 9, 3) := by decide +kernel
theorem dX6_nearest_22 : decode cX6_nearest 22 = .ok (.aload_n 0, 1) := by decide +kernel
theorem dX6_nearest_23 : decode cX6_nearest 23 = .ok (.iconst (-1), 1) := by decide +kernel
theorem dX6_nearest_24 : decode cX6_nearest 24 = .ok (.invokevirtual 87, 3) := by decide +kernel
theorem dX6_nearest_27 : decode cX6_nearest 27 = .ok (.ireturn, 1) := by decide +kernel
theorem dX6_nearest_28 : decode cX6_nearest 28 = .ok (.bipush 24, 2) := by decide +kernel
theorem dX6_nearest_30 : decode cX6_nearest 30 = .ok (.istore_n 3, 1) := by decide +kernel
theorem dX6_nearest_31 : decode cX6_nearest 31 = .ok (.bipush (-9), 2) := by decide +kernel
theorem dX6_nearest_33 : decode cX6_nearest 33 = .ok (.istore 4, 2) := by decide +kernel
theorem dX6_nearest_35 : decode cX6_nearest 35 = .ok (.iconst 0, 1) := by decide +kernel
theorem dX6_nearest_36 : decode cX6_nearest 36 = .ok (.istore 5, 2) := by decide +kernel
theorem dX6_nearest_38 : decode cX6_nearest 38 = .ok (.iload 5, 2) := by decide +kernel
theorem dX6_nearest_40 : decode cX6_nearest 40 = .ok (.aload_n 0, 1) := by decide +kernel
theorem dX6_nearest_41 : decode cX6_nearest 41 = .ok (.getfield 10, 3) := by decide +kernel
theorem dX6_nearest_44 : decode cX6_nearest 44 = .ok (.getfield 201, 3) := by decide +kernel
theorem dX6_nearest_47 : decode cX6_nearest 47 = .ok (.if_icmp .ge 68, 3) := by decide +kernel
theorem dX6_nearest_50 : decode cX6_nearest 50 = .ok (.aload_n 0, 1) := by decide +kernel
theorem dX6_nearest_51 : decode cX6_nearest 51 = .ok (.getfield 10, 3) := by decide +kernel
theorem dX6_nearest_54 : decode cX6_nearest 54 = .ok (.getfield 123, 3) := by decide +kernel
theorem dX6_nearest_57 : decode cX6_nearest 57 = .ok (.iload 5, 2) := by decide +kernel
theorem dX6_nearest_59 : decode cX6_nearest 59 = .ok (.iaload, 1) := by decide +kernel
theorem dX6_nearest_60 : decode cX6_nearest 60 = .ok (.iload_n 2, 1) := by decide +kernel
theorem dX6_nearest_61 : decode cX6_nearest 61 = .ok (.isub, 1) := by decide +kernel
theorem dX6_nearest_62 : decode cX6_nearest 62 = .ok (.invokestatic 225, 3) := by decide +kernel
theorem dX6_nearest_65 : decode cX6_nearest 65 = .ok (.istore 6, 2) := by decide +kernel
theorem dX6_nearest_67 : decode cX6_nearest 67 = .ok (.iload 6, 2) := by decide +kernel
theorem dX6_nearest_69 : decode cX6_nearest 69 = .ok (.iload_n 3, 1) := by decide +kernel
theorem dX6_nearest_70 : decode cX6_nearest 70 = .ok (.if_icmp .ge 39, 3) := by decide +kernel
theorem dX6_nearest_73 : decode cX6_nearest 73 = .ok (.aload_n 0, 1) := by decide +kernel
theorem dX6_nearest_74 : decode cX6_nearest 74 = .ok (.getfield 10, 3) := by decide +kernel
theorem dX6_nearest_77 : decode cX6_nearest 77 = .ok (.aload_n 0, 1) := by decide +kernel
theorem dX6_nearest_78 : decode cX6_nearest 78 = .ok (.getfield 10, 3) := by decide +kernel
theorem dX6_nearest_81 : decode cX6_nearest 81 = .ok (.getfield 132, 3) := by decide +kernel
theorem dX6_nearest_84 : decode cX6_nearest 84 = .ok (.iload_n 1, 1) := by decide +kernel
theorem dX6_nearest_85 : decode cX6_nearest 85 = .ok (.aaload, 1) := by decide +kernel
theorem dX6_nearest_86 : decode cX6_nearest 86 = .ok (.iload 5, 2) := by decide +kernel
theorem dX6_nearest_88 : decode cX6_nearest 88 = .ok (.iload_n 2, 1) := by decide +kernel
theorem dX6_nearest_89 : decode cX6_nearest 89 = .ok (.aload_n 0, 1) := by decide +kernel
theorem dX6_nearest_90 : decode cX6_nearest 90 = .ok (.getfield 10, 3) := by decide +kernel
theorem dX6_nearest_93 : decode cX6_nearest 93 = .ok (.invokevirtual 157, 3) := by decide +kernel
theorem dX6_nearest_96 : decode cX6_nearest 96 = .ok (.invokevirtual 172, 3) := by decide +kernel
theorem dX6_nearest_99 : decode cX6_nearest 99 = .ok (.ifCond .eq 10, 3) := by decide +kernel
theorem dX6_nearest_102 : decode cX6_nearest 102 = .ok (.iload 6, 2) := by decide +kernel
theorem dX6_nearest_104 : decode cX6_nearest 104 = .ok (.istore_n 3, 1) := by decide +kernel
theorem dX6_nearest_105 : decode cX6_nearest 105 = .ok (.iload 5, 2) := by decide +kernel
theorem dX6_nearest_107 : decode cX6_nearest 107 = .ok (.istore 4, 2) := by decide +kernel
theorem dX6_nearest_109 : decode cX6_nearest 109 = .ok (.iinc 5 1, 3) := by decide +kernel
theorem dX6_nearest_112 : decode cX6_nearest 112 = .ok (.goto (-74), 3) := by decide +kernel
theorem dX6_nearest_115 : decode cX6_nearest 115 = .ok (.iload 4, 2) := by decide +kernel
theorem dX6_nearest_117 : decode cX6_nearest 117 = .ok (.ireturn, 1) := by decide +kernel
set_option maxHeartbeats 4000000 in
set_option maxRecDepth 100000 in
theorem l_X6_nearest_38 {p : Program} {l : Launch} {e : Env} {s : State} {m : MethodId} {args : Array Value} {below : List Frame} {meth : Method} {c : Code} {D : va_G} {cy : Nat → ClassId} {A : Nat → Prop} {Bd : Nat} {xa : Xa} {xd : Nat → Nat → Nat} {β : Type} {vO : Option Value} {wO : va_W} {N : Nat} {aX : Nat → Nat → Int32} {sL : Nat → Int32} {aL : Nat → Nat → Int32} {tL : Nat → Nat → Int32} {sX : Nat → Int32} {uG : Nat → Int32} {es : Nat → Int32} {ea : Nat → Nat → Int32} {sT : Nat → Int32} {aT : Nat → Nat → Int32} {tT : Nat → Nat → Int32} {pT : Nat → Int32} {qT : Nat → Nat → Int32} {ma : Nat → Nat → Int32} {pL : Nat → Int32} {qL : Nat → Nat → Int32} {sK : Nat → Int32} {aK : Nat → Nat → Int32} {tK : Nat → Nat → Int32} {pK : Nat → Int32} {qK : Nat → Nat → Int32} {sH : Nat → Nat → Int32} {rH : Nat → Nat → Int64} {uH : Nat → Nat → Int32} {v1 : Int32} {v2 : Int32} {kx : Int32 → Option (β)} {out : β} (C : CC p s m args meth c cX6_nearest RX6 7 (some .int) D cy A false Bd xa) (hk : ∀ (x4 : Int32), kx x4 = some out → TT p l e { frames := 3, cells := 0, slots := 0, locals := 80 } s m args below meth c 7 D A false vO wO 115 [(4, .int x4)] [] (xC cy xd sX aX uG es ea sT aT tT pT qT ma sL aL tL pL qL sK aK tK pK qK sH rH uH)) {n : Nat} {v3 : Int32} {v4 : Int32} {v5 : Int32} (hf : f_X6_nearest_L38 N aX sL aL tL v1 v2 kx n v3 v4 v5 = some out) : TT p l e { frames := 3, cells := 0, slots := 0, locals := 80 } s m args below meth c 7 D A false vO wO 38 [(0, .ref (xd 0 0)), (1, .int v1), (2, .int v2), (3, .int v3), (4, .int v4), (5, .int v5)] [] (xC cy xd sX aX uG es ea sT aT tT pT qT ma sL aL tL pL qL sK aK tK pK qK sH rH uH) := by
  induction n generalizing v3 v4 v5 with
  | zero => cases hf
  | succ n ih =>
    rw [f_X6_nearest_L38] at hf
    refine tt_iload (pc := 38) (k := 5) C dX6_nearest_38 rfl ?_
    refine tt_aload_n (pc := 40) (k := 0) C dX6_nearest_40 rfl rfl ?_
    refine tt_get (pc := 41) (ws := (xC cy xd sX aX uG es ea sT aT tT pT qT ma sL aL tL pL qL sK aK tK pK qK sH rH uH)) (ci := 6) (v := .ref ((xd 1) 0)) C fiX6 rfl 0 xC_obj 0 (by decide) q1_219 rfl dX6_nearest_41 ?_
    refine tt_get (pc := 44) (ws := (xC cy xd sX aX uG es ea sT aT tT pT qT ma sL aL tL pL qL sK aK tK pK qK sH rH uH)) (ci := 1) (v := .int (sL 6)) C fiX1 rfl 28 rfl 6 (by decide) q1_97 rfl dX6_nearest_44 ?_
    refine tt_icmp_ge (pc := 47) (tgt := 115) C dX6_nearest_47 (by decide) hf (fun hf => ?_) (fun hf => ?_)
    · exact tt_locs [4] rfl (hk _ hf)
    · refine tt_aload_n (pc := 50) (k := 0) C dX6_nearest_50 rfl rfl ?_
      refine tt_get (pc := 51) (ws := (xC cy xd sX aX uG es ea sT aT tT pT qT ma sL aL tL pL qL sK aK tK pK qK sH rH uH)) (ci := 6) (v := .ref ((xd 1) 0)) C fiX6 rfl 0 xC_obj 0 (by decide) q1_219 rfl dX6_nearest_51 ?_
      refine tt_get (pc := 54) (ws := (xC cy xd sX aX uG es ea sT aT tT pT qT ma sL aL tL pL qL sK aK tK pK qK sH rH uH)) (ci := 1) (v := .ref ((xd 1) 7)) C fiX1 rfl 28 rfl 7 (by decide) q1_100 rfl dX6_nearest_54 ?_
      refine tt_iload (pc := 57) (k := 5) C dX6_nearest_57 rfl ?_
      refine tt_iaload (pc := 59) (ws := (xC cy xd sX aX uG es ea sT aT tT pT qT ma sL aL tL pL qL sK aK tK pK qK sH rH uH)) (n := 5) (f := (aL 7)) C 33 0 rfl rfl hf dX6_nearest_59 (fun hf => ?_)
      refine tt_iload_n (pc := 60) (k := 2) C dX6_nearest_60 rfl rfl ?_
      refine tt_isub (pc := 61) C dX6_nearest_61 ?_
      refine tt_abs (pc := 62) C q3_225 q3_165 q1_14 q3_166 (Nat.le_of_ble_eq_true rfl) (Nat.le_of_ble_eq_true rfl) dX6_nearest_62 ?_
      refine tt_istore (pc := 65) (L' := [(6, .int (if 0 ≤ (((aL 7) (ix v5)) - v2) then (((aL 7) (ix v5)) - v2) else 0 - (((aL 7) (ix v5)) - v2))), (0, .ref (xd 0 0)), (1, .int v1), (2, .int v2), (3, .int v3), (4, .int v4), (5, .int v5)]) C dX6_nearest_65 (by decide) rfl ?_
      refine tt_iload (pc := 67) (k := 0) C dX6_nearest_67 rfl ?_
      refine tt_iload_n (pc := 69) (k := 4) C dX6_nearest_69 rfl rfl ?_
      obtain ⟨j4, hj4, hf⟩ := bind_some hf
      have k5 : TT p l e { frames := 3, cells := 0, slots := 0, locals := 80 } s m args below meth c 7 D A false vO wO 109 [(0, .ref (xd 0 0)), (1, .int v1), (2, .int v2), (3, .int j4.1), (4, .int j4.2), (5, .int v5)] [] (xC cy xd sX aX uG es ea sT aT tT pT qT ma sL aL tL pL qL sK aK tK pK qK sH rH uH) := by
        refine tt_iinc (pc := 109) (k := 5) (v := (v5 + 1)) (L' := [(5, .int (v5 + 1)), (0, .ref (xd 0 0)), (1, .int v1), (2, .int v2), (3, .int j4.1), (4, .int j4.2)]) C dX6_nearest_109 rfl rfl (by decide) rfl ?_
        refine tt_goto (pc := 112) (tgt := 38) C dX6_nearest_112 (by decide) ?_
        exact tt_locs [1, 2, 3, 4, 5, 0] rfl (ih hf)
      refine tt_icmp_ge (pc := 70) (tgt := 109) C dX6_nearest_70 (by decide) hj4 (fun hj4 => ?_) (fun hj4 => ?_)
      · obtain rfl := Option.some.inj hj4
        exact tt_locs [1, 2, 3, 4, 5, 6] rfl k5
      · refine tt_aload_n (pc := 73) (k := 1) C dX6_nearest_73 rfl rfl ?_
        refine tt_get (pc := 74) (ws := (xC cy xd sX aX uG es ea sT aT tT pT qT ma sL aL tL pL qL sK aK tK pK qK sH rH uH)) (ci := 6) (v := .ref ((xd 1) 0)) C fiX6 rfl 0 xC_obj 0 (by decide) q1_219 rfl dX6_nearest_74 ?_
        refine tt_aload_n (pc := 77) (k := 1) C dX6_nearest_77 rfl rfl ?_
        refine tt_get (pc := 78) (ws := (xC cy xd sX aX uG es ea sT aT tT pT qT ma sL aL tL pL qL sK aK tK pK qK sH rH uH)) (ci := 6) (v := .ref ((xd 1) 0)) C fiX6 rfl 0 xC_obj 0 (by decide) q1_219 rfl dX6_nearest_78 ?_
        refine tt_get (pc := 81) (ws := (xC cy xd sX aX uG es ea sT aT tT pT qT ma sL aL tL pL qL sK aK tK pK qK sH rH uH)) (ci := 1) (v := .ref ((xd 1) 10)) C fiX1 rfl 28 rfl 10 (by decide) q1_107 rfl dX6_nearest_81 ?_
        refine tt_iload_n (pc := 84) (k := 2) C dX6_nearest_84 rfl rfl ?_
        refine tt_aaload (pc := 85) (ws := (xC cy xd sX aX uG es ea sT aT tT pT qT ma sL aL tL pL qL sK aK tK pK qK sH rH uH)) (n := 4) (r := (fun j => (xd 1) (40 + j))) C 35 4 rfl rfl hj4 (fun _ _ => rfl) dX6_nearest_85 (fun hj4 hlt6 => ?_)
        refine tt_iload (pc := 86) (k := 6) C dX6_nearest_86 rfl ?_
        refine tt_iload_n (pc := 88) (k := 3) C dX6_nearest_88 rfl rfl ?_
        refine tt_aload_n (pc := 89) (k := 1) C dX6_nearest_89 rfl rfl ?_
        refine tt_get (pc := 90) (ws := (xC cy xd sX aX uG es ea sT aT tT pT qT ma sL aL tL pL qL sK aK tK pK qK sH rH uH)) (ci := 6) (v := .ref ((xd 1) 0)) C fiX6 rfl 0 xC_obj 0 (by decide) q1_219 rfl dX6_nearest_90 ?_
        obtain ⟨r7, hr7, hj4⟩ := bind_some hj4
        refine tt_callR (pc := 93) (ws := (xC cy xd sX aX uG es ea sT aT tT pT qT ma sL aL tL pL qL sK aK tK pK qK sH rH uH)) (q0 := 28) (ci := 1) (rest := [.int v2, .int v5, .ref ((xd 1) (40 + (ix v1))), .ref ((xd 1) 0)]) (st' := [.int r7, .int v2, .int v5, .ref ((xd 1) (40 + (ix v1))), .ref ((xd 1) 0)]) C (k_X1_allBridges hr7) okX1_allBridges q3_60 rfl rfl xC_subL rfl rfl rfl (Nat.le_of_ble_eq_true rfl) ⟨Nat.le_of_ble_eq_true rfl, Nat.le_of_ble_eq_true rfl⟩ dX6_nearest_93 ?_
        obtain ⟨r8, hr8, hj4⟩ := bind_some hj4
        refine tt_callR (pc := 96) (ws := (xC cy xd sX aX uG es ea sT aT tT pT qT ma sL aL tL pL qL sK aK tK pK qK sH rH uH)) (q0 := 28) (ci := 1) (rest := []) (st' := [.int r8]) C (k_X1_seesPost hr8) okX1_seesPost q3_102 rfl rfl (sub_c (xC_subL _ (lC_tmem hlt6)) xC_subL) rfl rfl rfl (Nat.le_of_ble_eq_true rfl) ⟨Nat.le_of_ble_eq_true rfl, Nat.le_of_ble_eq_true rfl⟩ dX6_nearest_96 ?_
        have k10 : TT p l e { frames := 3, cells := 0, slots := 0, locals := 80 } s m args below meth c 7 D A false vO wO 109 [(0, .ref (xd 0 0)), (1, .int v1), (2, .int v2), (3, .int (if r8 = 0 then v3 else (if 0 ≤ (((aL 7) (ix v5)) - v2) then (((aL 7) (ix v5)) - v2) else 0 - (((aL 7) (ix v5)) - v2)))), (4, .int (if r8 = 0 then v4 else v5)), (5, .int v5)] [] (xC cy xd sX aX uG es ea sT aT tT pT qT ma sL aL tL pL qL sK aK tK pK qK sH rH uH) := by
          obtain rfl := Option.some.inj hj4
          exact tt_locs [0, 1, 2, 3, 4, 5] rfl k5
        refine tr_if_eq (pc := 99) (tgt := 109) C dX6_nearest_99 (by decide) (fun c9 => ?_) (fun c9 => ?_)
        · try simp only [if_pos c9] at k10 ⊢
          exact tt_locs [1, 2, 3, 4, 5, 6] rfl k10
        · refine tt_iload (pc := 102) (k := 0) C dX6_nearest_102 rfl ?_
          refine tt_istore_n (pc := 104) (L' := [(3, .int (if 0 ≤ (((aL 7) (ix v5)) - v2) then (((aL 7) (ix v5)) - v2) else 0 - (((aL 7) (ix v5)) - v2))), (6, .int (if 0 ≤ (((aL 7) (ix v5)) - v2) then (((aL 7) (ix v5)) - v2) else 0 - (((aL 7) (ix v5)) - v2))), (0, .ref (xd 0 0)), (1, .int v1), (2, .int v2), (4, .int v4), (5, .int v5)]) C dX6_nearest_104 rfl (by decide) rfl ?_
          refine tt_iload (pc := 105) (k := 6) C dX6_nearest_105 rfl ?_
          refine tt_istore (pc := 107) (L' := [(4, .int v5), (3, .int (if 0 ≤ (((aL 7) (ix v5)) - v2) then (((aL 7) (ix v5)) - v2) else 0 - (((aL 7) (ix v5)) - v2))), (6, .int (if 0 ≤ (((aL 7) (ix v5)) - v2) then (((aL 7) (ix v5)) - v2) else 0 - (((aL 7) (ix v5)) - v2))), (0, .ref (xd 0 0)), (1, .int v1), (2, .int v2), (5, .int v5)]) C dX6_nearest_107 (by decide) rfl ?_
          try simp only [if_neg c9] at k10 ⊢
          exact tt_locs [3, 4, 5, 1, 0, 6] rfl k10
set_option maxHeartbeats 4000000 in
set_option maxRecDepth 100000 in
theorem k_X6_nearest {l : Launch} {D : va_G} {cy : Nat → ClassId} {Bd : Nat} {xa : Xa} {xd : Nat → Nat → Nat} {N : Nat} {sX : Nat → Int32} {aX : Nat → Nat → Int32} {uG : Nat → Int32} {es : Nat → Int32} {ea : Nat → Nat → Int32} {sT : Nat → Int32} {aT : Nat → Nat → Int32} {tT : Nat → Nat → Int32} {pT : Nat → Int32} {qT : Nat → Nat → Int32} {ma : Nat → Nat → Int32} {sL : Nat → Int32} {aL : Nat → Nat → Int32} {tL : Nat → Nat → Int32} {pL : Nat → Int32} {qL : Nat → Nat → Int32} {sK : Nat → Int32} {aK : Nat → Nat → Int32} {tK : Nat → Nat → Int32} {pK : Nat → Int32} {qK : Nat → Nat → Int32} {sH : Nat → Nat → Int32} {rH : Nat → Nat → Int64} {uH : Nat → Nat → Int32} {a1 : Int32} {a2 : Int32} {out : Int32 × (Nat → Nat → Int32)} (hf : f_X6_nearest N aX sL aL tL a1 a2 = some out) : KC l yX6_nearest cX6_nearest 7 (some .int) 3 80 false D cy Bd xa [.ref (xd 0 0), .int a1, .int a2] (xC cy xd sX aX uG es ea sT aT tT pT qT ma sL aL tL pL qL sK aK tK pK qK sH rH uH) (some (.int out.1)) (xC cy xd sX out.2 uG es ea sT aT tT pT qT ma sL aL tL pL qL sK aK tK pK qK sH rH uH) := by
  refine kc_start (own := RX6) (by decide +kernel) rfl (Nat.le_of_ble_eq_true rfl) ?_
  intro p e s m args below meth c A C
  unfold f_X6_nearest at hf
  refine tt_locs (L' := [(0, .ref (xd 0 0)), (1, .int a1), (2, .int a2)]) [0, 1, 2] rfl ?_
  refine tt_aload_n (pc := 0) (k := 0) C dX6_nearest_0 rfl rfl ?_
  refine tt_get (pc := 1) (ws := (xC cy xd sX aX uG es ea sT aT tT pT qT ma sL aL tL pL qL sK aK tK pK qK sH rH uH)) (ci := 6) (v := .ref ((xd 1) 0)) C fiX6 rfl 0 xC_obj 0 (by decide) q1_219 rfl dX6_nearest_1 ?_
  refine tt_iload_n (pc := 4) (k := 1) C dX6_nearest_4 rfl rfl ?_
  obtain ⟨r1, hr1, hf⟩ := bind_some hf
  refine tt_callR (pc := 5) (ws := (xC cy xd sX aX uG es ea sT aT tT pT qT ma sL aL tL pL qL sK aK tK pK qK sH rH uH)) (q0 := 28) (ci := 1) (rest := []) (st' := [.int r1]) C (k_X1_hasTrain hr1) okX1_hasTrain q3_43 rfl rfl xC_subL rfl rfl rfl (Nat.le_of_ble_eq_true rfl) ⟨Nat.le_of_ble_eq_true rfl, Nat.le_of_ble_eq_true rfl⟩ dX6_nearest_5 ?_
  refine tt_if_eq (pc := 8) (tgt := 22) C dX6_nearest_8 (by decide) hf (fun hf => ?_) (fun hf => ?_)
  · refine tt_aload_n (pc := 22) (k := 0) C dX6_nearest_22 rfl rfl ?_
    refine tt_iconst (pc := 23) (v := (-1 : Int32)) C dX6_nearest_23 (by decide) ?_
    obtain ⟨r2, hr2, hf⟩ := bind_some hf
    refine tt_callM (pc := 24) (ws := (xC cy xd sX aX uG es ea sT aT tT pT qT ma sL aL tL pL qL sK aK tK pK qK sH rH uH)) (q0 := 0) (ci := 6) (rest := []) (st' := [.int r2.1]) C rfl (k_X6_refused hr2) okX6_refused q2_19 rfl xC_obj rfl rfl rfl (Nat.le_of_ble_eq_true rfl) ⟨Nat.le_of_ble_eq_true rfl, Nat.le_of_ble_eq_true rfl⟩ dX6_nearest_24 ?_
    obtain rfl := Option.some.inj hf
    exact tt_ireturn (pc := 27) C rfl rfl rfl dX6_nearest_27
  · refine tt_aload_n (pc := 11) (k := 0) C dX6_nearest_11 rfl rfl ?_
    refine tt_get (pc := 12) (ws := (xC cy xd sX aX uG es ea sT aT tT pT qT ma sL aL tL pL qL sK aK tK pK qK sH rH uH)) (ci := 6) (v := .ref ((xd 1) 0)) C fiX6 rfl 0 xC_obj 0 (by decide) q1_219 rfl dX6_nearest_12 ?_
    refine tt_iload_n (pc := 15) (k := 2) C dX6_nearest_15 rfl rfl ?_
    obtain ⟨r3, hr3, hf⟩ := bind_some hf
    refine tt_callR (pc := 16) (ws := (xC cy xd sX aX uG es ea sT aT tT pT qT ma sL aL tL pL qL sK aK tK pK qK sH rH uH)) (q0 := 28) (ci := 1) (rest := []) (st' := [.int r3]) C (k_X1_hasCell hr3) okX1_hasCell q3_55 rfl rfl xC_subL rfl rfl rfl (Nat.le_of_ble_eq_true rfl) ⟨Nat.le_of_ble_eq_true rfl, Nat.le_of_ble_eq_true rfl⟩ dX6_nearest_16 ?_
    refine tt_if_ne (pc := 19) (tgt := 28) C dX6_nearest_19 (by decide) hf (fun hf => ?_) (fun hf => ?_)
    · refine tt_bipush (pc := 28) (v := (24 : Int32)) C dX6_nearest_28 (by decide) ?_
      refine tt_istore_n (pc := 30) (L' := [(3, .int (24 : Int32)), (0, .ref (xd 0 0)), (1, .int a1), (2, .int a2)]) C dX6_nearest_30 rfl (by decide) rfl ?_
      refine tt_bipush (pc := 31) (v := (-9 : Int32)) C dX6_nearest_31 (by decide) ?_
      refine tt_istore (pc := 33) (L' := [(4, .int (-9 : Int32)), (3, .int (24 : Int32)), (0, .ref (xd 0 0)), (1, .int a1), (2, .int a2)]) C dX6_nearest_33 (by decide) rfl ?_
      refine tt_iconst (pc := 35) (v := (0 : Int32)) C dX6_nearest_35 (by decide) ?_
      refine tt_istore (pc := 36) (L' := [(5, .int (0 : Int32)), (4, .int (-9 : Int32)), (3, .int (24 : Int32)), (0, .ref (xd 0 0)), (1, .int a1), (2, .int a2)]) C dX6_nearest_36 (by decide) rfl ?_
      refine tt_locs (L' := [(0, .ref (xd 0 0)), (1, .int a1), (2, .int a2), (3, .int (24 : Int32)), (4, .int (-9 : Int32)), (5, .int (0 : Int32))]) [3, 4, 5, 2, 1, 0] rfl (l_X6_nearest_38 C (fun x4_11 hf => ?_) hf)
      refine tt_iload (pc := 115) (k := 0) C dX6_nearest_115 rfl ?_
      obtain rfl := Option.some.inj hf
      exact tt_ireturn (pc := 117) C rfl rfl rfl dX6_nearest_117
    · refine tt_aload_n (pc := 22) (k := 0) C dX6_nearest_22 rfl rfl ?_
      refine tt_iconst (pc := 23) (v := (-1 : Int32)) C dX6_nearest_23 (by decide) ?_
      obtain ⟨r11, hr11, hf⟩ := bind_some hf
      refine tt_callM (pc := 24) (ws := (xC cy xd sX aX uG es ea sT aT tT pT qT ma sL aL tL pL qL sK aK tK pK qK sH rH uH)) (q0 := 0) (ci := 6) (rest := []) (st' := [.int r11.1]) C rfl (k_X6_refused hr11) okX6_refused q2_19 rfl xC_obj rfl rfl rfl (Nat.le_of_ble_eq_true rfl) ⟨Nat.le_of_ble_eq_true rfl, Nat.le_of_ble_eq_true rfl⟩ dX6_nearest_24 ?_
      obtain rfl := Option.some.inj hf
      exact tt_ireturn (pc := 27) C rfl rfl rfl dX6_nearest_27
theorem dX6_shadow_0 : decode cX6_shadow 0 = .ok (.aload_n 0, 1) := by decide +kernel
theorem dX6_shadow_1 : decode cX6_shadow 1 = .ok (.getfield 10, 3) := by decide +kernel
theorem dX6_shadow_4 : decode cX6_shadow 4 = .ok (.iload_n 1, 1) := by decide +kernel
theorem dX6_shadow_5 : decode cX6_shadow 5 = .ok (.invokevirtual 83, 3) := by decide +kernel
theorem dX6_shadow_8 : decode cX6_shadow 8 = .ok (.ifCond .eq 25, 3) := by decide +kernel
theorem dX6_shadow_11 : decode cX6_shadow 11 = .ok (.aload_n 0, 1) := by decide +kernel
theorem dX6_shadow_12 : decode cX6_shadow 12 = .ok (.getfield 10, 3) := by decide +kernel
theorem dX6_shadow_15 : decode cX6_shadow 15 = .ok (.iload_n 2, 1) := by decide +kernel
theorem dX6_shadow_16 : decode cX6_shadow 16 = .ok (.invokevirtual 129, 3) := by decide +kernel
theorem dX6_shadow_19 : decode cX6_shadow 19 = .ok (.ifCond .eq 14, 3) := by decide +kernel
theorem dX6_shadow_22 : decode cX6_shadow 22 = .ok (.aload_n 0, 1) := by decide +kernel
theorem dX6_shadow_23 : decode cX6_shadow 23 = .ok (.getfield 10, 3) := by decide +kernel
theorem dX6_shadow_26 : decode cX6_shadow 26 = .ok (.iload_n 3, 1) := by decide +kernel
theorem dX6_shadow_27 : decode cX6_shadow 27 = .ok (.invokevirtual 120, 3) := by decide +kernel
theorem dX6_shadow_30 : decode cX6_shadow 30 = .ok (.ifCond .ne 9, 3) := by decide +kernel
theorem dX6_shadow_33 : decode cX6_shadow 33 = .ok (.aload_n 0, 1) := by decide +kernel
theorem dX6_shadow_34 : decode cX6_shadow 34 = .ok (.iconst (-1), 1) := by decide +kernel
theorem dX6_shadow_35 : decode cX6_shadow 35 = .ok (.invokevirtual 87, 3) := by decide +kernel
theorem dX6_shadow_38 : decode cX6_shadow 38 = .ok (.ireturn, 1) := by decide +kernel
theorem dX6_shadow_39 : decode cX6_shadow 39 = .ok (.aload_n 0, 1) := by decide +kernel
theorem dX6_shadow_40 : decode cX6_shadow 40 = .ok (.getfield 10, 3) := by decide +kernel
theorem dX6_shadow_43 : decode cX6_shadow 43 = .ok (.getfield 132, 3) := by decide +kernel
theorem dX6_shadow_46 : decode cX6_shadow 46 = .ok (.iload_n 2, 1) := by decide +kernel
theorem dX6_shadow_47 : decode cX6_shadow 47 = .ok (.aaload, 1) := by decide +kernel
theorem dX6_shadow_48 : decode cX6_shadow 48 = .ok (.astore 4, 2) := by decide +kernel
theorem dX6_shadow_50 : decode cX6_shadow 50 = .ok (.aload_n 0, 1) := by decide +kernel
theorem dX6_shadow_51 : decode cX6_shadow 51 = .ok (.getfield 10, 3) := by decide +kernel
theorem dX6_shadow_54 : decode cX6_shadow 54 = .ok (.invokevirtual 157, 3) := by decide +kernel
theorem dX6_shadow_57 : decode cX6_shadow 57 = .ok (.istore 5, 2) := by decide +kernel
theorem dX6_shadow_59 : decode cX6_shadow 59 = .ok (.iconst 0, 1) := by decide +kernel
theorem dX6_shadow_60 : decode cX6_shadow 60 = .ok (.istore 6, 2) := by decide +kernel
theorem dX6_shadow_62 : decode cX6_shadow 62 = .ok (.iconst 0, 1) := by decide +kernel
theorem dX6_shadow_63 : decode cX6_shadow 63 = .ok (.istore 7, 2) := by decide +kernel
theorem dX6_shadow_65 : decode cX6_shadow 65 = .ok (.iload 7, 2) := by decide +kernel
theorem dX6_shadow_67 : decode cX6_shadow 67 = .ok (.aload_n 0, 1) := by decide +kernel
theorem dX6_shadow_68 : decode cX6_shadow 68 = .ok (.getfield 10, 3) := by decide +kernel
theorem dX6_shadow_71 : decode cX6_shadow 71 = .ok (.getfield 230, 3) := by decide +kernel
theorem dX6_shadow_74 : decode cX6_shadow 74 = .ok (.if_icmp .ge 58, 3) := by decide +kernel
theorem dX6_shadow_77 : decode cX6_shadow 77 = .ok (.aload_n 0, 1) := by decide +kernel
theorem dX6_shadow_78 : decode cX6_shadow 78 = .ok (.getfield 10, 3) := by decide +kernel
theorem dX6_shadow_81 : decode cX6_shadow 81 = .ok (.aload 4, 2) := by decide +kernel
theorem dX6_shadow_83 : decode cX6_shadow 83 = .ok (.iload_n 3, 1) := by decide +kernel
theorem dX6_shadow_84 : decode cX6_shadow 84 = .ok (.iload 7, 2) := by decide +kernel
theorem dX6_shadow_86 : decode cX6_shadow 86 = .ok (.iload 5, 2) := by decide +kernel
theorem dX6_shadow_88 : decode cX6_shadow 88 = .ok (.iconst 1, 1) := by decide +kernel
theorem dX6_shadow_89 : decode cX6_shadow 89 = .ok (.iload_n 1, 1) := by decide +kernel
theorem dX6_shadow_90 : decode cX6_shadow 90 = .ok (.ishl, 1) := by decide +kernel
theorem dX6_shadow_91 : decode cX6_shadow 91 = .ok (.iconst (-1), 1) := by decide +kernel
theorem dX6_shadow_92 : decode cX6_shadow 92 = .ok (.ixor, 1) := by decide +kernel
theorem dX6_shadow_93 : decode cX6_shadow 93 = .ok (.iand, 1) := by decide +kernel
theorem dX6_shadow_94 : decode cX6_shadow 94 = .ok (.invokevirtual 172, 3) := by decide +kernel
theorem dX6_shadow_97 : decode cX6_shadow 97 = .ok (.ifCond .eq 29, 3) := by decide +kernel
theorem dX6_shadow_100 : decode cX6_shadow 100 = .ok (.aload_n 0, 1) := by decide +kernel
theorem dX6_shadow_101 : decode cX6_shadow 101 = .ok (.getfield 10, 3) := by decide +kernel
theorem dX6_shadow_104 : decode cX6_shadow 104 = .ok (.aload 4, 2) := by decide +kernel
theorem dX6_shadow_106 : decode cX6_shadow 106 = .ok (.iload_n 3, 1) := by decide +kernel
theorem dX6_shadow_107 : decode cX6_shadow 107 = .ok (.iload 7, 2) := by decide +kernel
theorem dX6_shadow_109 : decode cX6_shadow 109 = .ok (.iload 5, 2) := by decide +kernel
theorem dX6_shadow_111 : decode cX6_shadow 111 = .ok (.invokevirtual 172, 3) := by decide +kernel
theorem dX6_shadow_114 : decode cX6_shadow 114 = .ok (.ifCond .ne 12, 3) := by decide +kernel
theorem dX6_shadow_117 : decode cX6_shadow 117 = .ok (.iload 6, 2) := by decide +kernel
theorem dX6_shadow_119 : decode cX6_shadow 119 = .ok (.iconst 1, 1) := by decide +kernel
theorem dX6_shadow_120 : decode cX6_shadow 120 = .ok (.iload 7, 2) := by decide +kernel
theorem dX6_shadow_122 : decode cX6_shadow 122 = .ok (.ishl, 1) := by decide +kernel
theorem dX6_shadow_123 : decode cX6_shadow 123 = .ok (.ior, 1) := by decide +kernel
theorem dX6_shadow_124 : decode cX6_shadow 124 = .ok (.istore 6, 2) := by decide +kernel
theorem dX6_shadow_126 : decode cX6_shadow 126 = .ok (.iinc 7 1, 3) := by decide +kernel
theorem dX6_shadow_129 : decode cX6_shadow 129 = .ok (.goto (-64), 3) := by decide +kernel
theorem dX6_shadow_132 : decode cX6_shadow 132 = .ok (.iload 6, 2) := by decide +kernel
theorem dX6_shadow_134 : decode cX6_shadow 134 = .ok (.ireturn, 1) := by decide +kernel
set_option maxHeartbeats 4000000 in
set_option maxRecDepth 100000 in
theorem l_X6_shadow_65 {p : Program} {l : Launch} {e : Env} {s : State} {m : MethodId} {args : Array Value} {below : List Frame} {meth : Method} {c : Code} {D : va_G} {cy : Nat → ClassId} {A : Nat → Prop} {Bd : Nat} {xa : Xa} {xd : Nat → Nat → Nat} {β : Type} {vO : Option Value} {wO : va_W} {N : Nat} {aX : Nat → Nat → Int32} {sL : Nat → Int32} {aL : Nat → Nat → Int32} {tL : Nat → Nat → Int32} {sX : Nat → Int32} {uG : Nat → Int32} {es : Nat → Int32} {ea : Nat → Nat → Int32} {sT : Nat → Int32} {aT : Nat → Nat → Int32} {tT : Nat → Nat → Int32} {pT : Nat → Int32} {qT : Nat → Nat → Int32} {ma : Nat → Nat → Int32} {pL : Nat → Int32} {qL : Nat → Nat → Int32} {sK : Nat → Int32} {aK : Nat → Nat → Int32} {tK : Nat → Nat → Int32} {pK : Nat → Int32} {qK : Nat → Nat → Int32} {sH : Nat → Nat → Int32} {rH : Nat → Nat → Int64} {uH : Nat → Nat → Int32} {v1 : Int32} {v3 : Int32} {v5 : Int32} {t4 : Nat} {kx : Int32 → Option (β)} {out : β} (C : CC p s m args meth c cX6_shadow RX6 8 (some .int) D cy A false Bd xa) (g4 : t4 < 4) (hk : ∀ (x6 : Int32), kx x6 = some out → TT p l e { frames := 3, cells := 0, slots := 0, locals := 80 } s m args below meth c 8 D A false vO wO 132 [(6, .int x6)] [] (xC cy xd sX aX uG es ea sT aT tT pT qT ma sL aL tL pL qL sK aK tK pK qK sH rH uH)) {n : Nat} {v6 : Int32} {v7 : Int32} (hf : f_X6_shadow_L65 N aX sL aL tL v1 v3 v5 t4 kx n v6 v7 = some out) : TT p l e { frames := 3, cells := 0, slots := 0, locals := 80 } s m args below meth c 8 D A false vO wO 65 [(0, .ref (xd 0 0)), (1, .int v1), (3, .int v3), (4, .ref ((xd 1) (40 + t4))), (5, .int v5), (6, .int v6), (7, .int v7)] [] (xC cy xd sX aX uG es ea sT aT tT pT qT ma sL aL tL pL qL sK aK tK pK qK sH rH uH) := by
  induction n generalizing v6 v7 with
  | zero => cases hf
  | succ n ih =>
    rw [f_X6_shadow_L65] at hf
    refine tt_iload (pc := 65) (k := 6) C dX6_shadow_65 rfl ?_
    refine tt_aload_n (pc := 67) (k := 0) C dX6_shadow_67 rfl rfl ?_
    refine tt_get (pc := 68) (ws := (xC cy xd sX aX uG es ea sT aT tT pT qT ma sL aL tL pL qL sK aK tK pK qK sH rH uH)) (ci := 6) (v := .ref ((xd 1) 0)) C fiX6 rfl 0 xC_obj 0 (by decide) q1_219 rfl dX6_shadow_68 ?_
    refine tt_get (pc := 71) (ws := (xC cy xd sX aX uG es ea sT aT tT pT qT ma sL aL tL pL qL sK aK tK pK qK sH rH uH)) (ci := 1) (v := .int (sL 0)) C fiX1 rfl 28 rfl 0 (by decide) q1_84 rfl dX6_shadow_71 ?_
    refine tt_icmp_ge (pc := 74) (tgt := 132) C dX6_shadow_74 (by decide) hf (fun hf => ?_) (fun hf => ?_)
    · exact tt_locs [5] rfl (hk _ hf)
    · refine tt_aload_n (pc := 77) (k := 0) C dX6_shadow_77 rfl rfl ?_
      refine tt_get (pc := 78) (ws := (xC cy xd sX aX uG es ea sT aT tT pT qT ma sL aL tL pL qL sK aK tK pK qK sH rH uH)) (ci := 6) (v := .ref ((xd 1) 0)) C fiX6 rfl 0 xC_obj 0 (by decide) q1_219 rfl dX6_shadow_78 ?_
      refine tt_aload (pc := 81) (k := 3) C dX6_shadow_81 rfl ?_
      refine tt_iload_n (pc := 83) (k := 2) C dX6_shadow_83 rfl rfl ?_
      refine tt_iload (pc := 84) (k := 6) C dX6_shadow_84 rfl ?_
      refine tt_iload (pc := 86) (k := 4) C dX6_shadow_86 rfl ?_
      refine tt_iconst (pc := 88) (v := (1 : Int32)) C dX6_shadow_88 (by decide) ?_
      refine tt_iload_n (pc := 89) (k := 1) C dX6_shadow_89 rfl rfl ?_
      refine tt_ishl (pc := 90) C dX6_shadow_90 ?_
      refine tt_iconst (pc := 91) (v := (-1 : Int32)) C dX6_shadow_91 (by decide) ?_
      refine tt_ixor (pc := 92) C dX6_shadow_92 ?_
      refine tt_iand (pc := 93) C dX6_shadow_93 ?_
      obtain ⟨r8, hr8, hf⟩ := bind_some hf
      refine tt_callR (pc := 94) (ws := (xC cy xd sX aX uG es ea sT aT tT pT qT ma sL aL tL pL qL sK aK tK pK qK sH rH uH)) (q0 := 28) (ci := 1) (rest := []) (st' := [.int r8]) C (k_X1_seesPost hr8) okX1_seesPost q3_102 rfl rfl (sub_c (xC_subL _ (lC_tmem g4)) xC_subL) rfl rfl rfl (Nat.le_of_ble_eq_true rfl) ⟨Nat.le_of_ble_eq_true rfl, Nat.le_of_ble_eq_true rfl⟩ dX6_shadow_94 ?_
      obtain ⟨j9, hj9, hf⟩ := bind_some hf
      have k10 : TT p l e { frames := 3, cells := 0, slots := 0, locals := 80 } s m args below meth c 8 D A false vO wO 126 [(0, .ref (xd 0 0)), (1, .int v1), (3, .int v3), (4, .ref ((xd 1) (40 + t4))), (5, .int v5), (6, .int j9), (7, .int v7)] [] (xC cy xd sX aX uG es ea sT aT tT pT qT ma sL aL tL pL qL sK aK tK pK qK sH rH uH) := by
        refine tt_iinc (pc := 126) (k := 6) (v := (v7 + 1)) (L' := [(7, .int (v7 + 1)), (0, .ref (xd 0 0)), (1, .int v1), (3, .int v3), (4, .ref ((xd 1) (40 + t4))), (5, .int v5), (6, .int j9)]) C dX6_shadow_126 rfl rfl (by decide) rfl ?_
        refine tt_goto (pc := 129) (tgt := 65) C dX6_shadow_129 (by decide) ?_
        exact tt_locs [1, 2, 3, 4, 5, 6, 0] rfl (ih hf)
      refine tt_if_eq (pc := 97) (tgt := 126) C dX6_shadow_97 (by decide) hj9 (fun hj9 => ?_) (fun hj9 => ?_)
      · obtain rfl := Option.some.inj hj9
        exact tt_locs [0, 1, 2, 3, 4, 5, 6] rfl k10
      · refine tt_aload_n (pc := 100) (k := 0) C dX6_shadow_100 rfl rfl ?_
        refine tt_get (pc := 101) (ws := (xC cy xd sX aX uG es ea sT aT tT pT qT ma sL aL tL pL qL sK aK tK pK qK sH rH uH)) (ci := 6) (v := .ref ((xd 1) 0)) C fiX6 rfl 0 xC_obj 0 (by decide) q1_219 rfl dX6_shadow_101 ?_
        refine tt_aload (pc := 104) (k := 3) C dX6_shadow_104 rfl ?_
        refine tt_iload_n (pc := 106) (k := 2) C dX6_shadow_106 rfl rfl ?_
        refine tt_iload (pc := 107) (k := 6) C dX6_shadow_107 rfl ?_
        refine tt_iload (pc := 109) (k := 4) C dX6_shadow_109 rfl ?_
        obtain ⟨r11, hr11, hj9⟩ := bind_some hj9
        refine tt_callR (pc := 111) (ws := (xC cy xd sX aX uG es ea sT aT tT pT qT ma sL aL tL pL qL sK aK tK pK qK sH rH uH)) (q0 := 28) (ci := 1) (rest := []) (st' := [.int r11]) C (k_X1_seesPost hr11) okX1_seesPost q3_102 rfl rfl (sub_c (xC_subL _ (lC_tmem g4)) xC_subL) rfl rfl rfl (Nat.le_of_ble_eq_true rfl) ⟨Nat.le_of_ble_eq_true rfl, Nat.le_of_ble_eq_true rfl⟩ dX6_shadow_111 ?_
        have k13 : TT p l e { frames := 3, cells := 0, slots := 0, locals := 80 } s m args below meth c 8 D A false vO wO 126 [(0, .ref (xd 0 0)), (1, .int v1), (3, .int v3), (4, .ref ((xd 1) (40 + t4))), (5, .int v5), (6, .int (if r11 = 0 then (v6 ||| ((1 : Int32) <<< (v7 &&& 31))) else v6)), (7, .int v7)] [] (xC cy xd sX aX uG es ea sT aT tT pT qT ma sL aL tL pL qL sK aK tK pK qK sH rH uH) := by
          obtain rfl := Option.some.inj hj9
          exact tt_locs [0, 1, 2, 3, 4, 5, 6] rfl k10
        refine tr_if_ne (pc := 114) (tgt := 126) C dX6_shadow_114 (by decide) (fun c12 => ?_) (fun c12 => ?_)
        · try simp only [if_neg c12] at k13 ⊢
          exact tt_locs [0, 1, 2, 3, 4, 5, 6] rfl k13
        · refine tt_iload (pc := 117) (k := 5) C dX6_shadow_117 rfl ?_
          refine tt_iconst (pc := 119) (v := (1 : Int32)) C dX6_shadow_119 (by decide) ?_
          refine tt_iload (pc := 120) (k := 6) C dX6_shadow_120 rfl ?_
          refine tt_ishl (pc := 122) C dX6_shadow_122 ?_
          refine tt_ior (pc := 123) C dX6_shadow_123 ?_
          refine tt_istore (pc := 124) (L' := [(6, .int (v6 ||| ((1 : Int32) <<< (v7 &&& 31)))), (0, .ref (xd 0 0)), (1, .int v1), (3, .int v3), (4, .ref ((xd 1) (40 + t4))), (5, .int v5), (7, .int v7)]) C dX6_shadow_124 (by decide) rfl ?_
          try simp only [if_pos c12] at k13 ⊢
          exact tt_locs [1, 2, 3, 4, 5, 0, 6] rfl k13
set_option maxHeartbeats 4000000 in
set_option maxRecDepth 100000 in
theorem k_X6_shadow {l : Launch} {D : va_G} {cy : Nat → ClassId} {Bd : Nat} {xa : Xa} {xd : Nat → Nat → Nat} {N : Nat} {sX : Nat → Int32} {aX : Nat → Nat → Int32} {uG : Nat → Int32} {es : Nat → Int32} {ea : Nat → Nat → Int32} {sT : Nat → Int32} {aT : Nat → Nat → Int32} {tT : Nat → Nat → Int32} {pT : Nat → Int32} {qT : Nat → Nat → Int32} {ma : Nat → Nat → Int32} {sL : Nat → Int32} {aL : Nat → Nat → Int32} {tL : Nat → Nat → Int32} {pL : Nat → Int32} {qL : Nat → Nat → Int32} {sK : Nat → Int32} {aK : Nat → Nat → Int32} {tK : Nat → Nat → Int32} {pK : Nat → Int32} {qK : Nat → Nat → Int32} {sH : Nat → Nat → Int32} {rH : Nat → Nat → Int64} {uH : Nat → Nat → Int32} {a1 : Int32} {a2 : Int32} {a3 : Int32} {out : Int32 × (Nat → Nat → Int32)} (hf : f_X6_shadow N aX sL aL tL a1 a2 a3 = some out) : KC l yX6_shadow cX6_shadow 8 (some .int) 3 80 false D cy Bd xa [.ref (xd 0 0), .int a1, .int a2, .int a3] (xC cy xd sX aX uG es ea sT aT tT pT qT ma sL aL tL pL qL sK aK tK pK qK sH rH uH) (some (.int out.1)) (xC cy xd sX out.2 uG es ea sT aT tT pT qT ma sL aL tL pL qL sK aK tK pK qK sH rH uH) := by
  refine kc_start (own := RX6) (by decide +kernel) rfl (Nat.le_of_ble_eq_true rfl) ?_
  intro p e s m args below meth c A C
  unfold f_X6_shadow at hf
  refine tt_locs (L' := [(0, .ref (xd 0 0)), (1, .int a1), (2, .int a2), (3, .int a3)]) [0, 1, 2, 3] rfl ?_
  refine tt_aload_n (pc := 0) (k := 0) C dX6_shadow_0 rfl rfl ?_
  refine tt_get (pc := 1) (ws := (xC cy xd sX aX uG es ea sT aT tT pT qT ma sL aL tL pL qL sK aK tK pK qK sH rH uH)) (ci := 6) (v := .ref ((xd 1) 0)) C fiX6 rfl 0 xC_obj 0 (by decide) q1_219 rfl dX6_shadow_1 ?_
  refine tt_iload_n (pc := 4) (k := 1) C dX6_shadow_4 rfl rfl ?_
  obtain ⟨r1, hr1, hf⟩ := bind_some hf
  refine tt_callR (pc := 5) (ws := (xC cy xd sX aX uG es ea sT aT tT pT qT ma sL aL tL pL qL sK aK tK pK qK sH rH uH)) (q0 := 28) (ci := 1) (rest := []) (st' := [.int r1]) C (k_X1_hasBridge hr1) okX1_hasBridge q2_238 rfl rfl xC_subL rfl rfl rfl (Nat.le_of_ble_eq_true rfl) ⟨Nat.le_of_ble_eq_true rfl, Nat.le_of_ble_eq_true rfl⟩ dX6_shadow_5 ?_
  refine tt_if_eq (pc := 8) (tgt := 33) C dX6_shadow_8 (by decide) hf (fun hf => ?_) (fun hf => ?_)
  · refine tt_aload_n (pc := 33) (k := 0) C dX6_shadow_33 rfl rfl ?_
    refine tt_iconst (pc := 34) (v := (-1 : Int32)) C dX6_shadow_34 (by decide) ?_
    obtain ⟨r2, hr2, hf⟩ := bind_some hf
    refine tt_callM (pc := 35) (ws := (xC cy xd sX aX uG es ea sT aT tT pT qT ma sL aL tL pL qL sK aK tK pK qK sH rH uH)) (q0 := 0) (ci := 6) (rest := []) (st' := [.int r2.1]) C rfl (k_X6_refused hr2) okX6_refused q2_19 rfl xC_obj rfl rfl rfl (Nat.le_of_ble_eq_true rfl) ⟨Nat.le_of_ble_eq_true rfl, Nat.le_of_ble_eq_true rfl⟩ dX6_shadow_35 ?_
    obtain rfl := Option.some.inj hf
    exact tt_ireturn (pc := 38) C rfl rfl rfl dX6_shadow_38
  · refine tt_aload_n (pc := 11) (k := 0) C dX6_shadow_11 rfl rfl ?_
    refine tt_get (pc := 12) (ws := (xC cy xd sX aX uG es ea sT aT tT pT qT ma sL aL tL pL qL sK aK tK pK qK sH rH uH)) (ci := 6) (v := .ref ((xd 1) 0)) C fiX6 rfl 0 xC_obj 0 (by decide) q1_219 rfl dX6_shadow_12 ?_
    refine tt_iload_n (pc := 15) (k := 2) C dX6_shadow_15 rfl rfl ?_
    obtain ⟨r3, hr3, hf⟩ := bind_some hf
    refine tt_callR (pc := 16) (ws := (xC cy xd sX aX uG es ea sT aT tT pT qT ma sL aL tL pL qL sK aK tK pK qK sH rH uH)) (q0 := 28) (ci := 1) (rest := []) (st' := [.int r3]) C (k_X1_hasTrain hr3) okX1_hasTrain q3_43 rfl rfl xC_subL rfl rfl rfl (Nat.le_of_ble_eq_true rfl) ⟨Nat.le_of_ble_eq_true rfl, Nat.le_of_ble_eq_true rfl⟩ dX6_shadow_16 ?_
    refine tt_if_eq (pc := 19) (tgt := 33) C dX6_shadow_19 (by decide) hf (fun hf => ?_) (fun hf => ?_)
    · refine tt_aload_n (pc := 33) (k := 0) C dX6_shadow_33 rfl rfl ?_
      refine tt_iconst (pc := 34) (v := (-1 : Int32)) C dX6_shadow_34 (by decide) ?_
      obtain ⟨r4, hr4, hf⟩ := bind_some hf
      refine tt_callM (pc := 35) (ws := (xC cy xd sX aX uG es ea sT aT tT pT qT ma sL aL tL pL qL sK aK tK pK qK sH rH uH)) (q0 := 0) (ci := 6) (rest := []) (st' := [.int r4.1]) C rfl (k_X6_refused hr4) okX6_refused q2_19 rfl xC_obj rfl rfl rfl (Nat.le_of_ble_eq_true rfl) ⟨Nat.le_of_ble_eq_true rfl, Nat.le_of_ble_eq_true rfl⟩ dX6_shadow_35 ?_
      obtain rfl := Option.some.inj hf
      exact tt_ireturn (pc := 38) C rfl rfl rfl dX6_shadow_38
    · refine tt_aload_n (pc := 22) (k := 0) C dX6_shadow_22 rfl rfl ?_
      refine tt_get (pc := 23) (ws := (xC cy xd sX aX uG es ea sT aT tT pT qT ma sL aL tL pL qL sK aK tK pK qK sH rH uH)) (ci := 6) (v := .ref ((xd 1) 0)) C fiX6 rfl 0 xC_obj 0 (by decide) q1_219 rfl dX6_shadow_23 ?_
      refine tt_iload_n (pc := 26) (k := 3) C dX6_shadow_26 rfl rfl ?_
      obtain ⟨r5, hr5, hf⟩ := bind_some hf
      refine tt_callR (pc := 27) (ws := (xC cy xd sX aX uG es ea sT aT tT pT qT ma sL aL tL pL qL sK aK tK pK qK sH rH uH)) (q0 := 28) (ci := 1) (rest := []) (st' := [.int r5]) C (k_X1_hasPost hr5) okX1_hasPost q3_38 rfl rfl xC_subL rfl rfl rfl (Nat.le_of_ble_eq_true rfl) ⟨Nat.le_of_ble_eq_true rfl, Nat.le_of_ble_eq_true rfl⟩ dX6_shadow_27 ?_
      refine tt_if_ne (pc := 30) (tgt := 39) C dX6_shadow_30 (by decide) hf (fun hf => ?_) (fun hf => ?_)
      · refine tt_aload_n (pc := 39) (k := 0) C dX6_shadow_39 rfl rfl ?_
        refine tt_get (pc := 40) (ws := (xC cy xd sX aX uG es ea sT aT tT pT qT ma sL aL tL pL qL sK aK tK pK qK sH rH uH)) (ci := 6) (v := .ref ((xd 1) 0)) C fiX6 rfl 0 xC_obj 0 (by decide) q1_219 rfl dX6_shadow_40 ?_
        refine tt_get (pc := 43) (ws := (xC cy xd sX aX uG es ea sT aT tT pT qT ma sL aL tL pL qL sK aK tK pK qK sH rH uH)) (ci := 1) (v := .ref ((xd 1) 10)) C fiX1 rfl 28 rfl 10 (by decide) q1_107 rfl dX6_shadow_43 ?_
        refine tt_iload_n (pc := 46) (k := 2) C dX6_shadow_46 rfl rfl ?_
        refine tt_aaload (pc := 47) (ws := (xC cy xd sX aX uG es ea sT aT tT pT qT ma sL aL tL pL qL sK aK tK pK qK sH rH uH)) (n := 4) (r := (fun j => (xd 1) (40 + j))) C 35 4 rfl rfl hf (fun _ _ => rfl) dX6_shadow_47 (fun hf hlt6 => ?_)
        refine tt_astore (pc := 48) (L' := [(4, .ref ((xd 1) (40 + (ix a2)))), (0, .ref (xd 0 0)), (1, .int a1), (2, .int a2), (3, .int a3)]) C dX6_shadow_48 (by decide) rfl ?_
        refine tt_aload_n (pc := 50) (k := 1) C dX6_shadow_50 rfl rfl ?_
        refine tt_get (pc := 51) (ws := (xC cy xd sX aX uG es ea sT aT tT pT qT ma sL aL tL pL qL sK aK tK pK qK sH rH uH)) (ci := 6) (v := .ref ((xd 1) 0)) C fiX6 rfl 0 xC_obj 0 (by decide) q1_219 rfl dX6_shadow_51 ?_
        obtain ⟨r7, hr7, hf⟩ := bind_some hf
        refine tt_callR (pc := 54) (ws := (xC cy xd sX aX uG es ea sT aT tT pT qT ma sL aL tL pL qL sK aK tK pK qK sH rH uH)) (q0 := 28) (ci := 1) (rest := []) (st' := [.int r7]) C (k_X1_allBridges hr7) okX1_allBridges q3_60 rfl rfl xC_subL rfl rfl rfl (Nat.le_of_ble_eq_true rfl) ⟨Nat.le_of_ble_eq_true rfl, Nat.le_of_ble_eq_true rfl⟩ dX6_shadow_54 ?_
        refine tt_istore (pc := 57) (L' := [(5, .int r7), (4, .ref ((xd 1) (40 + (ix a2)))), (0, .ref (xd 0 0)), (1, .int a1), (2, .int a2), (3, .int a3)]) C dX6_shadow_57 (by decide) rfl ?_
        refine tt_iconst (pc := 59) (v := (0 : Int32)) C dX6_shadow_59 (by decide) ?_
        refine tt_istore (pc := 60) (L' := [(6, .int (0 : Int32)), (5, .int r7), (4, .ref ((xd 1) (40 + (ix a2)))), (0, .ref (xd 0 0)), (1, .int a1), (2, .int a2), (3, .int a3)]) C dX6_shadow_60 (by decide) rfl ?_
        refine tt_iconst (pc := 62) (v := (0 : Int32)) C dX6_shadow_62 (by decide) ?_
        refine tt_istore (pc := 63) (L' := [(7, .int (0 : Int32)), (6, .int (0 : Int32)), (5, .int r7), (4, .ref ((xd 1) (40 + (ix a2)))), (0, .ref (xd 0 0)), (1, .int a1), (2, .int a2), (3, .int a3)]) C dX6_shadow_63 (by decide) rfl ?_
        refine tt_locs (L' := [(0, .ref (xd 0 0)), (1, .int a1), (3, .int a3), (4, .ref ((xd 1) (40 + (ix a2)))), (5, .int r7), (6, .int (0 : Int32)), (7, .int (0 : Int32))]) [4, 5, 7, 3, 2, 1, 0] rfl (l_X6_shadow_65 C hlt6 (fun x6_14 hf => ?_) hf)
        refine tt_iload (pc := 132) (k := 0) C dX6_shadow_132 rfl ?_
        obtain rfl := Option.some.inj hf
        exact tt_ireturn (pc := 134) C rfl rfl rfl dX6_shadow_134
      · refine tt_aload_n (pc := 33) (k := 0) C dX6_shadow_33 rfl rfl ?_
        refine tt_iconst (pc := 34) (v := (-1 : Int32)) C dX6_shadow_34 (by decide) ?_
        obtain ⟨r14, hr14, hf⟩ := bind_some hf
        refine tt_callM (pc := 35) (ws := (xC cy xd sX aX uG es ea sT aT tT pT qT ma sL aL tL pL qL sK aK tK pK qK sH rH uH)) (q0 := 0) (ci := 6) (rest := []) (st' := [.int r14.1]) C rfl (k_X6_refused hr14) okX6_refused q2_19 rfl xC_obj rfl rfl rfl (Nat.le_of_ble_eq_true rfl) ⟨Nat.le_of_ble_eq_true rfl, Nat.le_of_ble_eq_true rfl⟩ dX6_shadow_35 ?_
        obtain rfl := Option.some.inj hf
        exact tt_ireturn (pc := 38) C rfl rfl rfl dX6_shadow_38
theorem dX1_areAlike_0 : decode cX1_areAlike 0 = .ok (.aload_n 0, 1) := by decide +kernel
theorem dX1_areAlike_1 : decode cX1_areAlike 1 = .ok (.invokevirtual 145, 3) := by decide +kernel
theorem dX1_areAlike_4 : decode cX1_areAlike 4 = .ok (.istore 4, 2) := by decide +kernel
theorem dX1_areAlike_6 : decode cX1_areAlike 6 = .ok (.aload_n 0, 1) := by decide +kernel
theorem dX1_areAlike_7 : decode cX1_areAlike 7 = .ok (.getfield 15, 3) := by decide +kernel
theorem dX1_areAlike_10 : decode cX1_areAlike 10 = .ok (.iload_n 2, 1) := by decide +kernel
theorem dX1_areAlike_11 : decode cX1_areAlike 11 = .ok (.iaload, 1) := by decide +kernel
theorem dX1_areAlike_12 : decode cX1_areAlike 12 = .ok (.aload_n 0, 1) := by decide +kernel
theorem dX1_areAlike_13 : decode cX1_areAlike 13 = .ok (.getfield 15, 3) := by decide +kernel
theorem dX1_areAlike_16 : decode cX1_areAlike 16 = .ok (.iload_n 1, 1) := by decide +kernel
theorem dX1_areAlike_17 : decode cX1_areAlike 17 = .ok (.iaload, 1) := by decide +kernel
theorem dX1_areAlike_18 : decode cX1_areAlike 18 = .ok (.isub, 1) := by decide +kernel
theorem dX1_areAlike_19 : decode cX1_areAlike 19 = .ok (.istore 5, 2) := by decide +kernel
theorem dX1_areAlike_21 : decode cX1_areAlike 21 = .ok (.iconst 0, 1) := by decide +kernel
theorem dX1_areAlike_22 : decode cX1_areAlike 22 = .ok (.istore 6, 2) := by decide +kernel
theorem dX1_areAlike_24 : decode cX1_areAlike 24 = .ok (.iload 6, 2) := by decide +kernel
theorem dX1_areAlike_26 : decode cX1_areAlike 26 = .ok (.iload_n 3, 1) := by decide +kernel
theorem dX1_areAlike_27 : decode cX1_areAlike 27 = .ok (.if_icmp .ge 58, 3) := by decide +kernel
theorem dX1_areAlike_30 : decode cX1_areAlike 30 = .ok (.aload_n 0, 1) := by decide +kernel
theorem dX1_areAlike_31 : decode cX1_areAlike 31 = .ok (.getfield 15, 3) := by decide +kernel
theorem dX1_areAlike_34 : decode cX1_areAlike 34 = .ok (.iload_n 2, 1) := by decide +kernel
theorem dX1_areAlike_35 : decode cX1_areAlike 35 = .ok (.iload 6, 2) := by decide +kernel
theorem dX1_areAlike_37 : decode cX1_areAlike 37 = .ok (.iadd, 1) := by decide +kernel
theorem dX1_areAlike_38 : decode cX1_areAlike 38 = .ok (.iaload, 1) := by decide +kernel
theorem dX1_areAlike_39 : decode cX1_areAlike 39 = .ok (.aload_n 0, 1) := by decide +kernel
theorem dX1_areAlike_40 : decode cX1_areAlike 40 = .ok (.getfield 15, 3) := by decide +kernel
theorem dX1_areAlike_43 : decode cX1_areAlike 43 = .ok (.iload_n 1, 1) := by decide +kernel
theorem dX1_areAlike_44 : decode cX1_areAlike 44 = .ok (.iload 6, 2) := by decide +kernel
theorem dX1_areAlike_46 : decode cX1_areAlike 46 = .ok (.iadd, 1) := by decide +kernel
theorem dX1_areAlike_47 : decode cX1_areAlike 47 = .ok (.iaload, 1) := by decide +kernel
theorem dX1_areAlike_48 : decode cX1_areAlike 48 = .ok (.isub, 1) := by decide +kernel
theorem dX1_areAlike_49 : decode cX1_areAlike 49 = .ok (.iload 5, 2) := by decide +kernel
theorem dX1_areAlike_51 : decode cX1_areAlike 51 = .ok (.if_icmp .ne 26, 3) := by decide +kernel
theorem dX1_areAlike_54 : decode cX1_areAlike 54 = .ok (.aload_n 0, 1) := by decide +kernel
theorem dX1_areAlike_55 : decode cX1_areAlike 55 = .ok (.iload_n 1, 1) := by decide +kernel
theorem dX1_areAlike_56 : decode cX1_areAlike 56 = .ok (.iload 6, 2) := by decide +kernel
theorem dX1_areAlike_58 : decode cX1_areAlike 58 = .ok (.iadd, 1) := by decide +kernel
theorem dX1_areAlike_59 : decode cX1_areAlike 59 = .ok (.iload 4, 2) := by decide +kernel
theorem dX1_areAlike_61 : decode cX1_areAlike 61 = .ok (.invokevirtual 119, 3) := by decide +kernel
theorem dX1_areAlike_64 : decode cX1_areAlike 64 = .ok (.aload_n 0, 1) := by decide +kernel
theorem dX1_areAlike_65 : decode cX1_areAlike 65 = .ok (.iload_n 2, 1) := by decide +kernel
theorem dX1_areAlike_66 : decode cX1_areAlike 66 = .ok (.iload 6, 2) := by decide +kernel
theorem dX1_areAlike_68 : decode cX1_areAlike 68 = .ok (.iadd, 1) := by decide +kernel
theorem dX1_areAlike_69 : decode cX1_areAlike 69 = .ok (.iload 4, 2) := by decide +kernel
theorem dX1_areAlike_71 : decode cX1_areAlike 71 = .ok (.invokevirtual 119, 3) := by decide +kernel
theorem dX1_areAlike_74 : decode cX1_areAlike 74 = .ok (.if_icmp .eq 5, 3) := by decide +kernel
theorem dX1_areAlike_77 : decode cX1_areAlike 77 = .ok (.iconst 0, 1) := by decide +kernel
theorem dX1_areAlike_78 : decode cX1_areAlike 78 = .ok (.ireturn, 1) := by decide +kernel
theorem dX1_areAlike_79 : decode cX1_areAlike 79 = .ok (.iinc 6 1, 3) := by decide +kernel
theorem dX1_areAlike_82 : decode cX1_areAlike 82 = .ok (.goto (-58), 3) := by decide +kernel
theorem dX1_areAlike_85 : decode cX1_areAlike 85 = .ok (.iconst 1, 1) := by decide +kernel
theorem dX1_areAlike_86 : decode cX1_areAlike 86 = .ok (.ireturn, 1) := by decide +kernel
set_option maxHeartbeats 4000000 in
set_option maxRecDepth 100000 in
theorem l_X1_areAlike_24 {p : Program} {l : Launch} {e : Env} {s : State} {m : MethodId} {args : Array Value} {below : List Frame} {meth : Method} {c : Code} {D : va_G} {cy : Nat → ClassId} {A : Nat → Prop} {Bd : Nat} {xa : Xa} {ad : Nat → Nat} {N : Nat} {sc : Nat → Int32} {ar : Nat → Nat → Int32} {tr : Nat → Nat → Int32} {ps : Nat → Int32} {pa : Nat → Nat → Int32} {v1 : Int32} {v2 : Int32} {v3 : Int32} {v4 : Int32} {v5 : Int32} {kx : Unit → Option (Int32)} {out : Int32} (C : CC p s m args meth c cX1_areAlike RX1 7 (some .boolean) D cy A true Bd xa) (hk : ∀ (uu : Unit), kx uu = some out → TT p l e { frames := 1, cells := 0, slots := 0, locals := 23 } s m args below meth c 7 D A true (some (.int out)) (lC cy ad sc ar tr ps pa) 85 [] [] (lC cy ad sc ar tr ps pa)) {n : Nat} {v6 : Int32} (hf : f_X1_areAlike_L24 N sc ar v1 v2 v3 v4 v5 kx n v6 = some out) : TT p l e { frames := 1, cells := 0, slots := 0, locals := 23 } s m args below meth c 7 D A true (some (.int out)) (lC cy ad sc ar tr ps pa) 24 [(0, .ref (ad 0)), (1, .int v1), (2, .int v2), (3, .int v3), (4, .int v4), (5, .int v5), (6, .int v6)] [] (lC cy ad sc ar tr ps pa) := by
  induction n generalizing v6 with
  | zero => cases hf
  | succ n ih =>
    rw [f_X1_areAlike_L24] at hf
    refine tt_iload (pc := 24) (k := 6) C dX1_areAlike_24 rfl ?_
    refine tt_iload_n (pc := 26) (k := 3) C dX1_areAlike_26 rfl rfl ?_
    refine tt_icmp_ge (pc := 27) (tgt := 85) C dX1_areAlike_27 (by decide) hf (fun hf => ?_) (fun hf => ?_)
    · exact tt_locs [] rfl (hk () hf)
    · refine tt_aload_n (pc := 30) (k := 0) C dX1_areAlike_30 rfl rfl ?_
      refine tt_get (pc := 31) (ws := (lC cy ad sc ar tr ps pa)) (ci := 1) (v := .ref (ad 1)) C fiX1 rfl 0 lC_obj 1 (by decide) q1_85 rfl dX1_areAlike_31 ?_
      refine tt_iload_n (pc := 34) (k := 2) C dX1_areAlike_34 rfl rfl ?_
      refine tt_iload (pc := 35) (k := 6) C dX1_areAlike_35 rfl ?_
      refine tt_iadd (pc := 37) C dX1_areAlike_37 ?_
      refine tt_iaload (pc := 38) (ws := (lC cy ad sc ar tr ps pa)) (n := 24) (f := (ar 1)) C 1 0 lC_get1 rfl hf dX1_areAlike_38 (fun hf => ?_)
      refine tt_aload_n (pc := 39) (k := 0) C dX1_areAlike_39 rfl rfl ?_
      refine tt_get (pc := 40) (ws := (lC cy ad sc ar tr ps pa)) (ci := 1) (v := .ref (ad 1)) C fiX1 rfl 0 lC_obj 1 (by decide) q1_85 rfl dX1_areAlike_40 ?_
      refine tt_iload_n (pc := 43) (k := 1) C dX1_areAlike_43 rfl rfl ?_
      refine tt_iload (pc := 44) (k := 6) C dX1_areAlike_44 rfl ?_
      refine tt_iadd (pc := 46) C dX1_areAlike_46 ?_
      refine tt_iaload (pc := 47) (ws := (lC cy ad sc ar tr ps pa)) (n := 24) (f := (ar 1)) C 1 0 lC_get1 rfl hf dX1_areAlike_47 (fun hf => ?_)
      refine tt_isub (pc := 48) C dX1_areAlike_48 ?_
      refine tt_iload (pc := 49) (k := 5) C dX1_areAlike_49 rfl ?_
      refine tt_icmp_ne (pc := 51) (tgt := 77) C dX1_areAlike_51 (by decide) hf (fun hf => ?_) (fun hf => ?_)
      · refine tt_iconst (pc := 77) (v := (0 : Int32)) C dX1_areAlike_77 (by decide) ?_
        obtain rfl := Option.some.inj hf
        exact tt_zreturn (pc := 78) C rfl rfl rfl rfl dX1_areAlike_78
      · refine tt_aload_n (pc := 54) (k := 0) C dX1_areAlike_54 rfl rfl ?_
        refine tt_iload_n (pc := 55) (k := 1) C dX1_areAlike_55 rfl rfl ?_
        refine tt_iload (pc := 56) (k := 6) C dX1_areAlike_56 rfl ?_
        refine tt_iadd (pc := 58) C dX1_areAlike_58 ?_
        refine tt_iload (pc := 59) (k := 4) C dX1_areAlike_59 rfl ?_
        obtain ⟨r2, hr2, hf⟩ := bind_some hf
        refine tt_callR (pc := 61) (ws := (lC cy ad sc ar tr ps pa)) (q0 := 0) (ci := 1) (rest := []) (st' := [.int r2]) C (k_X1_isBridged hr2) okX1_isBridged q3_75 rfl lC_obj (fun _ h => h) rfl rfl rfl (Nat.le_of_ble_eq_true rfl) ⟨Nat.le_of_ble_eq_true rfl, Nat.le_of_ble_eq_true rfl⟩ dX1_areAlike_61 ?_
        refine tt_aload_n (pc := 64) (k := 0) C dX1_areAlike_64 rfl rfl ?_
        refine tt_iload_n (pc := 65) (k := 2) C dX1_areAlike_65 rfl rfl ?_
        refine tt_iload (pc := 66) (k := 6) C dX1_areAlike_66 rfl ?_
        refine tt_iadd (pc := 68) C dX1_areAlike_68 ?_
        refine tt_iload (pc := 69) (k := 4) C dX1_areAlike_69 rfl ?_
        obtain ⟨r3, hr3, hf⟩ := bind_some hf
        refine tt_callR (pc := 71) (ws := (lC cy ad sc ar tr ps pa)) (q0 := 0) (ci := 1) (rest := [.int r2]) (st' := [.int r3, .int r2]) C (k_X1_isBridged hr3) okX1_isBridged q3_75 rfl lC_obj (fun _ h => h) rfl rfl rfl (Nat.le_of_ble_eq_true rfl) ⟨Nat.le_of_ble_eq_true rfl, Nat.le_of_ble_eq_true rfl⟩ dX1_areAlike_71 ?_
        refine tt_icmp_eq (pc := 74) (tgt := 79) C dX1_areAlike_74 (by decide) hf (fun hf => ?_) (fun hf => ?_)
        · refine tt_iinc (pc := 79) (k := 6) (v := (v6 + 1)) (L' := [(6, .int (v6 + 1)), (0, .ref (ad 0)), (1, .int v1), (2, .int v2), (3, .int v3), (4, .int v4), (5, .int v5)]) C dX1_areAlike_79 rfl rfl (by decide) rfl ?_
          refine tt_goto (pc := 82) (tgt := 24) C dX1_areAlike_82 (by decide) ?_
          exact tt_locs [1, 2, 3, 4, 5, 6, 0] rfl (ih hf)
        · refine tt_iconst (pc := 77) (v := (0 : Int32)) C dX1_areAlike_77 (by decide) ?_
          obtain rfl := Option.some.inj hf
          exact tt_zreturn (pc := 78) C rfl rfl rfl rfl dX1_areAlike_78
set_option maxHeartbeats 4000000 in
set_option maxRecDepth 100000 in
theorem k_X1_areAlike {l : Launch} {D : va_G} {cy : Nat → ClassId} {Bd : Nat} {xa : Xa} {ad : Nat → Nat} {N : Nat} {sc : Nat → Int32} {ar : Nat → Nat → Int32} {tr : Nat → Nat → Int32} {ps : Nat → Int32} {pa : Nat → Nat → Int32} {a1 : Int32} {a2 : Int32} {a3 : Int32} {out : Int32} (hf : f_X1_areAlike N sc ar a1 a2 a3 = some out) : KC l yX1_areAlike cX1_areAlike 7 (some .boolean) 1 23 true D cy Bd xa [.ref (ad 0), .int a1, .int a2, .int a3] (lC cy ad sc ar tr ps pa) (some (.int out)) (lC cy ad sc ar tr ps pa) := by
  refine kc_start (own := RX1) (by decide +kernel) rfl (Nat.le_of_ble_eq_true rfl) ?_
  intro p e s m args below meth c A C
  unfold f_X1_areAlike at hf
  refine tt_locs (L' := [(0, .ref (ad 0)), (1, .int a1), (2, .int a2), (3, .int a3)]) [0, 1, 2, 3] rfl ?_
  refine tt_aload_n (pc := 0) (k := 0) C dX1_areAlike_0 rfl rfl ?_
  obtain ⟨r1, hr1, hf⟩ := bind_some hf
  refine tt_callR (pc := 1) (ws := (lC cy ad sc ar tr ps pa)) (q0 := 0) (ci := 1) (rest := []) (st' := [.int r1]) C (k_X1_allBridges hr1) okX1_allBridges q3_154 rfl lC_obj (fun _ h => h) rfl rfl rfl (Nat.le_of_ble_eq_true rfl) ⟨Nat.le_of_ble_eq_true rfl, Nat.le_of_ble_eq_true rfl⟩ dX1_areAlike_1 ?_
  refine tt_istore (pc := 4) (L' := [(4, .int r1), (0, .ref (ad 0)), (1, .int a1), (2, .int a2), (3, .int a3)]) C dX1_areAlike_4 (by decide) rfl ?_
  refine tt_aload_n (pc := 6) (k := 1) C dX1_areAlike_6 rfl rfl ?_
  refine tt_get (pc := 7) (ws := (lC cy ad sc ar tr ps pa)) (ci := 1) (v := .ref (ad 1)) C fiX1 rfl 0 lC_obj 1 (by decide) q1_85 rfl dX1_areAlike_7 ?_
  refine tt_iload_n (pc := 10) (k := 3) C dX1_areAlike_10 rfl rfl ?_
  refine tt_iaload (pc := 11) (ws := (lC cy ad sc ar tr ps pa)) (n := 24) (f := (ar 1)) C 1 0 lC_get1 rfl hf dX1_areAlike_11 (fun hf => ?_)
  refine tt_aload_n (pc := 12) (k := 1) C dX1_areAlike_12 rfl rfl ?_
  refine tt_get (pc := 13) (ws := (lC cy ad sc ar tr ps pa)) (ci := 1) (v := .ref (ad 1)) C fiX1 rfl 0 lC_obj 1 (by decide) q1_85 rfl dX1_areAlike_13 ?_
  refine tt_iload_n (pc := 16) (k := 2) C dX1_areAlike_16 rfl rfl ?_
  refine tt_iaload (pc := 17) (ws := (lC cy ad sc ar tr ps pa)) (n := 24) (f := (ar 1)) C 1 0 lC_get1 rfl hf dX1_areAlike_17 (fun hf => ?_)
  refine tt_isub (pc := 18) C dX1_areAlike_18 ?_
  refine tt_istore (pc := 19) (L' := [(5, .int (((ar 1) (ix a2)) - ((ar 1) (ix a1)))), (4, .int r1), (0, .ref (ad 0)), (1, .int a1), (2, .int a2), (3, .int a3)]) C dX1_areAlike_19 (by decide) rfl ?_
  refine tt_iconst (pc := 21) (v := (0 : Int32)) C dX1_areAlike_21 (by decide) ?_
  refine tt_istore (pc := 22) (L' := [(6, .int (0 : Int32)), (5, .int (((ar 1) (ix a2)) - ((ar 1) (ix a1)))), (4, .int r1), (0, .ref (ad 0)), (1, .int a1), (2, .int a2), (3, .int a3)]) C dX1_areAlike_22 (by decide) rfl ?_
  refine tt_locs (L' := [(0, .ref (ad 0)), (1, .int a1), (2, .int a2), (3, .int a3), (4, .int r1), (5, .int (((ar 1) (ix a2)) - ((ar 1) (ix a1)))), (6, .int (0 : Int32))]) [3, 4, 5, 6, 2, 1, 0] rfl (l_X1_areAlike_24 C (fun _ hf => ?_) hf)
  refine tt_iconst (pc := 85) (v := (1 : Int32)) C dX1_areAlike_85 (by decide) ?_
  obtain rfl := Option.some.inj hf
  exact tt_zreturn (pc := 86) C rfl rfl rfl rfl dX1_areAlike_86
theorem dX1_isRepeated_0 : decode cX1_isRepeated 0 = .ok (.iload_n 2, 1) := by decide +kernel
theorem dX1_isRepeated_1 : decode cX1_isRepeated 1 = .ok (.istore 5, 2) := by decide +kernel
theorem dX1_isRepeated_3 : decode cX1_isRepeated 3 = .ok (.iload 5, 2) := by decide +kernel
theorem dX1_isRepeated_5 : decode cX1_isRepeated 5 = .ok (.iload_n 3, 1) := by decide +kernel
theorem dX1_isRepeated_6 : decode cX1_isRepeated 6 = .ok (.if_icmp .ge 23, 3) := by decide +kernel
theorem dX1_isRepeated_9 : decode cX1_isRepeated 9 = .ok (.aload_n 0, 1) := by decide +kernel
theorem dX1_isRepeated_10 : decode cX1_isRepeated 10 = .ok (.iload_n 1, 1) := by decide +kernel
theorem dX1_isRepeated_11 : decode cX1_isRepeated 11 = .ok (.iload 5, 2) := by decide +kernel
theorem dX1_isRepeated_13 : decode cX1_isRepeated 13 = .ok (.iload 4, 2) := by decide +kernel
theorem dX1_isRepeated_15 : decode cX1_isRepeated 15 = .ok (.invokevirtual 163, 3) := by decide +kernel
theorem dX1_isRepeated_18 : decode cX1_isRepeated 18 = .ok (.ifCond .eq 5, 3) := by decide +kernel
theorem dX1_isRepeated_21 : decode cX1_isRepeated 21 = .ok (.iconst 1, 1) := by decide +kernel
theorem dX1_isRepeated_22 : decode cX1_isRepeated 22 = .ok (.ireturn, 1) := by decide +kernel
theorem dX1_isRepeated_23 : decode cX1_isRepeated 23 = .ok (.iinc 5 1, 3) := by decide +kernel
theorem dX1_isRepeated_26 : decode cX1_isRepeated 26 = .ok (.goto (-23), 3) := by decide +kernel
theorem dX1_isRepeated_29 : decode cX1_isRepeated 29 = .ok (.iconst 0, 1) := by decide +kernel
theorem dX1_isRepeated_30 : decode cX1_isRepeated 30 = .ok (.ireturn, 1) := by decide +kernel
set_option maxHeartbeats 4000000 in
set_option maxRecDepth 100000 in
theorem l_X1_isRepeated_3 {p : Program} {l : Launch} {e : Env} {s : State} {m : MethodId} {args : Array Value} {below : List Frame} {meth : Method} {c : Code} {D : va_G} {cy : Nat → ClassId} {A : Nat → Prop} {Bd : Nat} {xa : Xa} {ad : Nat → Nat} {N : Nat} {sc : Nat → Int32} {ar : Nat → Nat → Int32} {tr : Nat → Nat → Int32} {ps : Nat → Int32} {pa : Nat → Nat → Int32} {v1 : Int32} {v3 : Int32} {v4 : Int32} {kx : Unit → Option (Int32)} {out : Int32} (C : CC p s m args meth c cX1_isRepeated RX1 6 (some .boolean) D cy A true Bd xa) (hk : ∀ (uu : Unit), kx uu = some out → TT p l e { frames := 2, cells := 0, slots := 0, locals := 49 } s m args below meth c 6 D A true (some (.int out)) (lC cy ad sc ar tr ps pa) 29 [] [] (lC cy ad sc ar tr ps pa)) {n : Nat} {v5 : Int32} (hf : f_X1_isRepeated_L3 N sc ar v1 v3 v4 kx n v5 = some out) : TT p l e { frames := 2, cells := 0, slots := 0, locals := 49 } s m args below meth c 6 D A true (some (.int out)) (lC cy ad sc ar tr ps pa) 3 [(0, .ref (ad 0)), (1, .int v1), (3, .int v3), (4, .int v4), (5, .int v5)] [] (lC cy ad sc ar tr ps pa) := by
  induction n generalizing v5 with
  | zero => cases hf
  | succ n ih =>
    rw [f_X1_isRepeated_L3] at hf
    refine tt_iload (pc := 3) (k := 4) C dX1_isRepeated_3 rfl ?_
    refine tt_iload_n (pc := 5) (k := 2) C dX1_isRepeated_5 rfl rfl ?_
    refine tt_icmp_ge (pc := 6) (tgt := 29) C dX1_isRepeated_6 (by decide) hf (fun hf => ?_) (fun hf => ?_)
    · exact tt_locs [] rfl (hk () hf)
    · refine tt_aload_n (pc := 9) (k := 0) C dX1_isRepeated_9 rfl rfl ?_
      refine tt_iload_n (pc := 10) (k := 1) C dX1_isRepeated_10 rfl rfl ?_
      refine tt_iload (pc := 11) (k := 4) C dX1_isRepeated_11 rfl ?_
      refine tt_iload (pc := 13) (k := 3) C dX1_isRepeated_13 rfl ?_
      obtain ⟨r1, hr1, hf⟩ := bind_some hf
      refine tt_callR (pc := 15) (ws := (lC cy ad sc ar tr ps pa)) (q0 := 0) (ci := 1) (rest := []) (st' := [.int r1]) C (k_X1_areAlike hr1) okX1_areAlike q4_2 rfl lC_obj (fun _ h => h) rfl rfl rfl (Nat.le_of_ble_eq_true rfl) ⟨Nat.le_of_ble_eq_true rfl, Nat.le_of_ble_eq_true rfl⟩ dX1_isRepeated_15 ?_
      refine tt_if_eq (pc := 18) (tgt := 23) C dX1_isRepeated_18 (by decide) hf (fun hf => ?_) (fun hf => ?_)
      · refine tt_iinc (pc := 23) (k := 4) (v := (v5 + 1)) (L' := [(5, .int (v5 + 1)), (0, .ref (ad 0)), (1, .int v1), (3, .int v3), (4, .int v4)]) C dX1_isRepeated_23 rfl rfl (by decide) rfl ?_
        refine tt_goto (pc := 26) (tgt := 3) C dX1_isRepeated_26 (by decide) ?_
        exact tt_locs [1, 2, 3, 4, 0] rfl (ih hf)
      · refine tt_iconst (pc := 21) (v := (1 : Int32)) C dX1_isRepeated_21 (by decide) ?_
        obtain rfl := Option.some.inj hf
        exact tt_zreturn (pc := 22) C rfl rfl rfl rfl dX1_isRepeated_22
set_option maxHeartbeats 4000000 in
set_option maxRecDepth 100000 in
theorem k_X1_isRepeated {l : Launch} {D : va_G} {cy : Nat → ClassId} {Bd : Nat} {xa : Xa} {ad : Nat → Nat} {N : Nat} {sc : Nat → Int32} {ar : Nat → Nat → Int32} {tr : Nat → Nat → Int32} {ps : Nat → Int32} {pa : Nat → Nat → Int32} {a1 : Int32} {a2 : Int32} {a3 : Int32} {a4 : Int32} {out : Int32} (hf : f_X1_isRepeated N sc ar a1 a2 a3 a4 = some out) : KC l yX1_isRepeated cX1_isRepeated 6 (some .boolean) 2 49 true D cy Bd xa [.ref (ad 0), .int a1, .int a2, .int a3, .int a4] (lC cy ad sc ar tr ps pa) (some (.int out)) (lC cy ad sc ar tr ps pa) := by
  refine kc_start (own := RX1) (by decide +kernel) rfl (Nat.le_of_ble_eq_true rfl) ?_
  intro p e s m args below meth c A C
  unfold f_X1_isRepeated at hf
  refine tt_locs (L' := [(0, .ref (ad 0)), (1, .int a1), (2, .int a2), (3, .int a3), (4, .int a4)]) [0, 1, 2, 3, 4] rfl ?_
  refine tt_iload_n (pc := 0) (k := 2) C dX1_isRepeated_0 rfl rfl ?_
  refine tt_istore (pc := 1) (L' := [(5, .int a2), (0, .ref (ad 0)), (1, .int a1), (2, .int a2), (3, .int a3), (4, .int a4)]) C dX1_isRepeated_1 (by decide) rfl ?_
  refine tt_locs (L' := [(0, .ref (ad 0)), (1, .int a1), (3, .int a3), (4, .int a4), (5, .int a2)]) [1, 2, 4, 5, 0] rfl (l_X1_isRepeated_3 C (fun _ hf => ?_) hf)
  refine tt_iconst (pc := 29) (v := (0 : Int32)) C dX1_isRepeated_29 (by decide) ?_
  obtain rfl := Option.some.inj hf
  exact tt_zreturn (pc := 30) C rfl rfl rfl rfl dX1_isRepeated_30
theorem dX1_unlikeStretches_0 : decode cX1_unlikeStretches 0 = .ok (.iconst 0, 1) := by decide +kernel
theorem dX1_unlikeStretches_1 : decode cX1_unlikeStretches 1 = .ok (.istore_n 2, 1) := by decide +kernel
theorem dX1_unlikeStretches_2 : decode cX1_unlikeStretches 2 = .ok (.iconst 0, 1) := by decide +kernel
theorem dX1_unlikeStretches_3 : decode cX1_unlikeStretches 3 = .ok (.istore_n 3, 1) := by decide +kernel
theorem dX1_unlikeStretches_4 : decode cX1_unlikeStretches 4 = .ok (.iload_n 3, 1) := by decide +kernel
theorem dX1_unlikeStretches_5 : decode cX1_unlikeStretches 5 = .ok (.iload_n 1, 1) := by decide +kernel
theorem dX1_unlikeStretches_6 : decode cX1_unlikeStretches 6 = .ok (.iadd, 1) := by decide +kernel
theorem dX1_unlikeStretches_7 : decode cX1_unlikeStretches 7 = .ok (.aload_n 0, 1) := by decide +kernel
theorem dX1_unlikeStretches_8 : decode cX1_unlikeStretches 8 = .ok (.getfield 9, 3) := by decide +kernel
theorem dX1_unlikeStretches_11 : decode cX1_unlikeStretches 11 = .ok (.if_icmp .gt 23, 3) := by decide +kernel
theorem dX1_unlikeStretches_14 : decode cX1_unlikeStretches 14 = .ok (.aload_n 0, 1) := by decide +kernel
theorem dX1_unlikeStretches_15 : decode cX1_unlikeStretches 15 = .ok (.iload_n 3, 1) := by decide +kernel
theorem dX1_unlikeStretches_16 : decode cX1_unlikeStretches 16 = .ok (.iconst 0, 1) := by decide +kernel
theorem dX1_unlikeStretches_17 : decode cX1_unlikeStretches 17 = .ok (.iload_n 3, 1) := by decide +kernel
theorem dX1_unlikeStretches_18 : decode cX1_unlikeStretches 18 = .ok (.iload_n 1, 1) := by decide +kernel
theorem dX1_unlikeStretches_19 : decode cX1_unlikeStretches 19 = .ok (.invokevirtual 159, 3) := by decide +kernel
theorem dX1_unlikeStretches_22 : decode cX1_unlikeStretches 22 = .ok (.ifCond .ne 6, 3) := by decide +kernel
theorem dX1_unlikeStretches_25 : decode cX1_unlikeStretches 25 = .ok (.iinc 2 1, 3) := by decide +kernel
theorem dX1_unlikeStretches_28 : decode cX1_unlikeStretches 28 = .ok (.iinc 3 1, 3) := by decide +kernel
theorem dX1_unlikeStretches_31 : decode cX1_unlikeStretches 31 = .ok (.goto (-27), 3) := by decide +kernel
theorem dX1_unlikeStretches_34 : decode cX1_unlikeStretches 34 = .ok (.iload_n 2, 1) := by decide +kernel
theorem dX1_unlikeStretches_35 : decode cX1_unlikeStretches 35 = .ok (.ireturn, 1) := by decide +kernel
set_option maxHeartbeats 4000000 in
set_option maxRecDepth 100000 in
theorem l_X1_unlikeStretches_4 {p : Program} {l : Launch} {e : Env} {s : State} {m : MethodId} {args : Array Value} {below : List Frame} {meth : Method} {c : Code} {D : va_G} {cy : Nat → ClassId} {A : Nat → Prop} {Bd : Nat} {xa : Xa} {ad : Nat → Nat} {β : Type} {vO : Option Value} {wO : va_W} {N : Nat} {sc : Nat → Int32} {ar : Nat → Nat → Int32} {tr : Nat → Nat → Int32} {ps : Nat → Int32} {pa : Nat → Nat → Int32} {v1 : Int32} {kx : Int32 → Option (β)} {out : β} (C : CC p s m args meth c cX1_unlikeStretches RX1 4 (some .int) D cy A true Bd xa) (hk : ∀ (x2 : Int32), kx x2 = some out → TT p l e { frames := 3, cells := 0, slots := 0, locals := 74 } s m args below meth c 4 D A true vO wO 34 [(2, .int x2)] [] (lC cy ad sc ar tr ps pa)) {n : Nat} {v2 : Int32} {v3 : Int32} (hf : f_X1_unlikeStretches_L4 N sc ar v1 kx n v2 v3 = some out) : TT p l e { frames := 3, cells := 0, slots := 0, locals := 74 } s m args below meth c 4 D A true vO wO 4 [(0, .ref (ad 0)), (1, .int v1), (2, .int v2), (3, .int v3)] [] (lC cy ad sc ar tr ps pa) := by
  induction n generalizing v2 v3 with
  | zero => cases hf
  | succ n ih =>
    rw [f_X1_unlikeStretches_L4] at hf
    refine tt_iload_n (pc := 4) (k := 3) C dX1_unlikeStretches_4 rfl rfl ?_
    refine tt_iload_n (pc := 5) (k := 1) C dX1_unlikeStretches_5 rfl rfl ?_
    refine tt_iadd (pc := 6) C dX1_unlikeStretches_6 ?_
    refine tt_aload_n (pc := 7) (k := 0) C dX1_unlikeStretches_7 rfl rfl ?_
    refine tt_get (pc := 8) (ws := (lC cy ad sc ar tr ps pa)) (ci := 1) (v := .int (sc 0)) C fiX1 rfl 0 lC_obj 0 (by decide) q1_82 rfl dX1_unlikeStretches_8 ?_
    refine tt_icmp_gt (pc := 11) (tgt := 34) C dX1_unlikeStretches_11 (by decide) hf (fun hf => ?_) (fun hf => ?_)
    · exact tt_locs [2] rfl (hk _ hf)
    · refine tt_aload_n (pc := 14) (k := 0) C dX1_unlikeStretches_14 rfl rfl ?_
      refine tt_iload_n (pc := 15) (k := 3) C dX1_unlikeStretches_15 rfl rfl ?_
      refine tt_iconst (pc := 16) (v := (0 : Int32)) C dX1_unlikeStretches_16 (by decide) ?_
      refine tt_iload_n (pc := 17) (k := 3) C dX1_unlikeStretches_17 rfl rfl ?_
      refine tt_iload_n (pc := 18) (k := 1) C dX1_unlikeStretches_18 rfl rfl ?_
      obtain ⟨r1, hr1, hf⟩ := bind_some hf
      refine tt_callR (pc := 19) (ws := (lC cy ad sc ar tr ps pa)) (q0 := 0) (ci := 1) (rest := []) (st' := [.int r1]) C (k_X1_isRepeated hr1) okX1_isRepeated q3_238 rfl lC_obj (fun _ h => h) rfl rfl rfl (Nat.le_of_ble_eq_true rfl) ⟨Nat.le_of_ble_eq_true rfl, Nat.le_of_ble_eq_true rfl⟩ dX1_unlikeStretches_19 ?_
      have k3 : TT p l e { frames := 3, cells := 0, slots := 0, locals := 74 } s m args below meth c 4 D A true vO wO 28 [(0, .ref (ad 0)), (1, .int v1), (2, .int (if r1 = 0 then (v2 + 1) else v2)), (3, .int v3)] [] (lC cy ad sc ar tr ps pa) := by
        refine tt_iinc (pc := 28) (k := 3) (v := (v3 + 1)) (L' := [(3, .int (v3 + 1)), (0, .ref (ad 0)), (1, .int v1), (2, .int (if r1 = 0 then (v2 + 1) else v2))]) C dX1_unlikeStretches_28 rfl rfl (by decide) rfl ?_
        refine tt_goto (pc := 31) (tgt := 4) C dX1_unlikeStretches_31 (by decide) ?_
        exact tt_locs [1, 2, 3, 0] rfl (ih hf)
      refine tr_if_ne (pc := 22) (tgt := 28) C dX1_unlikeStretches_22 (by decide) (fun c2 => ?_) (fun c2 => ?_)
      · try simp only [if_neg c2] at k3 ⊢
        exact tt_locs [0, 1, 2, 3] rfl k3
      · refine tt_iinc (pc := 25) (k := 2) (v := (v2 + 1)) (L' := [(2, .int (v2 + 1)), (0, .ref (ad 0)), (1, .int v1), (3, .int v3)]) C dX1_unlikeStretches_25 rfl rfl (by decide) rfl ?_
        try simp only [if_pos c2] at k3 ⊢
        exact tt_locs [1, 2, 0, 3] rfl k3
set_option maxHeartbeats 4000000 in
set_option maxRecDepth 100000 in
theorem k_X1_unlikeStretches {l : Launch} {D : va_G} {cy : Nat → ClassId} {Bd : Nat} {xa : Xa} {ad : Nat → Nat} {N : Nat} {sc : Nat → Int32} {ar : Nat → Nat → Int32} {tr : Nat → Nat → Int32} {ps : Nat → Int32} {pa : Nat → Nat → Int32} {a1 : Int32} {out : Int32} (hf : f_X1_unlikeStretches N sc ar a1 = some out) : KC l yX1_unlikeStretches cX1_unlikeStretches 4 (some .int) 3 74 true D cy Bd xa [.ref (ad 0), .int a1] (lC cy ad sc ar tr ps pa) (some (.int out)) (lC cy ad sc ar tr ps pa) := by
  refine kc_start (own := RX1) (by decide +kernel) rfl (Nat.le_of_ble_eq_true rfl) ?_
  intro p e s m args below meth c A C
  unfold f_X1_unlikeStretches at hf
  refine tt_locs (L' := [(0, .ref (ad 0)), (1, .int a1)]) [0, 1] rfl ?_
  refine tt_iconst (pc := 0) (v := (0 : Int32)) C dX1_unlikeStretches_0 (by decide) ?_
  refine tt_istore_n (pc := 1) (L' := [(2, .int (0 : Int32)), (0, .ref (ad 0)), (1, .int a1)]) C dX1_unlikeStretches_1 rfl (by decide) rfl ?_
  refine tt_iconst (pc := 2) (v := (0 : Int32)) C dX1_unlikeStretches_2 (by decide) ?_
  refine tt_istore_n (pc := 3) (L' := [(3, .int (0 : Int32)), (2, .int (0 : Int32)), (0, .ref (ad 0)), (1, .int a1)]) C dX1_unlikeStretches_3 rfl (by decide) rfl ?_
  refine tt_locs (L' := [(0, .ref (ad 0)), (1, .int a1), (2, .int (0 : Int32)), (3, .int (0 : Int32))]) [2, 3, 1, 0] rfl (l_X1_unlikeStretches_4 C (fun x2_4 hf => ?_) hf)
  refine tt_iload_n (pc := 34) (k := 0) C dX1_unlikeStretches_34 rfl rfl ?_
  obtain rfl := Option.some.inj hf
  exact tt_ireturn (pc := 35) C rfl rfl rfl dX1_unlikeStretches_35
theorem dX1_firstRepeated_0 : decode cX1_firstRepeated 0 = .ok (.iconst 0, 1) := by decide +kernel
theorem dX1_firstRepeated_1 : decode cX1_firstRepeated 1 = .ok (.istore_n 2, 1) := by decide +kernel
theorem dX1_firstRepeated_2 : decode cX1_firstRepeated 2 = .ok (.iload_n 2, 1) := by decide +kernel
theorem dX1_firstRepeated_3 : decode cX1_firstRepeated 3 = .ok (.iload_n 1, 1) := by decide +kernel
theorem dX1_firstRepeated_4 : decode cX1_firstRepeated 4 = .ok (.iadd, 1) := by decide +kernel
theorem dX1_firstRepeated_5 : decode cX1_firstRepeated 5 = .ok (.aload_n 0, 1) := by decide +kernel
theorem dX1_firstRepeated_6 : decode cX1_firstRepeated 6 = .ok (.getfield 9, 3) := by decide +kernel
theorem dX1_firstRepeated_9 : decode cX1_firstRepeated 9 = .ok (.if_icmp .gt 31, 3) := by decide +kernel
theorem dX1_firstRepeated_12 : decode cX1_firstRepeated 12 = .ok (.aload_n 0, 1) := by decide +kernel
theorem dX1_firstRepeated_13 : decode cX1_firstRepeated 13 = .ok (.iload_n 2, 1) := by decide +kernel
theorem dX1_firstRepeated_14 : decode cX1_firstRepeated 14 = .ok (.iload_n 2, 1) := by decide +kernel
theorem dX1_firstRepeated_15 : decode cX1_firstRepeated 15 = .ok (.iconst 1, 1) := by decide +kernel
theorem dX1_firstRepeated_16 : decode cX1_firstRepeated 16 = .ok (.iadd, 1) := by decide +kernel
theorem dX1_firstRepeated_17 : decode cX1_firstRepeated 17 = .ok (.aload_n 0, 1) := by decide +kernel
theorem dX1_firstRepeated_18 : decode cX1_firstRepeated 18 = .ok (.getfield 9, 3) := by decide +kernel
theorem dX1_firstRepeated_21 : decode cX1_firstRepeated 21 = .ok (.iload_n 1, 1) := by decide +kernel
theorem dX1_firstRepeated_22 : decode cX1_firstRepeated 22 = .ok (.isub, 1) := by decide +kernel
theorem dX1_firstRepeated_23 : decode cX1_firstRepeated 23 = .ok (.iconst 1, 1) := by decide +kernel
theorem dX1_firstRepeated_24 : decode cX1_firstRepeated 24 = .ok (.iadd, 1) := by decide +kernel
theorem dX1_firstRepeated_25 : decode cX1_firstRepeated 25 = .ok (.iload_n 1, 1) := by decide +kernel
theorem dX1_firstRepeated_26 : decode cX1_firstRepeated 26 = .ok (.invokevirtual 159, 3) := by decide +kernel
theorem dX1_firstRepeated_29 : decode cX1_firstRepeated 29 = .ok (.ifCond .eq 5, 3) := by decide +kernel
theorem dX1_firstRepeated_32 : decode cX1_firstRepeated 32 = .ok (.iload_n 2, 1) := by decide +kernel
theorem dX1_firstRepeated_33 : decode cX1_firstRepeated 33 = .ok (.ireturn, 1) := by decide +kernel
theorem dX1_firstRepeated_34 : decode cX1_firstRepeated 34 = .ok (.iinc 2 1, 3) := by decide +kernel
theorem dX1_firstRepeated_37 : decode cX1_firstRepeated 37 = .ok (.goto (-35), 3) := by decide +kernel
theorem dX1_firstRepeated_40 : decode cX1_firstRepeated 40 = .ok (.bipush (-9), 2) := by decide +kernel
theorem dX1_firstRepeated_42 : decode cX1_firstRepeated 42 = .ok (.ireturn, 1) := by decide +kernel
set_option maxHeartbeats 4000000 in
set_option maxRecDepth 100000 in
theorem l_X1_firstRepeated_2 {p : Program} {l : Launch} {e : Env} {s : State} {m : MethodId} {args : Array Value} {below : List Frame} {meth : Method} {c : Code} {D : va_G} {cy : Nat → ClassId} {A : Nat → Prop} {Bd : Nat} {xa : Xa} {ad : Nat → Nat} {N : Nat} {sc : Nat → Int32} {ar : Nat → Nat → Int32} {tr : Nat → Nat → Int32} {ps : Nat → Int32} {pa : Nat → Nat → Int32} {v1 : Int32} {kx : Unit → Option (Int32)} {out : Int32} (C : CC p s m args meth c cX1_firstRepeated RX1 3 (some .int) D cy A true Bd xa) (hk : ∀ (uu : Unit), kx uu = some out → TT p l e { frames := 3, cells := 0, slots := 0, locals := 74 } s m args below meth c 3 D A true (some (.int out)) (lC cy ad sc ar tr ps pa) 40 [] [] (lC cy ad sc ar tr ps pa)) {n : Nat} {v2 : Int32} (hf : f_X1_firstRepeated_L2 N sc ar v1 kx n v2 = some out) : TT p l e { frames := 3, cells := 0, slots := 0, locals := 74 } s m args below meth c 3 D A true (some (.int out)) (lC cy ad sc ar tr ps pa) 2 [(0, .ref (ad 0)), (1, .int v1), (2, .int v2)] [] (lC cy ad sc ar tr ps pa) := by
  induction n generalizing v2 with
  | zero => cases hf
  | succ n ih =>
    rw [f_X1_firstRepeated_L2] at hf
    refine tt_iload_n (pc := 2) (k := 2) C dX1_firstRepeated_2 rfl rfl ?_
    refine tt_iload_n (pc := 3) (k := 1) C dX1_firstRepeated_3 rfl rfl ?_
    refine tt_iadd (pc := 4) C dX1_firstRepeated_4 ?_
    refine tt_aload_n (pc := 5) (k := 0) C dX1_firstRepeated_5 rfl rfl ?_
    refine tt_get (pc := 6) (ws := (lC cy ad sc ar tr ps pa)) (ci := 1) (v := .int (sc 0)) C fiX1 rfl 0 lC_obj 0 (by decide) q1_82 rfl dX1_firstRepeated_6 ?_
    refine tt_icmp_gt (pc := 9) (tgt := 40) C dX1_firstRepeated_9 (by decide) hf (fun hf => ?_) (fun hf => ?_)
    · exact tt_locs [] rfl (hk () hf)
    · refine tt_aload_n (pc := 12) (k := 0) C dX1_firstRepeated_12 rfl rfl ?_
      refine tt_iload_n (pc := 13) (k := 2) C dX1_firstRepeated_13 rfl rfl ?_
      refine tt_iload_n (pc := 14) (k := 2) C dX1_firstRepeated_14 rfl rfl ?_
      refine tt_iconst (pc := 15) (v := (1 : Int32)) C dX1_firstRepeated_15 (by decide) ?_
      refine tt_iadd (pc := 16) C dX1_firstRepeated_16 ?_
      refine tt_aload_n (pc := 17) (k := 0) C dX1_firstRepeated_17 rfl rfl ?_
      refine tt_get (pc := 18) (ws := (lC cy ad sc ar tr ps pa)) (ci := 1) (v := .int (sc 0)) C fiX1 rfl 0 lC_obj 0 (by decide) q1_82 rfl dX1_firstRepeated_18 ?_
      refine tt_iload_n (pc := 21) (k := 1) C dX1_firstRepeated_21 rfl rfl ?_
      refine tt_isub (pc := 22) C dX1_firstRepeated_22 ?_
      refine tt_iconst (pc := 23) (v := (1 : Int32)) C dX1_firstRepeated_23 (by decide) ?_
      refine tt_iadd (pc := 24) C dX1_firstRepeated_24 ?_
      refine tt_iload_n (pc := 25) (k := 1) C dX1_firstRepeated_25 rfl rfl ?_
      obtain ⟨r1, hr1, hf⟩ := bind_some hf
      refine tt_callR (pc := 26) (ws := (lC cy ad sc ar tr ps pa)) (q0 := 0) (ci := 1) (rest := []) (st' := [.int r1]) C (k_X1_isRepeated hr1) okX1_isRepeated q3_238 rfl lC_obj (fun _ h => h) rfl rfl rfl (Nat.le_of_ble_eq_true rfl) ⟨Nat.le_of_ble_eq_true rfl, Nat.le_of_ble_eq_true rfl⟩ dX1_firstRepeated_26 ?_
      refine tt_if_eq (pc := 29) (tgt := 34) C dX1_firstRepeated_29 (by decide) hf (fun hf => ?_) (fun hf => ?_)
      · refine tt_iinc (pc := 34) (k := 2) (v := (v2 + 1)) (L' := [(2, .int (v2 + 1)), (0, .ref (ad 0)), (1, .int v1)]) C dX1_firstRepeated_34 rfl rfl (by decide) rfl ?_
        refine tt_goto (pc := 37) (tgt := 2) C dX1_firstRepeated_37 (by decide) ?_
        exact tt_locs [1, 2, 0] rfl (ih hf)
      · refine tt_iload_n (pc := 32) (k := 2) C dX1_firstRepeated_32 rfl rfl ?_
        obtain rfl := Option.some.inj hf
        exact tt_ireturn (pc := 33) C rfl rfl rfl dX1_firstRepeated_33
set_option maxHeartbeats 4000000 in
set_option maxRecDepth 100000 in
theorem k_X1_firstRepeated {l : Launch} {D : va_G} {cy : Nat → ClassId} {Bd : Nat} {xa : Xa} {ad : Nat → Nat} {N : Nat} {sc : Nat → Int32} {ar : Nat → Nat → Int32} {tr : Nat → Nat → Int32} {ps : Nat → Int32} {pa : Nat → Nat → Int32} {a1 : Int32} {out : Int32} (hf : f_X1_firstRepeated N sc ar a1 = some out) : KC l yX1_firstRepeated cX1_firstRepeated 3 (some .int) 3 74 true D cy Bd xa [.ref (ad 0), .int a1] (lC cy ad sc ar tr ps pa) (some (.int out)) (lC cy ad sc ar tr ps pa) := by
  refine kc_start (own := RX1) (by decide +kernel) rfl (Nat.le_of_ble_eq_true rfl) ?_
  intro p e s m args below meth c A C
  unfold f_X1_firstRepeated at hf
  refine tt_locs (L' := [(0, .ref (ad 0)), (1, .int a1)]) [0, 1] rfl ?_
  refine tt_iconst (pc := 0) (v := (0 : Int32)) C dX1_firstRepeated_0 (by decide) ?_
  refine tt_istore_n (pc := 1) (L' := [(2, .int (0 : Int32)), (0, .ref (ad 0)), (1, .int a1)]) C dX1_firstRepeated_1 rfl (by decide) rfl ?_
  refine tt_locs (L' := [(0, .ref (ad 0)), (1, .int a1), (2, .int (0 : Int32))]) [1, 2, 0] rfl (l_X1_firstRepeated_2 C (fun _ hf => ?_) hf)
  refine tt_bipush (pc := 40) (v := (-9 : Int32)) C dX1_firstRepeated_40 (by decide) ?_
  obtain rfl := Option.some.inj hf
  exact tt_ireturn (pc := 42) C rfl rfl rfl dX1_firstRepeated_42
theorem dX6_alike_0 : decode cX6_alike 0 = .ok (.iload_n 1, 1) := by decide +kernel
theorem dX6_alike_1 : decode cX6_alike 1 = .ok (.iconst 1, 1) := by decide +kernel
theorem dX6_alike_2 : decode cX6_alike 2 = .ok (.if_icmp .ge 10, 3) := by decide +kernel
theorem dX6_alike_5 : decode cX6_alike 5 = .ok (.aload_n 0, 1) := by decide +kernel
theorem dX6_alike_6 : decode cX6_alike 6 = .ok (.bipush (-4), 2) := by decide +kernel
theorem dX6_alike_8 : decode cX6_alike 8 = .ok (.invokevirtual 87, 3) := by decide +kernel
theorem dX6_alike_11 : decode cX6_alike 11 = .ok (.ireturn, 1) := by decide +kernel
theorem dX6_alike_12 : decode cX6_alike 12 = .ok (.iload_n 1, 1) := by decide +kernel
theorem dX6_alike_13 : decode cX6_alike 13 = .ok (.bipush 8, 2) := by decide +kernel
theorem dX6_alike_15 : decode cX6_alike 15 = .ok (.if_icmp .gt 14, 3) := by decide +kernel
theorem dX6_alike_18 : decode cX6_alike 18 = .ok (.iload_n 1, 1) := by decide +kernel
theorem dX6_alike_19 : decode cX6_alike 19 = .ok (.aload_n 0, 1) := by decide +kernel
theorem dX6_alike_20 : decode cX6_alike 20 = .ok (.getfield 10, 3) := by decide +kernel
theorem dX6_alike_23 : decode cX6_alike 23 = .ok (.getfield 230, 3) := by decide +kernel
theorem dX6_alike_26 : decode cX6_alike 26 = .ok (.if_icmp .le 10, 3) := by decide +kernel
theorem dX6_alike_29 : decode cX6_alike 29 = .ok (.aload_n 0, 1) := by decide +kernel
theorem dX6_alike_30 : decode cX6_alike 30 = .ok (.bipush (-6), 2) := by decide +kernel
theorem dX6_alike_32 : decode cX6_alike 32 = .ok (.invokevirtual 87, 3) := by decide +kernel
theorem dX6_alike_35 : decode cX6_alike 35 = .ok (.ireturn, 1) := by decide +kernel
theorem dX6_alike_36 : decode cX6_alike 36 = .ok (.iload_n 2, 1) := by decide +kernel
theorem dX6_alike_37 : decode cX6_alike 37 = .ok (.lookupswitch 45 #[(0, 27), (1, 36)], 27) := by decide +kernel
theorem dX6_alike_64 : decode cX6_alike 64 = .ok (.aload_n 0, 1) := by decide +kernel
theorem dX6_alike_65 : decode cX6_alike 65 = .ok (.getfield 10, 3) := by decide +kernel
theorem dX6_alike_68 : decode cX6_alike 68 = .ok (.iload_n 1, 1) := by decide +kernel
theorem dX6_alike_69 : decode cX6_alike 69 = .ok (.invokevirtual 233, 3) := by decide +kernel
theorem dX6_alike_72 : decode cX6_alike 72 = .ok (.ireturn, 1) := by decide +kernel
theorem dX6_alike_73 : decode cX6_alike 73 = .ok (.aload_n 0, 1) := by decide +kernel
theorem dX6_alike_74 : decode cX6_alike 74 = .ok (.getfield 10, 3) := by decide +kernel
theorem dX6_alike_77 : decode cX6_alike 77 = .ok (.iload_n 1, 1) := by decide +kernel
theorem dX6_alike_78 : decode cX6_alike 78 = .ok (.invokevirtual 236, 3) := by decide +kernel
theorem dX6_alike_81 : decode cX6_alike 81 = .ok (.ireturn, 1) := by decide +kernel
theorem dX6_alike_82 : decode cX6_alike 82 = .ok (.aload_n 0, 1) := by decide +kernel
theorem dX6_alike_83 : decode cX6_alike 83 = .ok (.bipush (-2), 2) := by decide +kernel
theorem dX6_alike_85 : decode cX6_alike 85 = .ok (.invokevirtual 87, 3) := by decide +kernel
theorem dX6_alike_88 : decode cX6_alike 88 = .ok (.ireturn, 1) := by decide +kernel
set_option maxHeartbeats 4000000 in
set_option maxRecDepth 100000 in
theorem k_X6_alike {l : Launch} {D : va_G} {cy : Nat → ClassId} {Bd : Nat} {xa : Xa} {xd : Nat → Nat → Nat} {N : Nat} {sX : Nat → Int32} {aX : Nat → Nat → Int32} {uG : Nat → Int32} {es : Nat → Int32} {ea : Nat → Nat → Int32} {sT : Nat → Int32} {aT : Nat → Nat → Int32} {tT : Nat → Nat → Int32} {pT : Nat → Int32} {qT : Nat → Nat → Int32} {ma : Nat → Nat → Int32} {sL : Nat → Int32} {aL : Nat → Nat → Int32} {tL : Nat → Nat → Int32} {pL : Nat → Int32} {qL : Nat → Nat → Int32} {sK : Nat → Int32} {aK : Nat → Nat → Int32} {tK : Nat → Nat → Int32} {pK : Nat → Int32} {qK : Nat → Nat → Int32} {sH : Nat → Nat → Int32} {rH : Nat → Nat → Int64} {uH : Nat → Nat → Int32} {a1 : Int32} {a2 : Int32} {out : Int32 × (Nat → Nat → Int32)} (hf : f_X6_alike N aX sL aL a1 a2 = some out) : KC l yX6_alike cX6_alike 3 (some .int) 4 97 false D cy Bd xa [.ref (xd 0 0), .int a1, .int a2] (xC cy xd sX aX uG es ea sT aT tT pT qT ma sL aL tL pL qL sK aK tK pK qK sH rH uH) (some (.int out.1)) (xC cy xd sX out.2 uG es ea sT aT tT pT qT ma sL aL tL pL qL sK aK tK pK qK sH rH uH) := by
  refine kc_start (own := RX6) (by decide +kernel) rfl (Nat.le_of_ble_eq_true rfl) ?_
  intro p e s m args below meth c A C
  unfold f_X6_alike at hf
  refine tt_locs (L' := [(0, .ref (xd 0 0)), (1, .int a1), (2, .int a2)]) [0, 1, 2] rfl ?_
  refine tt_iload_n (pc := 0) (k := 1) C dX6_alike_0 rfl rfl ?_
  refine tt_iconst (pc := 1) (v := (1 : Int32)) C dX6_alike_1 (by decide) ?_
  refine tt_icmp_ge (pc := 2) (tgt := 12) C dX6_alike_2 (by decide) hf (fun hf => ?_) (fun hf => ?_)
  · refine tt_iload_n (pc := 12) (k := 1) C dX6_alike_12 rfl rfl ?_
    refine tt_bipush (pc := 13) (v := (8 : Int32)) C dX6_alike_13 (by decide) ?_
    refine tt_icmp_gt (pc := 15) (tgt := 29) C dX6_alike_15 (by decide) hf (fun hf => ?_) (fun hf => ?_)
    · refine tt_aload_n (pc := 29) (k := 0) C dX6_alike_29 rfl rfl ?_
      refine tt_bipush (pc := 30) (v := (-6 : Int32)) C dX6_alike_30 (by decide) ?_
      obtain ⟨r1, hr1, hf⟩ := bind_some hf
      refine tt_callM (pc := 32) (ws := (xC cy xd sX aX uG es ea sT aT tT pT qT ma sL aL tL pL qL sK aK tK pK qK sH rH uH)) (q0 := 0) (ci := 6) (rest := []) (st' := [.int r1.1]) C rfl (k_X6_refused hr1) okX6_refused q2_19 rfl xC_obj rfl rfl rfl (Nat.le_of_ble_eq_true rfl) ⟨Nat.le_of_ble_eq_true rfl, Nat.le_of_ble_eq_true rfl⟩ dX6_alike_32 ?_
      obtain rfl := Option.some.inj hf
      exact tt_ireturn (pc := 35) C rfl rfl rfl dX6_alike_35
    · refine tt_iload_n (pc := 18) (k := 1) C dX6_alike_18 rfl rfl ?_
      refine tt_aload_n (pc := 19) (k := 0) C dX6_alike_19 rfl rfl ?_
      refine tt_get (pc := 20) (ws := (xC cy xd sX aX uG es ea sT aT tT pT qT ma sL aL tL pL qL sK aK tK pK qK sH rH uH)) (ci := 6) (v := .ref ((xd 1) 0)) C fiX6 rfl 0 xC_obj 0 (by decide) q1_219 rfl dX6_alike_20 ?_
      refine tt_get (pc := 23) (ws := (xC cy xd sX aX uG es ea sT aT tT pT qT ma sL aL tL pL qL sK aK tK pK qK sH rH uH)) (ci := 1) (v := .int (sL 0)) C fiX1 rfl 28 rfl 0 (by decide) q1_84 rfl dX6_alike_23 ?_
      refine tt_icmp_le (pc := 26) (tgt := 36) C dX6_alike_26 (by decide) hf (fun hf => ?_) (fun hf => ?_)
      · refine tt_iload_n (pc := 36) (k := 2) C dX6_alike_36 rfl rfl ?_
        refine sw_eq (x := a2) (k := 0) hf (fun hx hf => ?_) (fun n0 hf => ?_)
        · rw [hx]
          refine tt_lookup (pc := 37) (tgt := 64) (x := 0) (off := 27) C dX6_alike_37 (by decide) rfl (by decide) ?_
          refine tt_aload_n (pc := 64) (k := 0) C dX6_alike_64 rfl rfl ?_
          refine tt_get (pc := 65) (ws := (xC cy xd sX aX uG es ea sT aT tT pT qT ma sL aL tL pL qL sK aK tK pK qK sH rH uH)) (ci := 6) (v := .ref ((xd 1) 0)) C fiX6 rfl 0 xC_obj 0 (by decide) q1_219 rfl dX6_alike_65 ?_
          refine tt_iload_n (pc := 68) (k := 1) C dX6_alike_68 rfl rfl ?_
          obtain ⟨r3, hr3, hf⟩ := bind_some hf
          refine tt_callR (pc := 69) (ws := (xC cy xd sX aX uG es ea sT aT tT pT qT ma sL aL tL pL qL sK aK tK pK qK sH rH uH)) (q0 := 28) (ci := 1) (rest := []) (st' := [.int r3]) C (k_X1_unlikeStretches hr3) okX1_unlikeStretches q3_234 rfl rfl xC_subL rfl rfl rfl (Nat.le_of_ble_eq_true rfl) ⟨Nat.le_of_ble_eq_true rfl, Nat.le_of_ble_eq_true rfl⟩ dX6_alike_69 ?_
          obtain rfl := Option.some.inj hf
          exact tt_ireturn (pc := 72) C rfl rfl rfl dX6_alike_72
        · refine sw_eq (x := a2) (k := 1) hf (fun hx hf => ?_) (fun n1 hf => ?_)
          · rw [hx]
            refine tt_lookup (pc := 37) (tgt := 73) (x := 1) (off := 36) C dX6_alike_37 (by decide) rfl (by decide) ?_
            refine tt_aload_n (pc := 73) (k := 0) C dX6_alike_73 rfl rfl ?_
            refine tt_get (pc := 74) (ws := (xC cy xd sX aX uG es ea sT aT tT pT qT ma sL aL tL pL qL sK aK tK pK qK sH rH uH)) (ci := 6) (v := .ref ((xd 1) 0)) C fiX6 rfl 0 xC_obj 0 (by decide) q1_219 rfl dX6_alike_74 ?_
            refine tt_iload_n (pc := 77) (k := 1) C dX6_alike_77 rfl rfl ?_
            obtain ⟨r4, hr4, hf⟩ := bind_some hf
            refine tt_callR (pc := 78) (ws := (xC cy xd sX aX uG es ea sT aT tT pT qT ma sL aL tL pL qL sK aK tK pK qK sH rH uH)) (q0 := 28) (ci := 1) (rest := []) (st' := [.int r4]) C (k_X1_firstRepeated hr4) okX1_firstRepeated q4_6 rfl rfl xC_subL rfl rfl rfl (Nat.le_of_ble_eq_true rfl) ⟨Nat.le_of_ble_eq_true rfl, Nat.le_of_ble_eq_true rfl⟩ dX6_alike_78 ?_
            obtain rfl := Option.some.inj hf
            exact tt_ireturn (pc := 81) C rfl rfl rfl dX6_alike_81
          · have g0 := sw_ne n0 (z := 0) (by decide)
            have g1 := sw_ne n1 (z := 1) (by decide)
            refine tt_lookup (pc := 37) (tgt := 82) (off := 45) C dX6_alike_37 (by decide) (by simp [Op.lookupswitch.offset, g0, g0.symm, g1, g1.symm]) (by decide) ?_
            refine tt_aload_n (pc := 82) (k := 0) C dX6_alike_82 rfl rfl ?_
            refine tt_bipush (pc := 83) (v := (-2 : Int32)) C dX6_alike_83 (by decide) ?_
            obtain ⟨r5, hr5, hf⟩ := bind_some hf
            refine tt_callM (pc := 85) (ws := (xC cy xd sX aX uG es ea sT aT tT pT qT ma sL aL tL pL qL sK aK tK pK qK sH rH uH)) (q0 := 0) (ci := 6) (rest := []) (st' := [.int r5.1]) C rfl (k_X6_refused hr5) okX6_refused q2_19 rfl xC_obj rfl rfl rfl (Nat.le_of_ble_eq_true rfl) ⟨Nat.le_of_ble_eq_true rfl, Nat.le_of_ble_eq_true rfl⟩ dX6_alike_85 ?_
            obtain rfl := Option.some.inj hf
            exact tt_ireturn (pc := 88) C rfl rfl rfl dX6_alike_88
      · refine tt_aload_n (pc := 29) (k := 0) C dX6_alike_29 rfl rfl ?_
        refine tt_bipush (pc := 30) (v := (-6 : Int32)) C dX6_alike_30 (by decide) ?_
        obtain ⟨r6, hr6, hf⟩ := bind_some hf
        refine tt_callM (pc := 32) (ws := (xC cy xd sX aX uG es ea sT aT tT pT qT ma sL aL tL pL qL sK aK tK pK qK sH rH uH)) (q0 := 0) (ci := 6) (rest := []) (st' := [.int r6.1]) C rfl (k_X6_refused hr6) okX6_refused q2_19 rfl xC_obj rfl rfl rfl (Nat.le_of_ble_eq_true rfl) ⟨Nat.le_of_ble_eq_true rfl, Nat.le_of_ble_eq_true rfl⟩ dX6_alike_32 ?_
        obtain rfl := Option.some.inj hf
        exact tt_ireturn (pc := 35) C rfl rfl rfl dX6_alike_35
  · refine tt_aload_n (pc := 5) (k := 0) C dX6_alike_5 rfl rfl ?_
    refine tt_bipush (pc := 6) (v := (-4 : Int32)) C dX6_alike_6 (by decide) ?_
    obtain ⟨r7, hr7, hf⟩ := bind_some hf
    refine tt_callM (pc := 8) (ws := (xC cy xd sX aX uG es ea sT aT tT pT qT ma sL aL tL pL qL sK aK tK pK qK sH rH uH)) (q0 := 0) (ci := 6) (rest := []) (st' := [.int r7.1]) C rfl (k_X6_refused hr7) okX6_refused q2_19 rfl xC_obj rfl rfl rfl (Nat.le_of_ble_eq_true rfl) ⟨Nat.le_of_ble_eq_true rfl, Nat.le_of_ble_eq_true rfl⟩ dX6_alike_8 ?_
    obtain rfl := Option.some.inj hf
    exact tt_ireturn (pc := 11) C rfl rfl rfl dX6_alike_11
theorem dX6_steepest_0 : decode cX6_steepest 0 = .ok (.iload_n 1, 1) := by decide +kernel
theorem dX6_steepest_1 : decode cX6_steepest 1 = .ok (.iconst 2, 1) := by decide +kernel
theorem dX6_steepest_2 : decode cX6_steepest 2 = .ok (.if_icmp .ge 10, 3) := by decide +kernel
theorem dX6_steepest_5 : decode cX6_steepest 5 = .ok (.aload_n 0, 1) := by decide +kernel
theorem dX6_steepest_6 : decode cX6_steepest 6 = .ok (.bipush (-4), 2) := by decide +kernel
theorem dX6_steepest_8 : decode cX6_steepest 8 = .ok (.invokevirtual 87, 3) := by decide +kernel
theorem dX6_steepest_11 : decode cX6_steepest 11 = .ok (.ireturn, 1) := by decide +kernel
theorem dX6_steepest_12 : decode cX6_steepest 12 = .ok (.iload_n 1, 1) := by decide +kernel
theorem dX6_steepest_13 : decode cX6_steepest 13 = .ok (.bipush 8, 2) := by decide +kernel
theorem dX6_steepest_15 : decode cX6_steepest 15 = .ok (.if_icmp .gt 14, 3) := by decide +kernel
theorem dX6_steepest_18 : decode cX6_steepest 18 = .ok (.iload_n 1, 1) := by decide +kernel
theorem dX6_steepest_19 : decode cX6_steepest 19 = .ok (.aload_n 0, 1) := by decide +kernel
theorem dX6_steepest_20 : decode cX6_steepest 20 = .ok (.getfield 10, 3) := by decide +kernel
theorem dX6_steepest_23 : decode cX6_steepest 23 = .ok (.getfield 230, 3) := by decide +kernel
theorem dX6_steepest_26 : decode cX6_steepest 26 = .ok (.if_icmp .le 10, 3) := by decide +kernel
theorem dX6_steepest_29 : decode cX6_steepest 29 = .ok (.aload_n 0, 1) := by decide +kernel
theorem dX6_steepest_30 : decode cX6_steepest 30 = .ok (.bipush (-6), 2) := by decide +kernel
theorem dX6_steepest_32 : decode cX6_steepest 32 = .ok (.invokevirtual 87, 3) := by decide +kernel
theorem dX6_steepest_35 : decode cX6_steepest 35 = .ok (.ireturn, 1) := by decide +kernel
theorem dX6_steepest_36 : decode cX6_steepest 36 = .ok (.iconst 0, 1) := by decide +kernel
theorem dX6_steepest_37 : decode cX6_steepest 37 = .ok (.istore_n 2, 1) := by decide +kernel
theorem dX6_steepest_38 : decode cX6_steepest 38 = .ok (.iconst (-1), 1) := by decide +kernel
theorem dX6_steepest_39 : decode cX6_steepest 39 = .ok (.istore_n 3, 1) := by decide +kernel
theorem dX6_steepest_40 : decode cX6_steepest 40 = .ok (.iconst 0, 1) := by decide +kernel
theorem dX6_steepest_41 : decode cX6_steepest 41 = .ok (.istore 4, 2) := by decide +kernel
theorem dX6_steepest_43 : decode cX6_steepest 43 = .ok (.iload 4, 2) := by decide +kernel
theorem dX6_steepest_45 : decode cX6_steepest 45 = .ok (.iload_n 1, 1) := by decide +kernel
theorem dX6_steepest_46 : decode cX6_steepest 46 = .ok (.iadd, 1) := by decide +kernel
theorem dX6_steepest_47 : decode cX6_steepest 47 = .ok (.aload_n 0, 1) := by decide +kernel
theorem dX6_steepest_48 : decode cX6_steepest 48 = .ok (.getfield 10, 3) := by decide +kernel
theorem dX6_steepest_51 : decode cX6_steepest 51 = .ok (.getfield 230, 3) := by decide +kernel
theorem dX6_steepest_54 : decode cX6_steepest 54 = .ok (.if_icmp .gt 51, 3) := by decide +kernel
theorem dX6_steepest_57 : decode cX6_steepest 57 = .ok (.aload_n 0, 1) := by decide +kernel
theorem dX6_steepest_58 : decode cX6_steepest 58 = .ok (.getfield 10, 3) := by decide +kernel
theorem dX6_steepest_61 : decode cX6_steepest 61 = .ok (.getfield 154, 3) := by decide +kernel
theorem dX6_steepest_64 : decode cX6_steepest 64 = .ok (.iload 4, 2) := by decide +kernel
theorem dX6_steepest_66 : decode cX6_steepest 66 = .ok (.iload_n 1, 1) := by decide +kernel
theorem dX6_steepest_67 : decode cX6_steepest 67 = .ok (.iadd, 1) := by decide +kernel
theorem dX6_steepest_68 : decode cX6_steepest 68 = .ok (.iconst 1, 1) := by decide +kernel
theorem dX6_steepest_69 : decode cX6_steepest 69 = .ok (.isub, 1) := by decide +kernel
theorem dX6_steepest_70 : decode cX6_steepest 70 = .ok (.iaload, 1) := by decide +kernel
theorem dX6_steepest_71 : decode cX6_steepest 71 = .ok (.aload_n 0, 1) := by decide +kernel
theorem dX6_steepest_72 : decode cX6_steepest 72 = .ok (.getfield 10, 3) := by decide +kernel
theorem dX6_steepest_75 : decode cX6_steepest 75 = .ok (.getfield 154, 3) := by decide +kernel
theorem dX6_steepest_78 : decode cX6_steepest 78 = .ok (.iload 4, 2) := by decide +kernel
theorem dX6_steepest_80 : decode cX6_steepest 80 = .ok (.iaload, 1) := by decide +kernel
theorem dX6_steepest_81 : decode cX6_steepest 81 = .ok (.isub, 1) := by decide +kernel
theorem dX6_steepest_82 : decode cX6_steepest 82 = .ok (.invokestatic 225, 3) := by decide +kernel
theorem dX6_steepest_85 : decode cX6_steepest 85 = .ok (.istore 5, 2) := by decide +kernel
theorem dX6_steepest_87 : decode cX6_steepest 87 = .ok (.iload 5, 2) := by decide +kernel
theorem dX6_steepest_89 : decode cX6_steepest 89 = .ok (.iload_n 3, 1) := by decide +kernel
theorem dX6_steepest_90 : decode cX6_steepest 90 = .ok (.if_icmp .le 9, 3) := by decide +kernel
theorem dX6_steepest_93 : decode cX6_steepest 93 = .ok (.iload 5, 2) := by decide +kernel
theorem dX6_steepest_95 : decode cX6_steepest 95 = .ok (.istore_n 3, 1) := by decide +kernel
theorem dX6_steepest_96 : decode cX6_steepest 96 = .ok (.iload 4, 2) := by decide +kernel
theorem dX6_steepest_98 : decode cX6_steepest 98 = .ok (.istore_n 2, 1) := by decide +kernel
theorem dX6_steepest_99 : decode cX6_steepest 99 = .ok (.iinc 4 1, 3) := by decide +kernel
theorem dX6_steepest_102 : decode cX6_steepest 102 = .ok (.goto (-59), 3) := by decide +kernel
theorem dX6_steepest_105 : decode cX6_steepest 105 = .ok (.iload_n 2, 1) := by decide +kernel
theorem dX6_steepest_106 : decode cX6_steepest 106 = .ok (.ireturn, 1) := by decide +kernel
set_option maxHeartbeats 4000000 in
set_option maxRecDepth 100000 in
theorem l_X6_steepest_43 {p : Program} {l : Launch} {e : Env} {s : State} {m : MethodId} {args : Array Value} {below : List Frame} {meth : Method} {c : Code} {D : va_G} {cy : Nat → ClassId} {A : Nat → Prop} {Bd : Nat} {xa : Xa} {xd : Nat → Nat → Nat} {β : Type} {vO : Option Value} {wO : va_W} {N : Nat} {aX : Nat → Nat → Int32} {sL : Nat → Int32} {aL : Nat → Nat → Int32} {sX : Nat → Int32} {uG : Nat → Int32} {es : Nat → Int32} {ea : Nat → Nat → Int32} {sT : Nat → Int32} {aT : Nat → Nat → Int32} {tT : Nat → Nat → Int32} {pT : Nat → Int32} {qT : Nat → Nat → Int32} {ma : Nat → Nat → Int32} {tL : Nat → Nat → Int32} {pL : Nat → Int32} {qL : Nat → Nat → Int32} {sK : Nat → Int32} {aK : Nat → Nat → Int32} {tK : Nat → Nat → Int32} {pK : Nat → Int32} {qK : Nat → Nat → Int32} {sH : Nat → Nat → Int32} {rH : Nat → Nat → Int64} {uH : Nat → Nat → Int32} {v1 : Int32} {kx : Int32 → Option (β)} {out : β} (C : CC p s m args meth c cX6_steepest RX6 6 (some .int) D cy A false Bd xa) (hk : ∀ (x2 : Int32), kx x2 = some out → TT p l e { frames := 1, cells := 0, slots := 0, locals := 21 } s m args below meth c 6 D A false vO wO 105 [(2, .int x2)] [] (xC cy xd sX aX uG es ea sT aT tT pT qT ma sL aL tL pL qL sK aK tK pK qK sH rH uH)) {n : Nat} {v2 : Int32} {v3 : Int32} {v4 : Int32} (hf : f_X6_steepest_L43 N aX sL aL v1 kx n v2 v3 v4 = some out) : TT p l e { frames := 1, cells := 0, slots := 0, locals := 21 } s m args below meth c 6 D A false vO wO 43 [(0, .ref (xd 0 0)), (1, .int v1), (2, .int v2), (3, .int v3), (4, .int v4)] [] (xC cy xd sX aX uG es ea sT aT tT pT qT ma sL aL tL pL qL sK aK tK pK qK sH rH uH) := by
  induction n generalizing v2 v3 v4 with
  | zero => cases hf
  | succ n ih =>
    rw [f_X6_steepest_L43] at hf
    refine tt_iload (pc := 43) (k := 4) C dX6_steepest_43 rfl ?_
    refine tt_iload_n (pc := 45) (k := 1) C dX6_steepest_45 rfl rfl ?_
    refine tt_iadd (pc := 46) C dX6_steepest_46 ?_
    refine tt_aload_n (pc := 47) (k := 0) C dX6_steepest_47 rfl rfl ?_
    refine tt_get (pc := 48) (ws := (xC cy xd sX aX uG es ea sT aT tT pT qT ma sL aL tL pL qL sK aK tK pK qK sH rH uH)) (ci := 6) (v := .ref ((xd 1) 0)) C fiX6 rfl 0 xC_obj 0 (by decide) q1_219 rfl dX6_steepest_48 ?_
    refine tt_get (pc := 51) (ws := (xC cy xd sX aX uG es ea sT aT tT pT qT ma sL aL tL pL qL sK aK tK pK qK sH rH uH)) (ci := 1) (v := .int (sL 0)) C fiX1 rfl 28 rfl 0 (by decide) q1_84 rfl dX6_steepest_51 ?_
    refine tt_icmp_gt (pc := 54) (tgt := 105) C dX6_steepest_54 (by decide) hf (fun hf => ?_) (fun hf => ?_)
    · exact tt_locs [2] rfl (hk _ hf)
    · refine tt_aload_n (pc := 57) (k := 0) C dX6_steepest_57 rfl rfl ?_
      refine tt_get (pc := 58) (ws := (xC cy xd sX aX uG es ea sT aT tT pT qT ma sL aL tL pL qL sK aK tK pK qK sH rH uH)) (ci := 6) (v := .ref ((xd 1) 0)) C fiX6 rfl 0 xC_obj 0 (by decide) q1_219 rfl dX6_steepest_58 ?_
      refine tt_get (pc := 61) (ws := (xC cy xd sX aX uG es ea sT aT tT pT qT ma sL aL tL pL qL sK aK tK pK qK sH rH uH)) (ci := 1) (v := .ref ((xd 1) 1)) C fiX1 rfl 28 rfl 1 (by decide) q1_86 rfl dX6_steepest_61 ?_
      refine tt_iload (pc := 64) (k := 4) C dX6_steepest_64 rfl ?_
      refine tt_iload_n (pc := 66) (k := 1) C dX6_steepest_66 rfl rfl ?_
      refine tt_iadd (pc := 67) C dX6_steepest_67 ?_
      refine tt_iconst (pc := 68) (v := (1 : Int32)) C dX6_steepest_68 (by decide) ?_
      refine tt_isub (pc := 69) C dX6_steepest_69 ?_
      refine tt_iaload (pc := 70) (ws := (xC cy xd sX aX uG es ea sT aT tT pT qT ma sL aL tL pL qL sK aK tK pK qK sH rH uH)) (n := 24) (f := (aL 1)) C 29 0 rfl rfl hf dX6_steepest_70 (fun hf => ?_)
      refine tt_aload_n (pc := 71) (k := 0) C dX6_steepest_71 rfl rfl ?_
      refine tt_get (pc := 72) (ws := (xC cy xd sX aX uG es ea sT aT tT pT qT ma sL aL tL pL qL sK aK tK pK qK sH rH uH)) (ci := 6) (v := .ref ((xd 1) 0)) C fiX6 rfl 0 xC_obj 0 (by decide) q1_219 rfl dX6_steepest_72 ?_
      refine tt_get (pc := 75) (ws := (xC cy xd sX aX uG es ea sT aT tT pT qT ma sL aL tL pL qL sK aK tK pK qK sH rH uH)) (ci := 1) (v := .ref ((xd 1) 1)) C fiX1 rfl 28 rfl 1 (by decide) q1_86 rfl dX6_steepest_75 ?_
      refine tt_iload (pc := 78) (k := 4) C dX6_steepest_78 rfl ?_
      refine tt_iaload (pc := 80) (ws := (xC cy xd sX aX uG es ea sT aT tT pT qT ma sL aL tL pL qL sK aK tK pK qK sH rH uH)) (n := 24) (f := (aL 1)) C 29 0 rfl rfl hf dX6_steepest_80 (fun hf => ?_)
      refine tt_isub (pc := 81) C dX6_steepest_81 ?_
      refine tt_abs (pc := 82) C q3_225 q3_165 q1_14 q3_166 (Nat.le_of_ble_eq_true rfl) (Nat.le_of_ble_eq_true rfl) dX6_steepest_82 ?_
      refine tt_istore (pc := 85) (L' := [(5, .int (if 0 ≤ (((aL 1) (ix ((v4 + v1) - (1 : Int32)))) - ((aL 1) (ix v4))) then (((aL 1) (ix ((v4 + v1) - (1 : Int32)))) - ((aL 1) (ix v4))) else 0 - (((aL 1) (ix ((v4 + v1) - (1 : Int32)))) - ((aL 1) (ix v4))))), (0, .ref (xd 0 0)), (1, .int v1), (2, .int v2), (3, .int v3), (4, .int v4)]) C dX6_steepest_85 (by decide) rfl ?_
      refine tt_iload (pc := 87) (k := 0) C dX6_steepest_87 rfl ?_
      refine tt_iload_n (pc := 89) (k := 4) C dX6_steepest_89 rfl rfl ?_
      have k3 : TT p l e { frames := 1, cells := 0, slots := 0, locals := 21 } s m args below meth c 6 D A false vO wO 99 [(0, .ref (xd 0 0)), (1, .int v1), (2, .int (if (if 0 ≤ (((aL 1) (ix ((v4 + v1) - (1 : Int32)))) - ((aL 1) (ix v4))) then (((aL 1) (ix ((v4 + v1) - (1 : Int32)))) - ((aL 1) (ix v4))) else 0 - (((aL 1) (ix ((v4 + v1) - (1 : Int32)))) - ((aL 1) (ix v4)))) ≤ v3 then v2 else v4)), (3, .int (if (if 0 ≤ (((aL 1) (ix ((v4 + v1) - (1 : Int32)))) - ((aL 1) (ix v4))) then (((aL 1) (ix ((v4 + v1) - (1 : Int32)))) - ((aL 1) (ix v4))) else 0 - (((aL 1) (ix ((v4 + v1) - (1 : Int32)))) - ((aL 1) (ix v4)))) ≤ v3 then v3 else (if 0 ≤ (((aL 1) (ix ((v4 + v1) - (1 : Int32)))) - ((aL 1) (ix v4))) then (((aL 1) (ix ((v4 + v1) - (1 : Int32)))) - ((aL 1) (ix v4))) else 0 - (((aL 1) (ix ((v4 + v1) - (1 : Int32)))) - ((aL 1) (ix v4)))))), (4, .int v4)] [] (xC cy xd sX aX uG es ea sT aT tT pT qT ma sL aL tL pL qL sK aK tK pK qK sH rH uH) := by
        refine tt_iinc (pc := 99) (k := 4) (v := (v4 + 1)) (L' := [(4, .int (v4 + 1)), (0, .ref (xd 0 0)), (1, .int v1), (2, .int (if (if 0 ≤ (((aL 1) (ix ((v4 + v1) - (1 : Int32)))) - ((aL 1) (ix v4))) then (((aL 1) (ix ((v4 + v1) - (1 : Int32)))) - ((aL 1) (ix v4))) else 0 - (((aL 1) (ix ((v4 + v1) - (1 : Int32)))) - ((aL 1) (ix v4)))) ≤ v3 then v2 else v4)), (3, .int (if (if 0 ≤ (((aL 1) (ix ((v4 + v1) - (1 : Int32)))) - ((aL 1) (ix v4))) then (((aL 1) (ix ((v4 + v1) - (1 : Int32)))) - ((aL 1) (ix v4))) else 0 - (((aL 1) (ix ((v4 + v1) - (1 : Int32)))) - ((aL 1) (ix v4)))) ≤ v3 then v3 else (if 0 ≤ (((aL 1) (ix ((v4 + v1) - (1 : Int32)))) - ((aL 1) (ix v4))) then (((aL 1) (ix ((v4 + v1) - (1 : Int32)))) - ((aL 1) (ix v4))) else 0 - (((aL 1) (ix ((v4 + v1) - (1 : Int32)))) - ((aL 1) (ix v4))))))]) C dX6_steepest_99 rfl rfl (by decide) rfl ?_
        refine tt_goto (pc := 102) (tgt := 43) C dX6_steepest_102 (by decide) ?_
        exact tt_locs [1, 2, 3, 4, 0] rfl (ih hf)
      refine tr_icmp_le (pc := 90) (tgt := 99) C dX6_steepest_90 (by decide) (fun c2 => ?_) (fun c2 => ?_)
      · try simp only [if_pos c2] at k3 ⊢
        exact tt_locs [1, 2, 3, 4, 5] rfl k3
      · refine tt_iload (pc := 93) (k := 0) C dX6_steepest_93 rfl ?_
        refine tt_istore_n (pc := 95) (L' := [(3, .int (if 0 ≤ (((aL 1) (ix ((v4 + v1) - (1 : Int32)))) - ((aL 1) (ix v4))) then (((aL 1) (ix ((v4 + v1) - (1 : Int32)))) - ((aL 1) (ix v4))) else 0 - (((aL 1) (ix ((v4 + v1) - (1 : Int32)))) - ((aL 1) (ix v4))))), (5, .int (if 0 ≤ (((aL 1) (ix ((v4 + v1) - (1 : Int32)))) - ((aL 1) (ix v4))) then (((aL 1) (ix ((v4 + v1) - (1 : Int32)))) - ((aL 1) (ix v4))) else 0 - (((aL 1) (ix ((v4 + v1) - (1 : Int32)))) - ((aL 1) (ix v4))))), (0, .ref (xd 0 0)), (1, .int v1), (2, .int v2), (4, .int v4)]) C dX6_steepest_95 rfl (by decide) rfl ?_
        refine tt_iload (pc := 96) (k := 5) C dX6_steepest_96 rfl ?_
        refine tt_istore_n (pc := 98) (L' := [(2, .int v4), (3, .int (if 0 ≤ (((aL 1) (ix ((v4 + v1) - (1 : Int32)))) - ((aL 1) (ix v4))) then (((aL 1) (ix ((v4 + v1) - (1 : Int32)))) - ((aL 1) (ix v4))) else 0 - (((aL 1) (ix ((v4 + v1) - (1 : Int32)))) - ((aL 1) (ix v4))))), (5, .int (if 0 ≤ (((aL 1) (ix ((v4 + v1) - (1 : Int32)))) - ((aL 1) (ix v4))) then (((aL 1) (ix ((v4 + v1) - (1 : Int32)))) - ((aL 1) (ix v4))) else 0 - (((aL 1) (ix ((v4 + v1) - (1 : Int32)))) - ((aL 1) (ix v4))))), (0, .ref (xd 0 0)), (1, .int v1), (4, .int v4)]) C dX6_steepest_98 rfl (by decide) rfl ?_
        try simp only [if_neg c2] at k3 ⊢
        exact tt_locs [3, 4, 0, 1, 5] rfl k3
set_option maxHeartbeats 4000000 in
set_option maxRecDepth 100000 in
theorem k_X6_steepest {l : Launch} {D : va_G} {cy : Nat → ClassId} {Bd : Nat} {xa : Xa} {xd : Nat → Nat → Nat} {N : Nat} {sX : Nat → Int32} {aX : Nat → Nat → Int32} {uG : Nat → Int32} {es : Nat → Int32} {ea : Nat → Nat → Int32} {sT : Nat → Int32} {aT : Nat → Nat → Int32} {tT : Nat → Nat → Int32} {pT : Nat → Int32} {qT : Nat → Nat → Int32} {ma : Nat → Nat → Int32} {sL : Nat → Int32} {aL : Nat → Nat → Int32} {tL : Nat → Nat → Int32} {pL : Nat → Int32} {qL : Nat → Nat → Int32} {sK : Nat → Int32} {aK : Nat → Nat → Int32} {tK : Nat → Nat → Int32} {pK : Nat → Int32} {qK : Nat → Nat → Int32} {sH : Nat → Nat → Int32} {rH : Nat → Nat → Int64} {uH : Nat → Nat → Int32} {a1 : Int32} {out : Int32 × (Nat → Nat → Int32)} (hf : f_X6_steepest N aX sL aL a1 = some out) : KC l yX6_steepest cX6_steepest 6 (some .int) 1 21 false D cy Bd xa [.ref (xd 0 0), .int a1] (xC cy xd sX aX uG es ea sT aT tT pT qT ma sL aL tL pL qL sK aK tK pK qK sH rH uH) (some (.int out.1)) (xC cy xd sX out.2 uG es ea sT aT tT pT qT ma sL aL tL pL qL sK aK tK pK qK sH rH uH) := by
  refine kc_start (own := RX6) (by decide +kernel) rfl (Nat.le_of_ble_eq_true rfl) ?_
  intro p e s m args below meth c A C
  unfold f_X6_steepest at hf
  refine tt_locs (L' := [(0, .ref (xd 0 0)), (1, .int a1)]) [0, 1] rfl ?_
  refine tt_iload_n (pc := 0) (k := 1) C dX6_steepest_0 rfl rfl ?_
  refine tt_iconst (pc := 1) (v := (2 : Int32)) C dX6_steepest_1 (by decide) ?_
  refine tt_icmp_ge (pc := 2) (tgt := 12) C dX6_steepest_2 (by decide) hf (fun hf => ?_) (fun hf => ?_)
  · refine tt_iload_n (pc := 12) (k := 1) C dX6_steepest_12 rfl rfl ?_
    refine tt_bipush (pc := 13) (v := (8 : Int32)) C dX6_steepest_13 (by decide) ?_
    refine tt_icmp_gt (pc := 15) (tgt := 29) C dX6_steepest_15 (by decide) hf (fun hf => ?_) (fun hf => ?_)
    · refine tt_aload_n (pc := 29) (k := 0) C dX6_steepest_29 rfl rfl ?_
      refine tt_bipush (pc := 30) (v := (-6 : Int32)) C dX6_steepest_30 (by decide) ?_
      obtain ⟨r1, hr1, hf⟩ := bind_some hf
      refine tt_callM (pc := 32) (ws := (xC cy xd sX aX uG es ea sT aT tT pT qT ma sL aL tL pL qL sK aK tK pK qK sH rH uH)) (q0 := 0) (ci := 6) (rest := []) (st' := [.int r1.1]) C rfl (k_X6_refused hr1) okX6_refused q2_19 rfl xC_obj rfl rfl rfl (Nat.le_of_ble_eq_true rfl) ⟨Nat.le_of_ble_eq_true rfl, Nat.le_of_ble_eq_true rfl⟩ dX6_steepest_32 ?_
      obtain rfl := Option.some.inj hf
      exact tt_ireturn (pc := 35) C rfl rfl rfl dX6_steepest_35
    · refine tt_iload_n (pc := 18) (k := 1) C dX6_steepest_18 rfl rfl ?_
      refine tt_aload_n (pc := 19) (k := 0) C dX6_steepest_19 rfl rfl ?_
      refine tt_get (pc := 20) (ws := (xC cy xd sX aX uG es ea sT aT tT pT qT ma sL aL tL pL qL sK aK tK pK qK sH rH uH)) (ci := 6) (v := .ref ((xd 1) 0)) C fiX6 rfl 0 xC_obj 0 (by decide) q1_219 rfl dX6_steepest_20 ?_
      refine tt_get (pc := 23) (ws := (xC cy xd sX aX uG es ea sT aT tT pT qT ma sL aL tL pL qL sK aK tK pK qK sH rH uH)) (ci := 1) (v := .int (sL 0)) C fiX1 rfl 28 rfl 0 (by decide) q1_84 rfl dX6_steepest_23 ?_
      refine tt_icmp_le (pc := 26) (tgt := 36) C dX6_steepest_26 (by decide) hf (fun hf => ?_) (fun hf => ?_)
      · refine tt_iconst (pc := 36) (v := (0 : Int32)) C dX6_steepest_36 (by decide) ?_
        refine tt_istore_n (pc := 37) (L' := [(2, .int (0 : Int32)), (0, .ref (xd 0 0)), (1, .int a1)]) C dX6_steepest_37 rfl (by decide) rfl ?_
        refine tt_iconst (pc := 38) (v := (-1 : Int32)) C dX6_steepest_38 (by decide) ?_
        refine tt_istore_n (pc := 39) (L' := [(3, .int (-1 : Int32)), (2, .int (0 : Int32)), (0, .ref (xd 0 0)), (1, .int a1)]) C dX6_steepest_39 rfl (by decide) rfl ?_
        refine tt_iconst (pc := 40) (v := (0 : Int32)) C dX6_steepest_40 (by decide) ?_
        refine tt_istore (pc := 41) (L' := [(4, .int (0 : Int32)), (3, .int (-1 : Int32)), (2, .int (0 : Int32)), (0, .ref (xd 0 0)), (1, .int a1)]) C dX6_steepest_41 (by decide) rfl ?_
        refine tt_locs (L' := [(0, .ref (xd 0 0)), (1, .int a1), (2, .int (0 : Int32)), (3, .int (-1 : Int32)), (4, .int (0 : Int32))]) [3, 4, 2, 1, 0] rfl (l_X6_steepest_43 C (fun x2_4 hf => ?_) hf)
        refine tt_iload_n (pc := 105) (k := 0) C dX6_steepest_105 rfl rfl ?_
        obtain rfl := Option.some.inj hf
        exact tt_ireturn (pc := 106) C rfl rfl rfl dX6_steepest_106
      · refine tt_aload_n (pc := 29) (k := 0) C dX6_steepest_29 rfl rfl ?_
        refine tt_bipush (pc := 30) (v := (-6 : Int32)) C dX6_steepest_30 (by decide) ?_
        obtain ⟨r4, hr4, hf⟩ := bind_some hf
        refine tt_callM (pc := 32) (ws := (xC cy xd sX aX uG es ea sT aT tT pT qT ma sL aL tL pL qL sK aK tK pK qK sH rH uH)) (q0 := 0) (ci := 6) (rest := []) (st' := [.int r4.1]) C rfl (k_X6_refused hr4) okX6_refused q2_19 rfl xC_obj rfl rfl rfl (Nat.le_of_ble_eq_true rfl) ⟨Nat.le_of_ble_eq_true rfl, Nat.le_of_ble_eq_true rfl⟩ dX6_steepest_32 ?_
        obtain rfl := Option.some.inj hf
        exact tt_ireturn (pc := 35) C rfl rfl rfl dX6_steepest_35
  · refine tt_aload_n (pc := 5) (k := 0) C dX6_steepest_5 rfl rfl ?_
    refine tt_bipush (pc := 6) (v := (-4 : Int32)) C dX6_steepest_6 (by decide) ?_
    obtain ⟨r5, hr5, hf⟩ := bind_some hf
    refine tt_callM (pc := 8) (ws := (xC cy xd sX aX uG es ea sT aT tT pT qT ma sL aL tL pL qL sK aK tK pK qK sH rH uH)) (q0 := 0) (ci := 6) (rest := []) (st' := [.int r5.1]) C rfl (k_X6_refused hr5) okX6_refused q2_19 rfl xC_obj rfl rfl rfl (Nat.le_of_ble_eq_true rfl) ⟨Nat.le_of_ble_eq_true rfl, Nat.le_of_ble_eq_true rfl⟩ dX6_steepest_8 ?_
    obtain rfl := Option.some.inj hf
    exact tt_ireturn (pc := 11) C rfl rfl rfl dX6_steepest_11
theorem dJ6_bitCount_0f7a4_0 : decode cJ6_bitCount_0f7a4 0 = .ok (.iload_n 0, 1) := by decide +kernel
theorem dJ6_bitCount_0f7a4_1 : decode cJ6_bitCount_0f7a4 1 = .ok (.iload_n 0, 1) := by decide +kernel
theorem dJ6_bitCount_0f7a4_2 : decode cJ6_bitCount_0f7a4 2 = .ok (.iconst 1, 1) := by decide +kernel
theorem dJ6_bitCount_0f7a4_3 : decode cJ6_bitCount_0f7a4 3 = .ok (.iushr, 1) := by decide +kernel
theorem dJ6_bitCount_0f7a4_4 : decode cJ6_bitCount_0f7a4 4 = .ok (.ldc_w 265, 3) := by decide +kernel
theorem dJ6_bitCount_0f7a4_7 : decode cJ6_bitCount_0f7a4 7 = .ok (.iand, 1) := by decide +kernel
theorem dJ6_bitCount_0f7a4_8 : decode cJ6_bitCount_0f7a4 8 = .ok (.isub, 1) := by decide +kernel
theorem dJ6_bitCount_0f7a4_9 : decode cJ6_bitCount_0f7a4 9 = .ok (.istore_n 0, 1) := by decide +kernel
theorem dJ6_bitCount_0f7a4_10 : decode cJ6_bitCount_0f7a4 10 = .ok (.iload_n 0, 1) := by decide +kernel
theorem dJ6_bitCount_0f7a4_11 : decode cJ6_bitCount_0f7a4 11 = .ok (.ldc_w 266, 3) := by decide +kernel
theorem dJ6_bitCount_0f7a4_14 : decode cJ6_bitCount_0f7a4 14 = .ok (.iand, 1) := by decide +kernel
theorem dJ6_bitCount_0f7a4_15 : decode cJ6_bitCount_0f7a4 15 = .ok (.iload_n 0, 1) := by decide +kernel
theorem dJ6_bitCount_0f7a4_16 : decode cJ6_bitCount_0f7a4 16 = .ok (.iconst 2, 1) := by decide +kernel
theorem dJ6_bitCount_0f7a4_17 : decode cJ6_bitCount_0f7a4 17 = .ok (.iushr, 1) := by decide +kernel
theorem dJ6_bitCount_0f7a4_18 : decode cJ6_bitCount_0f7a4 18 = .ok (.ldc_w 266, 3) := by decide +kernel
theorem dJ6_bitCount_0f7a4_21 : decode cJ6_bitCount_0f7a4 21 = .ok (.iand, 1) := by decide +kernel
theorem dJ6_bitCount_0f7a4_22 : decode cJ6_bitCount_0f7a4 22 = .ok (.iadd, 1) := by decide +kernel
theorem dJ6_bitCount_0f7a4_23 : decode cJ6_bitCount_0f7a4 23 = .ok (.istore_n 0, 1) := by decide +kernel
theorem dJ6_bitCount_0f7a4_24 : decode cJ6_bitCount_0f7a4 24 = .ok (.iload_n 0, 1) := by decide +kernel
theorem dJ6_bitCount_0f7a4_25 : decode cJ6_bitCount_0f7a4 25 = .ok (.iload_n 0, 1) := by decide +kernel
theorem dJ6_bitCount_0f7a4_26 : decode cJ6_bitCount_0f7a4 26 = .ok (.iconst 4, 1) := by decide +kernel
theorem dJ6_bitCount_0f7a4_27 : decode cJ6_bitCount_0f7a4 27 = .ok (.iushr, 1) := by decide +kernel
theorem dJ6_bitCount_0f7a4_28 : decode cJ6_bitCount_0f7a4 28 = .ok (.iadd, 1) := by decide +kernel
theorem dJ6_bitCount_0f7a4_29 : decode cJ6_bitCount_0f7a4 29 = .ok (.ldc_w 267, 3) := by decide +kernel
theorem dJ6_bitCount_0f7a4_32 : decode cJ6_bitCount_0f7a4 32 = .ok (.iand, 1) := by decide +kernel
theorem dJ6_bitCount_0f7a4_33 : decode cJ6_bitCount_0f7a4 33 = .ok (.istore_n 0, 1) := by decide +kernel
theorem dJ6_bitCount_0f7a4_34 : decode cJ6_bitCount_0f7a4 34 = .ok (.iload_n 0, 1) := by decide +kernel
theorem dJ6_bitCount_0f7a4_35 : decode cJ6_bitCount_0f7a4 35 = .ok (.iload_n 0, 1) := by decide +kernel
theorem dJ6_bitCount_0f7a4_36 : decode cJ6_bitCount_0f7a4 36 = .ok (.bipush 8, 2) := by decide +kernel
theorem dJ6_bitCount_0f7a4_38 : decode cJ6_bitCount_0f7a4 38 = .ok (.iushr, 1) := by decide +kernel
theorem dJ6_bitCount_0f7a4_39 : decode cJ6_bitCount_0f7a4 39 = .ok (.iadd, 1) := by decide +kernel
theorem dJ6_bitCount_0f7a4_40 : decode cJ6_bitCount_0f7a4 40 = .ok (.istore_n 0, 1) := by decide +kernel
theorem dJ6_bitCount_0f7a4_41 : decode cJ6_bitCount_0f7a4 41 = .ok (.iload_n 0, 1) := by decide +kernel
theorem dJ6_bitCount_0f7a4_42 : decode cJ6_bitCount_0f7a4 42 = .ok (.iload_n 0, 1) := by decide +kernel
theorem dJ6_bitCount_0f7a4_43 : decode cJ6_bitCount_0f7a4 43 = .ok (.bipush 16, 2) := by decide +kernel
theorem dJ6_bitCount_0f7a4_45 : decode cJ6_bitCount_0f7a4 45 = .ok (.iushr, 1) := by decide +kernel
theorem dJ6_bitCount_0f7a4_46 : decode cJ6_bitCount_0f7a4 46 = .ok (.iadd, 1) := by decide +kernel
theorem dJ6_bitCount_0f7a4_47 : decode cJ6_bitCount_0f7a4 47 = .ok (.istore_n 0, 1) := by decide +kernel
theorem dJ6_bitCount_0f7a4_48 : decode cJ6_bitCount_0f7a4 48 = .ok (.iload_n 0, 1) := by decide +kernel
theorem dJ6_bitCount_0f7a4_49 : decode cJ6_bitCount_0f7a4 49 = .ok (.bipush 63, 2) := by decide +kernel
theorem dJ6_bitCount_0f7a4_51 : decode cJ6_bitCount_0f7a4 51 = .ok (.iand, 1) := by decide +kernel
theorem dJ6_bitCount_0f7a4_52 : decode cJ6_bitCount_0f7a4 52 = .ok (.ireturn, 1) := by decide +kernel
set_option maxHeartbeats 4000000 in
set_option maxRecDepth 100000 in
theorem k_J6_bitCount_0f7a4 {l : Launch} {D : va_G} {cy : Nat → ClassId} {Bd : Nat} {xa : Xa}  {N : Nat} {a1 : Int32} {out : Int32} (hf : f_J6_bitCount_0f7a4 N a1 = some out) : KC l yJ6_bitCount_0f7a4 cJ6_bitCount_0f7a4 1 (some .int) 0 0 true D cy Bd xa [.int a1] [] (some (.int out)) [] := by
  refine kc_start (own := RJ6) (by decide +kernel) rfl (Nat.le_of_ble_eq_true rfl) ?_
  intro p e s m args below meth c A C
  unfold f_J6_bitCount_0f7a4 at hf
  refine tt_locs (L' := [(0, .int a1)]) [0] rfl ?_
  refine tt_iload_n (pc := 0) (k := 0) C dJ6_bitCount_0f7a4_0 rfl rfl ?_
  refine tt_iload_n (pc := 1) (k := 0) C dJ6_bitCount_0f7a4_1 rfl rfl ?_
  refine tt_iconst (pc := 2) (v := (1 : Int32)) C dJ6_bitCount_0f7a4_2 (by decide) ?_
  refine tt_iushr (pc := 3) C dJ6_bitCount_0f7a4_3 ?_
  refine tt_ldcw (pc := 4) (v := (1431655765 : Int32)) C dJ6_bitCount_0f7a4_4 q4_25 ?_
  refine tt_iand (pc := 7) C dJ6_bitCount_0f7a4_7 ?_
  refine tt_isub (pc := 8) C dJ6_bitCount_0f7a4_8 ?_
  refine tt_istore_n (pc := 9) (L' := [(0, .int (a1 - ((a1.toUInt32 >>> ((1 : Int32).toUInt32 &&& Int32.toUInt32 31)).toInt32 &&& (1431655765 : Int32))))]) C dJ6_bitCount_0f7a4_9 rfl (by decide) rfl ?_
  refine tt_iload_n (pc := 10) (k := 0) C dJ6_bitCount_0f7a4_10 rfl rfl ?_
  refine tt_ldcw (pc := 11) (v := (858993459 : Int32)) C dJ6_bitCount_0f7a4_11 q4_26 ?_
  refine tt_iand (pc := 14) C dJ6_bitCount_0f7a4_14 ?_
  refine tt_iload_n (pc := 15) (k := 0) C dJ6_bitCount_0f7a4_15 rfl rfl ?_
  refine tt_iconst (pc := 16) (v := (2 : Int32)) C dJ6_bitCount_0f7a4_16 (by decide) ?_
  refine tt_iushr (pc := 17) C dJ6_bitCount_0f7a4_17 ?_
  refine tt_ldcw (pc := 18) (v := (858993459 : Int32)) C dJ6_bitCount_0f7a4_18 q4_26 ?_
  refine tt_iand (pc := 21) C dJ6_bitCount_0f7a4_21 ?_
  refine tt_iadd (pc := 22) C dJ6_bitCount_0f7a4_22 ?_
  refine tt_istore_n (pc := 23) (L' := [(0, .int (((a1 - ((a1.toUInt32 >>> ((1 : Int32).toUInt32 &&& Int32.toUInt32 31)).toInt32 &&& (1431655765 : Int32))) &&& (858993459 : Int32)) + (((a1 - ((a1.toUInt32 >>> ((1 : Int32).toUInt32 &&& Int32.toUInt32 31)).toInt32 &&& (1431655765 : Int32))).toUInt32 >>> ((2 : Int32).toUInt32 &&& Int32.toUInt32 31)).toInt32 &&& (858993459 : Int32))))]) C dJ6_bitCount_0f7a4_23 rfl (by decide) rfl ?_
  refine tt_iload_n (pc := 24) (k := 0) C dJ6_bitCount_0f7a4_24 rfl rfl ?_
  refine tt_iload_n (pc := 25) (k := 0) C dJ6_bitCount_0f7a4_25 rfl rfl ?_
  refine tt_iconst (pc := 26) (v := (4 : Int32)) C dJ6_bitCount_0f7a4_26 (by decide) ?_
  refine tt_iushr (pc := 27) C dJ6_bitCount_0f7a4_27 ?_
  refine tt_iadd (pc := 28) C dJ6_bitCount_0f7a4_28 ?_
  refine tt_ldcw (pc := 29) (v := (252645135 : Int32)) C dJ6_bitCount_0f7a4_29 q4_27 ?_
  refine tt_iand (pc := 32) C dJ6_bitCount_0f7a4_32 ?_
  refine tt_istore_n (pc := 33) (L' := [(0, .int (((((a1 - ((a1.toUInt32 >>> ((1 : Int32).toUInt32 &&& Int32.toUInt32 31)).toInt32 &&& (1431655765 : Int32))) &&& (858993459 : Int32)) + (((a1 - ((a1.toUInt32 >>> ((1 : Int32).toUInt32 &&& Int32.toUInt32 31)).toInt32 &&& (1431655765 : Int32))).toUInt32 >>> ((2 : Int32).toUInt32 &&& Int32.toUInt32 31)).toInt32 &&& (858993459 : Int32))) + ((((a1 - ((a1.toUInt32 >>> ((1 : Int32).toUInt32 &&& Int32.toUInt32 31)).toInt32 &&& (1431655765 : Int32))) &&& (858993459 : Int32)) + (((a1 - ((a1.toUInt32 >>> ((1 : Int32).toUInt32 &&& Int32.toUInt32 31)).toInt32 &&& (1431655765 : Int32))).toUInt32 >>> ((2 : Int32).toUInt32 &&& Int32.toUInt32 31)).toInt32 &&& (858993459 : Int32))).toUInt32 >>> ((4 : Int32).toUInt32 &&& Int32.toUInt32 31)).toInt32) &&& (252645135 : Int32)))]) C dJ6_bitCount_0f7a4_33 rfl (by decide) rfl ?_
  refine tt_iload_n (pc := 34) (k := 0) C dJ6_bitCount_0f7a4_34 rfl rfl ?_
  refine tt_iload_n (pc := 35) (k := 0) C dJ6_bitCount_0f7a4_35 rfl rfl ?_
  refine tt_bipush (pc := 36) (v := (8 : Int32)) C dJ6_bitCount_0f7a4_36 (by decide) ?_
  refine tt_iushr (pc := 38) C dJ6_bitCount_0f7a4_38 ?_
  refine tt_iadd (pc := 39) C dJ6_bitCount_0f7a4_39 ?_
  refine tt_istore_n (pc := 40) (L' := [(0, .int ((((((a1 - ((a1.toUInt32 >>> ((1 : Int32).toUInt32 &&& Int32.toUInt32 31)).toInt32 &&& (1431655765 : Int32))) &&& (858993459 : Int32)) + (((a1 - ((a1.toUInt32 >>> ((1 : Int32).toUInt32 &&& Int32.toUInt32 31)).toInt32 &&& (1431655765 : Int32))).toUInt32 >>> ((2 : Int32).toUInt32 &&& Int32.toUInt32 31)).toInt32 &&& (858993459 : Int32))) + ((((a1 - ((a1.toUInt32 >>> ((1 : Int32).toUInt32 &&& Int32.toUInt32 31)).toInt32 &&& (1431655765 : Int32))) &&& (858993459 : Int32)) + (((a1 - ((a1.toUInt32 >>> ((1 : Int32).toUInt32 &&& Int32.toUInt32 31)).toInt32 &&& (1431655765 : Int32))).toUInt32 >>> ((2 : Int32).toUInt32 &&& Int32.toUInt32 31)).toInt32 &&& (858993459 : Int32))).toUInt32 >>> ((4 : Int32).toUInt32 &&& Int32.toUInt32 31)).toInt32) &&& (252645135 : Int32)) + ((((((a1 - ((a1.toUInt32 >>> ((1 : Int32).toUInt32 &&& Int32.toUInt32 31)).toInt32 &&& (1431655765 : Int32))) &&& (858993459 : Int32)) + (((a1 - ((a1.toUInt32 >>> ((1 : Int32).toUInt32 &&& Int32.toUInt32 31)).toInt32 &&& (1431655765 : Int32))).toUInt32 >>> ((2 : Int32).toUInt32 &&& Int32.toUInt32 31)).toInt32 &&& (858993459 : Int32))) + ((((a1 - ((a1.toUInt32 >>> ((1 : Int32).toUInt32 &&& Int32.toUInt32 31)).toInt32 &&& (1431655765 : Int32))) &&& (858993459 : Int32)) + (((a1 - ((a1.toUInt32 >>> ((1 : Int32).toUInt32 &&& Int32.toUInt32 31)).toInt32 &&& (1431655765 : Int32))).toUInt32 >>> ((2 : Int32).toUInt32 &&& Int32.toUInt32 31)).toInt32 &&& (858993459 : Int32))).toUInt32 >>> ((4 : Int32).toUInt32 &&& Int32.toUInt32 31)).toInt32) &&& (252645135 : Int32)).toUInt32 >>> ((8 : Int32).toUInt32 &&& Int32.toUInt32 31)).toInt32))]) C dJ6_bitCount_0f7a4_40 rfl (by decide) rfl ?_
  refine tt_iload_n (pc := 41) (k := 0) C dJ6_bitCount_0f7a4_41 rfl rfl ?_
  refine tt_iload_n (pc := 42) (k := 0) C dJ6_bitCount_0f7a4_42 rfl rfl ?_
  refine tt_bipush (pc := 43) (v := (16 : Int32)) C dJ6_bitCount_0f7a4_43 (by decide) ?_
  refine tt_iushr (pc := 45) C dJ6_bitCount_0f7a4_45 ?_
  refine tt_iadd (pc := 46) C dJ6_bitCount_0f7a4_46 ?_
  refine tt_istore_n (pc := 47) (L' := [(0, .int (((((((a1 - ((a1.toUInt32 >>> ((1 : Int32).toUInt32 &&& Int32.toUInt32 31)).toInt32 &&& (1431655765 : Int32))) &&& (858993459 : Int32)) + (((a1 - ((a1.toUInt32 >>> ((1 : Int32).toUInt32 &&& Int32.toUInt32 31)).toInt32 &&& (1431655765 : Int32))).toUInt32 >>> ((2 : Int32).toUInt32 &&& Int32.toUInt32 31)).toInt32 &&& (858993459 : Int32))) + ((((a1 - ((a1.toUInt32 >>> ((1 : Int32).toUInt32 &&& Int32.toUInt32 31)).toInt32 &&& (1431655765 : Int32))) &&& (858993459 : Int32)) + (((a1 - ((a1.toUInt32 >>> ((1 : Int32).toUInt32 &&& Int32.toUInt32 31)).toInt32 &&& (1431655765 : Int32))).toUInt32 >>> ((2 : Int32).toUInt32 &&& Int32.toUInt32 31)).toInt32 &&& (858993459 : Int32))).toUInt32 >>> ((4 : Int32).toUInt32 &&& Int32.toUInt32 31)).toInt32) &&& (252645135 : Int32)) + ((((((a1 - ((a1.toUInt32 >>> ((1 : Int32).toUInt32 &&& Int32.toUInt32 31)).toInt32 &&& (1431655765 : Int32))) &&& (858993459 : Int32)) + (((a1 - ((a1.toUInt32 >>> ((1 : Int32).toUInt32 &&& Int32.toUInt32 31)).toInt32 &&& (1431655765 : Int32))).toUInt32 >>> ((2 : Int32).toUInt32 &&& Int32.toUInt32 31)).toInt32 &&& (858993459 : Int32))) + ((((a1 - ((a1.toUInt32 >>> ((1 : Int32).toUInt32 &&& Int32.toUInt32 31)).toInt32 &&& (1431655765 : Int32))) &&& (858993459 : Int32)) + (((a1 - ((a1.toUInt32 >>> ((1 : Int32).toUInt32 &&& Int32.toUInt32 31)).toInt32 &&& (1431655765 : Int32))).toUInt32 >>> ((2 : Int32).toUInt32 &&& Int32.toUInt32 31)).toInt32 &&& (858993459 : Int32))).toUInt32 >>> ((4 : Int32).toUInt32 &&& Int32.toUInt32 31)).toInt32) &&& (252645135 : Int32)).toUInt32 >>> ((8 : Int32).toUInt32 &&& Int32.toUInt32 31)).toInt32) + (((((((a1 - ((a1.toUInt32 >>> ((1 : Int32).toUInt32 &&& Int32.toUInt32 31)).toInt32 &&& (1431655765 : Int32))) &&& (858993459 : Int32)) + (((a1 - ((a1.toUInt32 >>> ((1 : Int32).toUInt32 &&& Int32.toUInt32 31)).toInt32 &&& (1431655765 : Int32))).toUInt32 >>> ((2 : Int32).toUInt32 &&& Int32.toUInt32 31)).toInt32 &&& (858993459 : Int32))) + ((((a1 - ((a1.toUInt32 >>> ((1 : Int32).toUInt32 &&& Int32.toUInt32 31)).toInt32 &&& (1431655765 : Int32))) &&& (858993459 : Int32)) + (((a1 - ((a1.toUInt32 >>> ((1 : Int32).toUInt32 &&& Int32.toUInt32 31)).toInt32 &&& (1431655765 : Int32))).toUInt32 >>> ((2 : Int32).toUInt32 &&& Int32.toUInt32 31)).toInt32 &&& (858993459 : Int32))).toUInt32 >>> ((4 : Int32).toUInt32 &&& Int32.toUInt32 31)).toInt32) &&& (252645135 : Int32)) + ((((((a1 - ((a1.toUInt32 >>> ((1 : Int32).toUInt32 &&& Int32.toUInt32 31)).toInt32 &&& (1431655765 : Int32))) &&& (858993459 : Int32)) + (((a1 - ((a1.toUInt32 >>> ((1 : Int32).toUInt32 &&& Int32.toUInt32 31)).toInt32 &&& (1431655765 : Int32))).toUInt32 >>> ((2 : Int32).toUInt32 &&& Int32.toUInt32 31)).toInt32 &&& (858993459 : Int32))) + ((((a1 - ((a1.toUInt32 >>> ((1 : Int32).toUInt32 &&& Int32.toUInt32 31)).toInt32 &&& (1431655765 : Int32))) &&& (858993459 : Int32)) + (((a1 - ((a1.toUInt32 >>> ((1 : Int32).toUInt32 &&& Int32.toUInt32 31)).toInt32 &&& (1431655765 : Int32))).toUInt32 >>> ((2 : Int32).toUInt32 &&& Int32.toUInt32 31)).toInt32 &&& (858993459 : Int32))).toUInt32 >>> ((4 : Int32).toUInt32 &&& Int32.toUInt32 31)).toInt32) &&& (252645135 : Int32)).toUInt32 >>> ((8 : Int32).toUInt32 &&& Int32.toUInt32 31)).toInt32).toUInt32 >>> ((16 : Int32).toUInt32 &&& Int32.toUInt32 31)).toInt32))]) C dJ6_bitCount_0f7a4_47 rfl (by decide) rfl ?_
  refine tt_iload_n (pc := 48) (k := 0) C dJ6_bitCount_0f7a4_48 rfl rfl ?_
  refine tt_bipush (pc := 49) (v := (63 : Int32)) C dJ6_bitCount_0f7a4_49 (by decide) ?_
  refine tt_iand (pc := 51) C dJ6_bitCount_0f7a4_51 ?_
  obtain rfl := Option.some.inj hf
  exact tt_ireturn (pc := 52) C rfl rfl rfl dJ6_bitCount_0f7a4_52
theorem dX6_power_0 : decode cX6_power 0 = .ok (.iconst 1, 1) := by decide +kernel
theorem dX6_power_1 : decode cX6_power 1 = .ok (.istore_n 2, 1) := by decide +kernel
theorem dX6_power_2 : decode cX6_power 2 = .ok (.iconst 0, 1) := by decide +kernel
theorem dX6_power_3 : decode cX6_power 3 = .ok (.istore_n 3, 1) := by decide +kernel
theorem dX6_power_4 : decode cX6_power 4 = .ok (.iload_n 3, 1) := by decide +kernel
theorem dX6_power_5 : decode cX6_power 5 = .ok (.iload_n 1, 1) := by decide +kernel
theorem dX6_power_6 : decode cX6_power 6 = .ok (.if_icmp .ge 13, 3) := by decide +kernel
theorem dX6_power_9 : decode cX6_power 9 = .ok (.iload_n 2, 1) := by decide +kernel
theorem dX6_power_10 : decode cX6_power 10 = .ok (.iload_n 0, 1) := by decide +kernel
theorem dX6_power_11 : decode cX6_power 11 = .ok (.imul, 1) := by decide +kernel
theorem dX6_power_12 : decode cX6_power 12 = .ok (.istore_n 2, 1) := by decide +kernel
theorem dX6_power_13 : decode cX6_power 13 = .ok (.iinc 3 1, 3) := by decide +kernel
theorem dX6_power_16 : decode cX6_power 16 = .ok (.goto (-12), 3) := by decide +kernel
theorem dX6_power_19 : decode cX6_power 19 = .ok (.iload_n 2, 1) := by decide +kernel
theorem dX6_power_20 : decode cX6_power 20 = .ok (.ireturn, 1) := by decide +kernel
set_option maxHeartbeats 4000000 in
set_option maxRecDepth 100000 in
theorem l_X6_power_4 {p : Program} {l : Launch} {e : Env} {s : State} {m : MethodId} {args : Array Value} {below : List Frame} {meth : Method} {c : Code} {D : va_G} {cy : Nat → ClassId} {A : Nat → Prop} {Bd : Nat} {xa : Xa}  {β : Type} {vO : Option Value} {wO : va_W} {N : Nat} {v0 : Int32} {v1 : Int32} {kx : Int32 → Option (β)} {out : β} (C : CC p s m args meth c cX6_power RX6 4 (some .int) D cy A true Bd xa) (hk : ∀ (x2 : Int32), kx x2 = some out → TT p l e { frames := 0, cells := 0, slots := 0, locals := 0 } s m args below meth c 4 D A true vO wO 19 [(2, .int x2)] [] []) {n : Nat} {v2 : Int32} {v3 : Int32} (hf : f_X6_power_L4 N v0 v1 kx n v2 v3 = some out) : TT p l e { frames := 0, cells := 0, slots := 0, locals := 0 } s m args below meth c 4 D A true vO wO 4 [(0, .int v0), (1, .int v1), (2, .int v2), (3, .int v3)] [] [] := by
  induction n generalizing v2 v3 with
  | zero => cases hf
  | succ n ih =>
    rw [f_X6_power_L4] at hf
    refine tt_iload_n (pc := 4) (k := 3) C dX6_power_4 rfl rfl ?_
    refine tt_iload_n (pc := 5) (k := 1) C dX6_power_5 rfl rfl ?_
    refine tt_icmp_ge (pc := 6) (tgt := 19) C dX6_power_6 (by decide) hf (fun hf => ?_) (fun hf => ?_)
    · exact tt_locs [2] rfl (hk _ hf)
    · refine tt_iload_n (pc := 9) (k := 2) C dX6_power_9 rfl rfl ?_
      refine tt_iload_n (pc := 10) (k := 0) C dX6_power_10 rfl rfl ?_
      refine tt_imul (pc := 11) C dX6_power_11 ?_
      refine tt_istore_n (pc := 12) (L' := [(2, .int (v2 * v0)), (0, .int v0), (1, .int v1), (3, .int v3)]) C dX6_power_12 rfl (by decide) rfl ?_
      refine tt_iinc (pc := 13) (k := 3) (v := (v3 + 1)) (L' := [(3, .int (v3 + 1)), (2, .int (v2 * v0)), (0, .int v0), (1, .int v1)]) C dX6_power_13 rfl rfl (by decide) rfl ?_
      refine tt_goto (pc := 16) (tgt := 4) C dX6_power_16 (by decide) ?_
      exact tt_locs [2, 3, 1, 0] rfl (ih hf)
set_option maxHeartbeats 4000000 in
set_option maxRecDepth 100000 in
theorem k_X6_power {l : Launch} {D : va_G} {cy : Nat → ClassId} {Bd : Nat} {xa : Xa}  {N : Nat} {a1 : Int32} {a2 : Int32} {out : Int32} (hf : f_X6_power N a1 a2 = some out) : KC l yX6_power cX6_power 4 (some .int) 0 0 true D cy Bd xa [.int a1, .int a2] [] (some (.int out)) [] := by
  refine kc_start (own := RX6) (by decide +kernel) rfl (Nat.le_of_ble_eq_true rfl) ?_
  intro p e s m args below meth c A C
  unfold f_X6_power at hf
  refine tt_locs (L' := [(0, .int a1), (1, .int a2)]) [0, 1] rfl ?_
  refine tt_iconst (pc := 0) (v := (1 : Int32)) C dX6_power_0 (by decide) ?_
  refine tt_istore_n (pc := 1) (L' := [(2, .int (1 : Int32)), (0, .int a1), (1, .int a2)]) C dX6_power_1 rfl (by decide) rfl ?_
  refine tt_iconst (pc := 2) (v := (0 : Int32)) C dX6_power_2 (by decide) ?_
  refine tt_istore_n (pc := 3) (L' := [(3, .int (0 : Int32)), (2, .int (1 : Int32)), (0, .int a1), (1, .int a2)]) C dX6_power_3 rfl (by decide) rfl ?_
  refine tt_locs (L' := [(0, .int a1), (1, .int a2), (2, .int (1 : Int32)), (3, .int (0 : Int32))]) [2, 3, 1, 0] rfl (l_X6_power_4 C (fun x2_1 hf => ?_) hf)
  refine tt_iload_n (pc := 19) (k := 0) C dX6_power_19 rfl rfl ?_
  obtain rfl := Option.some.inj hf
  exact tt_ireturn (pc := 20) C rfl rfl rfl dX6_power_20
theorem dX6_safeWays_0 : decode cX6_safeWays 0 = .ok (.iconst 0, 1) := by decide +kernel
theorem dX6_safeWays_1 : decode cX6_safeWays 1 = .ok (.istore_n 2, 1) := by decide +kernel
theorem dX6_safeWays_2 : decode cX6_safeWays 2 = .ok (.aload_n 0, 1) := by decide +kernel
theorem dX6_safeWays_3 : decode cX6_safeWays 3 = .ok (.getfield 10, 3) := by decide +kernel
theorem dX6_safeWays_6 : decode cX6_safeWays 6 = .ok (.invokevirtual 157, 3) := by decide +kernel
theorem dX6_safeWays_9 : decode cX6_safeWays 9 = .ok (.istore_n 3, 1) := by decide +kernel
theorem dX6_safeWays_10 : decode cX6_safeWays 10 = .ok (.iconst 0, 1) := by decide +kernel
theorem dX6_safeWays_11 : decode cX6_safeWays 11 = .ok (.istore 4, 2) := by decide +kernel
theorem dX6_safeWays_13 : decode cX6_safeWays 13 = .ok (.iload 4, 2) := by decide +kernel
theorem dX6_safeWays_15 : decode cX6_safeWays 15 = .ok (.iload_n 3, 1) := by decide +kernel
theorem dX6_safeWays_16 : decode cX6_safeWays 16 = .ok (.if_icmp .gt 35, 3) := by decide +kernel
theorem dX6_safeWays_19 : decode cX6_safeWays 19 = .ok (.aload_n 0, 1) := by decide +kernel
theorem dX6_safeWays_20 : decode cX6_safeWays 20 = .ok (.getfield 10, 3) := by decide +kernel
theorem dX6_safeWays_23 : decode cX6_safeWays 23 = .ok (.iload 4, 2) := by decide +kernel
theorem dX6_safeWays_25 : decode cX6_safeWays 25 = .ok (.invokevirtual 183, 3) := by decide +kernel
theorem dX6_safeWays_28 : decode cX6_safeWays 28 = .ok (.ifCond .eq 17, 3) := by decide +kernel
theorem dX6_safeWays_31 : decode cX6_safeWays 31 = .ok (.iload_n 2, 1) := by decide +kernel
theorem dX6_safeWays_32 : decode cX6_safeWays 32 = .ok (.iload_n 1, 1) := by decide +kernel
theorem dX6_safeWays_33 : decode cX6_safeWays 33 = .ok (.iconst 1, 1) := by decide +kernel
theorem dX6_safeWays_34 : decode cX6_safeWays 34 = .ok (.isub, 1) := by decide +kernel
theorem dX6_safeWays_35 : decode cX6_safeWays 35 = .ok (.iload 4, 2) := by decide +kernel
theorem dX6_safeWays_37 : decode cX6_safeWays 37 = .ok (.invokestatic 343, 3) := by decide +kernel
theorem dX6_safeWays_40 : decode cX6_safeWays 40 = .ok (.invokestatic 242, 3) := by decide +kernel
theorem dX6_safeWays_43 : decode cX6_safeWays 43 = .ok (.iadd, 1) := by decide +kernel
theorem dX6_safeWays_44 : decode cX6_safeWays 44 = .ok (.istore_n 2, 1) := by decide +kernel
theorem dX6_safeWays_45 : decode cX6_safeWays 45 = .ok (.iinc 4 1, 3) := by decide +kernel
theorem dX6_safeWays_48 : decode cX6_safeWays 48 = .ok (.goto (-35), 3) := by decide +kernel
theorem dX6_safeWays_51 : decode cX6_safeWays 51 = .ok (.iload_n 2, 1) := by decide +kernel
theorem dX6_safeWays_52 : decode cX6_safeWays 52 = .ok (.ireturn, 1) := by decide +kernel
set_option maxHeartbeats 4000000 in
set_option maxRecDepth 100000 in
theorem l_X6_safeWays_13 {p : Program} {l : Launch} {e : Env} {s : State} {m : MethodId} {args : Array Value} {below : List Frame} {meth : Method} {c : Code} {D : va_G} {cy : Nat → ClassId} {A : Nat → Prop} {Bd : Nat} {xa : Xa} {xd : Nat → Nat → Nat} {β : Type} {vO : Option Value} {wO : va_W} {N : Nat} {sL : Nat → Int32} {aL : Nat → Nat → Int32} {tL : Nat → Nat → Int32} {sX : Nat → Int32} {aX : Nat → Nat → Int32} {uG : Nat → Int32} {es : Nat → Int32} {ea : Nat → Nat → Int32} {sT : Nat → Int32} {aT : Nat → Nat → Int32} {tT : Nat → Nat → Int32} {pT : Nat → Int32} {qT : Nat → Nat → Int32} {ma : Nat → Nat → Int32} {pL : Nat → Int32} {qL : Nat → Nat → Int32} {sK : Nat → Int32} {aK : Nat → Nat → Int32} {tK : Nat → Nat → Int32} {pK : Nat → Int32} {qK : Nat → Nat → Int32} {sH : Nat → Nat → Int32} {rH : Nat → Nat → Int64} {uH : Nat → Nat → Int32} {v1 : Int32} {v3 : Int32} {kx : Int32 → Option (β)} {out : β} (C : CC p s m args meth c cX6_safeWays RX6 5 (some .int) D cy A true Bd xa) (hk : ∀ (x2 : Int32), kx x2 = some out → TT p l e { frames := 6, cells := 0, slots := 0, locals := 142 } s m args below meth c 5 D A true vO wO 51 [(2, .int x2)] [] (xC cy xd sX aX uG es ea sT aT tT pT qT ma sL aL tL pL qL sK aK tK pK qK sH rH uH)) {n : Nat} {v2 : Int32} {v4 : Int32} (hf : f_X6_safeWays_L13 N sL aL tL v1 v3 kx n v2 v4 = some out) : TT p l e { frames := 6, cells := 0, slots := 0, locals := 142 } s m args below meth c 5 D A true vO wO 13 [(0, .ref (xd 0 0)), (1, .int v1), (2, .int v2), (3, .int v3), (4, .int v4)] [] (xC cy xd sX aX uG es ea sT aT tT pT qT ma sL aL tL pL qL sK aK tK pK qK sH rH uH) := by
  induction n generalizing v2 v4 with
  | zero => cases hf
  | succ n ih =>
    rw [f_X6_safeWays_L13] at hf
    refine tt_iload (pc := 13) (k := 4) C dX6_safeWays_13 rfl ?_
    refine tt_iload_n (pc := 15) (k := 3) C dX6_safeWays_15 rfl rfl ?_
    refine tt_icmp_gt (pc := 16) (tgt := 51) C dX6_safeWays_16 (by decide) hf (fun hf => ?_) (fun hf => ?_)
    · exact tt_locs [2] rfl (hk _ hf)
    · refine tt_aload_n (pc := 19) (k := 0) C dX6_safeWays_19 rfl rfl ?_
      refine tt_get (pc := 20) (ws := (xC cy xd sX aX uG es ea sT aT tT pT qT ma sL aL tL pL qL sK aK tK pK qK sH rH uH)) (ci := 6) (v := .ref ((xd 1) 0)) C fiX6 rfl 0 xC_obj 0 (by decide) q1_219 rfl dX6_safeWays_20 ?_
      refine tt_iload (pc := 23) (k := 4) C dX6_safeWays_23 rfl ?_
      obtain ⟨r2, hr2, hf⟩ := bind_some hf
      refine tt_callR (pc := 25) (ws := (xC cy xd sX aX uG es ea sT aT tT pT qT ma sL aL tL pL qL sK aK tK pK qK sH rH uH)) (q0 := 28) (ci := 1) (rest := []) (st' := [.int r2]) C (k_X1_isSafe hr2) okX1_isSafe q3_133 rfl rfl xC_subL rfl rfl rfl (Nat.le_of_ble_eq_true rfl) ⟨Nat.le_of_ble_eq_true rfl, Nat.le_of_ble_eq_true rfl⟩ dX6_safeWays_25 ?_
      obtain ⟨j3, hj3, hf⟩ := bind_some hf
      have k4 : TT p l e { frames := 6, cells := 0, slots := 0, locals := 142 } s m args below meth c 5 D A true vO wO 45 [(0, .ref (xd 0 0)), (1, .int v1), (2, .int j3), (3, .int v3), (4, .int v4)] [] (xC cy xd sX aX uG es ea sT aT tT pT qT ma sL aL tL pL qL sK aK tK pK qK sH rH uH) := by
        refine tt_iinc (pc := 45) (k := 4) (v := (v4 + 1)) (L' := [(4, .int (v4 + 1)), (0, .ref (xd 0 0)), (1, .int v1), (2, .int j3), (3, .int v3)]) C dX6_safeWays_45 rfl rfl (by decide) rfl ?_
        refine tt_goto (pc := 48) (tgt := 13) C dX6_safeWays_48 (by decide) ?_
        exact tt_locs [1, 2, 3, 4, 0] rfl (ih hf)
      refine tt_if_eq (pc := 28) (tgt := 45) C dX6_safeWays_28 (by decide) hj3 (fun hj3 => ?_) (fun hj3 => ?_)
      · obtain rfl := Option.some.inj hj3
        exact tt_locs [0, 1, 2, 3, 4] rfl k4
      · refine tt_iload_n (pc := 31) (k := 2) C dX6_safeWays_31 rfl rfl ?_
        refine tt_iload_n (pc := 32) (k := 1) C dX6_safeWays_32 rfl rfl ?_
        refine tt_iconst (pc := 33) (v := (1 : Int32)) C dX6_safeWays_33 (by decide) ?_
        refine tt_isub (pc := 34) C dX6_safeWays_34 ?_
        refine tt_iload (pc := 35) (k := 4) C dX6_safeWays_35 rfl ?_
        obtain ⟨r5, hr5, hj3⟩ := bind_some hj3
        refine tt_callS (pc := 37) (ws := (xC cy xd sX aX uG es ea sT aT tT pT qT ma sL aL tL pL qL sK aK tK pK qK sH rH uH)) (rest := [.int (v1 - (1 : Int32)), .int v2]) (st' := [.int r5, .int (v1 - (1 : Int32)), .int v2]) C (k_J6_bitCount_0f7a4 hr5) okJ6_bitCount_0f7a4 q4_22 (fun _ h => absurd h List.not_mem_nil) rfl rfl rfl (Nat.le_of_ble_eq_true rfl) ⟨Nat.le_of_ble_eq_true rfl, Nat.le_of_ble_eq_true rfl⟩ dX6_safeWays_37 ?_
        obtain ⟨r6, hr6, hj3⟩ := bind_some hj3
        refine tt_callS (pc := 40) (ws := (xC cy xd sX aX uG es ea sT aT tT pT qT ma sL aL tL pL qL sK aK tK pK qK sH rH uH)) (rest := [.int v2]) (st' := [.int r6, .int v2]) C (k_X6_power hr6) okX6_power q4_28 (fun _ h => absurd h List.not_mem_nil) rfl rfl rfl (Nat.le_of_ble_eq_true rfl) ⟨Nat.le_of_ble_eq_true rfl, Nat.le_of_ble_eq_true rfl⟩ dX6_safeWays_40 ?_
        refine tt_iadd (pc := 43) C dX6_safeWays_43 ?_
        refine tt_istore_n (pc := 44) (L' := [(2, .int (v2 + r6)), (0, .ref (xd 0 0)), (1, .int v1), (3, .int v3), (4, .int v4)]) C dX6_safeWays_44 rfl (by decide) rfl ?_
        obtain rfl := Option.some.inj hj3
        exact tt_locs [1, 2, 0, 3, 4] rfl k4
set_option maxHeartbeats 4000000 in
set_option maxRecDepth 100000 in
theorem k_X6_safeWays {l : Launch} {D : va_G} {cy : Nat → ClassId} {Bd : Nat} {xa : Xa} {xd : Nat → Nat → Nat} {N : Nat} {sX : Nat → Int32} {aX : Nat → Nat → Int32} {uG : Nat → Int32} {es : Nat → Int32} {ea : Nat → Nat → Int32} {sT : Nat → Int32} {aT : Nat → Nat → Int32} {tT : Nat → Nat → Int32} {pT : Nat → Int32} {qT : Nat → Nat → Int32} {ma : Nat → Nat → Int32} {sL : Nat → Int32} {aL : Nat → Nat → Int32} {tL : Nat → Nat → Int32} {pL : Nat → Int32} {qL : Nat → Nat → Int32} {sK : Nat → Int32} {aK : Nat → Nat → Int32} {tK : Nat → Nat → Int32} {pK : Nat → Int32} {qK : Nat → Nat → Int32} {sH : Nat → Nat → Int32} {rH : Nat → Nat → Int64} {uH : Nat → Nat → Int32} {a1 : Int32} {out : Int32} (hf : f_X6_safeWays N sL aL tL a1 = some out) : KC l yX6_safeWays cX6_safeWays 5 (some .int) 6 142 true D cy Bd xa [.ref (xd 0 0), .int a1] (xC cy xd sX aX uG es ea sT aT tT pT qT ma sL aL tL pL qL sK aK tK pK qK sH rH uH) (some (.int out)) (xC cy xd sX aX uG es ea sT aT tT pT qT ma sL aL tL pL qL sK aK tK pK qK sH rH uH) := by
  refine kc_start (own := RX6) (by decide +kernel) rfl (Nat.le_of_ble_eq_true rfl) ?_
  intro p e s m args below meth c A C
  unfold f_X6_safeWays at hf
  refine tt_locs (L' := [(0, .ref (xd 0 0)), (1, .int a1)]) [0, 1] rfl ?_
  refine tt_iconst (pc := 0) (v := (0 : Int32)) C dX6_safeWays_0 (by decide) ?_
  refine tt_istore_n (pc := 1) (L' := [(2, .int (0 : Int32)), (0, .ref (xd 0 0)), (1, .int a1)]) C dX6_safeWays_1 rfl (by decide) rfl ?_
  refine tt_aload_n (pc := 2) (k := 1) C dX6_safeWays_2 rfl rfl ?_
  refine tt_get (pc := 3) (ws := (xC cy xd sX aX uG es ea sT aT tT pT qT ma sL aL tL pL qL sK aK tK pK qK sH rH uH)) (ci := 6) (v := .ref ((xd 1) 0)) C fiX6 rfl 0 xC_obj 0 (by decide) q1_219 rfl dX6_safeWays_3 ?_
  obtain ⟨r1, hr1, hf⟩ := bind_some hf
  refine tt_callR (pc := 6) (ws := (xC cy xd sX aX uG es ea sT aT tT pT qT ma sL aL tL pL qL sK aK tK pK qK sH rH uH)) (q0 := 28) (ci := 1) (rest := []) (st' := [.int r1]) C (k_X1_allBridges hr1) okX1_allBridges q3_60 rfl rfl xC_subL rfl rfl rfl (Nat.le_of_ble_eq_true rfl) ⟨Nat.le_of_ble_eq_true rfl, Nat.le_of_ble_eq_true rfl⟩ dX6_safeWays_6 ?_
  refine tt_istore_n (pc := 9) (L' := [(3, .int r1), (2, .int (0 : Int32)), (0, .ref (xd 0 0)), (1, .int a1)]) C dX6_safeWays_9 rfl (by decide) rfl ?_
  refine tt_iconst (pc := 10) (v := (0 : Int32)) C dX6_safeWays_10 (by decide) ?_
  refine tt_istore (pc := 11) (L' := [(4, .int (0 : Int32)), (3, .int r1), (2, .int (0 : Int32)), (0, .ref (xd 0 0)), (1, .int a1)]) C dX6_safeWays_11 (by decide) rfl ?_
  refine tt_locs (L' := [(0, .ref (xd 0 0)), (1, .int a1), (2, .int (0 : Int32)), (3, .int r1), (4, .int (0 : Int32))]) [3, 4, 2, 1, 0] rfl (l_X6_safeWays_13 C (fun x2_7 hf => ?_) hf)
  refine tt_iload_n (pc := 51) (k := 0) C dX6_safeWays_51 rfl rfl ?_
  obtain rfl := Option.some.inj hf
  exact tt_ireturn (pc := 52) C rfl rfl rfl dX6_safeWays_52
theorem dX6_commonDivisor_0 : decode cX6_commonDivisor 0 = .ok (.iload_n 0, 1) := by decide +kernel
theorem dX6_commonDivisor_1 : decode cX6_commonDivisor 1 = .ok (.istore_n 2, 1) := by decide +kernel
theorem dX6_commonDivisor_2 : decode cX6_commonDivisor 2 = .ok (.iload_n 1, 1) := by decide +kernel
theorem dX6_commonDivisor_3 : decode cX6_commonDivisor 3 = .ok (.istore_n 3, 1) := by decide +kernel
theorem dX6_commonDivisor_4 : decode cX6_commonDivisor 4 = .ok (.iconst 0, 1) := by decide +kernel
theorem dX6_commonDivisor_5 : decode cX6_commonDivisor 5 = .ok (.istore 4, 2) := by decide +kernel
theorem dX6_commonDivisor_7 : decode cX6_commonDivisor 7 = .ok (.iload 4, 2) := by decide +kernel
theorem dX6_commonDivisor_9 : decode cX6_commonDivisor 9 = .ok (.sipush 1000, 3) := by decide +kernel
theorem dX6_commonDivisor_12 : decode cX6_commonDivisor 12 = .ok (.if_icmp .ge 23, 3) := by decide +kernel
theorem dX6_commonDivisor_15 : decode cX6_commonDivisor 15 = .ok (.iload_n 3, 1) := by decide +kernel
theorem dX6_commonDivisor_16 : decode cX6_commonDivisor 16 = .ok (.ifCond .eq 19, 3) := by decide +kernel
theorem dX6_commonDivisor_19 : decode cX6_commonDivisor 19 = .ok (.iload_n 2, 1) := by decide +kernel
theorem dX6_commonDivisor_20 : decode cX6_commonDivisor 20 = .ok (.iload_n 3, 1) := by decide +kernel
theorem dX6_commonDivisor_21 : decode cX6_commonDivisor 21 = .ok (.irem, 1) := by decide +kernel
theorem dX6_commonDivisor_22 : decode cX6_commonDivisor 22 = .ok (.istore 5, 2) := by decide +kernel
theorem dX6_commonDivisor_24 : decode cX6_commonDivisor 24 = .ok (.iload_n 3, 1) := by decide +kernel
theorem dX6_commonDivisor_25 : decode cX6_commonDivisor 25 = .ok (.istore_n 2, 1) := by decide +kernel
theorem dX6_commonDivisor_26 : decode cX6_commonDivisor 26 = .ok (.iload 5, 2) := by decide +kernel
theorem dX6_commonDivisor_28 : decode cX6_commonDivisor 28 = .ok (.istore_n 3, 1) := by decide +kernel
theorem dX6_commonDivisor_29 : decode cX6_commonDivisor 29 = .ok (.iinc 4 1, 3) := by decide +kernel
theorem dX6_commonDivisor_32 : decode cX6_commonDivisor 32 = .ok (.goto (-25), 3) := by decide +kernel
theorem dX6_commonDivisor_35 : decode cX6_commonDivisor 35 = .ok (.iload_n 2, 1) := by decide +kernel
theorem dX6_commonDivisor_36 : decode cX6_commonDivisor 36 = .ok (.ireturn, 1) := by decide +kernel
set_option maxHeartbeats 4000000 in
set_option maxRecDepth 100000 in
theorem l_X6_commonDivisor_7 {p : Program} {l : Launch} {e : Env} {s : State} {m : MethodId} {args : Array Value} {below : List Frame} {meth : Method} {c : Code} {D : va_G} {cy : Nat → ClassId} {A : Nat → Prop} {Bd : Nat} {xa : Xa}  {β : Type} {vO : Option Value} {wO : va_W} {N : Nat}  {kx : Int32 → Option (β)} {out : β} (C : CC p s m args meth c cX6_commonDivisor RX6 6 (some .int) D cy A true Bd xa) (hk : ∀ (x2 : Int32), kx x2 = some out → TT p l e { frames := 0, cells := 0, slots := 0, locals := 0 } s m args below meth c 6 D A true vO wO 35 [(2, .int x2)] [] []) {n : Nat} {v2 : Int32} {v3 : Int32} {v4 : Int32} (hf : f_X6_commonDivisor_L7 N kx n v2 v3 v4 = some out) : TT p l e { frames := 0, cells := 0, slots := 0, locals := 0 } s m args below meth c 6 D A true vO wO 7 [(2, .int v2), (3, .int v3), (4, .int v4)] [] [] := by
  induction n generalizing v2 v3 v4 with
  | zero => cases hf
  | succ n ih =>
    rw [f_X6_commonDivisor_L7] at hf
    refine tt_iload (pc := 7) (k := 2) C dX6_commonDivisor_7 rfl ?_
    refine tt_sipush (pc := 9) (v := (1000 : Int32)) C dX6_commonDivisor_9 (by decide) ?_
    refine tt_icmp_ge (pc := 12) (tgt := 35) C dX6_commonDivisor_12 (by decide) hf (fun hf => ?_) (fun hf => ?_)
    · exact tt_locs [0] rfl (hk _ hf)
    · refine tt_iload_n (pc := 15) (k := 1) C dX6_commonDivisor_15 rfl rfl ?_
      refine tt_if_eq (pc := 16) (tgt := 35) C dX6_commonDivisor_16 (by decide) hf (fun hf => ?_) (fun hf => ?_)
      · exact tt_locs [0] rfl (hk _ hf)
      · refine tt_iload_n (pc := 19) (k := 0) C dX6_commonDivisor_19 rfl rfl ?_
        refine tt_iload_n (pc := 20) (k := 1) C dX6_commonDivisor_20 rfl rfl ?_
        refine tt_irem (pc := 21) C dX6_commonDivisor_21 hf (fun hf => ?_)
        refine tt_istore (pc := 22) (L' := [(5, .int (v2 - v2 / v3 * v3)), (2, .int v2), (3, .int v3), (4, .int v4)]) C dX6_commonDivisor_22 (by decide) rfl ?_
        refine tt_iload_n (pc := 24) (k := 2) C dX6_commonDivisor_24 rfl rfl ?_
        refine tt_istore_n (pc := 25) (L' := [(2, .int v3), (5, .int (v2 - v2 / v3 * v3)), (3, .int v3), (4, .int v4)]) C dX6_commonDivisor_25 rfl (by decide) rfl ?_
        refine tt_iload (pc := 26) (k := 1) C dX6_commonDivisor_26 rfl ?_
        refine tt_istore_n (pc := 28) (L' := [(3, .int (v2 - v2 / v3 * v3)), (2, .int v3), (5, .int (v2 - v2 / v3 * v3)), (4, .int v4)]) C dX6_commonDivisor_28 rfl (by decide) rfl ?_
        refine tt_iinc (pc := 29) (k := 3) (v := (v4 + 1)) (L' := [(4, .int (v4 + 1)), (3, .int (v2 - v2 / v3 * v3)), (2, .int v3), (5, .int (v2 - v2 / v3 * v3))]) C dX6_commonDivisor_29 rfl rfl (by decide) rfl ?_
        refine tt_goto (pc := 32) (tgt := 7) C dX6_commonDivisor_32 (by decide) ?_
        exact tt_locs [2, 1, 0] rfl (ih hf)
set_option maxHeartbeats 4000000 in
set_option maxRecDepth 100000 in
theorem k_X6_commonDivisor {l : Launch} {D : va_G} {cy : Nat → ClassId} {Bd : Nat} {xa : Xa}  {N : Nat} {a1 : Int32} {a2 : Int32} {out : Int32} (hf : f_X6_commonDivisor N a1 a2 = some out) : KC l yX6_commonDivisor cX6_commonDivisor 6 (some .int) 0 0 true D cy Bd xa [.int a1, .int a2] [] (some (.int out)) [] := by
  refine kc_start (own := RX6) (by decide +kernel) rfl (Nat.le_of_ble_eq_true rfl) ?_
  intro p e s m args below meth c A C
  unfold f_X6_commonDivisor at hf
  refine tt_locs (L' := [(0, .int a1), (1, .int a2)]) [0, 1] rfl ?_
  refine tt_iload_n (pc := 0) (k := 0) C dX6_commonDivisor_0 rfl rfl ?_
  refine tt_istore_n (pc := 1) (L' := [(2, .int a1), (0, .int a1), (1, .int a2)]) C dX6_commonDivisor_1 rfl (by decide) rfl ?_
  refine tt_iload_n (pc := 2) (k := 2) C dX6_commonDivisor_2 rfl rfl ?_
  refine tt_istore_n (pc := 3) (L' := [(3, .int a2), (2, .int a1), (0, .int a1), (1, .int a2)]) C dX6_commonDivisor_3 rfl (by decide) rfl ?_
  refine tt_iconst (pc := 4) (v := (0 : Int32)) C dX6_commonDivisor_4 (by decide) ?_
  refine tt_istore (pc := 5) (L' := [(4, .int (0 : Int32)), (3, .int a2), (2, .int a1), (0, .int a1), (1, .int a2)]) C dX6_commonDivisor_5 (by decide) rfl ?_
  refine tt_locs (L' := [(2, .int a1), (3, .int a2), (4, .int (0 : Int32))]) [2, 1, 0] rfl (l_X6_commonDivisor_7 C (fun x2_1 hf => ?_) hf)
  refine tt_iload_n (pc := 35) (k := 0) C dX6_commonDivisor_35 rfl rfl ?_
  obtain rfl := Option.some.inj hf
  exact tt_ireturn (pc := 36) C rfl rfl rfl dX6_commonDivisor_36
theorem dX6_partOf_0 : decode cX6_partOf 0 = .ok (.iload_n 0, 1) := by decide +kernel
theorem dX6_partOf_1 : decode cX6_partOf 1 = .ok (.iload_n 1, 1) := by decide +kernel
theorem dX6_partOf_2 : decode cX6_partOf 2 = .ok (.invokestatic 348, 3) := by decide +kernel
theorem dX6_partOf_5 : decode cX6_partOf 5 = .ok (.istore_n 3, 1) := by decide +kernel
theorem dX6_partOf_6 : decode cX6_partOf 6 = .ok (.iload_n 0, 1) := by decide +kernel
theorem dX6_partOf_7 : decode cX6_partOf 7 = .ok (.ifCond .eq 11, 3) := by decide +kernel
theorem dX6_partOf_10 : decode cX6_partOf 10 = .ok (.iload_n 1, 1) := by decide +kernel
theorem dX6_partOf_11 : decode cX6_partOf 11 = .ok (.ifCond .eq 7, 3) := by decide +kernel
theorem dX6_partOf_14 : decode cX6_partOf 14 = .ok (.iload_n 3, 1) := by decide +kernel
theorem dX6_partOf_15 : decode cX6_partOf 15 = .ok (.ifCond .ne 13, 3) := by decide +kernel
theorem dX6_partOf_18 : decode cX6_partOf 18 = .ok (.iload_n 2, 1) := by decide +kernel
theorem dX6_partOf_19 : decode cX6_partOf 19 = .ok (.ifCond .ne 7, 3) := by decide +kernel
theorem dX6_partOf_22 : decode cX6_partOf 22 = .ok (.lconst 0, 1) := by decide +kernel
theorem dX6_partOf_23 : decode cX6_partOf 23 = .ok (.goto 4, 3) := by decide +kernel
theorem dX6_partOf_26 : decode cX6_partOf 26 = .ok (.lconst 1, 1) := by decide +kernel
theorem dX6_partOf_27 : decode cX6_partOf 27 = .ok (.lreturn, 1) := by decide +kernel
theorem dX6_partOf_28 : decode cX6_partOf 28 = .ok (.iload_n 2, 1) := by decide +kernel
theorem dX6_partOf_29 : decode cX6_partOf 29 = .ok (.ifCond .ne 10, 3) := by decide +kernel
theorem dX6_partOf_32 : decode cX6_partOf 32 = .ok (.iload_n 0, 1) := by decide +kernel
theorem dX6_partOf_33 : decode cX6_partOf 33 = .ok (.iload_n 3, 1) := by decide +kernel
theorem dX6_partOf_34 : decode cX6_partOf 34 = .ok (.idiv, 1) := by decide +kernel
theorem dX6_partOf_35 : decode cX6_partOf 35 = .ok (.i2l, 1) := by decide +kernel
theorem dX6_partOf_36 : decode cX6_partOf 36 = .ok (.goto 7, 3) := by decide +kernel
theorem dX6_partOf_39 : decode cX6_partOf 39 = .ok (.iload_n 1, 1) := by decide +kernel
theorem dX6_partOf_40 : decode cX6_partOf 40 = .ok (.iload_n 3, 1) := by decide +kernel
theorem dX6_partOf_41 : decode cX6_partOf 41 = .ok (.idiv, 1) := by decide +kernel
theorem dX6_partOf_42 : decode cX6_partOf 42 = .ok (.i2l, 1) := by decide +kernel
theorem dX6_partOf_43 : decode cX6_partOf 43 = .ok (.lreturn, 1) := by decide +kernel
set_option maxHeartbeats 4000000 in
set_option maxRecDepth 100000 in
theorem k_X6_partOf {l : Launch} {D : va_G} {cy : Nat → ClassId} {Bd : Nat} {xa : Xa}  {N : Nat} {a1 : Int32} {a2 : Int32} {a3 : Int32} {out : Int64} (hf : f_X6_partOf N a1 a2 a3 = some out) : KC l yX6_partOf cX6_partOf 4 (some .long) 1 25 true D cy Bd xa [.int a1, .int a2, .int a3] [] (some (.long out)) [] := by
  refine kc_start (own := RX6) (by decide +kernel) rfl (Nat.le_of_ble_eq_true rfl) ?_
  intro p e s m args below meth c A C
  unfold f_X6_partOf at hf
  refine tt_locs (L' := [(0, .int a1), (1, .int a2), (2, .int a3)]) [0, 1, 2] rfl ?_
  refine tt_iload_n (pc := 0) (k := 0) C dX6_partOf_0 rfl rfl ?_
  refine tt_iload_n (pc := 1) (k := 1) C dX6_partOf_1 rfl rfl ?_
  obtain ⟨r1, hr1, hf⟩ := bind_some hf
  refine tt_callS (pc := 2) (ws := []) (rest := []) (st' := [.int r1]) C (k_X6_commonDivisor hr1) okX6_commonDivisor q4_34 (fun _ h => absurd h List.not_mem_nil) rfl rfl rfl (Nat.le_of_ble_eq_true rfl) ⟨Nat.le_of_ble_eq_true rfl, Nat.le_of_ble_eq_true rfl⟩ dX6_partOf_2 ?_
  refine tt_istore_n (pc := 5) (L' := [(3, .int r1), (0, .int a1), (1, .int a2), (2, .int a3)]) C dX6_partOf_5 rfl (by decide) rfl ?_
  refine tt_iload_n (pc := 6) (k := 1) C dX6_partOf_6 rfl rfl ?_
  refine tt_if_eq (pc := 7) (tgt := 18) C dX6_partOf_7 (by decide) hf (fun hf => ?_) (fun hf => ?_)
  · refine tt_iload_n (pc := 18) (k := 3) C dX6_partOf_18 rfl rfl ?_
    have k3 : TT p l e { frames := 1, cells := 0, slots := 0, locals := 25 } s m args below meth c 4 D A true (some (.long out)) [] 27 [] [.long (if a3 = 0 then (0 : Int64) else (1 : Int64))] [] := by
      obtain rfl := Option.some.inj hf
      exact tt_lreturn (pc := 27) C rfl rfl rfl dX6_partOf_27
    refine tr_if_ne (pc := 19) (tgt := 26) C dX6_partOf_19 (by decide) (fun c2 => ?_) (fun c2 => ?_)
    · refine tt_lconst (pc := 26) (v := (1 : Int64)) C dX6_partOf_26 rfl ?_
      try simp only [if_neg c2] at k3 ⊢
      exact tt_locs [] rfl k3
    · refine tt_lconst (pc := 22) (v := (0 : Int64)) C dX6_partOf_22 rfl ?_
      refine tt_goto (pc := 23) (tgt := 27) C dX6_partOf_23 (by decide) ?_
      try simp only [if_pos c2] at k3 ⊢
      exact tt_locs [] rfl k3
  · refine tt_iload_n (pc := 10) (k := 2) C dX6_partOf_10 rfl rfl ?_
    refine tt_if_eq (pc := 11) (tgt := 18) C dX6_partOf_11 (by decide) hf (fun hf => ?_) (fun hf => ?_)
    · refine tt_iload_n (pc := 18) (k := 3) C dX6_partOf_18 rfl rfl ?_
      have k5 : TT p l e { frames := 1, cells := 0, slots := 0, locals := 25 } s m args below meth c 4 D A true (some (.long out)) [] 27 [] [.long (if a3 = 0 then (0 : Int64) else (1 : Int64))] [] := by
        obtain rfl := Option.some.inj hf
        exact tt_lreturn (pc := 27) C rfl rfl rfl dX6_partOf_27
      refine tr_if_ne (pc := 19) (tgt := 26) C dX6_partOf_19 (by decide) (fun c4 => ?_) (fun c4 => ?_)
      · refine tt_lconst (pc := 26) (v := (1 : Int64)) C dX6_partOf_26 rfl ?_
        try simp only [if_neg c4] at k5 ⊢
        exact tt_locs [] rfl k5
      · refine tt_lconst (pc := 22) (v := (0 : Int64)) C dX6_partOf_22 rfl ?_
        refine tt_goto (pc := 23) (tgt := 27) C dX6_partOf_23 (by decide) ?_
        try simp only [if_pos c4] at k5 ⊢
        exact tt_locs [] rfl k5
    · refine tt_iload_n (pc := 14) (k := 0) C dX6_partOf_14 rfl rfl ?_
      refine tt_if_ne (pc := 15) (tgt := 28) C dX6_partOf_15 (by decide) hf (fun hf => ?_) (fun hf => ?_)
      · refine tt_iload_n (pc := 28) (k := 3) C dX6_partOf_28 rfl rfl ?_
        obtain ⟨j6, hj6, hf⟩ := bind_some hf
        have k7 : TT p l e { frames := 1, cells := 0, slots := 0, locals := 25 } s m args below meth c 4 D A true (some (.long out)) [] 43 [] [.long j6] [] := by
          obtain rfl := Option.some.inj hf
          exact tt_lreturn (pc := 43) C rfl rfl rfl dX6_partOf_43
        refine tt_if_ne (pc := 29) (tgt := 39) C dX6_partOf_29 (by decide) hj6 (fun hj6 => ?_) (fun hj6 => ?_)
        · refine tt_iload_n (pc := 39) (k := 2) C dX6_partOf_39 rfl rfl ?_
          refine tt_iload_n (pc := 40) (k := 0) C dX6_partOf_40 rfl rfl ?_
          refine tt_idiv (pc := 41) C dX6_partOf_41 hj6 (fun hj6 => ?_)
          refine tt_i2l (pc := 42) C dX6_partOf_42 ?_
          obtain rfl := Option.some.inj hj6
          exact tt_locs [] rfl k7
        · refine tt_iload_n (pc := 32) (k := 1) C dX6_partOf_32 rfl rfl ?_
          refine tt_iload_n (pc := 33) (k := 0) C dX6_partOf_33 rfl rfl ?_
          refine tt_idiv (pc := 34) C dX6_partOf_34 hj6 (fun hj6 => ?_)
          refine tt_i2l (pc := 35) C dX6_partOf_35 ?_
          refine tt_goto (pc := 36) (tgt := 43) C dX6_partOf_36 (by decide) ?_
          obtain rfl := Option.some.inj hj6
          exact tt_locs [] rfl k7
      · refine tt_iload_n (pc := 18) (k := 3) C dX6_partOf_18 rfl rfl ?_
        have k9 : TT p l e { frames := 1, cells := 0, slots := 0, locals := 25 } s m args below meth c 4 D A true (some (.long out)) [] 27 [] [.long (if a3 = 0 then (0 : Int64) else (1 : Int64))] [] := by
          obtain rfl := Option.some.inj hf
          exact tt_lreturn (pc := 27) C rfl rfl rfl dX6_partOf_27
        refine tr_if_ne (pc := 19) (tgt := 26) C dX6_partOf_19 (by decide) (fun c8 => ?_) (fun c8 => ?_)
        · refine tt_lconst (pc := 26) (v := (1 : Int64)) C dX6_partOf_26 rfl ?_
          try simp only [if_neg c8] at k9 ⊢
          exact tt_locs [] rfl k9
        · refine tt_lconst (pc := 22) (v := (0 : Int64)) C dX6_partOf_22 rfl ?_
          refine tt_goto (pc := 23) (tgt := 27) C dX6_partOf_23 (by decide) ?_
          try simp only [if_pos c8] at k9 ⊢
          exact tt_locs [] rfl k9
theorem dX6_down_0 : decode cX6_down 0 = .ok (.iload_n 1, 1) := by decide +kernel
theorem dX6_down_1 : decode cX6_down 1 = .ok (.iconst 2, 1) := by decide +kernel
theorem dX6_down_2 : decode cX6_down 2 = .ok (.if_icmp .ge 10, 3) := by decide +kernel
theorem dX6_down_5 : decode cX6_down 5 = .ok (.aload_n 0, 1) := by decide +kernel
theorem dX6_down_6 : decode cX6_down 6 = .ok (.bipush (-4), 2) := by decide +kernel
theorem dX6_down_8 : decode cX6_down 8 = .ok (.invokevirtual 194, 3) := by decide +kernel
theorem dX6_down_11 : decode cX6_down 11 = .ok (.lreturn, 1) := by decide +kernel
theorem dX6_down_12 : decode cX6_down 12 = .ok (.iload_n 1, 1) := by decide +kernel
theorem dX6_down_13 : decode cX6_down 13 = .ok (.bipush 20, 2) := by decide +kernel
theorem dX6_down_15 : decode cX6_down 15 = .ok (.if_icmp .le 10, 3) := by decide +kernel
theorem dX6_down_18 : decode cX6_down 18 = .ok (.aload_n 0, 1) := by decide +kernel
theorem dX6_down_19 : decode cX6_down 19 = .ok (.bipush (-6), 2) := by decide +kernel
theorem dX6_down_21 : decode cX6_down 21 = .ok (.invokevirtual 194, 3) := by decide +kernel
theorem dX6_down_24 : decode cX6_down 24 = .ok (.lreturn, 1) := by decide +kernel
theorem dX6_down_25 : decode cX6_down 25 = .ok (.iload_n 2, 1) := by decide +kernel
theorem dX6_down_26 : decode cX6_down 26 = .ok (.ifCond .eq 15, 3) := by decide +kernel
theorem dX6_down_29 : decode cX6_down 29 = .ok (.iload_n 2, 1) := by decide +kernel
theorem dX6_down_30 : decode cX6_down 30 = .ok (.iconst 1, 1) := by decide +kernel
theorem dX6_down_31 : decode cX6_down 31 = .ok (.if_icmp .eq 10, 3) := by decide +kernel
theorem dX6_down_34 : decode cX6_down 34 = .ok (.aload_n 0, 1) := by decide +kernel
theorem dX6_down_35 : decode cX6_down 35 = .ok (.bipush (-2), 2) := by decide +kernel
theorem dX6_down_37 : decode cX6_down 37 = .ok (.invokevirtual 194, 3) := by decide +kernel
theorem dX6_down_40 : decode cX6_down 40 = .ok (.lreturn, 1) := by decide +kernel
theorem dX6_down_41 : decode cX6_down 41 = .ok (.aload_n 0, 1) := by decide +kernel
theorem dX6_down_42 : decode cX6_down 42 = .ok (.iload_n 1, 1) := by decide +kernel
theorem dX6_down_43 : decode cX6_down 43 = .ok (.invokevirtual 239, 3) := by decide +kernel
theorem dX6_down_46 : decode cX6_down 46 = .ok (.iload_n 1, 1) := by decide +kernel
theorem dX6_down_47 : decode cX6_down 47 = .ok (.aload_n 0, 1) := by decide +kernel
theorem dX6_down_48 : decode cX6_down 48 = .ok (.getfield 10, 3) := by decide +kernel
theorem dX6_down_51 : decode cX6_down 51 = .ok (.getfield 94, 3) := by decide +kernel
theorem dX6_down_54 : decode cX6_down 54 = .ok (.invokestatic 242, 3) := by decide +kernel
theorem dX6_down_57 : decode cX6_down 57 = .ok (.iload_n 2, 1) := by decide +kernel
theorem dX6_down_58 : decode cX6_down 58 = .ok (.invokestatic 245, 3) := by decide +kernel
theorem dX6_down_61 : decode cX6_down 61 = .ok (.lreturn, 1) := by decide +kernel
set_option maxHeartbeats 4000000 in
set_option maxRecDepth 100000 in
theorem k_X6_down {l : Launch} {D : va_G} {cy : Nat → ClassId} {Bd : Nat} {xa : Xa} {xd : Nat → Nat → Nat} {N : Nat} {sX : Nat → Int32} {aX : Nat → Nat → Int32} {uG : Nat → Int32} {es : Nat → Int32} {ea : Nat → Nat → Int32} {sT : Nat → Int32} {aT : Nat → Nat → Int32} {tT : Nat → Nat → Int32} {pT : Nat → Int32} {qT : Nat → Nat → Int32} {ma : Nat → Nat → Int32} {sL : Nat → Int32} {aL : Nat → Nat → Int32} {tL : Nat → Nat → Int32} {pL : Nat → Int32} {qL : Nat → Nat → Int32} {sK : Nat → Int32} {aK : Nat → Nat → Int32} {tK : Nat → Nat → Int32} {pK : Nat → Int32} {qK : Nat → Nat → Int32} {sH : Nat → Nat → Int32} {rH : Nat → Nat → Int64} {uH : Nat → Nat → Int32} {a1 : Int32} {a2 : Int32} {out : Int64 × (Nat → Nat → Int32)} (hf : f_X6_down N aX sL aL tL a1 a2 = some out) : KC l yX6_down cX6_down 3 (some .long) 7 166 false D cy Bd xa [.ref (xd 0 0), .int a1, .int a2] (xC cy xd sX aX uG es ea sT aT tT pT qT ma sL aL tL pL qL sK aK tK pK qK sH rH uH) (some (.long out.1)) (xC cy xd sX out.2 uG es ea sT aT tT pT qT ma sL aL tL pL qL sK aK tK pK qK sH rH uH) := by
  refine kc_start (own := RX6) (by decide +kernel) rfl (Nat.le_of_ble_eq_true rfl) ?_
  intro p e s m args below meth c A C
  unfold f_X6_down at hf
  refine tt_locs (L' := [(0, .ref (xd 0 0)), (1, .int a1), (2, .int a2)]) [0, 1, 2] rfl ?_
  refine tt_iload_n (pc := 0) (k := 1) C dX6_down_0 rfl rfl ?_
  refine tt_iconst (pc := 1) (v := (2 : Int32)) C dX6_down_1 (by decide) ?_
  refine tt_icmp_ge (pc := 2) (tgt := 12) C dX6_down_2 (by decide) hf (fun hf => ?_) (fun hf => ?_)
  · refine tt_iload_n (pc := 12) (k := 1) C dX6_down_12 rfl rfl ?_
    refine tt_bipush (pc := 13) (v := (20 : Int32)) C dX6_down_13 (by decide) ?_
    refine tt_icmp_le (pc := 15) (tgt := 25) C dX6_down_15 (by decide) hf (fun hf => ?_) (fun hf => ?_)
    · refine tt_iload_n (pc := 25) (k := 2) C dX6_down_25 rfl rfl ?_
      refine tt_if_eq (pc := 26) (tgt := 41) C dX6_down_26 (by decide) hf (fun hf => ?_) (fun hf => ?_)
      · refine tt_aload_n (pc := 41) (k := 0) C dX6_down_41 rfl rfl ?_
        refine tt_iload_n (pc := 42) (k := 1) C dX6_down_42 rfl rfl ?_
        obtain ⟨r1, hr1, hf⟩ := bind_some hf
        refine tt_callR (pc := 43) (ws := (xC cy xd sX aX uG es ea sT aT tT pT qT ma sL aL tL pL qL sK aK tK pK qK sH rH uH)) (q0 := 0) (ci := 6) (rest := []) (st' := [.int r1]) C (k_X6_safeWays hr1) okX6_safeWays q4_18 rfl xC_obj (fun _ h => h) rfl rfl rfl (Nat.le_of_ble_eq_true rfl) ⟨Nat.le_of_ble_eq_true rfl, Nat.le_of_ble_eq_true rfl⟩ dX6_down_43 ?_
        refine tt_iload_n (pc := 46) (k := 1) C dX6_down_46 rfl rfl ?_
        refine tt_aload_n (pc := 47) (k := 0) C dX6_down_47 rfl rfl ?_
        refine tt_get (pc := 48) (ws := (xC cy xd sX aX uG es ea sT aT tT pT qT ma sL aL tL pL qL sK aK tK pK qK sH rH uH)) (ci := 6) (v := .ref ((xd 1) 0)) C fiX6 rfl 0 xC_obj 0 (by decide) q1_219 rfl dX6_down_48 ?_
        refine tt_get (pc := 51) (ws := (xC cy xd sX aX uG es ea sT aT tT pT qT ma sL aL tL pL qL sK aK tK pK qK sH rH uH)) (ci := 1) (v := .int (sL 2)) C fiX1 rfl 28 rfl 2 (by decide) q1_88 rfl dX6_down_51 ?_
        obtain ⟨r2, hr2, hf⟩ := bind_some hf
        refine tt_callS (pc := 54) (ws := (xC cy xd sX aX uG es ea sT aT tT pT qT ma sL aL tL pL qL sK aK tK pK qK sH rH uH)) (rest := [.int r1]) (st' := [.int r2, .int r1]) C (k_X6_power hr2) okX6_power q4_28 (fun _ h => absurd h List.not_mem_nil) rfl rfl rfl (Nat.le_of_ble_eq_true rfl) ⟨Nat.le_of_ble_eq_true rfl, Nat.le_of_ble_eq_true rfl⟩ dX6_down_54 ?_
        refine tt_iload_n (pc := 57) (k := 2) C dX6_down_57 rfl rfl ?_
        obtain ⟨r3, hr3, hf⟩ := bind_some hf
        refine tt_callS (pc := 58) (ws := (xC cy xd sX aX uG es ea sT aT tT pT qT ma sL aL tL pL qL sK aK tK pK qK sH rH uH)) (rest := []) (st' := [.long r3]) C (k_X6_partOf hr3) okX6_partOf q4_31 (fun _ h => absurd h List.not_mem_nil) rfl rfl rfl (Nat.le_of_ble_eq_true rfl) ⟨Nat.le_of_ble_eq_true rfl, Nat.le_of_ble_eq_true rfl⟩ dX6_down_58 ?_
        obtain rfl := Option.some.inj hf
        exact tt_lreturn (pc := 61) C rfl rfl rfl dX6_down_61
      · refine tt_iload_n (pc := 29) (k := 2) C dX6_down_29 rfl rfl ?_
        refine tt_iconst (pc := 30) (v := (1 : Int32)) C dX6_down_30 (by decide) ?_
        refine tt_icmp_eq (pc := 31) (tgt := 41) C dX6_down_31 (by decide) hf (fun hf => ?_) (fun hf => ?_)
        · refine tt_aload_n (pc := 41) (k := 0) C dX6_down_41 rfl rfl ?_
          refine tt_iload_n (pc := 42) (k := 1) C dX6_down_42 rfl rfl ?_
          obtain ⟨r4, hr4, hf⟩ := bind_some hf
          refine tt_callR (pc := 43) (ws := (xC cy xd sX aX uG es ea sT aT tT pT qT ma sL aL tL pL qL sK aK tK pK qK sH rH uH)) (q0 := 0) (ci := 6) (rest := []) (st' := [.int r4]) C (k_X6_safeWays hr4) okX6_safeWays q4_18 rfl xC_obj (fun _ h => h) rfl rfl rfl (Nat.le_of_ble_eq_true rfl) ⟨Nat.le_of_ble_eq_true rfl, Nat.le_of_ble_eq_true rfl⟩ dX6_down_43 ?_
          refine tt_iload_n (pc := 46) (k := 1) C dX6_down_46 rfl rfl ?_
          refine tt_aload_n (pc := 47) (k := 0) C dX6_down_47 rfl rfl ?_
          refine tt_get (pc := 48) (ws := (xC cy xd sX aX uG es ea sT aT tT pT qT ma sL aL tL pL qL sK aK tK pK qK sH rH uH)) (ci := 6) (v := .ref ((xd 1) 0)) C fiX6 rfl 0 xC_obj 0 (by decide) q1_219 rfl dX6_down_48 ?_
          refine tt_get (pc := 51) (ws := (xC cy xd sX aX uG es ea sT aT tT pT qT ma sL aL tL pL qL sK aK tK pK qK sH rH uH)) (ci := 1) (v := .int (sL 2)) C fiX1 rfl 28 rfl 2 (by decide) q1_88 rfl dX6_down_51 ?_
          obtain ⟨r5, hr5, hf⟩ := bind_some hf
          refine tt_callS (pc := 54) (ws := (xC cy xd sX aX uG es ea sT aT tT pT qT ma sL aL tL pL qL sK aK tK pK qK sH rH uH)) (rest := [.int r4]) (st' := [.int r5, .int r4]) C (k_X6_power hr5) okX6_power q4_28 (fun _ h => absurd h List.not_mem_nil) rfl rfl rfl (Nat.le_of_ble_eq_true rfl) ⟨Nat.le_of_ble_eq_true rfl, Nat.le_of_ble_eq_true rfl⟩ dX6_down_54 ?_
          refine tt_iload_n (pc := 57) (k := 2) C dX6_down_57 rfl rfl ?_
          obtain ⟨r6, hr6, hf⟩ := bind_some hf
          refine tt_callS (pc := 58) (ws := (xC cy xd sX aX uG es ea sT aT tT pT qT ma sL aL tL pL qL sK aK tK pK qK sH rH uH)) (rest := []) (st' := [.long r6]) C (k_X6_partOf hr6) okX6_partOf q4_31 (fun _ h => absurd h List.not_mem_nil) rfl rfl rfl (Nat.le_of_ble_eq_true rfl) ⟨Nat.le_of_ble_eq_true rfl, Nat.le_of_ble_eq_true rfl⟩ dX6_down_58 ?_
          obtain rfl := Option.some.inj hf
          exact tt_lreturn (pc := 61) C rfl rfl rfl dX6_down_61
        · refine tt_aload_n (pc := 34) (k := 0) C dX6_down_34 rfl rfl ?_
          refine tt_bipush (pc := 35) (v := (-2 : Int32)) C dX6_down_35 (by decide) ?_
          obtain ⟨r7, hr7, hf⟩ := bind_some hf
          refine tt_callM (pc := 37) (ws := (xC cy xd sX aX uG es ea sT aT tT pT qT ma sL aL tL pL qL sK aK tK pK qK sH rH uH)) (q0 := 0) (ci := 6) (rest := []) (st' := [.long r7.1]) C rfl (k_X6_refusedLong hr7) okX6_refusedLong q3_181 rfl xC_obj rfl rfl rfl (Nat.le_of_ble_eq_true rfl) ⟨Nat.le_of_ble_eq_true rfl, Nat.le_of_ble_eq_true rfl⟩ dX6_down_37 ?_
          obtain rfl := Option.some.inj hf
          exact tt_lreturn (pc := 40) C rfl rfl rfl dX6_down_40
    · refine tt_aload_n (pc := 18) (k := 0) C dX6_down_18 rfl rfl ?_
      refine tt_bipush (pc := 19) (v := (-6 : Int32)) C dX6_down_19 (by decide) ?_
      obtain ⟨r8, hr8, hf⟩ := bind_some hf
      refine tt_callM (pc := 21) (ws := (xC cy xd sX aX uG es ea sT aT tT pT qT ma sL aL tL pL qL sK aK tK pK qK sH rH uH)) (q0 := 0) (ci := 6) (rest := []) (st' := [.long r8.1]) C rfl (k_X6_refusedLong hr8) okX6_refusedLong q3_181 rfl xC_obj rfl rfl rfl (Nat.le_of_ble_eq_true rfl) ⟨Nat.le_of_ble_eq_true rfl, Nat.le_of_ble_eq_true rfl⟩ dX6_down_21 ?_
      obtain rfl := Option.some.inj hf
      exact tt_lreturn (pc := 24) C rfl rfl rfl dX6_down_24
  · refine tt_aload_n (pc := 5) (k := 0) C dX6_down_5 rfl rfl ?_
    refine tt_bipush (pc := 6) (v := (-4 : Int32)) C dX6_down_6 (by decide) ?_
    obtain ⟨r9, hr9, hf⟩ := bind_some hf
    refine tt_callM (pc := 8) (ws := (xC cy xd sX aX uG es ea sT aT tT pT qT ma sL aL tL pL qL sK aK tK pK qK sH rH uH)) (q0 := 0) (ci := 6) (rest := []) (st' := [.long r9.1]) C rfl (k_X6_refusedLong hr9) okX6_refusedLong q3_181 rfl xC_obj rfl rfl rfl (Nat.le_of_ble_eq_true rfl) ⟨Nat.le_of_ble_eq_true rfl, Nat.le_of_ble_eq_true rfl⟩ dX6_down_8 ?_
    obtain rfl := Option.some.inj hf
    exact tt_lreturn (pc := 11) C rfl rfl rfl dX6_down_11
theorem dX1_allWarnings_0 : decode cX1_allWarnings 0 = .ok (.iconst 0, 1) := by decide +kernel
theorem dX1_allWarnings_1 : decode cX1_allWarnings 1 = .ok (.istore_n 1, 1) := by decide +kernel
theorem dX1_allWarnings_2 : decode cX1_allWarnings 2 = .ok (.iconst 0, 1) := by decide +kernel
theorem dX1_allWarnings_3 : decode cX1_allWarnings 3 = .ok (.istore_n 2, 1) := by decide +kernel
theorem dX1_allWarnings_4 : decode cX1_allWarnings 4 = .ok (.iload_n 2, 1) := by decide +kernel
theorem dX1_allWarnings_5 : decode cX1_allWarnings 5 = .ok (.aload_n 0, 1) := by decide +kernel
theorem dX1_allWarnings_6 : decode cX1_allWarnings 6 = .ok (.getfield 31, 3) := by decide +kernel
theorem dX1_allWarnings_9 : decode cX1_allWarnings 9 = .ok (.if_icmp .ge 43, 3) := by decide +kernel
theorem dX1_allWarnings_12 : decode cX1_allWarnings 12 = .ok (.iconst 0, 1) := by decide +kernel
theorem dX1_allWarnings_13 : decode cX1_allWarnings 13 = .ok (.istore_n 3, 1) := by decide +kernel
theorem dX1_allWarnings_14 : decode cX1_allWarnings 14 = .ok (.iload_n 3, 1) := by decide +kernel
theorem dX1_allWarnings_15 : decode cX1_allWarnings 15 = .ok (.aload_n 0, 1) := by decide +kernel
theorem dX1_allWarnings_16 : decode cX1_allWarnings 16 = .ok (.getfield 40, 3) := by decide +kernel
theorem dX1_allWarnings_19 : decode cX1_allWarnings 19 = .ok (.if_icmp .ge 27, 3) := by decide +kernel
theorem dX1_allWarnings_22 : decode cX1_allWarnings 22 = .ok (.iload_n 1, 1) := by decide +kernel
theorem dX1_allWarnings_23 : decode cX1_allWarnings 23 = .ok (.aload_n 0, 1) := by decide +kernel
theorem dX1_allWarnings_24 : decode cX1_allWarnings 24 = .ok (.aload_n 0, 1) := by decide +kernel
theorem dX1_allWarnings_25 : decode cX1_allWarnings 25 = .ok (.getfield 45, 3) := by decide +kernel
theorem dX1_allWarnings_28 : decode cX1_allWarnings 28 = .ok (.iload_n 3, 1) := by decide +kernel
theorem dX1_allWarnings_29 : decode cX1_allWarnings 29 = .ok (.aaload, 1) := by decide +kernel
theorem dX1_allWarnings_30 : decode cX1_allWarnings 30 = .ok (.iload_n 2, 1) := by decide +kernel
theorem dX1_allWarnings_31 : decode cX1_allWarnings 31 = .ok (.aload_n 0, 1) := by decide +kernel
theorem dX1_allWarnings_32 : decode cX1_allWarnings 32 = .ok (.invokevirtual 145, 3) := by decide +kernel
theorem dX1_allWarnings_35 : decode cX1_allWarnings 35 = .ok (.invokevirtual 148, 3) := by decide +kernel
theorem dX1_allWarnings_38 : decode cX1_allWarnings 38 = .ok (.iadd, 1) := by decide +kernel
theorem dX1_allWarnings_39 : decode cX1_allWarnings 39 = .ok (.istore_n 1, 1) := by decide +kernel
theorem dX1_allWarnings_40 : decode cX1_allWarnings 40 = .ok (.iinc 3 1, 3) := by decide +kernel
theorem dX1_allWarnings_43 : decode cX1_allWarnings 43 = .ok (.goto (-29), 3) := by decide +kernel
theorem dX1_allWarnings_46 : decode cX1_allWarnings 46 = .ok (.iinc 2 1, 3) := by decide +kernel
theorem dX1_allWarnings_49 : decode cX1_allWarnings 49 = .ok (.goto (-45), 3) := by decide +kernel
theorem dX1_allWarnings_52 : decode cX1_allWarnings 52 = .ok (.iload_n 1, 1) := by decide +kernel
theorem dX1_allWarnings_53 : decode cX1_allWarnings 53 = .ok (.ireturn, 1) := by decide +kernel
set_option maxHeartbeats 4000000 in
set_option maxRecDepth 100000 in
theorem l_X1_allWarnings_14 {p : Program} {l : Launch} {e : Env} {s : State} {m : MethodId} {args : Array Value} {below : List Frame} {meth : Method} {c : Code} {D : va_G} {cy : Nat → ClassId} {A : Nat → Prop} {Bd : Nat} {xa : Xa} {ad : Nat → Nat} {β : Type} {vO : Option Value} {wO : va_W} {N : Nat} {sc : Nat → Int32} {ar : Nat → Nat → Int32} {tr : Nat → Nat → Int32} {ps : Nat → Int32} {pa : Nat → Nat → Int32} {v2 : Int32} {kx : Int32 → Option (β)} {out : β} (C : CC p s m args meth c cX1_allWarnings RX1 4 (some .int) D cy A true Bd xa) (hk : ∀ (x1 : Int32), kx x1 = some out → TT p l e { frames := 5, cells := 0, slots := 0, locals := 119 } s m args below meth c 4 D A true vO wO 46 [(0, .ref (ad 0)), (1, .int x1), (2, .int v2)] [] (lC cy ad sc ar tr ps pa)) {n : Nat} {v1 : Int32} {v3 : Int32} (hf : f_X1_allWarnings_L14 N sc ar tr v2 kx n v1 v3 = some out) : TT p l e { frames := 5, cells := 0, slots := 0, locals := 119 } s m args below meth c 4 D A true vO wO 14 [(0, .ref (ad 0)), (1, .int v1), (2, .int v2), (3, .int v3)] [] (lC cy ad sc ar tr ps pa) := by
  induction n generalizing v1 v3 with
  | zero => cases hf
  | succ n ih =>
    rw [f_X1_allWarnings_L14] at hf
    refine tt_iload_n (pc := 14) (k := 3) C dX1_allWarnings_14 rfl rfl ?_
    refine tt_aload_n (pc := 15) (k := 0) C dX1_allWarnings_15 rfl rfl ?_
    refine tt_get (pc := 16) (ws := (lC cy ad sc ar tr ps pa)) (ci := 1) (v := .int (sc 9)) C fiX1 rfl 0 lC_obj 9 (by decide) q1_104 rfl dX1_allWarnings_16 ?_
    refine tt_icmp_ge (pc := 19) (tgt := 46) C dX1_allWarnings_19 (by decide) hf (fun hf => ?_) (fun hf => ?_)
    · exact tt_locs [0, 1, 2] rfl (hk _ hf)
    · refine tt_iload_n (pc := 22) (k := 1) C dX1_allWarnings_22 rfl rfl ?_
      refine tt_aload_n (pc := 23) (k := 0) C dX1_allWarnings_23 rfl rfl ?_
      refine tt_aload_n (pc := 24) (k := 0) C dX1_allWarnings_24 rfl rfl ?_
      refine tt_get (pc := 25) (ws := (lC cy ad sc ar tr ps pa)) (ci := 1) (v := .ref (ad 10)) C fiX1 rfl 0 lC_obj 10 (by decide) q1_106 rfl dX1_allWarnings_25 ?_
      refine tt_iload_n (pc := 28) (k := 3) C dX1_allWarnings_28 rfl rfl ?_
      refine tt_aaload (pc := 29) (ws := (lC cy ad sc ar tr ps pa)) (n := 4) (r := (fun j => ad (40 + j))) C 7 4 lC_get10 rfl hf (fun _ _ => rfl) dX1_allWarnings_29 (fun hf hlt1 => ?_)
      refine tt_iload_n (pc := 30) (k := 2) C dX1_allWarnings_30 rfl rfl ?_
      refine tt_aload_n (pc := 31) (k := 0) C dX1_allWarnings_31 rfl rfl ?_
      obtain ⟨r2, hr2, hf⟩ := bind_some hf
      refine tt_callR (pc := 32) (ws := (lC cy ad sc ar tr ps pa)) (q0 := 0) (ci := 1) (rest := [.int v2, .ref (ad (40 + (ix v3))), .ref (ad 0), .int v1]) (st' := [.int r2, .int v2, .ref (ad (40 + (ix v3))), .ref (ad 0), .int v1]) C (k_X1_allBridges hr2) okX1_allBridges q3_154 rfl lC_obj (fun _ h => h) rfl rfl rfl (Nat.le_of_ble_eq_true rfl) ⟨Nat.le_of_ble_eq_true rfl, Nat.le_of_ble_eq_true rfl⟩ dX1_allWarnings_32 ?_
      obtain ⟨r3, hr3, hf⟩ := bind_some hf
      refine tt_callR (pc := 35) (ws := (lC cy ad sc ar tr ps pa)) (q0 := 0) (ci := 1) (rest := [.int v1]) (st' := [.int r3, .int v1]) C (k_X1_warningOf hr3) okX1_warningOf q3_137 rfl lC_obj (sub_c (lC_tmem hlt1) (fun _ h => h)) rfl rfl rfl (Nat.le_of_ble_eq_true rfl) ⟨Nat.le_of_ble_eq_true rfl, Nat.le_of_ble_eq_true rfl⟩ dX1_allWarnings_35 ?_
      refine tt_iadd (pc := 38) C dX1_allWarnings_38 ?_
      refine tt_istore_n (pc := 39) (L' := [(1, .int (v1 + r3)), (0, .ref (ad 0)), (2, .int v2), (3, .int v3)]) C dX1_allWarnings_39 rfl (by decide) rfl ?_
      refine tt_iinc (pc := 40) (k := 3) (v := (v3 + 1)) (L' := [(3, .int (v3 + 1)), (1, .int (v1 + r3)), (0, .ref (ad 0)), (2, .int v2)]) C dX1_allWarnings_40 rfl rfl (by decide) rfl ?_
      refine tt_goto (pc := 43) (tgt := 14) C dX1_allWarnings_43 (by decide) ?_
      exact tt_locs [2, 1, 3, 0] rfl (ih hf)
set_option maxHeartbeats 4000000 in
set_option maxRecDepth 100000 in
theorem l_X1_allWarnings_4 {p : Program} {l : Launch} {e : Env} {s : State} {m : MethodId} {args : Array Value} {below : List Frame} {meth : Method} {c : Code} {D : va_G} {cy : Nat → ClassId} {A : Nat → Prop} {Bd : Nat} {xa : Xa} {ad : Nat → Nat} {β : Type} {vO : Option Value} {wO : va_W} {N : Nat} {sc : Nat → Int32} {ar : Nat → Nat → Int32} {tr : Nat → Nat → Int32} {ps : Nat → Int32} {pa : Nat → Nat → Int32} {kx : Int32 → Option (β)} {out : β} (C : CC p s m args meth c cX1_allWarnings RX1 4 (some .int) D cy A true Bd xa) (hk : ∀ (x1 : Int32), kx x1 = some out → TT p l e { frames := 5, cells := 0, slots := 0, locals := 119 } s m args below meth c 4 D A true vO wO 52 [(1, .int x1)] [] (lC cy ad sc ar tr ps pa)) {n : Nat} {v1 : Int32} {v2 : Int32} (hf : f_X1_allWarnings_L4 N sc ar tr kx n v1 v2 = some out) : TT p l e { frames := 5, cells := 0, slots := 0, locals := 119 } s m args below meth c 4 D A true vO wO 4 [(0, .ref (ad 0)), (1, .int v1), (2, .int v2)] [] (lC cy ad sc ar tr ps pa) := by
  induction n generalizing v1 v2 with
  | zero => cases hf
  | succ n ih =>
    rw [f_X1_allWarnings_L4] at hf
    refine tt_iload_n (pc := 4) (k := 2) C dX1_allWarnings_4 rfl rfl ?_
    refine tt_aload_n (pc := 5) (k := 0) C dX1_allWarnings_5 rfl rfl ?_
    refine tt_get (pc := 6) (ws := (lC cy ad sc ar tr ps pa)) (ci := 1) (v := .int (sc 6)) C fiX1 rfl 0 lC_obj 6 (by decide) q1_95 rfl dX1_allWarnings_6 ?_
    refine tt_icmp_ge (pc := 9) (tgt := 52) C dX1_allWarnings_9 (by decide) hf (fun hf => ?_) (fun hf => ?_)
    · exact tt_locs [1] rfl (hk _ hf)
    · refine tt_iconst (pc := 12) (v := (0 : Int32)) C dX1_allWarnings_12 (by decide) ?_
      refine tt_istore_n (pc := 13) (L' := [(3, .int (0 : Int32)), (0, .ref (ad 0)), (1, .int v1), (2, .int v2)]) C dX1_allWarnings_13 rfl (by decide) rfl ?_
      refine tt_locs (L' := [(0, .ref (ad 0)), (1, .int v1), (2, .int v2), (3, .int (0 : Int32))]) [1, 2, 3, 0] rfl (l_X1_allWarnings_14 C (fun x1_4 hf => ?_) hf)
      refine tt_iinc (pc := 46) (k := 2) (v := (v2 + 1)) (L' := [(2, .int (v2 + 1)), (0, .ref (ad 0)), (1, .int x1_4)]) C dX1_allWarnings_46 rfl rfl (by decide) rfl ?_
      refine tt_goto (pc := 49) (tgt := 4) C dX1_allWarnings_49 (by decide) ?_
      exact tt_locs [1, 2, 0] rfl (ih hf)
set_option maxHeartbeats 4000000 in
set_option maxRecDepth 100000 in
theorem k_X1_allWarnings {l : Launch} {D : va_G} {cy : Nat → ClassId} {Bd : Nat} {xa : Xa} {ad : Nat → Nat} {N : Nat} {sc : Nat → Int32} {ar : Nat → Nat → Int32} {tr : Nat → Nat → Int32} {ps : Nat → Int32} {pa : Nat → Nat → Int32} {out : Int32} (hf : f_X1_allWarnings N sc ar tr = some out) : KC l yX1_allWarnings cX1_allWarnings 4 (some .int) 5 119 true D cy Bd xa [.ref (ad 0)] (lC cy ad sc ar tr ps pa) (some (.int out)) (lC cy ad sc ar tr ps pa) := by
  refine kc_start (own := RX1) (by decide +kernel) rfl (Nat.le_of_ble_eq_true rfl) ?_
  intro p e s m args below meth c A C
  unfold f_X1_allWarnings at hf
  refine tt_locs (L' := [(0, .ref (ad 0))]) [0] rfl ?_
  refine tt_iconst (pc := 0) (v := (0 : Int32)) C dX1_allWarnings_0 (by decide) ?_
  refine tt_istore_n (pc := 1) (L' := [(1, .int (0 : Int32)), (0, .ref (ad 0))]) C dX1_allWarnings_1 rfl (by decide) rfl ?_
  refine tt_iconst (pc := 2) (v := (0 : Int32)) C dX1_allWarnings_2 (by decide) ?_
  refine tt_istore_n (pc := 3) (L' := [(2, .int (0 : Int32)), (1, .int (0 : Int32)), (0, .ref (ad 0))]) C dX1_allWarnings_3 rfl (by decide) rfl ?_
  refine tt_locs (L' := [(0, .ref (ad 0)), (1, .int (0 : Int32)), (2, .int (0 : Int32))]) [2, 1, 0] rfl (l_X1_allWarnings_4 C (fun x1_4 hf => ?_) hf)
  refine tt_iload_n (pc := 52) (k := 0) C dX1_allWarnings_52 rfl rfl ?_
  obtain rfl := Option.some.inj hf
  exact tt_ireturn (pc := 53) C rfl rfl rfl dX1_allWarnings_53
theorem dX6_mean_0 : decode cX6_mean 0 = .ok (.iload_n 1, 1) := by decide +kernel
theorem dX6_mean_1 : decode cX6_mean 1 = .ok (.ifCond .eq 15, 3) := by decide +kernel
theorem dX6_mean_4 : decode cX6_mean 4 = .ok (.iload_n 1, 1) := by decide +kernel
theorem dX6_mean_5 : decode cX6_mean 5 = .ok (.iconst 1, 1) := by decide +kernel
theorem dX6_mean_6 : decode cX6_mean 6 = .ok (.if_icmp .eq 10, 3) := by decide +kernel
theorem dX6_mean_9 : decode cX6_mean 9 = .ok (.aload_n 0, 1) := by decide +kernel
theorem dX6_mean_10 : decode cX6_mean 10 = .ok (.bipush (-2), 2) := by decide +kernel
theorem dX6_mean_12 : decode cX6_mean 12 = .ok (.invokevirtual 194, 3) := by decide +kernel
theorem dX6_mean_15 : decode cX6_mean 15 = .ok (.lreturn, 1) := by decide +kernel
theorem dX6_mean_16 : decode cX6_mean 16 = .ok (.aload_n 0, 1) := by decide +kernel
theorem dX6_mean_17 : decode cX6_mean 17 = .ok (.getfield 10, 3) := by decide +kernel
theorem dX6_mean_20 : decode cX6_mean 20 = .ok (.invokevirtual 249, 3) := by decide +kernel
theorem dX6_mean_23 : decode cX6_mean 23 = .ok (.aload_n 0, 1) := by decide +kernel
theorem dX6_mean_24 : decode cX6_mean 24 = .ok (.getfield 10, 3) := by decide +kernel
theorem dX6_mean_27 : decode cX6_mean 27 = .ok (.getfield 201, 3) := by decide +kernel
theorem dX6_mean_30 : decode cX6_mean 30 = .ok (.aload_n 0, 1) := by decide +kernel
theorem dX6_mean_31 : decode cX6_mean 31 = .ok (.getfield 10, 3) := by decide +kernel
theorem dX6_mean_34 : decode cX6_mean 34 = .ok (.getfield 204, 3) := by decide +kernel
theorem dX6_mean_37 : decode cX6_mean 37 = .ok (.imul, 1) := by decide +kernel
theorem dX6_mean_38 : decode cX6_mean 38 = .ok (.iload_n 1, 1) := by decide +kernel
theorem dX6_mean_39 : decode cX6_mean 39 = .ok (.invokestatic 245, 3) := by decide +kernel
theorem dX6_mean_42 : decode cX6_mean 42 = .ok (.lreturn, 1) := by decide +kernel
set_option maxHeartbeats 4000000 in
set_option maxRecDepth 100000 in
theorem k_X6_mean {l : Launch} {D : va_G} {cy : Nat → ClassId} {Bd : Nat} {xa : Xa} {xd : Nat → Nat → Nat} {N : Nat} {sX : Nat → Int32} {aX : Nat → Nat → Int32} {uG : Nat → Int32} {es : Nat → Int32} {ea : Nat → Nat → Int32} {sT : Nat → Int32} {aT : Nat → Nat → Int32} {tT : Nat → Nat → Int32} {pT : Nat → Int32} {qT : Nat → Nat → Int32} {ma : Nat → Nat → Int32} {sL : Nat → Int32} {aL : Nat → Nat → Int32} {tL : Nat → Nat → Int32} {pL : Nat → Int32} {qL : Nat → Nat → Int32} {sK : Nat → Int32} {aK : Nat → Nat → Int32} {tK : Nat → Nat → Int32} {pK : Nat → Int32} {qK : Nat → Nat → Int32} {sH : Nat → Nat → Int32} {rH : Nat → Nat → Int64} {uH : Nat → Nat → Int32} {a1 : Int32} {out : Int64 × (Nat → Nat → Int32)} (hf : f_X6_mean N aX sL aL tL a1 = some out) : KC l yX6_mean cX6_mean 2 (some .long) 6 142 false D cy Bd xa [.ref (xd 0 0), .int a1] (xC cy xd sX aX uG es ea sT aT tT pT qT ma sL aL tL pL qL sK aK tK pK qK sH rH uH) (some (.long out.1)) (xC cy xd sX out.2 uG es ea sT aT tT pT qT ma sL aL tL pL qL sK aK tK pK qK sH rH uH) := by
  refine kc_start (own := RX6) (by decide +kernel) rfl (Nat.le_of_ble_eq_true rfl) ?_
  intro p e s m args below meth c A C
  unfold f_X6_mean at hf
  refine tt_locs (L' := [(0, .ref (xd 0 0)), (1, .int a1)]) [0, 1] rfl ?_
  refine tt_iload_n (pc := 0) (k := 1) C dX6_mean_0 rfl rfl ?_
  refine tt_if_eq (pc := 1) (tgt := 16) C dX6_mean_1 (by decide) hf (fun hf => ?_) (fun hf => ?_)
  · refine tt_aload_n (pc := 16) (k := 0) C dX6_mean_16 rfl rfl ?_
    refine tt_get (pc := 17) (ws := (xC cy xd sX aX uG es ea sT aT tT pT qT ma sL aL tL pL qL sK aK tK pK qK sH rH uH)) (ci := 6) (v := .ref ((xd 1) 0)) C fiX6 rfl 0 xC_obj 0 (by decide) q1_219 rfl dX6_mean_17 ?_
    obtain ⟨r1, hr1, hf⟩ := bind_some hf
    refine tt_callR (pc := 20) (ws := (xC cy xd sX aX uG es ea sT aT tT pT qT ma sL aL tL pL qL sK aK tK pK qK sH rH uH)) (q0 := 28) (ci := 1) (rest := []) (st' := [.int r1]) C (k_X1_allWarnings hr1) okX1_allWarnings q4_41 rfl rfl xC_subL rfl rfl rfl (Nat.le_of_ble_eq_true rfl) ⟨Nat.le_of_ble_eq_true rfl, Nat.le_of_ble_eq_true rfl⟩ dX6_mean_20 ?_
    refine tt_aload_n (pc := 23) (k := 0) C dX6_mean_23 rfl rfl ?_
    refine tt_get (pc := 24) (ws := (xC cy xd sX aX uG es ea sT aT tT pT qT ma sL aL tL pL qL sK aK tK pK qK sH rH uH)) (ci := 6) (v := .ref ((xd 1) 0)) C fiX6 rfl 0 xC_obj 0 (by decide) q1_219 rfl dX6_mean_24 ?_
    refine tt_get (pc := 27) (ws := (xC cy xd sX aX uG es ea sT aT tT pT qT ma sL aL tL pL qL sK aK tK pK qK sH rH uH)) (ci := 1) (v := .int (sL 6)) C fiX1 rfl 28 rfl 6 (by decide) q1_97 rfl dX6_mean_27 ?_
    refine tt_aload_n (pc := 30) (k := 0) C dX6_mean_30 rfl rfl ?_
    refine tt_get (pc := 31) (ws := (xC cy xd sX aX uG es ea sT aT tT pT qT ma sL aL tL pL qL sK aK tK pK qK sH rH uH)) (ci := 6) (v := .ref ((xd 1) 0)) C fiX6 rfl 0 xC_obj 0 (by decide) q1_219 rfl dX6_mean_31 ?_
    refine tt_get (pc := 34) (ws := (xC cy xd sX aX uG es ea sT aT tT pT qT ma sL aL tL pL qL sK aK tK pK qK sH rH uH)) (ci := 1) (v := .int (sL 9)) C fiX1 rfl 28 rfl 9 (by decide) q1_105 rfl dX6_mean_34 ?_
    refine tt_imul (pc := 37) C dX6_mean_37 ?_
    refine tt_iload_n (pc := 38) (k := 1) C dX6_mean_38 rfl rfl ?_
    obtain ⟨r2, hr2, hf⟩ := bind_some hf
    refine tt_callS (pc := 39) (ws := (xC cy xd sX aX uG es ea sT aT tT pT qT ma sL aL tL pL qL sK aK tK pK qK sH rH uH)) (rest := []) (st' := [.long r2]) C (k_X6_partOf hr2) okX6_partOf q4_31 (fun _ h => absurd h List.not_mem_nil) rfl rfl rfl (Nat.le_of_ble_eq_true rfl) ⟨Nat.le_of_ble_eq_true rfl, Nat.le_of_ble_eq_true rfl⟩ dX6_mean_39 ?_
    obtain rfl := Option.some.inj hf
    exact tt_lreturn (pc := 42) C rfl rfl rfl dX6_mean_42
  · refine tt_iload_n (pc := 4) (k := 1) C dX6_mean_4 rfl rfl ?_
    refine tt_iconst (pc := 5) (v := (1 : Int32)) C dX6_mean_5 (by decide) ?_
    refine tt_icmp_eq (pc := 6) (tgt := 16) C dX6_mean_6 (by decide) hf (fun hf => ?_) (fun hf => ?_)
    · refine tt_aload_n (pc := 16) (k := 0) C dX6_mean_16 rfl rfl ?_
      refine tt_get (pc := 17) (ws := (xC cy xd sX aX uG es ea sT aT tT pT qT ma sL aL tL pL qL sK aK tK pK qK sH rH uH)) (ci := 6) (v := .ref ((xd 1) 0)) C fiX6 rfl 0 xC_obj 0 (by decide) q1_219 rfl dX6_mean_17 ?_
      obtain ⟨r3, hr3, hf⟩ := bind_some hf
      refine tt_callR (pc := 20) (ws := (xC cy xd sX aX uG es ea sT aT tT pT qT ma sL aL tL pL qL sK aK tK pK qK sH rH uH)) (q0 := 28) (ci := 1) (rest := []) (st' := [.int r3]) C (k_X1_allWarnings hr3) okX1_allWarnings q4_41 rfl rfl xC_subL rfl rfl rfl (Nat.le_of_ble_eq_true rfl) ⟨Nat.le_of_ble_eq_true rfl, Nat.le_of_ble_eq_true rfl⟩ dX6_mean_20 ?_
      refine tt_aload_n (pc := 23) (k := 0) C dX6_mean_23 rfl rfl ?_
      refine tt_get (pc := 24) (ws := (xC cy xd sX aX uG es ea sT aT tT pT qT ma sL aL tL pL qL sK aK tK pK qK sH rH uH)) (ci := 6) (v := .ref ((xd 1) 0)) C fiX6 rfl 0 xC_obj 0 (by decide) q1_219 rfl dX6_mean_24 ?_
      refine tt_get (pc := 27) (ws := (xC cy xd sX aX uG es ea sT aT tT pT qT ma sL aL tL pL qL sK aK tK pK qK sH rH uH)) (ci := 1) (v := .int (sL 6)) C fiX1 rfl 28 rfl 6 (by decide) q1_97 rfl dX6_mean_27 ?_
      refine tt_aload_n (pc := 30) (k := 0) C dX6_mean_30 rfl rfl ?_
      refine tt_get (pc := 31) (ws := (xC cy xd sX aX uG es ea sT aT tT pT qT ma sL aL tL pL qL sK aK tK pK qK sH rH uH)) (ci := 6) (v := .ref ((xd 1) 0)) C fiX6 rfl 0 xC_obj 0 (by decide) q1_219 rfl dX6_mean_31 ?_
      refine tt_get (pc := 34) (ws := (xC cy xd sX aX uG es ea sT aT tT pT qT ma sL aL tL pL qL sK aK tK pK qK sH rH uH)) (ci := 1) (v := .int (sL 9)) C fiX1 rfl 28 rfl 9 (by decide) q1_105 rfl dX6_mean_34 ?_
      refine tt_imul (pc := 37) C dX6_mean_37 ?_
      refine tt_iload_n (pc := 38) (k := 1) C dX6_mean_38 rfl rfl ?_
      obtain ⟨r4, hr4, hf⟩ := bind_some hf
      refine tt_callS (pc := 39) (ws := (xC cy xd sX aX uG es ea sT aT tT pT qT ma sL aL tL pL qL sK aK tK pK qK sH rH uH)) (rest := []) (st' := [.long r4]) C (k_X6_partOf hr4) okX6_partOf q4_31 (fun _ h => absurd h List.not_mem_nil) rfl rfl rfl (Nat.le_of_ble_eq_true rfl) ⟨Nat.le_of_ble_eq_true rfl, Nat.le_of_ble_eq_true rfl⟩ dX6_mean_39 ?_
      obtain rfl := Option.some.inj hf
      exact tt_lreturn (pc := 42) C rfl rfl rfl dX6_mean_42
    · refine tt_aload_n (pc := 9) (k := 0) C dX6_mean_9 rfl rfl ?_
      refine tt_bipush (pc := 10) (v := (-2 : Int32)) C dX6_mean_10 (by decide) ?_
      obtain ⟨r5, hr5, hf⟩ := bind_some hf
      refine tt_callM (pc := 12) (ws := (xC cy xd sX aX uG es ea sT aT tT pT qT ma sL aL tL pL qL sK aK tK pK qK sH rH uH)) (q0 := 0) (ci := 6) (rest := []) (st' := [.long r5.1]) C rfl (k_X6_refusedLong hr5) okX6_refusedLong q3_181 rfl xC_obj rfl rfl rfl (Nat.le_of_ble_eq_true rfl) ⟨Nat.le_of_ble_eq_true rfl, Nat.le_of_ble_eq_true rfl⟩ dX6_mean_12 ?_
      obtain rfl := Option.some.inj hf
      exact tt_lreturn (pc := 15) C rfl rfl rfl dX6_mean_15
theorem dX3_has_0 : decode cX3_has 0 = .ok (.iload_n 1, 1) := by decide +kernel
theorem dX3_has_1 : decode cX3_has 1 = .ok (.ifCond .lt 15, 3) := by decide +kernel
theorem dX3_has_4 : decode cX3_has 4 = .ok (.iload_n 1, 1) := by decide +kernel
theorem dX3_has_5 : decode cX3_has 5 = .ok (.aload_n 0, 1) := by decide +kernel
theorem dX3_has_6 : decode cX3_has 6 = .ok (.getfield 9, 3) := by decide +kernel
theorem dX3_has_9 : decode cX3_has 9 = .ok (.if_icmp .ge 7, 3) := by decide +kernel
theorem dX3_has_12 : decode cX3_has 12 = .ok (.iconst 1, 1) := by decide +kernel
theorem dX3_has_13 : decode cX3_has 13 = .ok (.goto 4, 3) := by decide +kernel
theorem dX3_has_16 : decode cX3_has 16 = .ok (.iconst 0, 1) := by decide +kernel
theorem dX3_has_17 : decode cX3_has 17 = .ok (.ireturn, 1) := by decide +kernel
set_option maxHeartbeats 4000000 in
set_option maxRecDepth 100000 in
theorem k_X3_has {l : Launch} {D : va_G} {cy : Nat → ClassId} {Bd : Nat} {xa : Xa} {ad : Nat → Nat} {N : Nat} {ps : Nat → Int32} {pa : Nat → Nat → Int32} {a1 : Int32} {out : Int32} (hf : f_X3_has N ps a1 = some out) : KC l yX3_has cX3_has 2 (some .boolean) 0 0 true D cy Bd xa [.ref (ad 12), .int a1] (pC cy ad ps pa) (some (.int out)) (pC cy ad ps pa) := by
  refine kc_start (own := RX3) (by decide +kernel) rfl (Nat.le_of_ble_eq_true rfl) ?_
  intro p e s m args below meth c A C
  unfold f_X3_has at hf
  refine tt_locs (L' := [(0, .ref (ad 12)), (1, .int a1)]) [0, 1] rfl ?_
  refine tt_iload_n (pc := 0) (k := 1) C dX3_has_0 rfl rfl ?_
  have k3 : TT p l e { frames := 0, cells := 0, slots := 0, locals := 0 } s m args below meth c 2 D A true (some (.int out)) (pC cy ad ps pa) 17 [] [.int (if a1 < 0 then (0 : Int32) else (if (ps 0) ≤ a1 then (0 : Int32) else (1 : Int32)))] (pC cy ad ps pa) := by
    obtain rfl := Option.some.inj hf
    exact tt_zreturn (pc := 17) C rfl (nb_if rfl (nb_if rfl rfl)) rfl rfl dX3_has_17
  refine tr_if_lt (pc := 1) (tgt := 16) C dX3_has_1 (by decide) (fun c1 => ?_) (fun c1 => ?_)
  · refine tt_iconst (pc := 16) (v := (0 : Int32)) C dX3_has_16 (by decide) ?_
    try simp only [if_pos c1] at k3 ⊢
    exact tt_locs [] rfl k3
  · refine tt_iload_n (pc := 4) (k := 1) C dX3_has_4 rfl rfl ?_
    refine tt_aload_n (pc := 5) (k := 0) C dX3_has_5 rfl rfl ?_
    refine tt_get (pc := 6) (ws := (pC cy ad ps pa)) (ci := 3) (v := .int (ps 0)) C fiX3 rfl 0 pC_obj 0 (by decide) q1_38 rfl dX3_has_6 ?_
    refine tr_icmp_ge (pc := 9) (tgt := 16) C dX3_has_9 (by decide) (fun c2 => ?_) (fun c2 => ?_)
    · refine tt_iconst (pc := 16) (v := (0 : Int32)) C dX3_has_16 (by decide) ?_
      try simp only [if_neg c1, if_pos c2] at k3 ⊢
      exact tt_locs [] rfl k3
    · refine tt_iconst (pc := 12) (v := (1 : Int32)) C dX3_has_12 (by decide) ?_
      refine tt_goto (pc := 13) (tgt := 17) C dX3_has_13 (by decide) ?_
      try simp only [if_neg c1, if_neg c2] at k3 ⊢
      exact tt_locs [] rfl k3
theorem dX3_letterOf_0 : decode cX3_letterOf 0 = .ok (.aload_n 0, 1) := by decide +kernel
theorem dX3_letterOf_1 : decode cX3_letterOf 1 = .ok (.getfield 22, 3) := by decide +kernel
theorem dX3_letterOf_4 : decode cX3_letterOf 4 = .ok (.iload_n 1, 1) := by decide +kernel
theorem dX3_letterOf_5 : decode cX3_letterOf 5 = .ok (.bipush 7, 2) := by decide +kernel
theorem dX3_letterOf_7 : decode cX3_letterOf 7 = .ok (.imul, 1) := by decide +kernel
theorem dX3_letterOf_8 : decode cX3_letterOf 8 = .ok (.iload_n 2, 1) := by decide +kernel
theorem dX3_letterOf_9 : decode cX3_letterOf 9 = .ok (.iadd, 1) := by decide +kernel
theorem dX3_letterOf_10 : decode cX3_letterOf 10 = .ok (.caload, 1) := by decide +kernel
theorem dX3_letterOf_11 : decode cX3_letterOf 11 = .ok (.ireturn, 1) := by decide +kernel
set_option maxHeartbeats 4000000 in
set_option maxRecDepth 100000 in
theorem k_X3_letterOf {l : Launch} {D : va_G} {cy : Nat → ClassId} {Bd : Nat} {xa : Xa} {ad : Nat → Nat} {N : Nat} {ps : Nat → Int32} {pa : Nat → Nat → Int32} {a1 : Int32} {a2 : Int32} {out : Int32} (hf : f_X3_letterOf N pa a1 a2 = some out) : KC l yX3_letterOf cX3_letterOf 3 (some .int) 0 0 true D cy Bd xa [.ref (ad 12), .int a1, .int a2] (pC cy ad ps pa) (some (.int out)) (pC cy ad ps pa) := by
  refine kc_start (own := RX3) (by decide +kernel) rfl (Nat.le_of_ble_eq_true rfl) ?_
  intro p e s m args below meth c A C
  unfold f_X3_letterOf at hf
  refine tt_locs (L' := [(0, .ref (ad 12)), (1, .int a1), (2, .int a2)]) [0, 1, 2] rfl ?_
  refine tt_aload_n (pc := 0) (k := 0) C dX3_letterOf_0 rfl rfl ?_
  refine tt_get (pc := 1) (ws := (pC cy ad ps pa)) (ci := 3) (v := .ref (ad 23)) C fiX3 rfl 0 pC_obj 3 (by decide) q1_44 rfl dX3_letterOf_1 ?_
  refine tt_iload_n (pc := 4) (k := 1) C dX3_letterOf_4 rfl rfl ?_
  refine tt_bipush (pc := 5) (v := (7 : Int32)) C dX3_letterOf_5 (by decide) ?_
  refine tt_imul (pc := 7) C dX3_letterOf_7 ?_
  refine tt_iload_n (pc := 8) (k := 2) C dX3_letterOf_8 rfl rfl ?_
  refine tt_iadd (pc := 9) C dX3_letterOf_9 ?_
  refine tt_caload (pc := 10) (ws := (pC cy ad ps pa)) (n := 56) (f := (pa 3)) C 3 2 pC_get3 rfl hf dX3_letterOf_10 (fun hf => ?_)
  obtain rfl := Option.some.inj hf
  exact tt_ireturn (pc := 11) C rfl rfl rfl dX3_letterOf_11
theorem dX6_name_0 : decode cX6_name 0 = .ok (.aload_n 0, 1) := by decide +kernel
theorem dX6_name_1 : decode cX6_name 1 = .ok (.getfield 10, 3) := by decide +kernel
theorem dX6_name_4 : decode cX6_name 4 = .ok (.getfield 252, 3) := by decide +kernel
theorem dX6_name_7 : decode cX6_name 7 = .ok (.iload_n 1, 1) := by decide +kernel
theorem dX6_name_8 : decode cX6_name 8 = .ok (.invokevirtual 256, 3) := by decide +kernel
theorem dX6_name_11 : decode cX6_name 11 = .ok (.ifCond .eq 24, 3) := by decide +kernel
theorem dX6_name_14 : decode cX6_name 14 = .ok (.iload_n 2, 1) := by decide +kernel
theorem dX6_name_15 : decode cX6_name 15 = .ok (.iconst (-1), 1) := by decide +kernel
theorem dX6_name_16 : decode cX6_name 16 = .ok (.if_icmp .lt 19, 3) := by decide +kernel
theorem dX6_name_19 : decode cX6_name 19 = .ok (.iload_n 2, 1) := by decide +kernel
theorem dX6_name_20 : decode cX6_name 20 = .ok (.aload_n 0, 1) := by decide +kernel
theorem dX6_name_21 : decode cX6_name 21 = .ok (.getfield 10, 3) := by decide +kernel
theorem dX6_name_24 : decode cX6_name 24 = .ok (.getfield 252, 3) := by decide +kernel
theorem dX6_name_27 : decode cX6_name 27 = .ok (.getfield 261, 3) := by decide +kernel
theorem dX6_name_30 : decode cX6_name 30 = .ok (.iload_n 1, 1) := by decide +kernel
theorem dX6_name_31 : decode cX6_name 31 = .ok (.iaload, 1) := by decide +kernel
theorem dX6_name_32 : decode cX6_name 32 = .ok (.if_icmp .lt 9, 3) := by decide +kernel
theorem dX6_name_35 : decode cX6_name 35 = .ok (.aload_n 0, 1) := by decide +kernel
theorem dX6_name_36 : decode cX6_name 36 = .ok (.iconst (-1), 1) := by decide +kernel
theorem dX6_name_37 : decode cX6_name 37 = .ok (.invokevirtual 87, 3) := by decide +kernel
theorem dX6_name_40 : decode cX6_name 40 = .ok (.ireturn, 1) := by decide +kernel
theorem dX6_name_41 : decode cX6_name 41 = .ok (.iload_n 2, 1) := by decide +kernel
theorem dX6_name_42 : decode cX6_name 42 = .ok (.iconst (-1), 1) := by decide +kernel
theorem dX6_name_43 : decode cX6_name 43 = .ok (.if_icmp .ne 18, 3) := by decide +kernel
theorem dX6_name_46 : decode cX6_name 46 = .ok (.aload_n 0, 1) := by decide +kernel
theorem dX6_name_47 : decode cX6_name 47 = .ok (.getfield 10, 3) := by decide +kernel
theorem dX6_name_50 : decode cX6_name 50 = .ok (.getfield 252, 3) := by decide +kernel
theorem dX6_name_53 : decode cX6_name 53 = .ok (.getfield 261, 3) := by decide +kernel
theorem dX6_name_56 : decode cX6_name 56 = .ok (.iload_n 1, 1) := by decide +kernel
theorem dX6_name_57 : decode cX6_name 57 = .ok (.iaload, 1) := by decide +kernel
theorem dX6_name_58 : decode cX6_name 58 = .ok (.goto 15, 3) := by decide +kernel
theorem dX6_name_61 : decode cX6_name 61 = .ok (.aload_n 0, 1) := by decide +kernel
theorem dX6_name_62 : decode cX6_name 62 = .ok (.getfield 10, 3) := by decide +kernel
theorem dX6_name_65 : decode cX6_name 65 = .ok (.getfield 252, 3) := by decide +kernel
theorem dX6_name_68 : decode cX6_name 68 = .ok (.iload_n 1, 1) := by decide +kernel
theorem dX6_name_69 : decode cX6_name 69 = .ok (.iload_n 2, 1) := by decide +kernel
theorem dX6_name_70 : decode cX6_name 70 = .ok (.invokevirtual 264, 3) := by decide +kernel
theorem dX6_name_73 : decode cX6_name 73 = .ok (.ireturn, 1) := by decide +kernel
set_option maxHeartbeats 4000000 in
set_option maxRecDepth 100000 in
theorem k_X6_name {l : Launch} {D : va_G} {cy : Nat → ClassId} {Bd : Nat} {xa : Xa} {xd : Nat → Nat → Nat} {N : Nat} {sX : Nat → Int32} {aX : Nat → Nat → Int32} {uG : Nat → Int32} {es : Nat → Int32} {ea : Nat → Nat → Int32} {sT : Nat → Int32} {aT : Nat → Nat → Int32} {tT : Nat → Nat → Int32} {pT : Nat → Int32} {qT : Nat → Nat → Int32} {ma : Nat → Nat → Int32} {sL : Nat → Int32} {aL : Nat → Nat → Int32} {tL : Nat → Nat → Int32} {pL : Nat → Int32} {qL : Nat → Nat → Int32} {sK : Nat → Int32} {aK : Nat → Nat → Int32} {tK : Nat → Nat → Int32} {pK : Nat → Int32} {qK : Nat → Nat → Int32} {sH : Nat → Nat → Int32} {rH : Nat → Nat → Int64} {uH : Nat → Nat → Int32} {a1 : Int32} {a2 : Int32} {out : Int32 × (Nat → Nat → Int32)} (hf : f_X6_name N aX pL qL a1 a2 = some out) : KC l yX6_name cX6_name 3 (some .int) 1 22 false D cy Bd xa [.ref (xd 0 0), .int a1, .int a2] (xC cy xd sX aX uG es ea sT aT tT pT qT ma sL aL tL pL qL sK aK tK pK qK sH rH uH) (some (.int out.1)) (xC cy xd sX out.2 uG es ea sT aT tT pT qT ma sL aL tL pL qL sK aK tK pK qK sH rH uH) := by
  refine kc_start (own := RX6) (by decide +kernel) rfl (Nat.le_of_ble_eq_true rfl) ?_
  intro p e s m args below meth c A C
  unfold f_X6_name at hf
  refine tt_locs (L' := [(0, .ref (xd 0 0)), (1, .int a1), (2, .int a2)]) [0, 1, 2] rfl ?_
  refine tt_aload_n (pc := 0) (k := 0) C dX6_name_0 rfl rfl ?_
  refine tt_get (pc := 1) (ws := (xC cy xd sX aX uG es ea sT aT tT pT qT ma sL aL tL pL qL sK aK tK pK qK sH rH uH)) (ci := 6) (v := .ref ((xd 1) 0)) C fiX6 rfl 0 xC_obj 0 (by decide) q1_219 rfl dX6_name_1 ?_
  refine tt_get (pc := 4) (ws := (xC cy xd sX aX uG es ea sT aT tT pT qT ma sL aL tL pL qL sK aK tK pK qK sH rH uH)) (ci := 1) (v := .ref ((xd 1) 12)) C fiX1 rfl 28 rfl 12 (by decide) q1_112 rfl dX6_name_4 ?_
  refine tt_iload_n (pc := 7) (k := 1) C dX6_name_7 rfl rfl ?_
  obtain ⟨r1, hr1, hf⟩ := bind_some hf
  refine tt_callR (pc := 8) (ws := (xC cy xd sX aX uG es ea sT aT tT pT qT ma sL aL tL pL qL sK aK tK pK qK sH rH uH)) (q0 := 40) (ci := 3) (rest := []) (st' := [.int r1]) C (k_X3_has hr1) okX3_has q4_49 rfl rfl xC_subP rfl rfl rfl (Nat.le_of_ble_eq_true rfl) ⟨Nat.le_of_ble_eq_true rfl, Nat.le_of_ble_eq_true rfl⟩ dX6_name_8 ?_
  refine tt_if_eq (pc := 11) (tgt := 35) C dX6_name_11 (by decide) hf (fun hf => ?_) (fun hf => ?_)
  · refine tt_aload_n (pc := 35) (k := 0) C dX6_name_35 rfl rfl ?_
    refine tt_iconst (pc := 36) (v := (-1 : Int32)) C dX6_name_36 (by decide) ?_
    obtain ⟨r2, hr2, hf⟩ := bind_some hf
    refine tt_callM (pc := 37) (ws := (xC cy xd sX aX uG es ea sT aT tT pT qT ma sL aL tL pL qL sK aK tK pK qK sH rH uH)) (q0 := 0) (ci := 6) (rest := []) (st' := [.int r2.1]) C rfl (k_X6_refused hr2) okX6_refused q2_19 rfl xC_obj rfl rfl rfl (Nat.le_of_ble_eq_true rfl) ⟨Nat.le_of_ble_eq_true rfl, Nat.le_of_ble_eq_true rfl⟩ dX6_name_37 ?_
    obtain rfl := Option.some.inj hf
    exact tt_ireturn (pc := 40) C rfl rfl rfl dX6_name_40
  · refine tt_iload_n (pc := 14) (k := 2) C dX6_name_14 rfl rfl ?_
    refine tt_iconst (pc := 15) (v := (-1 : Int32)) C dX6_name_15 (by decide) ?_
    refine tt_icmp_lt (pc := 16) (tgt := 35) C dX6_name_16 (by decide) hf (fun hf => ?_) (fun hf => ?_)
    · refine tt_aload_n (pc := 35) (k := 0) C dX6_name_35 rfl rfl ?_
      refine tt_iconst (pc := 36) (v := (-1 : Int32)) C dX6_name_36 (by decide) ?_
      obtain ⟨r3, hr3, hf⟩ := bind_some hf
      refine tt_callM (pc := 37) (ws := (xC cy xd sX aX uG es ea sT aT tT pT qT ma sL aL tL pL qL sK aK tK pK qK sH rH uH)) (q0 := 0) (ci := 6) (rest := []) (st' := [.int r3.1]) C rfl (k_X6_refused hr3) okX6_refused q2_19 rfl xC_obj rfl rfl rfl (Nat.le_of_ble_eq_true rfl) ⟨Nat.le_of_ble_eq_true rfl, Nat.le_of_ble_eq_true rfl⟩ dX6_name_37 ?_
      obtain rfl := Option.some.inj hf
      exact tt_ireturn (pc := 40) C rfl rfl rfl dX6_name_40
    · refine tt_iload_n (pc := 19) (k := 2) C dX6_name_19 rfl rfl ?_
      refine tt_aload_n (pc := 20) (k := 0) C dX6_name_20 rfl rfl ?_
      refine tt_get (pc := 21) (ws := (xC cy xd sX aX uG es ea sT aT tT pT qT ma sL aL tL pL qL sK aK tK pK qK sH rH uH)) (ci := 6) (v := .ref ((xd 1) 0)) C fiX6 rfl 0 xC_obj 0 (by decide) q1_219 rfl dX6_name_21 ?_
      refine tt_get (pc := 24) (ws := (xC cy xd sX aX uG es ea sT aT tT pT qT ma sL aL tL pL qL sK aK tK pK qK sH rH uH)) (ci := 1) (v := .ref ((xd 1) 12)) C fiX1 rfl 28 rfl 12 (by decide) q1_112 rfl dX6_name_24 ?_
      refine tt_get (pc := 27) (ws := (xC cy xd sX aX uG es ea sT aT tT pT qT ma sL aL tL pL qL sK aK tK pK qK sH rH uH)) (ci := 3) (v := .ref ((xd 1) 22)) C fiX3 rfl 40 rfl 2 (by decide) q1_43 rfl dX6_name_27 ?_
      refine tt_iload_n (pc := 30) (k := 1) C dX6_name_30 rfl rfl ?_
      refine tt_iaload (pc := 31) (ws := (xC cy xd sX aX uG es ea sT aT tT pT qT ma sL aL tL pL qL sK aK tK pK qK sH rH uH)) (n := 8) (f := (qL 2)) C 42 0 rfl rfl hf dX6_name_31 (fun hf => ?_)
      refine tt_icmp_lt (pc := 32) (tgt := 41) C dX6_name_32 (by decide) hf (fun hf => ?_) (fun hf => ?_)
      · refine tt_iload_n (pc := 41) (k := 2) C dX6_name_41 rfl rfl ?_
        refine tt_iconst (pc := 42) (v := (-1 : Int32)) C dX6_name_42 (by decide) ?_
        obtain ⟨j4, hj4, hf⟩ := bind_some hf
        have k5 : TT p l e { frames := 1, cells := 0, slots := 0, locals := 22 } s m args below meth c 3 D A false (some (.int out.1)) (xC cy xd sX out.2 uG es ea sT aT tT pT qT ma sL aL tL pL qL sK aK tK pK qK sH rH uH) 73 [] [.int j4] (xC cy xd sX aX uG es ea sT aT tT pT qT ma sL aL tL pL qL sK aK tK pK qK sH rH uH) := by
          obtain rfl := Option.some.inj hf
          exact tt_ireturn (pc := 73) C rfl rfl rfl dX6_name_73
        refine tt_icmp_ne (pc := 43) (tgt := 61) C dX6_name_43 (by decide) hj4 (fun hj4 => ?_) (fun hj4 => ?_)
        · refine tt_aload_n (pc := 61) (k := 0) C dX6_name_61 rfl rfl ?_
          refine tt_get (pc := 62) (ws := (xC cy xd sX aX uG es ea sT aT tT pT qT ma sL aL tL pL qL sK aK tK pK qK sH rH uH)) (ci := 6) (v := .ref ((xd 1) 0)) C fiX6 rfl 0 xC_obj 0 (by decide) q1_219 rfl dX6_name_62 ?_
          refine tt_get (pc := 65) (ws := (xC cy xd sX aX uG es ea sT aT tT pT qT ma sL aL tL pL qL sK aK tK pK qK sH rH uH)) (ci := 1) (v := .ref ((xd 1) 12)) C fiX1 rfl 28 rfl 12 (by decide) q1_112 rfl dX6_name_65 ?_
          refine tt_iload_n (pc := 68) (k := 1) C dX6_name_68 rfl rfl ?_
          refine tt_iload_n (pc := 69) (k := 2) C dX6_name_69 rfl rfl ?_
          obtain ⟨r6, hr6, hj4⟩ := bind_some hj4
          refine tt_callR (pc := 70) (ws := (xC cy xd sX aX uG es ea sT aT tT pT qT ma sL aL tL pL qL sK aK tK pK qK sH rH uH)) (q0 := 40) (ci := 3) (rest := []) (st' := [.int r6]) C (k_X3_letterOf hr6) okX3_letterOf q4_53 rfl rfl xC_subP rfl rfl rfl (Nat.le_of_ble_eq_true rfl) ⟨Nat.le_of_ble_eq_true rfl, Nat.le_of_ble_eq_true rfl⟩ dX6_name_70 ?_
          obtain rfl := Option.some.inj hj4
          exact tt_locs [] rfl k5
        · refine tt_aload_n (pc := 46) (k := 0) C dX6_name_46 rfl rfl ?_
          refine tt_get (pc := 47) (ws := (xC cy xd sX aX uG es ea sT aT tT pT qT ma sL aL tL pL qL sK aK tK pK qK sH rH uH)) (ci := 6) (v := .ref ((xd 1) 0)) C fiX6 rfl 0 xC_obj 0 (by decide) q1_219 rfl dX6_name_47 ?_
          refine tt_get (pc := 50) (ws := (xC cy xd sX aX uG es ea sT aT tT pT qT ma sL aL tL pL qL sK aK tK pK qK sH rH uH)) (ci := 1) (v := .ref ((xd 1) 12)) C fiX1 rfl 28 rfl 12 (by decide) q1_112 rfl dX6_name_50 ?_
          refine tt_get (pc := 53) (ws := (xC cy xd sX aX uG es ea sT aT tT pT qT ma sL aL tL pL qL sK aK tK pK qK sH rH uH)) (ci := 3) (v := .ref ((xd 1) 22)) C fiX3 rfl 40 rfl 2 (by decide) q1_43 rfl dX6_name_53 ?_
          refine tt_iload_n (pc := 56) (k := 1) C dX6_name_56 rfl rfl ?_
          refine tt_iaload (pc := 57) (ws := (xC cy xd sX aX uG es ea sT aT tT pT qT ma sL aL tL pL qL sK aK tK pK qK sH rH uH)) (n := 8) (f := (qL 2)) C 42 0 rfl rfl hj4 dX6_name_57 (fun hj4 => ?_)
          refine tt_goto (pc := 58) (tgt := 73) C dX6_name_58 (by decide) ?_
          obtain rfl := Option.some.inj hj4
          exact tt_locs [] rfl k5
      · refine tt_aload_n (pc := 35) (k := 0) C dX6_name_35 rfl rfl ?_
        refine tt_iconst (pc := 36) (v := (-1 : Int32)) C dX6_name_36 (by decide) ?_
        obtain ⟨r7, hr7, hf⟩ := bind_some hf
        refine tt_callM (pc := 37) (ws := (xC cy xd sX aX uG es ea sT aT tT pT qT ma sL aL tL pL qL sK aK tK pK qK sH rH uH)) (q0 := 0) (ci := 6) (rest := []) (st' := [.int r7.1]) C rfl (k_X6_refused hr7) okX6_refused q2_19 rfl xC_obj rfl rfl rfl (Nat.le_of_ble_eq_true rfl) ⟨Nat.le_of_ble_eq_true rfl, Nat.le_of_ble_eq_true rfl⟩ dX6_name_37 ?_
        obtain rfl := Option.some.inj hf
        exact tt_ireturn (pc := 40) C rfl rfl rfl dX6_name_40
theorem dX6_placeAt_0 : decode cX6_placeAt 0 = .ok (.aload_n 0, 1) := by decide +kernel
theorem dX6_placeAt_1 : decode cX6_placeAt 1 = .ok (.getfield 10, 3) := by decide +kernel
theorem dX6_placeAt_4 : decode cX6_placeAt 4 = .ok (.getfield 252, 3) := by decide +kernel
theorem dX6_placeAt_7 : decode cX6_placeAt 7 = .ok (.iload_n 1, 1) := by decide +kernel
theorem dX6_placeAt_8 : decode cX6_placeAt 8 = .ok (.invokevirtual 256, 3) := by decide +kernel
theorem dX6_placeAt_11 : decode cX6_placeAt 11 = .ok (.ifCond .ne 9, 3) := by decide +kernel
theorem dX6_placeAt_14 : decode cX6_placeAt 14 = .ok (.aload_n 0, 1) := by decide +kernel
theorem dX6_placeAt_15 : decode cX6_placeAt 15 = .ok (.iconst (-1), 1) := by decide +kernel
theorem dX6_placeAt_16 : decode cX6_placeAt 16 = .ok (.invokevirtual 87, 3) := by decide +kernel
theorem dX6_placeAt_19 : decode cX6_placeAt 19 = .ok (.ireturn, 1) := by decide +kernel
theorem dX6_placeAt_20 : decode cX6_placeAt 20 = .ok (.aload_n 0, 1) := by decide +kernel
theorem dX6_placeAt_21 : decode cX6_placeAt 21 = .ok (.getfield 10, 3) := by decide +kernel
theorem dX6_placeAt_24 : decode cX6_placeAt 24 = .ok (.getfield 252, 3) := by decide +kernel
theorem dX6_placeAt_27 : decode cX6_placeAt 27 = .ok (.getfield 267, 3) := by decide +kernel
theorem dX6_placeAt_30 : decode cX6_placeAt 30 = .ok (.iload_n 1, 1) := by decide +kernel
theorem dX6_placeAt_31 : decode cX6_placeAt 31 = .ok (.iaload, 1) := by decide +kernel
theorem dX6_placeAt_32 : decode cX6_placeAt 32 = .ok (.ireturn, 1) := by decide +kernel
set_option maxHeartbeats 4000000 in
set_option maxRecDepth 100000 in
theorem k_X6_placeAt {l : Launch} {D : va_G} {cy : Nat → ClassId} {Bd : Nat} {xa : Xa} {xd : Nat → Nat → Nat} {N : Nat} {sX : Nat → Int32} {aX : Nat → Nat → Int32} {uG : Nat → Int32} {es : Nat → Int32} {ea : Nat → Nat → Int32} {sT : Nat → Int32} {aT : Nat → Nat → Int32} {tT : Nat → Nat → Int32} {pT : Nat → Int32} {qT : Nat → Nat → Int32} {ma : Nat → Nat → Int32} {sL : Nat → Int32} {aL : Nat → Nat → Int32} {tL : Nat → Nat → Int32} {pL : Nat → Int32} {qL : Nat → Nat → Int32} {sK : Nat → Int32} {aK : Nat → Nat → Int32} {tK : Nat → Nat → Int32} {pK : Nat → Int32} {qK : Nat → Nat → Int32} {sH : Nat → Nat → Int32} {rH : Nat → Nat → Int64} {uH : Nat → Nat → Int32} {a1 : Int32} {out : Int32 × (Nat → Nat → Int32)} (hf : f_X6_placeAt N aX pL qL a1 = some out) : KC l yX6_placeAt cX6_placeAt 2 (some .int) 1 21 false D cy Bd xa [.ref (xd 0 0), .int a1] (xC cy xd sX aX uG es ea sT aT tT pT qT ma sL aL tL pL qL sK aK tK pK qK sH rH uH) (some (.int out.1)) (xC cy xd sX out.2 uG es ea sT aT tT pT qT ma sL aL tL pL qL sK aK tK pK qK sH rH uH) := by
  refine kc_start (own := RX6) (by decide +kernel) rfl (Nat.le_of_ble_eq_true rfl) ?_
  intro p e s m args below meth c A C
  unfold f_X6_placeAt at hf
  refine tt_locs (L' := [(0, .ref (xd 0 0)), (1, .int a1)]) [0, 1] rfl ?_
  refine tt_aload_n (pc := 0) (k := 0) C dX6_placeAt_0 rfl rfl ?_
  refine tt_get (pc := 1) (ws := (xC cy xd sX aX uG es ea sT aT tT pT qT ma sL aL tL pL qL sK aK tK pK qK sH rH uH)) (ci := 6) (v := .ref ((xd 1) 0)) C fiX6 rfl 0 xC_obj 0 (by decide) q1_219 rfl dX6_placeAt_1 ?_
  refine tt_get (pc := 4) (ws := (xC cy xd sX aX uG es ea sT aT tT pT qT ma sL aL tL pL qL sK aK tK pK qK sH rH uH)) (ci := 1) (v := .ref ((xd 1) 12)) C fiX1 rfl 28 rfl 12 (by decide) q1_112 rfl dX6_placeAt_4 ?_
  refine tt_iload_n (pc := 7) (k := 1) C dX6_placeAt_7 rfl rfl ?_
  obtain ⟨r1, hr1, hf⟩ := bind_some hf
  refine tt_callR (pc := 8) (ws := (xC cy xd sX aX uG es ea sT aT tT pT qT ma sL aL tL pL qL sK aK tK pK qK sH rH uH)) (q0 := 40) (ci := 3) (rest := []) (st' := [.int r1]) C (k_X3_has hr1) okX3_has q4_49 rfl rfl xC_subP rfl rfl rfl (Nat.le_of_ble_eq_true rfl) ⟨Nat.le_of_ble_eq_true rfl, Nat.le_of_ble_eq_true rfl⟩ dX6_placeAt_8 ?_
  refine tt_if_ne (pc := 11) (tgt := 20) C dX6_placeAt_11 (by decide) hf (fun hf => ?_) (fun hf => ?_)
  · refine tt_aload_n (pc := 20) (k := 0) C dX6_placeAt_20 rfl rfl ?_
    refine tt_get (pc := 21) (ws := (xC cy xd sX aX uG es ea sT aT tT pT qT ma sL aL tL pL qL sK aK tK pK qK sH rH uH)) (ci := 6) (v := .ref ((xd 1) 0)) C fiX6 rfl 0 xC_obj 0 (by decide) q1_219 rfl dX6_placeAt_21 ?_
    refine tt_get (pc := 24) (ws := (xC cy xd sX aX uG es ea sT aT tT pT qT ma sL aL tL pL qL sK aK tK pK qK sH rH uH)) (ci := 1) (v := .ref ((xd 1) 12)) C fiX1 rfl 28 rfl 12 (by decide) q1_112 rfl dX6_placeAt_24 ?_
    refine tt_get (pc := 27) (ws := (xC cy xd sX aX uG es ea sT aT tT pT qT ma sL aL tL pL qL sK aK tK pK qK sH rH uH)) (ci := 3) (v := .ref ((xd 1) 21)) C fiX3 rfl 40 rfl 1 (by decide) q1_41 rfl dX6_placeAt_27 ?_
    refine tt_iload_n (pc := 30) (k := 1) C dX6_placeAt_30 rfl rfl ?_
    refine tt_iaload (pc := 31) (ws := (xC cy xd sX aX uG es ea sT aT tT pT qT ma sL aL tL pL qL sK aK tK pK qK sH rH uH)) (n := 8) (f := (qL 1)) C 41 0 rfl rfl hf dX6_placeAt_31 (fun hf => ?_)
    obtain rfl := Option.some.inj hf
    exact tt_ireturn (pc := 32) C rfl rfl rfl dX6_placeAt_32
  · refine tt_aload_n (pc := 14) (k := 0) C dX6_placeAt_14 rfl rfl ?_
    refine tt_iconst (pc := 15) (v := (-1 : Int32)) C dX6_placeAt_15 (by decide) ?_
    obtain ⟨r2, hr2, hf⟩ := bind_some hf
    refine tt_callM (pc := 16) (ws := (xC cy xd sX aX uG es ea sT aT tT pT qT ma sL aL tL pL qL sK aK tK pK qK sH rH uH)) (q0 := 0) (ci := 6) (rest := []) (st' := [.int r2.1]) C rfl (k_X6_refused hr2) okX6_refused q2_19 rfl xC_obj rfl rfl rfl (Nat.le_of_ble_eq_true rfl) ⟨Nat.le_of_ble_eq_true rfl, Nat.le_of_ble_eq_true rfl⟩ dX6_placeAt_16 ?_
    obtain rfl := Option.some.inj hf
    exact tt_ireturn (pc := 19) C rfl rfl rfl dX6_placeAt_19
theorem dX6_hasShelf_0 : decode cX6_hasShelf 0 = .ok (.iload_n 0, 1) := by decide +kernel
theorem dX6_hasShelf_1 : decode cX6_hasShelf 1 = .ok (.ifCond .lt 12, 3) := by decide +kernel
theorem dX6_hasShelf_4 : decode cX6_hasShelf 4 = .ok (.iload_n 0, 1) := by decide +kernel
theorem dX6_hasShelf_5 : decode cX6_hasShelf 5 = .ok (.iconst 4, 1) := by decide +kernel
theorem dX6_hasShelf_6 : decode cX6_hasShelf 6 = .ok (.if_icmp .ge 7, 3) := by decide +kernel
theorem dX6_hasShelf_9 : decode cX6_hasShelf 9 = .ok (.iconst 1, 1) := by decide +kernel
theorem dX6_hasShelf_10 : decode cX6_hasShelf 10 = .ok (.goto 4, 3) := by decide +kernel
theorem dX6_hasShelf_13 : decode cX6_hasShelf 13 = .ok (.iconst 0, 1) := by decide +kernel
theorem dX6_hasShelf_14 : decode cX6_hasShelf 14 = .ok (.ireturn, 1) := by decide +kernel
set_option maxHeartbeats 4000000 in
set_option maxRecDepth 100000 in
theorem k_X6_hasShelf {l : Launch} {D : va_G} {cy : Nat → ClassId} {Bd : Nat} {xa : Xa}  {N : Nat} {a1 : Int32} {out : Int32} (hf : f_X6_hasShelf N a1 = some out) : KC l yX6_hasShelf cX6_hasShelf 1 (some .boolean) 0 0 true D cy Bd xa [.int a1] [] (some (.int out)) [] := by
  refine kc_start (own := RX6) (by decide +kernel) rfl (Nat.le_of_ble_eq_true rfl) ?_
  intro p e s m args below meth c A C
  unfold f_X6_hasShelf at hf
  refine tt_locs (L' := [(0, .int a1)]) [0] rfl ?_
  refine tt_iload_n (pc := 0) (k := 0) C dX6_hasShelf_0 rfl rfl ?_
  have k3 : TT p l e { frames := 0, cells := 0, slots := 0, locals := 0 } s m args below meth c 1 D A true (some (.int out)) [] 14 [] [.int (if a1 < 0 then (0 : Int32) else (if (4 : Int32) ≤ a1 then (0 : Int32) else (1 : Int32)))] [] := by
    obtain rfl := Option.some.inj hf
    exact tt_zreturn (pc := 14) C rfl (nb_if rfl (nb_if rfl rfl)) rfl rfl dX6_hasShelf_14
  refine tr_if_lt (pc := 1) (tgt := 13) C dX6_hasShelf_1 (by decide) (fun c1 => ?_) (fun c1 => ?_)
  · refine tt_iconst (pc := 13) (v := (0 : Int32)) C dX6_hasShelf_13 (by decide) ?_
    try simp only [if_pos c1] at k3 ⊢
    exact tt_locs [] rfl k3
  · refine tt_iload_n (pc := 4) (k := 0) C dX6_hasShelf_4 rfl rfl ?_
    refine tt_iconst (pc := 5) (v := (4 : Int32)) C dX6_hasShelf_5 (by decide) ?_
    refine tr_icmp_ge (pc := 6) (tgt := 13) C dX6_hasShelf_6 (by decide) (fun c2 => ?_) (fun c2 => ?_)
    · refine tt_iconst (pc := 13) (v := (0 : Int32)) C dX6_hasShelf_13 (by decide) ?_
      try simp only [if_neg c1, if_pos c2] at k3 ⊢
      exact tt_locs [] rfl k3
    · refine tt_iconst (pc := 9) (v := (1 : Int32)) C dX6_hasShelf_9 (by decide) ?_
      refine tt_goto (pc := 10) (tgt := 14) C dX6_hasShelf_10 (by decide) ?_
      try simp only [if_neg c1, if_neg c2] at k3 ⊢
      exact tt_locs [] rfl k3
theorem dX4_becomeRow_0 : decode cX4_becomeRow 0 = .ok (.aload_n 0, 1) := by decide +kernel
theorem dX4_becomeRow_1 : decode cX4_becomeRow 1 = .ok (.iload_n 1, 1) := by decide +kernel
theorem dX4_becomeRow_2 : decode cX4_becomeRow 2 = .ok (.putfield 11, 3) := by decide +kernel
theorem dX4_becomeRow_5 : decode cX4_becomeRow 5 = .ok (.aload_n 0, 1) := by decide +kernel
theorem dX4_becomeRow_6 : decode cX4_becomeRow 6 = .ok (.iload_n 2, 1) := by decide +kernel
theorem dX4_becomeRow_7 : decode cX4_becomeRow 7 = .ok (.putfield 15, 3) := by decide +kernel
theorem dX4_becomeRow_10 : decode cX4_becomeRow 10 = .ok (.iconst 0, 1) := by decide +kernel
theorem dX4_becomeRow_11 : decode cX4_becomeRow 11 = .ok (.istore_n 3, 1) := by decide +kernel
theorem dX4_becomeRow_12 : decode cX4_becomeRow 12 = .ok (.iload_n 3, 1) := by decide +kernel
theorem dX4_becomeRow_13 : decode cX4_becomeRow 13 = .ok (.bipush 20, 2) := by decide +kernel
theorem dX4_becomeRow_15 : decode cX4_becomeRow 15 = .ok (.if_icmp .ge 16, 3) := by decide +kernel
theorem dX4_becomeRow_18 : decode cX4_becomeRow 18 = .ok (.aload_n 0, 1) := by decide +kernel
theorem dX4_becomeRow_19 : decode cX4_becomeRow 19 = .ok (.getfield 18, 3) := by decide +kernel
theorem dX4_becomeRow_22 : decode cX4_becomeRow 22 = .ok (.iload_n 3, 1) := by decide +kernel
theorem dX4_becomeRow_23 : decode cX4_becomeRow 23 = .ok (.lconst 0, 1) := by decide +kernel
theorem dX4_becomeRow_24 : decode cX4_becomeRow 24 = .ok (.lastore, 1) := by decide +kernel
theorem dX4_becomeRow_25 : decode cX4_becomeRow 25 = .ok (.iinc 3 1, 3) := by decide +kernel
theorem dX4_becomeRow_28 : decode cX4_becomeRow 28 = .ok (.goto (-16), 3) := by decide +kernel
theorem dX4_becomeRow_31 : decode cX4_becomeRow 31 = .ok (.return_, 1) := by decide +kernel
set_option maxHeartbeats 4000000 in
set_option maxRecDepth 100000 in
theorem l_X4_becomeRow_12 {p : Program} {l : Launch} {e : Env} {s : State} {m : MethodId} {args : Array Value} {below : List Frame} {meth : Method} {c : Code} {D : va_G} {cy : Nat → ClassId} {A : Nat → Prop} {Bd : Nat} {xa : Xa} {hd : Nat → Nat} {β : Type} {vO : Option Value} {wO : va_W} {N : Nat} {hs : Nat → Int32} {hu : Nat → Int32} {kx : (Nat → Int64) → Option (β)} {out : β} (C : CC p s m args meth c cX4_becomeRow RX4 4 none D cy A false Bd xa) (hk : ∀ (hr1 : Nat → Int64), kx hr1 = some out → TT p l e { frames := 0, cells := 0, slots := 0, locals := 0 } s m args below meth c 4 D A false vO wO 31 [] [] (hC cy hd hs hr1 hu)) {n : Nat} {v3 : Int32} {hr : Nat → Int64} (hf : f_X4_becomeRow_L12 N hs kx n v3 hr = some out) : TT p l e { frames := 0, cells := 0, slots := 0, locals := 0 } s m args below meth c 4 D A false vO wO 12 [(0, .ref (hd 0)), (3, .int v3)] [] (hC cy hd hs hr hu) := by
  induction n generalizing v3 hr with
  | zero => cases hf
  | succ n ih =>
    rw [f_X4_becomeRow_L12] at hf
    refine tt_iload_n (pc := 12) (k := 1) C dX4_becomeRow_12 rfl rfl ?_
    refine tt_bipush (pc := 13) (v := (20 : Int32)) C dX4_becomeRow_13 (by decide) ?_
    refine tt_icmp_ge (pc := 15) (tgt := 31) C dX4_becomeRow_15 (by decide) hf (fun hf => ?_) (fun hf => ?_)
    · exact tt_locs [] rfl (hk _ hf)
    · refine tt_aload_n (pc := 18) (k := 0) C dX4_becomeRow_18 rfl rfl ?_
      refine tt_get (pc := 19) (ws := (hC cy hd hs hr hu)) (ci := 4) (v := .ref (hd 2)) C fiX4 rfl 0 hC_obj 2 (by decide) q1_205 rfl dX4_becomeRow_19 ?_
      refine tt_iload_n (pc := 22) (k := 1) C dX4_becomeRow_22 rfl rfl ?_
      refine tt_lconst (pc := 23) (v := (0 : Int64)) C dX4_becomeRow_23 rfl ?_
      refine tt_lastore (pc := 24) (ws := (hC cy hd hs hr hu)) (n := 20) (f := hr) (ws' := (hC cy hd hs (vp_updL hr (ix v3) (0 : Int64)) hu)) C rfl 1 1 hC_get2 rfl hf dX4_becomeRow_24 hC_set2 (fun hf => ?_)
      refine tt_iinc (pc := 25) (k := 1) (v := (v3 + 1)) (L' := [(3, .int (v3 + 1)), (0, .ref (hd 0))]) C dX4_becomeRow_25 rfl rfl (by decide) rfl ?_
      refine tt_goto (pc := 28) (tgt := 12) C dX4_becomeRow_28 (by decide) ?_
      exact tt_locs [1, 0] rfl (ih hf)
set_option maxHeartbeats 4000000 in
set_option maxRecDepth 100000 in
theorem k_X4_becomeRow {l : Launch} {D : va_G} {cy : Nat → ClassId} {Bd : Nat} {xa : Xa} {hd : Nat → Nat} {N : Nat} {hs : Nat → Int32} {hr : Nat → Int64} {hu : Nat → Int32} {a1 : Int32} {a2 : Int32} {out : (Nat → Int32) × (Nat → Int64)} (hf : f_X4_becomeRow N hs hr a1 a2 = some out) : KC l yX4_becomeRow cX4_becomeRow 4 none 0 0 false D cy Bd xa [.ref (hd 0), .int a1, .int a2] (hC cy hd hs hr hu) none (hC cy hd out.1 out.2 hu) := by
  refine kc_start (own := RX4) (by decide +kernel) rfl (Nat.le_of_ble_eq_true rfl) ?_
  intro p e s m args below meth c A C
  unfold f_X4_becomeRow at hf
  refine tt_locs (L' := [(0, .ref (hd 0)), (1, .int a1), (2, .int a2)]) [0, 1, 2] rfl ?_
  refine tt_aload_n (pc := 0) (k := 0) C dX4_becomeRow_0 rfl rfl ?_
  refine tt_iload_n (pc := 1) (k := 1) C dX4_becomeRow_1 rfl rfl ?_
  refine tt_put (pc := 2) (ws := (hC cy hd hs hr hu)) (ci := 4) (ty := .int) (ws' := (hC cy hd (upd hs 0 a1) hr hu)) C rfl fiX4 rfl 0 hC_obj 0 (by decide) q1_201 rfl rfl rfl rfl (Nat.le_of_ble_eq_true rfl) dX4_becomeRow_2 hC_put0 ?_
  refine tt_aload_n (pc := 5) (k := 0) C dX4_becomeRow_5 rfl rfl ?_
  refine tt_iload_n (pc := 6) (k := 2) C dX4_becomeRow_6 rfl rfl ?_
  refine tt_put (pc := 7) (ws := (hC cy hd (upd hs 0 a1) hr hu)) (ci := 4) (ty := .int) (ws' := (hC cy hd (upd (upd hs 0 a1) 1 a2) hr hu)) C rfl fiX4 rfl 0 hC_obj 1 (by decide) q1_203 rfl rfl rfl rfl (Nat.le_of_ble_eq_true rfl) dX4_becomeRow_7 hC_put1 ?_
  refine tt_iconst (pc := 10) (v := (0 : Int32)) C dX4_becomeRow_10 (by decide) ?_
  refine tt_istore_n (pc := 11) (L' := [(3, .int (0 : Int32)), (0, .ref (hd 0)), (1, .int a1), (2, .int a2)]) C dX4_becomeRow_11 rfl (by decide) rfl ?_
  refine tt_locs (L' := [(0, .ref (hd 0)), (3, .int (0 : Int32))]) [1, 0] rfl (l_X4_becomeRow_12 C (fun t1 hf => ?_) hf)
  obtain rfl := Option.some.inj hf
  exact tt_vreturn (pc := 31) C rfl rfl rfl dX4_becomeRow_31
