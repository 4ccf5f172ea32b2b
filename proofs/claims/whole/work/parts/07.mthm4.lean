theorem dX7_named_0 : decode cX7_named 0 = .ok (.iconst 0, 1) := by decide +kernel
theorem dX7_named_1 : decode cX7_named 1 = .ok (.istore_n 1, 1) := by decide +kernel
theorem dX7_named_2 : decode cX7_named 2 = .ok (.iload_n 1, 1) := by decide +kernel
theorem dX7_named_3 : decode cX7_named 3 = .ok (.aload_n 0, 1) := by decide +kernel
theorem dX7_named_4 : decode cX7_named 4 = .ok (.getfield 115, 3) := by decide +kernel
theorem dX7_named_7 : decode cX7_named 7 = .ok (.if_icmp .ge 80, 3) := by decide +kernel
theorem dX7_named_10 : decode cX7_named 10 = .ok (.aload_n 0, 1) := by decide +kernel
theorem dX7_named_11 : decode cX7_named 11 = .ok (.getfield 50, 3) := by decide +kernel
theorem dX7_named_14 : decode cX7_named 14 = .ok (.iload_n 1, 1) := by decide +kernel
theorem dX7_named_15 : decode cX7_named 15 = .ok (.iaload, 1) := by decide +kernel
theorem dX7_named_16 : decode cX7_named 16 = .ok (.aload_n 0, 1) := by decide +kernel
theorem dX7_named_17 : decode cX7_named 17 = .ok (.getfield 302, 3) := by decide +kernel
theorem dX7_named_20 : decode cX7_named 20 = .ok (.if_icmp .ne 7, 3) := by decide +kernel
theorem dX7_named_23 : decode cX7_named 23 = .ok (.iconst 1, 1) := by decide +kernel
theorem dX7_named_24 : decode cX7_named 24 = .ok (.goto 4, 3) := by decide +kernel
theorem dX7_named_27 : decode cX7_named 27 = .ok (.iconst 0, 1) := by decide +kernel
theorem dX7_named_28 : decode cX7_named 28 = .ok (.istore_n 2, 1) := by decide +kernel
theorem dX7_named_29 : decode cX7_named 29 = .ok (.iconst 0, 1) := by decide +kernel
theorem dX7_named_30 : decode cX7_named 30 = .ok (.istore_n 3, 1) := by decide +kernel
theorem dX7_named_31 : decode cX7_named 31 = .ok (.iload_n 3, 1) := by decide +kernel
theorem dX7_named_32 : decode cX7_named 32 = .ok (.aload_n 0, 1) := by decide +kernel
theorem dX7_named_33 : decode cX7_named 33 = .ok (.getfield 302, 3) := by decide +kernel
theorem dX7_named_36 : decode cX7_named 36 = .ok (.if_icmp .ge 39, 3) := by decide +kernel
theorem dX7_named_39 : decode cX7_named 39 = .ok (.iload_n 2, 1) := by decide +kernel
theorem dX7_named_40 : decode cX7_named 40 = .ok (.ifCond .eq 35, 3) := by decide +kernel
theorem dX7_named_43 : decode cX7_named 43 = .ok (.aload_n 0, 1) := by decide +kernel
theorem dX7_named_44 : decode cX7_named 44 = .ok (.getfield 47, 3) := by decide +kernel
theorem dX7_named_47 : decode cX7_named 47 = .ok (.bipush 7, 2) := by decide +kernel
theorem dX7_named_49 : decode cX7_named 49 = .ok (.iload_n 1, 1) := by decide +kernel
theorem dX7_named_50 : decode cX7_named 50 = .ok (.imul, 1) := by decide +kernel
theorem dX7_named_51 : decode cX7_named 51 = .ok (.iload_n 3, 1) := by decide +kernel
theorem dX7_named_52 : decode cX7_named 52 = .ok (.iadd, 1) := by decide +kernel
theorem dX7_named_53 : decode cX7_named 53 = .ok (.iaload, 1) := by decide +kernel
theorem dX7_named_54 : decode cX7_named 54 = .ok (.aload_n 0, 1) := by decide +kernel
theorem dX7_named_55 : decode cX7_named 55 = .ok (.getfield 93, 3) := by decide +kernel
theorem dX7_named_58 : decode cX7_named 58 = .ok (.iload_n 3, 1) := by decide +kernel
theorem dX7_named_59 : decode cX7_named 59 = .ok (.iaload, 1) := by decide +kernel
theorem dX7_named_60 : decode cX7_named 60 = .ok (.if_icmp .ne 7, 3) := by decide +kernel
theorem dX7_named_63 : decode cX7_named 63 = .ok (.iconst 1, 1) := by decide +kernel
theorem dX7_named_64 : decode cX7_named 64 = .ok (.goto 4, 3) := by decide +kernel
theorem dX7_named_67 : decode cX7_named 67 = .ok (.iconst 0, 1) := by decide +kernel
theorem dX7_named_68 : decode cX7_named 68 = .ok (.istore_n 2, 1) := by decide +kernel
theorem dX7_named_69 : decode cX7_named 69 = .ok (.iinc 3 1, 3) := by decide +kernel
theorem dX7_named_72 : decode cX7_named 72 = .ok (.goto (-41), 3) := by decide +kernel
theorem dX7_named_75 : decode cX7_named 75 = .ok (.iload_n 2, 1) := by decide +kernel
theorem dX7_named_76 : decode cX7_named 76 = .ok (.ifCond .eq 5, 3) := by decide +kernel
theorem dX7_named_79 : decode cX7_named 79 = .ok (.iload_n 1, 1) := by decide +kernel
theorem dX7_named_80 : decode cX7_named 80 = .ok (.ireturn, 1) := by decide +kernel
theorem dX7_named_81 : decode cX7_named 81 = .ok (.iinc 1 1, 3) := by decide +kernel
theorem dX7_named_84 : decode cX7_named 84 = .ok (.goto (-82), 3) := by decide +kernel
theorem dX7_named_87 : decode cX7_named 87 = .ok (.aload_n 0, 1) := by decide +kernel
theorem dX7_named_88 : decode cX7_named 88 = .ok (.getfield 115, 3) := by decide +kernel
theorem dX7_named_91 : decode cX7_named 91 = .ok (.ireturn, 1) := by decide +kernel
set_option maxHeartbeats 4000000 in
set_option maxRecDepth 100000 in
theorem l_X7_named_31 {p : Program} {l : Launch} {e : Env} {s : State} {m : MethodId} {args : Array Value} {below : List Frame} {meth : Method} {c : Code} {D : va_G} {cy : Nat → ClassId} {A : Nat → Prop} {Bd : Nat} {xa : Xa} {ad : Nat → Nat} {β : Type} {vO : Option Value} {wO : va_W} {N : Nat} {sc : Nat → Int32} {ar : Nat → Nat → Int32} {la : Nat → Nat → Int64} {v1 : Int32} {kx : Int32 → Option (β)} {out : β} (C : CC p s m args meth c cX7_named RX7 4 (some .int) D cy A true Bd xa) (hk : ∀ (x2 : Int32), kx x2 = some out → TT p l e { frames := 0, cells := 0, slots := 0, locals := 0 } s m args below meth c 4 D A true vO wO 75 [(0, .ref (ad 0)), (1, .int v1), (2, .int x2)] [] (mC cy ad sc ar la)) {n : Nat} {v2 : Int32} {v3 : Int32} (hf : f_X7_named_L31 N sc ar v1 kx n v2 v3 = some out) : TT p l e { frames := 0, cells := 0, slots := 0, locals := 0 } s m args below meth c 4 D A true vO wO 31 [(0, .ref (ad 0)), (1, .int v1), (2, .int v2), (3, .int v3)] [] (mC cy ad sc ar la) := by
  induction n generalizing v2 v3 with
  | zero => cases hf
  | succ n ih =>
    rw [f_X7_named_L31] at hf
    refine tt_iload_n (pc := 31) (k := 3) C dX7_named_31 rfl rfl ?_
    refine tt_aload_n (pc := 32) (k := 0) C dX7_named_32 rfl rfl ?_
    refine tt_get (pc := 33) (ws := (mC cy ad sc ar la)) (ci := 7) (v := .int (sc 36)) C fiX7 rfl 0 mC_obj 36 (by decide) q4_196 rfl dX7_named_33 ?_
    refine tt_icmp_ge (pc := 36) (tgt := 75) C dX7_named_36 (by decide) hf (fun hf => ?_) (fun hf => ?_)
    · exact tt_locs [0, 1, 2] rfl (hk _ hf)
    · refine tt_iload_n (pc := 39) (k := 2) C dX7_named_39 rfl rfl ?_
      refine tt_if_eq (pc := 40) (tgt := 75) C dX7_named_40 (by decide) hf (fun hf => ?_) (fun hf => ?_)
      · exact tt_locs [0, 1, 2] rfl (hk _ hf)
      · refine tt_aload_n (pc := 43) (k := 0) C dX7_named_43 rfl rfl ?_
        refine tt_get (pc := 44) (ws := (mC cy ad sc ar la)) (ci := 7) (v := .ref (ad 16)) C fiX7 rfl 0 mC_obj 16 (by decide) q4_176 rfl dX7_named_44 ?_
        refine tt_bipush (pc := 47) (v := (7 : Int32)) C dX7_named_47 (by decide) ?_
        refine tt_iload_n (pc := 49) (k := 1) C dX7_named_49 rfl rfl ?_
        refine tt_imul (pc := 50) C dX7_named_50 ?_
        refine tt_iload_n (pc := 51) (k := 3) C dX7_named_51 rfl rfl ?_
        refine tt_iadd (pc := 52) C dX7_named_52 ?_
        refine tt_iaload (pc := 53) (ws := (mC cy ad sc ar la)) (n := 56) (f := (ar 16)) C 11 0 mC_get16 rfl hf dX7_named_53 (fun hf => ?_)
        refine tt_aload_n (pc := 54) (k := 0) C dX7_named_54 rfl rfl ?_
        refine tt_get (pc := 55) (ws := (mC cy ad sc ar la)) (ci := 7) (v := .ref (ad 35)) C fiX7 rfl 0 mC_obj 35 (by decide) q4_195 rfl dX7_named_55 ?_
        refine tt_iload_n (pc := 58) (k := 3) C dX7_named_58 rfl rfl ?_
        refine tt_iaload (pc := 59) (ws := (mC cy ad sc ar la)) (n := 7) (f := (ar 35)) C 26 0 mC_get35 rfl hf dX7_named_59 (fun hf => ?_)
        have k4 : TT p l e { frames := 0, cells := 0, slots := 0, locals := 0 } s m args below meth c 4 D A true vO wO 68 [(0, .ref (ad 0)), (1, .int v1), (3, .int v3)] [.int (if ((ar 16) (ix (((7 : Int32) * v1) + v3))) = ((ar 35) (ix v3)) then (1 : Int32) else (0 : Int32))] (mC cy ad sc ar la) := by
          refine tt_istore_n (pc := 68) (L' := [(2, .int (if ((ar 16) (ix (((7 : Int32) * v1) + v3))) = ((ar 35) (ix v3)) then (1 : Int32) else (0 : Int32))), (0, .ref (ad 0)), (1, .int v1), (3, .int v3)]) C dX7_named_68 rfl (by decide) rfl ?_
          refine tt_iinc (pc := 69) (k := 3) (v := (v3 + 1)) (L' := [(3, .int (v3 + 1)), (2, .int (if ((ar 16) (ix (((7 : Int32) * v1) + v3))) = ((ar 35) (ix v3)) then (1 : Int32) else (0 : Int32))), (0, .ref (ad 0)), (1, .int v1)]) C dX7_named_69 rfl rfl (by decide) rfl ?_
          refine tt_goto (pc := 72) (tgt := 31) C dX7_named_72 (by decide) ?_
          exact tt_locs [2, 3, 1, 0] rfl (ih hf)
        refine tr_icmp_ne (pc := 60) (tgt := 67) C dX7_named_60 (by decide) (fun c3 => ?_) (fun c3 => ?_)
        · refine tt_iconst (pc := 67) (v := (0 : Int32)) C dX7_named_67 (by decide) ?_
          try simp only [if_neg c3] at k4 ⊢
          exact tt_locs [0, 1, 3] rfl k4
        · refine tt_iconst (pc := 63) (v := (1 : Int32)) C dX7_named_63 (by decide) ?_
          refine tt_goto (pc := 64) (tgt := 68) C dX7_named_64 (by decide) ?_
          try simp only [if_pos c3] at k4 ⊢
          exact tt_locs [0, 1, 3] rfl k4
set_option maxHeartbeats 4000000 in
set_option maxRecDepth 100000 in
theorem l_X7_named_2 {p : Program} {l : Launch} {e : Env} {s : State} {m : MethodId} {args : Array Value} {below : List Frame} {meth : Method} {c : Code} {D : va_G} {cy : Nat → ClassId} {A : Nat → Prop} {Bd : Nat} {xa : Xa} {ad : Nat → Nat} {N : Nat} {sc : Nat → Int32} {ar : Nat → Nat → Int32} {la : Nat → Nat → Int64} {kx : Unit → Option (Int32)} {out : Int32} (C : CC p s m args meth c cX7_named RX7 4 (some .int) D cy A true Bd xa) (hk : ∀ (uu : Unit), kx uu = some out → TT p l e { frames := 0, cells := 0, slots := 0, locals := 0 } s m args below meth c 4 D A true (some (.int out)) (mC cy ad sc ar la) 87 [(0, .ref (ad 0))] [] (mC cy ad sc ar la)) {n : Nat} {v1 : Int32} (hf : f_X7_named_L2 N sc ar kx n v1 = some out) : TT p l e { frames := 0, cells := 0, slots := 0, locals := 0 } s m args below meth c 4 D A true (some (.int out)) (mC cy ad sc ar la) 2 [(0, .ref (ad 0)), (1, .int v1)] [] (mC cy ad sc ar la) := by
  induction n generalizing v1 with
  | zero => cases hf
  | succ n ih =>
    rw [f_X7_named_L2] at hf
    refine tt_iload_n (pc := 2) (k := 1) C dX7_named_2 rfl rfl ?_
    refine tt_aload_n (pc := 3) (k := 0) C dX7_named_3 rfl rfl ?_
    refine tt_get (pc := 4) (ws := (mC cy ad sc ar la)) (ci := 7) (v := .int (sc 15)) C fiX7 rfl 0 mC_obj 15 (by decide) q4_175 rfl dX7_named_4 ?_
    refine tt_icmp_ge (pc := 7) (tgt := 87) C dX7_named_7 (by decide) hf (fun hf => ?_) (fun hf => ?_)
    · exact tt_locs [0] rfl (hk () hf)
    · refine tt_aload_n (pc := 10) (k := 0) C dX7_named_10 rfl rfl ?_
      refine tt_get (pc := 11) (ws := (mC cy ad sc ar la)) (ci := 7) (v := .ref (ad 17)) C fiX7 rfl 0 mC_obj 17 (by decide) q4_177 rfl dX7_named_11 ?_
      refine tt_iload_n (pc := 14) (k := 1) C dX7_named_14 rfl rfl ?_
      refine tt_iaload (pc := 15) (ws := (mC cy ad sc ar la)) (n := 8) (f := (ar 17)) C 12 0 mC_get17 rfl hf dX7_named_15 (fun hf => ?_)
      refine tt_aload_n (pc := 16) (k := 0) C dX7_named_16 rfl rfl ?_
      refine tt_get (pc := 17) (ws := (mC cy ad sc ar la)) (ci := 7) (v := .int (sc 36)) C fiX7 rfl 0 mC_obj 36 (by decide) q4_196 rfl dX7_named_17 ?_
      have k2 : TT p l e { frames := 0, cells := 0, slots := 0, locals := 0 } s m args below meth c 4 D A true (some (.int out)) (mC cy ad sc ar la) 28 [(0, .ref (ad 0)), (1, .int v1)] [.int (if ((ar 17) (ix v1)) = (sc 36) then (1 : Int32) else (0 : Int32))] (mC cy ad sc ar la) := by
        refine tt_istore_n (pc := 28) (L' := [(2, .int (if ((ar 17) (ix v1)) = (sc 36) then (1 : Int32) else (0 : Int32))), (0, .ref (ad 0)), (1, .int v1)]) C dX7_named_28 rfl (by decide) rfl ?_
        refine tt_iconst (pc := 29) (v := (0 : Int32)) C dX7_named_29 (by decide) ?_
        refine tt_istore_n (pc := 30) (L' := [(3, .int (0 : Int32)), (2, .int (if ((ar 17) (ix v1)) = (sc 36) then (1 : Int32) else (0 : Int32))), (0, .ref (ad 0)), (1, .int v1)]) C dX7_named_30 rfl (by decide) rfl ?_
        refine tt_locs (L' := [(0, .ref (ad 0)), (1, .int v1), (2, .int (if ((ar 17) (ix v1)) = (sc 36) then (1 : Int32) else (0 : Int32))), (3, .int (0 : Int32))]) [2, 3, 1, 0] rfl (l_X7_named_31 C (fun x2_5 hf => ?_) hf)
        refine tt_iload_n (pc := 75) (k := 2) C dX7_named_75 rfl rfl ?_
        refine tt_if_eq (pc := 76) (tgt := 81) C dX7_named_76 (by decide) hf (fun hf => ?_) (fun hf => ?_)
        · refine tt_iinc (pc := 81) (k := 1) (v := (v1 + 1)) (L' := [(1, .int (v1 + 1)), (0, .ref (ad 0)), (2, .int x2_5)]) C dX7_named_81 rfl rfl (by decide) rfl ?_
          refine tt_goto (pc := 84) (tgt := 2) C dX7_named_84 (by decide) ?_
          exact tt_locs [1, 0] rfl (ih hf)
        · refine tt_iload_n (pc := 79) (k := 1) C dX7_named_79 rfl rfl ?_
          obtain rfl := Option.some.inj hf
          exact tt_ireturn (pc := 80) C rfl rfl rfl dX7_named_80
      refine tr_icmp_ne (pc := 20) (tgt := 27) C dX7_named_20 (by decide) (fun c1 => ?_) (fun c1 => ?_)
      · refine tt_iconst (pc := 27) (v := (0 : Int32)) C dX7_named_27 (by decide) ?_
        try simp only [if_neg c1] at k2 ⊢
        exact tt_locs [0, 1] rfl k2
      · refine tt_iconst (pc := 23) (v := (1 : Int32)) C dX7_named_23 (by decide) ?_
        refine tt_goto (pc := 24) (tgt := 28) C dX7_named_24 (by decide) ?_
        try simp only [if_pos c1] at k2 ⊢
        exact tt_locs [0, 1] rfl k2
set_option maxHeartbeats 4000000 in
set_option maxRecDepth 100000 in
theorem k_X7_named {l : Launch} {D : va_G} {cy : Nat → ClassId} {Bd : Nat} {xa : Xa} {ad : Nat → Nat} {N : Nat} {sc : Nat → Int32} {ar : Nat → Nat → Int32} {la : Nat → Nat → Int64} {out : Int32} (hf : f_X7_named N sc ar = some out) : KC l yX7_named cX7_named 4 (some .int) 0 0 true D cy Bd xa [.ref (ad 0)] (mC cy ad sc ar la) (some (.int out)) (mC cy ad sc ar la) := by
  refine kc_start (own := RX7) (by decide +kernel) rfl (Nat.le_of_ble_eq_true rfl) ?_
  intro p e s m args below meth c A C
  unfold f_X7_named at hf
  refine tt_locs (L' := [(0, .ref (ad 0))]) [0] rfl ?_
  refine tt_iconst (pc := 0) (v := (0 : Int32)) C dX7_named_0 (by decide) ?_
  refine tt_istore_n (pc := 1) (L' := [(1, .int (0 : Int32)), (0, .ref (ad 0))]) C dX7_named_1 rfl (by decide) rfl ?_
  refine tt_locs (L' := [(0, .ref (ad 0)), (1, .int (0 : Int32))]) [1, 0] rfl (l_X7_named_2 C (fun _ hf => ?_) hf)
  refine tt_aload_n (pc := 87) (k := 0) C dX7_named_87 rfl rfl ?_
  refine tt_get (pc := 88) (ws := (mC cy ad sc ar la)) (ci := 7) (v := .int (sc 15)) C fiX7 rfl 0 mC_obj 15 (by decide) q4_175 rfl dX7_named_88 ?_
  obtain rfl := Option.some.inj hf
  exact tt_ireturn (pc := 91) C rfl rfl rfl dX7_named_91
theorem dX7_places_0 : decode cX7_places 0 = .ok (.aload_n 0, 1) := by decide +kernel
theorem dX7_places_1 : decode cX7_places 1 = .ok (.invokevirtual 317, 3) := by decide +kernel
theorem dX7_places_4 : decode cX7_places 4 = .ok (.istore_n 2, 1) := by decide +kernel
theorem dX7_places_5 : decode cX7_places 5 = .ok (.aload_n 0, 1) := by decide +kernel
theorem dX7_places_6 : decode cX7_places 6 = .ok (.iload_n 1, 1) := by decide +kernel
theorem dX7_places_7 : decode cX7_places 7 = .ok (.invokevirtual 121, 3) := by decide +kernel
theorem dX7_places_10 : decode cX7_places 10 = .ok (.ifCond .ne 9, 3) := by decide +kernel
theorem dX7_places_13 : decode cX7_places 13 = .ok (.aload_n 0, 1) := by decide +kernel
theorem dX7_places_14 : decode cX7_places 14 = .ok (.iconst (-1), 1) := by decide +kernel
theorem dX7_places_15 : decode cX7_places 15 = .ok (.invokevirtual 98, 3) := by decide +kernel
theorem dX7_places_18 : decode cX7_places 18 = .ok (.ireturn, 1) := by decide +kernel
theorem dX7_places_19 : decode cX7_places 19 = .ok (.iload_n 2, 1) := by decide +kernel
theorem dX7_places_20 : decode cX7_places 20 = .ok (.bipush 8, 2) := by decide +kernel
theorem dX7_places_22 : decode cX7_places 22 = .ok (.if_icmp .ne 10, 3) := by decide +kernel
theorem dX7_places_25 : decode cX7_places 25 = .ok (.aload_n 0, 1) := by decide +kernel
theorem dX7_places_26 : decode cX7_places 26 = .ok (.bipush (-6), 2) := by decide +kernel
theorem dX7_places_28 : decode cX7_places 28 = .ok (.invokevirtual 98, 3) := by decide +kernel
theorem dX7_places_31 : decode cX7_places 31 = .ok (.ireturn, 1) := by decide +kernel
theorem dX7_places_32 : decode cX7_places 32 = .ok (.iconst 0, 1) := by decide +kernel
theorem dX7_places_33 : decode cX7_places 33 = .ok (.istore_n 3, 1) := by decide +kernel
theorem dX7_places_34 : decode cX7_places 34 = .ok (.iload_n 3, 1) := by decide +kernel
theorem dX7_places_35 : decode cX7_places 35 = .ok (.aload_n 0, 1) := by decide +kernel
theorem dX7_places_36 : decode cX7_places 36 = .ok (.getfield 302, 3) := by decide +kernel
theorem dX7_places_39 : decode cX7_places 39 = .ok (.if_icmp .ge 26, 3) := by decide +kernel
theorem dX7_places_42 : decode cX7_places 42 = .ok (.aload_n 0, 1) := by decide +kernel
theorem dX7_places_43 : decode cX7_places 43 = .ok (.getfield 47, 3) := by decide +kernel
theorem dX7_places_46 : decode cX7_places 46 = .ok (.bipush 7, 2) := by decide +kernel
theorem dX7_places_48 : decode cX7_places 48 = .ok (.iload_n 2, 1) := by decide +kernel
theorem dX7_places_49 : decode cX7_places 49 = .ok (.imul, 1) := by decide +kernel
theorem dX7_places_50 : decode cX7_places 50 = .ok (.iload_n 3, 1) := by decide +kernel
theorem dX7_places_51 : decode cX7_places 51 = .ok (.iadd, 1) := by decide +kernel
theorem dX7_places_52 : decode cX7_places 52 = .ok (.aload_n 0, 1) := by decide +kernel
theorem dX7_places_53 : decode cX7_places 53 = .ok (.getfield 93, 3) := by decide +kernel
theorem dX7_places_56 : decode cX7_places 56 = .ok (.iload_n 3, 1) := by decide +kernel
theorem dX7_places_57 : decode cX7_places 57 = .ok (.iaload, 1) := by decide +kernel
theorem dX7_places_58 : decode cX7_places 58 = .ok (.iastore, 1) := by decide +kernel
theorem dX7_places_59 : decode cX7_places 59 = .ok (.iinc 3 1, 3) := by decide +kernel
theorem dX7_places_62 : decode cX7_places 62 = .ok (.goto (-28), 3) := by decide +kernel
theorem dX7_places_65 : decode cX7_places 65 = .ok (.aload_n 0, 1) := by decide +kernel
theorem dX7_places_66 : decode cX7_places 66 = .ok (.getfield 50, 3) := by decide +kernel
theorem dX7_places_69 : decode cX7_places 69 = .ok (.iload_n 2, 1) := by decide +kernel
theorem dX7_places_70 : decode cX7_places 70 = .ok (.aload_n 0, 1) := by decide +kernel
theorem dX7_places_71 : decode cX7_places 71 = .ok (.getfield 302, 3) := by decide +kernel
theorem dX7_places_74 : decode cX7_places 74 = .ok (.iastore, 1) := by decide +kernel
theorem dX7_places_75 : decode cX7_places 75 = .ok (.aload_n 0, 1) := by decide +kernel
theorem dX7_places_76 : decode cX7_places 76 = .ok (.getfield 53, 3) := by decide +kernel
theorem dX7_places_79 : decode cX7_places 79 = .ok (.iload_n 2, 1) := by decide +kernel
theorem dX7_places_80 : decode cX7_places 80 = .ok (.iload_n 1, 1) := by decide +kernel
theorem dX7_places_81 : decode cX7_places 81 = .ok (.iastore, 1) := by decide +kernel
theorem dX7_places_82 : decode cX7_places 82 = .ok (.aload_n 0, 1) := by decide +kernel
theorem dX7_places_83 : decode cX7_places 83 = .ok (.aload_n 0, 1) := by decide +kernel
theorem dX7_places_84 : decode cX7_places 84 = .ok (.getfield 115, 3) := by decide +kernel
theorem dX7_places_87 : decode cX7_places 87 = .ok (.iload_n 2, 1) := by decide +kernel
theorem dX7_places_88 : decode cX7_places 88 = .ok (.iconst 1, 1) := by decide +kernel
theorem dX7_places_89 : decode cX7_places 89 = .ok (.iadd, 1) := by decide +kernel
theorem dX7_places_90 : decode cX7_places 90 = .ok (.invokestatic 144, 3) := by decide +kernel
theorem dX7_places_93 : decode cX7_places 93 = .ok (.putfield 115, 3) := by decide +kernel
theorem dX7_places_96 : decode cX7_places 96 = .ok (.iload_n 2, 1) := by decide +kernel
theorem dX7_places_97 : decode cX7_places 97 = .ok (.ireturn, 1) := by decide +kernel
set_option maxHeartbeats 4000000 in
set_option maxRecDepth 100000 in
theorem l_X7_places_34 {p : Program} {l : Launch} {e : Env} {s : State} {m : MethodId} {args : Array Value} {below : List Frame} {meth : Method} {c : Code} {D : va_G} {cy : Nat → ClassId} {A : Nat → Prop} {Bd : Nat} {xa : Xa} {ad : Nat → Nat} {β : Type} {vO : Option Value} {wO : va_W} {N : Nat} {sc : Nat → Int32} {la : Nat → Nat → Int64} {v1 : Int32} {v2 : Int32} {kx : (Nat → Nat → Int32) → Option (β)} {out : β} (C : CC p s m args meth c cX7_places RX7 4 (some .int) D cy A false Bd xa) (hk : ∀ (ar1 : Nat → Nat → Int32), kx ar1 = some out → TT p l e { frames := 2, cells := 0, slots := 0, locals := 43 } s m args below meth c 4 D A false vO wO 65 [(0, .ref (ad 0)), (1, .int v1), (2, .int v2)] [] (mC cy ad sc ar1 la)) {n : Nat} {v3 : Int32} {ar : Nat → Nat → Int32} (hf : f_X7_places_L34 N sc v1 v2 kx n v3 ar = some out) : TT p l e { frames := 2, cells := 0, slots := 0, locals := 43 } s m args below meth c 4 D A false vO wO 34 [(0, .ref (ad 0)), (1, .int v1), (2, .int v2), (3, .int v3)] [] (mC cy ad sc ar la) := by
  induction n generalizing v3 ar with
  | zero => cases hf
  | succ n ih =>
    rw [f_X7_places_L34] at hf
    refine tt_iload_n (pc := 34) (k := 3) C dX7_places_34 rfl rfl ?_
    refine tt_aload_n (pc := 35) (k := 0) C dX7_places_35 rfl rfl ?_
    refine tt_get (pc := 36) (ws := (mC cy ad sc ar la)) (ci := 7) (v := .int (sc 36)) C fiX7 rfl 0 mC_obj 36 (by decide) q4_196 rfl dX7_places_36 ?_
    refine tt_icmp_ge (pc := 39) (tgt := 65) C dX7_places_39 (by decide) hf (fun hf => ?_) (fun hf => ?_)
    · exact tt_locs [0, 1, 2] rfl (hk _ hf)
    · refine tt_aload_n (pc := 42) (k := 0) C dX7_places_42 rfl rfl ?_
      refine tt_get (pc := 43) (ws := (mC cy ad sc ar la)) (ci := 7) (v := .ref (ad 16)) C fiX7 rfl 0 mC_obj 16 (by decide) q4_176 rfl dX7_places_43 ?_
      refine tt_bipush (pc := 46) (v := (7 : Int32)) C dX7_places_46 (by decide) ?_
      refine tt_iload_n (pc := 48) (k := 2) C dX7_places_48 rfl rfl ?_
      refine tt_imul (pc := 49) C dX7_places_49 ?_
      refine tt_iload_n (pc := 50) (k := 3) C dX7_places_50 rfl rfl ?_
      refine tt_iadd (pc := 51) C dX7_places_51 ?_
      refine tt_aload_n (pc := 52) (k := 0) C dX7_places_52 rfl rfl ?_
      refine tt_get (pc := 53) (ws := (mC cy ad sc ar la)) (ci := 7) (v := .ref (ad 35)) C fiX7 rfl 0 mC_obj 35 (by decide) q4_195 rfl dX7_places_53 ?_
      refine tt_iload_n (pc := 56) (k := 3) C dX7_places_56 rfl rfl ?_
      refine tt_iaload (pc := 57) (ws := (mC cy ad sc ar la)) (n := 7) (f := (ar 35)) C 26 0 mC_get35 rfl hf dX7_places_57 (fun hf => ?_)
      refine tt_iastore (pc := 58) (ws := (mC cy ad sc ar la)) (n := 56) (f := (ar 16)) (ws' := (mC cy ad sc (va_up ar 16 (upd (ar 16) (ix (((7 : Int32) * v2) + v3)) ((ar 35) (ix v3)))) la)) C rfl 11 0 mC_get16 rfl hf dX7_places_58 mC_set16 (fun hf => ?_)
      refine tt_iinc (pc := 59) (k := 3) (v := (v3 + 1)) (L' := [(3, .int (v3 + 1)), (0, .ref (ad 0)), (1, .int v1), (2, .int v2)]) C dX7_places_59 rfl rfl (by decide) rfl ?_
      refine tt_goto (pc := 62) (tgt := 34) C dX7_places_62 (by decide) ?_
      exact tt_locs [1, 2, 3, 0] rfl (ih hf)
set_option maxHeartbeats 4000000 in
set_option maxRecDepth 100000 in
theorem k_X7_places {l : Launch} {D : va_G} {cy : Nat → ClassId} {Bd : Nat} {xa : Xa} {ad : Nat → Nat} {N : Nat} {sc : Nat → Int32} {ar : Nat → Nat → Int32} {la : Nat → Nat → Int64} {a1 : Int32} {out : Int32 × (Nat → Int32) × (Nat → Nat → Int32)} (hf : f_X7_places N sc ar a1 = some out) : KC l yX7_places cX7_places 4 (some .int) 2 43 false D cy Bd xa [.ref (ad 0), .int a1] (mC cy ad sc ar la) (some (.int out.1)) (mC cy ad out.2.1 out.2.2 la) := by
  refine kc_start (own := RX7) (by decide +kernel) rfl (Nat.le_of_ble_eq_true rfl) ?_
  intro p e s m args below meth c A C
  unfold f_X7_places at hf
  refine tt_locs (L' := [(0, .ref (ad 0)), (1, .int a1)]) [0, 1] rfl ?_
  refine tt_aload_n (pc := 0) (k := 0) C dX7_places_0 rfl rfl ?_
  obtain ⟨r1, hr1, hf⟩ := bind_some hf
  refine tt_callR (pc := 1) (ws := (mC cy ad sc ar la)) (q0 := 0) (ci := 7) (rest := []) (st' := [.int r1]) C (k_X7_named hr1) okX7_named q6_189 rfl mC_obj (fun _ h => h) rfl rfl rfl (Nat.le_of_ble_eq_true rfl) ⟨Nat.le_of_ble_eq_true rfl, Nat.le_of_ble_eq_true rfl⟩ dX7_places_1 ?_
  refine tt_istore_n (pc := 4) (L' := [(2, .int r1), (0, .ref (ad 0)), (1, .int a1)]) C dX7_places_4 rfl (by decide) rfl ?_
  refine tt_aload_n (pc := 5) (k := 1) C dX7_places_5 rfl rfl ?_
  refine tt_iload_n (pc := 6) (k := 2) C dX7_places_6 rfl rfl ?_
  obtain ⟨r2, hr2, hf⟩ := bind_some hf
  refine tt_callR (pc := 7) (ws := (mC cy ad sc ar la)) (q0 := 0) (ci := 7) (rest := []) (st' := [.int r2]) C (k_X7_isCell hr2) okX7_isCell q5_48 rfl mC_obj (fun _ h => h) rfl rfl rfl (Nat.le_of_ble_eq_true rfl) ⟨Nat.le_of_ble_eq_true rfl, Nat.le_of_ble_eq_true rfl⟩ dX7_places_7 ?_
  refine tt_if_ne (pc := 10) (tgt := 19) C dX7_places_10 (by decide) hf (fun hf => ?_) (fun hf => ?_)
  · refine tt_iload_n (pc := 19) (k := 0) C dX7_places_19 rfl rfl ?_
    refine tt_bipush (pc := 20) (v := (8 : Int32)) C dX7_places_20 (by decide) ?_
    refine tt_icmp_ne (pc := 22) (tgt := 32) C dX7_places_22 (by decide) hf (fun hf => ?_) (fun hf => ?_)
    · refine tt_iconst (pc := 32) (v := (0 : Int32)) C dX7_places_32 (by decide) ?_
      refine tt_istore_n (pc := 33) (L' := [(3, .int (0 : Int32)), (2, .int r1), (0, .ref (ad 0)), (1, .int a1)]) C dX7_places_33 rfl (by decide) rfl ?_
      refine tt_locs (L' := [(0, .ref (ad 0)), (1, .int a1), (2, .int r1), (3, .int (0 : Int32))]) [2, 3, 1, 0] rfl (l_X7_places_34 C (fun t3 hf => ?_) hf)
      refine tt_aload_n (pc := 65) (k := 0) C dX7_places_65 rfl rfl ?_
      refine tt_get (pc := 66) (ws := (mC cy ad sc t3 la)) (ci := 7) (v := .ref (ad 17)) C fiX7 rfl 0 mC_obj 17 (by decide) q4_177 rfl dX7_places_66 ?_
      refine tt_iload_n (pc := 69) (k := 2) C dX7_places_69 rfl rfl ?_
      refine tt_aload_n (pc := 70) (k := 0) C dX7_places_70 rfl rfl ?_
      refine tt_get (pc := 71) (ws := (mC cy ad sc t3 la)) (ci := 7) (v := .int (sc 36)) C fiX7 rfl 0 mC_obj 36 (by decide) q4_196 rfl dX7_places_71 ?_
      refine tt_iastore (pc := 74) (ws := (mC cy ad sc t3 la)) (n := 8) (f := (t3 17)) (ws' := (mC cy ad sc (va_up t3 17 (upd (t3 17) (ix r1) (sc 36))) la)) C rfl 12 0 mC_get17 rfl hf dX7_places_74 mC_set17 (fun hf => ?_)
      refine tt_aload_n (pc := 75) (k := 0) C dX7_places_75 rfl rfl ?_
      refine tt_get (pc := 76) (ws := (mC cy ad sc (va_up t3 17 (upd (t3 17) (ix r1) (sc 36))) la)) (ci := 7) (v := .ref (ad 18)) C fiX7 rfl 0 mC_obj 18 (by decide) q4_178 rfl dX7_places_76 ?_
      refine tt_iload_n (pc := 79) (k := 2) C dX7_places_79 rfl rfl ?_
      refine tt_iload_n (pc := 80) (k := 1) C dX7_places_80 rfl rfl ?_
      refine tt_iastore (pc := 81) (ws := (mC cy ad sc (va_up t3 17 (upd (t3 17) (ix r1) (sc 36))) la)) (n := 8) (f := (t3 18)) (ws' := (mC cy ad sc (va_up (va_up t3 17 (upd (t3 17) (ix r1) (sc 36))) 18 (upd (t3 18) (ix r1) a1)) la)) C rfl 13 0 mC_get18 rfl hf dX7_places_81 mC_set18 (fun hf => ?_)
      refine tt_aload_n (pc := 82) (k := 0) C dX7_places_82 rfl rfl ?_
      refine tt_aload_n (pc := 83) (k := 0) C dX7_places_83 rfl rfl ?_
      refine tt_get (pc := 84) (ws := (mC cy ad sc (va_up (va_up t3 17 (upd (t3 17) (ix r1) (sc 36))) 18 (upd (t3 18) (ix r1) a1)) la)) (ci := 7) (v := .int (sc 15)) C fiX7 rfl 0 mC_obj 15 (by decide) q4_175 rfl dX7_places_84 ?_
      refine tt_iload_n (pc := 87) (k := 2) C dX7_places_87 rfl rfl ?_
      refine tt_iconst (pc := 88) (v := (1 : Int32)) C dX7_places_88 (by decide) ?_
      refine tt_iadd (pc := 89) C dX7_places_89 ?_
      refine tt_max (pc := 90) C q5_130 q3_73 q1_14 q3_74 (Nat.le_of_ble_eq_true rfl) (Nat.le_of_ble_eq_true rfl) dX7_places_90 ?_
      refine tt_put (pc := 93) (ws := (mC cy ad sc (va_up (va_up t3 17 (upd (t3 17) (ix r1) (sc 36))) 18 (upd (t3 18) (ix r1) a1)) la)) (ci := 7) (ty := .int) (ws' := (mC cy ad (upd sc 15 (if (sc 15) < (r1 + (1 : Int32)) then (r1 + (1 : Int32)) else (sc 15))) (va_up (va_up t3 17 (upd (t3 17) (ix r1) (sc 36))) 18 (upd (t3 18) (ix r1) a1)) la)) C rfl fiX7 rfl 0 mC_obj 15 (by decide) q4_175 rfl rfl rfl rfl (Nat.le_of_ble_eq_true rfl) dX7_places_93 mC_put15 ?_
      refine tt_iload_n (pc := 96) (k := 2) C dX7_places_96 rfl rfl ?_
      obtain rfl := Option.some.inj hf
      exact tt_ireturn (pc := 97) C rfl rfl rfl dX7_places_97
    · refine tt_aload_n (pc := 25) (k := 1) C dX7_places_25 rfl rfl ?_
      refine tt_bipush (pc := 26) (v := (-6 : Int32)) C dX7_places_26 (by decide) ?_
      obtain ⟨r4, hr4, hf⟩ := bind_some hf
      refine tt_callM (pc := 28) (ws := (mC cy ad sc ar la)) (q0 := 0) (ci := 7) (rest := []) (st' := [.int r4.1]) C rfl (k_X7_no hr4) okX7_no q5_36 rfl mC_obj rfl rfl rfl (Nat.le_of_ble_eq_true rfl) ⟨Nat.le_of_ble_eq_true rfl, Nat.le_of_ble_eq_true rfl⟩ dX7_places_28 ?_
      obtain rfl := Option.some.inj hf
      exact tt_ireturn (pc := 31) C rfl rfl rfl dX7_places_31
  · refine tt_aload_n (pc := 13) (k := 1) C dX7_places_13 rfl rfl ?_
    refine tt_iconst (pc := 14) (v := (-1 : Int32)) C dX7_places_14 (by decide) ?_
    obtain ⟨r5, hr5, hf⟩ := bind_some hf
    refine tt_callM (pc := 15) (ws := (mC cy ad sc ar la)) (q0 := 0) (ci := 7) (rest := []) (st' := [.int r5.1]) C rfl (k_X7_no hr5) okX7_no q5_36 rfl mC_obj rfl rfl rfl (Nat.le_of_ble_eq_true rfl) ⟨Nat.le_of_ble_eq_true rfl, Nat.le_of_ble_eq_true rfl⟩ dX7_places_15 ?_
    obtain rfl := Option.some.inj hf
    exact tt_ireturn (pc := 18) C rfl rfl rfl dX7_places_18
theorem dX7_does_0 : decode cX7_does 0 = .ok (.iload_n 1, 1) := by decide +kernel
theorem dX7_does_1 : decode cX7_does 1 = .ok (.tableswitch 147 0 5 #[39, 56, 79, 96, 125, 136], 39) := by decide +kernel
theorem dX7_does_40 : decode cX7_does 40 = .ok (.aload_n 0, 1) := by decide +kernel
theorem dX7_does_41 : decode cX7_does 41 = .ok (.aload_n 0, 1) := by decide +kernel
theorem dX7_does_42 : decode cX7_does 42 = .ok (.getfield 90, 3) := by decide +kernel
theorem dX7_does_45 : decode cX7_does 45 = .ok (.iconst 0, 1) := by decide +kernel
theorem dX7_does_46 : decode cX7_does 46 = .ok (.iaload, 1) := by decide +kernel
theorem dX7_does_47 : decode cX7_does 47 = .ok (.aload_n 0, 1) := by decide +kernel
theorem dX7_does_48 : decode cX7_does 48 = .ok (.getfield 90, 3) := by decide +kernel
theorem dX7_does_51 : decode cX7_does 51 = .ok (.iconst 1, 1) := by decide +kernel
theorem dX7_does_52 : decode cX7_does 52 = .ok (.iaload, 1) := by decide +kernel
theorem dX7_does_53 : decode cX7_does 53 = .ok (.invokevirtual 320, 3) := by decide +kernel
theorem dX7_does_56 : decode cX7_does 56 = .ok (.ireturn, 1) := by decide +kernel
theorem dX7_does_57 : decode cX7_does 57 = .ok (.aload_n 0, 1) := by decide +kernel
theorem dX7_does_58 : decode cX7_does 58 = .ok (.aload_n 0, 1) := by decide +kernel
theorem dX7_does_59 : decode cX7_does 59 = .ok (.getfield 90, 3) := by decide +kernel
theorem dX7_does_62 : decode cX7_does 62 = .ok (.iconst 0, 1) := by decide +kernel
theorem dX7_does_63 : decode cX7_does 63 = .ok (.iaload, 1) := by decide +kernel
theorem dX7_does_64 : decode cX7_does 64 = .ok (.aload_n 0, 1) := by decide +kernel
theorem dX7_does_65 : decode cX7_does 65 = .ok (.getfield 90, 3) := by decide +kernel
theorem dX7_does_68 : decode cX7_does 68 = .ok (.iconst 1, 1) := by decide +kernel
theorem dX7_does_69 : decode cX7_does 69 = .ok (.iaload, 1) := by decide +kernel
theorem dX7_does_70 : decode cX7_does 70 = .ok (.aload_n 0, 1) := by decide +kernel
theorem dX7_does_71 : decode cX7_does 71 = .ok (.getfield 90, 3) := by decide +kernel
theorem dX7_does_74 : decode cX7_does 74 = .ok (.iconst 2, 1) := by decide +kernel
theorem dX7_does_75 : decode cX7_does 75 = .ok (.iaload, 1) := by decide +kernel
theorem dX7_does_76 : decode cX7_does 76 = .ok (.invokevirtual 322, 3) := by decide +kernel
theorem dX7_does_79 : decode cX7_does 79 = .ok (.ireturn, 1) := by decide +kernel
theorem dX7_does_80 : decode cX7_does 80 = .ok (.aload_n 0, 1) := by decide +kernel
theorem dX7_does_81 : decode cX7_does 81 = .ok (.aload_n 0, 1) := by decide +kernel
theorem dX7_does_82 : decode cX7_does 82 = .ok (.getfield 90, 3) := by decide +kernel
theorem dX7_does_85 : decode cX7_does 85 = .ok (.iconst 0, 1) := by decide +kernel
theorem dX7_does_86 : decode cX7_does 86 = .ok (.iaload, 1) := by decide +kernel
theorem dX7_does_87 : decode cX7_does 87 = .ok (.aload_n 0, 1) := by decide +kernel
theorem dX7_does_88 : decode cX7_does 88 = .ok (.getfield 90, 3) := by decide +kernel
theorem dX7_does_91 : decode cX7_does 91 = .ok (.iconst 1, 1) := by decide +kernel
theorem dX7_does_92 : decode cX7_does 92 = .ok (.iaload, 1) := by decide +kernel
theorem dX7_does_93 : decode cX7_does 93 = .ok (.invokevirtual 325, 3) := by decide +kernel
theorem dX7_does_96 : decode cX7_does 96 = .ok (.ireturn, 1) := by decide +kernel
theorem dX7_does_97 : decode cX7_does 97 = .ok (.aload_n 0, 1) := by decide +kernel
theorem dX7_does_98 : decode cX7_does 98 = .ok (.aload_n 0, 1) := by decide +kernel
theorem dX7_does_99 : decode cX7_does 99 = .ok (.getfield 90, 3) := by decide +kernel
theorem dX7_does_102 : decode cX7_does 102 = .ok (.iconst 0, 1) := by decide +kernel
theorem dX7_does_103 : decode cX7_does 103 = .ok (.iaload, 1) := by decide +kernel
theorem dX7_does_104 : decode cX7_does 104 = .ok (.aload_n 0, 1) := by decide +kernel
theorem dX7_does_105 : decode cX7_does 105 = .ok (.getfield 90, 3) := by decide +kernel
theorem dX7_does_108 : decode cX7_does 108 = .ok (.iconst 1, 1) := by decide +kernel
theorem dX7_does_109 : decode cX7_does 109 = .ok (.iaload, 1) := by decide +kernel
theorem dX7_does_110 : decode cX7_does 110 = .ok (.aload_n 0, 1) := by decide +kernel
theorem dX7_does_111 : decode cX7_does 111 = .ok (.getfield 90, 3) := by decide +kernel
theorem dX7_does_114 : decode cX7_does 114 = .ok (.iconst 2, 1) := by decide +kernel
theorem dX7_does_115 : decode cX7_does 115 = .ok (.iaload, 1) := by decide +kernel
theorem dX7_does_116 : decode cX7_does 116 = .ok (.aload_n 0, 1) := by decide +kernel
theorem dX7_does_117 : decode cX7_does 117 = .ok (.getfield 90, 3) := by decide +kernel
theorem dX7_does_120 : decode cX7_does 120 = .ok (.iconst 3, 1) := by decide +kernel
theorem dX7_does_121 : decode cX7_does 121 = .ok (.iaload, 1) := by decide +kernel
theorem dX7_does_122 : decode cX7_does 122 = .ok (.invokevirtual 327, 3) := by decide +kernel
theorem dX7_does_125 : decode cX7_does 125 = .ok (.ireturn, 1) := by decide +kernel
theorem dX7_does_126 : decode cX7_does 126 = .ok (.aload_n 0, 1) := by decide +kernel
theorem dX7_does_127 : decode cX7_does 127 = .ok (.aload_n 0, 1) := by decide +kernel
theorem dX7_does_128 : decode cX7_does 128 = .ok (.getfield 90, 3) := by decide +kernel
theorem dX7_does_131 : decode cX7_does 131 = .ok (.iconst 0, 1) := by decide +kernel
theorem dX7_does_132 : decode cX7_does 132 = .ok (.iaload, 1) := by decide +kernel
theorem dX7_does_133 : decode cX7_does 133 = .ok (.invokevirtual 330, 3) := by decide +kernel
theorem dX7_does_136 : decode cX7_does 136 = .ok (.ireturn, 1) := by decide +kernel
theorem dX7_does_137 : decode cX7_does 137 = .ok (.aload_n 0, 1) := by decide +kernel
theorem dX7_does_138 : decode cX7_does 138 = .ok (.aload_n 0, 1) := by decide +kernel
theorem dX7_does_139 : decode cX7_does 139 = .ok (.getfield 90, 3) := by decide +kernel
theorem dX7_does_142 : decode cX7_does 142 = .ok (.iconst 0, 1) := by decide +kernel
theorem dX7_does_143 : decode cX7_does 143 = .ok (.iaload, 1) := by decide +kernel
theorem dX7_does_144 : decode cX7_does 144 = .ok (.invokevirtual 332, 3) := by decide +kernel
theorem dX7_does_147 : decode cX7_does 147 = .ok (.ireturn, 1) := by decide +kernel
theorem dX7_does_148 : decode cX7_does 148 = .ok (.aload_n 0, 1) := by decide +kernel
theorem dX7_does_149 : decode cX7_does 149 = .ok (.aload_n 0, 1) := by decide +kernel
theorem dX7_does_150 : decode cX7_does 150 = .ok (.getfield 90, 3) := by decide +kernel
theorem dX7_does_153 : decode cX7_does 153 = .ok (.iconst 0, 1) := by decide +kernel
theorem dX7_does_154 : decode cX7_does 154 = .ok (.iaload, 1) := by decide +kernel
theorem dX7_does_155 : decode cX7_does 155 = .ok (.invokevirtual 334, 3) := by decide +kernel
theorem dX7_does_158 : decode cX7_does 158 = .ok (.ireturn, 1) := by decide +kernel
set_option maxHeartbeats 4000000 in
set_option maxRecDepth 100000 in
theorem k_X7_does {l : Launch} {D : va_G} {cy : Nat → ClassId} {Bd : Nat} {xa : Xa} {ad : Nat → Nat} {N : Nat} {sc : Nat → Int32} {ar : Nat → Nat → Int32} {la : Nat → Nat → Int64} {a1 : Int32} {out : Int32 × (Nat → Int32) × (Nat → Nat → Int32)} (hf : f_X7_does N sc ar a1 = some out) : KC l yX7_does cX7_does 2 (some .int) 3 66 false D cy Bd xa [.ref (ad 0), .int a1] (mC cy ad sc ar la) (some (.int out.1)) (mC cy ad out.2.1 out.2.2 la) := by
  refine kc_start (own := RX7) (by decide +kernel) rfl (Nat.le_of_ble_eq_true rfl) ?_
  intro p e s m args below meth c A C
  unfold f_X7_does at hf
  refine tt_locs (L' := [(0, .ref (ad 0)), (1, .int a1)]) [0, 1] rfl ?_
  refine tt_iload_n (pc := 0) (k := 1) C dX7_does_0 rfl rfl ?_
  refine sw_eq (x := a1) (k := 0) hf (fun hx hf => ?_) (fun n0 hf => ?_)
  · rw [hx]
    refine tt_tabIn (pc := 1) (tgt := 40) (x := 0) C dX7_does_1 (by decide) (by decide) rfl (by decide) ?_
    refine tt_aload_n (pc := 40) (k := 0) C dX7_does_40 rfl rfl ?_
    refine tt_aload_n (pc := 41) (k := 0) C dX7_does_41 rfl rfl ?_
    refine tt_get (pc := 42) (ws := (mC cy ad sc ar la)) (ci := 7) (v := .ref (ad 34)) C fiX7 rfl 0 mC_obj 34 (by decide) q4_194 rfl dX7_does_42 ?_
    refine tt_iconst (pc := 45) (v := (0 : Int32)) C dX7_does_45 (by decide) ?_
    refine tt_iaload (pc := 46) (ws := (mC cy ad sc ar la)) (n := 4) (f := (ar 34)) C 25 0 mC_get34 rfl hf dX7_does_46 (fun hf => ?_)
    refine tt_aload_n (pc := 47) (k := 0) C dX7_does_47 rfl rfl ?_
    refine tt_get (pc := 48) (ws := (mC cy ad sc ar la)) (ci := 7) (v := .ref (ad 34)) C fiX7 rfl 0 mC_obj 34 (by decide) q4_194 rfl dX7_does_48 ?_
    refine tt_iconst (pc := 51) (v := (1 : Int32)) C dX7_does_51 (by decide) ?_
    refine tt_iaload (pc := 52) (ws := (mC cy ad sc ar la)) (n := 4) (f := (ar 34)) C 25 0 mC_get34 rfl hf dX7_does_52 (fun hf => ?_)
    obtain ⟨r2, hr2, hf⟩ := bind_some hf
    refine tt_callM (pc := 53) (ws := (mC cy ad sc ar la)) (q0 := 0) (ci := 7) (rest := []) (st' := [.int r2.1]) C rfl (k_X7_ground hr2) okX7_ground q6_179 rfl mC_obj rfl rfl rfl (Nat.le_of_ble_eq_true rfl) ⟨Nat.le_of_ble_eq_true rfl, Nat.le_of_ble_eq_true rfl⟩ dX7_does_53 ?_
    obtain rfl := Option.some.inj hf
    exact tt_ireturn (pc := 56) C rfl rfl rfl dX7_does_56
  · refine sw_eq (x := a1) (k := 1) hf (fun hx hf => ?_) (fun n1 hf => ?_)
    · rw [hx]
      refine tt_tabIn (pc := 1) (tgt := 57) (x := 1) C dX7_does_1 (by decide) (by decide) rfl (by decide) ?_
      refine tt_aload_n (pc := 57) (k := 0) C dX7_does_57 rfl rfl ?_
      refine tt_aload_n (pc := 58) (k := 0) C dX7_does_58 rfl rfl ?_
      refine tt_get (pc := 59) (ws := (mC cy ad sc ar la)) (ci := 7) (v := .ref (ad 34)) C fiX7 rfl 0 mC_obj 34 (by decide) q4_194 rfl dX7_does_59 ?_
      refine tt_iconst (pc := 62) (v := (0 : Int32)) C dX7_does_62 (by decide) ?_
      refine tt_iaload (pc := 63) (ws := (mC cy ad sc ar la)) (n := 4) (f := (ar 34)) C 25 0 mC_get34 rfl hf dX7_does_63 (fun hf => ?_)
      refine tt_aload_n (pc := 64) (k := 0) C dX7_does_64 rfl rfl ?_
      refine tt_get (pc := 65) (ws := (mC cy ad sc ar la)) (ci := 7) (v := .ref (ad 34)) C fiX7 rfl 0 mC_obj 34 (by decide) q4_194 rfl dX7_does_65 ?_
      refine tt_iconst (pc := 68) (v := (1 : Int32)) C dX7_does_68 (by decide) ?_
      refine tt_iaload (pc := 69) (ws := (mC cy ad sc ar la)) (n := 4) (f := (ar 34)) C 25 0 mC_get34 rfl hf dX7_does_69 (fun hf => ?_)
      refine tt_aload_n (pc := 70) (k := 0) C dX7_does_70 rfl rfl ?_
      refine tt_get (pc := 71) (ws := (mC cy ad sc ar la)) (ci := 7) (v := .ref (ad 34)) C fiX7 rfl 0 mC_obj 34 (by decide) q4_194 rfl dX7_does_71 ?_
      refine tt_iconst (pc := 74) (v := (2 : Int32)) C dX7_does_74 (by decide) ?_
      refine tt_iaload (pc := 75) (ws := (mC cy ad sc ar la)) (n := 4) (f := (ar 34)) C 25 0 mC_get34 rfl hf dX7_does_75 (fun hf => ?_)
      obtain ⟨r3, hr3, hf⟩ := bind_some hf
      refine tt_callM (pc := 76) (ws := (mC cy ad sc ar la)) (q0 := 0) (ci := 7) (rest := []) (st' := [.int r3.1]) C rfl (k_X7_bridge hr3) okX7_bridge q6_180 rfl mC_obj rfl rfl rfl (Nat.le_of_ble_eq_true rfl) ⟨Nat.le_of_ble_eq_true rfl, Nat.le_of_ble_eq_true rfl⟩ dX7_does_76 ?_
      obtain rfl := Option.some.inj hf
      exact tt_ireturn (pc := 79) C rfl rfl rfl dX7_does_79
    · refine sw_eq (x := a1) (k := 2) hf (fun hx hf => ?_) (fun n2 hf => ?_)
      · rw [hx]
        refine tt_tabIn (pc := 1) (tgt := 80) (x := 2) C dX7_does_1 (by decide) (by decide) rfl (by decide) ?_
        refine tt_aload_n (pc := 80) (k := 0) C dX7_does_80 rfl rfl ?_
        refine tt_aload_n (pc := 81) (k := 0) C dX7_does_81 rfl rfl ?_
        refine tt_get (pc := 82) (ws := (mC cy ad sc ar la)) (ci := 7) (v := .ref (ad 34)) C fiX7 rfl 0 mC_obj 34 (by decide) q4_194 rfl dX7_does_82 ?_
        refine tt_iconst (pc := 85) (v := (0 : Int32)) C dX7_does_85 (by decide) ?_
        refine tt_iaload (pc := 86) (ws := (mC cy ad sc ar la)) (n := 4) (f := (ar 34)) C 25 0 mC_get34 rfl hf dX7_does_86 (fun hf => ?_)
        refine tt_aload_n (pc := 87) (k := 0) C dX7_does_87 rfl rfl ?_
        refine tt_get (pc := 88) (ws := (mC cy ad sc ar la)) (ci := 7) (v := .ref (ad 34)) C fiX7 rfl 0 mC_obj 34 (by decide) q4_194 rfl dX7_does_88 ?_
        refine tt_iconst (pc := 91) (v := (1 : Int32)) C dX7_does_91 (by decide) ?_
        refine tt_iaload (pc := 92) (ws := (mC cy ad sc ar la)) (n := 4) (f := (ar 34)) C 25 0 mC_get34 rfl hf dX7_does_92 (fun hf => ?_)
        obtain ⟨r4, hr4, hf⟩ := bind_some hf
        refine tt_callM (pc := 93) (ws := (mC cy ad sc ar la)) (q0 := 0) (ci := 7) (rest := []) (st' := [.int r4.1]) C rfl (k_X7_post hr4) okX7_post q6_181 rfl mC_obj rfl rfl rfl (Nat.le_of_ble_eq_true rfl) ⟨Nat.le_of_ble_eq_true rfl, Nat.le_of_ble_eq_true rfl⟩ dX7_does_93 ?_
        obtain rfl := Option.some.inj hf
        exact tt_ireturn (pc := 96) C rfl rfl rfl dX7_does_96
      · refine sw_eq (x := a1) (k := 3) hf (fun hx hf => ?_) (fun n3 hf => ?_)
        · rw [hx]
          refine tt_tabIn (pc := 1) (tgt := 97) (x := 3) C dX7_does_1 (by decide) (by decide) rfl (by decide) ?_
          refine tt_aload_n (pc := 97) (k := 0) C dX7_does_97 rfl rfl ?_
          refine tt_aload_n (pc := 98) (k := 0) C dX7_does_98 rfl rfl ?_
          refine tt_get (pc := 99) (ws := (mC cy ad sc ar la)) (ci := 7) (v := .ref (ad 34)) C fiX7 rfl 0 mC_obj 34 (by decide) q4_194 rfl dX7_does_99 ?_
          refine tt_iconst (pc := 102) (v := (0 : Int32)) C dX7_does_102 (by decide) ?_
          refine tt_iaload (pc := 103) (ws := (mC cy ad sc ar la)) (n := 4) (f := (ar 34)) C 25 0 mC_get34 rfl hf dX7_does_103 (fun hf => ?_)
          refine tt_aload_n (pc := 104) (k := 0) C dX7_does_104 rfl rfl ?_
          refine tt_get (pc := 105) (ws := (mC cy ad sc ar la)) (ci := 7) (v := .ref (ad 34)) C fiX7 rfl 0 mC_obj 34 (by decide) q4_194 rfl dX7_does_105 ?_
          refine tt_iconst (pc := 108) (v := (1 : Int32)) C dX7_does_108 (by decide) ?_
          refine tt_iaload (pc := 109) (ws := (mC cy ad sc ar la)) (n := 4) (f := (ar 34)) C 25 0 mC_get34 rfl hf dX7_does_109 (fun hf => ?_)
          refine tt_aload_n (pc := 110) (k := 0) C dX7_does_110 rfl rfl ?_
          refine tt_get (pc := 111) (ws := (mC cy ad sc ar la)) (ci := 7) (v := .ref (ad 34)) C fiX7 rfl 0 mC_obj 34 (by decide) q4_194 rfl dX7_does_111 ?_
          refine tt_iconst (pc := 114) (v := (2 : Int32)) C dX7_does_114 (by decide) ?_
          refine tt_iaload (pc := 115) (ws := (mC cy ad sc ar la)) (n := 4) (f := (ar 34)) C 25 0 mC_get34 rfl hf dX7_does_115 (fun hf => ?_)
          refine tt_aload_n (pc := 116) (k := 0) C dX7_does_116 rfl rfl ?_
          refine tt_get (pc := 117) (ws := (mC cy ad sc ar la)) (ci := 7) (v := .ref (ad 34)) C fiX7 rfl 0 mC_obj 34 (by decide) q4_194 rfl dX7_does_117 ?_
          refine tt_iconst (pc := 120) (v := (3 : Int32)) C dX7_does_120 (by decide) ?_
          refine tt_iaload (pc := 121) (ws := (mC cy ad sc ar la)) (n := 4) (f := (ar 34)) C 25 0 mC_get34 rfl hf dX7_does_121 (fun hf => ?_)
          obtain ⟨r5, hr5, hf⟩ := bind_some hf
          refine tt_callM (pc := 122) (ws := (mC cy ad sc ar la)) (q0 := 0) (ci := 7) (rest := []) (st' := [.int r5.1]) C rfl (k_X7_train hr5) okX7_train q6_182 rfl mC_obj rfl rfl rfl (Nat.le_of_ble_eq_true rfl) ⟨Nat.le_of_ble_eq_true rfl, Nat.le_of_ble_eq_true rfl⟩ dX7_does_122 ?_
          obtain rfl := Option.some.inj hf
          exact tt_ireturn (pc := 125) C rfl rfl rfl dX7_does_125
        · refine sw_eq (x := a1) (k := 4) hf (fun hx hf => ?_) (fun n4 hf => ?_)
          · rw [hx]
            refine tt_tabIn (pc := 1) (tgt := 126) (x := 4) C dX7_does_1 (by decide) (by decide) rfl (by decide) ?_
            refine tt_aload_n (pc := 126) (k := 0) C dX7_does_126 rfl rfl ?_
            refine tt_aload_n (pc := 127) (k := 0) C dX7_does_127 rfl rfl ?_
            refine tt_get (pc := 128) (ws := (mC cy ad sc ar la)) (ci := 7) (v := .ref (ad 34)) C fiX7 rfl 0 mC_obj 34 (by decide) q4_194 rfl dX7_does_128 ?_
            refine tt_iconst (pc := 131) (v := (0 : Int32)) C dX7_does_131 (by decide) ?_
            refine tt_iaload (pc := 132) (ws := (mC cy ad sc ar la)) (n := 4) (f := (ar 34)) C 25 0 mC_get34 rfl hf dX7_does_132 (fun hf => ?_)
            obtain ⟨r6, hr6, hf⟩ := bind_some hf
            refine tt_callM (pc := 133) (ws := (mC cy ad sc ar la)) (q0 := 0) (ci := 7) (rest := []) (st' := [.int r6.1]) C rfl (k_X7_need hr6) okX7_need q6_183 rfl mC_obj rfl rfl rfl (Nat.le_of_ble_eq_true rfl) ⟨Nat.le_of_ble_eq_true rfl, Nat.le_of_ble_eq_true rfl⟩ dX7_does_133 ?_
            obtain rfl := Option.some.inj hf
            exact tt_ireturn (pc := 136) C rfl rfl rfl dX7_does_136
          · refine sw_eq (x := a1) (k := 5) hf (fun hx hf => ?_) (fun n5 hf => ?_)
            · rw [hx]
              refine tt_tabIn (pc := 1) (tgt := 137) (x := 5) C dX7_does_1 (by decide) (by decide) rfl (by decide) ?_
              refine tt_aload_n (pc := 137) (k := 0) C dX7_does_137 rfl rfl ?_
              refine tt_aload_n (pc := 138) (k := 0) C dX7_does_138 rfl rfl ?_
              refine tt_get (pc := 139) (ws := (mC cy ad sc ar la)) (ci := 7) (v := .ref (ad 34)) C fiX7 rfl 0 mC_obj 34 (by decide) q4_194 rfl dX7_does_139 ?_
              refine tt_iconst (pc := 142) (v := (0 : Int32)) C dX7_does_142 (by decide) ?_
              refine tt_iaload (pc := 143) (ws := (mC cy ad sc ar la)) (n := 4) (f := (ar 34)) C 25 0 mC_get34 rfl hf dX7_does_143 (fun hf => ?_)
              obtain ⟨r7, hr7, hf⟩ := bind_some hf
              refine tt_callM (pc := 144) (ws := (mC cy ad sc ar la)) (q0 := 0) (ci := 7) (rest := []) (st' := [.int r7.1]) C rfl (k_X7_cells hr7) okX7_cells q6_184 rfl mC_obj rfl rfl rfl (Nat.le_of_ble_eq_true rfl) ⟨Nat.le_of_ble_eq_true rfl, Nat.le_of_ble_eq_true rfl⟩ dX7_does_144 ?_
              obtain rfl := Option.some.inj hf
              exact tt_ireturn (pc := 147) C rfl rfl rfl dX7_does_147
            · have g0 := sw_ne n0 (z := 0) (by decide)
              have g1 := sw_ne n1 (z := 1) (by decide)
              have g2 := sw_ne n2 (z := 2) (by decide)
              have g3 := sw_ne n3 (z := 3) (by decide)
              have g4 := sw_ne n4 (z := 4) (by decide)
              have g5 := sw_ne n5 (z := 5) (by decide)
              refine tt_tabOut (pc := 1) (tgt := 148) C dX7_does_1 (by omega) (by decide) ?_
              refine tt_aload_n (pc := 148) (k := 0) C dX7_does_148 rfl rfl ?_
              refine tt_aload_n (pc := 149) (k := 0) C dX7_does_149 rfl rfl ?_
              refine tt_get (pc := 150) (ws := (mC cy ad sc ar la)) (ci := 7) (v := .ref (ad 34)) C fiX7 rfl 0 mC_obj 34 (by decide) q4_194 rfl dX7_does_150 ?_
              refine tt_iconst (pc := 153) (v := (0 : Int32)) C dX7_does_153 (by decide) ?_
              refine tt_iaload (pc := 154) (ws := (mC cy ad sc ar la)) (n := 4) (f := (ar 34)) C 25 0 mC_get34 rfl hf dX7_does_154 (fun hf => ?_)
              obtain ⟨r8, hr8, hf⟩ := bind_some hf
              refine tt_callM (pc := 155) (ws := (mC cy ad sc ar la)) (q0 := 0) (ci := 7) (rest := []) (st' := [.int r8.1]) C rfl (k_X7_places hr8) okX7_places q6_185 rfl mC_obj rfl rfl rfl (Nat.le_of_ble_eq_true rfl) ⟨Nat.le_of_ble_eq_true rfl, Nat.le_of_ble_eq_true rfl⟩ dX7_does_155 ?_
              obtain rfl := Option.some.inj hf
              exact tt_ireturn (pc := 158) C rfl rfl rfl dX7_does_158
theorem dX7_tellsAll_0 : decode cX7_tellsAll 0 = .ok (.aload_n 0, 1) := by decide +kernel
theorem dX7_tellsAll_1 : decode cX7_tellsAll 1 = .ok (.iconst 0, 1) := by decide +kernel
theorem dX7_tellsAll_2 : decode cX7_tellsAll 2 = .ok (.putfield 280, 3) := by decide +kernel
theorem dX7_tellsAll_5 : decode cX7_tellsAll 5 = .ok (.aload_n 0, 1) := by decide +kernel
theorem dX7_tellsAll_6 : decode cX7_tellsAll 6 = .ok (.invokevirtual 337, 3) := by decide +kernel
theorem dX7_tellsAll_9 : decode cX7_tellsAll 9 = .ok (.bipush (-9), 2) := by decide +kernel
theorem dX7_tellsAll_11 : decode cX7_tellsAll 11 = .ok (.if_icmp .ne 12, 3) := by decide +kernel
theorem dX7_tellsAll_14 : decode cX7_tellsAll 14 = .ok (.sipush (-1000), 3) := by decide +kernel
theorem dX7_tellsAll_17 : decode cX7_tellsAll 17 = .ok (.aload_n 0, 1) := by decide +kernel
theorem dX7_tellsAll_18 : decode cX7_tellsAll 18 = .ok (.getfield 280, 3) := by decide +kernel
theorem dX7_tellsAll_21 : decode cX7_tellsAll 21 = .ok (.isub, 1) := by decide +kernel
theorem dX7_tellsAll_22 : decode cX7_tellsAll 22 = .ok (.ireturn, 1) := by decide +kernel
theorem dX7_tellsAll_23 : decode cX7_tellsAll 23 = .ok (.aload_n 0, 1) := by decide +kernel
theorem dX7_tellsAll_24 : decode cX7_tellsAll 24 = .ok (.getfield 280, 3) := by decide +kernel
theorem dX7_tellsAll_27 : decode cX7_tellsAll 27 = .ok (.aload_n 0, 1) := by decide +kernel
theorem dX7_tellsAll_28 : decode cX7_tellsAll 28 = .ok (.getfield 267, 3) := by decide +kernel
theorem dX7_tellsAll_31 : decode cX7_tellsAll 31 = .ok (.if_icmp .lt (-26), 3) := by decide +kernel
theorem dX7_tellsAll_34 : decode cX7_tellsAll 34 = .ok (.aload_n 0, 1) := by decide +kernel
theorem dX7_tellsAll_35 : decode cX7_tellsAll 35 = .ok (.aload_n 0, 1) := by decide +kernel
theorem dX7_tellsAll_36 : decode cX7_tellsAll 36 = .ok (.getfield 65, 3) := by decide +kernel
theorem dX7_tellsAll_39 : decode cX7_tellsAll 39 = .ok (.invokevirtual 221, 3) := by decide +kernel
theorem dX7_tellsAll_42 : decode cX7_tellsAll 42 = .ok (.aload_n 0, 1) := by decide +kernel
theorem dX7_tellsAll_43 : decode cX7_tellsAll 43 = .ok (.iconst 0, 1) := by decide +kernel
theorem dX7_tellsAll_44 : decode cX7_tellsAll 44 = .ok (.putfield 280, 3) := by decide +kernel
theorem dX7_tellsAll_47 : decode cX7_tellsAll 47 = .ok (.iconst 0, 1) := by decide +kernel
theorem dX7_tellsAll_48 : decode cX7_tellsAll 48 = .ok (.istore_n 1, 1) := by decide +kernel
theorem dX7_tellsAll_49 : decode cX7_tellsAll 49 = .ok (.aload_n 0, 1) := by decide +kernel
theorem dX7_tellsAll_50 : decode cX7_tellsAll 50 = .ok (.getfield 280, 3) := by decide +kernel
theorem dX7_tellsAll_53 : decode cX7_tellsAll 53 = .ok (.aload_n 0, 1) := by decide +kernel
theorem dX7_tellsAll_54 : decode cX7_tellsAll 54 = .ok (.getfield 267, 3) := by decide +kernel
theorem dX7_tellsAll_57 : decode cX7_tellsAll 57 = .ok (.if_icmp .ge 52, 3) := by decide +kernel
theorem dX7_tellsAll_60 : decode cX7_tellsAll 60 = .ok (.aload_n 0, 1) := by decide +kernel
theorem dX7_tellsAll_61 : decode cX7_tellsAll 61 = .ok (.getfield 280, 3) := by decide +kernel
theorem dX7_tellsAll_64 : decode cX7_tellsAll 64 = .ok (.istore_n 2, 1) := by decide +kernel
theorem dX7_tellsAll_65 : decode cX7_tellsAll 65 = .ok (.aload_n 0, 1) := by decide +kernel
theorem dX7_tellsAll_66 : decode cX7_tellsAll 66 = .ok (.aload_n 0, 1) := by decide +kernel
theorem dX7_tellsAll_67 : decode cX7_tellsAll 67 = .ok (.invokevirtual 337, 3) := by decide +kernel
theorem dX7_tellsAll_70 : decode cX7_tellsAll 70 = .ok (.invokevirtual 340, 3) := by decide +kernel
theorem dX7_tellsAll_73 : decode cX7_tellsAll 73 = .ok (.istore_n 3, 1) := by decide +kernel
theorem dX7_tellsAll_74 : decode cX7_tellsAll 74 = .ok (.iload_n 3, 1) := by decide +kernel
theorem dX7_tellsAll_75 : decode cX7_tellsAll 75 = .ok (.ifCond .ge 28, 3) := by decide +kernel
theorem dX7_tellsAll_78 : decode cX7_tellsAll 78 = .ok (.aload_n 0, 1) := by decide +kernel
theorem dX7_tellsAll_79 : decode cX7_tellsAll 79 = .ok (.getfield 59, 3) := by decide +kernel
theorem dX7_tellsAll_82 : decode cX7_tellsAll 82 = .ok (.iload_n 3, 1) := by decide +kernel
theorem dX7_tellsAll_83 : decode cX7_tellsAll 83 = .ok (.ineg, 1) := by decide +kernel
theorem dX7_tellsAll_84 : decode cX7_tellsAll 84 = .ok (.dup2, 1) := by decide +kernel
theorem dX7_tellsAll_85 : decode cX7_tellsAll 85 = .ok (.iaload, 1) := by decide +kernel
theorem dX7_tellsAll_86 : decode cX7_tellsAll 86 = .ok (.iconst 1, 1) := by decide +kernel
theorem dX7_tellsAll_87 : decode cX7_tellsAll 87 = .ok (.isub, 1) := by decide +kernel
theorem dX7_tellsAll_88 : decode cX7_tellsAll 88 = .ok (.iastore, 1) := by decide +kernel
theorem dX7_tellsAll_89 : decode cX7_tellsAll 89 = .ok (.aload_n 0, 1) := by decide +kernel
theorem dX7_tellsAll_90 : decode cX7_tellsAll 90 = .ok (.aload_n 0, 1) := by decide +kernel
theorem dX7_tellsAll_91 : decode cX7_tellsAll 91 = .ok (.getfield 65, 3) := by decide +kernel
theorem dX7_tellsAll_94 : decode cX7_tellsAll 94 = .ok (.invokevirtual 228, 3) := by decide +kernel
theorem dX7_tellsAll_97 : decode cX7_tellsAll 97 = .ok (.sipush (-2000), 3) := by decide +kernel
theorem dX7_tellsAll_100 : decode cX7_tellsAll 100 = .ok (.iload_n 2, 1) := by decide +kernel
theorem dX7_tellsAll_101 : decode cX7_tellsAll 101 = .ok (.isub, 1) := by decide +kernel
theorem dX7_tellsAll_102 : decode cX7_tellsAll 102 = .ok (.ireturn, 1) := by decide +kernel
theorem dX7_tellsAll_103 : decode cX7_tellsAll 103 = .ok (.iinc 1 1, 3) := by decide +kernel
theorem dX7_tellsAll_106 : decode cX7_tellsAll 106 = .ok (.goto (-57), 3) := by decide +kernel
theorem dX7_tellsAll_109 : decode cX7_tellsAll 109 = .ok (.iload_n 1, 1) := by decide +kernel
theorem dX7_tellsAll_110 : decode cX7_tellsAll 110 = .ok (.ireturn, 1) := by decide +kernel
set_option maxHeartbeats 4000000 in
set_option maxRecDepth 100000 in
theorem l_X7_tellsAll_49 {p : Program} {l : Launch} {e : Env} {s : State} {m : MethodId} {args : Array Value} {below : List Frame} {meth : Method} {c : Code} {D : va_G} {cy : Nat → ClassId} {A : Nat → Prop} {Bd : Nat} {xa : Xa} {ad : Nat → Nat} {N : Nat} {la : Nat → Nat → Int64} {kx : Int32 → (Nat → Int32) → (Nat → Nat → Int32) → Option (Int32 × (Nat → Int32) × (Nat → Nat → Int32))} {out : Int32 × (Nat → Int32) × (Nat → Nat → Int32)} (C : CC p s m args meth c cX7_tellsAll RX7 4 (some .int) D cy A false Bd xa) (hk : ∀ (x1 : Int32) (sc1 : Nat → Int32) (ar1 : Nat → Nat → Int32), kx x1 sc1 ar1 = some out → TT p l e { frames := 6, cells := 0, slots := 0, locals := 131 } s m args below meth c 4 D A false (some (.int out.1)) (mC cy ad out.2.1 out.2.2 la) 109 [(1, .int x1)] [] (mC cy ad sc1 ar1 la)) {n : Nat} {v1 : Int32} {sc : Nat → Int32} {ar : Nat → Nat → Int32} (hf : f_X7_tellsAll_L49 N kx n v1 sc ar = some out) : TT p l e { frames := 6, cells := 0, slots := 0, locals := 131 } s m args below meth c 4 D A false (some (.int out.1)) (mC cy ad out.2.1 out.2.2 la) 49 [(0, .ref (ad 0)), (1, .int v1)] [] (mC cy ad sc ar la) := by
  induction n generalizing v1 sc ar with
  | zero => cases hf
  | succ n ih =>
    rw [f_X7_tellsAll_L49] at hf
    refine tt_aload_n (pc := 49) (k := 0) C dX7_tellsAll_49 rfl rfl ?_
    refine tt_get (pc := 50) (ws := (mC cy ad sc ar la)) (ci := 7) (v := .int (sc 33)) C fiX7 rfl 0 mC_obj 33 (by decide) q4_193 rfl dX7_tellsAll_50 ?_
    refine tt_aload_n (pc := 53) (k := 0) C dX7_tellsAll_53 rfl rfl ?_
    refine tt_get (pc := 54) (ws := (mC cy ad sc ar la)) (ci := 7) (v := .int (sc 20)) C fiX7 rfl 0 mC_obj 20 (by decide) q4_180 rfl dX7_tellsAll_54 ?_
    refine tt_icmp_ge (pc := 57) (tgt := 109) C dX7_tellsAll_57 (by decide) hf (fun hf => ?_) (fun hf => ?_)
    · exact tt_locs [1] rfl (hk _ _ _ hf)
    · refine tt_aload_n (pc := 60) (k := 0) C dX7_tellsAll_60 rfl rfl ?_
      refine tt_get (pc := 61) (ws := (mC cy ad sc ar la)) (ci := 7) (v := .int (sc 33)) C fiX7 rfl 0 mC_obj 33 (by decide) q4_193 rfl dX7_tellsAll_61 ?_
      refine tt_istore_n (pc := 64) (L' := [(2, .int (sc 33)), (0, .ref (ad 0)), (1, .int v1)]) C dX7_tellsAll_64 rfl (by decide) rfl ?_
      refine tt_aload_n (pc := 65) (k := 1) C dX7_tellsAll_65 rfl rfl ?_
      refine tt_aload_n (pc := 66) (k := 1) C dX7_tellsAll_66 rfl rfl ?_
      obtain ⟨r3, hr3, hf⟩ := bind_some hf
      refine tt_callM (pc := 67) (ws := (mC cy ad sc ar la)) (q0 := 0) (ci := 7) (rest := [.ref (ad 0)]) (st' := [.int r3.1, .ref (ad 0)]) C rfl (k_X7_statement hr3) okX7_statement q6_136 rfl mC_obj rfl rfl rfl (Nat.le_of_ble_eq_true rfl) ⟨Nat.le_of_ble_eq_true rfl, Nat.le_of_ble_eq_true rfl⟩ dX7_tellsAll_67 ?_
      obtain ⟨r4, hr4, hf⟩ := bind_some hf
      refine tt_callM (pc := 70) (ws := (mC cy ad r3.2.1 r3.2.2 la)) (q0 := 0) (ci := 7) (rest := []) (st' := [.int r4.1]) C rfl (k_X7_does hr4) okX7_does q6_175 rfl mC_obj rfl rfl rfl (Nat.le_of_ble_eq_true rfl) ⟨Nat.le_of_ble_eq_true rfl, Nat.le_of_ble_eq_true rfl⟩ dX7_tellsAll_70 ?_
      refine tt_istore_n (pc := 73) (L' := [(3, .int r4.1), (2, .int (sc 33)), (0, .ref (ad 0)), (1, .int v1)]) C dX7_tellsAll_73 rfl (by decide) rfl ?_
      refine tt_iload_n (pc := 74) (k := 0) C dX7_tellsAll_74 rfl rfl ?_
      refine tt_if_ge (pc := 75) (tgt := 103) C dX7_tellsAll_75 (by decide) hf (fun hf => ?_) (fun hf => ?_)
      · refine tt_iinc (pc := 103) (k := 3) (v := (v1 + 1)) (L' := [(1, .int (v1 + 1)), (3, .int r4.1), (2, .int (sc 33)), (0, .ref (ad 0))]) C dX7_tellsAll_103 rfl rfl (by decide) rfl ?_
        refine tt_goto (pc := 106) (tgt := 49) C dX7_tellsAll_106 (by decide) ?_
        exact tt_locs [3, 0] rfl (ih hf)
      · refine tt_aload_n (pc := 78) (k := 2) C dX7_tellsAll_78 rfl rfl ?_
        refine tt_get (pc := 79) (ws := (mC cy ad r4.2.1 r4.2.2 la)) (ci := 7) (v := .ref (ad 21)) C fiX7 rfl 0 mC_obj 21 (by decide) q4_181 rfl dX7_tellsAll_79 ?_
        refine tt_iload_n (pc := 82) (k := 0) C dX7_tellsAll_82 rfl rfl ?_
        refine tt_ineg (pc := 83) C dX7_tellsAll_83 ?_
        refine tt_dup2 (pc := 84) C dX7_tellsAll_84 rfl rfl ?_
        refine tt_iaload (pc := 85) (ws := (mC cy ad r4.2.1 r4.2.2 la)) (n := 7) (f := (r4.2.2 21)) C 15 0 mC_get21 rfl hf dX7_tellsAll_85 (fun hf => ?_)
        refine tt_iconst (pc := 86) (v := (1 : Int32)) C dX7_tellsAll_86 (by decide) ?_
        refine tt_isub (pc := 87) C dX7_tellsAll_87 ?_
        refine tt_iastore (pc := 88) (ws := (mC cy ad r4.2.1 r4.2.2 la)) (n := 7) (f := (r4.2.2 21)) (ws' := (mC cy ad r4.2.1 (va_up r4.2.2 21 (upd (r4.2.2 21) (ix (-r4.1)) (((r4.2.2 21) (ix (-r4.1))) - (1 : Int32)))) la)) C rfl 15 0 mC_get21 rfl hf dX7_tellsAll_88 mC_set21 (fun hf => ?_)
        refine tt_aload_n (pc := 89) (k := 2) C dX7_tellsAll_89 rfl rfl ?_
        refine tt_aload_n (pc := 90) (k := 2) C dX7_tellsAll_90 rfl rfl ?_
        refine tt_get (pc := 91) (ws := (mC cy ad r4.2.1 (va_up r4.2.2 21 (upd (r4.2.2 21) (ix (-r4.1)) (((r4.2.2 21) (ix (-r4.1))) - (1 : Int32)))) la)) (ci := 7) (v := .ref (ad 23)) C fiX7 rfl 0 mC_obj 23 (by decide) q4_183 rfl dX7_tellsAll_91 ?_
        obtain ⟨r5, hr5, hf⟩ := bind_some hf
        refine tt_callM (pc := 94) (ws := (mC cy ad r4.2.1 (va_up r4.2.2 21 (upd (r4.2.2 21) (ix (-r4.1)) (((r4.2.2 21) (ix (-r4.1))) - (1 : Int32)))) la)) (q0 := 0) (ci := 7) (rest := []) (st' := []) C rfl (k_X7_again_23 hr5) okX7_again q6_1 rfl mC_obj rfl rfl rfl (Nat.le_of_ble_eq_true rfl) ⟨Nat.le_of_ble_eq_true rfl, Nat.le_of_ble_eq_true rfl⟩ dX7_tellsAll_94 ?_
        refine tt_sipush (pc := 97) (v := (-2000 : Int32)) C dX7_tellsAll_97 (by decide) ?_
        refine tt_iload_n (pc := 100) (k := 1) C dX7_tellsAll_100 rfl rfl ?_
        refine tt_isub (pc := 101) C dX7_tellsAll_101 ?_
        obtain rfl := Option.some.inj hf
        exact tt_ireturn (pc := 102) C rfl rfl rfl dX7_tellsAll_102
set_option maxHeartbeats 4000000 in
set_option maxRecDepth 100000 in
theorem l_X7_tellsAll_5 {p : Program} {l : Launch} {e : Env} {s : State} {m : MethodId} {args : Array Value} {below : List Frame} {meth : Method} {c : Code} {D : va_G} {cy : Nat → ClassId} {A : Nat → Prop} {Bd : Nat} {xa : Xa} {ad : Nat → Nat} {N : Nat} {la : Nat → Nat → Int64} {kx : (Nat → Int32) → (Nat → Nat → Int32) → Option (Int32 × (Nat → Int32) × (Nat → Nat → Int32))} {out : Int32 × (Nat → Int32) × (Nat → Nat → Int32)} (C : CC p s m args meth c cX7_tellsAll RX7 4 (some .int) D cy A false Bd xa) (hk : ∀ (sc1 : Nat → Int32) (ar1 : Nat → Nat → Int32), kx sc1 ar1 = some out → TT p l e { frames := 6, cells := 0, slots := 0, locals := 131 } s m args below meth c 4 D A false (some (.int out.1)) (mC cy ad out.2.1 out.2.2 la) 14 [(0, .ref (ad 0))] [] (mC cy ad sc1 ar1 la)) {n : Nat} {sc : Nat → Int32} {ar : Nat → Nat → Int32} (hf : f_X7_tellsAll_L5 N kx n sc ar = some out) : TT p l e { frames := 6, cells := 0, slots := 0, locals := 131 } s m args below meth c 4 D A false (some (.int out.1)) (mC cy ad out.2.1 out.2.2 la) 5 [(0, .ref (ad 0))] [] (mC cy ad sc ar la) := by
  induction n generalizing sc ar with
  | zero => cases hf
  | succ n ih =>
    rw [f_X7_tellsAll_L5] at hf
    refine tt_aload_n (pc := 5) (k := 0) C dX7_tellsAll_5 rfl rfl ?_
    obtain ⟨r1, hr1, hf⟩ := bind_some hf
    refine tt_callM (pc := 6) (ws := (mC cy ad sc ar la)) (q0 := 0) (ci := 7) (rest := []) (st' := [.int r1.1]) C rfl (k_X7_statement hr1) okX7_statement q6_136 rfl mC_obj rfl rfl rfl (Nat.le_of_ble_eq_true rfl) ⟨Nat.le_of_ble_eq_true rfl, Nat.le_of_ble_eq_true rfl⟩ dX7_tellsAll_6 ?_
    refine tt_bipush (pc := 9) (v := (-9 : Int32)) C dX7_tellsAll_9 (by decide) ?_
    refine tt_icmp_ne (pc := 11) (tgt := 23) C dX7_tellsAll_11 (by decide) hf (fun hf => ?_) (fun hf => ?_)
    · refine tt_aload_n (pc := 23) (k := 0) C dX7_tellsAll_23 rfl rfl ?_
      refine tt_get (pc := 24) (ws := (mC cy ad r1.2.1 r1.2.2 la)) (ci := 7) (v := .int (r1.2.1 33)) C fiX7 rfl 0 mC_obj 33 (by decide) q4_193 rfl dX7_tellsAll_24 ?_
      refine tt_aload_n (pc := 27) (k := 0) C dX7_tellsAll_27 rfl rfl ?_
      refine tt_get (pc := 28) (ws := (mC cy ad r1.2.1 r1.2.2 la)) (ci := 7) (v := .int (r1.2.1 20)) C fiX7 rfl 0 mC_obj 20 (by decide) q4_180 rfl dX7_tellsAll_28 ?_
      refine tt_icmp_lt (pc := 31) (tgt := 5) C dX7_tellsAll_31 (by decide) hf (fun hf => ?_) (fun hf => ?_)
      · exact tt_locs [0] rfl (ih hf)
      · refine tt_aload_n (pc := 34) (k := 0) C dX7_tellsAll_34 rfl rfl ?_
        refine tt_aload_n (pc := 35) (k := 0) C dX7_tellsAll_35 rfl rfl ?_
        refine tt_get (pc := 36) (ws := (mC cy ad r1.2.1 r1.2.2 la)) (ci := 7) (v := .ref (ad 23)) C fiX7 rfl 0 mC_obj 23 (by decide) q4_183 rfl dX7_tellsAll_36 ?_
        obtain ⟨r2, hr2, hf⟩ := bind_some hf
        refine tt_callM (pc := 39) (ws := (mC cy ad r1.2.1 r1.2.2 la)) (q0 := 0) (ci := 7) (rest := []) (st' := []) C rfl (k_X7_keeps_23 hr2) okX7_keeps q5_236 rfl mC_obj rfl rfl rfl (Nat.le_of_ble_eq_true rfl) ⟨Nat.le_of_ble_eq_true rfl, Nat.le_of_ble_eq_true rfl⟩ dX7_tellsAll_39 ?_
        refine tt_aload_n (pc := 42) (k := 0) C dX7_tellsAll_42 rfl rfl ?_
        refine tt_iconst (pc := 43) (v := (0 : Int32)) C dX7_tellsAll_43 (by decide) ?_
        refine tt_put (pc := 44) (ws := (mC cy ad r1.2.1 r2 la)) (ci := 7) (ty := .int) (ws' := (mC cy ad (upd r1.2.1 33 (0 : Int32)) r2 la)) C rfl fiX7 rfl 0 mC_obj 33 (by decide) q4_193 rfl rfl rfl rfl (Nat.le_of_ble_eq_true rfl) dX7_tellsAll_44 mC_put33 ?_
        refine tt_iconst (pc := 47) (v := (0 : Int32)) C dX7_tellsAll_47 (by decide) ?_
        refine tt_istore_n (pc := 48) (L' := [(1, .int (0 : Int32)), (0, .ref (ad 0))]) C dX7_tellsAll_48 rfl (by decide) rfl ?_
        refine tt_locs (L' := [(0, .ref (ad 0)), (1, .int (0 : Int32))]) [1, 0] rfl (l_X7_tellsAll_49 C (fun x1_6 t6 t7 hf => ?_) hf)
        refine tt_iload_n (pc := 109) (k := 0) C dX7_tellsAll_109 rfl rfl ?_
        obtain rfl := Option.some.inj hf
        exact tt_ireturn (pc := 110) C rfl rfl rfl dX7_tellsAll_110
    · exact tt_locs [0] rfl (hk _ _ hf)
set_option maxHeartbeats 4000000 in
set_option maxRecDepth 100000 in
theorem k_X7_tellsAll {l : Launch} {D : va_G} {cy : Nat → ClassId} {Bd : Nat} {xa : Xa} {ad : Nat → Nat} {N : Nat} {sc : Nat → Int32} {ar : Nat → Nat → Int32} {la : Nat → Nat → Int64} {out : Int32 × (Nat → Int32) × (Nat → Nat → Int32)} (hf : f_X7_tellsAll N sc ar = some out) : KC l yX7_tellsAll cX7_tellsAll 4 (some .int) 6 131 false D cy Bd xa [.ref (ad 0)] (mC cy ad sc ar la) (some (.int out.1)) (mC cy ad out.2.1 out.2.2 la) := by
  refine kc_start (own := RX7) (by decide +kernel) rfl (Nat.le_of_ble_eq_true rfl) ?_
  intro p e s m args below meth c A C
  unfold f_X7_tellsAll at hf
  refine tt_locs (L' := [(0, .ref (ad 0))]) [0] rfl ?_
  refine tt_aload_n (pc := 0) (k := 0) C dX7_tellsAll_0 rfl rfl ?_
  refine tt_iconst (pc := 1) (v := (0 : Int32)) C dX7_tellsAll_1 (by decide) ?_
  refine tt_put (pc := 2) (ws := (mC cy ad sc ar la)) (ci := 7) (ty := .int) (ws' := (mC cy ad (upd sc 33 (0 : Int32)) ar la)) C rfl fiX7 rfl 0 mC_obj 33 (by decide) q4_193 rfl rfl rfl rfl (Nat.le_of_ble_eq_true rfl) dX7_tellsAll_2 mC_put33 ?_
  refine tt_locs (L' := [(0, .ref (ad 0))]) [0] rfl (l_X7_tellsAll_5 C (fun t8 t9 hf => ?_) hf)
  refine tt_sipush (pc := 14) (v := (-1000 : Int32)) C dX7_tellsAll_14 (by decide) ?_
  refine tt_aload_n (pc := 17) (k := 0) C dX7_tellsAll_17 rfl rfl ?_
  refine tt_get (pc := 18) (ws := (mC cy ad t8 t9 la)) (ci := 7) (v := .int (t8 33)) C fiX7 rfl 0 mC_obj 33 (by decide) q4_193 rfl dX7_tellsAll_18 ?_
  refine tt_isub (pc := 21) C dX7_tellsAll_21 ?_
  obtain rfl := Option.some.inj hf
  exact tt_ireturn (pc := 22) C rfl rfl rfl dX7_tellsAll_22
theorem dX7_tells_0 : decode cX7_tells 0 = .ok (.aload_n 0, 1) := by decide +kernel
theorem dX7_tells_1 : decode cX7_tells 1 = .ok (.invokevirtual 343, 3) := by decide +kernel
theorem dX7_tells_4 : decode cX7_tells 4 = .ok (.istore_n 1, 1) := by decide +kernel
theorem dX7_tells_5 : decode cX7_tells 5 = .ok (.aload_n 0, 1) := by decide +kernel
theorem dX7_tells_6 : decode cX7_tells 6 = .ok (.iconst 0, 1) := by decide +kernel
theorem dX7_tells_7 : decode cX7_tells 7 = .ok (.putfield 267, 3) := by decide +kernel
theorem dX7_tells_10 : decode cX7_tells 10 = .ok (.iload_n 1, 1) := by decide +kernel
theorem dX7_tells_11 : decode cX7_tells 11 = .ok (.ireturn, 1) := by decide +kernel
set_option maxHeartbeats 4000000 in
set_option maxRecDepth 100000 in
theorem k_X7_tells {l : Launch} {D : va_G} {cy : Nat → ClassId} {Bd : Nat} {xa : Xa} {ad : Nat → Nat} {N : Nat} {sc : Nat → Int32} {ar : Nat → Nat → Int32} {la : Nat → Nat → Int64} {out : Int32 × (Nat → Int32) × (Nat → Nat → Int32)} (hf : f_X7_tells N sc ar = some out) : KC l yX7_tells cX7_tells 2 (some .int) 7 154 false D cy Bd xa [.ref (ad 0)] (mC cy ad sc ar la) (some (.int out.1)) (mC cy ad out.2.1 out.2.2 la) := by
  refine kc_start (own := RX7) (by decide +kernel) rfl (Nat.le_of_ble_eq_true rfl) ?_
  intro p e s m args below meth c A C
  unfold f_X7_tells at hf
  refine tt_locs (L' := [(0, .ref (ad 0))]) [0] rfl ?_
  refine tt_aload_n (pc := 0) (k := 0) C dX7_tells_0 rfl rfl ?_
  obtain ⟨r1, hr1, hf⟩ := bind_some hf
  refine tt_callM (pc := 1) (ws := (mC cy ad sc ar la)) (q0 := 0) (ci := 7) (rest := []) (st' := [.int r1.1]) C rfl (k_X7_tellsAll hr1) okX7_tellsAll q6_132 rfl mC_obj rfl rfl rfl (Nat.le_of_ble_eq_true rfl) ⟨Nat.le_of_ble_eq_true rfl, Nat.le_of_ble_eq_true rfl⟩ dX7_tells_1 ?_
  refine tt_istore_n (pc := 4) (L' := [(1, .int r1.1), (0, .ref (ad 0))]) C dX7_tells_4 rfl (by decide) rfl ?_
  refine tt_aload_n (pc := 5) (k := 1) C dX7_tells_5 rfl rfl ?_
  refine tt_iconst (pc := 6) (v := (0 : Int32)) C dX7_tells_6 (by decide) ?_
  refine tt_put (pc := 7) (ws := (mC cy ad r1.2.1 r1.2.2 la)) (ci := 7) (ty := .int) (ws' := (mC cy ad (upd r1.2.1 20 (0 : Int32)) r1.2.2 la)) C rfl fiX7 rfl 0 mC_obj 20 (by decide) q4_180 rfl rfl rfl rfl (Nat.le_of_ble_eq_true rfl) dX7_tells_7 mC_put20 ?_
  refine tt_iload_n (pc := 10) (k := 0) C dX7_tells_10 rfl rfl ?_
  obtain rfl := Option.some.inj hf
  exact tt_ireturn (pc := 11) C rfl rfl rfl dX7_tells_11
set_option maxHeartbeats 4000000 in
set_option maxRecDepth 100000 in
theorem l_X7_keeps_22_2 {p : Program} {l : Launch} {e : Env} {s : State} {m : MethodId} {args : Array Value} {below : List Frame} {meth : Method} {c : Code} {D : va_G} {cy : Nat → ClassId} {A : Nat → Prop} {Bd : Nat} {xa : Xa} {ad : Nat → Nat} {β : Type} {vO : Option Value} {wO : va_W} {N : Nat} {sc : Nat → Int32} {la : Nat → Nat → Int64} {kx : (Nat → Nat → Int32) → Option (β)} {out : β} (C : CC p s m args meth c cX7_keeps RX7 3 none D cy A false Bd xa) (hk : ∀ (ar1 : Nat → Nat → Int32), kx ar1 = some out → TT p l e { frames := 0, cells := 0, slots := 0, locals := 0 } s m args below meth c 3 D A false vO wO 23 [(0, .ref (ad 0)), (1, .ref (ad 22))] [] (mC cy ad sc ar1 la)) {n : Nat} {v2 : Int32} {ar : Nat → Nat → Int32} (hf : f_X7_keeps_22_L2 N sc kx n v2 ar = some out) : TT p l e { frames := 0, cells := 0, slots := 0, locals := 0 } s m args below meth c 3 D A false vO wO 2 [(0, .ref (ad 0)), (1, .ref (ad 22)), (2, .int v2)] [] (mC cy ad sc ar la) := by
  induction n generalizing v2 ar with
  | zero => cases hf
  | succ n ih =>
    rw [f_X7_keeps_22_L2] at hf
    refine tt_iload_n (pc := 2) (k := 2) C dX7_keeps_2 rfl rfl ?_
    refine tt_bipush (pc := 3) (v := (24 : Int32)) C dX7_keeps_3 (by decide) ?_
    refine tt_icmp_ge (pc := 5) (tgt := 23) C dX7_keeps_5 (by decide) hf (fun hf => ?_) (fun hf => ?_)
    · exact tt_locs [0, 1] rfl (hk _ hf)
    · refine tt_aload_n (pc := 8) (k := 1) C dX7_keeps_8 rfl rfl ?_
      refine tt_iload_n (pc := 9) (k := 2) C dX7_keeps_9 rfl rfl ?_
      refine tt_aload_n (pc := 10) (k := 0) C dX7_keeps_10 rfl rfl ?_
      refine tt_get (pc := 11) (ws := (mC cy ad sc ar la)) (ci := 7) (v := .ref (ad 1)) C fiX7 rfl 0 mC_obj 1 (by decide) q4_161 rfl dX7_keeps_11 ?_
      refine tt_iload_n (pc := 14) (k := 2) C dX7_keeps_14 rfl rfl ?_
      refine tt_iaload (pc := 15) (ws := (mC cy ad sc ar la)) (n := 24) (f := (ar 1)) C 1 0 mC_get1 rfl hf dX7_keeps_15 (fun hf => ?_)
      refine tt_iastore (pc := 16) (ws := (mC cy ad sc ar la)) (n := 150) (f := (ar 22)) (ws' := (mC cy ad sc (va_up ar 22 (upd (ar 22) (ix v2) ((ar 1) (ix v2)))) la)) C rfl 16 0 mC_get22 rfl hf dX7_keeps_16 mC_set22 (fun hf => ?_)
      refine tt_iinc (pc := 17) (k := 2) (v := (v2 + 1)) (L' := [(2, .int (v2 + 1)), (0, .ref (ad 0)), (1, .ref (ad 22))]) C dX7_keeps_17 rfl rfl (by decide) rfl ?_
      refine tt_goto (pc := 20) (tgt := 2) C dX7_keeps_20 (by decide) ?_
      exact tt_locs [1, 2, 0] rfl (ih hf)
set_option maxHeartbeats 4000000 in
set_option maxRecDepth 100000 in
theorem l_X7_keeps_22_25 {p : Program} {l : Launch} {e : Env} {s : State} {m : MethodId} {args : Array Value} {below : List Frame} {meth : Method} {c : Code} {D : va_G} {cy : Nat → ClassId} {A : Nat → Prop} {Bd : Nat} {xa : Xa} {ad : Nat → Nat} {β : Type} {vO : Option Value} {wO : va_W} {N : Nat} {sc : Nat → Int32} {la : Nat → Nat → Int64} {kx : (Nat → Nat → Int32) → Option (β)} {out : β} (C : CC p s m args meth c cX7_keeps RX7 3 none D cy A false Bd xa) (hk : ∀ (ar1 : Nat → Nat → Int32), kx ar1 = some out → TT p l e { frames := 0, cells := 0, slots := 0, locals := 0 } s m args below meth c 3 D A false vO wO 120 [(0, .ref (ad 0)), (1, .ref (ad 22))] [] (mC cy ad sc ar1 la)) {n : Nat} {v2 : Int32} {ar : Nat → Nat → Int32} (hf : f_X7_keeps_22_L25 N sc kx n v2 ar = some out) : TT p l e { frames := 0, cells := 0, slots := 0, locals := 0 } s m args below meth c 3 D A false vO wO 25 [(0, .ref (ad 0)), (1, .ref (ad 22)), (2, .int v2)] [] (mC cy ad sc ar la) := by
  induction n generalizing v2 ar with
  | zero => cases hf
  | succ n ih =>
    rw [f_X7_keeps_22_L25] at hf
    refine tt_iload_n (pc := 25) (k := 2) C dX7_keeps_25 rfl rfl ?_
    refine tt_iconst (pc := 26) (v := (4 : Int32)) C dX7_keeps_26 (by decide) ?_
    refine tt_icmp_ge (pc := 27) (tgt := 120) C dX7_keeps_27 (by decide) hf (fun hf => ?_) (fun hf => ?_)
    · exact tt_locs [0, 1] rfl (hk _ hf)
    · refine tt_aload_n (pc := 30) (k := 1) C dX7_keeps_30 rfl rfl ?_
      refine tt_bipush (pc := 31) (v := (24 : Int32)) C dX7_keeps_31 (by decide) ?_
      refine tt_iload_n (pc := 33) (k := 2) C dX7_keeps_33 rfl rfl ?_
      refine tt_iadd (pc := 34) C dX7_keeps_34 ?_
      refine tt_aload_n (pc := 35) (k := 0) C dX7_keeps_35 rfl rfl ?_
      refine tt_get (pc := 36) (ws := (mC cy ad sc ar la)) (ci := 7) (v := .ref (ad 3)) C fiX7 rfl 0 mC_obj 3 (by decide) q4_163 rfl dX7_keeps_36 ?_
      refine tt_iload_n (pc := 39) (k := 2) C dX7_keeps_39 rfl rfl ?_
      refine tt_iaload (pc := 40) (ws := (mC cy ad sc ar la)) (n := 4) (f := (ar 3)) C 2 0 mC_get3 rfl hf dX7_keeps_40 (fun hf => ?_)
      refine tt_iastore (pc := 41) (ws := (mC cy ad sc ar la)) (n := 150) (f := (ar 22)) (ws' := (mC cy ad sc (va_up ar 22 (upd (ar 22) (ix ((24 : Int32) + v2)) ((ar 3) (ix v2)))) la)) C rfl 16 0 mC_get22 rfl hf dX7_keeps_41 mC_set22 (fun hf => ?_)
      refine tt_aload_n (pc := 42) (k := 1) C dX7_keeps_42 rfl rfl ?_
      refine tt_bipush (pc := 43) (v := (28 : Int32)) C dX7_keeps_43 (by decide) ?_
      refine tt_iload_n (pc := 45) (k := 2) C dX7_keeps_45 rfl rfl ?_
      refine tt_iadd (pc := 46) C dX7_keeps_46 ?_
      refine tt_aload_n (pc := 47) (k := 0) C dX7_keeps_47 rfl rfl ?_
      refine tt_get (pc := 48) (ws := (mC cy ad sc (va_up ar 22 (upd (ar 22) (ix ((24 : Int32) + v2)) ((ar 3) (ix v2)))) la)) (ci := 7) (v := .ref (ad 4)) C fiX7 rfl 0 mC_obj 4 (by decide) q4_164 rfl dX7_keeps_48 ?_
      refine tt_iload_n (pc := 51) (k := 2) C dX7_keeps_51 rfl rfl ?_
      refine tt_iaload (pc := 52) (ws := (mC cy ad sc (va_up ar 22 (upd (ar 22) (ix ((24 : Int32) + v2)) ((ar 3) (ix v2)))) la)) (n := 4) (f := (ar 4)) C 3 0 mC_get4 rfl hf dX7_keeps_52 (fun hf => ?_)
      refine tt_iastore (pc := 53) (ws := (mC cy ad sc (va_up ar 22 (upd (ar 22) (ix ((24 : Int32) + v2)) ((ar 3) (ix v2)))) la)) (n := 150) (f := (upd (ar 22) (ix ((24 : Int32) + v2)) ((ar 3) (ix v2)))) (ws' := (mC cy ad sc (va_up (va_up ar 22 (upd (ar 22) (ix ((24 : Int32) + v2)) ((ar 3) (ix v2)))) 22 (upd (upd (ar 22) (ix ((24 : Int32) + v2)) ((ar 3) (ix v2))) (ix ((28 : Int32) + v2)) ((ar 4) (ix v2)))) la)) C rfl 16 0 mC_get22 rfl hf dX7_keeps_53 mC_set22 (fun hf => ?_)
      refine tt_aload_n (pc := 54) (k := 1) C dX7_keeps_54 rfl rfl ?_
      refine tt_bipush (pc := 55) (v := (32 : Int32)) C dX7_keeps_55 (by decide) ?_
      refine tt_iload_n (pc := 57) (k := 2) C dX7_keeps_57 rfl rfl ?_
      refine tt_iadd (pc := 58) C dX7_keeps_58 ?_
      refine tt_aload_n (pc := 59) (k := 0) C dX7_keeps_59 rfl rfl ?_
      refine tt_get (pc := 60) (ws := (mC cy ad sc (va_up (va_up ar 22 (upd (ar 22) (ix ((24 : Int32) + v2)) ((ar 3) (ix v2)))) 22 (upd (upd (ar 22) (ix ((24 : Int32) + v2)) ((ar 3) (ix v2))) (ix ((28 : Int32) + v2)) ((ar 4) (ix v2)))) la)) (ci := 7) (v := .ref (ad 5)) C fiX7 rfl 0 mC_obj 5 (by decide) q4_165 rfl dX7_keeps_60 ?_
      refine tt_iload_n (pc := 63) (k := 2) C dX7_keeps_63 rfl rfl ?_
      refine tt_iaload (pc := 64) (ws := (mC cy ad sc (va_up (va_up ar 22 (upd (ar 22) (ix ((24 : Int32) + v2)) ((ar 3) (ix v2)))) 22 (upd (upd (ar 22) (ix ((24 : Int32) + v2)) ((ar 3) (ix v2))) (ix ((28 : Int32) + v2)) ((ar 4) (ix v2)))) la)) (n := 4) (f := (ar 5)) C 4 0 mC_get5 rfl hf dX7_keeps_64 (fun hf => ?_)
      refine tt_iastore (pc := 65) (ws := (mC cy ad sc (va_up (va_up ar 22 (upd (ar 22) (ix ((24 : Int32) + v2)) ((ar 3) (ix v2)))) 22 (upd (upd (ar 22) (ix ((24 : Int32) + v2)) ((ar 3) (ix v2))) (ix ((28 : Int32) + v2)) ((ar 4) (ix v2)))) la)) (n := 150) (f := (upd (upd (ar 22) (ix ((24 : Int32) + v2)) ((ar 3) (ix v2))) (ix ((28 : Int32) + v2)) ((ar 4) (ix v2)))) (ws' := (mC cy ad sc (va_up (va_up (va_up ar 22 (upd (ar 22) (ix ((24 : Int32) + v2)) ((ar 3) (ix v2)))) 22 (upd (upd (ar 22) (ix ((24 : Int32) + v2)) ((ar 3) (ix v2))) (ix ((28 : Int32) + v2)) ((ar 4) (ix v2)))) 22 (upd (upd (upd (ar 22) (ix ((24 : Int32) + v2)) ((ar 3) (ix v2))) (ix ((28 : Int32) + v2)) ((ar 4) (ix v2))) (ix ((32 : Int32) + v2)) ((ar 5) (ix v2)))) la)) C rfl 16 0 mC_get22 rfl hf dX7_keeps_65 mC_set22 (fun hf => ?_)
      refine tt_aload_n (pc := 66) (k := 1) C dX7_keeps_66 rfl rfl ?_
      refine tt_bipush (pc := 67) (v := (36 : Int32)) C dX7_keeps_67 (by decide) ?_
      refine tt_iload_n (pc := 69) (k := 2) C dX7_keeps_69 rfl rfl ?_
      refine tt_iadd (pc := 70) C dX7_keeps_70 ?_
      refine tt_aload_n (pc := 71) (k := 0) C dX7_keeps_71 rfl rfl ?_
      refine tt_get (pc := 72) (ws := (mC cy ad sc (va_up (va_up (va_up ar 22 (upd (ar 22) (ix ((24 : Int32) + v2)) ((ar 3) (ix v2)))) 22 (upd (upd (ar 22) (ix ((24 : Int32) + v2)) ((ar 3) (ix v2))) (ix ((28 : Int32) + v2)) ((ar 4) (ix v2)))) 22 (upd (upd (upd (ar 22) (ix ((24 : Int32) + v2)) ((ar 3) (ix v2))) (ix ((28 : Int32) + v2)) ((ar 4) (ix v2))) (ix ((32 : Int32) + v2)) ((ar 5) (ix v2)))) la)) (ci := 7) (v := .ref (ad 10)) C fiX7 rfl 0 mC_obj 10 (by decide) q4_170 rfl dX7_keeps_72 ?_
      refine tt_iload_n (pc := 75) (k := 2) C dX7_keeps_75 rfl rfl ?_
      refine tt_iaload (pc := 76) (ws := (mC cy ad sc (va_up (va_up (va_up ar 22 (upd (ar 22) (ix ((24 : Int32) + v2)) ((ar 3) (ix v2)))) 22 (upd (upd (ar 22) (ix ((24 : Int32) + v2)) ((ar 3) (ix v2))) (ix ((28 : Int32) + v2)) ((ar 4) (ix v2)))) 22 (upd (upd (upd (ar 22) (ix ((24 : Int32) + v2)) ((ar 3) (ix v2))) (ix ((28 : Int32) + v2)) ((ar 4) (ix v2))) (ix ((32 : Int32) + v2)) ((ar 5) (ix v2)))) la)) (n := 4) (f := (ar 10)) C 7 0 mC_get10 rfl hf dX7_keeps_76 (fun hf => ?_)
      refine tt_iastore (pc := 77) (ws := (mC cy ad sc (va_up (va_up (va_up ar 22 (upd (ar 22) (ix ((24 : Int32) + v2)) ((ar 3) (ix v2)))) 22 (upd (upd (ar 22) (ix ((24 : Int32) + v2)) ((ar 3) (ix v2))) (ix ((28 : Int32) + v2)) ((ar 4) (ix v2)))) 22 (upd (upd (upd (ar 22) (ix ((24 : Int32) + v2)) ((ar 3) (ix v2))) (ix ((28 : Int32) + v2)) ((ar 4) (ix v2))) (ix ((32 : Int32) + v2)) ((ar 5) (ix v2)))) la)) (n := 150) (f := (upd (upd (upd (ar 22) (ix ((24 : Int32) + v2)) ((ar 3) (ix v2))) (ix ((28 : Int32) + v2)) ((ar 4) (ix v2))) (ix ((32 : Int32) + v2)) ((ar 5) (ix v2)))) (ws' := (mC cy ad sc (va_up (va_up (va_up (va_up ar 22 (upd (ar 22) (ix ((24 : Int32) + v2)) ((ar 3) (ix v2)))) 22 (upd (upd (ar 22) (ix ((24 : Int32) + v2)) ((ar 3) (ix v2))) (ix ((28 : Int32) + v2)) ((ar 4) (ix v2)))) 22 (upd (upd (upd (ar 22) (ix ((24 : Int32) + v2)) ((ar 3) (ix v2))) (ix ((28 : Int32) + v2)) ((ar 4) (ix v2))) (ix ((32 : Int32) + v2)) ((ar 5) (ix v2)))) 22 (upd (upd (upd (upd (ar 22) (ix ((24 : Int32) + v2)) ((ar 3) (ix v2))) (ix ((28 : Int32) + v2)) ((ar 4) (ix v2))) (ix ((32 : Int32) + v2)) ((ar 5) (ix v2))) (ix ((36 : Int32) + v2)) ((ar 10) (ix v2)))) la)) C rfl 16 0 mC_get22 rfl hf dX7_keeps_77 mC_set22 (fun hf => ?_)
      refine tt_aload_n (pc := 78) (k := 1) C dX7_keeps_78 rfl rfl ?_
      refine tt_bipush (pc := 79) (v := (40 : Int32)) C dX7_keeps_79 (by decide) ?_
      refine tt_iload_n (pc := 81) (k := 2) C dX7_keeps_81 rfl rfl ?_
      refine tt_iadd (pc := 82) C dX7_keeps_82 ?_
      refine tt_aload_n (pc := 83) (k := 0) C dX7_keeps_83 rfl rfl ?_
      refine tt_get (pc := 84) (ws := (mC cy ad sc (va_up (va_up (va_up (va_up ar 22 (upd (ar 22) (ix ((24 : Int32) + v2)) ((ar 3) (ix v2)))) 22 (upd (upd (ar 22) (ix ((24 : Int32) + v2)) ((ar 3) (ix v2))) (ix ((28 : Int32) + v2)) ((ar 4) (ix v2)))) 22 (upd (upd (upd (ar 22) (ix ((24 : Int32) + v2)) ((ar 3) (ix v2))) (ix ((28 : Int32) + v2)) ((ar 4) (ix v2))) (ix ((32 : Int32) + v2)) ((ar 5) (ix v2)))) 22 (upd (upd (upd (upd (ar 22) (ix ((24 : Int32) + v2)) ((ar 3) (ix v2))) (ix ((28 : Int32) + v2)) ((ar 4) (ix v2))) (ix ((32 : Int32) + v2)) ((ar 5) (ix v2))) (ix ((36 : Int32) + v2)) ((ar 10) (ix v2)))) la)) (ci := 7) (v := .ref (ad 11)) C fiX7 rfl 0 mC_obj 11 (by decide) q4_171 rfl dX7_keeps_84 ?_
      refine tt_iload_n (pc := 87) (k := 2) C dX7_keeps_87 rfl rfl ?_
      refine tt_iaload (pc := 88) (ws := (mC cy ad sc (va_up (va_up (va_up (va_up ar 22 (upd (ar 22) (ix ((24 : Int32) + v2)) ((ar 3) (ix v2)))) 22 (upd (upd (ar 22) (ix ((24 : Int32) + v2)) ((ar 3) (ix v2))) (ix ((28 : Int32) + v2)) ((ar 4) (ix v2)))) 22 (upd (upd (upd (ar 22) (ix ((24 : Int32) + v2)) ((ar 3) (ix v2))) (ix ((28 : Int32) + v2)) ((ar 4) (ix v2))) (ix ((32 : Int32) + v2)) ((ar 5) (ix v2)))) 22 (upd (upd (upd (upd (ar 22) (ix ((24 : Int32) + v2)) ((ar 3) (ix v2))) (ix ((28 : Int32) + v2)) ((ar 4) (ix v2))) (ix ((32 : Int32) + v2)) ((ar 5) (ix v2))) (ix ((36 : Int32) + v2)) ((ar 10) (ix v2)))) la)) (n := 4) (f := (ar 11)) C 8 0 mC_get11 rfl hf dX7_keeps_88 (fun hf => ?_)
      refine tt_iastore (pc := 89) (ws := (mC cy ad sc (va_up (va_up (va_up (va_up ar 22 (upd (ar 22) (ix ((24 : Int32) + v2)) ((ar 3) (ix v2)))) 22 (upd (upd (ar 22) (ix ((24 : Int32) + v2)) ((ar 3) (ix v2))) (ix ((28 : Int32) + v2)) ((ar 4) (ix v2)))) 22 (upd (upd (upd (ar 22) (ix ((24 : Int32) + v2)) ((ar 3) (ix v2))) (ix ((28 : Int32) + v2)) ((ar 4) (ix v2))) (ix ((32 : Int32) + v2)) ((ar 5) (ix v2)))) 22 (upd (upd (upd (upd (ar 22) (ix ((24 : Int32) + v2)) ((ar 3) (ix v2))) (ix ((28 : Int32) + v2)) ((ar 4) (ix v2))) (ix ((32 : Int32) + v2)) ((ar 5) (ix v2))) (ix ((36 : Int32) + v2)) ((ar 10) (ix v2)))) la)) (n := 150) (f := (upd (upd (upd (upd (ar 22) (ix ((24 : Int32) + v2)) ((ar 3) (ix v2))) (ix ((28 : Int32) + v2)) ((ar 4) (ix v2))) (ix ((32 : Int32) + v2)) ((ar 5) (ix v2))) (ix ((36 : Int32) + v2)) ((ar 10) (ix v2)))) (ws' := (mC cy ad sc (va_up (va_up (va_up (va_up (va_up ar 22 (upd (ar 22) (ix ((24 : Int32) + v2)) ((ar 3) (ix v2)))) 22 (upd (upd (ar 22) (ix ((24 : Int32) + v2)) ((ar 3) (ix v2))) (ix ((28 : Int32) + v2)) ((ar 4) (ix v2)))) 22 (upd (upd (upd (ar 22) (ix ((24 : Int32) + v2)) ((ar 3) (ix v2))) (ix ((28 : Int32) + v2)) ((ar 4) (ix v2))) (ix ((32 : Int32) + v2)) ((ar 5) (ix v2)))) 22 (upd (upd (upd (upd (ar 22) (ix ((24 : Int32) + v2)) ((ar 3) (ix v2))) (ix ((28 : Int32) + v2)) ((ar 4) (ix v2))) (ix ((32 : Int32) + v2)) ((ar 5) (ix v2))) (ix ((36 : Int32) + v2)) ((ar 10) (ix v2)))) 22 (upd (upd (upd (upd (upd (ar 22) (ix ((24 : Int32) + v2)) ((ar 3) (ix v2))) (ix ((28 : Int32) + v2)) ((ar 4) (ix v2))) (ix ((32 : Int32) + v2)) ((ar 5) (ix v2))) (ix ((36 : Int32) + v2)) ((ar 10) (ix v2))) (ix ((40 : Int32) + v2)) ((ar 11) (ix v2)))) la)) C rfl 16 0 mC_get22 rfl hf dX7_keeps_89 mC_set22 (fun hf => ?_)
      refine tt_aload_n (pc := 90) (k := 1) C dX7_keeps_90 rfl rfl ?_
      refine tt_bipush (pc := 91) (v := (44 : Int32)) C dX7_keeps_91 (by decide) ?_
      refine tt_iload_n (pc := 93) (k := 2) C dX7_keeps_93 rfl rfl ?_
      refine tt_iadd (pc := 94) C dX7_keeps_94 ?_
      refine tt_aload_n (pc := 95) (k := 0) C dX7_keeps_95 rfl rfl ?_
      refine tt_get (pc := 96) (ws := (mC cy ad sc (va_up (va_up (va_up (va_up (va_up ar 22 (upd (ar 22) (ix ((24 : Int32) + v2)) ((ar 3) (ix v2)))) 22 (upd (upd (ar 22) (ix ((24 : Int32) + v2)) ((ar 3) (ix v2))) (ix ((28 : Int32) + v2)) ((ar 4) (ix v2)))) 22 (upd (upd (upd (ar 22) (ix ((24 : Int32) + v2)) ((ar 3) (ix v2))) (ix ((28 : Int32) + v2)) ((ar 4) (ix v2))) (ix ((32 : Int32) + v2)) ((ar 5) (ix v2)))) 22 (upd (upd (upd (upd (ar 22) (ix ((24 : Int32) + v2)) ((ar 3) (ix v2))) (ix ((28 : Int32) + v2)) ((ar 4) (ix v2))) (ix ((32 : Int32) + v2)) ((ar 5) (ix v2))) (ix ((36 : Int32) + v2)) ((ar 10) (ix v2)))) 22 (upd (upd (upd (upd (upd (ar 22) (ix ((24 : Int32) + v2)) ((ar 3) (ix v2))) (ix ((28 : Int32) + v2)) ((ar 4) (ix v2))) (ix ((32 : Int32) + v2)) ((ar 5) (ix v2))) (ix ((36 : Int32) + v2)) ((ar 10) (ix v2))) (ix ((40 : Int32) + v2)) ((ar 11) (ix v2)))) la)) (ci := 7) (v := .ref (ad 12)) C fiX7 rfl 0 mC_obj 12 (by decide) q4_172 rfl dX7_keeps_96 ?_
      refine tt_iload_n (pc := 99) (k := 2) C dX7_keeps_99 rfl rfl ?_
      refine tt_iaload (pc := 100) (ws := (mC cy ad sc (va_up (va_up (va_up (va_up (va_up ar 22 (upd (ar 22) (ix ((24 : Int32) + v2)) ((ar 3) (ix v2)))) 22 (upd (upd (ar 22) (ix ((24 : Int32) + v2)) ((ar 3) (ix v2))) (ix ((28 : Int32) + v2)) ((ar 4) (ix v2)))) 22 (upd (upd (upd (ar 22) (ix ((24 : Int32) + v2)) ((ar 3) (ix v2))) (ix ((28 : Int32) + v2)) ((ar 4) (ix v2))) (ix ((32 : Int32) + v2)) ((ar 5) (ix v2)))) 22 (upd (upd (upd (upd (ar 22) (ix ((24 : Int32) + v2)) ((ar 3) (ix v2))) (ix ((28 : Int32) + v2)) ((ar 4) (ix v2))) (ix ((32 : Int32) + v2)) ((ar 5) (ix v2))) (ix ((36 : Int32) + v2)) ((ar 10) (ix v2)))) 22 (upd (upd (upd (upd (upd (ar 22) (ix ((24 : Int32) + v2)) ((ar 3) (ix v2))) (ix ((28 : Int32) + v2)) ((ar 4) (ix v2))) (ix ((32 : Int32) + v2)) ((ar 5) (ix v2))) (ix ((36 : Int32) + v2)) ((ar 10) (ix v2))) (ix ((40 : Int32) + v2)) ((ar 11) (ix v2)))) la)) (n := 4) (f := (ar 12)) C 9 0 mC_get12 rfl hf dX7_keeps_100 (fun hf => ?_)
      refine tt_iastore (pc := 101) (ws := (mC cy ad sc (va_up (va_up (va_up (va_up (va_up ar 22 (upd (ar 22) (ix ((24 : Int32) + v2)) ((ar 3) (ix v2)))) 22 (upd (upd (ar 22) (ix ((24 : Int32) + v2)) ((ar 3) (ix v2))) (ix ((28 : Int32) + v2)) ((ar 4) (ix v2)))) 22 (upd (upd (upd (ar 22) (ix ((24 : Int32) + v2)) ((ar 3) (ix v2))) (ix ((28 : Int32) + v2)) ((ar 4) (ix v2))) (ix ((32 : Int32) + v2)) ((ar 5) (ix v2)))) 22 (upd (upd (upd (upd (ar 22) (ix ((24 : Int32) + v2)) ((ar 3) (ix v2))) (ix ((28 : Int32) + v2)) ((ar 4) (ix v2))) (ix ((32 : Int32) + v2)) ((ar 5) (ix v2))) (ix ((36 : Int32) + v2)) ((ar 10) (ix v2)))) 22 (upd (upd (upd (upd (upd (ar 22) (ix ((24 : Int32) + v2)) ((ar 3) (ix v2))) (ix ((28 : Int32) + v2)) ((ar 4) (ix v2))) (ix ((32 : Int32) + v2)) ((ar 5) (ix v2))) (ix ((36 : Int32) + v2)) ((ar 10) (ix v2))) (ix ((40 : Int32) + v2)) ((ar 11) (ix v2)))) la)) (n := 150) (f := (upd (upd (upd (upd (upd (ar 22) (ix ((24 : Int32) + v2)) ((ar 3) (ix v2))) (ix ((28 : Int32) + v2)) ((ar 4) (ix v2))) (ix ((32 : Int32) + v2)) ((ar 5) (ix v2))) (ix ((36 : Int32) + v2)) ((ar 10) (ix v2))) (ix ((40 : Int32) + v2)) ((ar 11) (ix v2)))) (ws' := (mC cy ad sc (va_up (va_up (va_up (va_up (va_up (va_up ar 22 (upd (ar 22) (ix ((24 : Int32) + v2)) ((ar 3) (ix v2)))) 22 (upd (upd (ar 22) (ix ((24 : Int32) + v2)) ((ar 3) (ix v2))) (ix ((28 : Int32) + v2)) ((ar 4) (ix v2)))) 22 (upd (upd (upd (ar 22) (ix ((24 : Int32) + v2)) ((ar 3) (ix v2))) (ix ((28 : Int32) + v2)) ((ar 4) (ix v2))) (ix ((32 : Int32) + v2)) ((ar 5) (ix v2)))) 22 (upd (upd (upd (upd (ar 22) (ix ((24 : Int32) + v2)) ((ar 3) (ix v2))) (ix ((28 : Int32) + v2)) ((ar 4) (ix v2))) (ix ((32 : Int32) + v2)) ((ar 5) (ix v2))) (ix ((36 : Int32) + v2)) ((ar 10) (ix v2)))) 22 (upd (upd (upd (upd (upd (ar 22) (ix ((24 : Int32) + v2)) ((ar 3) (ix v2))) (ix ((28 : Int32) + v2)) ((ar 4) (ix v2))) (ix ((32 : Int32) + v2)) ((ar 5) (ix v2))) (ix ((36 : Int32) + v2)) ((ar 10) (ix v2))) (ix ((40 : Int32) + v2)) ((ar 11) (ix v2)))) 22 (upd (upd (upd (upd (upd (upd (ar 22) (ix ((24 : Int32) + v2)) ((ar 3) (ix v2))) (ix ((28 : Int32) + v2)) ((ar 4) (ix v2))) (ix ((32 : Int32) + v2)) ((ar 5) (ix v2))) (ix ((36 : Int32) + v2)) ((ar 10) (ix v2))) (ix ((40 : Int32) + v2)) ((ar 11) (ix v2))) (ix ((44 : Int32) + v2)) ((ar 12) (ix v2)))) la)) C rfl 16 0 mC_get22 rfl hf dX7_keeps_101 mC_set22 (fun hf => ?_)
      refine tt_aload_n (pc := 102) (k := 1) C dX7_keeps_102 rfl rfl ?_
      refine tt_bipush (pc := 103) (v := (48 : Int32)) C dX7_keeps_103 (by decide) ?_
      refine tt_iload_n (pc := 105) (k := 2) C dX7_keeps_105 rfl rfl ?_
      refine tt_iadd (pc := 106) C dX7_keeps_106 ?_
      refine tt_aload_n (pc := 107) (k := 0) C dX7_keeps_107 rfl rfl ?_
      refine tt_get (pc := 108) (ws := (mC cy ad sc (va_up (va_up (va_up (va_up (va_up (va_up ar 22 (upd (ar 22) (ix ((24 : Int32) + v2)) ((ar 3) (ix v2)))) 22 (upd (upd (ar 22) (ix ((24 : Int32) + v2)) ((ar 3) (ix v2))) (ix ((28 : Int32) + v2)) ((ar 4) (ix v2)))) 22 (upd (upd (upd (ar 22) (ix ((24 : Int32) + v2)) ((ar 3) (ix v2))) (ix ((28 : Int32) + v2)) ((ar 4) (ix v2))) (ix ((32 : Int32) + v2)) ((ar 5) (ix v2)))) 22 (upd (upd (upd (upd (ar 22) (ix ((24 : Int32) + v2)) ((ar 3) (ix v2))) (ix ((28 : Int32) + v2)) ((ar 4) (ix v2))) (ix ((32 : Int32) + v2)) ((ar 5) (ix v2))) (ix ((36 : Int32) + v2)) ((ar 10) (ix v2)))) 22 (upd (upd (upd (upd (upd (ar 22) (ix ((24 : Int32) + v2)) ((ar 3) (ix v2))) (ix ((28 : Int32) + v2)) ((ar 4) (ix v2))) (ix ((32 : Int32) + v2)) ((ar 5) (ix v2))) (ix ((36 : Int32) + v2)) ((ar 10) (ix v2))) (ix ((40 : Int32) + v2)) ((ar 11) (ix v2)))) 22 (upd (upd (upd (upd (upd (upd (ar 22) (ix ((24 : Int32) + v2)) ((ar 3) (ix v2))) (ix ((28 : Int32) + v2)) ((ar 4) (ix v2))) (ix ((32 : Int32) + v2)) ((ar 5) (ix v2))) (ix ((36 : Int32) + v2)) ((ar 10) (ix v2))) (ix ((40 : Int32) + v2)) ((ar 11) (ix v2))) (ix ((44 : Int32) + v2)) ((ar 12) (ix v2)))) la)) (ci := 7) (v := .ref (ad 13)) C fiX7 rfl 0 mC_obj 13 (by decide) q4_173 rfl dX7_keeps_108 ?_
      refine tt_iload_n (pc := 111) (k := 2) C dX7_keeps_111 rfl rfl ?_
      refine tt_iaload (pc := 112) (ws := (mC cy ad sc (va_up (va_up (va_up (va_up (va_up (va_up ar 22 (upd (ar 22) (ix ((24 : Int32) + v2)) ((ar 3) (ix v2)))) 22 (upd (upd (ar 22) (ix ((24 : Int32) + v2)) ((ar 3) (ix v2))) (ix ((28 : Int32) + v2)) ((ar 4) (ix v2)))) 22 (upd (upd (upd (ar 22) (ix ((24 : Int32) + v2)) ((ar 3) (ix v2))) (ix ((28 : Int32) + v2)) ((ar 4) (ix v2))) (ix ((32 : Int32) + v2)) ((ar 5) (ix v2)))) 22 (upd (upd (upd (upd (ar 22) (ix ((24 : Int32) + v2)) ((ar 3) (ix v2))) (ix ((28 : Int32) + v2)) ((ar 4) (ix v2))) (ix ((32 : Int32) + v2)) ((ar 5) (ix v2))) (ix ((36 : Int32) + v2)) ((ar 10) (ix v2)))) 22 (upd (upd (upd (upd (upd (ar 22) (ix ((24 : Int32) + v2)) ((ar 3) (ix v2))) (ix ((28 : Int32) + v2)) ((ar 4) (ix v2))) (ix ((32 : Int32) + v2)) ((ar 5) (ix v2))) (ix ((36 : Int32) + v2)) ((ar 10) (ix v2))) (ix ((40 : Int32) + v2)) ((ar 11) (ix v2)))) 22 (upd (upd (upd (upd (upd (upd (ar 22) (ix ((24 : Int32) + v2)) ((ar 3) (ix v2))) (ix ((28 : Int32) + v2)) ((ar 4) (ix v2))) (ix ((32 : Int32) + v2)) ((ar 5) (ix v2))) (ix ((36 : Int32) + v2)) ((ar 10) (ix v2))) (ix ((40 : Int32) + v2)) ((ar 11) (ix v2))) (ix ((44 : Int32) + v2)) ((ar 12) (ix v2)))) la)) (n := 4) (f := (ar 13)) C 10 0 mC_get13 rfl hf dX7_keeps_112 (fun hf => ?_)
      refine tt_iastore (pc := 113) (ws := (mC cy ad sc (va_up (va_up (va_up (va_up (va_up (va_up ar 22 (upd (ar 22) (ix ((24 : Int32) + v2)) ((ar 3) (ix v2)))) 22 (upd (upd (ar 22) (ix ((24 : Int32) + v2)) ((ar 3) (ix v2))) (ix ((28 : Int32) + v2)) ((ar 4) (ix v2)))) 22 (upd (upd (upd (ar 22) (ix ((24 : Int32) + v2)) ((ar 3) (ix v2))) (ix ((28 : Int32) + v2)) ((ar 4) (ix v2))) (ix ((32 : Int32) + v2)) ((ar 5) (ix v2)))) 22 (upd (upd (upd (upd (ar 22) (ix ((24 : Int32) + v2)) ((ar 3) (ix v2))) (ix ((28 : Int32) + v2)) ((ar 4) (ix v2))) (ix ((32 : Int32) + v2)) ((ar 5) (ix v2))) (ix ((36 : Int32) + v2)) ((ar 10) (ix v2)))) 22 (upd (upd (upd (upd (upd (ar 22) (ix ((24 : Int32) + v2)) ((ar 3) (ix v2))) (ix ((28 : Int32) + v2)) ((ar 4) (ix v2))) (ix ((32 : Int32) + v2)) ((ar 5) (ix v2))) (ix ((36 : Int32) + v2)) ((ar 10) (ix v2))) (ix ((40 : Int32) + v2)) ((ar 11) (ix v2)))) 22 (upd (upd (upd (upd (upd (upd (ar 22) (ix ((24 : Int32) + v2)) ((ar 3) (ix v2))) (ix ((28 : Int32) + v2)) ((ar 4) (ix v2))) (ix ((32 : Int32) + v2)) ((ar 5) (ix v2))) (ix ((36 : Int32) + v2)) ((ar 10) (ix v2))) (ix ((40 : Int32) + v2)) ((ar 11) (ix v2))) (ix ((44 : Int32) + v2)) ((ar 12) (ix v2)))) la)) (n := 150) (f := (upd (upd (upd (upd (upd (upd (ar 22) (ix ((24 : Int32) + v2)) ((ar 3) (ix v2))) (ix ((28 : Int32) + v2)) ((ar 4) (ix v2))) (ix ((32 : Int32) + v2)) ((ar 5) (ix v2))) (ix ((36 : Int32) + v2)) ((ar 10) (ix v2))) (ix ((40 : Int32) + v2)) ((ar 11) (ix v2))) (ix ((44 : Int32) + v2)) ((ar 12) (ix v2)))) (ws' := (mC cy ad sc (va_up (va_up (va_up (va_up (va_up (va_up (va_up ar 22 (upd (ar 22) (ix ((24 : Int32) + v2)) ((ar 3) (ix v2)))) 22 (upd (upd (ar 22) (ix ((24 : Int32) + v2)) ((ar 3) (ix v2))) (ix ((28 : Int32) + v2)) ((ar 4) (ix v2)))) 22 (upd (upd (upd (ar 22) (ix ((24 : Int32) + v2)) ((ar 3) (ix v2))) (ix ((28 : Int32) + v2)) ((ar 4) (ix v2))) (ix ((32 : Int32) + v2)) ((ar 5) (ix v2)))) 22 (upd (upd (upd (upd (ar 22) (ix ((24 : Int32) + v2)) ((ar 3) (ix v2))) (ix ((28 : Int32) + v2)) ((ar 4) (ix v2))) (ix ((32 : Int32) + v2)) ((ar 5) (ix v2))) (ix ((36 : Int32) + v2)) ((ar 10) (ix v2)))) 22 (upd (upd (upd (upd (upd (ar 22) (ix ((24 : Int32) + v2)) ((ar 3) (ix v2))) (ix ((28 : Int32) + v2)) ((ar 4) (ix v2))) (ix ((32 : Int32) + v2)) ((ar 5) (ix v2))) (ix ((36 : Int32) + v2)) ((ar 10) (ix v2))) (ix ((40 : Int32) + v2)) ((ar 11) (ix v2)))) 22 (upd (upd (upd (upd (upd (upd (ar 22) (ix ((24 : Int32) + v2)) ((ar 3) (ix v2))) (ix ((28 : Int32) + v2)) ((ar 4) (ix v2))) (ix ((32 : Int32) + v2)) ((ar 5) (ix v2))) (ix ((36 : Int32) + v2)) ((ar 10) (ix v2))) (ix ((40 : Int32) + v2)) ((ar 11) (ix v2))) (ix ((44 : Int32) + v2)) ((ar 12) (ix v2)))) 22 (upd (upd (upd (upd (upd (upd (upd (ar 22) (ix ((24 : Int32) + v2)) ((ar 3) (ix v2))) (ix ((28 : Int32) + v2)) ((ar 4) (ix v2))) (ix ((32 : Int32) + v2)) ((ar 5) (ix v2))) (ix ((36 : Int32) + v2)) ((ar 10) (ix v2))) (ix ((40 : Int32) + v2)) ((ar 11) (ix v2))) (ix ((44 : Int32) + v2)) ((ar 12) (ix v2))) (ix ((48 : Int32) + v2)) ((ar 13) (ix v2)))) la)) C rfl 16 0 mC_get22 rfl hf dX7_keeps_113 mC_set22 (fun hf => ?_)
      refine tt_iinc (pc := 114) (k := 2) (v := (v2 + 1)) (L' := [(2, .int (v2 + 1)), (0, .ref (ad 0)), (1, .ref (ad 22))]) C dX7_keeps_114 rfl rfl (by decide) rfl ?_
      refine tt_goto (pc := 117) (tgt := 25) C dX7_keeps_117 (by decide) ?_
      exact tt_locs [1, 2, 0] rfl (ih hf)
set_option maxHeartbeats 4000000 in
set_option maxRecDepth 100000 in
theorem l_X7_keeps_22_122 {p : Program} {l : Launch} {e : Env} {s : State} {m : MethodId} {args : Array Value} {below : List Frame} {meth : Method} {c : Code} {D : va_G} {cy : Nat → ClassId} {A : Nat → Prop} {Bd : Nat} {xa : Xa} {ad : Nat → Nat} {β : Type} {vO : Option Value} {wO : va_W} {N : Nat} {sc : Nat → Int32} {la : Nat → Nat → Int64} {kx : (Nat → Nat → Int32) → Option (β)} {out : β} (C : CC p s m args meth c cX7_keeps RX7 3 none D cy A false Bd xa) (hk : ∀ (ar1 : Nat → Nat → Int32), kx ar1 = some out → TT p l e { frames := 0, cells := 0, slots := 0, locals := 0 } s m args below meth c 3 D A false vO wO 157 [(0, .ref (ad 0)), (1, .ref (ad 22))] [] (mC cy ad sc ar1 la)) {n : Nat} {v2 : Int32} {ar : Nat → Nat → Int32} (hf : f_X7_keeps_22_L122 N sc kx n v2 ar = some out) : TT p l e { frames := 0, cells := 0, slots := 0, locals := 0 } s m args below meth c 3 D A false vO wO 122 [(0, .ref (ad 0)), (1, .ref (ad 22)), (2, .int v2)] [] (mC cy ad sc ar la) := by
  induction n generalizing v2 ar with
  | zero => cases hf
  | succ n ih =>
    rw [f_X7_keeps_22_L122] at hf
    refine tt_iload_n (pc := 122) (k := 2) C dX7_keeps_122 rfl rfl ?_
    refine tt_iconst (pc := 123) (v := (5 : Int32)) C dX7_keeps_123 (by decide) ?_
    refine tt_icmp_ge (pc := 124) (tgt := 157) C dX7_keeps_124 (by decide) hf (fun hf => ?_) (fun hf => ?_)
    · exact tt_locs [0, 1] rfl (hk _ hf)
    · refine tt_aload_n (pc := 127) (k := 1) C dX7_keeps_127 rfl rfl ?_
      refine tt_bipush (pc := 128) (v := (52 : Int32)) C dX7_keeps_128 (by decide) ?_
      refine tt_iload_n (pc := 130) (k := 2) C dX7_keeps_130 rfl rfl ?_
      refine tt_iadd (pc := 131) C dX7_keeps_131 ?_
      refine tt_aload_n (pc := 132) (k := 0) C dX7_keeps_132 rfl rfl ?_
      refine tt_get (pc := 133) (ws := (mC cy ad sc ar la)) (ci := 7) (v := .ref (ad 7)) C fiX7 rfl 0 mC_obj 7 (by decide) q4_167 rfl dX7_keeps_133 ?_
      refine tt_iload_n (pc := 136) (k := 2) C dX7_keeps_136 rfl rfl ?_
      refine tt_iaload (pc := 137) (ws := (mC cy ad sc ar la)) (n := 5) (f := (ar 7)) C 5 0 mC_get7 rfl hf dX7_keeps_137 (fun hf => ?_)
      refine tt_iastore (pc := 138) (ws := (mC cy ad sc ar la)) (n := 150) (f := (ar 22)) (ws' := (mC cy ad sc (va_up ar 22 (upd (ar 22) (ix ((52 : Int32) + v2)) ((ar 7) (ix v2)))) la)) C rfl 16 0 mC_get22 rfl hf dX7_keeps_138 mC_set22 (fun hf => ?_)
      refine tt_aload_n (pc := 139) (k := 1) C dX7_keeps_139 rfl rfl ?_
      refine tt_bipush (pc := 140) (v := (57 : Int32)) C dX7_keeps_140 (by decide) ?_
      refine tt_iload_n (pc := 142) (k := 2) C dX7_keeps_142 rfl rfl ?_
      refine tt_iadd (pc := 143) C dX7_keeps_143 ?_
      refine tt_aload_n (pc := 144) (k := 0) C dX7_keeps_144 rfl rfl ?_
      refine tt_get (pc := 145) (ws := (mC cy ad sc (va_up ar 22 (upd (ar 22) (ix ((52 : Int32) + v2)) ((ar 7) (ix v2)))) la)) (ci := 7) (v := .ref (ad 8)) C fiX7 rfl 0 mC_obj 8 (by decide) q4_168 rfl dX7_keeps_145 ?_
      refine tt_iload_n (pc := 148) (k := 2) C dX7_keeps_148 rfl rfl ?_
      refine tt_iaload (pc := 149) (ws := (mC cy ad sc (va_up ar 22 (upd (ar 22) (ix ((52 : Int32) + v2)) ((ar 7) (ix v2)))) la)) (n := 5) (f := (ar 8)) C 6 0 mC_get8 rfl hf dX7_keeps_149 (fun hf => ?_)
      refine tt_iastore (pc := 150) (ws := (mC cy ad sc (va_up ar 22 (upd (ar 22) (ix ((52 : Int32) + v2)) ((ar 7) (ix v2)))) la)) (n := 150) (f := (upd (ar 22) (ix ((52 : Int32) + v2)) ((ar 7) (ix v2)))) (ws' := (mC cy ad sc (va_up (va_up ar 22 (upd (ar 22) (ix ((52 : Int32) + v2)) ((ar 7) (ix v2)))) 22 (upd (upd (ar 22) (ix ((52 : Int32) + v2)) ((ar 7) (ix v2))) (ix ((57 : Int32) + v2)) ((ar 8) (ix v2)))) la)) C rfl 16 0 mC_get22 rfl hf dX7_keeps_150 mC_set22 (fun hf => ?_)
      refine tt_iinc (pc := 151) (k := 2) (v := (v2 + 1)) (L' := [(2, .int (v2 + 1)), (0, .ref (ad 0)), (1, .ref (ad 22))]) C dX7_keeps_151 rfl rfl (by decide) rfl ?_
      refine tt_goto (pc := 154) (tgt := 122) C dX7_keeps_154 (by decide) ?_
      exact tt_locs [1, 2, 0] rfl (ih hf)
set_option maxHeartbeats 4000000 in
set_option maxRecDepth 100000 in
theorem l_X7_keeps_22_159 {p : Program} {l : Launch} {e : Env} {s : State} {m : MethodId} {args : Array Value} {below : List Frame} {meth : Method} {c : Code} {D : va_G} {cy : Nat → ClassId} {A : Nat → Prop} {Bd : Nat} {xa : Xa} {ad : Nat → Nat} {β : Type} {vO : Option Value} {wO : va_W} {N : Nat} {sc : Nat → Int32} {la : Nat → Nat → Int64} {kx : (Nat → Nat → Int32) → Option (β)} {out : β} (C : CC p s m args meth c cX7_keeps RX7 3 none D cy A false Bd xa) (hk : ∀ (ar1 : Nat → Nat → Int32), kx ar1 = some out → TT p l e { frames := 0, cells := 0, slots := 0, locals := 0 } s m args below meth c 3 D A false vO wO 183 [(0, .ref (ad 0)), (1, .ref (ad 22))] [] (mC cy ad sc ar1 la)) {n : Nat} {v2 : Int32} {ar : Nat → Nat → Int32} (hf : f_X7_keeps_22_L159 N sc kx n v2 ar = some out) : TT p l e { frames := 0, cells := 0, slots := 0, locals := 0 } s m args below meth c 3 D A false vO wO 159 [(0, .ref (ad 0)), (1, .ref (ad 22)), (2, .int v2)] [] (mC cy ad sc ar la) := by
  induction n generalizing v2 ar with
  | zero => cases hf
  | succ n ih =>
    rw [f_X7_keeps_22_L159] at hf
    refine tt_iload_n (pc := 159) (k := 2) C dX7_keeps_159 rfl rfl ?_
    refine tt_bipush (pc := 160) (v := (56 : Int32)) C dX7_keeps_160 (by decide) ?_
    refine tt_icmp_ge (pc := 162) (tgt := 183) C dX7_keeps_162 (by decide) hf (fun hf => ?_) (fun hf => ?_)
    · exact tt_locs [0, 1] rfl (hk _ hf)
    · refine tt_aload_n (pc := 165) (k := 1) C dX7_keeps_165 rfl rfl ?_
      refine tt_bipush (pc := 166) (v := (62 : Int32)) C dX7_keeps_166 (by decide) ?_
      refine tt_iload_n (pc := 168) (k := 2) C dX7_keeps_168 rfl rfl ?_
      refine tt_iadd (pc := 169) C dX7_keeps_169 ?_
      refine tt_aload_n (pc := 170) (k := 0) C dX7_keeps_170 rfl rfl ?_
      refine tt_get (pc := 171) (ws := (mC cy ad sc ar la)) (ci := 7) (v := .ref (ad 16)) C fiX7 rfl 0 mC_obj 16 (by decide) q4_176 rfl dX7_keeps_171 ?_
      refine tt_iload_n (pc := 174) (k := 2) C dX7_keeps_174 rfl rfl ?_
      refine tt_iaload (pc := 175) (ws := (mC cy ad sc ar la)) (n := 56) (f := (ar 16)) C 11 0 mC_get16 rfl hf dX7_keeps_175 (fun hf => ?_)
      refine tt_iastore (pc := 176) (ws := (mC cy ad sc ar la)) (n := 150) (f := (ar 22)) (ws' := (mC cy ad sc (va_up ar 22 (upd (ar 22) (ix ((62 : Int32) + v2)) ((ar 16) (ix v2)))) la)) C rfl 16 0 mC_get22 rfl hf dX7_keeps_176 mC_set22 (fun hf => ?_)
      refine tt_iinc (pc := 177) (k := 2) (v := (v2 + 1)) (L' := [(2, .int (v2 + 1)), (0, .ref (ad 0)), (1, .ref (ad 22))]) C dX7_keeps_177 rfl rfl (by decide) rfl ?_
      refine tt_goto (pc := 180) (tgt := 159) C dX7_keeps_180 (by decide) ?_
      exact tt_locs [1, 2, 0] rfl (ih hf)
set_option maxHeartbeats 4000000 in
set_option maxRecDepth 100000 in
theorem l_X7_keeps_22_185 {p : Program} {l : Launch} {e : Env} {s : State} {m : MethodId} {args : Array Value} {below : List Frame} {meth : Method} {c : Code} {D : va_G} {cy : Nat → ClassId} {A : Nat → Prop} {Bd : Nat} {xa : Xa} {ad : Nat → Nat} {β : Type} {vO : Option Value} {wO : va_W} {N : Nat} {sc : Nat → Int32} {la : Nat → Nat → Int64} {kx : (Nat → Nat → Int32) → Option (β)} {out : β} (C : CC p s m args meth c cX7_keeps RX7 3 none D cy A false Bd xa) (hk : ∀ (ar1 : Nat → Nat → Int32), kx ar1 = some out → TT p l e { frames := 0, cells := 0, slots := 0, locals := 0 } s m args below meth c 3 D A false vO wO 221 [(0, .ref (ad 0)), (1, .ref (ad 22))] [] (mC cy ad sc ar1 la)) {n : Nat} {v2 : Int32} {ar : Nat → Nat → Int32} (hf : f_X7_keeps_22_L185 N sc kx n v2 ar = some out) : TT p l e { frames := 0, cells := 0, slots := 0, locals := 0 } s m args below meth c 3 D A false vO wO 185 [(0, .ref (ad 0)), (1, .ref (ad 22)), (2, .int v2)] [] (mC cy ad sc ar la) := by
  induction n generalizing v2 ar with
  | zero => cases hf
  | succ n ih =>
    rw [f_X7_keeps_22_L185] at hf
    refine tt_iload_n (pc := 185) (k := 2) C dX7_keeps_185 rfl rfl ?_
    refine tt_bipush (pc := 186) (v := (8 : Int32)) C dX7_keeps_186 (by decide) ?_
    refine tt_icmp_ge (pc := 188) (tgt := 221) C dX7_keeps_188 (by decide) hf (fun hf => ?_) (fun hf => ?_)
    · exact tt_locs [0, 1] rfl (hk _ hf)
    · refine tt_aload_n (pc := 191) (k := 1) C dX7_keeps_191 rfl rfl ?_
      refine tt_bipush (pc := 192) (v := (118 : Int32)) C dX7_keeps_192 (by decide) ?_
      refine tt_iload_n (pc := 194) (k := 2) C dX7_keeps_194 rfl rfl ?_
      refine tt_iadd (pc := 195) C dX7_keeps_195 ?_
      refine tt_aload_n (pc := 196) (k := 0) C dX7_keeps_196 rfl rfl ?_
      refine tt_get (pc := 197) (ws := (mC cy ad sc ar la)) (ci := 7) (v := .ref (ad 17)) C fiX7 rfl 0 mC_obj 17 (by decide) q4_177 rfl dX7_keeps_197 ?_
      refine tt_iload_n (pc := 200) (k := 2) C dX7_keeps_200 rfl rfl ?_
      refine tt_iaload (pc := 201) (ws := (mC cy ad sc ar la)) (n := 8) (f := (ar 17)) C 12 0 mC_get17 rfl hf dX7_keeps_201 (fun hf => ?_)
      refine tt_iastore (pc := 202) (ws := (mC cy ad sc ar la)) (n := 150) (f := (ar 22)) (ws' := (mC cy ad sc (va_up ar 22 (upd (ar 22) (ix ((118 : Int32) + v2)) ((ar 17) (ix v2)))) la)) C rfl 16 0 mC_get22 rfl hf dX7_keeps_202 mC_set22 (fun hf => ?_)
      refine tt_aload_n (pc := 203) (k := 1) C dX7_keeps_203 rfl rfl ?_
      refine tt_bipush (pc := 204) (v := (126 : Int32)) C dX7_keeps_204 (by decide) ?_
      refine tt_iload_n (pc := 206) (k := 2) C dX7_keeps_206 rfl rfl ?_
      refine tt_iadd (pc := 207) C dX7_keeps_207 ?_
      refine tt_aload_n (pc := 208) (k := 0) C dX7_keeps_208 rfl rfl ?_
      refine tt_get (pc := 209) (ws := (mC cy ad sc (va_up ar 22 (upd (ar 22) (ix ((118 : Int32) + v2)) ((ar 17) (ix v2)))) la)) (ci := 7) (v := .ref (ad 18)) C fiX7 rfl 0 mC_obj 18 (by decide) q4_178 rfl dX7_keeps_209 ?_
      refine tt_iload_n (pc := 212) (k := 2) C dX7_keeps_212 rfl rfl ?_
      refine tt_iaload (pc := 213) (ws := (mC cy ad sc (va_up ar 22 (upd (ar 22) (ix ((118 : Int32) + v2)) ((ar 17) (ix v2)))) la)) (n := 8) (f := (ar 18)) C 13 0 mC_get18 rfl hf dX7_keeps_213 (fun hf => ?_)
      refine tt_iastore (pc := 214) (ws := (mC cy ad sc (va_up ar 22 (upd (ar 22) (ix ((118 : Int32) + v2)) ((ar 17) (ix v2)))) la)) (n := 150) (f := (upd (ar 22) (ix ((118 : Int32) + v2)) ((ar 17) (ix v2)))) (ws' := (mC cy ad sc (va_up (va_up ar 22 (upd (ar 22) (ix ((118 : Int32) + v2)) ((ar 17) (ix v2)))) 22 (upd (upd (ar 22) (ix ((118 : Int32) + v2)) ((ar 17) (ix v2))) (ix ((126 : Int32) + v2)) ((ar 18) (ix v2)))) la)) C rfl 16 0 mC_get22 rfl hf dX7_keeps_214 mC_set22 (fun hf => ?_)
      refine tt_iinc (pc := 215) (k := 2) (v := (v2 + 1)) (L' := [(2, .int (v2 + 1)), (0, .ref (ad 0)), (1, .ref (ad 22))]) C dX7_keeps_215 rfl rfl (by decide) rfl ?_
      refine tt_goto (pc := 218) (tgt := 185) C dX7_keeps_218 (by decide) ?_
      exact tt_locs [1, 2, 0] rfl (ih hf)
set_option maxHeartbeats 4000000 in
set_option maxRecDepth 100000 in
theorem k_X7_keeps_22 {l : Launch} {D : va_G} {cy : Nat → ClassId} {Bd : Nat} {xa : Xa} {ad : Nat → Nat} {N : Nat} {sc : Nat → Int32} {ar : Nat → Nat → Int32} {la : Nat → Nat → Int64} {out : (Nat → Nat → Int32)} (hf : f_X7_keeps_22 N sc ar = some out) : KC l yX7_keeps cX7_keeps 3 none 0 0 false D cy Bd xa [.ref (ad 0), .ref (ad 22)] (mC cy ad sc ar la) none (mC cy ad sc out la) := by
  refine kc_start (own := RX7) (by decide +kernel) rfl (Nat.le_of_ble_eq_true rfl) ?_
  intro p e s m args below meth c A C
  unfold f_X7_keeps_22 at hf
  refine tt_locs (L' := [(0, .ref (ad 0)), (1, .ref (ad 22))]) [0, 1] rfl ?_
  refine tt_iconst (pc := 0) (v := (0 : Int32)) C dX7_keeps_0 (by decide) ?_
  refine tt_istore_n (pc := 1) (L' := [(2, .int (0 : Int32)), (0, .ref (ad 0)), (1, .ref (ad 22))]) C dX7_keeps_1 rfl (by decide) rfl ?_
  refine tt_locs (L' := [(0, .ref (ad 0)), (1, .ref (ad 22)), (2, .int (0 : Int32))]) [1, 2, 0] rfl (l_X7_keeps_22_2 C (fun t1 hf => ?_) hf)
  refine tt_iconst (pc := 23) (v := (0 : Int32)) C dX7_keeps_23 (by decide) ?_
  refine tt_istore_n (pc := 24) (L' := [(2, .int (0 : Int32)), (0, .ref (ad 0)), (1, .ref (ad 22))]) C dX7_keeps_24 rfl (by decide) rfl ?_
  refine tt_locs (L' := [(0, .ref (ad 0)), (1, .ref (ad 22)), (2, .int (0 : Int32))]) [1, 2, 0] rfl (l_X7_keeps_22_25 C (fun t2 hf => ?_) hf)
  refine tt_iconst (pc := 120) (v := (0 : Int32)) C dX7_keeps_120 (by decide) ?_
  refine tt_istore_n (pc := 121) (L' := [(2, .int (0 : Int32)), (0, .ref (ad 0)), (1, .ref (ad 22))]) C dX7_keeps_121 rfl (by decide) rfl ?_
  refine tt_locs (L' := [(0, .ref (ad 0)), (1, .ref (ad 22)), (2, .int (0 : Int32))]) [1, 2, 0] rfl (l_X7_keeps_22_122 C (fun t3 hf => ?_) hf)
  refine tt_iconst (pc := 157) (v := (0 : Int32)) C dX7_keeps_157 (by decide) ?_
  refine tt_istore_n (pc := 158) (L' := [(2, .int (0 : Int32)), (0, .ref (ad 0)), (1, .ref (ad 22))]) C dX7_keeps_158 rfl (by decide) rfl ?_
  refine tt_locs (L' := [(0, .ref (ad 0)), (1, .ref (ad 22)), (2, .int (0 : Int32))]) [1, 2, 0] rfl (l_X7_keeps_22_159 C (fun t4 hf => ?_) hf)
  refine tt_iconst (pc := 183) (v := (0 : Int32)) C dX7_keeps_183 (by decide) ?_
  refine tt_istore_n (pc := 184) (L' := [(2, .int (0 : Int32)), (0, .ref (ad 0)), (1, .ref (ad 22))]) C dX7_keeps_184 rfl (by decide) rfl ?_
  refine tt_locs (L' := [(0, .ref (ad 0)), (1, .ref (ad 22)), (2, .int (0 : Int32))]) [1, 2, 0] rfl (l_X7_keeps_22_185 C (fun t5 hf => ?_) hf)
  refine tt_aload_n (pc := 221) (k := 1) C dX7_keeps_221 rfl rfl ?_
  refine tt_sipush (pc := 222) (v := (134 : Int32)) C dX7_keeps_222 (by decide) ?_
  refine tt_aload_n (pc := 225) (k := 0) C dX7_keeps_225 rfl rfl ?_
  refine tt_get (pc := 226) (ws := (mC cy ad sc t5 la)) (ci := 7) (v := .int (sc 0)) C fiX7 rfl 0 mC_obj 0 (by decide) q4_160 rfl dX7_keeps_226 ?_
  refine tt_iastore (pc := 229) (ws := (mC cy ad sc t5 la)) (n := 150) (f := (t5 22)) (ws' := (mC cy ad sc (va_up t5 22 (upd (t5 22) (ix (134 : Int32)) (sc 0))) la)) C rfl 16 0 mC_get22 rfl hf dX7_keeps_229 mC_set22 (fun hf => ?_)
  refine tt_aload_n (pc := 230) (k := 1) C dX7_keeps_230 rfl rfl ?_
  refine tt_sipush (pc := 231) (v := (135 : Int32)) C dX7_keeps_231 (by decide) ?_
  refine tt_aload_n (pc := 234) (k := 0) C dX7_keeps_234 rfl rfl ?_
  refine tt_get (pc := 235) (ws := (mC cy ad sc (va_up t5 22 (upd (t5 22) (ix (134 : Int32)) (sc 0))) la)) (ci := 7) (v := .int (sc 2)) C fiX7 rfl 0 mC_obj 2 (by decide) q4_162 rfl dX7_keeps_235 ?_
  refine tt_iastore (pc := 238) (ws := (mC cy ad sc (va_up t5 22 (upd (t5 22) (ix (134 : Int32)) (sc 0))) la)) (n := 150) (f := (upd (t5 22) (ix (134 : Int32)) (sc 0))) (ws' := (mC cy ad sc (va_up (va_up t5 22 (upd (t5 22) (ix (134 : Int32)) (sc 0))) 22 (upd (upd (t5 22) (ix (134 : Int32)) (sc 0)) (ix (135 : Int32)) (sc 2))) la)) C rfl 16 0 mC_get22 rfl hf dX7_keeps_238 mC_set22 (fun hf => ?_)
  refine tt_aload_n (pc := 239) (k := 1) C dX7_keeps_239 rfl rfl ?_
  refine tt_sipush (pc := 240) (v := (136 : Int32)) C dX7_keeps_240 (by decide) ?_
  refine tt_aload_n (pc := 243) (k := 0) C dX7_keeps_243 rfl rfl ?_
  refine tt_get (pc := 244) (ws := (mC cy ad sc (va_up (va_up t5 22 (upd (t5 22) (ix (134 : Int32)) (sc 0))) 22 (upd (upd (t5 22) (ix (134 : Int32)) (sc 0)) (ix (135 : Int32)) (sc 2))) la)) (ci := 7) (v := .int (sc 6)) C fiX7 rfl 0 mC_obj 6 (by decide) q4_166 rfl dX7_keeps_244 ?_
  refine tt_iastore (pc := 247) (ws := (mC cy ad sc (va_up (va_up t5 22 (upd (t5 22) (ix (134 : Int32)) (sc 0))) 22 (upd (upd (t5 22) (ix (134 : Int32)) (sc 0)) (ix (135 : Int32)) (sc 2))) la)) (n := 150) (f := (upd (upd (t5 22) (ix (134 : Int32)) (sc 0)) (ix (135 : Int32)) (sc 2))) (ws' := (mC cy ad sc (va_up (va_up (va_up t5 22 (upd (t5 22) (ix (134 : Int32)) (sc 0))) 22 (upd (upd (t5 22) (ix (134 : Int32)) (sc 0)) (ix (135 : Int32)) (sc 2))) 22 (upd (upd (upd (t5 22) (ix (134 : Int32)) (sc 0)) (ix (135 : Int32)) (sc 2)) (ix (136 : Int32)) (sc 6))) la)) C rfl 16 0 mC_get22 rfl hf dX7_keeps_247 mC_set22 (fun hf => ?_)
  refine tt_aload_n (pc := 248) (k := 1) C dX7_keeps_248 rfl rfl ?_
  refine tt_sipush (pc := 249) (v := (137 : Int32)) C dX7_keeps_249 (by decide) ?_
  refine tt_aload_n (pc := 252) (k := 0) C dX7_keeps_252 rfl rfl ?_
  refine tt_get (pc := 253) (ws := (mC cy ad sc (va_up (va_up (va_up t5 22 (upd (t5 22) (ix (134 : Int32)) (sc 0))) 22 (upd (upd (t5 22) (ix (134 : Int32)) (sc 0)) (ix (135 : Int32)) (sc 2))) 22 (upd (upd (upd (t5 22) (ix (134 : Int32)) (sc 0)) (ix (135 : Int32)) (sc 2)) (ix (136 : Int32)) (sc 6))) la)) (ci := 7) (v := .int (sc 9)) C fiX7 rfl 0 mC_obj 9 (by decide) q4_169 rfl dX7_keeps_253 ?_
  refine tt_iastore (pc := 256) (ws := (mC cy ad sc (va_up (va_up (va_up t5 22 (upd (t5 22) (ix (134 : Int32)) (sc 0))) 22 (upd (upd (t5 22) (ix (134 : Int32)) (sc 0)) (ix (135 : Int32)) (sc 2))) 22 (upd (upd (upd (t5 22) (ix (134 : Int32)) (sc 0)) (ix (135 : Int32)) (sc 2)) (ix (136 : Int32)) (sc 6))) la)) (n := 150) (f := (upd (upd (upd (t5 22) (ix (134 : Int32)) (sc 0)) (ix (135 : Int32)) (sc 2)) (ix (136 : Int32)) (sc 6))) (ws' := (mC cy ad sc (va_up (va_up (va_up (va_up t5 22 (upd (t5 22) (ix (134 : Int32)) (sc 0))) 22 (upd (upd (t5 22) (ix (134 : Int32)) (sc 0)) (ix (135 : Int32)) (sc 2))) 22 (upd (upd (upd (t5 22) (ix (134 : Int32)) (sc 0)) (ix (135 : Int32)) (sc 2)) (ix (136 : Int32)) (sc 6))) 22 (upd (upd (upd (upd (t5 22) (ix (134 : Int32)) (sc 0)) (ix (135 : Int32)) (sc 2)) (ix (136 : Int32)) (sc 6)) (ix (137 : Int32)) (sc 9))) la)) C rfl 16 0 mC_get22 rfl hf dX7_keeps_256 mC_set22 (fun hf => ?_)
  refine tt_aload_n (pc := 257) (k := 1) C dX7_keeps_257 rfl rfl ?_
  refine tt_sipush (pc := 258) (v := (138 : Int32)) C dX7_keeps_258 (by decide) ?_
  refine tt_aload_n (pc := 261) (k := 0) C dX7_keeps_261 rfl rfl ?_
  refine tt_get (pc := 262) (ws := (mC cy ad sc (va_up (va_up (va_up (va_up t5 22 (upd (t5 22) (ix (134 : Int32)) (sc 0))) 22 (upd (upd (t5 22) (ix (134 : Int32)) (sc 0)) (ix (135 : Int32)) (sc 2))) 22 (upd (upd (upd (t5 22) (ix (134 : Int32)) (sc 0)) (ix (135 : Int32)) (sc 2)) (ix (136 : Int32)) (sc 6))) 22 (upd (upd (upd (upd (t5 22) (ix (134 : Int32)) (sc 0)) (ix (135 : Int32)) (sc 2)) (ix (136 : Int32)) (sc 6)) (ix (137 : Int32)) (sc 9))) la)) (ci := 7) (v := .int (sc 14)) C fiX7 rfl 0 mC_obj 14 (by decide) q4_174 rfl dX7_keeps_262 ?_
  refine tt_iastore (pc := 265) (ws := (mC cy ad sc (va_up (va_up (va_up (va_up t5 22 (upd (t5 22) (ix (134 : Int32)) (sc 0))) 22 (upd (upd (t5 22) (ix (134 : Int32)) (sc 0)) (ix (135 : Int32)) (sc 2))) 22 (upd (upd (upd (t5 22) (ix (134 : Int32)) (sc 0)) (ix (135 : Int32)) (sc 2)) (ix (136 : Int32)) (sc 6))) 22 (upd (upd (upd (upd (t5 22) (ix (134 : Int32)) (sc 0)) (ix (135 : Int32)) (sc 2)) (ix (136 : Int32)) (sc 6)) (ix (137 : Int32)) (sc 9))) la)) (n := 150) (f := (upd (upd (upd (upd (t5 22) (ix (134 : Int32)) (sc 0)) (ix (135 : Int32)) (sc 2)) (ix (136 : Int32)) (sc 6)) (ix (137 : Int32)) (sc 9))) (ws' := (mC cy ad sc (va_up (va_up (va_up (va_up (va_up t5 22 (upd (t5 22) (ix (134 : Int32)) (sc 0))) 22 (upd (upd (t5 22) (ix (134 : Int32)) (sc 0)) (ix (135 : Int32)) (sc 2))) 22 (upd (upd (upd (t5 22) (ix (134 : Int32)) (sc 0)) (ix (135 : Int32)) (sc 2)) (ix (136 : Int32)) (sc 6))) 22 (upd (upd (upd (upd (t5 22) (ix (134 : Int32)) (sc 0)) (ix (135 : Int32)) (sc 2)) (ix (136 : Int32)) (sc 6)) (ix (137 : Int32)) (sc 9))) 22 (upd (upd (upd (upd (upd (t5 22) (ix (134 : Int32)) (sc 0)) (ix (135 : Int32)) (sc 2)) (ix (136 : Int32)) (sc 6)) (ix (137 : Int32)) (sc 9)) (ix (138 : Int32)) (sc 14))) la)) C rfl 16 0 mC_get22 rfl hf dX7_keeps_265 mC_set22 (fun hf => ?_)
  refine tt_aload_n (pc := 266) (k := 1) C dX7_keeps_266 rfl rfl ?_
  refine tt_sipush (pc := 267) (v := (139 : Int32)) C dX7_keeps_267 (by decide) ?_
  refine tt_aload_n (pc := 270) (k := 0) C dX7_keeps_270 rfl rfl ?_
  refine tt_get (pc := 271) (ws := (mC cy ad sc (va_up (va_up (va_up (va_up (va_up t5 22 (upd (t5 22) (ix (134 : Int32)) (sc 0))) 22 (upd (upd (t5 22) (ix (134 : Int32)) (sc 0)) (ix (135 : Int32)) (sc 2))) 22 (upd (upd (upd (t5 22) (ix (134 : Int32)) (sc 0)) (ix (135 : Int32)) (sc 2)) (ix (136 : Int32)) (sc 6))) 22 (upd (upd (upd (upd (t5 22) (ix (134 : Int32)) (sc 0)) (ix (135 : Int32)) (sc 2)) (ix (136 : Int32)) (sc 6)) (ix (137 : Int32)) (sc 9))) 22 (upd (upd (upd (upd (upd (t5 22) (ix (134 : Int32)) (sc 0)) (ix (135 : Int32)) (sc 2)) (ix (136 : Int32)) (sc 6)) (ix (137 : Int32)) (sc 9)) (ix (138 : Int32)) (sc 14))) la)) (ci := 7) (v := .int (sc 15)) C fiX7 rfl 0 mC_obj 15 (by decide) q4_175 rfl dX7_keeps_271 ?_
  refine tt_iastore (pc := 274) (ws := (mC cy ad sc (va_up (va_up (va_up (va_up (va_up t5 22 (upd (t5 22) (ix (134 : Int32)) (sc 0))) 22 (upd (upd (t5 22) (ix (134 : Int32)) (sc 0)) (ix (135 : Int32)) (sc 2))) 22 (upd (upd (upd (t5 22) (ix (134 : Int32)) (sc 0)) (ix (135 : Int32)) (sc 2)) (ix (136 : Int32)) (sc 6))) 22 (upd (upd (upd (upd (t5 22) (ix (134 : Int32)) (sc 0)) (ix (135 : Int32)) (sc 2)) (ix (136 : Int32)) (sc 6)) (ix (137 : Int32)) (sc 9))) 22 (upd (upd (upd (upd (upd (t5 22) (ix (134 : Int32)) (sc 0)) (ix (135 : Int32)) (sc 2)) (ix (136 : Int32)) (sc 6)) (ix (137 : Int32)) (sc 9)) (ix (138 : Int32)) (sc 14))) la)) (n := 150) (f := (upd (upd (upd (upd (upd (t5 22) (ix (134 : Int32)) (sc 0)) (ix (135 : Int32)) (sc 2)) (ix (136 : Int32)) (sc 6)) (ix (137 : Int32)) (sc 9)) (ix (138 : Int32)) (sc 14))) (ws' := (mC cy ad sc (va_up (va_up (va_up (va_up (va_up (va_up t5 22 (upd (t5 22) (ix (134 : Int32)) (sc 0))) 22 (upd (upd (t5 22) (ix (134 : Int32)) (sc 0)) (ix (135 : Int32)) (sc 2))) 22 (upd (upd (upd (t5 22) (ix (134 : Int32)) (sc 0)) (ix (135 : Int32)) (sc 2)) (ix (136 : Int32)) (sc 6))) 22 (upd (upd (upd (upd (t5 22) (ix (134 : Int32)) (sc 0)) (ix (135 : Int32)) (sc 2)) (ix (136 : Int32)) (sc 6)) (ix (137 : Int32)) (sc 9))) 22 (upd (upd (upd (upd (upd (t5 22) (ix (134 : Int32)) (sc 0)) (ix (135 : Int32)) (sc 2)) (ix (136 : Int32)) (sc 6)) (ix (137 : Int32)) (sc 9)) (ix (138 : Int32)) (sc 14))) 22 (upd (upd (upd (upd (upd (upd (t5 22) (ix (134 : Int32)) (sc 0)) (ix (135 : Int32)) (sc 2)) (ix (136 : Int32)) (sc 6)) (ix (137 : Int32)) (sc 9)) (ix (138 : Int32)) (sc 14)) (ix (139 : Int32)) (sc 15))) la)) C rfl 16 0 mC_get22 rfl hf dX7_keeps_274 mC_set22 (fun hf => ?_)
  obtain rfl := Option.some.inj hf
  exact tt_vreturn (pc := 275) C rfl rfl rfl dX7_keeps_275
theorem dX7_image_0 : decode cX7_image 0 = .ok (.aload_n 0, 1) := by decide +kernel
theorem dX7_image_1 : decode cX7_image 1 = .ok (.iconst 1, 1) := by decide +kernel
theorem dX7_image_2 : decode cX7_image 2 = .ok (.putfield 346, 3) := by decide +kernel
theorem dX7_image_5 : decode cX7_image 5 = .ok (.aload_n 0, 1) := by decide +kernel
theorem dX7_image_6 : decode cX7_image 6 = .ok (.aload_n 0, 1) := by decide +kernel
theorem dX7_image_7 : decode cX7_image 7 = .ok (.getfield 62, 3) := by decide +kernel
theorem dX7_image_10 : decode cX7_image 10 = .ok (.invokevirtual 221, 3) := by decide +kernel
theorem dX7_image_13 : decode cX7_image 13 = .ok (.aload_n 0, 1) := by decide +kernel
theorem dX7_image_14 : decode cX7_image 14 = .ok (.getfield 109, 3) := by decide +kernel
theorem dX7_image_17 : decode cX7_image 17 = .ok (.ireturn, 1) := by decide +kernel
set_option maxHeartbeats 4000000 in
set_option maxRecDepth 100000 in
theorem k_X7_image {l : Launch} {D : va_G} {cy : Nat → ClassId} {Bd : Nat} {xa : Xa} {ad : Nat → Nat} {N : Nat} {sc : Nat → Int32} {ar : Nat → Nat → Int32} {la : Nat → Nat → Int64} {out : Int32 × (Nat → Int32) × (Nat → Nat → Int32)} (hf : f_X7_image N sc ar = some out) : KC l yX7_image cX7_image 1 (some .int) 1 22 false D cy Bd xa [.ref (ad 0)] (mC cy ad sc ar la) (some (.int out.1)) (mC cy ad out.2.1 out.2.2 la) := by
  refine kc_start (own := RX7) (by decide +kernel) rfl (Nat.le_of_ble_eq_true rfl) ?_
  intro p e s m args below meth c A C
  unfold f_X7_image at hf
  refine tt_locs (L' := [(0, .ref (ad 0))]) [0] rfl ?_
  refine tt_aload_n (pc := 0) (k := 0) C dX7_image_0 rfl rfl ?_
  refine tt_iconst (pc := 1) (v := (1 : Int32)) C dX7_image_1 (by decide) ?_
  refine tt_put (pc := 2) (ws := (mC cy ad sc ar la)) (ci := 7) (ty := .boolean) (ws' := (mC cy ad (upd sc 24 (1 : Int32)) ar la)) C rfl fiX7 rfl 0 mC_obj 24 (by decide) q4_184 rfl rfl rfl rfl (Nat.le_of_ble_eq_true rfl) dX7_image_2 mC_put24 ?_
  refine tt_aload_n (pc := 5) (k := 0) C dX7_image_5 rfl rfl ?_
  refine tt_aload_n (pc := 6) (k := 0) C dX7_image_6 rfl rfl ?_
  refine tt_get (pc := 7) (ws := (mC cy ad (upd sc 24 (1 : Int32)) ar la)) (ci := 7) (v := .ref (ad 22)) C fiX7 rfl 0 mC_obj 22 (by decide) q4_182 rfl dX7_image_7 ?_
  obtain ⟨r1, hr1, hf⟩ := bind_some hf
  refine tt_callM (pc := 10) (ws := (mC cy ad (upd sc 24 (1 : Int32)) ar la)) (q0 := 0) (ci := 7) (rest := []) (st' := []) C rfl (k_X7_keeps_22 hr1) okX7_keeps q5_236 rfl mC_obj rfl rfl rfl (Nat.le_of_ble_eq_true rfl) ⟨Nat.le_of_ble_eq_true rfl, Nat.le_of_ble_eq_true rfl⟩ dX7_image_10 ?_
  refine tt_aload_n (pc := 13) (k := 0) C dX7_image_13 rfl rfl ?_
  refine tt_get (pc := 14) (ws := (mC cy ad (upd sc 24 (1 : Int32)) r1 la)) (ci := 7) (v := .int (sc 6)) C fiX7 rfl 0 mC_obj 6 (by decide) q4_166 rfl dX7_image_14 ?_
  obtain rfl := Option.some.inj hf
  exact tt_ireturn (pc := 17) C rfl rfl rfl dX7_image_17
set_option maxHeartbeats 4000000 in
set_option maxRecDepth 100000 in
theorem l_X7_again_22_2 {p : Program} {l : Launch} {e : Env} {s : State} {m : MethodId} {args : Array Value} {below : List Frame} {meth : Method} {c : Code} {D : va_G} {cy : Nat → ClassId} {A : Nat → Prop} {Bd : Nat} {xa : Xa} {ad : Nat → Nat} {β : Type} {vO : Option Value} {wO : va_W} {N : Nat} {sc : Nat → Int32} {la : Nat → Nat → Int64} {kx : (Nat → Nat → Int32) → Option (β)} {out : β} (C : CC p s m args meth c cX7_again RX7 3 none D cy A false Bd xa) (hk : ∀ (ar1 : Nat → Nat → Int32), kx ar1 = some out → TT p l e { frames := 0, cells := 0, slots := 0, locals := 0 } s m args below meth c 3 D A false vO wO 23 [(0, .ref (ad 0)), (1, .ref (ad 22))] [] (mC cy ad sc ar1 la)) {n : Nat} {v2 : Int32} {ar : Nat → Nat → Int32} (hf : f_X7_again_22_L2 N sc kx n v2 ar = some out) : TT p l e { frames := 0, cells := 0, slots := 0, locals := 0 } s m args below meth c 3 D A false vO wO 2 [(0, .ref (ad 0)), (1, .ref (ad 22)), (2, .int v2)] [] (mC cy ad sc ar la) := by
  induction n generalizing v2 ar with
  | zero => cases hf
  | succ n ih =>
    rw [f_X7_again_22_L2] at hf
    refine tt_iload_n (pc := 2) (k := 2) C dX7_again_2 rfl rfl ?_
    refine tt_bipush (pc := 3) (v := (24 : Int32)) C dX7_again_3 (by decide) ?_
    refine tt_icmp_ge (pc := 5) (tgt := 23) C dX7_again_5 (by decide) hf (fun hf => ?_) (fun hf => ?_)
    · exact tt_locs [0, 1] rfl (hk _ hf)
    · refine tt_aload_n (pc := 8) (k := 0) C dX7_again_8 rfl rfl ?_
      refine tt_get (pc := 9) (ws := (mC cy ad sc ar la)) (ci := 7) (v := .ref (ad 1)) C fiX7 rfl 0 mC_obj 1 (by decide) q4_161 rfl dX7_again_9 ?_
      refine tt_iload_n (pc := 12) (k := 2) C dX7_again_12 rfl rfl ?_
      refine tt_aload_n (pc := 13) (k := 1) C dX7_again_13 rfl rfl ?_
      refine tt_iload_n (pc := 14) (k := 2) C dX7_again_14 rfl rfl ?_
      refine tt_iaload (pc := 15) (ws := (mC cy ad sc ar la)) (n := 150) (f := (ar 22)) C 16 0 mC_get22 rfl hf dX7_again_15 (fun hf => ?_)
      refine tt_iastore (pc := 16) (ws := (mC cy ad sc ar la)) (n := 24) (f := (ar 1)) (ws' := (mC cy ad sc (va_up ar 1 (upd (ar 1) (ix v2) ((ar 22) (ix v2)))) la)) C rfl 1 0 mC_get1 rfl hf dX7_again_16 mC_set1 (fun hf => ?_)
      refine tt_iinc (pc := 17) (k := 2) (v := (v2 + 1)) (L' := [(2, .int (v2 + 1)), (0, .ref (ad 0)), (1, .ref (ad 22))]) C dX7_again_17 rfl rfl (by decide) rfl ?_
      refine tt_goto (pc := 20) (tgt := 2) C dX7_again_20 (by decide) ?_
      exact tt_locs [1, 2, 0] rfl (ih hf)
set_option maxHeartbeats 4000000 in
set_option maxRecDepth 100000 in
theorem l_X7_again_22_25 {p : Program} {l : Launch} {e : Env} {s : State} {m : MethodId} {args : Array Value} {below : List Frame} {meth : Method} {c : Code} {D : va_G} {cy : Nat → ClassId} {A : Nat → Prop} {Bd : Nat} {xa : Xa} {ad : Nat → Nat} {β : Type} {vO : Option Value} {wO : va_W} {N : Nat} {sc : Nat → Int32} {la : Nat → Nat → Int64} {kx : (Nat → Nat → Int32) → Option (β)} {out : β} (C : CC p s m args meth c cX7_again RX7 3 none D cy A false Bd xa) (hk : ∀ (ar1 : Nat → Nat → Int32), kx ar1 = some out → TT p l e { frames := 0, cells := 0, slots := 0, locals := 0 } s m args below meth c 3 D A false vO wO 120 [(0, .ref (ad 0)), (1, .ref (ad 22))] [] (mC cy ad sc ar1 la)) {n : Nat} {v2 : Int32} {ar : Nat → Nat → Int32} (hf : f_X7_again_22_L25 N sc kx n v2 ar = some out) : TT p l e { frames := 0, cells := 0, slots := 0, locals := 0 } s m args below meth c 3 D A false vO wO 25 [(0, .ref (ad 0)), (1, .ref (ad 22)), (2, .int v2)] [] (mC cy ad sc ar la) := by
  induction n generalizing v2 ar with
  | zero => cases hf
  | succ n ih =>
    rw [f_X7_again_22_L25] at hf
    refine tt_iload_n (pc := 25) (k := 2) C dX7_again_25 rfl rfl ?_
    refine tt_iconst (pc := 26) (v := (4 : Int32)) C dX7_again_26 (by decide) ?_
    refine tt_icmp_ge (pc := 27) (tgt := 120) C dX7_again_27 (by decide) hf (fun hf => ?_) (fun hf => ?_)
    · exact tt_locs [0, 1] rfl (hk _ hf)
    · refine tt_aload_n (pc := 30) (k := 0) C dX7_again_30 rfl rfl ?_
      refine tt_get (pc := 31) (ws := (mC cy ad sc ar la)) (ci := 7) (v := .ref (ad 3)) C fiX7 rfl 0 mC_obj 3 (by decide) q4_163 rfl dX7_again_31 ?_
      refine tt_iload_n (pc := 34) (k := 2) C dX7_again_34 rfl rfl ?_
      refine tt_aload_n (pc := 35) (k := 1) C dX7_again_35 rfl rfl ?_
      refine tt_bipush (pc := 36) (v := (24 : Int32)) C dX7_again_36 (by decide) ?_
      refine tt_iload_n (pc := 38) (k := 2) C dX7_again_38 rfl rfl ?_
      refine tt_iadd (pc := 39) C dX7_again_39 ?_
      refine tt_iaload (pc := 40) (ws := (mC cy ad sc ar la)) (n := 150) (f := (ar 22)) C 16 0 mC_get22 rfl hf dX7_again_40 (fun hf => ?_)
      refine tt_iastore (pc := 41) (ws := (mC cy ad sc ar la)) (n := 4) (f := (ar 3)) (ws' := (mC cy ad sc (va_up ar 3 (upd (ar 3) (ix v2) ((ar 22) (ix ((24 : Int32) + v2))))) la)) C rfl 2 0 mC_get3 rfl hf dX7_again_41 mC_set3 (fun hf => ?_)
      refine tt_aload_n (pc := 42) (k := 0) C dX7_again_42 rfl rfl ?_
      refine tt_get (pc := 43) (ws := (mC cy ad sc (va_up ar 3 (upd (ar 3) (ix v2) ((ar 22) (ix ((24 : Int32) + v2))))) la)) (ci := 7) (v := .ref (ad 4)) C fiX7 rfl 0 mC_obj 4 (by decide) q4_164 rfl dX7_again_43 ?_
      refine tt_iload_n (pc := 46) (k := 2) C dX7_again_46 rfl rfl ?_
      refine tt_aload_n (pc := 47) (k := 1) C dX7_again_47 rfl rfl ?_
      refine tt_bipush (pc := 48) (v := (28 : Int32)) C dX7_again_48 (by decide) ?_
      refine tt_iload_n (pc := 50) (k := 2) C dX7_again_50 rfl rfl ?_
      refine tt_iadd (pc := 51) C dX7_again_51 ?_
      refine tt_iaload (pc := 52) (ws := (mC cy ad sc (va_up ar 3 (upd (ar 3) (ix v2) ((ar 22) (ix ((24 : Int32) + v2))))) la)) (n := 150) (f := (ar 22)) C 16 0 mC_get22 rfl hf dX7_again_52 (fun hf => ?_)
      refine tt_iastore (pc := 53) (ws := (mC cy ad sc (va_up ar 3 (upd (ar 3) (ix v2) ((ar 22) (ix ((24 : Int32) + v2))))) la)) (n := 4) (f := (ar 4)) (ws' := (mC cy ad sc (va_up (va_up ar 3 (upd (ar 3) (ix v2) ((ar 22) (ix ((24 : Int32) + v2))))) 4 (upd (ar 4) (ix v2) ((ar 22) (ix ((28 : Int32) + v2))))) la)) C rfl 3 0 mC_get4 rfl hf dX7_again_53 mC_set4 (fun hf => ?_)
      refine tt_aload_n (pc := 54) (k := 0) C dX7_again_54 rfl rfl ?_
      refine tt_get (pc := 55) (ws := (mC cy ad sc (va_up (va_up ar 3 (upd (ar 3) (ix v2) ((ar 22) (ix ((24 : Int32) + v2))))) 4 (upd (ar 4) (ix v2) ((ar 22) (ix ((28 : Int32) + v2))))) la)) (ci := 7) (v := .ref (ad 5)) C fiX7 rfl 0 mC_obj 5 (by decide) q4_165 rfl dX7_again_55 ?_
      refine tt_iload_n (pc := 58) (k := 2) C dX7_again_58 rfl rfl ?_
      refine tt_aload_n (pc := 59) (k := 1) C dX7_again_59 rfl rfl ?_
      refine tt_bipush (pc := 60) (v := (32 : Int32)) C dX7_again_60 (by decide) ?_
      refine tt_iload_n (pc := 62) (k := 2) C dX7_again_62 rfl rfl ?_
      refine tt_iadd (pc := 63) C dX7_again_63 ?_
      refine tt_iaload (pc := 64) (ws := (mC cy ad sc (va_up (va_up ar 3 (upd (ar 3) (ix v2) ((ar 22) (ix ((24 : Int32) + v2))))) 4 (upd (ar 4) (ix v2) ((ar 22) (ix ((28 : Int32) + v2))))) la)) (n := 150) (f := (ar 22)) C 16 0 mC_get22 rfl hf dX7_again_64 (fun hf => ?_)
      refine tt_iastore (pc := 65) (ws := (mC cy ad sc (va_up (va_up ar 3 (upd (ar 3) (ix v2) ((ar 22) (ix ((24 : Int32) + v2))))) 4 (upd (ar 4) (ix v2) ((ar 22) (ix ((28 : Int32) + v2))))) la)) (n := 4) (f := (ar 5)) (ws' := (mC cy ad sc (va_up (va_up (va_up ar 3 (upd (ar 3) (ix v2) ((ar 22) (ix ((24 : Int32) + v2))))) 4 (upd (ar 4) (ix v2) ((ar 22) (ix ((28 : Int32) + v2))))) 5 (upd (ar 5) (ix v2) ((ar 22) (ix ((32 : Int32) + v2))))) la)) C rfl 4 0 mC_get5 rfl hf dX7_again_65 mC_set5 (fun hf => ?_)
      refine tt_aload_n (pc := 66) (k := 0) C dX7_again_66 rfl rfl ?_
      refine tt_get (pc := 67) (ws := (mC cy ad sc (va_up (va_up (va_up ar 3 (upd (ar 3) (ix v2) ((ar 22) (ix ((24 : Int32) + v2))))) 4 (upd (ar 4) (ix v2) ((ar 22) (ix ((28 : Int32) + v2))))) 5 (upd (ar 5) (ix v2) ((ar 22) (ix ((32 : Int32) + v2))))) la)) (ci := 7) (v := .ref (ad 10)) C fiX7 rfl 0 mC_obj 10 (by decide) q4_170 rfl dX7_again_67 ?_
      refine tt_iload_n (pc := 70) (k := 2) C dX7_again_70 rfl rfl ?_
      refine tt_aload_n (pc := 71) (k := 1) C dX7_again_71 rfl rfl ?_
      refine tt_bipush (pc := 72) (v := (36 : Int32)) C dX7_again_72 (by decide) ?_
      refine tt_iload_n (pc := 74) (k := 2) C dX7_again_74 rfl rfl ?_
      refine tt_iadd (pc := 75) C dX7_again_75 ?_
      refine tt_iaload (pc := 76) (ws := (mC cy ad sc (va_up (va_up (va_up ar 3 (upd (ar 3) (ix v2) ((ar 22) (ix ((24 : Int32) + v2))))) 4 (upd (ar 4) (ix v2) ((ar 22) (ix ((28 : Int32) + v2))))) 5 (upd (ar 5) (ix v2) ((ar 22) (ix ((32 : Int32) + v2))))) la)) (n := 150) (f := (ar 22)) C 16 0 mC_get22 rfl hf dX7_again_76 (fun hf => ?_)
      refine tt_iastore (pc := 77) (ws := (mC cy ad sc (va_up (va_up (va_up ar 3 (upd (ar 3) (ix v2) ((ar 22) (ix ((24 : Int32) + v2))))) 4 (upd (ar 4) (ix v2) ((ar 22) (ix ((28 : Int32) + v2))))) 5 (upd (ar 5) (ix v2) ((ar 22) (ix ((32 : Int32) + v2))))) la)) (n := 4) (f := (ar 10)) (ws' := (mC cy ad sc (va_up (va_up (va_up (va_up ar 3 (upd (ar 3) (ix v2) ((ar 22) (ix ((24 : Int32) + v2))))) 4 (upd (ar 4) (ix v2) ((ar 22) (ix ((28 : Int32) + v2))))) 5 (upd (ar 5) (ix v2) ((ar 22) (ix ((32 : Int32) + v2))))) 10 (upd (ar 10) (ix v2) ((ar 22) (ix ((36 : Int32) + v2))))) la)) C rfl 7 0 mC_get10 rfl hf dX7_again_77 mC_set10 (fun hf => ?_)
      refine tt_aload_n (pc := 78) (k := 0) C dX7_again_78 rfl rfl ?_
      refine tt_get (pc := 79) (ws := (mC cy ad sc (va_up (va_up (va_up (va_up ar 3 (upd (ar 3) (ix v2) ((ar 22) (ix ((24 : Int32) + v2))))) 4 (upd (ar 4) (ix v2) ((ar 22) (ix ((28 : Int32) + v2))))) 5 (upd (ar 5) (ix v2) ((ar 22) (ix ((32 : Int32) + v2))))) 10 (upd (ar 10) (ix v2) ((ar 22) (ix ((36 : Int32) + v2))))) la)) (ci := 7) (v := .ref (ad 11)) C fiX7 rfl 0 mC_obj 11 (by decide) q4_171 rfl dX7_again_79 ?_
      refine tt_iload_n (pc := 82) (k := 2) C dX7_again_82 rfl rfl ?_
      refine tt_aload_n (pc := 83) (k := 1) C dX7_again_83 rfl rfl ?_
      refine tt_bipush (pc := 84) (v := (40 : Int32)) C dX7_again_84 (by decide) ?_
      refine tt_iload_n (pc := 86) (k := 2) C dX7_again_86 rfl rfl ?_
      refine tt_iadd (pc := 87) C dX7_again_87 ?_
      refine tt_iaload (pc := 88) (ws := (mC cy ad sc (va_up (va_up (va_up (va_up ar 3 (upd (ar 3) (ix v2) ((ar 22) (ix ((24 : Int32) + v2))))) 4 (upd (ar 4) (ix v2) ((ar 22) (ix ((28 : Int32) + v2))))) 5 (upd (ar 5) (ix v2) ((ar 22) (ix ((32 : Int32) + v2))))) 10 (upd (ar 10) (ix v2) ((ar 22) (ix ((36 : Int32) + v2))))) la)) (n := 150) (f := (ar 22)) C 16 0 mC_get22 rfl hf dX7_again_88 (fun hf => ?_)
      refine tt_iastore (pc := 89) (ws := (mC cy ad sc (va_up (va_up (va_up (va_up ar 3 (upd (ar 3) (ix v2) ((ar 22) (ix ((24 : Int32) + v2))))) 4 (upd (ar 4) (ix v2) ((ar 22) (ix ((28 : Int32) + v2))))) 5 (upd (ar 5) (ix v2) ((ar 22) (ix ((32 : Int32) + v2))))) 10 (upd (ar 10) (ix v2) ((ar 22) (ix ((36 : Int32) + v2))))) la)) (n := 4) (f := (ar 11)) (ws' := (mC cy ad sc (va_up (va_up (va_up (va_up (va_up ar 3 (upd (ar 3) (ix v2) ((ar 22) (ix ((24 : Int32) + v2))))) 4 (upd (ar 4) (ix v2) ((ar 22) (ix ((28 : Int32) + v2))))) 5 (upd (ar 5) (ix v2) ((ar 22) (ix ((32 : Int32) + v2))))) 10 (upd (ar 10) (ix v2) ((ar 22) (ix ((36 : Int32) + v2))))) 11 (upd (ar 11) (ix v2) ((ar 22) (ix ((40 : Int32) + v2))))) la)) C rfl 8 0 mC_get11 rfl hf dX7_again_89 mC_set11 (fun hf => ?_)
      refine tt_aload_n (pc := 90) (k := 0) C dX7_again_90 rfl rfl ?_
      refine tt_get (pc := 91) (ws := (mC cy ad sc (va_up (va_up (va_up (va_up (va_up ar 3 (upd (ar 3) (ix v2) ((ar 22) (ix ((24 : Int32) + v2))))) 4 (upd (ar 4) (ix v2) ((ar 22) (ix ((28 : Int32) + v2))))) 5 (upd (ar 5) (ix v2) ((ar 22) (ix ((32 : Int32) + v2))))) 10 (upd (ar 10) (ix v2) ((ar 22) (ix ((36 : Int32) + v2))))) 11 (upd (ar 11) (ix v2) ((ar 22) (ix ((40 : Int32) + v2))))) la)) (ci := 7) (v := .ref (ad 12)) C fiX7 rfl 0 mC_obj 12 (by decide) q4_172 rfl dX7_again_91 ?_
      refine tt_iload_n (pc := 94) (k := 2) C dX7_again_94 rfl rfl ?_
      refine tt_aload_n (pc := 95) (k := 1) C dX7_again_95 rfl rfl ?_
      refine tt_bipush (pc := 96) (v := (44 : Int32)) C dX7_again_96 (by decide) ?_
      refine tt_iload_n (pc := 98) (k := 2) C dX7_again_98 rfl rfl ?_
      refine tt_iadd (pc := 99) C dX7_again_99 ?_
      refine tt_iaload (pc := 100) (ws := (mC cy ad sc (va_up (va_up (va_up (va_up (va_up ar 3 (upd (ar 3) (ix v2) ((ar 22) (ix ((24 : Int32) + v2))))) 4 (upd (ar 4) (ix v2) ((ar 22) (ix ((28 : Int32) + v2))))) 5 (upd (ar 5) (ix v2) ((ar 22) (ix ((32 : Int32) + v2))))) 10 (upd (ar 10) (ix v2) ((ar 22) (ix ((36 : Int32) + v2))))) 11 (upd (ar 11) (ix v2) ((ar 22) (ix ((40 : Int32) + v2))))) la)) (n := 150) (f := (ar 22)) C 16 0 mC_get22 rfl hf dX7_again_100 (fun hf => ?_)
      refine tt_iastore (pc := 101) (ws := (mC cy ad sc (va_up (va_up (va_up (va_up (va_up ar 3 (upd (ar 3) (ix v2) ((ar 22) (ix ((24 : Int32) + v2))))) 4 (upd (ar 4) (ix v2) ((ar 22) (ix ((28 : Int32) + v2))))) 5 (upd (ar 5) (ix v2) ((ar 22) (ix ((32 : Int32) + v2))))) 10 (upd (ar 10) (ix v2) ((ar 22) (ix ((36 : Int32) + v2))))) 11 (upd (ar 11) (ix v2) ((ar 22) (ix ((40 : Int32) + v2))))) la)) (n := 4) (f := (ar 12)) (ws' := (mC cy ad sc (va_up (va_up (va_up (va_up (va_up (va_up ar 3 (upd (ar 3) (ix v2) ((ar 22) (ix ((24 : Int32) + v2))))) 4 (upd (ar 4) (ix v2) ((ar 22) (ix ((28 : Int32) + v2))))) 5 (upd (ar 5) (ix v2) ((ar 22) (ix ((32 : Int32) + v2))))) 10 (upd (ar 10) (ix v2) ((ar 22) (ix ((36 : Int32) + v2))))) 11 (upd (ar 11) (ix v2) ((ar 22) (ix ((40 : Int32) + v2))))) 12 (upd (ar 12) (ix v2) ((ar 22) (ix ((44 : Int32) + v2))))) la)) C rfl 9 0 mC_get12 rfl hf dX7_again_101 mC_set12 (fun hf => ?_)
      refine tt_aload_n (pc := 102) (k := 0) C dX7_again_102 rfl rfl ?_
      refine tt_get (pc := 103) (ws := (mC cy ad sc (va_up (va_up (va_up (va_up (va_up (va_up ar 3 (upd (ar 3) (ix v2) ((ar 22) (ix ((24 : Int32) + v2))))) 4 (upd (ar 4) (ix v2) ((ar 22) (ix ((28 : Int32) + v2))))) 5 (upd (ar 5) (ix v2) ((ar 22) (ix ((32 : Int32) + v2))))) 10 (upd (ar 10) (ix v2) ((ar 22) (ix ((36 : Int32) + v2))))) 11 (upd (ar 11) (ix v2) ((ar 22) (ix ((40 : Int32) + v2))))) 12 (upd (ar 12) (ix v2) ((ar 22) (ix ((44 : Int32) + v2))))) la)) (ci := 7) (v := .ref (ad 13)) C fiX7 rfl 0 mC_obj 13 (by decide) q4_173 rfl dX7_again_103 ?_
      refine tt_iload_n (pc := 106) (k := 2) C dX7_again_106 rfl rfl ?_
      refine tt_aload_n (pc := 107) (k := 1) C dX7_again_107 rfl rfl ?_
      refine tt_bipush (pc := 108) (v := (48 : Int32)) C dX7_again_108 (by decide) ?_
      refine tt_iload_n (pc := 110) (k := 2) C dX7_again_110 rfl rfl ?_
      refine tt_iadd (pc := 111) C dX7_again_111 ?_
      refine tt_iaload (pc := 112) (ws := (mC cy ad sc (va_up (va_up (va_up (va_up (va_up (va_up ar 3 (upd (ar 3) (ix v2) ((ar 22) (ix ((24 : Int32) + v2))))) 4 (upd (ar 4) (ix v2) ((ar 22) (ix ((28 : Int32) + v2))))) 5 (upd (ar 5) (ix v2) ((ar 22) (ix ((32 : Int32) + v2))))) 10 (upd (ar 10) (ix v2) ((ar 22) (ix ((36 : Int32) + v2))))) 11 (upd (ar 11) (ix v2) ((ar 22) (ix ((40 : Int32) + v2))))) 12 (upd (ar 12) (ix v2) ((ar 22) (ix ((44 : Int32) + v2))))) la)) (n := 150) (f := (ar 22)) C 16 0 mC_get22 rfl hf dX7_again_112 (fun hf => ?_)
      refine tt_iastore (pc := 113) (ws := (mC cy ad sc (va_up (va_up (va_up (va_up (va_up (va_up ar 3 (upd (ar 3) (ix v2) ((ar 22) (ix ((24 : Int32) + v2))))) 4 (upd (ar 4) (ix v2) ((ar 22) (ix ((28 : Int32) + v2))))) 5 (upd (ar 5) (ix v2) ((ar 22) (ix ((32 : Int32) + v2))))) 10 (upd (ar 10) (ix v2) ((ar 22) (ix ((36 : Int32) + v2))))) 11 (upd (ar 11) (ix v2) ((ar 22) (ix ((40 : Int32) + v2))))) 12 (upd (ar 12) (ix v2) ((ar 22) (ix ((44 : Int32) + v2))))) la)) (n := 4) (f := (ar 13)) (ws' := (mC cy ad sc (va_up (va_up (va_up (va_up (va_up (va_up (va_up ar 3 (upd (ar 3) (ix v2) ((ar 22) (ix ((24 : Int32) + v2))))) 4 (upd (ar 4) (ix v2) ((ar 22) (ix ((28 : Int32) + v2))))) 5 (upd (ar 5) (ix v2) ((ar 22) (ix ((32 : Int32) + v2))))) 10 (upd (ar 10) (ix v2) ((ar 22) (ix ((36 : Int32) + v2))))) 11 (upd (ar 11) (ix v2) ((ar 22) (ix ((40 : Int32) + v2))))) 12 (upd (ar 12) (ix v2) ((ar 22) (ix ((44 : Int32) + v2))))) 13 (upd (ar 13) (ix v2) ((ar 22) (ix ((48 : Int32) + v2))))) la)) C rfl 10 0 mC_get13 rfl hf dX7_again_113 mC_set13 (fun hf => ?_)
      refine tt_iinc (pc := 114) (k := 2) (v := (v2 + 1)) (L' := [(2, .int (v2 + 1)), (0, .ref (ad 0)), (1, .ref (ad 22))]) C dX7_again_114 rfl rfl (by decide) rfl ?_
      refine tt_goto (pc := 117) (tgt := 25) C dX7_again_117 (by decide) ?_
      exact tt_locs [1, 2, 0] rfl (ih hf)
set_option maxHeartbeats 4000000 in
set_option maxRecDepth 100000 in
theorem l_X7_again_22_122 {p : Program} {l : Launch} {e : Env} {s : State} {m : MethodId} {args : Array Value} {below : List Frame} {meth : Method} {c : Code} {D : va_G} {cy : Nat → ClassId} {A : Nat → Prop} {Bd : Nat} {xa : Xa} {ad : Nat → Nat} {β : Type} {vO : Option Value} {wO : va_W} {N : Nat} {sc : Nat → Int32} {la : Nat → Nat → Int64} {kx : (Nat → Nat → Int32) → Option (β)} {out : β} (C : CC p s m args meth c cX7_again RX7 3 none D cy A false Bd xa) (hk : ∀ (ar1 : Nat → Nat → Int32), kx ar1 = some out → TT p l e { frames := 0, cells := 0, slots := 0, locals := 0 } s m args below meth c 3 D A false vO wO 157 [(0, .ref (ad 0)), (1, .ref (ad 22))] [] (mC cy ad sc ar1 la)) {n : Nat} {v2 : Int32} {ar : Nat → Nat → Int32} (hf : f_X7_again_22_L122 N sc kx n v2 ar = some out) : TT p l e { frames := 0, cells := 0, slots := 0, locals := 0 } s m args below meth c 3 D A false vO wO 122 [(0, .ref (ad 0)), (1, .ref (ad 22)), (2, .int v2)] [] (mC cy ad sc ar la) := by
  induction n generalizing v2 ar with
  | zero => cases hf
  | succ n ih =>
    rw [f_X7_again_22_L122] at hf
    refine tt_iload_n (pc := 122) (k := 2) C dX7_again_122 rfl rfl ?_
    refine tt_iconst (pc := 123) (v := (5 : Int32)) C dX7_again_123 (by decide) ?_
    refine tt_icmp_ge (pc := 124) (tgt := 157) C dX7_again_124 (by decide) hf (fun hf => ?_) (fun hf => ?_)
    · exact tt_locs [0, 1] rfl (hk _ hf)
    · refine tt_aload_n (pc := 127) (k := 0) C dX7_again_127 rfl rfl ?_
      refine tt_get (pc := 128) (ws := (mC cy ad sc ar la)) (ci := 7) (v := .ref (ad 7)) C fiX7 rfl 0 mC_obj 7 (by decide) q4_167 rfl dX7_again_128 ?_
      refine tt_iload_n (pc := 131) (k := 2) C dX7_again_131 rfl rfl ?_
      refine tt_aload_n (pc := 132) (k := 1) C dX7_again_132 rfl rfl ?_
      refine tt_bipush (pc := 133) (v := (52 : Int32)) C dX7_again_133 (by decide) ?_
      refine tt_iload_n (pc := 135) (k := 2) C dX7_again_135 rfl rfl ?_
      refine tt_iadd (pc := 136) C dX7_again_136 ?_
      refine tt_iaload (pc := 137) (ws := (mC cy ad sc ar la)) (n := 150) (f := (ar 22)) C 16 0 mC_get22 rfl hf dX7_again_137 (fun hf => ?_)
      refine tt_iastore (pc := 138) (ws := (mC cy ad sc ar la)) (n := 5) (f := (ar 7)) (ws' := (mC cy ad sc (va_up ar 7 (upd (ar 7) (ix v2) ((ar 22) (ix ((52 : Int32) + v2))))) la)) C rfl 5 0 mC_get7 rfl hf dX7_again_138 mC_set7 (fun hf => ?_)
      refine tt_aload_n (pc := 139) (k := 0) C dX7_again_139 rfl rfl ?_
      refine tt_get (pc := 140) (ws := (mC cy ad sc (va_up ar 7 (upd (ar 7) (ix v2) ((ar 22) (ix ((52 : Int32) + v2))))) la)) (ci := 7) (v := .ref (ad 8)) C fiX7 rfl 0 mC_obj 8 (by decide) q4_168 rfl dX7_again_140 ?_
      refine tt_iload_n (pc := 143) (k := 2) C dX7_again_143 rfl rfl ?_
      refine tt_aload_n (pc := 144) (k := 1) C dX7_again_144 rfl rfl ?_
      refine tt_bipush (pc := 145) (v := (57 : Int32)) C dX7_again_145 (by decide) ?_
      refine tt_iload_n (pc := 147) (k := 2) C dX7_again_147 rfl rfl ?_
      refine tt_iadd (pc := 148) C dX7_again_148 ?_
      refine tt_iaload (pc := 149) (ws := (mC cy ad sc (va_up ar 7 (upd (ar 7) (ix v2) ((ar 22) (ix ((52 : Int32) + v2))))) la)) (n := 150) (f := (ar 22)) C 16 0 mC_get22 rfl hf dX7_again_149 (fun hf => ?_)
      refine tt_iastore (pc := 150) (ws := (mC cy ad sc (va_up ar 7 (upd (ar 7) (ix v2) ((ar 22) (ix ((52 : Int32) + v2))))) la)) (n := 5) (f := (ar 8)) (ws' := (mC cy ad sc (va_up (va_up ar 7 (upd (ar 7) (ix v2) ((ar 22) (ix ((52 : Int32) + v2))))) 8 (upd (ar 8) (ix v2) ((ar 22) (ix ((57 : Int32) + v2))))) la)) C rfl 6 0 mC_get8 rfl hf dX7_again_150 mC_set8 (fun hf => ?_)
      refine tt_iinc (pc := 151) (k := 2) (v := (v2 + 1)) (L' := [(2, .int (v2 + 1)), (0, .ref (ad 0)), (1, .ref (ad 22))]) C dX7_again_151 rfl rfl (by decide) rfl ?_
      refine tt_goto (pc := 154) (tgt := 122) C dX7_again_154 (by decide) ?_
      exact tt_locs [1, 2, 0] rfl (ih hf)
set_option maxHeartbeats 4000000 in
set_option maxRecDepth 100000 in
theorem l_X7_again_22_159 {p : Program} {l : Launch} {e : Env} {s : State} {m : MethodId} {args : Array Value} {below : List Frame} {meth : Method} {c : Code} {D : va_G} {cy : Nat → ClassId} {A : Nat → Prop} {Bd : Nat} {xa : Xa} {ad : Nat → Nat} {β : Type} {vO : Option Value} {wO : va_W} {N : Nat} {sc : Nat → Int32} {la : Nat → Nat → Int64} {kx : (Nat → Nat → Int32) → Option (β)} {out : β} (C : CC p s m args meth c cX7_again RX7 3 none D cy A false Bd xa) (hk : ∀ (ar1 : Nat → Nat → Int32), kx ar1 = some out → TT p l e { frames := 0, cells := 0, slots := 0, locals := 0 } s m args below meth c 3 D A false vO wO 183 [(0, .ref (ad 0)), (1, .ref (ad 22))] [] (mC cy ad sc ar1 la)) {n : Nat} {v2 : Int32} {ar : Nat → Nat → Int32} (hf : f_X7_again_22_L159 N sc kx n v2 ar = some out) : TT p l e { frames := 0, cells := 0, slots := 0, locals := 0 } s m args below meth c 3 D A false vO wO 159 [(0, .ref (ad 0)), (1, .ref (ad 22)), (2, .int v2)] [] (mC cy ad sc ar la) := by
  induction n generalizing v2 ar with
  | zero => cases hf
  | succ n ih =>
    rw [f_X7_again_22_L159] at hf
    refine tt_iload_n (pc := 159) (k := 2) C dX7_again_159 rfl rfl ?_
    refine tt_bipush (pc := 160) (v := (56 : Int32)) C dX7_again_160 (by decide) ?_
    refine tt_icmp_ge (pc := 162) (tgt := 183) C dX7_again_162 (by decide) hf (fun hf => ?_) (fun hf => ?_)
    · exact tt_locs [0, 1] rfl (hk _ hf)
    · refine tt_aload_n (pc := 165) (k := 0) C dX7_again_165 rfl rfl ?_
      refine tt_get (pc := 166) (ws := (mC cy ad sc ar la)) (ci := 7) (v := .ref (ad 16)) C fiX7 rfl 0 mC_obj 16 (by decide) q4_176 rfl dX7_again_166 ?_
      refine tt_iload_n (pc := 169) (k := 2) C dX7_again_169 rfl rfl ?_
      refine tt_aload_n (pc := 170) (k := 1) C dX7_again_170 rfl rfl ?_
      refine tt_bipush (pc := 171) (v := (62 : Int32)) C dX7_again_171 (by decide) ?_
      refine tt_iload_n (pc := 173) (k := 2) C dX7_again_173 rfl rfl ?_
      refine tt_iadd (pc := 174) C dX7_again_174 ?_
      refine tt_iaload (pc := 175) (ws := (mC cy ad sc ar la)) (n := 150) (f := (ar 22)) C 16 0 mC_get22 rfl hf dX7_again_175 (fun hf => ?_)
      refine tt_iastore (pc := 176) (ws := (mC cy ad sc ar la)) (n := 56) (f := (ar 16)) (ws' := (mC cy ad sc (va_up ar 16 (upd (ar 16) (ix v2) ((ar 22) (ix ((62 : Int32) + v2))))) la)) C rfl 11 0 mC_get16 rfl hf dX7_again_176 mC_set16 (fun hf => ?_)
      refine tt_iinc (pc := 177) (k := 2) (v := (v2 + 1)) (L' := [(2, .int (v2 + 1)), (0, .ref (ad 0)), (1, .ref (ad 22))]) C dX7_again_177 rfl rfl (by decide) rfl ?_
      refine tt_goto (pc := 180) (tgt := 159) C dX7_again_180 (by decide) ?_
      exact tt_locs [1, 2, 0] rfl (ih hf)
set_option maxHeartbeats 4000000 in
set_option maxRecDepth 100000 in
theorem l_X7_again_22_185 {p : Program} {l : Launch} {e : Env} {s : State} {m : MethodId} {args : Array Value} {below : List Frame} {meth : Method} {c : Code} {D : va_G} {cy : Nat → ClassId} {A : Nat → Prop} {Bd : Nat} {xa : Xa} {ad : Nat → Nat} {β : Type} {vO : Option Value} {wO : va_W} {N : Nat} {sc : Nat → Int32} {la : Nat → Nat → Int64} {kx : (Nat → Nat → Int32) → Option (β)} {out : β} (C : CC p s m args meth c cX7_again RX7 3 none D cy A false Bd xa) (hk : ∀ (ar1 : Nat → Nat → Int32), kx ar1 = some out → TT p l e { frames := 0, cells := 0, slots := 0, locals := 0 } s m args below meth c 3 D A false vO wO 221 [(0, .ref (ad 0)), (1, .ref (ad 22))] [] (mC cy ad sc ar1 la)) {n : Nat} {v2 : Int32} {ar : Nat → Nat → Int32} (hf : f_X7_again_22_L185 N sc kx n v2 ar = some out) : TT p l e { frames := 0, cells := 0, slots := 0, locals := 0 } s m args below meth c 3 D A false vO wO 185 [(0, .ref (ad 0)), (1, .ref (ad 22)), (2, .int v2)] [] (mC cy ad sc ar la) := by
  induction n generalizing v2 ar with
  | zero => cases hf
  | succ n ih =>
    rw [f_X7_again_22_L185] at hf
    refine tt_iload_n (pc := 185) (k := 2) C dX7_again_185 rfl rfl ?_
    refine tt_bipush (pc := 186) (v := (8 : Int32)) C dX7_again_186 (by decide) ?_
    refine tt_icmp_ge (pc := 188) (tgt := 221) C dX7_again_188 (by decide) hf (fun hf => ?_) (fun hf => ?_)
    · exact tt_locs [0, 1] rfl (hk _ hf)
    · refine tt_aload_n (pc := 191) (k := 0) C dX7_again_191 rfl rfl ?_
      refine tt_get (pc := 192) (ws := (mC cy ad sc ar la)) (ci := 7) (v := .ref (ad 17)) C fiX7 rfl 0 mC_obj 17 (by decide) q4_177 rfl dX7_again_192 ?_
      refine tt_iload_n (pc := 195) (k := 2) C dX7_again_195 rfl rfl ?_
      refine tt_aload_n (pc := 196) (k := 1) C dX7_again_196 rfl rfl ?_
      refine tt_bipush (pc := 197) (v := (118 : Int32)) C dX7_again_197 (by decide) ?_
      refine tt_iload_n (pc := 199) (k := 2) C dX7_again_199 rfl rfl ?_
      refine tt_iadd (pc := 200) C dX7_again_200 ?_
      refine tt_iaload (pc := 201) (ws := (mC cy ad sc ar la)) (n := 150) (f := (ar 22)) C 16 0 mC_get22 rfl hf dX7_again_201 (fun hf => ?_)
      refine tt_iastore (pc := 202) (ws := (mC cy ad sc ar la)) (n := 8) (f := (ar 17)) (ws' := (mC cy ad sc (va_up ar 17 (upd (ar 17) (ix v2) ((ar 22) (ix ((118 : Int32) + v2))))) la)) C rfl 12 0 mC_get17 rfl hf dX7_again_202 mC_set17 (fun hf => ?_)
      refine tt_aload_n (pc := 203) (k := 0) C dX7_again_203 rfl rfl ?_
      refine tt_get (pc := 204) (ws := (mC cy ad sc (va_up ar 17 (upd (ar 17) (ix v2) ((ar 22) (ix ((118 : Int32) + v2))))) la)) (ci := 7) (v := .ref (ad 18)) C fiX7 rfl 0 mC_obj 18 (by decide) q4_178 rfl dX7_again_204 ?_
      refine tt_iload_n (pc := 207) (k := 2) C dX7_again_207 rfl rfl ?_
      refine tt_aload_n (pc := 208) (k := 1) C dX7_again_208 rfl rfl ?_
      refine tt_bipush (pc := 209) (v := (126 : Int32)) C dX7_again_209 (by decide) ?_
      refine tt_iload_n (pc := 211) (k := 2) C dX7_again_211 rfl rfl ?_
      refine tt_iadd (pc := 212) C dX7_again_212 ?_
      refine tt_iaload (pc := 213) (ws := (mC cy ad sc (va_up ar 17 (upd (ar 17) (ix v2) ((ar 22) (ix ((118 : Int32) + v2))))) la)) (n := 150) (f := (ar 22)) C 16 0 mC_get22 rfl hf dX7_again_213 (fun hf => ?_)
      refine tt_iastore (pc := 214) (ws := (mC cy ad sc (va_up ar 17 (upd (ar 17) (ix v2) ((ar 22) (ix ((118 : Int32) + v2))))) la)) (n := 8) (f := (ar 18)) (ws' := (mC cy ad sc (va_up (va_up ar 17 (upd (ar 17) (ix v2) ((ar 22) (ix ((118 : Int32) + v2))))) 18 (upd (ar 18) (ix v2) ((ar 22) (ix ((126 : Int32) + v2))))) la)) C rfl 13 0 mC_get18 rfl hf dX7_again_214 mC_set18 (fun hf => ?_)
      refine tt_iinc (pc := 215) (k := 2) (v := (v2 + 1)) (L' := [(2, .int (v2 + 1)), (0, .ref (ad 0)), (1, .ref (ad 22))]) C dX7_again_215 rfl rfl (by decide) rfl ?_
      refine tt_goto (pc := 218) (tgt := 185) C dX7_again_218 (by decide) ?_
      exact tt_locs [1, 2, 0] rfl (ih hf)
set_option maxHeartbeats 4000000 in
set_option maxRecDepth 100000 in
theorem k_X7_again_22 {l : Launch} {D : va_G} {cy : Nat → ClassId} {Bd : Nat} {xa : Xa} {ad : Nat → Nat} {N : Nat} {sc : Nat → Int32} {ar : Nat → Nat → Int32} {la : Nat → Nat → Int64} {out : (Nat → Int32) × (Nat → Nat → Int32)} (hf : f_X7_again_22 N sc ar = some out) : KC l yX7_again cX7_again 3 none 0 0 false D cy Bd xa [.ref (ad 0), .ref (ad 22)] (mC cy ad sc ar la) none (mC cy ad out.1 out.2 la) := by
  refine kc_start (own := RX7) (by decide +kernel) rfl (Nat.le_of_ble_eq_true rfl) ?_
  intro p e s m args below meth c A C
  unfold f_X7_again_22 at hf
  refine tt_locs (L' := [(0, .ref (ad 0)), (1, .ref (ad 22))]) [0, 1] rfl ?_
  refine tt_iconst (pc := 0) (v := (0 : Int32)) C dX7_again_0 (by decide) ?_
  refine tt_istore_n (pc := 1) (L' := [(2, .int (0 : Int32)), (0, .ref (ad 0)), (1, .ref (ad 22))]) C dX7_again_1 rfl (by decide) rfl ?_
  refine tt_locs (L' := [(0, .ref (ad 0)), (1, .ref (ad 22)), (2, .int (0 : Int32))]) [1, 2, 0] rfl (l_X7_again_22_2 C (fun t1 hf => ?_) hf)
  refine tt_iconst (pc := 23) (v := (0 : Int32)) C dX7_again_23 (by decide) ?_
  refine tt_istore_n (pc := 24) (L' := [(2, .int (0 : Int32)), (0, .ref (ad 0)), (1, .ref (ad 22))]) C dX7_again_24 rfl (by decide) rfl ?_
  refine tt_locs (L' := [(0, .ref (ad 0)), (1, .ref (ad 22)), (2, .int (0 : Int32))]) [1, 2, 0] rfl (l_X7_again_22_25 C (fun t2 hf => ?_) hf)
  refine tt_iconst (pc := 120) (v := (0 : Int32)) C dX7_again_120 (by decide) ?_
  refine tt_istore_n (pc := 121) (L' := [(2, .int (0 : Int32)), (0, .ref (ad 0)), (1, .ref (ad 22))]) C dX7_again_121 rfl (by decide) rfl ?_
  refine tt_locs (L' := [(0, .ref (ad 0)), (1, .ref (ad 22)), (2, .int (0 : Int32))]) [1, 2, 0] rfl (l_X7_again_22_122 C (fun t3 hf => ?_) hf)
  refine tt_iconst (pc := 157) (v := (0 : Int32)) C dX7_again_157 (by decide) ?_
  refine tt_istore_n (pc := 158) (L' := [(2, .int (0 : Int32)), (0, .ref (ad 0)), (1, .ref (ad 22))]) C dX7_again_158 rfl (by decide) rfl ?_
  refine tt_locs (L' := [(0, .ref (ad 0)), (1, .ref (ad 22)), (2, .int (0 : Int32))]) [1, 2, 0] rfl (l_X7_again_22_159 C (fun t4 hf => ?_) hf)
  refine tt_iconst (pc := 183) (v := (0 : Int32)) C dX7_again_183 (by decide) ?_
  refine tt_istore_n (pc := 184) (L' := [(2, .int (0 : Int32)), (0, .ref (ad 0)), (1, .ref (ad 22))]) C dX7_again_184 rfl (by decide) rfl ?_
  refine tt_locs (L' := [(0, .ref (ad 0)), (1, .ref (ad 22)), (2, .int (0 : Int32))]) [1, 2, 0] rfl (l_X7_again_22_185 C (fun t5 hf => ?_) hf)
  refine tt_aload_n (pc := 221) (k := 0) C dX7_again_221 rfl rfl ?_
  refine tt_aload_n (pc := 222) (k := 1) C dX7_again_222 rfl rfl ?_
  refine tt_sipush (pc := 223) (v := (134 : Int32)) C dX7_again_223 (by decide) ?_
  refine tt_iaload (pc := 226) (ws := (mC cy ad sc t5 la)) (n := 150) (f := (t5 22)) C 16 0 mC_get22 rfl hf dX7_again_226 (fun hf => ?_)
  refine tt_put (pc := 227) (ws := (mC cy ad sc t5 la)) (ci := 7) (ty := .int) (ws' := (mC cy ad (upd sc 0 ((t5 22) (ix (134 : Int32)))) t5 la)) C rfl fiX7 rfl 0 mC_obj 0 (by decide) q4_160 rfl rfl rfl rfl (Nat.le_of_ble_eq_true rfl) dX7_again_227 mC_put0 ?_
  refine tt_aload_n (pc := 230) (k := 0) C dX7_again_230 rfl rfl ?_
  refine tt_aload_n (pc := 231) (k := 1) C dX7_again_231 rfl rfl ?_
  refine tt_sipush (pc := 232) (v := (135 : Int32)) C dX7_again_232 (by decide) ?_
  refine tt_iaload (pc := 235) (ws := (mC cy ad (upd sc 0 ((t5 22) (ix (134 : Int32)))) t5 la)) (n := 150) (f := (t5 22)) C 16 0 mC_get22 rfl hf dX7_again_235 (fun hf => ?_)
  refine tt_put (pc := 236) (ws := (mC cy ad (upd sc 0 ((t5 22) (ix (134 : Int32)))) t5 la)) (ci := 7) (ty := .int) (ws' := (mC cy ad (upd (upd sc 0 ((t5 22) (ix (134 : Int32)))) 2 ((t5 22) (ix (135 : Int32)))) t5 la)) C rfl fiX7 rfl 0 mC_obj 2 (by decide) q4_162 rfl rfl rfl rfl (Nat.le_of_ble_eq_true rfl) dX7_again_236 mC_put2 ?_
  refine tt_aload_n (pc := 239) (k := 0) C dX7_again_239 rfl rfl ?_
  refine tt_aload_n (pc := 240) (k := 1) C dX7_again_240 rfl rfl ?_
  refine tt_sipush (pc := 241) (v := (136 : Int32)) C dX7_again_241 (by decide) ?_
  refine tt_iaload (pc := 244) (ws := (mC cy ad (upd (upd sc 0 ((t5 22) (ix (134 : Int32)))) 2 ((t5 22) (ix (135 : Int32)))) t5 la)) (n := 150) (f := (t5 22)) C 16 0 mC_get22 rfl hf dX7_again_244 (fun hf => ?_)
  refine tt_put (pc := 245) (ws := (mC cy ad (upd (upd sc 0 ((t5 22) (ix (134 : Int32)))) 2 ((t5 22) (ix (135 : Int32)))) t5 la)) (ci := 7) (ty := .int) (ws' := (mC cy ad (upd (upd (upd sc 0 ((t5 22) (ix (134 : Int32)))) 2 ((t5 22) (ix (135 : Int32)))) 6 ((t5 22) (ix (136 : Int32)))) t5 la)) C rfl fiX7 rfl 0 mC_obj 6 (by decide) q4_166 rfl rfl rfl rfl (Nat.le_of_ble_eq_true rfl) dX7_again_245 mC_put6 ?_
  refine tt_aload_n (pc := 248) (k := 0) C dX7_again_248 rfl rfl ?_
  refine tt_aload_n (pc := 249) (k := 1) C dX7_again_249 rfl rfl ?_
  refine tt_sipush (pc := 250) (v := (137 : Int32)) C dX7_again_250 (by decide) ?_
  refine tt_iaload (pc := 253) (ws := (mC cy ad (upd (upd (upd sc 0 ((t5 22) (ix (134 : Int32)))) 2 ((t5 22) (ix (135 : Int32)))) 6 ((t5 22) (ix (136 : Int32)))) t5 la)) (n := 150) (f := (t5 22)) C 16 0 mC_get22 rfl hf dX7_again_253 (fun hf => ?_)
  refine tt_put (pc := 254) (ws := (mC cy ad (upd (upd (upd sc 0 ((t5 22) (ix (134 : Int32)))) 2 ((t5 22) (ix (135 : Int32)))) 6 ((t5 22) (ix (136 : Int32)))) t5 la)) (ci := 7) (ty := .int) (ws' := (mC cy ad (upd (upd (upd (upd sc 0 ((t5 22) (ix (134 : Int32)))) 2 ((t5 22) (ix (135 : Int32)))) 6 ((t5 22) (ix (136 : Int32)))) 9 ((t5 22) (ix (137 : Int32)))) t5 la)) C rfl fiX7 rfl 0 mC_obj 9 (by decide) q4_169 rfl rfl rfl rfl (Nat.le_of_ble_eq_true rfl) dX7_again_254 mC_put9 ?_
  refine tt_aload_n (pc := 257) (k := 0) C dX7_again_257 rfl rfl ?_
  refine tt_aload_n (pc := 258) (k := 1) C dX7_again_258 rfl rfl ?_
  refine tt_sipush (pc := 259) (v := (138 : Int32)) C dX7_again_259 (by decide) ?_
  refine tt_iaload (pc := 262) (ws := (mC cy ad (upd (upd (upd (upd sc 0 ((t5 22) (ix (134 : Int32)))) 2 ((t5 22) (ix (135 : Int32)))) 6 ((t5 22) (ix (136 : Int32)))) 9 ((t5 22) (ix (137 : Int32)))) t5 la)) (n := 150) (f := (t5 22)) C 16 0 mC_get22 rfl hf dX7_again_262 (fun hf => ?_)
  refine tt_put (pc := 263) (ws := (mC cy ad (upd (upd (upd (upd sc 0 ((t5 22) (ix (134 : Int32)))) 2 ((t5 22) (ix (135 : Int32)))) 6 ((t5 22) (ix (136 : Int32)))) 9 ((t5 22) (ix (137 : Int32)))) t5 la)) (ci := 7) (ty := .int) (ws' := (mC cy ad (upd (upd (upd (upd (upd sc 0 ((t5 22) (ix (134 : Int32)))) 2 ((t5 22) (ix (135 : Int32)))) 6 ((t5 22) (ix (136 : Int32)))) 9 ((t5 22) (ix (137 : Int32)))) 14 ((t5 22) (ix (138 : Int32)))) t5 la)) C rfl fiX7 rfl 0 mC_obj 14 (by decide) q4_174 rfl rfl rfl rfl (Nat.le_of_ble_eq_true rfl) dX7_again_263 mC_put14 ?_
  refine tt_aload_n (pc := 266) (k := 0) C dX7_again_266 rfl rfl ?_
  refine tt_aload_n (pc := 267) (k := 1) C dX7_again_267 rfl rfl ?_
  refine tt_sipush (pc := 268) (v := (139 : Int32)) C dX7_again_268 (by decide) ?_
  refine tt_iaload (pc := 271) (ws := (mC cy ad (upd (upd (upd (upd (upd sc 0 ((t5 22) (ix (134 : Int32)))) 2 ((t5 22) (ix (135 : Int32)))) 6 ((t5 22) (ix (136 : Int32)))) 9 ((t5 22) (ix (137 : Int32)))) 14 ((t5 22) (ix (138 : Int32)))) t5 la)) (n := 150) (f := (t5 22)) C 16 0 mC_get22 rfl hf dX7_again_271 (fun hf => ?_)
  refine tt_put (pc := 272) (ws := (mC cy ad (upd (upd (upd (upd (upd sc 0 ((t5 22) (ix (134 : Int32)))) 2 ((t5 22) (ix (135 : Int32)))) 6 ((t5 22) (ix (136 : Int32)))) 9 ((t5 22) (ix (137 : Int32)))) 14 ((t5 22) (ix (138 : Int32)))) t5 la)) (ci := 7) (ty := .int) (ws' := (mC cy ad (upd (upd (upd (upd (upd (upd sc 0 ((t5 22) (ix (134 : Int32)))) 2 ((t5 22) (ix (135 : Int32)))) 6 ((t5 22) (ix (136 : Int32)))) 9 ((t5 22) (ix (137 : Int32)))) 14 ((t5 22) (ix (138 : Int32)))) 15 ((t5 22) (ix (139 : Int32)))) t5 la)) C rfl fiX7 rfl 0 mC_obj 15 (by decide) q4_175 rfl rfl rfl rfl (Nat.le_of_ble_eq_true rfl) dX7_again_272 mC_put15 ?_
  obtain rfl := Option.some.inj hf
  exact tt_vreturn (pc := 275) C rfl rfl rfl dX7_again_275
theorem dX7_on_0 : decode cX7_on 0 = .ok (.aload_n 0, 1) := by decide +kernel
theorem dX7_on_1 : decode cX7_on 1 = .ok (.getfield 346, 3) := by decide +kernel
theorem dX7_on_4 : decode cX7_on 4 = .ok (.ifCond .ne 10, 3) := by decide +kernel
theorem dX7_on_7 : decode cX7_on 7 = .ok (.aload_n 0, 1) := by decide +kernel
theorem dX7_on_8 : decode cX7_on 8 = .ok (.bipush (-3), 2) := by decide +kernel
theorem dX7_on_10 : decode cX7_on 10 = .ok (.invokevirtual 98, 3) := by decide +kernel
theorem dX7_on_13 : decode cX7_on 13 = .ok (.ireturn, 1) := by decide +kernel
theorem dX7_on_14 : decode cX7_on 14 = .ok (.aload_n 0, 1) := by decide +kernel
theorem dX7_on_15 : decode cX7_on 15 = .ok (.aload_n 0, 1) := by decide +kernel
theorem dX7_on_16 : decode cX7_on 16 = .ok (.getfield 62, 3) := by decide +kernel
theorem dX7_on_19 : decode cX7_on 19 = .ok (.invokevirtual 228, 3) := by decide +kernel
theorem dX7_on_22 : decode cX7_on 22 = .ok (.aload_n 0, 1) := by decide +kernel
theorem dX7_on_23 : decode cX7_on 23 = .ok (.getfield 109, 3) := by decide +kernel
theorem dX7_on_26 : decode cX7_on 26 = .ok (.ireturn, 1) := by decide +kernel
set_option maxHeartbeats 4000000 in
set_option maxRecDepth 100000 in
theorem k_X7_on {l : Launch} {D : va_G} {cy : Nat → ClassId} {Bd : Nat} {xa : Xa} {ad : Nat → Nat} {N : Nat} {sc : Nat → Int32} {ar : Nat → Nat → Int32} {la : Nat → Nat → Int64} {out : Int32 × (Nat → Int32) × (Nat → Nat → Int32)} (hf : f_X7_on N sc ar = some out) : KC l yX7_on cX7_on 1 (some .int) 1 22 false D cy Bd xa [.ref (ad 0)] (mC cy ad sc ar la) (some (.int out.1)) (mC cy ad out.2.1 out.2.2 la) := by
  refine kc_start (own := RX7) (by decide +kernel) rfl (Nat.le_of_ble_eq_true rfl) ?_
  intro p e s m args below meth c A C
  unfold f_X7_on at hf
  refine tt_locs (L' := [(0, .ref (ad 0))]) [0] rfl ?_
  refine tt_aload_n (pc := 0) (k := 0) C dX7_on_0 rfl rfl ?_
  refine tt_get (pc := 1) (ws := (mC cy ad sc ar la)) (ci := 7) (v := .int (sc 24)) C fiX7 rfl 0 mC_obj 24 (by decide) q4_184 rfl dX7_on_1 ?_
  refine tt_if_ne (pc := 4) (tgt := 14) C dX7_on_4 (by decide) hf (fun hf => ?_) (fun hf => ?_)
  · refine tt_aload_n (pc := 14) (k := 0) C dX7_on_14 rfl rfl ?_
    refine tt_aload_n (pc := 15) (k := 0) C dX7_on_15 rfl rfl ?_
    refine tt_get (pc := 16) (ws := (mC cy ad sc ar la)) (ci := 7) (v := .ref (ad 22)) C fiX7 rfl 0 mC_obj 22 (by decide) q4_182 rfl dX7_on_16 ?_
    obtain ⟨r1, hr1, hf⟩ := bind_some hf
    refine tt_callM (pc := 19) (ws := (mC cy ad sc ar la)) (q0 := 0) (ci := 7) (rest := []) (st' := []) C rfl (k_X7_again_22 hr1) okX7_again q6_1 rfl mC_obj rfl rfl rfl (Nat.le_of_ble_eq_true rfl) ⟨Nat.le_of_ble_eq_true rfl, Nat.le_of_ble_eq_true rfl⟩ dX7_on_19 ?_
    refine tt_aload_n (pc := 22) (k := 0) C dX7_on_22 rfl rfl ?_
    refine tt_get (pc := 23) (ws := (mC cy ad r1.1 r1.2 la)) (ci := 7) (v := .int (r1.1 6)) C fiX7 rfl 0 mC_obj 6 (by decide) q4_166 rfl dX7_on_23 ?_
    obtain rfl := Option.some.inj hf
    exact tt_ireturn (pc := 26) C rfl rfl rfl dX7_on_26
  · refine tt_aload_n (pc := 7) (k := 0) C dX7_on_7 rfl rfl ?_
    refine tt_bipush (pc := 8) (v := (-3 : Int32)) C dX7_on_8 (by decide) ?_
    obtain ⟨r2, hr2, hf⟩ := bind_some hf
    refine tt_callM (pc := 10) (ws := (mC cy ad sc ar la)) (q0 := 0) (ci := 7) (rest := []) (st' := [.int r2.1]) C rfl (k_X7_no hr2) okX7_no q5_36 rfl mC_obj rfl rfl rfl (Nat.le_of_ble_eq_true rfl) ⟨Nat.le_of_ble_eq_true rfl, Nat.le_of_ble_eq_true rfl⟩ dX7_on_10 ?_
    obtain rfl := Option.some.inj hf
    exact tt_ireturn (pc := 13) C rfl rfl rfl dX7_on_13
theorem dX7_count_0 : decode cX7_count 0 = .ok (.iload_n 1, 1) := by decide +kernel
theorem dX7_count_1 : decode cX7_count 1 = .ok (.tableswitch 87 0 7 #[47, 52, 57, 62, 67, 72, 77, 82], 47) := by decide +kernel
theorem dX7_count_48 : decode cX7_count 48 = .ok (.aload_n 0, 1) := by decide +kernel
theorem dX7_count_49 : decode cX7_count 49 = .ok (.getfield 7, 3) := by decide +kernel
theorem dX7_count_52 : decode cX7_count 52 = .ok (.ireturn, 1) := by decide +kernel
theorem dX7_count_53 : decode cX7_count 53 = .ok (.aload_n 0, 1) := by decide +kernel
theorem dX7_count_54 : decode cX7_count 54 = .ok (.getfield 106, 3) := by decide +kernel
theorem dX7_count_57 : decode cX7_count 57 = .ok (.ireturn, 1) := by decide +kernel
theorem dX7_count_58 : decode cX7_count 58 = .ok (.aload_n 0, 1) := by decide +kernel
theorem dX7_count_59 : decode cX7_count 59 = .ok (.getfield 109, 3) := by decide +kernel
theorem dX7_count_62 : decode cX7_count 62 = .ok (.ireturn, 1) := by decide +kernel
theorem dX7_count_63 : decode cX7_count 63 = .ok (.aload_n 0, 1) := by decide +kernel
theorem dX7_count_64 : decode cX7_count 64 = .ok (.getfield 112, 3) := by decide +kernel
theorem dX7_count_67 : decode cX7_count 67 = .ok (.ireturn, 1) := by decide +kernel
theorem dX7_count_68 : decode cX7_count 68 = .ok (.aload_n 0, 1) := by decide +kernel
theorem dX7_count_69 : decode cX7_count 69 = .ok (.getfield 44, 3) := by decide +kernel
theorem dX7_count_72 : decode cX7_count 72 = .ok (.ireturn, 1) := by decide +kernel
theorem dX7_count_73 : decode cX7_count 73 = .ok (.aload_n 0, 1) := by decide +kernel
theorem dX7_count_74 : decode cX7_count 74 = .ok (.getfield 115, 3) := by decide +kernel
theorem dX7_count_77 : decode cX7_count 77 = .ok (.ireturn, 1) := by decide +kernel
theorem dX7_count_78 : decode cX7_count 78 = .ok (.aload_n 0, 1) := by decide +kernel
theorem dX7_count_79 : decode cX7_count 79 = .ok (.getfield 267, 3) := by decide +kernel
theorem dX7_count_82 : decode cX7_count 82 = .ok (.ireturn, 1) := by decide +kernel
theorem dX7_count_83 : decode cX7_count 83 = .ok (.aload_n 0, 1) := by decide +kernel
theorem dX7_count_84 : decode cX7_count 84 = .ok (.invokevirtual 218, 3) := by decide +kernel
theorem dX7_count_87 : decode cX7_count 87 = .ok (.ireturn, 1) := by decide +kernel
theorem dX7_count_88 : decode cX7_count 88 = .ok (.iload_n 1, 1) := by decide +kernel
theorem dX7_count_89 : decode cX7_count 89 = .ok (.bipush 11, 2) := by decide +kernel
theorem dX7_count_91 : decode cX7_count 91 = .ok (.bipush 16, 2) := by decide +kernel
theorem dX7_count_93 : decode cX7_count 93 = .ok (.invokestatic 102, 3) := by decide +kernel
theorem dX7_count_96 : decode cX7_count 96 = .ok (.ifCond .eq 15, 3) := by decide +kernel
theorem dX7_count_99 : decode cX7_count 99 = .ok (.aload_n 0, 1) := by decide +kernel
theorem dX7_count_100 : decode cX7_count 100 = .ok (.getfield 59, 3) := by decide +kernel
theorem dX7_count_103 : decode cX7_count 103 = .ok (.iload_n 1, 1) := by decide +kernel
theorem dX7_count_104 : decode cX7_count 104 = .ok (.bipush 10, 2) := by decide +kernel
theorem dX7_count_106 : decode cX7_count 106 = .ok (.isub, 1) := by decide +kernel
theorem dX7_count_107 : decode cX7_count 107 = .ok (.iaload, 1) := by decide +kernel
theorem dX7_count_108 : decode cX7_count 108 = .ok (.goto 5, 3) := by decide +kernel
theorem dX7_count_111 : decode cX7_count 111 = .ok (.bipush (-9), 2) := by decide +kernel
theorem dX7_count_113 : decode cX7_count 113 = .ok (.ireturn, 1) := by decide +kernel
set_option maxHeartbeats 4000000 in
set_option maxRecDepth 100000 in
theorem k_X7_count {l : Launch} {D : va_G} {cy : Nat → ClassId} {Bd : Nat} {xa : Xa} {ad : Nat → Nat} {N : Nat} {sc : Nat → Int32} {ar : Nat → Nat → Int32} {la : Nat → Nat → Int64} {a1 : Int32} {out : Int32} (hf : f_X7_count N sc ar a1 = some out) : KC l yX7_count cX7_count 2 (some .int) 7 171 true D cy Bd xa [.ref (ad 0), .int a1] (mC cy ad sc ar la) (some (.int out)) (mC cy ad sc ar la) := by
  refine kc_start (own := RX7) (by decide +kernel) rfl (Nat.le_of_ble_eq_true rfl) ?_
  intro p e s m args below meth c A C
  unfold f_X7_count at hf
  refine tt_locs (L' := [(0, .ref (ad 0)), (1, .int a1)]) [0, 1] rfl ?_
  refine tt_iload_n (pc := 0) (k := 1) C dX7_count_0 rfl rfl ?_
  refine sw_eq (x := a1) (k := 0) hf (fun hx hf => ?_) (fun n0 hf => ?_)
  · rw [hx]
    refine tt_tabIn (pc := 1) (tgt := 48) (x := 0) C dX7_count_1 (by decide) (by decide) rfl (by decide) ?_
    refine tt_aload_n (pc := 48) (k := 0) C dX7_count_48 rfl rfl ?_
    refine tt_get (pc := 49) (ws := (mC cy ad sc ar la)) (ci := 7) (v := .int (sc 0)) C fiX7 rfl 0 mC_obj 0 (by decide) q4_160 rfl dX7_count_49 ?_
    obtain rfl := Option.some.inj hf
    exact tt_ireturn (pc := 52) C rfl rfl rfl dX7_count_52
  · refine sw_eq (x := a1) (k := 1) hf (fun hx hf => ?_) (fun n1 hf => ?_)
    · rw [hx]
      refine tt_tabIn (pc := 1) (tgt := 53) (x := 1) C dX7_count_1 (by decide) (by decide) rfl (by decide) ?_
      refine tt_aload_n (pc := 53) (k := 0) C dX7_count_53 rfl rfl ?_
      refine tt_get (pc := 54) (ws := (mC cy ad sc ar la)) (ci := 7) (v := .int (sc 2)) C fiX7 rfl 0 mC_obj 2 (by decide) q4_162 rfl dX7_count_54 ?_
      obtain rfl := Option.some.inj hf
      exact tt_ireturn (pc := 57) C rfl rfl rfl dX7_count_57
    · refine sw_eq (x := a1) (k := 2) hf (fun hx hf => ?_) (fun n2 hf => ?_)
      · rw [hx]
        refine tt_tabIn (pc := 1) (tgt := 58) (x := 2) C dX7_count_1 (by decide) (by decide) rfl (by decide) ?_
        refine tt_aload_n (pc := 58) (k := 0) C dX7_count_58 rfl rfl ?_
        refine tt_get (pc := 59) (ws := (mC cy ad sc ar la)) (ci := 7) (v := .int (sc 6)) C fiX7 rfl 0 mC_obj 6 (by decide) q4_166 rfl dX7_count_59 ?_
        obtain rfl := Option.some.inj hf
        exact tt_ireturn (pc := 62) C rfl rfl rfl dX7_count_62
      · refine sw_eq (x := a1) (k := 3) hf (fun hx hf => ?_) (fun n3 hf => ?_)
        · rw [hx]
          refine tt_tabIn (pc := 1) (tgt := 63) (x := 3) C dX7_count_1 (by decide) (by decide) rfl (by decide) ?_
          refine tt_aload_n (pc := 63) (k := 0) C dX7_count_63 rfl rfl ?_
          refine tt_get (pc := 64) (ws := (mC cy ad sc ar la)) (ci := 7) (v := .int (sc 9)) C fiX7 rfl 0 mC_obj 9 (by decide) q4_169 rfl dX7_count_64 ?_
          obtain rfl := Option.some.inj hf
          exact tt_ireturn (pc := 67) C rfl rfl rfl dX7_count_67
        · refine sw_eq (x := a1) (k := 4) hf (fun hx hf => ?_) (fun n4 hf => ?_)
          · rw [hx]
            refine tt_tabIn (pc := 1) (tgt := 68) (x := 4) C dX7_count_1 (by decide) (by decide) rfl (by decide) ?_
            refine tt_aload_n (pc := 68) (k := 0) C dX7_count_68 rfl rfl ?_
            refine tt_get (pc := 69) (ws := (mC cy ad sc ar la)) (ci := 7) (v := .int (sc 14)) C fiX7 rfl 0 mC_obj 14 (by decide) q4_174 rfl dX7_count_69 ?_
            obtain rfl := Option.some.inj hf
            exact tt_ireturn (pc := 72) C rfl rfl rfl dX7_count_72
          · refine sw_eq (x := a1) (k := 5) hf (fun hx hf => ?_) (fun n5 hf => ?_)
            · rw [hx]
              refine tt_tabIn (pc := 1) (tgt := 73) (x := 5) C dX7_count_1 (by decide) (by decide) rfl (by decide) ?_
              refine tt_aload_n (pc := 73) (k := 0) C dX7_count_73 rfl rfl ?_
              refine tt_get (pc := 74) (ws := (mC cy ad sc ar la)) (ci := 7) (v := .int (sc 15)) C fiX7 rfl 0 mC_obj 15 (by decide) q4_175 rfl dX7_count_74 ?_
              obtain rfl := Option.some.inj hf
              exact tt_ireturn (pc := 77) C rfl rfl rfl dX7_count_77
            · refine sw_eq (x := a1) (k := 6) hf (fun hx hf => ?_) (fun n6 hf => ?_)
              · rw [hx]
                refine tt_tabIn (pc := 1) (tgt := 78) (x := 6) C dX7_count_1 (by decide) (by decide) rfl (by decide) ?_
                refine tt_aload_n (pc := 78) (k := 0) C dX7_count_78 rfl rfl ?_
                refine tt_get (pc := 79) (ws := (mC cy ad sc ar la)) (ci := 7) (v := .int (sc 20)) C fiX7 rfl 0 mC_obj 20 (by decide) q4_180 rfl dX7_count_79 ?_
                obtain rfl := Option.some.inj hf
                exact tt_ireturn (pc := 82) C rfl rfl rfl dX7_count_82
              · refine sw_eq (x := a1) (k := 7) hf (fun hx hf => ?_) (fun n7 hf => ?_)
                · rw [hx]
                  refine tt_tabIn (pc := 1) (tgt := 83) (x := 7) C dX7_count_1 (by decide) (by decide) rfl (by decide) ?_
                  refine tt_aload_n (pc := 83) (k := 0) C dX7_count_83 rfl rfl ?_
                  obtain ⟨r2, hr2, hf⟩ := bind_some hf
                  refine tt_callR (pc := 84) (ws := (mC cy ad sc ar la)) (q0 := 0) (ci := 7) (rest := []) (st' := [.int r2]) C (k_X7_keptMany hr2) okX7_keptMany q5_232 rfl mC_obj (fun _ h => h) rfl rfl rfl (Nat.le_of_ble_eq_true rfl) ⟨Nat.le_of_ble_eq_true rfl, Nat.le_of_ble_eq_true rfl⟩ dX7_count_84 ?_
                  obtain rfl := Option.some.inj hf
                  exact tt_ireturn (pc := 87) C rfl rfl rfl dX7_count_87
                · have g0 := sw_ne n0 (z := 0) (by decide)
                  have g1 := sw_ne n1 (z := 1) (by decide)
                  have g2 := sw_ne n2 (z := 2) (by decide)
                  have g3 := sw_ne n3 (z := 3) (by decide)
                  have g4 := sw_ne n4 (z := 4) (by decide)
                  have g5 := sw_ne n5 (z := 5) (by decide)
                  have g6 := sw_ne n6 (z := 6) (by decide)
                  have g7 := sw_ne n7 (z := 7) (by decide)
                  refine tt_tabOut (pc := 1) (tgt := 88) C dX7_count_1 (by omega) (by decide) ?_
                  refine tt_iload_n (pc := 88) (k := 1) C dX7_count_88 rfl rfl ?_
                  refine tt_bipush (pc := 89) (v := (11 : Int32)) C dX7_count_89 (by decide) ?_
                  refine tt_bipush (pc := 91) (v := (16 : Int32)) C dX7_count_91 (by decide) ?_
                  obtain ⟨r3, hr3, hf⟩ := bind_some hf
                  refine tt_callS (pc := 93) (ws := (mC cy ad sc ar la)) (rest := []) (st' := [.int r3]) C (k_X7_in hr3) okX7_in q5_52 (fun _ h => absurd h List.not_mem_nil) rfl rfl rfl (Nat.le_of_ble_eq_true rfl) ⟨Nat.le_of_ble_eq_true rfl, Nat.le_of_ble_eq_true rfl⟩ dX7_count_93 ?_
                  obtain ⟨j4, hj4, hf⟩ := bind_some hf
                  have k5 : TT p l e { frames := 7, cells := 0, slots := 0, locals := 171 } s m args below meth c 2 D A true (some (.int out)) (mC cy ad sc ar la) 113 [] [.int j4] (mC cy ad sc ar la) := by
                    obtain rfl := Option.some.inj hf
                    exact tt_ireturn (pc := 113) C rfl rfl rfl dX7_count_113
                  refine tt_if_eq (pc := 96) (tgt := 111) C dX7_count_96 (by decide) hj4 (fun hj4 => ?_) (fun hj4 => ?_)
                  · refine tt_bipush (pc := 111) (v := (-9 : Int32)) C dX7_count_111 (by decide) ?_
                    obtain rfl := Option.some.inj hj4
                    exact tt_locs [] rfl k5
                  · refine tt_aload_n (pc := 99) (k := 0) C dX7_count_99 rfl rfl ?_
                    refine tt_get (pc := 100) (ws := (mC cy ad sc ar la)) (ci := 7) (v := .ref (ad 21)) C fiX7 rfl 0 mC_obj 21 (by decide) q4_181 rfl dX7_count_100 ?_
                    refine tt_iload_n (pc := 103) (k := 1) C dX7_count_103 rfl rfl ?_
                    refine tt_bipush (pc := 104) (v := (10 : Int32)) C dX7_count_104 (by decide) ?_
                    refine tt_isub (pc := 106) C dX7_count_106 ?_
                    refine tt_iaload (pc := 107) (ws := (mC cy ad sc ar la)) (n := 7) (f := (ar 21)) C 15 0 mC_get21 rfl hj4 dX7_count_107 (fun hj4 => ?_)
                    refine tt_goto (pc := 108) (tgt := 113) C dX7_count_108 (by decide) ?_
                    obtain rfl := Option.some.inj hj4
                    exact tt_locs [] rfl k5
