section LWc2
variable {p : Program} {l : Launch} {e : Env} {s : State} {m : MethodId} {below : List Frame} {meth : Method} {c : Code} {D : va_G} {cy : Nat → ClassId} {Bd : Nat} {xa : Xa} {b Ln : Nat} {xs : Nat → Int32} {xd : Nat → Nat → Nat} {ad : Nat → Nat}
theorem dL_law_955 : decode cL_law 955 = .ok (.aload_n 1, 1) := by decide +kernel
theorem dL_law_956 : decode cL_law 956 = .ok (.aload_n 0, 1) := by decide +kernel
theorem dL_law_957 : decode cL_law 957 = .ok (.iload_n 3, 1) := by decide +kernel
theorem dL_law_958 : decode cL_law 958 = .ok (.iconst 1, 1) := by decide +kernel
theorem dL_law_959 : decode cL_law 959 = .ok (.iadd, 1) := by decide +kernel
theorem dL_law_960 : decode cL_law 960 = .ok (.iaload, 1) := by decide +kernel
theorem dL_law_961 : decode cL_law 961 = .ok (.aload_n 0, 1) := by decide +kernel
theorem dL_law_962 : decode cL_law 962 = .ok (.iload_n 3, 1) := by decide +kernel
theorem dL_law_963 : decode cL_law 963 = .ok (.iconst 2, 1) := by decide +kernel
theorem dL_law_964 : decode cL_law 964 = .ok (.iadd, 1) := by decide +kernel
theorem dL_law_965 : decode cL_law 965 = .ok (.iaload, 1) := by decide +kernel
theorem dL_law_966 : decode cL_law 966 = .ok (.invokevirtual 115, 3) := by decide +kernel
theorem dL_law_969 : decode cL_law 969 = .ok (.aload_n 2, 1) := by decide +kernel
theorem dL_law_970 : decode cL_law 970 = .ok (.aload_n 0, 1) := by decide +kernel
theorem dL_law_971 : decode cL_law 971 = .ok (.iload_n 3, 1) := by decide +kernel
theorem dL_law_972 : decode cL_law 972 = .ok (.iconst 1, 1) := by decide +kernel
theorem dL_law_973 : decode cL_law 973 = .ok (.iadd, 1) := by decide +kernel
theorem dL_law_974 : decode cL_law 974 = .ok (.iaload, 1) := by decide +kernel
theorem dL_law_975 : decode cL_law 975 = .ok (.aload_n 0, 1) := by decide +kernel
theorem dL_law_976 : decode cL_law 976 = .ok (.iload_n 3, 1) := by decide +kernel
theorem dL_law_977 : decode cL_law 977 = .ok (.iconst 2, 1) := by decide +kernel
theorem dL_law_978 : decode cL_law 978 = .ok (.iadd, 1) := by decide +kernel
theorem dL_law_979 : decode cL_law 979 = .ok (.iaload, 1) := by decide +kernel
theorem dL_law_980 : decode cL_law 980 = .ok (.invokevirtual 118, 3) := by decide +kernel
theorem dL_law_983 : decode cL_law 983 = .ok (.if_icmp .eq 701, 3) := by decide +kernel
theorem law_slowest (C : CC p s m #[Value.ref b] meth c code RL 4 ret D cy (fun q => s.heap.size ≤ q) false Bd xa) (hX : va_X b Ln xs s s.heap) (hbl : b < s.heap.size) (hL : Ln ≤ 2560) {sX : S1} {aX : S2} {uG : S1} {es : S1} {ea : S2} {sT : S1} {aT : S2} {tT : S2} {pT : S1} {qT : S2} {ma : S2} {sL : S1} {aL : S2} {tL : S2} {pL : S1} {qL : S2} {sK : S1} {aK : S2} {tK : S2} {pK : S1} {qK : S2} {sH : S2} {rH : S3} {uH : S2} {sc : S1} {ar : S2} {la : S3} (I : INV sX aX uG es ea sT aT tT pT qT ma sL aL tL pL qL sK aK tK pK qK sH rH uH sc ar la) {i : Nat} (hi : i + 5 ≤ Ln) (k : ∀ (sX : S1) (aX : S2) (uG : S1) (es : S1) (ea : S2) (sT : S1) (aT : S2) (tT : S2) (pT : S1) (qT : S2) (ma : S2) (sL : S1) (aL : S2) (tL : S2) (pL : S1) (qL : S2) (sK : S1) (aK : S2) (tK : S2) (pK : S1) (qK : S2) (sH : S2) (rH : S3) (uH : S2) (sc : S1) (ar : S2) (la : S3), INV sX aX uG es ea sT aT tT pT qT ma sL aL tL pL qL sK aK tK pK qK sH rH uH sc ar la → LU p l e s m below meth c D b 1684 i (xd 0 0) (ad 0) [] (xC cy xd sX aX uG es ea sT aT tT pT qT ma sL aL tL pL qL sK aK tK pK qK sH rH uH ++ mC cy ad sc ar la)) : LU p l e s m below meth c D b 955 i (xd 0 0) (ad 0) [] (xC cy xd sX aX uG es ea sT aT tT pT qT ma sL aL tL pL qL sK aK tK pK qK sH rH uH ++ mC cy ad sc ar la) := by
  obtain ⟨o6, o7, e6, e7, ea1, I1⟩ := v_slowest (N := 10000000) (Nat.le_refl _) I (xs (i + 1)) (xs (i + 2))
  refine uu_aload_n C dL_law_955 rfl (k := 2) rfl ?_
  refine lu_arg C hX hbl hL hi (j := 1) (by decide) rfl dL_law_956 dL_law_957 dL_law_958 dL_law_959 dL_law_960 ?_
  refine lu_arg C hX hbl hL hi (j := 2) (by decide) rfl dL_law_961 dL_law_962 dL_law_963 dL_law_964 dL_law_965 ?_
  refine uu_callG C (k_X6_slowest (xa := xa) (xd := xd) (sX := sX) (aX := aX) (uG := uG) (es := es) (ea := ea) (sT := sT) (aT := aT) (tT := tT) (pT := pT) (qT := qT) (ma := ma) (sL := sL) (aL := aL) (tL := tL) (pL := pL) (qL := qL) (sK := sK) (aK := aK) (tK := tK) (pK := pK) (qK := qK) (sH := sH) (rH := rH) (uH := uH) e6) okX6_slowest q3_194 (ci := 6) rfl (q0 := 0) rfl [] (mC cy ad sc ar la) rfl (ws' := (xC cy xd sX o6.2.1 o6.2.2 es ea sT aT tT pT qT ma sL aL tL pL qL sK aK tK pK qK sH rH uH ++ mC cy ad sc ar la)) rfl rfl rfl rfl (Nat.le_of_ble_eq_true rfl) ⟨Nat.le_of_ble_eq_true rfl, Nat.le_of_ble_eq_true rfl⟩ ⟨Nat.le_of_ble_eq_true rfl, Nat.le_of_ble_eq_true rfl⟩ dL_law_966 ?_
  refine uu_aload_n C dL_law_969 rfl (k := 1) rfl ?_
  refine lu_arg C hX hbl hL hi (j := 1) (by decide) rfl dL_law_970 dL_law_971 dL_law_972 dL_law_973 dL_law_974 ?_
  refine lu_arg C hX hbl hL hi (j := 2) (by decide) rfl dL_law_975 dL_law_976 dL_law_977 dL_law_978 dL_law_979 ?_
  refine uu_callG C (k_X7_slowest (xa := xa) (ad := ad) (sc := sc) (ar := ar) (la := la) e7) okX7_slowest q6_9 (ci := 7) rfl (q0 := 72) rfl (xC cy xd sX o6.2.1 o6.2.2 es ea sT aT tT pT qT ma sL aL tL pL qL sK aK tK pK qK sH rH uH) [] (by rw [List.append_nil]) (ws' := (xC cy xd sX o6.2.1 o6.2.2 es ea sT aT tT pT qT ma sL aL tL pL qL sK aK tK pK qK sH rH uH ++ mC cy ad sc o7.2 la)) (by rw [List.append_nil]) rfl rfl rfl (Nat.le_of_ble_eq_true rfl) ⟨Nat.le_of_ble_eq_true rfl, Nat.le_of_ble_eq_true rfl⟩ ⟨Nat.le_of_ble_eq_true rfl, Nat.le_of_ble_eq_true rfl⟩ dL_law_980 ?_
  exact ur_icmp_eq C dL_law_983 (tgt := 1684) rfl (fun _ => k _ _ _ _ _ _ _ _ _ _ _ _ _ _ _ _ _ _ _ _ _ _ _ _ _ _ _ I1) (fun h => absurd ea1 h)
theorem dL_law_988 : decode cL_law 988 = .ok (.aload_n 1, 1) := by decide +kernel
theorem dL_law_989 : decode cL_law 989 = .ok (.aload_n 0, 1) := by decide +kernel
theorem dL_law_990 : decode cL_law 990 = .ok (.iload_n 3, 1) := by decide +kernel
theorem dL_law_991 : decode cL_law 991 = .ok (.iconst 1, 1) := by decide +kernel
theorem dL_law_992 : decode cL_law 992 = .ok (.iadd, 1) := by decide +kernel
theorem dL_law_993 : decode cL_law 993 = .ok (.iaload, 1) := by decide +kernel
theorem dL_law_994 : decode cL_law 994 = .ok (.aload_n 0, 1) := by decide +kernel
theorem dL_law_995 : decode cL_law 995 = .ok (.iload_n 3, 1) := by decide +kernel
theorem dL_law_996 : decode cL_law 996 = .ok (.iconst 2, 1) := by decide +kernel
theorem dL_law_997 : decode cL_law 997 = .ok (.iadd, 1) := by decide +kernel
theorem dL_law_998 : decode cL_law 998 = .ok (.iaload, 1) := by decide +kernel
theorem dL_law_999 : decode cL_law 999 = .ok (.invokevirtual 119, 3) := by decide +kernel
theorem dL_law_1002 : decode cL_law 1002 = .ok (.aload_n 2, 1) := by decide +kernel
theorem dL_law_1003 : decode cL_law 1003 = .ok (.aload_n 0, 1) := by decide +kernel
theorem dL_law_1004 : decode cL_law 1004 = .ok (.iload_n 3, 1) := by decide +kernel
theorem dL_law_1005 : decode cL_law 1005 = .ok (.iconst 1, 1) := by decide +kernel
theorem dL_law_1006 : decode cL_law 1006 = .ok (.iadd, 1) := by decide +kernel
theorem dL_law_1007 : decode cL_law 1007 = .ok (.iaload, 1) := by decide +kernel
theorem dL_law_1008 : decode cL_law 1008 = .ok (.aload_n 0, 1) := by decide +kernel
theorem dL_law_1009 : decode cL_law 1009 = .ok (.iload_n 3, 1) := by decide +kernel
theorem dL_law_1010 : decode cL_law 1010 = .ok (.iconst 2, 1) := by decide +kernel
theorem dL_law_1011 : decode cL_law 1011 = .ok (.iadd, 1) := by decide +kernel
theorem dL_law_1012 : decode cL_law 1012 = .ok (.iaload, 1) := by decide +kernel
theorem dL_law_1013 : decode cL_law 1013 = .ok (.invokevirtual 122, 3) := by decide +kernel
theorem dL_law_1016 : decode cL_law 1016 = .ok (.if_icmp .eq 668, 3) := by decide +kernel
theorem law_atOnce (C : CC p s m #[Value.ref b] meth c code RL 4 ret D cy (fun q => s.heap.size ≤ q) false Bd xa) (hX : va_X b Ln xs s s.heap) (hbl : b < s.heap.size) (hL : Ln ≤ 2560) {sX : S1} {aX : S2} {uG : S1} {es : S1} {ea : S2} {sT : S1} {aT : S2} {tT : S2} {pT : S1} {qT : S2} {ma : S2} {sL : S1} {aL : S2} {tL : S2} {pL : S1} {qL : S2} {sK : S1} {aK : S2} {tK : S2} {pK : S1} {qK : S2} {sH : S2} {rH : S3} {uH : S2} {sc : S1} {ar : S2} {la : S3} (I : INV sX aX uG es ea sT aT tT pT qT ma sL aL tL pL qL sK aK tK pK qK sH rH uH sc ar la) {i : Nat} (hi : i + 5 ≤ Ln) (k : ∀ (sX : S1) (aX : S2) (uG : S1) (es : S1) (ea : S2) (sT : S1) (aT : S2) (tT : S2) (pT : S1) (qT : S2) (ma : S2) (sL : S1) (aL : S2) (tL : S2) (pL : S1) (qL : S2) (sK : S1) (aK : S2) (tK : S2) (pK : S1) (qK : S2) (sH : S2) (rH : S3) (uH : S2) (sc : S1) (ar : S2) (la : S3), INV sX aX uG es ea sT aT tT pT qT ma sL aL tL pL qL sK aK tK pK qK sH rH uH sc ar la → LU p l e s m below meth c D b 1684 i (xd 0 0) (ad 0) [] (xC cy xd sX aX uG es ea sT aT tT pT qT ma sL aL tL pL qL sK aK tK pK qK sH rH uH ++ mC cy ad sc ar la)) : LU p l e s m below meth c D b 988 i (xd 0 0) (ad 0) [] (xC cy xd sX aX uG es ea sT aT tT pT qT ma sL aL tL pL qL sK aK tK pK qK sH rH uH ++ mC cy ad sc ar la) := by
  obtain ⟨o6, o7, e6, e7, ea1, I1⟩ := v_atOnce (N := 10000000) (Nat.le_refl _) I (xs (i + 1)) (xs (i + 2))
  refine uu_aload_n C dL_law_988 rfl (k := 2) rfl ?_
  refine lu_arg C hX hbl hL hi (j := 1) (by decide) rfl dL_law_989 dL_law_990 dL_law_991 dL_law_992 dL_law_993 ?_
  refine lu_arg C hX hbl hL hi (j := 2) (by decide) rfl dL_law_994 dL_law_995 dL_law_996 dL_law_997 dL_law_998 ?_
  refine uu_callG C (k_X6_atOnce (xa := xa) (xd := xd) (sX := sX) (aX := aX) (uG := uG) (es := es) (ea := ea) (sT := sT) (aT := aT) (tT := tT) (pT := pT) (qT := qT) (ma := ma) (sL := sL) (aL := aL) (tL := tL) (pL := pL) (qL := qL) (sK := sK) (aK := aK) (tK := tK) (pK := pK) (qK := qK) (sH := sH) (rH := rH) (uH := uH) e6) okX6_atOnce q3_199 (ci := 6) rfl (q0 := 0) rfl [] (mC cy ad sc ar la) rfl (ws' := (xC cy xd sX o6.2 uG es ea sT aT tT pT qT ma sL aL tL pL qL sK aK tK pK qK sH rH uH ++ mC cy ad sc ar la)) rfl rfl rfl rfl (Nat.le_of_ble_eq_true rfl) ⟨Nat.le_of_ble_eq_true rfl, Nat.le_of_ble_eq_true rfl⟩ ⟨Nat.le_of_ble_eq_true rfl, Nat.le_of_ble_eq_true rfl⟩ dL_law_999 ?_
  refine uu_aload_n C dL_law_1002 rfl (k := 1) rfl ?_
  refine lu_arg C hX hbl hL hi (j := 1) (by decide) rfl dL_law_1003 dL_law_1004 dL_law_1005 dL_law_1006 dL_law_1007 ?_
  refine lu_arg C hX hbl hL hi (j := 2) (by decide) rfl dL_law_1008 dL_law_1009 dL_law_1010 dL_law_1011 dL_law_1012 ?_
  refine uu_callG C (k_X7_atOnce (xa := xa) (ad := ad) (sc := sc) (ar := ar) (la := la) e7) okX7_atOnce q6_13 (ci := 7) rfl (q0 := 72) rfl (xC cy xd sX o6.2 uG es ea sT aT tT pT qT ma sL aL tL pL qL sK aK tK pK qK sH rH uH) [] (by rw [List.append_nil]) (ws' := (xC cy xd sX o6.2 uG es ea sT aT tT pT qT ma sL aL tL pL qL sK aK tK pK qK sH rH uH ++ mC cy ad sc o7.2 la)) (by rw [List.append_nil]) rfl rfl rfl (Nat.le_of_ble_eq_true rfl) ⟨Nat.le_of_ble_eq_true rfl, Nat.le_of_ble_eq_true rfl⟩ ⟨Nat.le_of_ble_eq_true rfl, Nat.le_of_ble_eq_true rfl⟩ dL_law_1013 ?_
  exact ur_icmp_eq C dL_law_1016 (tgt := 1684) rfl (fun _ => k _ _ _ _ _ _ _ _ _ _ _ _ _ _ _ _ _ _ _ _ _ _ _ _ _ _ _ I1) (fun h => absurd ea1 h)
theorem dL_law_1021 : decode cL_law 1021 = .ok (.aload_n 1, 1) := by decide +kernel
theorem dL_law_1022 : decode cL_law 1022 = .ok (.aload_n 0, 1) := by decide +kernel
theorem dL_law_1023 : decode cL_law 1023 = .ok (.iload_n 3, 1) := by decide +kernel
theorem dL_law_1024 : decode cL_law 1024 = .ok (.iconst 1, 1) := by decide +kernel
theorem dL_law_1025 : decode cL_law 1025 = .ok (.iadd, 1) := by decide +kernel
theorem dL_law_1026 : decode cL_law 1026 = .ok (.iaload, 1) := by decide +kernel
theorem dL_law_1027 : decode cL_law 1027 = .ok (.aload_n 0, 1) := by decide +kernel
theorem dL_law_1028 : decode cL_law 1028 = .ok (.iload_n 3, 1) := by decide +kernel
theorem dL_law_1029 : decode cL_law 1029 = .ok (.iconst 2, 1) := by decide +kernel
theorem dL_law_1030 : decode cL_law 1030 = .ok (.iadd, 1) := by decide +kernel
theorem dL_law_1031 : decode cL_law 1031 = .ok (.iaload, 1) := by decide +kernel
theorem dL_law_1032 : decode cL_law 1032 = .ok (.invokevirtual 123, 3) := by decide +kernel
theorem dL_law_1035 : decode cL_law 1035 = .ok (.aload_n 2, 1) := by decide +kernel
theorem dL_law_1036 : decode cL_law 1036 = .ok (.aload_n 0, 1) := by decide +kernel
theorem dL_law_1037 : decode cL_law 1037 = .ok (.iload_n 3, 1) := by decide +kernel
theorem dL_law_1038 : decode cL_law 1038 = .ok (.iconst 1, 1) := by decide +kernel
theorem dL_law_1039 : decode cL_law 1039 = .ok (.iadd, 1) := by decide +kernel
theorem dL_law_1040 : decode cL_law 1040 = .ok (.iaload, 1) := by decide +kernel
theorem dL_law_1041 : decode cL_law 1041 = .ok (.aload_n 0, 1) := by decide +kernel
theorem dL_law_1042 : decode cL_law 1042 = .ok (.iload_n 3, 1) := by decide +kernel
theorem dL_law_1043 : decode cL_law 1043 = .ok (.iconst 2, 1) := by decide +kernel
theorem dL_law_1044 : decode cL_law 1044 = .ok (.iadd, 1) := by decide +kernel
theorem dL_law_1045 : decode cL_law 1045 = .ok (.iaload, 1) := by decide +kernel
theorem dL_law_1046 : decode cL_law 1046 = .ok (.invokevirtual 126, 3) := by decide +kernel
theorem dL_law_1049 : decode cL_law 1049 = .ok (.if_icmp .eq 635, 3) := by decide +kernel
theorem law_most (C : CC p s m #[Value.ref b] meth c code RL 4 ret D cy (fun q => s.heap.size ≤ q) false Bd xa) (hX : va_X b Ln xs s s.heap) (hbl : b < s.heap.size) (hL : Ln ≤ 2560) {sX : S1} {aX : S2} {uG : S1} {es : S1} {ea : S2} {sT : S1} {aT : S2} {tT : S2} {pT : S1} {qT : S2} {ma : S2} {sL : S1} {aL : S2} {tL : S2} {pL : S1} {qL : S2} {sK : S1} {aK : S2} {tK : S2} {pK : S1} {qK : S2} {sH : S2} {rH : S3} {uH : S2} {sc : S1} {ar : S2} {la : S3} (I : INV sX aX uG es ea sT aT tT pT qT ma sL aL tL pL qL sK aK tK pK qK sH rH uH sc ar la) {i : Nat} (hi : i + 5 ≤ Ln) (k : ∀ (sX : S1) (aX : S2) (uG : S1) (es : S1) (ea : S2) (sT : S1) (aT : S2) (tT : S2) (pT : S1) (qT : S2) (ma : S2) (sL : S1) (aL : S2) (tL : S2) (pL : S1) (qL : S2) (sK : S1) (aK : S2) (tK : S2) (pK : S1) (qK : S2) (sH : S2) (rH : S3) (uH : S2) (sc : S1) (ar : S2) (la : S3), INV sX aX uG es ea sT aT tT pT qT ma sL aL tL pL qL sK aK tK pK qK sH rH uH sc ar la → LU p l e s m below meth c D b 1684 i (xd 0 0) (ad 0) [] (xC cy xd sX aX uG es ea sT aT tT pT qT ma sL aL tL pL qL sK aK tK pK qK sH rH uH ++ mC cy ad sc ar la)) : LU p l e s m below meth c D b 1021 i (xd 0 0) (ad 0) [] (xC cy xd sX aX uG es ea sT aT tT pT qT ma sL aL tL pL qL sK aK tK pK qK sH rH uH ++ mC cy ad sc ar la) := by
  obtain ⟨o6, o7, e6, e7, ea1, I1⟩ := v_most (N := 10000000) (Nat.le_refl _) I (xs (i + 1)) (xs (i + 2))
  refine uu_aload_n C dL_law_1021 rfl (k := 2) rfl ?_
  refine lu_arg C hX hbl hL hi (j := 1) (by decide) rfl dL_law_1022 dL_law_1023 dL_law_1024 dL_law_1025 dL_law_1026 ?_
  refine lu_arg C hX hbl hL hi (j := 2) (by decide) rfl dL_law_1027 dL_law_1028 dL_law_1029 dL_law_1030 dL_law_1031 ?_
  refine uu_callG C (k_X6_most (xa := xa) (xd := xd) (sX := sX) (aX := aX) (uG := uG) (es := es) (ea := ea) (sT := sT) (aT := aT) (tT := tT) (pT := pT) (qT := qT) (ma := ma) (sL := sL) (aL := aL) (tL := tL) (pL := pL) (qL := qL) (sK := sK) (aK := aK) (tK := tK) (pK := pK) (qK := qK) (sH := sH) (rH := rH) (uH := uH) e6) okX6_most q3_208 (ci := 6) rfl (q0 := 0) rfl [] (mC cy ad sc ar la) rfl (ws' := (xC cy xd sX o6.2 uG es ea sT aT tT pT qT ma sL aL tL pL qL sK aK tK pK qK sH rH uH ++ mC cy ad sc ar la)) rfl rfl rfl rfl (Nat.le_of_ble_eq_true rfl) ⟨Nat.le_of_ble_eq_true rfl, Nat.le_of_ble_eq_true rfl⟩ ⟨Nat.le_of_ble_eq_true rfl, Nat.le_of_ble_eq_true rfl⟩ dL_law_1032 ?_
  refine uu_aload_n C dL_law_1035 rfl (k := 1) rfl ?_
  refine lu_arg C hX hbl hL hi (j := 1) (by decide) rfl dL_law_1036 dL_law_1037 dL_law_1038 dL_law_1039 dL_law_1040 ?_
  refine lu_arg C hX hbl hL hi (j := 2) (by decide) rfl dL_law_1041 dL_law_1042 dL_law_1043 dL_law_1044 dL_law_1045 ?_
  refine uu_callG C (k_X7_most (xa := xa) (ad := ad) (sc := sc) (ar := ar) (la := la) e7) okX7_most q6_21 (ci := 7) rfl (q0 := 72) rfl (xC cy xd sX o6.2 uG es ea sT aT tT pT qT ma sL aL tL pL qL sK aK tK pK qK sH rH uH) [] (by rw [List.append_nil]) (ws' := (xC cy xd sX o6.2 uG es ea sT aT tT pT qT ma sL aL tL pL qL sK aK tK pK qK sH rH uH ++ mC cy ad sc o7.2 la)) (by rw [List.append_nil]) rfl rfl rfl (Nat.le_of_ble_eq_true rfl) ⟨Nat.le_of_ble_eq_true rfl, Nat.le_of_ble_eq_true rfl⟩ ⟨Nat.le_of_ble_eq_true rfl, Nat.le_of_ble_eq_true rfl⟩ dL_law_1046 ?_
  exact ur_icmp_eq C dL_law_1049 (tgt := 1684) rfl (fun _ => k _ _ _ _ _ _ _ _ _ _ _ _ _ _ _ _ _ _ _ _ _ _ _ _ _ _ _ I1) (fun h => absurd ea1 h)
theorem dL_law_1054 : decode cL_law 1054 = .ok (.aload_n 1, 1) := by decide +kernel
theorem dL_law_1055 : decode cL_law 1055 = .ok (.aload_n 0, 1) := by decide +kernel
theorem dL_law_1056 : decode cL_law 1056 = .ok (.iload_n 3, 1) := by decide +kernel
theorem dL_law_1057 : decode cL_law 1057 = .ok (.iconst 1, 1) := by decide +kernel
theorem dL_law_1058 : decode cL_law 1058 = .ok (.iadd, 1) := by decide +kernel
theorem dL_law_1059 : decode cL_law 1059 = .ok (.iaload, 1) := by decide +kernel
theorem dL_law_1060 : decode cL_law 1060 = .ok (.aload_n 0, 1) := by decide +kernel
theorem dL_law_1061 : decode cL_law 1061 = .ok (.iload_n 3, 1) := by decide +kernel
theorem dL_law_1062 : decode cL_law 1062 = .ok (.iconst 2, 1) := by decide +kernel
theorem dL_law_1063 : decode cL_law 1063 = .ok (.iadd, 1) := by decide +kernel
theorem dL_law_1064 : decode cL_law 1064 = .ok (.iaload, 1) := by decide +kernel
theorem dL_law_1065 : decode cL_law 1065 = .ok (.invokevirtual 127, 3) := by decide +kernel
theorem dL_law_1068 : decode cL_law 1068 = .ok (.aload_n 2, 1) := by decide +kernel
theorem dL_law_1069 : decode cL_law 1069 = .ok (.aload_n 0, 1) := by decide +kernel
theorem dL_law_1070 : decode cL_law 1070 = .ok (.iload_n 3, 1) := by decide +kernel
theorem dL_law_1071 : decode cL_law 1071 = .ok (.iconst 1, 1) := by decide +kernel
theorem dL_law_1072 : decode cL_law 1072 = .ok (.iadd, 1) := by decide +kernel
theorem dL_law_1073 : decode cL_law 1073 = .ok (.iaload, 1) := by decide +kernel
theorem dL_law_1074 : decode cL_law 1074 = .ok (.aload_n 0, 1) := by decide +kernel
theorem dL_law_1075 : decode cL_law 1075 = .ok (.iload_n 3, 1) := by decide +kernel
theorem dL_law_1076 : decode cL_law 1076 = .ok (.iconst 2, 1) := by decide +kernel
theorem dL_law_1077 : decode cL_law 1077 = .ok (.iadd, 1) := by decide +kernel
theorem dL_law_1078 : decode cL_law 1078 = .ok (.iaload, 1) := by decide +kernel
theorem dL_law_1079 : decode cL_law 1079 = .ok (.invokevirtual 130, 3) := by decide +kernel
theorem dL_law_1082 : decode cL_law 1082 = .ok (.if_icmp .eq 602, 3) := by decide +kernel
theorem law_nearest (C : CC p s m #[Value.ref b] meth c code RL 4 ret D cy (fun q => s.heap.size ≤ q) false Bd xa) (hX : va_X b Ln xs s s.heap) (hbl : b < s.heap.size) (hL : Ln ≤ 2560) {sX : S1} {aX : S2} {uG : S1} {es : S1} {ea : S2} {sT : S1} {aT : S2} {tT : S2} {pT : S1} {qT : S2} {ma : S2} {sL : S1} {aL : S2} {tL : S2} {pL : S1} {qL : S2} {sK : S1} {aK : S2} {tK : S2} {pK : S1} {qK : S2} {sH : S2} {rH : S3} {uH : S2} {sc : S1} {ar : S2} {la : S3} (I : INV sX aX uG es ea sT aT tT pT qT ma sL aL tL pL qL sK aK tK pK qK sH rH uH sc ar la) {i : Nat} (hi : i + 5 ≤ Ln) (k : ∀ (sX : S1) (aX : S2) (uG : S1) (es : S1) (ea : S2) (sT : S1) (aT : S2) (tT : S2) (pT : S1) (qT : S2) (ma : S2) (sL : S1) (aL : S2) (tL : S2) (pL : S1) (qL : S2) (sK : S1) (aK : S2) (tK : S2) (pK : S1) (qK : S2) (sH : S2) (rH : S3) (uH : S2) (sc : S1) (ar : S2) (la : S3), INV sX aX uG es ea sT aT tT pT qT ma sL aL tL pL qL sK aK tK pK qK sH rH uH sc ar la → LU p l e s m below meth c D b 1684 i (xd 0 0) (ad 0) [] (xC cy xd sX aX uG es ea sT aT tT pT qT ma sL aL tL pL qL sK aK tK pK qK sH rH uH ++ mC cy ad sc ar la)) : LU p l e s m below meth c D b 1054 i (xd 0 0) (ad 0) [] (xC cy xd sX aX uG es ea sT aT tT pT qT ma sL aL tL pL qL sK aK tK pK qK sH rH uH ++ mC cy ad sc ar la) := by
  obtain ⟨o6, o7, e6, e7, ea1, I1⟩ := v_nearest (N := 10000000) (Nat.le_refl _) I (xs (i + 1)) (xs (i + 2))
  refine uu_aload_n C dL_law_1054 rfl (k := 2) rfl ?_
  refine lu_arg C hX hbl hL hi (j := 1) (by decide) rfl dL_law_1055 dL_law_1056 dL_law_1057 dL_law_1058 dL_law_1059 ?_
  refine lu_arg C hX hbl hL hi (j := 2) (by decide) rfl dL_law_1060 dL_law_1061 dL_law_1062 dL_law_1063 dL_law_1064 ?_
  refine uu_callG C (k_X6_nearest (xa := xa) (xd := xd) (sX := sX) (aX := aX) (uG := uG) (es := es) (ea := ea) (sT := sT) (aT := aT) (tT := tT) (pT := pT) (qT := qT) (ma := ma) (sL := sL) (aL := aL) (tL := tL) (pL := pL) (qL := qL) (sK := sK) (aK := aK) (tK := tK) (pK := pK) (qK := qK) (sH := sH) (rH := rH) (uH := uH) e6) okX6_nearest q3_221 (ci := 6) rfl (q0 := 0) rfl [] (mC cy ad sc ar la) rfl (ws' := (xC cy xd sX o6.2 uG es ea sT aT tT pT qT ma sL aL tL pL qL sK aK tK pK qK sH rH uH ++ mC cy ad sc ar la)) rfl rfl rfl rfl (Nat.le_of_ble_eq_true rfl) ⟨Nat.le_of_ble_eq_true rfl, Nat.le_of_ble_eq_true rfl⟩ ⟨Nat.le_of_ble_eq_true rfl, Nat.le_of_ble_eq_true rfl⟩ dL_law_1065 ?_
  refine uu_aload_n C dL_law_1068 rfl (k := 1) rfl ?_
  refine lu_arg C hX hbl hL hi (j := 1) (by decide) rfl dL_law_1069 dL_law_1070 dL_law_1071 dL_law_1072 dL_law_1073 ?_
  refine lu_arg C hX hbl hL hi (j := 2) (by decide) rfl dL_law_1074 dL_law_1075 dL_law_1076 dL_law_1077 dL_law_1078 ?_
  refine uu_callG C (k_X7_nearest (xa := xa) (ad := ad) (sc := sc) (ar := ar) (la := la) e7) okX7_nearest q6_25 (ci := 7) rfl (q0 := 72) rfl (xC cy xd sX o6.2 uG es ea sT aT tT pT qT ma sL aL tL pL qL sK aK tK pK qK sH rH uH) [] (by rw [List.append_nil]) (ws' := (xC cy xd sX o6.2 uG es ea sT aT tT pT qT ma sL aL tL pL qL sK aK tK pK qK sH rH uH ++ mC cy ad sc o7.2 la)) (by rw [List.append_nil]) rfl rfl rfl (Nat.le_of_ble_eq_true rfl) ⟨Nat.le_of_ble_eq_true rfl, Nat.le_of_ble_eq_true rfl⟩ ⟨Nat.le_of_ble_eq_true rfl, Nat.le_of_ble_eq_true rfl⟩ dL_law_1079 ?_
  exact ur_icmp_eq C dL_law_1082 (tgt := 1684) rfl (fun _ => k _ _ _ _ _ _ _ _ _ _ _ _ _ _ _ _ _ _ _ _ _ _ _ _ _ _ _ I1) (fun h => absurd ea1 h)
theorem dL_law_1087 : decode cL_law 1087 = .ok (.aload_n 1, 1) := by decide +kernel
theorem dL_law_1088 : decode cL_law 1088 = .ok (.aload_n 0, 1) := by decide +kernel
theorem dL_law_1089 : decode cL_law 1089 = .ok (.iload_n 3, 1) := by decide +kernel
theorem dL_law_1090 : decode cL_law 1090 = .ok (.iconst 1, 1) := by decide +kernel
theorem dL_law_1091 : decode cL_law 1091 = .ok (.iadd, 1) := by decide +kernel
theorem dL_law_1092 : decode cL_law 1092 = .ok (.iaload, 1) := by decide +kernel
theorem dL_law_1093 : decode cL_law 1093 = .ok (.aload_n 0, 1) := by decide +kernel
theorem dL_law_1094 : decode cL_law 1094 = .ok (.iload_n 3, 1) := by decide +kernel
theorem dL_law_1095 : decode cL_law 1095 = .ok (.iconst 2, 1) := by decide +kernel
theorem dL_law_1096 : decode cL_law 1096 = .ok (.iadd, 1) := by decide +kernel
theorem dL_law_1097 : decode cL_law 1097 = .ok (.iaload, 1) := by decide +kernel
theorem dL_law_1098 : decode cL_law 1098 = .ok (.aload_n 0, 1) := by decide +kernel
theorem dL_law_1099 : decode cL_law 1099 = .ok (.iload_n 3, 1) := by decide +kernel
theorem dL_law_1100 : decode cL_law 1100 = .ok (.iconst 3, 1) := by decide +kernel
theorem dL_law_1101 : decode cL_law 1101 = .ok (.iadd, 1) := by decide +kernel
theorem dL_law_1102 : decode cL_law 1102 = .ok (.iaload, 1) := by decide +kernel
theorem dL_law_1103 : decode cL_law 1103 = .ok (.invokevirtual 131, 3) := by decide +kernel
theorem dL_law_1106 : decode cL_law 1106 = .ok (.aload_n 2, 1) := by decide +kernel
theorem dL_law_1107 : decode cL_law 1107 = .ok (.aload_n 0, 1) := by decide +kernel
theorem dL_law_1108 : decode cL_law 1108 = .ok (.iload_n 3, 1) := by decide +kernel
theorem dL_law_1109 : decode cL_law 1109 = .ok (.iconst 1, 1) := by decide +kernel
theorem dL_law_1110 : decode cL_law 1110 = .ok (.iadd, 1) := by decide +kernel
theorem dL_law_1111 : decode cL_law 1111 = .ok (.iaload, 1) := by decide +kernel
theorem dL_law_1112 : decode cL_law 1112 = .ok (.aload_n 0, 1) := by decide +kernel
theorem dL_law_1113 : decode cL_law 1113 = .ok (.iload_n 3, 1) := by decide +kernel
theorem dL_law_1114 : decode cL_law 1114 = .ok (.iconst 2, 1) := by decide +kernel
theorem dL_law_1115 : decode cL_law 1115 = .ok (.iadd, 1) := by decide +kernel
theorem dL_law_1116 : decode cL_law 1116 = .ok (.iaload, 1) := by decide +kernel
theorem dL_law_1117 : decode cL_law 1117 = .ok (.aload_n 0, 1) := by decide +kernel
theorem dL_law_1118 : decode cL_law 1118 = .ok (.iload_n 3, 1) := by decide +kernel
theorem dL_law_1119 : decode cL_law 1119 = .ok (.iconst 3, 1) := by decide +kernel
theorem dL_law_1120 : decode cL_law 1120 = .ok (.iadd, 1) := by decide +kernel
theorem dL_law_1121 : decode cL_law 1121 = .ok (.iaload, 1) := by decide +kernel
theorem dL_law_1122 : decode cL_law 1122 = .ok (.invokevirtual 134, 3) := by decide +kernel
theorem dL_law_1125 : decode cL_law 1125 = .ok (.if_icmp .eq 559, 3) := by decide +kernel
theorem law_shadow (C : CC p s m #[Value.ref b] meth c code RL 4 ret D cy (fun q => s.heap.size ≤ q) false Bd xa) (hX : va_X b Ln xs s s.heap) (hbl : b < s.heap.size) (hL : Ln ≤ 2560) {sX : S1} {aX : S2} {uG : S1} {es : S1} {ea : S2} {sT : S1} {aT : S2} {tT : S2} {pT : S1} {qT : S2} {ma : S2} {sL : S1} {aL : S2} {tL : S2} {pL : S1} {qL : S2} {sK : S1} {aK : S2} {tK : S2} {pK : S1} {qK : S2} {sH : S2} {rH : S3} {uH : S2} {sc : S1} {ar : S2} {la : S3} (I : INV sX aX uG es ea sT aT tT pT qT ma sL aL tL pL qL sK aK tK pK qK sH rH uH sc ar la) {i : Nat} (hi : i + 5 ≤ Ln) (k : ∀ (sX : S1) (aX : S2) (uG : S1) (es : S1) (ea : S2) (sT : S1) (aT : S2) (tT : S2) (pT : S1) (qT : S2) (ma : S2) (sL : S1) (aL : S2) (tL : S2) (pL : S1) (qL : S2) (sK : S1) (aK : S2) (tK : S2) (pK : S1) (qK : S2) (sH : S2) (rH : S3) (uH : S2) (sc : S1) (ar : S2) (la : S3), INV sX aX uG es ea sT aT tT pT qT ma sL aL tL pL qL sK aK tK pK qK sH rH uH sc ar la → LU p l e s m below meth c D b 1684 i (xd 0 0) (ad 0) [] (xC cy xd sX aX uG es ea sT aT tT pT qT ma sL aL tL pL qL sK aK tK pK qK sH rH uH ++ mC cy ad sc ar la)) : LU p l e s m below meth c D b 1087 i (xd 0 0) (ad 0) [] (xC cy xd sX aX uG es ea sT aT tT pT qT ma sL aL tL pL qL sK aK tK pK qK sH rH uH ++ mC cy ad sc ar la) := by
  obtain ⟨o6, o7, e6, e7, ea1, I1⟩ := v_shadow (N := 10000000) (Nat.le_refl _) I (xs (i + 1)) (xs (i + 2)) (xs (i + 3))
  refine uu_aload_n C dL_law_1087 rfl (k := 2) rfl ?_
  refine lu_arg C hX hbl hL hi (j := 1) (by decide) rfl dL_law_1088 dL_law_1089 dL_law_1090 dL_law_1091 dL_law_1092 ?_
  refine lu_arg C hX hbl hL hi (j := 2) (by decide) rfl dL_law_1093 dL_law_1094 dL_law_1095 dL_law_1096 dL_law_1097 ?_
  refine lu_arg C hX hbl hL hi (j := 3) (by decide) rfl dL_law_1098 dL_law_1099 dL_law_1100 dL_law_1101 dL_law_1102 ?_
  refine uu_callG C (k_X6_shadow (xa := xa) (xd := xd) (sX := sX) (aX := aX) (uG := uG) (es := es) (ea := ea) (sT := sT) (aT := aT) (tT := tT) (pT := pT) (qT := qT) (ma := ma) (sL := sL) (aL := aL) (tL := tL) (pL := pL) (qL := qL) (sK := sK) (aK := aK) (tK := tK) (pK := pK) (qK := qK) (sH := sH) (rH := rH) (uH := uH) e6) okX6_shadow q3_226 (ci := 6) rfl (q0 := 0) rfl [] (mC cy ad sc ar la) rfl (ws' := (xC cy xd sX o6.2 uG es ea sT aT tT pT qT ma sL aL tL pL qL sK aK tK pK qK sH rH uH ++ mC cy ad sc ar la)) rfl rfl rfl rfl (Nat.le_of_ble_eq_true rfl) ⟨Nat.le_of_ble_eq_true rfl, Nat.le_of_ble_eq_true rfl⟩ ⟨Nat.le_of_ble_eq_true rfl, Nat.le_of_ble_eq_true rfl⟩ dL_law_1103 ?_
  refine uu_aload_n C dL_law_1106 rfl (k := 1) rfl ?_
  refine lu_arg C hX hbl hL hi (j := 1) (by decide) rfl dL_law_1107 dL_law_1108 dL_law_1109 dL_law_1110 dL_law_1111 ?_
  refine lu_arg C hX hbl hL hi (j := 2) (by decide) rfl dL_law_1112 dL_law_1113 dL_law_1114 dL_law_1115 dL_law_1116 ?_
  refine lu_arg C hX hbl hL hi (j := 3) (by decide) rfl dL_law_1117 dL_law_1118 dL_law_1119 dL_law_1120 dL_law_1121 ?_
  refine uu_callG C (k_X7_shadow (xa := xa) (ad := ad) (sc := sc) (ar := ar) (la := la) e7) okX7_shadow q6_29 (ci := 7) rfl (q0 := 72) rfl (xC cy xd sX o6.2 uG es ea sT aT tT pT qT ma sL aL tL pL qL sK aK tK pK qK sH rH uH) [] (by rw [List.append_nil]) (ws' := (xC cy xd sX o6.2 uG es ea sT aT tT pT qT ma sL aL tL pL qL sK aK tK pK qK sH rH uH ++ mC cy ad o7.2.1 o7.2.2 la)) (by rw [List.append_nil]) rfl rfl rfl (Nat.le_of_ble_eq_true rfl) ⟨Nat.le_of_ble_eq_true rfl, Nat.le_of_ble_eq_true rfl⟩ ⟨Nat.le_of_ble_eq_true rfl, Nat.le_of_ble_eq_true rfl⟩ dL_law_1122 ?_
  exact ur_icmp_eq C dL_law_1125 (tgt := 1684) rfl (fun _ => k _ _ _ _ _ _ _ _ _ _ _ _ _ _ _ _ _ _ _ _ _ _ _ _ _ _ _ I1) (fun h => absurd ea1 h)
theorem dL_law_1130 : decode cL_law 1130 = .ok (.aload_n 1, 1) := by decide +kernel
theorem dL_law_1131 : decode cL_law 1131 = .ok (.aload_n 0, 1) := by decide +kernel
theorem dL_law_1132 : decode cL_law 1132 = .ok (.iload_n 3, 1) := by decide +kernel
theorem dL_law_1133 : decode cL_law 1133 = .ok (.iconst 1, 1) := by decide +kernel
theorem dL_law_1134 : decode cL_law 1134 = .ok (.iadd, 1) := by decide +kernel
theorem dL_law_1135 : decode cL_law 1135 = .ok (.iaload, 1) := by decide +kernel
theorem dL_law_1136 : decode cL_law 1136 = .ok (.aload_n 0, 1) := by decide +kernel
theorem dL_law_1137 : decode cL_law 1137 = .ok (.iload_n 3, 1) := by decide +kernel
theorem dL_law_1138 : decode cL_law 1138 = .ok (.iconst 2, 1) := by decide +kernel
theorem dL_law_1139 : decode cL_law 1139 = .ok (.iadd, 1) := by decide +kernel
theorem dL_law_1140 : decode cL_law 1140 = .ok (.iaload, 1) := by decide +kernel
theorem dL_law_1141 : decode cL_law 1141 = .ok (.invokevirtual 135, 3) := by decide +kernel
theorem dL_law_1144 : decode cL_law 1144 = .ok (.aload_n 2, 1) := by decide +kernel
theorem dL_law_1145 : decode cL_law 1145 = .ok (.aload_n 0, 1) := by decide +kernel
theorem dL_law_1146 : decode cL_law 1146 = .ok (.iload_n 3, 1) := by decide +kernel
theorem dL_law_1147 : decode cL_law 1147 = .ok (.iconst 1, 1) := by decide +kernel
theorem dL_law_1148 : decode cL_law 1148 = .ok (.iadd, 1) := by decide +kernel
theorem dL_law_1149 : decode cL_law 1149 = .ok (.iaload, 1) := by decide +kernel
theorem dL_law_1150 : decode cL_law 1150 = .ok (.aload_n 0, 1) := by decide +kernel
theorem dL_law_1151 : decode cL_law 1151 = .ok (.iload_n 3, 1) := by decide +kernel
theorem dL_law_1152 : decode cL_law 1152 = .ok (.iconst 2, 1) := by decide +kernel
theorem dL_law_1153 : decode cL_law 1153 = .ok (.iadd, 1) := by decide +kernel
theorem dL_law_1154 : decode cL_law 1154 = .ok (.iaload, 1) := by decide +kernel
theorem dL_law_1155 : decode cL_law 1155 = .ok (.invokevirtual 138, 3) := by decide +kernel
theorem dL_law_1158 : decode cL_law 1158 = .ok (.if_icmp .eq 526, 3) := by decide +kernel
theorem law_alike (C : CC p s m #[Value.ref b] meth c code RL 4 ret D cy (fun q => s.heap.size ≤ q) false Bd xa) (hX : va_X b Ln xs s s.heap) (hbl : b < s.heap.size) (hL : Ln ≤ 2560) {sX : S1} {aX : S2} {uG : S1} {es : S1} {ea : S2} {sT : S1} {aT : S2} {tT : S2} {pT : S1} {qT : S2} {ma : S2} {sL : S1} {aL : S2} {tL : S2} {pL : S1} {qL : S2} {sK : S1} {aK : S2} {tK : S2} {pK : S1} {qK : S2} {sH : S2} {rH : S3} {uH : S2} {sc : S1} {ar : S2} {la : S3} (I : INV sX aX uG es ea sT aT tT pT qT ma sL aL tL pL qL sK aK tK pK qK sH rH uH sc ar la) {i : Nat} (hi : i + 5 ≤ Ln) (k : ∀ (sX : S1) (aX : S2) (uG : S1) (es : S1) (ea : S2) (sT : S1) (aT : S2) (tT : S2) (pT : S1) (qT : S2) (ma : S2) (sL : S1) (aL : S2) (tL : S2) (pL : S1) (qL : S2) (sK : S1) (aK : S2) (tK : S2) (pK : S1) (qK : S2) (sH : S2) (rH : S3) (uH : S2) (sc : S1) (ar : S2) (la : S3), INV sX aX uG es ea sT aT tT pT qT ma sL aL tL pL qL sK aK tK pK qK sH rH uH sc ar la → LU p l e s m below meth c D b 1684 i (xd 0 0) (ad 0) [] (xC cy xd sX aX uG es ea sT aT tT pT qT ma sL aL tL pL qL sK aK tK pK qK sH rH uH ++ mC cy ad sc ar la)) : LU p l e s m below meth c D b 1130 i (xd 0 0) (ad 0) [] (xC cy xd sX aX uG es ea sT aT tT pT qT ma sL aL tL pL qL sK aK tK pK qK sH rH uH ++ mC cy ad sc ar la) := by
  obtain ⟨o6, o7, e6, e7, ea1, I1⟩ := v_alike (N := 10000000) (Nat.le_refl _) I (xs (i + 1)) (xs (i + 2))
  refine uu_aload_n C dL_law_1130 rfl (k := 2) rfl ?_
  refine lu_arg C hX hbl hL hi (j := 1) (by decide) rfl dL_law_1131 dL_law_1132 dL_law_1133 dL_law_1134 dL_law_1135 ?_
  refine lu_arg C hX hbl hL hi (j := 2) (by decide) rfl dL_law_1136 dL_law_1137 dL_law_1138 dL_law_1139 dL_law_1140 ?_
  refine uu_callG C (k_X6_alike (xa := xa) (xd := xd) (sX := sX) (aX := aX) (uG := uG) (es := es) (ea := ea) (sT := sT) (aT := aT) (tT := tT) (pT := pT) (qT := qT) (ma := ma) (sL := sL) (aL := aL) (tL := tL) (pL := pL) (qL := qL) (sK := sK) (aK := aK) (tK := tK) (pK := pK) (qK := qK) (sH := sH) (rH := rH) (uH := uH) e6) okX6_alike q3_230 (ci := 6) rfl (q0 := 0) rfl [] (mC cy ad sc ar la) rfl (ws' := (xC cy xd sX o6.2 uG es ea sT aT tT pT qT ma sL aL tL pL qL sK aK tK pK qK sH rH uH ++ mC cy ad sc ar la)) rfl rfl rfl rfl (Nat.le_of_ble_eq_true rfl) ⟨Nat.le_of_ble_eq_true rfl, Nat.le_of_ble_eq_true rfl⟩ ⟨Nat.le_of_ble_eq_true rfl, Nat.le_of_ble_eq_true rfl⟩ dL_law_1141 ?_
  refine uu_aload_n C dL_law_1144 rfl (k := 1) rfl ?_
  refine lu_arg C hX hbl hL hi (j := 1) (by decide) rfl dL_law_1145 dL_law_1146 dL_law_1147 dL_law_1148 dL_law_1149 ?_
  refine lu_arg C hX hbl hL hi (j := 2) (by decide) rfl dL_law_1150 dL_law_1151 dL_law_1152 dL_law_1153 dL_law_1154 ?_
  refine uu_callG C (k_X7_alike (xa := xa) (ad := ad) (sc := sc) (ar := ar) (la := la) e7) okX7_alike q6_33 (ci := 7) rfl (q0 := 72) rfl (xC cy xd sX o6.2 uG es ea sT aT tT pT qT ma sL aL tL pL qL sK aK tK pK qK sH rH uH) [] (by rw [List.append_nil]) (ws' := (xC cy xd sX o6.2 uG es ea sT aT tT pT qT ma sL aL tL pL qL sK aK tK pK qK sH rH uH ++ mC cy ad sc o7.2 la)) (by rw [List.append_nil]) rfl rfl rfl (Nat.le_of_ble_eq_true rfl) ⟨Nat.le_of_ble_eq_true rfl, Nat.le_of_ble_eq_true rfl⟩ ⟨Nat.le_of_ble_eq_true rfl, Nat.le_of_ble_eq_true rfl⟩ dL_law_1155 ?_
  exact ur_icmp_eq C dL_law_1158 (tgt := 1684) rfl (fun _ => k _ _ _ _ _ _ _ _ _ _ _ _ _ _ _ _ _ _ _ _ _ _ _ _ _ _ _ I1) (fun h => absurd ea1 h)
theorem dL_law_1163 : decode cL_law 1163 = .ok (.aload_n 1, 1) := by decide +kernel
theorem dL_law_1164 : decode cL_law 1164 = .ok (.aload_n 0, 1) := by decide +kernel
theorem dL_law_1165 : decode cL_law 1165 = .ok (.iload_n 3, 1) := by decide +kernel
theorem dL_law_1166 : decode cL_law 1166 = .ok (.iconst 1, 1) := by decide +kernel
theorem dL_law_1167 : decode cL_law 1167 = .ok (.iadd, 1) := by decide +kernel
theorem dL_law_1168 : decode cL_law 1168 = .ok (.iaload, 1) := by decide +kernel
theorem dL_law_1169 : decode cL_law 1169 = .ok (.invokevirtual 139, 3) := by decide +kernel
theorem dL_law_1172 : decode cL_law 1172 = .ok (.aload_n 2, 1) := by decide +kernel
theorem dL_law_1173 : decode cL_law 1173 = .ok (.aload_n 0, 1) := by decide +kernel
theorem dL_law_1174 : decode cL_law 1174 = .ok (.iload_n 3, 1) := by decide +kernel
theorem dL_law_1175 : decode cL_law 1175 = .ok (.iconst 1, 1) := by decide +kernel
theorem dL_law_1176 : decode cL_law 1176 = .ok (.iadd, 1) := by decide +kernel
theorem dL_law_1177 : decode cL_law 1177 = .ok (.iaload, 1) := by decide +kernel
theorem dL_law_1178 : decode cL_law 1178 = .ok (.invokevirtual 142, 3) := by decide +kernel
theorem dL_law_1181 : decode cL_law 1181 = .ok (.if_icmp .eq 503, 3) := by decide +kernel
theorem law_steepest (C : CC p s m #[Value.ref b] meth c code RL 4 ret D cy (fun q => s.heap.size ≤ q) false Bd xa) (hX : va_X b Ln xs s s.heap) (hbl : b < s.heap.size) (hL : Ln ≤ 2560) {sX : S1} {aX : S2} {uG : S1} {es : S1} {ea : S2} {sT : S1} {aT : S2} {tT : S2} {pT : S1} {qT : S2} {ma : S2} {sL : S1} {aL : S2} {tL : S2} {pL : S1} {qL : S2} {sK : S1} {aK : S2} {tK : S2} {pK : S1} {qK : S2} {sH : S2} {rH : S3} {uH : S2} {sc : S1} {ar : S2} {la : S3} (I : INV sX aX uG es ea sT aT tT pT qT ma sL aL tL pL qL sK aK tK pK qK sH rH uH sc ar la) {i : Nat} (hi : i + 5 ≤ Ln) (k : ∀ (sX : S1) (aX : S2) (uG : S1) (es : S1) (ea : S2) (sT : S1) (aT : S2) (tT : S2) (pT : S1) (qT : S2) (ma : S2) (sL : S1) (aL : S2) (tL : S2) (pL : S1) (qL : S2) (sK : S1) (aK : S2) (tK : S2) (pK : S1) (qK : S2) (sH : S2) (rH : S3) (uH : S2) (sc : S1) (ar : S2) (la : S3), INV sX aX uG es ea sT aT tT pT qT ma sL aL tL pL qL sK aK tK pK qK sH rH uH sc ar la → LU p l e s m below meth c D b 1684 i (xd 0 0) (ad 0) [] (xC cy xd sX aX uG es ea sT aT tT pT qT ma sL aL tL pL qL sK aK tK pK qK sH rH uH ++ mC cy ad sc ar la)) : LU p l e s m below meth c D b 1163 i (xd 0 0) (ad 0) [] (xC cy xd sX aX uG es ea sT aT tT pT qT ma sL aL tL pL qL sK aK tK pK qK sH rH uH ++ mC cy ad sc ar la) := by
  obtain ⟨o6, o7, e6, e7, ea1, I1⟩ := v_steepest (N := 10000000) (Nat.le_refl _) I (xs (i + 1))
  refine uu_aload_n C dL_law_1163 rfl (k := 2) rfl ?_
  refine lu_arg C hX hbl hL hi (j := 1) (by decide) rfl dL_law_1164 dL_law_1165 dL_law_1166 dL_law_1167 dL_law_1168 ?_
  refine uu_callG C (k_X6_steepest (xa := xa) (xd := xd) (sX := sX) (aX := aX) (uG := uG) (es := es) (ea := ea) (sT := sT) (aT := aT) (tT := tT) (pT := pT) (qT := qT) (ma := ma) (sL := sL) (aL := aL) (tL := tL) (pL := pL) (qL := qL) (sK := sK) (aK := aK) (tK := tK) (pK := pK) (qK := qK) (sH := sH) (rH := rH) (uH := uH) e6) okX6_steepest q4_10 (ci := 6) rfl (q0 := 0) rfl [] (mC cy ad sc ar la) rfl (ws' := (xC cy xd sX o6.2 uG es ea sT aT tT pT qT ma sL aL tL pL qL sK aK tK pK qK sH rH uH ++ mC cy ad sc ar la)) rfl rfl rfl rfl (Nat.le_of_ble_eq_true rfl) ⟨Nat.le_of_ble_eq_true rfl, Nat.le_of_ble_eq_true rfl⟩ ⟨Nat.le_of_ble_eq_true rfl, Nat.le_of_ble_eq_true rfl⟩ dL_law_1169 ?_
  refine uu_aload_n C dL_law_1172 rfl (k := 1) rfl ?_
  refine lu_arg C hX hbl hL hi (j := 1) (by decide) rfl dL_law_1173 dL_law_1174 dL_law_1175 dL_law_1176 dL_law_1177 ?_
  refine uu_callG C (k_X7_steepest (xa := xa) (ad := ad) (sc := sc) (ar := ar) (la := la) e7) okX7_steepest q6_41 (ci := 7) rfl (q0 := 72) rfl (xC cy xd sX o6.2 uG es ea sT aT tT pT qT ma sL aL tL pL qL sK aK tK pK qK sH rH uH) [] (by rw [List.append_nil]) (ws' := (xC cy xd sX o6.2 uG es ea sT aT tT pT qT ma sL aL tL pL qL sK aK tK pK qK sH rH uH ++ mC cy ad sc o7.2 la)) (by rw [List.append_nil]) rfl rfl rfl (Nat.le_of_ble_eq_true rfl) ⟨Nat.le_of_ble_eq_true rfl, Nat.le_of_ble_eq_true rfl⟩ ⟨Nat.le_of_ble_eq_true rfl, Nat.le_of_ble_eq_true rfl⟩ dL_law_1178 ?_
  exact ur_icmp_eq C dL_law_1181 (tgt := 1684) rfl (fun _ => k _ _ _ _ _ _ _ _ _ _ _ _ _ _ _ _ _ _ _ _ _ _ _ _ _ _ _ I1) (fun h => absurd ea1 h)
theorem dL_law_1186 : decode cL_law 1186 = .ok (.aload_n 1, 1) := by decide +kernel
theorem dL_law_1187 : decode cL_law 1187 = .ok (.aload_n 0, 1) := by decide +kernel
theorem dL_law_1188 : decode cL_law 1188 = .ok (.iload_n 3, 1) := by decide +kernel
theorem dL_law_1189 : decode cL_law 1189 = .ok (.iconst 1, 1) := by decide +kernel
theorem dL_law_1190 : decode cL_law 1190 = .ok (.iadd, 1) := by decide +kernel
theorem dL_law_1191 : decode cL_law 1191 = .ok (.iaload, 1) := by decide +kernel
theorem dL_law_1192 : decode cL_law 1192 = .ok (.aload_n 0, 1) := by decide +kernel
theorem dL_law_1193 : decode cL_law 1193 = .ok (.iload_n 3, 1) := by decide +kernel
theorem dL_law_1194 : decode cL_law 1194 = .ok (.iconst 2, 1) := by decide +kernel
theorem dL_law_1195 : decode cL_law 1195 = .ok (.iadd, 1) := by decide +kernel
theorem dL_law_1196 : decode cL_law 1196 = .ok (.iaload, 1) := by decide +kernel
theorem dL_law_1197 : decode cL_law 1197 = .ok (.invokevirtual 143, 3) := by decide +kernel
theorem dL_law_1200 : decode cL_law 1200 = .ok (.aload_n 2, 1) := by decide +kernel
theorem dL_law_1201 : decode cL_law 1201 = .ok (.aload_n 0, 1) := by decide +kernel
theorem dL_law_1202 : decode cL_law 1202 = .ok (.iload_n 3, 1) := by decide +kernel
theorem dL_law_1203 : decode cL_law 1203 = .ok (.iconst 1, 1) := by decide +kernel
theorem dL_law_1204 : decode cL_law 1204 = .ok (.iadd, 1) := by decide +kernel
theorem dL_law_1205 : decode cL_law 1205 = .ok (.iaload, 1) := by decide +kernel
theorem dL_law_1206 : decode cL_law 1206 = .ok (.aload_n 0, 1) := by decide +kernel
theorem dL_law_1207 : decode cL_law 1207 = .ok (.iload_n 3, 1) := by decide +kernel
theorem dL_law_1208 : decode cL_law 1208 = .ok (.iconst 2, 1) := by decide +kernel
theorem dL_law_1209 : decode cL_law 1209 = .ok (.iadd, 1) := by decide +kernel
theorem dL_law_1210 : decode cL_law 1210 = .ok (.iaload, 1) := by decide +kernel
theorem dL_law_1211 : decode cL_law 1211 = .ok (.invokevirtual 147, 3) := by decide +kernel
theorem dL_law_1214 : decode cL_law 1214 = .ok (.lcmp, 1) := by decide +kernel
theorem dL_law_1215 : decode cL_law 1215 = .ok (.ifCond .eq 469, 3) := by decide +kernel
theorem law_down (C : CC p s m #[Value.ref b] meth c code RL 4 ret D cy (fun q => s.heap.size ≤ q) false Bd xa) (hX : va_X b Ln xs s s.heap) (hbl : b < s.heap.size) (hL : Ln ≤ 2560) {sX : S1} {aX : S2} {uG : S1} {es : S1} {ea : S2} {sT : S1} {aT : S2} {tT : S2} {pT : S1} {qT : S2} {ma : S2} {sL : S1} {aL : S2} {tL : S2} {pL : S1} {qL : S2} {sK : S1} {aK : S2} {tK : S2} {pK : S1} {qK : S2} {sH : S2} {rH : S3} {uH : S2} {sc : S1} {ar : S2} {la : S3} (I : INV sX aX uG es ea sT aT tT pT qT ma sL aL tL pL qL sK aK tK pK qK sH rH uH sc ar la) {i : Nat} (hi : i + 5 ≤ Ln) (k : ∀ (sX : S1) (aX : S2) (uG : S1) (es : S1) (ea : S2) (sT : S1) (aT : S2) (tT : S2) (pT : S1) (qT : S2) (ma : S2) (sL : S1) (aL : S2) (tL : S2) (pL : S1) (qL : S2) (sK : S1) (aK : S2) (tK : S2) (pK : S1) (qK : S2) (sH : S2) (rH : S3) (uH : S2) (sc : S1) (ar : S2) (la : S3), INV sX aX uG es ea sT aT tT pT qT ma sL aL tL pL qL sK aK tK pK qK sH rH uH sc ar la → LU p l e s m below meth c D b 1684 i (xd 0 0) (ad 0) [] (xC cy xd sX aX uG es ea sT aT tT pT qT ma sL aL tL pL qL sK aK tK pK qK sH rH uH ++ mC cy ad sc ar la)) : LU p l e s m below meth c D b 1186 i (xd 0 0) (ad 0) [] (xC cy xd sX aX uG es ea sT aT tT pT qT ma sL aL tL pL qL sK aK tK pK qK sH rH uH ++ mC cy ad sc ar la) := by
  obtain ⟨o6, o7, e6, e7, ea1, I1⟩ := v_down (N := 10000000) (Nat.le_refl _) I (xs (i + 1)) (xs (i + 2))
  refine uu_aload_n C dL_law_1186 rfl (k := 2) rfl ?_
  refine lu_arg C hX hbl hL hi (j := 1) (by decide) rfl dL_law_1187 dL_law_1188 dL_law_1189 dL_law_1190 dL_law_1191 ?_
  refine lu_arg C hX hbl hL hi (j := 2) (by decide) rfl dL_law_1192 dL_law_1193 dL_law_1194 dL_law_1195 dL_law_1196 ?_
  refine uu_callG C (k_X6_down (xa := xa) (xd := xd) (sX := sX) (aX := aX) (uG := uG) (es := es) (ea := ea) (sT := sT) (aT := aT) (tT := tT) (pT := pT) (qT := qT) (ma := ma) (sL := sL) (aL := aL) (tL := tL) (pL := pL) (qL := qL) (sK := sK) (aK := aK) (tK := tK) (pK := pK) (qK := qK) (sH := sH) (rH := rH) (uH := uH) e6) okX6_down q4_14 (ci := 6) rfl (q0 := 0) rfl [] (mC cy ad sc ar la) rfl (ws' := (xC cy xd sX o6.2 uG es ea sT aT tT pT qT ma sL aL tL pL qL sK aK tK pK qK sH rH uH ++ mC cy ad sc ar la)) rfl rfl rfl rfl (Nat.le_of_ble_eq_true rfl) ⟨Nat.le_of_ble_eq_true rfl, Nat.le_of_ble_eq_true rfl⟩ ⟨Nat.le_of_ble_eq_true rfl, Nat.le_of_ble_eq_true rfl⟩ dL_law_1197 ?_
  refine uu_aload_n C dL_law_1200 rfl (k := 1) rfl ?_
  refine lu_arg C hX hbl hL hi (j := 1) (by decide) rfl dL_law_1201 dL_law_1202 dL_law_1203 dL_law_1204 dL_law_1205 ?_
  refine lu_arg C hX hbl hL hi (j := 2) (by decide) rfl dL_law_1206 dL_law_1207 dL_law_1208 dL_law_1209 dL_law_1210 ?_
  refine uu_callG C (k_X7_down (xa := xa) (ad := ad) (sc := sc) (ar := ar) (la := la) e7) okX7_down q6_45 (ci := 7) rfl (q0 := 72) rfl (xC cy xd sX o6.2 uG es ea sT aT tT pT qT ma sL aL tL pL qL sK aK tK pK qK sH rH uH) [] (by rw [List.append_nil]) (ws' := (xC cy xd sX o6.2 uG es ea sT aT tT pT qT ma sL aL tL pL qL sK aK tK pK qK sH rH uH ++ mC cy ad o7.2.1 o7.2.2 la)) (by rw [List.append_nil]) rfl rfl rfl (Nat.le_of_ble_eq_true rfl) ⟨Nat.le_of_ble_eq_true rfl, Nat.le_of_ble_eq_true rfl⟩ ⟨Nat.le_of_ble_eq_true rfl, Nat.le_of_ble_eq_true rfl⟩ dL_law_1211 ?_
  refine uu_lcmp C dL_law_1214 ?_
  exact ur_if_eq C dL_law_1215 (tgt := 1684) rfl (fun _ => k _ _ _ _ _ _ _ _ _ _ _ _ _ _ _ _ _ _ _ _ _ _ _ _ _ _ _ I1) (fun h => absurd ((lg_cmp_eq _ _).2 ea1) h)
theorem dL_law_1220 : decode cL_law 1220 = .ok (.aload_n 1, 1) := by decide +kernel
theorem dL_law_1221 : decode cL_law 1221 = .ok (.aload_n 0, 1) := by decide +kernel
theorem dL_law_1222 : decode cL_law 1222 = .ok (.iload_n 3, 1) := by decide +kernel
theorem dL_law_1223 : decode cL_law 1223 = .ok (.iconst 1, 1) := by decide +kernel
theorem dL_law_1224 : decode cL_law 1224 = .ok (.iadd, 1) := by decide +kernel
theorem dL_law_1225 : decode cL_law 1225 = .ok (.iaload, 1) := by decide +kernel
theorem dL_law_1226 : decode cL_law 1226 = .ok (.invokevirtual 148, 3) := by decide +kernel
theorem dL_law_1229 : decode cL_law 1229 = .ok (.aload_n 2, 1) := by decide +kernel
theorem dL_law_1230 : decode cL_law 1230 = .ok (.aload_n 0, 1) := by decide +kernel
theorem dL_law_1231 : decode cL_law 1231 = .ok (.iload_n 3, 1) := by decide +kernel
theorem dL_law_1232 : decode cL_law 1232 = .ok (.iconst 1, 1) := by decide +kernel
theorem dL_law_1233 : decode cL_law 1233 = .ok (.iadd, 1) := by decide +kernel
theorem dL_law_1234 : decode cL_law 1234 = .ok (.iaload, 1) := by decide +kernel
theorem dL_law_1235 : decode cL_law 1235 = .ok (.invokevirtual 151, 3) := by decide +kernel
theorem dL_law_1238 : decode cL_law 1238 = .ok (.lcmp, 1) := by decide +kernel
theorem dL_law_1239 : decode cL_law 1239 = .ok (.ifCond .eq 445, 3) := by decide +kernel
theorem law_mean (C : CC p s m #[Value.ref b] meth c code RL 4 ret D cy (fun q => s.heap.size ≤ q) false Bd xa) (hX : va_X b Ln xs s s.heap) (hbl : b < s.heap.size) (hL : Ln ≤ 2560) {sX : S1} {aX : S2} {uG : S1} {es : S1} {ea : S2} {sT : S1} {aT : S2} {tT : S2} {pT : S1} {qT : S2} {ma : S2} {sL : S1} {aL : S2} {tL : S2} {pL : S1} {qL : S2} {sK : S1} {aK : S2} {tK : S2} {pK : S1} {qK : S2} {sH : S2} {rH : S3} {uH : S2} {sc : S1} {ar : S2} {la : S3} (I : INV sX aX uG es ea sT aT tT pT qT ma sL aL tL pL qL sK aK tK pK qK sH rH uH sc ar la) {i : Nat} (hi : i + 5 ≤ Ln) (k : ∀ (sX : S1) (aX : S2) (uG : S1) (es : S1) (ea : S2) (sT : S1) (aT : S2) (tT : S2) (pT : S1) (qT : S2) (ma : S2) (sL : S1) (aL : S2) (tL : S2) (pL : S1) (qL : S2) (sK : S1) (aK : S2) (tK : S2) (pK : S1) (qK : S2) (sH : S2) (rH : S3) (uH : S2) (sc : S1) (ar : S2) (la : S3), INV sX aX uG es ea sT aT tT pT qT ma sL aL tL pL qL sK aK tK pK qK sH rH uH sc ar la → LU p l e s m below meth c D b 1684 i (xd 0 0) (ad 0) [] (xC cy xd sX aX uG es ea sT aT tT pT qT ma sL aL tL pL qL sK aK tK pK qK sH rH uH ++ mC cy ad sc ar la)) : LU p l e s m below meth c D b 1220 i (xd 0 0) (ad 0) [] (xC cy xd sX aX uG es ea sT aT tT pT qT ma sL aL tL pL qL sK aK tK pK qK sH rH uH ++ mC cy ad sc ar la) := by
  obtain ⟨o6, o7, e6, e7, ea1, I1⟩ := v_mean (N := 10000000) (Nat.le_refl _) I (xs (i + 1))
  refine uu_aload_n C dL_law_1220 rfl (k := 2) rfl ?_
  refine lu_arg C hX hbl hL hi (j := 1) (by decide) rfl dL_law_1221 dL_law_1222 dL_law_1223 dL_law_1224 dL_law_1225 ?_
  refine uu_callG C (k_X6_mean (xa := xa) (xd := xd) (sX := sX) (aX := aX) (uG := uG) (es := es) (ea := ea) (sT := sT) (aT := aT) (tT := tT) (pT := pT) (qT := qT) (ma := ma) (sL := sL) (aL := aL) (tL := tL) (pL := pL) (qL := qL) (sK := sK) (aK := aK) (tK := tK) (pK := pK) (qK := qK) (sH := sH) (rH := rH) (uH := uH) e6) okX6_mean q4_37 (ci := 6) rfl (q0 := 0) rfl [] (mC cy ad sc ar la) rfl (ws' := (xC cy xd sX o6.2 uG es ea sT aT tT pT qT ma sL aL tL pL qL sK aK tK pK qK sH rH uH ++ mC cy ad sc ar la)) rfl rfl rfl rfl (Nat.le_of_ble_eq_true rfl) ⟨Nat.le_of_ble_eq_true rfl, Nat.le_of_ble_eq_true rfl⟩ ⟨Nat.le_of_ble_eq_true rfl, Nat.le_of_ble_eq_true rfl⟩ dL_law_1226 ?_
  refine uu_aload_n C dL_law_1229 rfl (k := 1) rfl ?_
  refine lu_arg C hX hbl hL hi (j := 1) (by decide) rfl dL_law_1230 dL_law_1231 dL_law_1232 dL_law_1233 dL_law_1234 ?_
  refine uu_callG C (k_X7_mean (xa := xa) (ad := ad) (sc := sc) (ar := ar) (la := la) e7) okX7_mean q6_55 (ci := 7) rfl (q0 := 72) rfl (xC cy xd sX o6.2 uG es ea sT aT tT pT qT ma sL aL tL pL qL sK aK tK pK qK sH rH uH) [] (by rw [List.append_nil]) (ws' := (xC cy xd sX o6.2 uG es ea sT aT tT pT qT ma sL aL tL pL qL sK aK tK pK qK sH rH uH ++ mC cy ad sc o7.2 la)) (by rw [List.append_nil]) rfl rfl rfl (Nat.le_of_ble_eq_true rfl) ⟨Nat.le_of_ble_eq_true rfl, Nat.le_of_ble_eq_true rfl⟩ ⟨Nat.le_of_ble_eq_true rfl, Nat.le_of_ble_eq_true rfl⟩ dL_law_1235 ?_
  refine uu_lcmp C dL_law_1238 ?_
  exact ur_if_eq C dL_law_1239 (tgt := 1684) rfl (fun _ => k _ _ _ _ _ _ _ _ _ _ _ _ _ _ _ _ _ _ _ _ _ _ _ _ _ _ _ I1) (fun h => absurd ((lg_cmp_eq _ _).2 ea1) h)
theorem dL_law_1244 : decode cL_law 1244 = .ok (.aload_n 1, 1) := by decide +kernel
theorem dL_law_1245 : decode cL_law 1245 = .ok (.aload_n 0, 1) := by decide +kernel
theorem dL_law_1246 : decode cL_law 1246 = .ok (.iload_n 3, 1) := by decide +kernel
theorem dL_law_1247 : decode cL_law 1247 = .ok (.iconst 1, 1) := by decide +kernel
theorem dL_law_1248 : decode cL_law 1248 = .ok (.iadd, 1) := by decide +kernel
theorem dL_law_1249 : decode cL_law 1249 = .ok (.iaload, 1) := by decide +kernel
theorem dL_law_1250 : decode cL_law 1250 = .ok (.aload_n 0, 1) := by decide +kernel
theorem dL_law_1251 : decode cL_law 1251 = .ok (.iload_n 3, 1) := by decide +kernel
theorem dL_law_1252 : decode cL_law 1252 = .ok (.iconst 2, 1) := by decide +kernel
theorem dL_law_1253 : decode cL_law 1253 = .ok (.iadd, 1) := by decide +kernel
theorem dL_law_1254 : decode cL_law 1254 = .ok (.iaload, 1) := by decide +kernel
theorem dL_law_1255 : decode cL_law 1255 = .ok (.invokevirtual 152, 3) := by decide +kernel
theorem dL_law_1258 : decode cL_law 1258 = .ok (.aload_n 2, 1) := by decide +kernel
theorem dL_law_1259 : decode cL_law 1259 = .ok (.aload_n 0, 1) := by decide +kernel
theorem dL_law_1260 : decode cL_law 1260 = .ok (.iload_n 3, 1) := by decide +kernel
theorem dL_law_1261 : decode cL_law 1261 = .ok (.iconst 1, 1) := by decide +kernel
theorem dL_law_1262 : decode cL_law 1262 = .ok (.iadd, 1) := by decide +kernel
theorem dL_law_1263 : decode cL_law 1263 = .ok (.iaload, 1) := by decide +kernel
theorem dL_law_1264 : decode cL_law 1264 = .ok (.aload_n 0, 1) := by decide +kernel
theorem dL_law_1265 : decode cL_law 1265 = .ok (.iload_n 3, 1) := by decide +kernel
theorem dL_law_1266 : decode cL_law 1266 = .ok (.iconst 2, 1) := by decide +kernel
theorem dL_law_1267 : decode cL_law 1267 = .ok (.iadd, 1) := by decide +kernel
theorem dL_law_1268 : decode cL_law 1268 = .ok (.iaload, 1) := by decide +kernel
theorem dL_law_1269 : decode cL_law 1269 = .ok (.invokevirtual 155, 3) := by decide +kernel
theorem dL_law_1272 : decode cL_law 1272 = .ok (.if_icmp .eq 412, 3) := by decide +kernel
theorem law_name (C : CC p s m #[Value.ref b] meth c code RL 4 ret D cy (fun q => s.heap.size ≤ q) false Bd xa) (hX : va_X b Ln xs s s.heap) (hbl : b < s.heap.size) (hL : Ln ≤ 2560) {sX : S1} {aX : S2} {uG : S1} {es : S1} {ea : S2} {sT : S1} {aT : S2} {tT : S2} {pT : S1} {qT : S2} {ma : S2} {sL : S1} {aL : S2} {tL : S2} {pL : S1} {qL : S2} {sK : S1} {aK : S2} {tK : S2} {pK : S1} {qK : S2} {sH : S2} {rH : S3} {uH : S2} {sc : S1} {ar : S2} {la : S3} (I : INV sX aX uG es ea sT aT tT pT qT ma sL aL tL pL qL sK aK tK pK qK sH rH uH sc ar la) {i : Nat} (hi : i + 5 ≤ Ln) (k : ∀ (sX : S1) (aX : S2) (uG : S1) (es : S1) (ea : S2) (sT : S1) (aT : S2) (tT : S2) (pT : S1) (qT : S2) (ma : S2) (sL : S1) (aL : S2) (tL : S2) (pL : S1) (qL : S2) (sK : S1) (aK : S2) (tK : S2) (pK : S1) (qK : S2) (sH : S2) (rH : S3) (uH : S2) (sc : S1) (ar : S2) (la : S3), INV sX aX uG es ea sT aT tT pT qT ma sL aL tL pL qL sK aK tK pK qK sH rH uH sc ar la → LU p l e s m below meth c D b 1684 i (xd 0 0) (ad 0) [] (xC cy xd sX aX uG es ea sT aT tT pT qT ma sL aL tL pL qL sK aK tK pK qK sH rH uH ++ mC cy ad sc ar la)) : LU p l e s m below meth c D b 1244 i (xd 0 0) (ad 0) [] (xC cy xd sX aX uG es ea sT aT tT pT qT ma sL aL tL pL qL sK aK tK pK qK sH rH uH ++ mC cy ad sc ar la) := by
  obtain ⟨o6, o7, e6, e7, ea1, I1⟩ := v_name (N := 10000000) (Nat.le_refl _) I (xs (i + 1)) (xs (i + 2))
  refine uu_aload_n C dL_law_1244 rfl (k := 2) rfl ?_
  refine lu_arg C hX hbl hL hi (j := 1) (by decide) rfl dL_law_1245 dL_law_1246 dL_law_1247 dL_law_1248 dL_law_1249 ?_
  refine lu_arg C hX hbl hL hi (j := 2) (by decide) rfl dL_law_1250 dL_law_1251 dL_law_1252 dL_law_1253 dL_law_1254 ?_
  refine uu_callG C (k_X6_name (xa := xa) (xd := xd) (sX := sX) (aX := aX) (uG := uG) (es := es) (ea := ea) (sT := sT) (aT := aT) (tT := tT) (pT := pT) (qT := qT) (ma := ma) (sL := sL) (aL := aL) (tL := tL) (pL := pL) (qL := qL) (sK := sK) (aK := aK) (tK := tK) (pK := pK) (qK := qK) (sH := sH) (rH := rH) (uH := uH) e6) okX6_name q4_45 (ci := 6) rfl (q0 := 0) rfl [] (mC cy ad sc ar la) rfl (ws' := (xC cy xd sX o6.2 uG es ea sT aT tT pT qT ma sL aL tL pL qL sK aK tK pK qK sH rH uH ++ mC cy ad sc ar la)) rfl rfl rfl rfl (Nat.le_of_ble_eq_true rfl) ⟨Nat.le_of_ble_eq_true rfl, Nat.le_of_ble_eq_true rfl⟩ ⟨Nat.le_of_ble_eq_true rfl, Nat.le_of_ble_eq_true rfl⟩ dL_law_1255 ?_
  refine uu_aload_n C dL_law_1258 rfl (k := 1) rfl ?_
  refine lu_arg C hX hbl hL hi (j := 1) (by decide) rfl dL_law_1259 dL_law_1260 dL_law_1261 dL_law_1262 dL_law_1263 ?_
  refine lu_arg C hX hbl hL hi (j := 2) (by decide) rfl dL_law_1264 dL_law_1265 dL_law_1266 dL_law_1267 dL_law_1268 ?_
  refine uu_callG C (k_X7_name (xa := xa) (ad := ad) (sc := sc) (ar := ar) (la := la) e7) okX7_name q6_70 (ci := 7) rfl (q0 := 72) rfl (xC cy xd sX o6.2 uG es ea sT aT tT pT qT ma sL aL tL pL qL sK aK tK pK qK sH rH uH) [] (by rw [List.append_nil]) (ws' := (xC cy xd sX o6.2 uG es ea sT aT tT pT qT ma sL aL tL pL qL sK aK tK pK qK sH rH uH ++ mC cy ad sc o7.2 la)) (by rw [List.append_nil]) rfl rfl rfl (Nat.le_of_ble_eq_true rfl) ⟨Nat.le_of_ble_eq_true rfl, Nat.le_of_ble_eq_true rfl⟩ ⟨Nat.le_of_ble_eq_true rfl, Nat.le_of_ble_eq_true rfl⟩ dL_law_1269 ?_
  exact ur_icmp_eq C dL_law_1272 (tgt := 1684) rfl (fun _ => k _ _ _ _ _ _ _ _ _ _ _ _ _ _ _ _ _ _ _ _ _ _ _ _ _ _ _ I1) (fun h => absurd ea1 h)
theorem dL_law_1277 : decode cL_law 1277 = .ok (.aload_n 1, 1) := by decide +kernel
theorem dL_law_1278 : decode cL_law 1278 = .ok (.aload_n 0, 1) := by decide +kernel
theorem dL_law_1279 : decode cL_law 1279 = .ok (.iload_n 3, 1) := by decide +kernel
theorem dL_law_1280 : decode cL_law 1280 = .ok (.iconst 1, 1) := by decide +kernel
theorem dL_law_1281 : decode cL_law 1281 = .ok (.iadd, 1) := by decide +kernel
theorem dL_law_1282 : decode cL_law 1282 = .ok (.iaload, 1) := by decide +kernel
theorem dL_law_1283 : decode cL_law 1283 = .ok (.invokevirtual 156, 3) := by decide +kernel
theorem dL_law_1286 : decode cL_law 1286 = .ok (.aload_n 2, 1) := by decide +kernel
theorem dL_law_1287 : decode cL_law 1287 = .ok (.aload_n 0, 1) := by decide +kernel
theorem dL_law_1288 : decode cL_law 1288 = .ok (.iload_n 3, 1) := by decide +kernel
theorem dL_law_1289 : decode cL_law 1289 = .ok (.iconst 1, 1) := by decide +kernel
theorem dL_law_1290 : decode cL_law 1290 = .ok (.iadd, 1) := by decide +kernel
theorem dL_law_1291 : decode cL_law 1291 = .ok (.iaload, 1) := by decide +kernel
theorem dL_law_1292 : decode cL_law 1292 = .ok (.invokevirtual 159, 3) := by decide +kernel
theorem dL_law_1295 : decode cL_law 1295 = .ok (.if_icmp .eq 389, 3) := by decide +kernel
theorem law_placeAt (C : CC p s m #[Value.ref b] meth c code RL 4 ret D cy (fun q => s.heap.size ≤ q) false Bd xa) (hX : va_X b Ln xs s s.heap) (hbl : b < s.heap.size) (hL : Ln ≤ 2560) {sX : S1} {aX : S2} {uG : S1} {es : S1} {ea : S2} {sT : S1} {aT : S2} {tT : S2} {pT : S1} {qT : S2} {ma : S2} {sL : S1} {aL : S2} {tL : S2} {pL : S1} {qL : S2} {sK : S1} {aK : S2} {tK : S2} {pK : S1} {qK : S2} {sH : S2} {rH : S3} {uH : S2} {sc : S1} {ar : S2} {la : S3} (I : INV sX aX uG es ea sT aT tT pT qT ma sL aL tL pL qL sK aK tK pK qK sH rH uH sc ar la) {i : Nat} (hi : i + 5 ≤ Ln) (k : ∀ (sX : S1) (aX : S2) (uG : S1) (es : S1) (ea : S2) (sT : S1) (aT : S2) (tT : S2) (pT : S1) (qT : S2) (ma : S2) (sL : S1) (aL : S2) (tL : S2) (pL : S1) (qL : S2) (sK : S1) (aK : S2) (tK : S2) (pK : S1) (qK : S2) (sH : S2) (rH : S3) (uH : S2) (sc : S1) (ar : S2) (la : S3), INV sX aX uG es ea sT aT tT pT qT ma sL aL tL pL qL sK aK tK pK qK sH rH uH sc ar la → LU p l e s m below meth c D b 1684 i (xd 0 0) (ad 0) [] (xC cy xd sX aX uG es ea sT aT tT pT qT ma sL aL tL pL qL sK aK tK pK qK sH rH uH ++ mC cy ad sc ar la)) : LU p l e s m below meth c D b 1277 i (xd 0 0) (ad 0) [] (xC cy xd sX aX uG es ea sT aT tT pT qT ma sL aL tL pL qL sK aK tK pK qK sH rH uH ++ mC cy ad sc ar la) := by
  obtain ⟨o6, o7, e6, e7, ea1, I1⟩ := v_placeAt (N := 10000000) (Nat.le_refl _) I (xs (i + 1))
  refine uu_aload_n C dL_law_1277 rfl (k := 2) rfl ?_
  refine lu_arg C hX hbl hL hi (j := 1) (by decide) rfl dL_law_1278 dL_law_1279 dL_law_1280 dL_law_1281 dL_law_1282 ?_
  refine uu_callG C (k_X6_placeAt (xa := xa) (xd := xd) (sX := sX) (aX := aX) (uG := uG) (es := es) (ea := ea) (sT := sT) (aT := aT) (tT := tT) (pT := pT) (qT := qT) (ma := ma) (sL := sL) (aL := aL) (tL := tL) (pL := pL) (qL := qL) (sK := sK) (aK := aK) (tK := tK) (pK := pK) (qK := qK) (sH := sH) (rH := rH) (uH := uH) e6) okX6_placeAt q4_57 (ci := 6) rfl (q0 := 0) rfl [] (mC cy ad sc ar la) rfl (ws' := (xC cy xd sX o6.2 uG es ea sT aT tT pT qT ma sL aL tL pL qL sK aK tK pK qK sH rH uH ++ mC cy ad sc ar la)) rfl rfl rfl rfl (Nat.le_of_ble_eq_true rfl) ⟨Nat.le_of_ble_eq_true rfl, Nat.le_of_ble_eq_true rfl⟩ ⟨Nat.le_of_ble_eq_true rfl, Nat.le_of_ble_eq_true rfl⟩ dL_law_1283 ?_
  refine uu_aload_n C dL_law_1286 rfl (k := 1) rfl ?_
  refine lu_arg C hX hbl hL hi (j := 1) (by decide) rfl dL_law_1287 dL_law_1288 dL_law_1289 dL_law_1290 dL_law_1291 ?_
  refine uu_callG C (k_X7_placeAt (xa := xa) (ad := ad) (sc := sc) (ar := ar) (la := la) e7) okX7_placeAt q6_74 (ci := 7) rfl (q0 := 72) rfl (xC cy xd sX o6.2 uG es ea sT aT tT pT qT ma sL aL tL pL qL sK aK tK pK qK sH rH uH) [] (by rw [List.append_nil]) (ws' := (xC cy xd sX o6.2 uG es ea sT aT tT pT qT ma sL aL tL pL qL sK aK tK pK qK sH rH uH ++ mC cy ad sc o7.2 la)) (by rw [List.append_nil]) rfl rfl rfl (Nat.le_of_ble_eq_true rfl) ⟨Nat.le_of_ble_eq_true rfl, Nat.le_of_ble_eq_true rfl⟩ ⟨Nat.le_of_ble_eq_true rfl, Nat.le_of_ble_eq_true rfl⟩ dL_law_1292 ?_
  exact ur_icmp_eq C dL_law_1295 (tgt := 1684) rfl (fun _ => k _ _ _ _ _ _ _ _ _ _ _ _ _ _ _ _ _ _ _ _ _ _ _ _ _ _ _ I1) (fun h => absurd ea1 h)
theorem dL_law_1300 : decode cL_law 1300 = .ok (.aload_n 1, 1) := by decide +kernel
theorem dL_law_1301 : decode cL_law 1301 = .ok (.aload_n 0, 1) := by decide +kernel
theorem dL_law_1302 : decode cL_law 1302 = .ok (.iload_n 3, 1) := by decide +kernel
theorem dL_law_1303 : decode cL_law 1303 = .ok (.iconst 1, 1) := by decide +kernel
theorem dL_law_1304 : decode cL_law 1304 = .ok (.iadd, 1) := by decide +kernel
theorem dL_law_1305 : decode cL_law 1305 = .ok (.iaload, 1) := by decide +kernel
theorem dL_law_1306 : decode cL_law 1306 = .ok (.aload_n 0, 1) := by decide +kernel
theorem dL_law_1307 : decode cL_law 1307 = .ok (.iload_n 3, 1) := by decide +kernel
theorem dL_law_1308 : decode cL_law 1308 = .ok (.iconst 2, 1) := by decide +kernel
theorem dL_law_1309 : decode cL_law 1309 = .ok (.iadd, 1) := by decide +kernel
theorem dL_law_1310 : decode cL_law 1310 = .ok (.iaload, 1) := by decide +kernel
theorem dL_law_1311 : decode cL_law 1311 = .ok (.aload_n 0, 1) := by decide +kernel
theorem dL_law_1312 : decode cL_law 1312 = .ok (.iload_n 3, 1) := by decide +kernel
theorem dL_law_1313 : decode cL_law 1313 = .ok (.iconst 3, 1) := by decide +kernel
theorem dL_law_1314 : decode cL_law 1314 = .ok (.iadd, 1) := by decide +kernel
theorem dL_law_1315 : decode cL_law 1315 = .ok (.iaload, 1) := by decide +kernel
theorem dL_law_1316 : decode cL_law 1316 = .ok (.invokevirtual 160, 3) := by decide +kernel
theorem dL_law_1319 : decode cL_law 1319 = .ok (.aload_n 2, 1) := by decide +kernel
theorem dL_law_1320 : decode cL_law 1320 = .ok (.aload_n 0, 1) := by decide +kernel
theorem dL_law_1321 : decode cL_law 1321 = .ok (.iload_n 3, 1) := by decide +kernel
theorem dL_law_1322 : decode cL_law 1322 = .ok (.iconst 1, 1) := by decide +kernel
theorem dL_law_1323 : decode cL_law 1323 = .ok (.iadd, 1) := by decide +kernel
theorem dL_law_1324 : decode cL_law 1324 = .ok (.iaload, 1) := by decide +kernel
theorem dL_law_1325 : decode cL_law 1325 = .ok (.aload_n 0, 1) := by decide +kernel
theorem dL_law_1326 : decode cL_law 1326 = .ok (.iload_n 3, 1) := by decide +kernel
theorem dL_law_1327 : decode cL_law 1327 = .ok (.iconst 2, 1) := by decide +kernel
theorem dL_law_1328 : decode cL_law 1328 = .ok (.iadd, 1) := by decide +kernel
theorem dL_law_1329 : decode cL_law 1329 = .ok (.iaload, 1) := by decide +kernel
theorem dL_law_1330 : decode cL_law 1330 = .ok (.aload_n 0, 1) := by decide +kernel
theorem dL_law_1331 : decode cL_law 1331 = .ok (.iload_n 3, 1) := by decide +kernel
theorem dL_law_1332 : decode cL_law 1332 = .ok (.iconst 3, 1) := by decide +kernel
theorem dL_law_1333 : decode cL_law 1333 = .ok (.iadd, 1) := by decide +kernel
theorem dL_law_1334 : decode cL_law 1334 = .ok (.iaload, 1) := by decide +kernel
theorem dL_law_1335 : decode cL_law 1335 = .ok (.invokevirtual 163, 3) := by decide +kernel
theorem dL_law_1338 : decode cL_law 1338 = .ok (.if_icmp .eq 346, 3) := by decide +kernel
theorem law_shelf (C : CC p s m #[Value.ref b] meth c code RL 4 ret D cy (fun q => s.heap.size ≤ q) false Bd xa) (hX : va_X b Ln xs s s.heap) (hbl : b < s.heap.size) (hL : Ln ≤ 2560) {sX : S1} {aX : S2} {uG : S1} {es : S1} {ea : S2} {sT : S1} {aT : S2} {tT : S2} {pT : S1} {qT : S2} {ma : S2} {sL : S1} {aL : S2} {tL : S2} {pL : S1} {qL : S2} {sK : S1} {aK : S2} {tK : S2} {pK : S1} {qK : S2} {sH : S2} {rH : S3} {uH : S2} {sc : S1} {ar : S2} {la : S3} (I : INV sX aX uG es ea sT aT tT pT qT ma sL aL tL pL qL sK aK tK pK qK sH rH uH sc ar la) {i : Nat} (hi : i + 5 ≤ Ln) (k : ∀ (sX : S1) (aX : S2) (uG : S1) (es : S1) (ea : S2) (sT : S1) (aT : S2) (tT : S2) (pT : S1) (qT : S2) (ma : S2) (sL : S1) (aL : S2) (tL : S2) (pL : S1) (qL : S2) (sK : S1) (aK : S2) (tK : S2) (pK : S1) (qK : S2) (sH : S2) (rH : S3) (uH : S2) (sc : S1) (ar : S2) (la : S3), INV sX aX uG es ea sT aT tT pT qT ma sL aL tL pL qL sK aK tK pK qK sH rH uH sc ar la → LU p l e s m below meth c D b 1684 i (xd 0 0) (ad 0) [] (xC cy xd sX aX uG es ea sT aT tT pT qT ma sL aL tL pL qL sK aK tK pK qK sH rH uH ++ mC cy ad sc ar la)) : LU p l e s m below meth c D b 1300 i (xd 0 0) (ad 0) [] (xC cy xd sX aX uG es ea sT aT tT pT qT ma sL aL tL pL qL sK aK tK pK qK sH rH uH ++ mC cy ad sc ar la) := by
  obtain ⟨o6, o7, e6, e7, ea1, I1⟩ := v_shelf (N := 10000000) (Nat.le_refl _) I (xs (i + 1)) (xs (i + 2)) (xs (i + 3))
  refine uu_aload_n C dL_law_1300 rfl (k := 2) rfl ?_
  refine lu_arg C hX hbl hL hi (j := 1) (by decide) rfl dL_law_1301 dL_law_1302 dL_law_1303 dL_law_1304 dL_law_1305 ?_
  refine lu_arg C hX hbl hL hi (j := 2) (by decide) rfl dL_law_1306 dL_law_1307 dL_law_1308 dL_law_1309 dL_law_1310 ?_
  refine lu_arg C hX hbl hL hi (j := 3) (by decide) rfl dL_law_1311 dL_law_1312 dL_law_1313 dL_law_1314 dL_law_1315 ?_
  refine uu_callG C (k_X6_shelf (xa := xa) (xd := xd) (sX := sX) (aX := aX) (uG := uG) (es := es) (ea := ea) (sT := sT) (aT := aT) (tT := tT) (pT := pT) (qT := qT) (ma := ma) (sL := sL) (aL := aL) (tL := tL) (pL := pL) (qL := qL) (sK := sK) (aK := aK) (tK := tK) (pK := pK) (qK := qK) (sH := sH) (rH := rH) (uH := uH) e6) okX6_shelf q4_61 (ci := 6) rfl (q0 := 0) rfl [] (mC cy ad sc ar la) rfl (ws' := (xC cy xd sX o6.2.1 uG es ea sT aT tT pT qT ma sL aL tL pL qL sK aK tK pK qK o6.2.2.1 o6.2.2.2 uH ++ mC cy ad sc ar la)) rfl rfl rfl rfl (Nat.le_of_ble_eq_true rfl) ⟨Nat.le_of_ble_eq_true rfl, Nat.le_of_ble_eq_true rfl⟩ ⟨Nat.le_of_ble_eq_true rfl, Nat.le_of_ble_eq_true rfl⟩ dL_law_1316 ?_
  refine uu_aload_n C dL_law_1319 rfl (k := 1) rfl ?_
  refine lu_arg C hX hbl hL hi (j := 1) (by decide) rfl dL_law_1320 dL_law_1321 dL_law_1322 dL_law_1323 dL_law_1324 ?_
  refine lu_arg C hX hbl hL hi (j := 2) (by decide) rfl dL_law_1325 dL_law_1326 dL_law_1327 dL_law_1328 dL_law_1329 ?_
  refine lu_arg C hX hbl hL hi (j := 3) (by decide) rfl dL_law_1330 dL_law_1331 dL_law_1332 dL_law_1333 dL_law_1334 ?_
  refine uu_callG C (k_X7_shelf (xa := xa) (ad := ad) (sc := sc) (ar := ar) (la := la) e7) okX7_shelf q6_78 (ci := 7) rfl (q0 := 72) rfl (xC cy xd sX o6.2.1 uG es ea sT aT tT pT qT ma sL aL tL pL qL sK aK tK pK qK o6.2.2.1 o6.2.2.2 uH) [] (by rw [List.append_nil]) (ws' := (xC cy xd sX o6.2.1 uG es ea sT aT tT pT qT ma sL aL tL pL qL sK aK tK pK qK o6.2.2.1 o6.2.2.2 uH ++ mC cy ad sc o7.2.1 o7.2.2)) (by rw [List.append_nil]) rfl rfl rfl (Nat.le_of_ble_eq_true rfl) ⟨Nat.le_of_ble_eq_true rfl, Nat.le_of_ble_eq_true rfl⟩ ⟨Nat.le_of_ble_eq_true rfl, Nat.le_of_ble_eq_true rfl⟩ dL_law_1335 ?_
  exact ur_icmp_eq C dL_law_1338 (tgt := 1684) rfl (fun _ => k _ _ _ _ _ _ _ _ _ _ _ _ _ _ _ _ _ _ _ _ _ _ _ _ _ _ _ I1) (fun h => absurd ea1 h)
end LWc2
