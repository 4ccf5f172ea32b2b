section LWcL
variable {p : Program} {l : Launch} {e : Env} {s : State} {m : MethodId} {below : List Frame} {meth : Method} {c : Code} {D : va_G} {cy : Nat → ClassId} {Bd : Nat} {xa : Xa} {b Ln : Nat} {xs : Nat → Int32} {xd : Nat → Nat → Nat} {ad : Nat → Nat}
theorem dL_law_18 : decode cL_law 18 = .ok (.iload_n 3, 1) := by decide +kernel
theorem dL_law_19 : decode cL_law 19 = .ok (.aload_n 0, 1) := by decide +kernel
theorem dL_law_20 : decode cL_law 20 = .ok (.arraylength, 1) := by decide +kernel
theorem dL_law_21 : decode cL_law 21 = .ok (.iconst 5, 1) := by decide +kernel
theorem dL_law_22 : decode cL_law 22 = .ok (.isub, 1) := by decide +kernel
theorem dL_law_23 : decode cL_law 23 = .ok (.if_icmp .gt 1667, 3) := by decide +kernel
theorem dL_law_1690 : decode cL_law 1690 = .ok (.iconst 1, 1) := by decide +kernel
theorem dL_law_1691 : decode cL_law 1691 = .ok (.ireturn, 1) := by decide +kernel
theorem dL_law_1684 : decode cL_law 1684 = .ok (.iinc 3 5, 3) := by decide +kernel
theorem dL_law_1687 : decode cL_law 1687 = .ok (.goto (-1669), 3) := by decide +kernel
theorem dL_law_26 : decode cL_law 26 = .ok (.aload_n 0, 1) := by decide +kernel
theorem dL_law_27 : decode cL_law 27 = .ok (.iload_n 3, 1) := by decide +kernel
theorem dL_law_28 : decode cL_law 28 = .ok (.iaload, 1) := by decide +kernel
theorem dL_law_29 : decode cL_law 29 = .ok (.bipush 63, 2) := by decide +kernel
theorem dL_law_31 : decode cL_law 31 = .ok (.iand, 1) := by decide +kernel
theorem dL_law_32 : decode cL_law 32 = .ok (.tableswitch 1652 0 45 #[200, 223, 236, 259, 292, 335, 358, 391, 434, 487, 510, 543, 576, 609, 632, 665, 718, 761, 794, 827, 840, 863, 886, 910, 923, 956, 989, 1022, 1055, 1098, 1131, 1154, 1188, 1212, 1245, 1268, 1311, 1344, 1417, 1451, 1484, 1527, 1560, 1603, 1616, 1629], 200) := by decide +kernel
theorem law_exit (C : CC p s m #[Value.ref b] meth c code RL 4 ret D cy (fun q => s.heap.size ≤ q) false Bd xa) (hX : va_X b Ln xs s s.heap) (hbl : b < s.heap.size) (hL : Ln ≤ 2560) {i ax am : Nat} {ws : va_W} (hi : Ln < i + 5) (hi2 : i ≤ 3000) : LU p l e s m below meth c D b 18 i ax am [] ws := by
  refine uu_iload_n C dL_law_18 rfl (k := 0) rfl ?_
  refine uu_aload_n C dL_law_19 rfl (k := 3) rfl ?_
  refine uu_slen C hX hbl (lw_b hbl) dL_law_20 ?_
  refine uu_iconst C (v := iI 5) dL_law_21 rfl ?_
  refine uu_isub C dL_law_22 ?_
  rw [show Int32.ofNat Ln = iI (Ln : Int) from iI_lit Ln, iI_sub]
  refine ur_icmp_gt C dL_law_23 (tgt := 1690) rfl (fun _ => ?_) (fun h => absurd (lt_iI (by omega) (by omega) (by omega)) h)
  refine uu_iconst C (v := 1) dL_law_1690 (by decide) ?_
  exact lu_end C dL_law_1691
set_option maxHeartbeats 4000000 in
theorem law_sw (C : CC p s m #[Value.ref b] meth c code RL 4 ret D cy (fun q => s.heap.size ≤ q) false Bd xa) (hX : va_X b Ln xs s s.heap) (hbl : b < s.heap.size) (hL : Ln ≤ 2560) {sX : S1} {aX : S2} {uG : S1} {es : S1} {ea : S2} {sT : S1} {aT : S2} {tT : S2} {pT : S1} {qT : S2} {ma : S2} {sL : S1} {aL : S2} {tL : S2} {pL : S1} {qL : S2} {sK : S1} {aK : S2} {tK : S2} {pK : S1} {qK : S2} {sH : S2} {rH : S3} {uH : S2} {sc : S1} {ar : S2} {la : S3} (I : INV sX aX uG es ea sT aT tT pT qT ma sL aL tL pL qL sK aK tK pK qK sH rH uH sc ar la) {i : Nat} (hi : i + 5 ≤ Ln) (next : ∀ (sX : S1) (aX : S2) (uG : S1) (es : S1) (ea : S2) (sT : S1) (aT : S2) (tT : S2) (pT : S1) (qT : S2) (ma : S2) (sL : S1) (aL : S2) (tL : S2) (pL : S1) (qL : S2) (sK : S1) (aK : S2) (tK : S2) (pK : S1) (qK : S2) (sH : S2) (rH : S3) (uH : S2) (sc : S1) (ar : S2) (la : S3), INV sX aX uG es ea sT aT tT pT qT ma sL aL tL pL qL sK aK tK pK qK sH rH uH sc ar la → LU p l e s m below meth c D b 1684 i (xd 0 0) (ad 0) [] (xC cy xd sX aX uG es ea sT aT tT pT qT ma sL aL tL pL qL sK aK tK pK qK sH rH uH ++ mC cy ad sc ar la)) {v : Int32} : LU p l e s m below meth c D b 32 i (xd 0 0) (ad 0) [.int v] (xC cy xd sX aX uG es ea sT aT tT pT qT ma sL aL tL pL qL sK aK tK pK qK sH rH uH ++ mC cy ad sc ar la) := by
  by_cases hv : v.toInt < 0 ∨ 45 < v.toInt
  · exact uu_tabOut C dL_law_32 hv (tgt := 1684) rfl (next _ _ _ _ _ _ _ _ _ _ _ _ _ _ _ _ _ _ _ _ _ _ _ _ _ _ _ I)
  · rcases (show v.toInt = 0 ∨ v.toInt = 1 ∨ v.toInt = 2 ∨ v.toInt = 3 ∨ v.toInt = 4 ∨ v.toInt = 5 ∨ v.toInt = 6 ∨ v.toInt = 7 ∨ v.toInt = 8 ∨ v.toInt = 9 ∨ v.toInt = 10 ∨ v.toInt = 11 ∨ v.toInt = 12 ∨ v.toInt = 13 ∨ v.toInt = 14 ∨ v.toInt = 15 ∨ v.toInt = 16 ∨ v.toInt = 17 ∨ v.toInt = 18 ∨ v.toInt = 19 ∨ v.toInt = 20 ∨ v.toInt = 21 ∨ v.toInt = 22 ∨ v.toInt = 23 ∨ v.toInt = 24 ∨ v.toInt = 25 ∨ v.toInt = 26 ∨ v.toInt = 27 ∨ v.toInt = 28 ∨ v.toInt = 29 ∨ v.toInt = 30 ∨ v.toInt = 31 ∨ v.toInt = 32 ∨ v.toInt = 33 ∨ v.toInt = 34 ∨ v.toInt = 35 ∨ v.toInt = 36 ∨ v.toInt = 37 ∨ v.toInt = 38 ∨ v.toInt = 39 ∨ v.toInt = 40 ∨ v.toInt = 41 ∨ v.toInt = 42 ∨ v.toInt = 43 ∨ v.toInt = 44 ∨ v.toInt = 45 by omega) with ht | ht | ht | ht | ht | ht | ht | ht | ht | ht | ht | ht | ht | ht | ht | ht | ht | ht | ht | ht | ht | ht | ht | ht | ht | ht | ht | ht | ht | ht | ht | ht | ht | ht | ht | ht | ht | ht | ht | ht | ht | ht | ht | ht | ht | ht
    · exact uu_tabIn C dL_law_32 (by omega) (by omega) (off := 200) (by rw [ht]; rfl) (tgt := 232) rfl (law_letter C hX hbl hL I hi next)
    · exact uu_tabIn C dL_law_32 (by omega) (by omega) (off := 223) (by rw [ht]; rfl) (tgt := 255) rfl (law_tells C hX hbl hL I hi next)
    · exact uu_tabIn C dL_law_32 (by omega) (by omega) (off := 236) (by rw [ht]; rfl) (tgt := 268) rfl (law_cells C hX hbl hL I hi next)
    · exact uu_tabIn C dL_law_32 (by omega) (by omega) (off := 259) (by rw [ht]; rfl) (tgt := 291) rfl (law_ground C hX hbl hL I hi next)
    · exact uu_tabIn C dL_law_32 (by omega) (by omega) (off := 292) (by rw [ht]; rfl) (tgt := 324) rfl (law_bridge C hX hbl hL I hi next)
    · exact uu_tabIn C dL_law_32 (by omega) (by omega) (off := 335) (by rw [ht]; rfl) (tgt := 367) rfl (law_fells C hX hbl hL I hi next)
    · exact uu_tabIn C dL_law_32 (by omega) (by omega) (off := 358) (by rw [ht]; rfl) (tgt := 390) rfl (law_post C hX hbl hL I hi next)
    · exact uu_tabIn C dL_law_32 (by omega) (by omega) (off := 391) (by rw [ht]; rfl) (tgt := 423) rfl (law_sets C hX hbl hL I hi next)
    · exact uu_tabIn C dL_law_32 (by omega) (by omega) (off := 434) (by rw [ht]; rfl) (tgt := 466) rfl (law_train C hX hbl hL I hi next)
    · exact uu_tabIn C dL_law_32 (by omega) (by omega) (off := 487) (by rw [ht]; rfl) (tgt := 519) rfl (law_need C hX hbl hL I hi next)
    · exact uu_tabIn C dL_law_32 (by omega) (by omega) (off := 510) (by rw [ht]; rfl) (tgt := 542) rfl (law_ofBridge C hX hbl hL I hi next)
    · exact uu_tabIn C dL_law_32 (by omega) (by omega) (off := 543) (by rw [ht]; rfl) (tgt := 575) rfl (law_ofPost C hX hbl hL I hi next)
    · exact uu_tabIn C dL_law_32 (by omega) (by omega) (off := 576) (by rw [ht]; rfl) (tgt := 608) rfl (law_ofTrain C hX hbl hL I hi next)
    · exact uu_tabIn C dL_law_32 (by omega) (by omega) (off := 609) (by rw [ht]; rfl) (tgt := 641) rfl (law_height C hX hbl hL I hi next)
    · exact uu_tabIn C dL_law_32 (by omega) (by omega) (off := 632) (by rw [ht]; rfl) (tgt := 664) rfl (law_time C hX hbl hL I hi next)
    · exact uu_tabIn C dL_law_32 (by omega) (by omega) (off := 665) (by rw [ht]; rfl) (tgt := 697) rfl (law_sight C hX hbl hL I hi next)
    · exact uu_tabIn C dL_law_32 (by omega) (by omega) (off := 718) (by rw [ht]; rfl) (tgt := 750) rfl (law_sees C hX hbl hL I hi next)
    · exact uu_tabIn C dL_law_32 (by omega) (by omega) (off := 761) (by rw [ht]; rfl) (tgt := 793) rfl (law_first C hX hbl hL I hi next)
    · exact uu_tabIn C dL_law_32 (by omega) (by omega) (off := 794) (by rw [ht]; rfl) (tgt := 826) rfl (law_warned C hX hbl hL I hi next)
    · exact uu_tabIn C dL_law_32 (by omega) (by omega) (off := 827) (by rw [ht]; rfl) (tgt := 859) rfl (law_safe C hX hbl hL I hi next)
    · exact uu_tabIn C dL_law_32 (by omega) (by omega) (off := 840) (by rw [ht]; rfl) (tgt := 872) rfl (law_moved C hX hbl hL I hi next)
    · exact uu_tabIn C dL_law_32 (by omega) (by omega) (off := 863) (by rw [ht]; rfl) (tgt := 895) rfl (law_raised C hX hbl hL I hi next)
    · exact uu_tabIn C dL_law_32 (by omega) (by omega) (off := 886) (by rw [ht]; rfl) (tgt := 918) rfl (law_freed C hX hbl hL I hi next)
    · exact uu_tabIn C dL_law_32 (by omega) (by omega) (off := 910) (by rw [ht]; rfl) (tgt := 942) rfl (law_worst C hX hbl hL I hi next)
    · exact uu_tabIn C dL_law_32 (by omega) (by omega) (off := 923) (by rw [ht]; rfl) (tgt := 955) rfl (law_slowest C hX hbl hL I hi next)
    · exact uu_tabIn C dL_law_32 (by omega) (by omega) (off := 956) (by rw [ht]; rfl) (tgt := 988) rfl (law_atOnce C hX hbl hL I hi next)
    · exact uu_tabIn C dL_law_32 (by omega) (by omega) (off := 989) (by rw [ht]; rfl) (tgt := 1021) rfl (law_most C hX hbl hL I hi next)
    · exact uu_tabIn C dL_law_32 (by omega) (by omega) (off := 1022) (by rw [ht]; rfl) (tgt := 1054) rfl (law_nearest C hX hbl hL I hi next)
    · exact uu_tabIn C dL_law_32 (by omega) (by omega) (off := 1055) (by rw [ht]; rfl) (tgt := 1087) rfl (law_shadow C hX hbl hL I hi next)
    · exact uu_tabIn C dL_law_32 (by omega) (by omega) (off := 1098) (by rw [ht]; rfl) (tgt := 1130) rfl (law_alike C hX hbl hL I hi next)
    · exact uu_tabIn C dL_law_32 (by omega) (by omega) (off := 1131) (by rw [ht]; rfl) (tgt := 1163) rfl (law_steepest C hX hbl hL I hi next)
    · exact uu_tabIn C dL_law_32 (by omega) (by omega) (off := 1154) (by rw [ht]; rfl) (tgt := 1186) rfl (law_down C hX hbl hL I hi next)
    · exact uu_tabIn C dL_law_32 (by omega) (by omega) (off := 1188) (by rw [ht]; rfl) (tgt := 1220) rfl (law_mean C hX hbl hL I hi next)
    · exact uu_tabIn C dL_law_32 (by omega) (by omega) (off := 1212) (by rw [ht]; rfl) (tgt := 1244) rfl (law_name C hX hbl hL I hi next)
    · exact uu_tabIn C dL_law_32 (by omega) (by omega) (off := 1245) (by rw [ht]; rfl) (tgt := 1277) rfl (law_placeAt C hX hbl hL I hi next)
    · exact uu_tabIn C dL_law_32 (by omega) (by omega) (off := 1268) (by rw [ht]; rfl) (tgt := 1300) rfl (law_shelf C hX hbl hL I hi next)
    · exact uu_tabIn C dL_law_32 (by omega) (by omega) (off := 1311) (by rw [ht]; rfl) (tgt := 1343) rfl (law_lay C hX hbl hL I hi next)
    · exact uu_tabIn C dL_law_32 (by omega) (by omega) (off := 1344) (by rw [ht]; rfl) (tgt := 1376) rfl (law_put C hX hbl hL I hi next)
    · exact uu_tabIn C dL_law_32 (by omega) (by omega) (off := 1417) (by rw [ht]; rfl) (tgt := 1449) rfl (law_look C hX hbl hL I hi next)
    · exact uu_tabIn C dL_law_32 (by omega) (by omega) (off := 1451) (by rw [ht]; rfl) (tgt := 1483) rfl (law_taken C hX hbl hL I hi next)
    · exact uu_tabIn C dL_law_32 (by omega) (by omega) (off := 1484) (by rw [ht]; rfl) (tgt := 1516) rfl (law_whatIs C hX hbl hL I hi next)
    · exact uu_tabIn C dL_law_32 (by omega) (by omega) (off := 1527) (by rw [ht]; rfl) (tgt := 1559) rfl (law_judge C hX hbl hL I hi next)
    · exact uu_tabIn C dL_law_32 (by omega) (by omega) (off := 1560) (by rw [ht]; rfl) (tgt := 1592) rfl (law_lots C hX hbl hL I hi next)
    · exact uu_tabIn C dL_law_32 (by omega) (by omega) (off := 1603) (by rw [ht]; rfl) (tgt := 1635) rfl (law_image C hX hbl hL I hi next)
    · exact uu_tabIn C dL_law_32 (by omega) (by omega) (off := 1616) (by rw [ht]; rfl) (tgt := 1648) rfl (law_on C hX hbl hL I hi next)
    · exact uu_tabIn C dL_law_32 (by omega) (by omega) (off := 1629) (by rw [ht]; rfl) (tgt := 1661) rfl (law_count C hX hbl hL I hi next)
set_option maxHeartbeats 4000000 in
theorem law_loop (C : CC p s m #[Value.ref b] meth c code RL 4 ret D cy (fun q => s.heap.size ≤ q) false Bd xa) (hX : va_X b Ln xs s s.heap) (hbl : b < s.heap.size) (hL : Ln ≤ 2560) : ∀ (f i : Nat) (sX : S1) (aX : S2) (uG : S1) (es : S1) (ea : S2) (sT : S1) (aT : S2) (tT : S2) (pT : S1) (qT : S2) (ma : S2) (sL : S1) (aL : S2) (tL : S2) (pL : S1) (qL : S2) (sK : S1) (aK : S2) (tK : S2) (pK : S1) (qK : S2) (sH : S2) (rH : S3) (uH : S2) (sc : S1) (ar : S2) (la : S3), INV sX aX uG es ea sT aT tT pT qT ma sL aL tL pL qL sK aK tK pK qK sH rH uH sc ar la → Ln ≤ i + f → i ≤ Ln + 5 → LU p l e s m below meth c D b 18 i (xd 0 0) (ad 0) [] (xC cy xd sX aX uG es ea sT aT tT pT qT ma sL aL tL pL qL sK aK tK pK qK sH rH uH ++ mC cy ad sc ar la) := by
  intro f
  induction f with
  | zero =>
    intro i sX aX uG es ea sT aT tT pT qT ma sL aL tL pL qL sK aK tK pK qK sH rH uH sc ar la I h1 h2
    exact law_exit C hX hbl hL (by omega) (by omega)
  | succ f ih =>
    intro i sX aX uG es ea sT aT tT pT qT ma sL aL tL pL qL sK aK tK pK qK sH rH uH sc ar la I h1 h2
    by_cases hi : i + 5 ≤ Ln
    · have next : ∀ (sX : S1) (aX : S2) (uG : S1) (es : S1) (ea : S2) (sT : S1) (aT : S2) (tT : S2) (pT : S1) (qT : S2) (ma : S2) (sL : S1) (aL : S2) (tL : S2) (pL : S1) (qL : S2) (sK : S1) (aK : S2) (tK : S2) (pK : S1) (qK : S2) (sH : S2) (rH : S3) (uH : S2) (sc : S1) (ar : S2) (la : S3), INV sX aX uG es ea sT aT tT pT qT ma sL aL tL pL qL sK aK tK pK qK sH rH uH sc ar la → LU p l e s m below meth c D b 1684 i (xd 0 0) (ad 0) [] (xC cy xd sX aX uG es ea sT aT tT pT qT ma sL aL tL pL qL sK aK tK pK qK sH rH uH ++ mC cy ad sc ar la) := by
        intro sX aX uG es ea sT aT tT pT qT ma sL aL tL pL qL sK aK tK pK qK sH rH uH sc ar la I2
        refine uu_iinc C dL_law_1684 (k := 0) (x := iI (i : Int)) (v := iI ((i + 5 : Nat) : Int)) rfl (iI_add (i : Int) 5) (by decide) (L' := [(3, .int (iI ((i + 5 : Nat) : Int))), (2, .ref (ad 0)), (1, .ref (xd 0 0)), (0, .ref b)]) rfl ?_
        exact uu_goto C dL_law_1687 (tgt := 18) rfl (ih (i + 5) _ _ _ _ _ _ _ _ _ _ _ _ _ _ _ _ _ _ _ _ _ _ _ _ _ _ _ I2 (by omega) (by omega))
      refine uu_iload_n C dL_law_18 rfl (k := 0) rfl ?_
      refine uu_aload_n C dL_law_19 rfl (k := 3) rfl ?_
      refine uu_slen C hX hbl (lw_b hbl) dL_law_20 ?_
      refine uu_iconst C (v := iI 5) dL_law_21 rfl ?_
      refine uu_isub C dL_law_22 ?_
      rw [show Int32.ofNat Ln = iI (Ln : Int) from iI_lit Ln, iI_sub]
      refine ur_icmp_gt C dL_law_23 (tgt := 1690) rfl (fun h => absurd h (nlt_iI (by omega) (by omega) (by omega))) (fun _ => ?_)
      refine uu_aload_n C dL_law_26 rfl (k := 3) rfl ?_
      refine uu_iload_n C dL_law_27 rfl (k := 0) rfl ?_
      refine uu_sld C hX hbl (lw_b hbl) (ob_nat (show i < Ln by omega) (by omega)) dL_law_28 ?_
      refine uu_bipush C (v := 63) dL_law_29 (by decide) ?_
      refine uu_iand C dL_law_31 ?_
      generalize (xs (ix (iI (i : Int))) &&& 63) = v
      exact law_sw C hX hbl hL I hi next
    · exact law_exit C hX hbl hL (by omega) (by omega)
end LWcL
