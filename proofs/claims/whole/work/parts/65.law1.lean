section LWc1
variable {p : Program} {l : Launch} {e : Env} {s : State} {m : MethodId} {below : List Frame} {meth : Method} {c : Code} {D : va_G} {cy : Nat → ClassId} {Bd : Nat} {xa : Xa} {b Ln : Nat} {xs : Nat → Int32} {xd : Nat → Nat → Nat} {ad : Nat → Nat}
theorem dL_law_608 : decode cL_law 608 = .ok (.aload_n 1, 1) := by decide +kernel
theorem dL_law_609 : decode cL_law 609 = .ok (.aload_n 0, 1) := by decide +kernel
theorem dL_law_610 : decode cL_law 610 = .ok (.iload_n 3, 1) := by decide +kernel
theorem dL_law_611 : decode cL_law 611 = .ok (.iconst 1, 1) := by decide +kernel
theorem dL_law_612 : decode cL_law 612 = .ok (.iadd, 1) := by decide +kernel
theorem dL_law_613 : decode cL_law 613 = .ok (.iaload, 1) := by decide +kernel
theorem dL_law_614 : decode cL_law 614 = .ok (.aload_n 0, 1) := by decide +kernel
theorem dL_law_615 : decode cL_law 615 = .ok (.iload_n 3, 1) := by decide +kernel
theorem dL_law_616 : decode cL_law 616 = .ok (.iconst 2, 1) := by decide +kernel
theorem dL_law_617 : decode cL_law 617 = .ok (.iadd, 1) := by decide +kernel
theorem dL_law_618 : decode cL_law 618 = .ok (.iaload, 1) := by decide +kernel
theorem dL_law_619 : decode cL_law 619 = .ok (.invokevirtual 66, 3) := by decide +kernel
theorem dL_law_622 : decode cL_law 622 = .ok (.aload_n 2, 1) := by decide +kernel
theorem dL_law_623 : decode cL_law 623 = .ok (.aload_n 0, 1) := by decide +kernel
theorem dL_law_624 : decode cL_law 624 = .ok (.iload_n 3, 1) := by decide +kernel
theorem dL_law_625 : decode cL_law 625 = .ok (.iconst 1, 1) := by decide +kernel
theorem dL_law_626 : decode cL_law 626 = .ok (.iadd, 1) := by decide +kernel
theorem dL_law_627 : decode cL_law 627 = .ok (.iaload, 1) := by decide +kernel
theorem dL_law_628 : decode cL_law 628 = .ok (.aload_n 0, 1) := by decide +kernel
theorem dL_law_629 : decode cL_law 629 = .ok (.iload_n 3, 1) := by decide +kernel
theorem dL_law_630 : decode cL_law 630 = .ok (.iconst 2, 1) := by decide +kernel
theorem dL_law_631 : decode cL_law 631 = .ok (.iadd, 1) := by decide +kernel
theorem dL_law_632 : decode cL_law 632 = .ok (.iaload, 1) := by decide +kernel
theorem dL_law_633 : decode cL_law 633 = .ok (.invokevirtual 69, 3) := by decide +kernel
theorem dL_law_636 : decode cL_law 636 = .ok (.if_icmp .eq 1048, 3) := by decide +kernel
theorem law_ofTrain (C : CC p s m #[Value.ref b] meth c code RL 4 ret D cy (fun q => s.heap.size ≤ q) false Bd xa) (hX : va_X b Ln xs s s.heap) (hbl : b < s.heap.size) (hL : Ln ≤ 2560) {sX : S1} {aX : S2} {uG : S1} {es : S1} {ea : S2} {sT : S1} {aT : S2} {tT : S2} {pT : S1} {qT : S2} {ma : S2} {sL : S1} {aL : S2} {tL : S2} {pL : S1} {qL : S2} {sK : S1} {aK : S2} {tK : S2} {pK : S1} {qK : S2} {sH : S2} {rH : S3} {uH : S2} {sc : S1} {ar : S2} {la : S3} (I : INV sX aX uG es ea sT aT tT pT qT ma sL aL tL pL qL sK aK tK pK qK sH rH uH sc ar la) {i : Nat} (hi : i + 5 ≤ Ln) (k : ∀ (sX : S1) (aX : S2) (uG : S1) (es : S1) (ea : S2) (sT : S1) (aT : S2) (tT : S2) (pT : S1) (qT : S2) (ma : S2) (sL : S1) (aL : S2) (tL : S2) (pL : S1) (qL : S2) (sK : S1) (aK : S2) (tK : S2) (pK : S1) (qK : S2) (sH : S2) (rH : S3) (uH : S2) (sc : S1) (ar : S2) (la : S3), INV sX aX uG es ea sT aT tT pT qT ma sL aL tL pL qL sK aK tK pK qK sH rH uH sc ar la → LU p l e s m below meth c D b 1684 i (xd 0 0) (ad 0) [] (xC cy xd sX aX uG es ea sT aT tT pT qT ma sL aL tL pL qL sK aK tK pK qK sH rH uH ++ mC cy ad sc ar la)) : LU p l e s m below meth c D b 608 i (xd 0 0) (ad 0) [] (xC cy xd sX aX uG es ea sT aT tT pT qT ma sL aL tL pL qL sK aK tK pK qK sH rH uH ++ mC cy ad sc ar la) := by
  obtain ⟨o6, o7, e6, e7, ea1, I1⟩ := v_ofTrain (N := 10000000) (Nat.le_refl _) I (xs (i + 1)) (xs (i + 2))
  refine uu_aload_n C dL_law_608 rfl (k := 2) rfl ?_
  refine lu_arg C hX hbl hL hi (j := 1) (by decide) rfl dL_law_609 dL_law_610 dL_law_611 dL_law_612 dL_law_613 ?_
  refine lu_arg C hX hbl hL hi (j := 2) (by decide) rfl dL_law_614 dL_law_615 dL_law_616 dL_law_617 dL_law_618 ?_
  refine uu_callG C (k_X6_ofTrain (xa := xa) (xd := xd) (sX := sX) (aX := aX) (uG := uG) (es := es) (ea := ea) (sT := sT) (aT := aT) (tT := tT) (pT := pT) (qT := qT) (ma := ma) (sL := sL) (aL := aL) (tL := tL) (pL := pL) (qL := qL) (sK := sK) (aK := aK) (tK := tK) (pK := pK) (qK := qK) (sH := sH) (rH := rH) (uH := uH) e6) okX6_ofTrain q3_39 (ci := 6) rfl (q0 := 0) rfl [] (mC cy ad sc ar la) rfl (ws' := (xC cy xd sX o6.2 uG es ea sT aT tT pT qT ma sL aL tL pL qL sK aK tK pK qK sH rH uH ++ mC cy ad sc ar la)) rfl rfl rfl rfl (Nat.le_of_ble_eq_true rfl) ⟨Nat.le_of_ble_eq_true rfl, Nat.le_of_ble_eq_true rfl⟩ ⟨Nat.le_of_ble_eq_true rfl, Nat.le_of_ble_eq_true rfl⟩ dL_law_619 ?_
  refine uu_aload_n C dL_law_622 rfl (k := 1) rfl ?_
  refine lu_arg C hX hbl hL hi (j := 1) (by decide) rfl dL_law_623 dL_law_624 dL_law_625 dL_law_626 dL_law_627 ?_
  refine lu_arg C hX hbl hL hi (j := 2) (by decide) rfl dL_law_628 dL_law_629 dL_law_630 dL_law_631 dL_law_632 ?_
  refine uu_callG C (k_X7_ofTrain (xa := xa) (ad := ad) (sc := sc) (ar := ar) (la := la) e7) okX7_ofTrain q5_99 (ci := 7) rfl (q0 := 72) rfl (xC cy xd sX o6.2 uG es ea sT aT tT pT qT ma sL aL tL pL qL sK aK tK pK qK sH rH uH) [] (by rw [List.append_nil]) (ws' := (xC cy xd sX o6.2 uG es ea sT aT tT pT qT ma sL aL tL pL qL sK aK tK pK qK sH rH uH ++ mC cy ad sc o7.2 la)) (by rw [List.append_nil]) rfl rfl rfl (Nat.le_of_ble_eq_true rfl) ⟨Nat.le_of_ble_eq_true rfl, Nat.le_of_ble_eq_true rfl⟩ ⟨Nat.le_of_ble_eq_true rfl, Nat.le_of_ble_eq_true rfl⟩ dL_law_633 ?_
  exact ur_icmp_eq C dL_law_636 (tgt := 1684) rfl (fun _ => k _ _ _ _ _ _ _ _ _ _ _ _ _ _ _ _ _ _ _ _ _ _ _ _ _ _ _ I1) (fun h => absurd ea1 h)
theorem dL_law_641 : decode cL_law 641 = .ok (.aload_n 1, 1) := by decide +kernel
theorem dL_law_642 : decode cL_law 642 = .ok (.aload_n 0, 1) := by decide +kernel
theorem dL_law_643 : decode cL_law 643 = .ok (.iload_n 3, 1) := by decide +kernel
theorem dL_law_644 : decode cL_law 644 = .ok (.iconst 1, 1) := by decide +kernel
theorem dL_law_645 : decode cL_law 645 = .ok (.iadd, 1) := by decide +kernel
theorem dL_law_646 : decode cL_law 646 = .ok (.iaload, 1) := by decide +kernel
theorem dL_law_647 : decode cL_law 647 = .ok (.invokevirtual 70, 3) := by decide +kernel
theorem dL_law_650 : decode cL_law 650 = .ok (.aload_n 2, 1) := by decide +kernel
theorem dL_law_651 : decode cL_law 651 = .ok (.aload_n 0, 1) := by decide +kernel
theorem dL_law_652 : decode cL_law 652 = .ok (.iload_n 3, 1) := by decide +kernel
theorem dL_law_653 : decode cL_law 653 = .ok (.iconst 1, 1) := by decide +kernel
theorem dL_law_654 : decode cL_law 654 = .ok (.iadd, 1) := by decide +kernel
theorem dL_law_655 : decode cL_law 655 = .ok (.iaload, 1) := by decide +kernel
theorem dL_law_656 : decode cL_law 656 = .ok (.invokevirtual 73, 3) := by decide +kernel
theorem dL_law_659 : decode cL_law 659 = .ok (.if_icmp .eq 1025, 3) := by decide +kernel
theorem law_height (C : CC p s m #[Value.ref b] meth c code RL 4 ret D cy (fun q => s.heap.size ≤ q) false Bd xa) (hX : va_X b Ln xs s s.heap) (hbl : b < s.heap.size) (hL : Ln ≤ 2560) {sX : S1} {aX : S2} {uG : S1} {es : S1} {ea : S2} {sT : S1} {aT : S2} {tT : S2} {pT : S1} {qT : S2} {ma : S2} {sL : S1} {aL : S2} {tL : S2} {pL : S1} {qL : S2} {sK : S1} {aK : S2} {tK : S2} {pK : S1} {qK : S2} {sH : S2} {rH : S3} {uH : S2} {sc : S1} {ar : S2} {la : S3} (I : INV sX aX uG es ea sT aT tT pT qT ma sL aL tL pL qL sK aK tK pK qK sH rH uH sc ar la) {i : Nat} (hi : i + 5 ≤ Ln) (k : ∀ (sX : S1) (aX : S2) (uG : S1) (es : S1) (ea : S2) (sT : S1) (aT : S2) (tT : S2) (pT : S1) (qT : S2) (ma : S2) (sL : S1) (aL : S2) (tL : S2) (pL : S1) (qL : S2) (sK : S1) (aK : S2) (tK : S2) (pK : S1) (qK : S2) (sH : S2) (rH : S3) (uH : S2) (sc : S1) (ar : S2) (la : S3), INV sX aX uG es ea sT aT tT pT qT ma sL aL tL pL qL sK aK tK pK qK sH rH uH sc ar la → LU p l e s m below meth c D b 1684 i (xd 0 0) (ad 0) [] (xC cy xd sX aX uG es ea sT aT tT pT qT ma sL aL tL pL qL sK aK tK pK qK sH rH uH ++ mC cy ad sc ar la)) : LU p l e s m below meth c D b 641 i (xd 0 0) (ad 0) [] (xC cy xd sX aX uG es ea sT aT tT pT qT ma sL aL tL pL qL sK aK tK pK qK sH rH uH ++ mC cy ad sc ar la) := by
  obtain ⟨o6, o7, e6, e7, ea1, I1⟩ := v_height (N := 10000000) (Nat.le_refl _) I (xs (i + 1))
  refine uu_aload_n C dL_law_641 rfl (k := 2) rfl ?_
  refine lu_arg C hX hbl hL hi (j := 1) (by decide) rfl dL_law_642 dL_law_643 dL_law_644 dL_law_645 dL_law_646 ?_
  refine uu_callG C (k_X6_height (xa := xa) (xd := xd) (sX := sX) (aX := aX) (uG := uG) (es := es) (ea := ea) (sT := sT) (aT := aT) (tT := tT) (pT := pT) (qT := qT) (ma := ma) (sL := sL) (aL := aL) (tL := tL) (pL := pL) (qL := qL) (sK := sK) (aK := aK) (tK := tK) (pK := pK) (qK := qK) (sH := sH) (rH := rH) (uH := uH) e6) okX6_height q3_51 (ci := 6) rfl (q0 := 0) rfl [] (mC cy ad sc ar la) rfl (ws' := (xC cy xd sX o6.2 uG es ea sT aT tT pT qT ma sL aL tL pL qL sK aK tK pK qK sH rH uH ++ mC cy ad sc ar la)) rfl rfl rfl rfl (Nat.le_of_ble_eq_true rfl) ⟨Nat.le_of_ble_eq_true rfl, Nat.le_of_ble_eq_true rfl⟩ ⟨Nat.le_of_ble_eq_true rfl, Nat.le_of_ble_eq_true rfl⟩ dL_law_647 ?_
  refine uu_aload_n C dL_law_650 rfl (k := 1) rfl ?_
  refine lu_arg C hX hbl hL hi (j := 1) (by decide) rfl dL_law_651 dL_law_652 dL_law_653 dL_law_654 dL_law_655 ?_
  refine uu_callG C (k_X7_height (xa := xa) (ad := ad) (sc := sc) (ar := ar) (la := la) e7) okX7_height q5_114 (ci := 7) rfl (q0 := 72) rfl (xC cy xd sX o6.2 uG es ea sT aT tT pT qT ma sL aL tL pL qL sK aK tK pK qK sH rH uH) [] (by rw [List.append_nil]) (ws' := (xC cy xd sX o6.2 uG es ea sT aT tT pT qT ma sL aL tL pL qL sK aK tK pK qK sH rH uH ++ mC cy ad sc o7.2 la)) (by rw [List.append_nil]) rfl rfl rfl (Nat.le_of_ble_eq_true rfl) ⟨Nat.le_of_ble_eq_true rfl, Nat.le_of_ble_eq_true rfl⟩ ⟨Nat.le_of_ble_eq_true rfl, Nat.le_of_ble_eq_true rfl⟩ dL_law_656 ?_
  exact ur_icmp_eq C dL_law_659 (tgt := 1684) rfl (fun _ => k _ _ _ _ _ _ _ _ _ _ _ _ _ _ _ _ _ _ _ _ _ _ _ _ _ _ _ I1) (fun h => absurd ea1 h)
theorem dL_law_664 : decode cL_law 664 = .ok (.aload_n 1, 1) := by decide +kernel
theorem dL_law_665 : decode cL_law 665 = .ok (.aload_n 0, 1) := by decide +kernel
theorem dL_law_666 : decode cL_law 666 = .ok (.iload_n 3, 1) := by decide +kernel
theorem dL_law_667 : decode cL_law 667 = .ok (.iconst 1, 1) := by decide +kernel
theorem dL_law_668 : decode cL_law 668 = .ok (.iadd, 1) := by decide +kernel
theorem dL_law_669 : decode cL_law 669 = .ok (.iaload, 1) := by decide +kernel
theorem dL_law_670 : decode cL_law 670 = .ok (.aload_n 0, 1) := by decide +kernel
theorem dL_law_671 : decode cL_law 671 = .ok (.iload_n 3, 1) := by decide +kernel
theorem dL_law_672 : decode cL_law 672 = .ok (.iconst 2, 1) := by decide +kernel
theorem dL_law_673 : decode cL_law 673 = .ok (.iadd, 1) := by decide +kernel
theorem dL_law_674 : decode cL_law 674 = .ok (.iaload, 1) := by decide +kernel
theorem dL_law_675 : decode cL_law 675 = .ok (.invokevirtual 74, 3) := by decide +kernel
theorem dL_law_678 : decode cL_law 678 = .ok (.aload_n 2, 1) := by decide +kernel
theorem dL_law_679 : decode cL_law 679 = .ok (.aload_n 0, 1) := by decide +kernel
theorem dL_law_680 : decode cL_law 680 = .ok (.iload_n 3, 1) := by decide +kernel
theorem dL_law_681 : decode cL_law 681 = .ok (.iconst 1, 1) := by decide +kernel
theorem dL_law_682 : decode cL_law 682 = .ok (.iadd, 1) := by decide +kernel
theorem dL_law_683 : decode cL_law 683 = .ok (.iaload, 1) := by decide +kernel
theorem dL_law_684 : decode cL_law 684 = .ok (.aload_n 0, 1) := by decide +kernel
theorem dL_law_685 : decode cL_law 685 = .ok (.iload_n 3, 1) := by decide +kernel
theorem dL_law_686 : decode cL_law 686 = .ok (.iconst 2, 1) := by decide +kernel
theorem dL_law_687 : decode cL_law 687 = .ok (.iadd, 1) := by decide +kernel
theorem dL_law_688 : decode cL_law 688 = .ok (.iaload, 1) := by decide +kernel
theorem dL_law_689 : decode cL_law 689 = .ok (.invokevirtual 77, 3) := by decide +kernel
theorem dL_law_692 : decode cL_law 692 = .ok (.if_icmp .eq 992, 3) := by decide +kernel
theorem law_time (C : CC p s m #[Value.ref b] meth c code RL 4 ret D cy (fun q => s.heap.size ≤ q) false Bd xa) (hX : va_X b Ln xs s s.heap) (hbl : b < s.heap.size) (hL : Ln ≤ 2560) {sX : S1} {aX : S2} {uG : S1} {es : S1} {ea : S2} {sT : S1} {aT : S2} {tT : S2} {pT : S1} {qT : S2} {ma : S2} {sL : S1} {aL : S2} {tL : S2} {pL : S1} {qL : S2} {sK : S1} {aK : S2} {tK : S2} {pK : S1} {qK : S2} {sH : S2} {rH : S3} {uH : S2} {sc : S1} {ar : S2} {la : S3} (I : INV sX aX uG es ea sT aT tT pT qT ma sL aL tL pL qL sK aK tK pK qK sH rH uH sc ar la) {i : Nat} (hi : i + 5 ≤ Ln) (k : ∀ (sX : S1) (aX : S2) (uG : S1) (es : S1) (ea : S2) (sT : S1) (aT : S2) (tT : S2) (pT : S1) (qT : S2) (ma : S2) (sL : S1) (aL : S2) (tL : S2) (pL : S1) (qL : S2) (sK : S1) (aK : S2) (tK : S2) (pK : S1) (qK : S2) (sH : S2) (rH : S3) (uH : S2) (sc : S1) (ar : S2) (la : S3), INV sX aX uG es ea sT aT tT pT qT ma sL aL tL pL qL sK aK tK pK qK sH rH uH sc ar la → LU p l e s m below meth c D b 1684 i (xd 0 0) (ad 0) [] (xC cy xd sX aX uG es ea sT aT tT pT qT ma sL aL tL pL qL sK aK tK pK qK sH rH uH ++ mC cy ad sc ar la)) : LU p l e s m below meth c D b 664 i (xd 0 0) (ad 0) [] (xC cy xd sX aX uG es ea sT aT tT pT qT ma sL aL tL pL qL sK aK tK pK qK sH rH uH ++ mC cy ad sc ar la) := by
  obtain ⟨o6, o7, e6, e7, ea1, I1⟩ := v_time (N := 10000000) (Nat.le_refl _) I (xs (i + 1)) (xs (i + 2))
  refine uu_aload_n C dL_law_664 rfl (k := 2) rfl ?_
  refine lu_arg C hX hbl hL hi (j := 1) (by decide) rfl dL_law_665 dL_law_666 dL_law_667 dL_law_668 dL_law_669 ?_
  refine lu_arg C hX hbl hL hi (j := 2) (by decide) rfl dL_law_670 dL_law_671 dL_law_672 dL_law_673 dL_law_674 ?_
  refine uu_callG C (k_X6_time (xa := xa) (xd := xd) (sX := sX) (aX := aX) (uG := uG) (es := es) (ea := ea) (sT := sT) (aT := aT) (tT := tT) (pT := pT) (qT := qT) (ma := ma) (sL := sL) (aL := aL) (tL := tL) (pL := pL) (qL := qL) (sK := sK) (aK := aK) (tK := tK) (pK := pK) (qK := qK) (sH := sH) (rH := rH) (uH := uH) e6) okX6_time q3_56 (ci := 6) rfl (q0 := 0) rfl [] (mC cy ad sc ar la) rfl (ws' := (xC cy xd sX o6.2 uG es ea sT aT tT pT qT ma sL aL tL pL qL sK aK tK pK qK sH rH uH ++ mC cy ad sc ar la)) rfl rfl rfl rfl (Nat.le_of_ble_eq_true rfl) ⟨Nat.le_of_ble_eq_true rfl, Nat.le_of_ble_eq_true rfl⟩ ⟨Nat.le_of_ble_eq_true rfl, Nat.le_of_ble_eq_true rfl⟩ dL_law_675 ?_
  refine uu_aload_n C dL_law_678 rfl (k := 1) rfl ?_
  refine lu_arg C hX hbl hL hi (j := 1) (by decide) rfl dL_law_679 dL_law_680 dL_law_681 dL_law_682 dL_law_683 ?_
  refine lu_arg C hX hbl hL hi (j := 2) (by decide) rfl dL_law_684 dL_law_685 dL_law_686 dL_law_687 dL_law_688 ?_
  refine uu_callG C (k_X7_time (xa := xa) (ad := ad) (sc := sc) (ar := ar) (la := la) e7) okX7_time q5_118 (ci := 7) rfl (q0 := 72) rfl (xC cy xd sX o6.2 uG es ea sT aT tT pT qT ma sL aL tL pL qL sK aK tK pK qK sH rH uH) [] (by rw [List.append_nil]) (ws' := (xC cy xd sX o6.2 uG es ea sT aT tT pT qT ma sL aL tL pL qL sK aK tK pK qK sH rH uH ++ mC cy ad sc o7.2 la)) (by rw [List.append_nil]) rfl rfl rfl (Nat.le_of_ble_eq_true rfl) ⟨Nat.le_of_ble_eq_true rfl, Nat.le_of_ble_eq_true rfl⟩ ⟨Nat.le_of_ble_eq_true rfl, Nat.le_of_ble_eq_true rfl⟩ dL_law_689 ?_
  exact ur_icmp_eq C dL_law_692 (tgt := 1684) rfl (fun _ => k _ _ _ _ _ _ _ _ _ _ _ _ _ _ _ _ _ _ _ _ _ _ _ _ _ _ _ I1) (fun h => absurd ea1 h)
theorem dL_law_697 : decode cL_law 697 = .ok (.aload_n 1, 1) := by decide +kernel
theorem dL_law_698 : decode cL_law 698 = .ok (.aload_n 0, 1) := by decide +kernel
theorem dL_law_699 : decode cL_law 699 = .ok (.iload_n 3, 1) := by decide +kernel
theorem dL_law_700 : decode cL_law 700 = .ok (.iconst 1, 1) := by decide +kernel
theorem dL_law_701 : decode cL_law 701 = .ok (.iadd, 1) := by decide +kernel
theorem dL_law_702 : decode cL_law 702 = .ok (.iaload, 1) := by decide +kernel
theorem dL_law_703 : decode cL_law 703 = .ok (.aload_n 0, 1) := by decide +kernel
theorem dL_law_704 : decode cL_law 704 = .ok (.iload_n 3, 1) := by decide +kernel
theorem dL_law_705 : decode cL_law 705 = .ok (.iconst 2, 1) := by decide +kernel
theorem dL_law_706 : decode cL_law 706 = .ok (.iadd, 1) := by decide +kernel
theorem dL_law_707 : decode cL_law 707 = .ok (.iaload, 1) := by decide +kernel
theorem dL_law_708 : decode cL_law 708 = .ok (.aload_n 0, 1) := by decide +kernel
theorem dL_law_709 : decode cL_law 709 = .ok (.iload_n 3, 1) := by decide +kernel
theorem dL_law_710 : decode cL_law 710 = .ok (.iconst 3, 1) := by decide +kernel
theorem dL_law_711 : decode cL_law 711 = .ok (.iadd, 1) := by decide +kernel
theorem dL_law_712 : decode cL_law 712 = .ok (.iaload, 1) := by decide +kernel
theorem dL_law_713 : decode cL_law 713 = .ok (.aload_n 0, 1) := by decide +kernel
theorem dL_law_714 : decode cL_law 714 = .ok (.iload_n 3, 1) := by decide +kernel
theorem dL_law_715 : decode cL_law 715 = .ok (.iconst 4, 1) := by decide +kernel
theorem dL_law_716 : decode cL_law 716 = .ok (.iadd, 1) := by decide +kernel
theorem dL_law_717 : decode cL_law 717 = .ok (.iaload, 1) := by decide +kernel
theorem dL_law_718 : decode cL_law 718 = .ok (.invokevirtual 78, 3) := by decide +kernel
theorem dL_law_721 : decode cL_law 721 = .ok (.aload_n 2, 1) := by decide +kernel
theorem dL_law_722 : decode cL_law 722 = .ok (.aload_n 0, 1) := by decide +kernel
theorem dL_law_723 : decode cL_law 723 = .ok (.iload_n 3, 1) := by decide +kernel
theorem dL_law_724 : decode cL_law 724 = .ok (.iconst 1, 1) := by decide +kernel
theorem dL_law_725 : decode cL_law 725 = .ok (.iadd, 1) := by decide +kernel
theorem dL_law_726 : decode cL_law 726 = .ok (.iaload, 1) := by decide +kernel
theorem dL_law_727 : decode cL_law 727 = .ok (.aload_n 0, 1) := by decide +kernel
theorem dL_law_728 : decode cL_law 728 = .ok (.iload_n 3, 1) := by decide +kernel
theorem dL_law_729 : decode cL_law 729 = .ok (.iconst 2, 1) := by decide +kernel
theorem dL_law_730 : decode cL_law 730 = .ok (.iadd, 1) := by decide +kernel
theorem dL_law_731 : decode cL_law 731 = .ok (.iaload, 1) := by decide +kernel
theorem dL_law_732 : decode cL_law 732 = .ok (.aload_n 0, 1) := by decide +kernel
theorem dL_law_733 : decode cL_law 733 = .ok (.iload_n 3, 1) := by decide +kernel
theorem dL_law_734 : decode cL_law 734 = .ok (.iconst 3, 1) := by decide +kernel
theorem dL_law_735 : decode cL_law 735 = .ok (.iadd, 1) := by decide +kernel
theorem dL_law_736 : decode cL_law 736 = .ok (.iaload, 1) := by decide +kernel
theorem dL_law_737 : decode cL_law 737 = .ok (.aload_n 0, 1) := by decide +kernel
theorem dL_law_738 : decode cL_law 738 = .ok (.iload_n 3, 1) := by decide +kernel
theorem dL_law_739 : decode cL_law 739 = .ok (.iconst 4, 1) := by decide +kernel
theorem dL_law_740 : decode cL_law 740 = .ok (.iadd, 1) := by decide +kernel
theorem dL_law_741 : decode cL_law 741 = .ok (.iaload, 1) := by decide +kernel
theorem dL_law_742 : decode cL_law 742 = .ok (.invokevirtual 81, 3) := by decide +kernel
theorem dL_law_745 : decode cL_law 745 = .ok (.if_icmp .eq 939, 3) := by decide +kernel
theorem law_sight (C : CC p s m #[Value.ref b] meth c code RL 4 ret D cy (fun q => s.heap.size ≤ q) false Bd xa) (hX : va_X b Ln xs s s.heap) (hbl : b < s.heap.size) (hL : Ln ≤ 2560) {sX : S1} {aX : S2} {uG : S1} {es : S1} {ea : S2} {sT : S1} {aT : S2} {tT : S2} {pT : S1} {qT : S2} {ma : S2} {sL : S1} {aL : S2} {tL : S2} {pL : S1} {qL : S2} {sK : S1} {aK : S2} {tK : S2} {pK : S1} {qK : S2} {sH : S2} {rH : S3} {uH : S2} {sc : S1} {ar : S2} {la : S3} (I : INV sX aX uG es ea sT aT tT pT qT ma sL aL tL pL qL sK aK tK pK qK sH rH uH sc ar la) {i : Nat} (hi : i + 5 ≤ Ln) (k : ∀ (sX : S1) (aX : S2) (uG : S1) (es : S1) (ea : S2) (sT : S1) (aT : S2) (tT : S2) (pT : S1) (qT : S2) (ma : S2) (sL : S1) (aL : S2) (tL : S2) (pL : S1) (qL : S2) (sK : S1) (aK : S2) (tK : S2) (pK : S1) (qK : S2) (sH : S2) (rH : S3) (uH : S2) (sc : S1) (ar : S2) (la : S3), INV sX aX uG es ea sT aT tT pT qT ma sL aL tL pL qL sK aK tK pK qK sH rH uH sc ar la → LU p l e s m below meth c D b 1684 i (xd 0 0) (ad 0) [] (xC cy xd sX aX uG es ea sT aT tT pT qT ma sL aL tL pL qL sK aK tK pK qK sH rH uH ++ mC cy ad sc ar la)) : LU p l e s m below meth c D b 697 i (xd 0 0) (ad 0) [] (xC cy xd sX aX uG es ea sT aT tT pT qT ma sL aL tL pL qL sK aK tK pK qK sH rH uH ++ mC cy ad sc ar la) := by
  obtain ⟨o6, o7, e6, e7, ea1, I1⟩ := v_sight (N := 10000000) (Nat.le_refl _) I (xs (i + 1)) (xs (i + 2)) (xs (i + 3)) (xs (i + 4))
  refine uu_aload_n C dL_law_697 rfl (k := 2) rfl ?_
  refine lu_arg C hX hbl hL hi (j := 1) (by decide) rfl dL_law_698 dL_law_699 dL_law_700 dL_law_701 dL_law_702 ?_
  refine lu_arg C hX hbl hL hi (j := 2) (by decide) rfl dL_law_703 dL_law_704 dL_law_705 dL_law_706 dL_law_707 ?_
  refine lu_arg C hX hbl hL hi (j := 3) (by decide) rfl dL_law_708 dL_law_709 dL_law_710 dL_law_711 dL_law_712 ?_
  refine lu_arg C hX hbl hL hi (j := 4) (by decide) rfl dL_law_713 dL_law_714 dL_law_715 dL_law_716 dL_law_717 ?_
  refine uu_callG C (k_X6_sight (xa := xa) (xd := xd) (sX := sX) (aX := aX) (uG := uG) (es := es) (ea := ea) (sT := sT) (aT := aT) (tT := tT) (pT := pT) (qT := qT) (ma := ma) (sL := sL) (aL := aL) (tL := tL) (pL := pL) (qL := qL) (sK := sK) (aK := aK) (tK := tK) (pK := pK) (qK := qK) (sH := sH) (rH := rH) (uH := uH) e6) okX6_sight q3_84 (ci := 6) rfl (q0 := 0) rfl [] (mC cy ad sc ar la) rfl (ws' := (xC cy xd sX o6.2 uG es ea sT aT tT pT qT ma sL aL tL pL qL sK aK tK pK qK sH rH uH ++ mC cy ad sc ar la)) rfl rfl rfl rfl (Nat.le_of_ble_eq_true rfl) ⟨Nat.le_of_ble_eq_true rfl, Nat.le_of_ble_eq_true rfl⟩ ⟨Nat.le_of_ble_eq_true rfl, Nat.le_of_ble_eq_true rfl⟩ dL_law_718 ?_
  refine uu_aload_n C dL_law_721 rfl (k := 1) rfl ?_
  refine lu_arg C hX hbl hL hi (j := 1) (by decide) rfl dL_law_722 dL_law_723 dL_law_724 dL_law_725 dL_law_726 ?_
  refine lu_arg C hX hbl hL hi (j := 2) (by decide) rfl dL_law_727 dL_law_728 dL_law_729 dL_law_730 dL_law_731 ?_
  refine lu_arg C hX hbl hL hi (j := 3) (by decide) rfl dL_law_732 dL_law_733 dL_law_734 dL_law_735 dL_law_736 ?_
  refine lu_arg C hX hbl hL hi (j := 4) (by decide) rfl dL_law_737 dL_law_738 dL_law_739 dL_law_740 dL_law_741 ?_
  refine uu_callG C (k_X7_sight (xa := xa) (ad := ad) (sc := sc) (ar := ar) (la := la) e7) okX7_sight q5_135 (ci := 7) rfl (q0 := 72) rfl (xC cy xd sX o6.2 uG es ea sT aT tT pT qT ma sL aL tL pL qL sK aK tK pK qK sH rH uH) [] (by rw [List.append_nil]) (ws' := (xC cy xd sX o6.2 uG es ea sT aT tT pT qT ma sL aL tL pL qL sK aK tK pK qK sH rH uH ++ mC cy ad sc o7.2 la)) (by rw [List.append_nil]) rfl rfl rfl (Nat.le_of_ble_eq_true rfl) ⟨Nat.le_of_ble_eq_true rfl, Nat.le_of_ble_eq_true rfl⟩ ⟨Nat.le_of_ble_eq_true rfl, Nat.le_of_ble_eq_true rfl⟩ dL_law_742 ?_
  exact ur_icmp_eq C dL_law_745 (tgt := 1684) rfl (fun _ => k _ _ _ _ _ _ _ _ _ _ _ _ _ _ _ _ _ _ _ _ _ _ _ _ _ _ _ I1) (fun h => absurd ea1 h)
theorem dL_law_750 : decode cL_law 750 = .ok (.aload_n 1, 1) := by decide +kernel
theorem dL_law_751 : decode cL_law 751 = .ok (.aload_n 0, 1) := by decide +kernel
theorem dL_law_752 : decode cL_law 752 = .ok (.iload_n 3, 1) := by decide +kernel
theorem dL_law_753 : decode cL_law 753 = .ok (.iconst 1, 1) := by decide +kernel
theorem dL_law_754 : decode cL_law 754 = .ok (.iadd, 1) := by decide +kernel
theorem dL_law_755 : decode cL_law 755 = .ok (.iaload, 1) := by decide +kernel
theorem dL_law_756 : decode cL_law 756 = .ok (.aload_n 0, 1) := by decide +kernel
theorem dL_law_757 : decode cL_law 757 = .ok (.iload_n 3, 1) := by decide +kernel
theorem dL_law_758 : decode cL_law 758 = .ok (.iconst 2, 1) := by decide +kernel
theorem dL_law_759 : decode cL_law 759 = .ok (.iadd, 1) := by decide +kernel
theorem dL_law_760 : decode cL_law 760 = .ok (.iaload, 1) := by decide +kernel
theorem dL_law_761 : decode cL_law 761 = .ok (.aload_n 0, 1) := by decide +kernel
theorem dL_law_762 : decode cL_law 762 = .ok (.iload_n 3, 1) := by decide +kernel
theorem dL_law_763 : decode cL_law 763 = .ok (.iconst 3, 1) := by decide +kernel
theorem dL_law_764 : decode cL_law 764 = .ok (.iadd, 1) := by decide +kernel
theorem dL_law_765 : decode cL_law 765 = .ok (.iaload, 1) := by decide +kernel
theorem dL_law_766 : decode cL_law 766 = .ok (.invokevirtual 82, 3) := by decide +kernel
theorem dL_law_769 : decode cL_law 769 = .ok (.aload_n 2, 1) := by decide +kernel
theorem dL_law_770 : decode cL_law 770 = .ok (.aload_n 0, 1) := by decide +kernel
theorem dL_law_771 : decode cL_law 771 = .ok (.iload_n 3, 1) := by decide +kernel
theorem dL_law_772 : decode cL_law 772 = .ok (.iconst 1, 1) := by decide +kernel
theorem dL_law_773 : decode cL_law 773 = .ok (.iadd, 1) := by decide +kernel
theorem dL_law_774 : decode cL_law 774 = .ok (.iaload, 1) := by decide +kernel
theorem dL_law_775 : decode cL_law 775 = .ok (.aload_n 0, 1) := by decide +kernel
theorem dL_law_776 : decode cL_law 776 = .ok (.iload_n 3, 1) := by decide +kernel
theorem dL_law_777 : decode cL_law 777 = .ok (.iconst 2, 1) := by decide +kernel
theorem dL_law_778 : decode cL_law 778 = .ok (.iadd, 1) := by decide +kernel
theorem dL_law_779 : decode cL_law 779 = .ok (.iaload, 1) := by decide +kernel
theorem dL_law_780 : decode cL_law 780 = .ok (.aload_n 0, 1) := by decide +kernel
theorem dL_law_781 : decode cL_law 781 = .ok (.iload_n 3, 1) := by decide +kernel
theorem dL_law_782 : decode cL_law 782 = .ok (.iconst 3, 1) := by decide +kernel
theorem dL_law_783 : decode cL_law 783 = .ok (.iadd, 1) := by decide +kernel
theorem dL_law_784 : decode cL_law 784 = .ok (.iaload, 1) := by decide +kernel
theorem dL_law_785 : decode cL_law 785 = .ok (.invokevirtual 85, 3) := by decide +kernel
theorem dL_law_788 : decode cL_law 788 = .ok (.if_icmp .eq 896, 3) := by decide +kernel
theorem law_sees (C : CC p s m #[Value.ref b] meth c code RL 4 ret D cy (fun q => s.heap.size ≤ q) false Bd xa) (hX : va_X b Ln xs s s.heap) (hbl : b < s.heap.size) (hL : Ln ≤ 2560) {sX : S1} {aX : S2} {uG : S1} {es : S1} {ea : S2} {sT : S1} {aT : S2} {tT : S2} {pT : S1} {qT : S2} {ma : S2} {sL : S1} {aL : S2} {tL : S2} {pL : S1} {qL : S2} {sK : S1} {aK : S2} {tK : S2} {pK : S1} {qK : S2} {sH : S2} {rH : S3} {uH : S2} {sc : S1} {ar : S2} {la : S3} (I : INV sX aX uG es ea sT aT tT pT qT ma sL aL tL pL qL sK aK tK pK qK sH rH uH sc ar la) {i : Nat} (hi : i + 5 ≤ Ln) (k : ∀ (sX : S1) (aX : S2) (uG : S1) (es : S1) (ea : S2) (sT : S1) (aT : S2) (tT : S2) (pT : S1) (qT : S2) (ma : S2) (sL : S1) (aL : S2) (tL : S2) (pL : S1) (qL : S2) (sK : S1) (aK : S2) (tK : S2) (pK : S1) (qK : S2) (sH : S2) (rH : S3) (uH : S2) (sc : S1) (ar : S2) (la : S3), INV sX aX uG es ea sT aT tT pT qT ma sL aL tL pL qL sK aK tK pK qK sH rH uH sc ar la → LU p l e s m below meth c D b 1684 i (xd 0 0) (ad 0) [] (xC cy xd sX aX uG es ea sT aT tT pT qT ma sL aL tL pL qL sK aK tK pK qK sH rH uH ++ mC cy ad sc ar la)) : LU p l e s m below meth c D b 750 i (xd 0 0) (ad 0) [] (xC cy xd sX aX uG es ea sT aT tT pT qT ma sL aL tL pL qL sK aK tK pK qK sH rH uH ++ mC cy ad sc ar la) := by
  obtain ⟨o6, o7, e6, e7, ea1, I1⟩ := v_sees (N := 10000000) (Nat.le_refl _) I (xs (i + 1)) (xs (i + 2)) (xs (i + 3))
  refine uu_aload_n C dL_law_750 rfl (k := 2) rfl ?_
  refine lu_arg C hX hbl hL hi (j := 1) (by decide) rfl dL_law_751 dL_law_752 dL_law_753 dL_law_754 dL_law_755 ?_
  refine lu_arg C hX hbl hL hi (j := 2) (by decide) rfl dL_law_756 dL_law_757 dL_law_758 dL_law_759 dL_law_760 ?_
  refine lu_arg C hX hbl hL hi (j := 3) (by decide) rfl dL_law_761 dL_law_762 dL_law_763 dL_law_764 dL_law_765 ?_
  refine uu_callG C (k_X6_sees (xa := xa) (xd := xd) (sX := sX) (aX := aX) (uG := uG) (es := es) (ea := ea) (sT := sT) (aT := aT) (tT := tT) (pT := pT) (qT := qT) (ma := ma) (sL := sL) (aL := aL) (tL := tL) (pL := pL) (qL := qL) (sK := sK) (aK := aK) (tK := tK) (pK := pK) (qK := qK) (sH := sH) (rH := rH) (uH := uH) e6) okX6_sees q3_98 (ci := 6) rfl (q0 := 0) rfl [] (mC cy ad sc ar la) rfl (ws' := (xC cy xd sX o6.2 uG es ea sT aT tT pT qT ma sL aL tL pL qL sK aK tK pK qK sH rH uH ++ mC cy ad sc ar la)) rfl rfl rfl rfl (Nat.le_of_ble_eq_true rfl) ⟨Nat.le_of_ble_eq_true rfl, Nat.le_of_ble_eq_true rfl⟩ ⟨Nat.le_of_ble_eq_true rfl, Nat.le_of_ble_eq_true rfl⟩ dL_law_766 ?_
  refine uu_aload_n C dL_law_769 rfl (k := 1) rfl ?_
  refine lu_arg C hX hbl hL hi (j := 1) (by decide) rfl dL_law_770 dL_law_771 dL_law_772 dL_law_773 dL_law_774 ?_
  refine lu_arg C hX hbl hL hi (j := 2) (by decide) rfl dL_law_775 dL_law_776 dL_law_777 dL_law_778 dL_law_779 ?_
  refine lu_arg C hX hbl hL hi (j := 3) (by decide) rfl dL_law_780 dL_law_781 dL_law_782 dL_law_783 dL_law_784 ?_
  refine uu_callG C (k_X7_sees (xa := xa) (ad := ad) (sc := sc) (ar := ar) (la := la) e7) okX7_sees q5_151 (ci := 7) rfl (q0 := 72) rfl (xC cy xd sX o6.2 uG es ea sT aT tT pT qT ma sL aL tL pL qL sK aK tK pK qK sH rH uH) [] (by rw [List.append_nil]) (ws' := (xC cy xd sX o6.2 uG es ea sT aT tT pT qT ma sL aL tL pL qL sK aK tK pK qK sH rH uH ++ mC cy ad sc o7.2 la)) (by rw [List.append_nil]) rfl rfl rfl (Nat.le_of_ble_eq_true rfl) ⟨Nat.le_of_ble_eq_true rfl, Nat.le_of_ble_eq_true rfl⟩ ⟨Nat.le_of_ble_eq_true rfl, Nat.le_of_ble_eq_true rfl⟩ dL_law_785 ?_
  exact ur_icmp_eq C dL_law_788 (tgt := 1684) rfl (fun _ => k _ _ _ _ _ _ _ _ _ _ _ _ _ _ _ _ _ _ _ _ _ _ _ _ _ _ _ I1) (fun h => absurd ea1 h)
theorem dL_law_793 : decode cL_law 793 = .ok (.aload_n 1, 1) := by decide +kernel
theorem dL_law_794 : decode cL_law 794 = .ok (.aload_n 0, 1) := by decide +kernel
theorem dL_law_795 : decode cL_law 795 = .ok (.iload_n 3, 1) := by decide +kernel
theorem dL_law_796 : decode cL_law 796 = .ok (.iconst 1, 1) := by decide +kernel
theorem dL_law_797 : decode cL_law 797 = .ok (.iadd, 1) := by decide +kernel
theorem dL_law_798 : decode cL_law 798 = .ok (.iaload, 1) := by decide +kernel
theorem dL_law_799 : decode cL_law 799 = .ok (.aload_n 0, 1) := by decide +kernel
theorem dL_law_800 : decode cL_law 800 = .ok (.iload_n 3, 1) := by decide +kernel
theorem dL_law_801 : decode cL_law 801 = .ok (.iconst 2, 1) := by decide +kernel
theorem dL_law_802 : decode cL_law 802 = .ok (.iadd, 1) := by decide +kernel
theorem dL_law_803 : decode cL_law 803 = .ok (.iaload, 1) := by decide +kernel
theorem dL_law_804 : decode cL_law 804 = .ok (.invokevirtual 86, 3) := by decide +kernel
theorem dL_law_807 : decode cL_law 807 = .ok (.aload_n 2, 1) := by decide +kernel
theorem dL_law_808 : decode cL_law 808 = .ok (.aload_n 0, 1) := by decide +kernel
theorem dL_law_809 : decode cL_law 809 = .ok (.iload_n 3, 1) := by decide +kernel
theorem dL_law_810 : decode cL_law 810 = .ok (.iconst 1, 1) := by decide +kernel
theorem dL_law_811 : decode cL_law 811 = .ok (.iadd, 1) := by decide +kernel
theorem dL_law_812 : decode cL_law 812 = .ok (.iaload, 1) := by decide +kernel
theorem dL_law_813 : decode cL_law 813 = .ok (.aload_n 0, 1) := by decide +kernel
theorem dL_law_814 : decode cL_law 814 = .ok (.iload_n 3, 1) := by decide +kernel
theorem dL_law_815 : decode cL_law 815 = .ok (.iconst 2, 1) := by decide +kernel
theorem dL_law_816 : decode cL_law 816 = .ok (.iadd, 1) := by decide +kernel
theorem dL_law_817 : decode cL_law 817 = .ok (.iaload, 1) := by decide +kernel
theorem dL_law_818 : decode cL_law 818 = .ok (.invokevirtual 89, 3) := by decide +kernel
theorem dL_law_821 : decode cL_law 821 = .ok (.if_icmp .eq 863, 3) := by decide +kernel
theorem law_first (C : CC p s m #[Value.ref b] meth c code RL 4 ret D cy (fun q => s.heap.size ≤ q) false Bd xa) (hX : va_X b Ln xs s s.heap) (hbl : b < s.heap.size) (hL : Ln ≤ 2560) {sX : S1} {aX : S2} {uG : S1} {es : S1} {ea : S2} {sT : S1} {aT : S2} {tT : S2} {pT : S1} {qT : S2} {ma : S2} {sL : S1} {aL : S2} {tL : S2} {pL : S1} {qL : S2} {sK : S1} {aK : S2} {tK : S2} {pK : S1} {qK : S2} {sH : S2} {rH : S3} {uH : S2} {sc : S1} {ar : S2} {la : S3} (I : INV sX aX uG es ea sT aT tT pT qT ma sL aL tL pL qL sK aK tK pK qK sH rH uH sc ar la) {i : Nat} (hi : i + 5 ≤ Ln) (k : ∀ (sX : S1) (aX : S2) (uG : S1) (es : S1) (ea : S2) (sT : S1) (aT : S2) (tT : S2) (pT : S1) (qT : S2) (ma : S2) (sL : S1) (aL : S2) (tL : S2) (pL : S1) (qL : S2) (sK : S1) (aK : S2) (tK : S2) (pK : S1) (qK : S2) (sH : S2) (rH : S3) (uH : S2) (sc : S1) (ar : S2) (la : S3), INV sX aX uG es ea sT aT tT pT qT ma sL aL tL pL qL sK aK tK pK qK sH rH uH sc ar la → LU p l e s m below meth c D b 1684 i (xd 0 0) (ad 0) [] (xC cy xd sX aX uG es ea sT aT tT pT qT ma sL aL tL pL qL sK aK tK pK qK sH rH uH ++ mC cy ad sc ar la)) : LU p l e s m below meth c D b 793 i (xd 0 0) (ad 0) [] (xC cy xd sX aX uG es ea sT aT tT pT qT ma sL aL tL pL qL sK aK tK pK qK sH rH uH ++ mC cy ad sc ar la) := by
  obtain ⟨o6, o7, e6, e7, ea1, I1⟩ := v_first (N := 10000000) (Nat.le_refl _) I (xs (i + 1)) (xs (i + 2))
  refine uu_aload_n C dL_law_793 rfl (k := 2) rfl ?_
  refine lu_arg C hX hbl hL hi (j := 1) (by decide) rfl dL_law_794 dL_law_795 dL_law_796 dL_law_797 dL_law_798 ?_
  refine lu_arg C hX hbl hL hi (j := 2) (by decide) rfl dL_law_799 dL_law_800 dL_law_801 dL_law_802 dL_law_803 ?_
  refine uu_callG C (k_X6_first (xa := xa) (xd := xd) (sX := sX) (aX := aX) (uG := uG) (es := es) (ea := ea) (sT := sT) (aT := aT) (tT := tT) (pT := pT) (qT := qT) (ma := ma) (sL := sL) (aL := aL) (tL := tL) (pL := pL) (qL := qL) (sK := sK) (aK := aK) (tK := tK) (pK := pK) (qK := qK) (sH := sH) (rH := rH) (uH := uH) e6) okX6_first q3_108 (ci := 6) rfl (q0 := 0) rfl [] (mC cy ad sc ar la) rfl (ws' := (xC cy xd sX o6.2 uG es ea sT aT tT pT qT ma sL aL tL pL qL sK aK tK pK qK sH rH uH ++ mC cy ad sc ar la)) rfl rfl rfl rfl (Nat.le_of_ble_eq_true rfl) ⟨Nat.le_of_ble_eq_true rfl, Nat.le_of_ble_eq_true rfl⟩ ⟨Nat.le_of_ble_eq_true rfl, Nat.le_of_ble_eq_true rfl⟩ dL_law_804 ?_
  refine uu_aload_n C dL_law_807 rfl (k := 1) rfl ?_
  refine lu_arg C hX hbl hL hi (j := 1) (by decide) rfl dL_law_808 dL_law_809 dL_law_810 dL_law_811 dL_law_812 ?_
  refine lu_arg C hX hbl hL hi (j := 2) (by decide) rfl dL_law_813 dL_law_814 dL_law_815 dL_law_816 dL_law_817 ?_
  refine uu_callG C (k_X7_first (xa := xa) (ad := ad) (sc := sc) (ar := ar) (la := la) e7) okX7_first q5_159 (ci := 7) rfl (q0 := 72) rfl (xC cy xd sX o6.2 uG es ea sT aT tT pT qT ma sL aL tL pL qL sK aK tK pK qK sH rH uH) [] (by rw [List.append_nil]) (ws' := (xC cy xd sX o6.2 uG es ea sT aT tT pT qT ma sL aL tL pL qL sK aK tK pK qK sH rH uH ++ mC cy ad sc o7.2 la)) (by rw [List.append_nil]) rfl rfl rfl (Nat.le_of_ble_eq_true rfl) ⟨Nat.le_of_ble_eq_true rfl, Nat.le_of_ble_eq_true rfl⟩ ⟨Nat.le_of_ble_eq_true rfl, Nat.le_of_ble_eq_true rfl⟩ dL_law_818 ?_
  exact ur_icmp_eq C dL_law_821 (tgt := 1684) rfl (fun _ => k _ _ _ _ _ _ _ _ _ _ _ _ _ _ _ _ _ _ _ _ _ _ _ _ _ _ _ I1) (fun h => absurd ea1 h)
theorem dL_law_826 : decode cL_law 826 = .ok (.aload_n 1, 1) := by decide +kernel
theorem dL_law_827 : decode cL_law 827 = .ok (.aload_n 0, 1) := by decide +kernel
theorem dL_law_828 : decode cL_law 828 = .ok (.iload_n 3, 1) := by decide +kernel
theorem dL_law_829 : decode cL_law 829 = .ok (.iconst 1, 1) := by decide +kernel
theorem dL_law_830 : decode cL_law 830 = .ok (.iadd, 1) := by decide +kernel
theorem dL_law_831 : decode cL_law 831 = .ok (.iaload, 1) := by decide +kernel
theorem dL_law_832 : decode cL_law 832 = .ok (.aload_n 0, 1) := by decide +kernel
theorem dL_law_833 : decode cL_law 833 = .ok (.iload_n 3, 1) := by decide +kernel
theorem dL_law_834 : decode cL_law 834 = .ok (.iconst 2, 1) := by decide +kernel
theorem dL_law_835 : decode cL_law 835 = .ok (.iadd, 1) := by decide +kernel
theorem dL_law_836 : decode cL_law 836 = .ok (.iaload, 1) := by decide +kernel
theorem dL_law_837 : decode cL_law 837 = .ok (.invokevirtual 90, 3) := by decide +kernel
theorem dL_law_840 : decode cL_law 840 = .ok (.aload_n 2, 1) := by decide +kernel
theorem dL_law_841 : decode cL_law 841 = .ok (.aload_n 0, 1) := by decide +kernel
theorem dL_law_842 : decode cL_law 842 = .ok (.iload_n 3, 1) := by decide +kernel
theorem dL_law_843 : decode cL_law 843 = .ok (.iconst 1, 1) := by decide +kernel
theorem dL_law_844 : decode cL_law 844 = .ok (.iadd, 1) := by decide +kernel
theorem dL_law_845 : decode cL_law 845 = .ok (.iaload, 1) := by decide +kernel
theorem dL_law_846 : decode cL_law 846 = .ok (.aload_n 0, 1) := by decide +kernel
theorem dL_law_847 : decode cL_law 847 = .ok (.iload_n 3, 1) := by decide +kernel
theorem dL_law_848 : decode cL_law 848 = .ok (.iconst 2, 1) := by decide +kernel
theorem dL_law_849 : decode cL_law 849 = .ok (.iadd, 1) := by decide +kernel
theorem dL_law_850 : decode cL_law 850 = .ok (.iaload, 1) := by decide +kernel
theorem dL_law_851 : decode cL_law 851 = .ok (.invokevirtual 93, 3) := by decide +kernel
theorem dL_law_854 : decode cL_law 854 = .ok (.if_icmp .eq 830, 3) := by decide +kernel
theorem law_warned (C : CC p s m #[Value.ref b] meth c code RL 4 ret D cy (fun q => s.heap.size ≤ q) false Bd xa) (hX : va_X b Ln xs s s.heap) (hbl : b < s.heap.size) (hL : Ln ≤ 2560) {sX : S1} {aX : S2} {uG : S1} {es : S1} {ea : S2} {sT : S1} {aT : S2} {tT : S2} {pT : S1} {qT : S2} {ma : S2} {sL : S1} {aL : S2} {tL : S2} {pL : S1} {qL : S2} {sK : S1} {aK : S2} {tK : S2} {pK : S1} {qK : S2} {sH : S2} {rH : S3} {uH : S2} {sc : S1} {ar : S2} {la : S3} (I : INV sX aX uG es ea sT aT tT pT qT ma sL aL tL pL qL sK aK tK pK qK sH rH uH sc ar la) {i : Nat} (hi : i + 5 ≤ Ln) (k : ∀ (sX : S1) (aX : S2) (uG : S1) (es : S1) (ea : S2) (sT : S1) (aT : S2) (tT : S2) (pT : S1) (qT : S2) (ma : S2) (sL : S1) (aL : S2) (tL : S2) (pL : S1) (qL : S2) (sK : S1) (aK : S2) (tK : S2) (pK : S1) (qK : S2) (sH : S2) (rH : S3) (uH : S2) (sc : S1) (ar : S2) (la : S3), INV sX aX uG es ea sT aT tT pT qT ma sL aL tL pL qL sK aK tK pK qK sH rH uH sc ar la → LU p l e s m below meth c D b 1684 i (xd 0 0) (ad 0) [] (xC cy xd sX aX uG es ea sT aT tT pT qT ma sL aL tL pL qL sK aK tK pK qK sH rH uH ++ mC cy ad sc ar la)) : LU p l e s m below meth c D b 826 i (xd 0 0) (ad 0) [] (xC cy xd sX aX uG es ea sT aT tT pT qT ma sL aL tL pL qL sK aK tK pK qK sH rH uH ++ mC cy ad sc ar la) := by
  obtain ⟨o6, o7, e6, e7, ea1, I1⟩ := v_warned (N := 10000000) (Nat.le_refl _) I (xs (i + 1)) (xs (i + 2))
  refine uu_aload_n C dL_law_826 rfl (k := 2) rfl ?_
  refine lu_arg C hX hbl hL hi (j := 1) (by decide) rfl dL_law_827 dL_law_828 dL_law_829 dL_law_830 dL_law_831 ?_
  refine lu_arg C hX hbl hL hi (j := 2) (by decide) rfl dL_law_832 dL_law_833 dL_law_834 dL_law_835 dL_law_836 ?_
  refine uu_callG C (k_X6_warned (xa := xa) (xd := xd) (sX := sX) (aX := aX) (uG := uG) (es := es) (ea := ea) (sT := sT) (aT := aT) (tT := tT) (pT := pT) (qT := qT) (ma := ma) (sL := sL) (aL := aL) (tL := tL) (pL := pL) (qL := qL) (sK := sK) (aK := aK) (tK := tK) (pK := pK) (qK := qK) (sH := sH) (rH := rH) (uH := uH) e6) okX6_warned q3_116 (ci := 6) rfl (q0 := 0) rfl [] (mC cy ad sc ar la) rfl (ws' := (xC cy xd sX o6.2 uG es ea sT aT tT pT qT ma sL aL tL pL qL sK aK tK pK qK sH rH uH ++ mC cy ad sc ar la)) rfl rfl rfl rfl (Nat.le_of_ble_eq_true rfl) ⟨Nat.le_of_ble_eq_true rfl, Nat.le_of_ble_eq_true rfl⟩ ⟨Nat.le_of_ble_eq_true rfl, Nat.le_of_ble_eq_true rfl⟩ dL_law_837 ?_
  refine uu_aload_n C dL_law_840 rfl (k := 1) rfl ?_
  refine lu_arg C hX hbl hL hi (j := 1) (by decide) rfl dL_law_841 dL_law_842 dL_law_843 dL_law_844 dL_law_845 ?_
  refine lu_arg C hX hbl hL hi (j := 2) (by decide) rfl dL_law_846 dL_law_847 dL_law_848 dL_law_849 dL_law_850 ?_
  refine uu_callG C (k_X7_warned (xa := xa) (ad := ad) (sc := sc) (ar := ar) (la := la) e7) okX7_warned q5_167 (ci := 7) rfl (q0 := 72) rfl (xC cy xd sX o6.2 uG es ea sT aT tT pT qT ma sL aL tL pL qL sK aK tK pK qK sH rH uH) [] (by rw [List.append_nil]) (ws' := (xC cy xd sX o6.2 uG es ea sT aT tT pT qT ma sL aL tL pL qL sK aK tK pK qK sH rH uH ++ mC cy ad sc o7.2 la)) (by rw [List.append_nil]) rfl rfl rfl (Nat.le_of_ble_eq_true rfl) ⟨Nat.le_of_ble_eq_true rfl, Nat.le_of_ble_eq_true rfl⟩ ⟨Nat.le_of_ble_eq_true rfl, Nat.le_of_ble_eq_true rfl⟩ dL_law_851 ?_
  exact ur_icmp_eq C dL_law_854 (tgt := 1684) rfl (fun _ => k _ _ _ _ _ _ _ _ _ _ _ _ _ _ _ _ _ _ _ _ _ _ _ _ _ _ _ I1) (fun h => absurd ea1 h)
theorem dL_law_859 : decode cL_law 859 = .ok (.aload_n 1, 1) := by decide +kernel
theorem dL_law_860 : decode cL_law 860 = .ok (.invokevirtual 94, 3) := by decide +kernel
theorem dL_law_863 : decode cL_law 863 = .ok (.aload_n 2, 1) := by decide +kernel
theorem dL_law_864 : decode cL_law 864 = .ok (.invokevirtual 97, 3) := by decide +kernel
theorem dL_law_867 : decode cL_law 867 = .ok (.if_icmp .eq 817, 3) := by decide +kernel
theorem law_safe (C : CC p s m #[Value.ref b] meth c code RL 4 ret D cy (fun q => s.heap.size ≤ q) false Bd xa) (hX : va_X b Ln xs s s.heap) (hbl : b < s.heap.size) (hL : Ln ≤ 2560) {sX : S1} {aX : S2} {uG : S1} {es : S1} {ea : S2} {sT : S1} {aT : S2} {tT : S2} {pT : S1} {qT : S2} {ma : S2} {sL : S1} {aL : S2} {tL : S2} {pL : S1} {qL : S2} {sK : S1} {aK : S2} {tK : S2} {pK : S1} {qK : S2} {sH : S2} {rH : S3} {uH : S2} {sc : S1} {ar : S2} {la : S3} (I : INV sX aX uG es ea sT aT tT pT qT ma sL aL tL pL qL sK aK tK pK qK sH rH uH sc ar la) {i : Nat} (hi : i + 5 ≤ Ln) (k : ∀ (sX : S1) (aX : S2) (uG : S1) (es : S1) (ea : S2) (sT : S1) (aT : S2) (tT : S2) (pT : S1) (qT : S2) (ma : S2) (sL : S1) (aL : S2) (tL : S2) (pL : S1) (qL : S2) (sK : S1) (aK : S2) (tK : S2) (pK : S1) (qK : S2) (sH : S2) (rH : S3) (uH : S2) (sc : S1) (ar : S2) (la : S3), INV sX aX uG es ea sT aT tT pT qT ma sL aL tL pL qL sK aK tK pK qK sH rH uH sc ar la → LU p l e s m below meth c D b 1684 i (xd 0 0) (ad 0) [] (xC cy xd sX aX uG es ea sT aT tT pT qT ma sL aL tL pL qL sK aK tK pK qK sH rH uH ++ mC cy ad sc ar la)) : LU p l e s m below meth c D b 859 i (xd 0 0) (ad 0) [] (xC cy xd sX aX uG es ea sT aT tT pT qT ma sL aL tL pL qL sK aK tK pK qK sH rH uH ++ mC cy ad sc ar la) := by
  obtain ⟨o6, o7, e6, e7, ea1, I1⟩ := v_safe (N := 10000000) (Nat.le_refl _) I 
  refine uu_aload_n C dL_law_859 rfl (k := 2) rfl ?_
  refine uu_callR C (k_X6_safe (xa := xa) (xd := xd) (sX := sX) (aX := aX) (uG := uG) (es := es) (ea := ea) (sT := sT) (aT := aT) (tT := tT) (pT := pT) (qT := qT) (ma := ma) (sL := sL) (aL := aL) (tL := tL) (pL := pL) (qL := qL) (sK := sK) (aK := aK) (tK := tK) (pK := pK) (qK := qK) (sH := sH) (rH := rH) (uH := uH) e6) okX6_safe q3_129 (ci := 6) rfl (q0 := 0) rfl (fun x hx => List.mem_append_left _ hx) rfl rfl rfl (Nat.le_of_ble_eq_true rfl) ⟨Nat.le_of_ble_eq_true rfl, Nat.le_of_ble_eq_true rfl⟩ ⟨Nat.le_of_ble_eq_true rfl, Nat.le_of_ble_eq_true rfl⟩ dL_law_860 ?_
  refine uu_aload_n C dL_law_863 rfl (k := 1) rfl ?_
  refine uu_callR C (k_X7_safe (xa := xa) (ad := ad) (sc := sc) (ar := ar) (la := la) e7) okX7_safe q5_175 (ci := 7) rfl (q0 := 72) rfl (fun x hx => List.mem_append_right _ hx) rfl rfl rfl (Nat.le_of_ble_eq_true rfl) ⟨Nat.le_of_ble_eq_true rfl, Nat.le_of_ble_eq_true rfl⟩ ⟨Nat.le_of_ble_eq_true rfl, Nat.le_of_ble_eq_true rfl⟩ dL_law_864 ?_
  exact ur_icmp_eq C dL_law_867 (tgt := 1684) rfl (fun _ => k _ _ _ _ _ _ _ _ _ _ _ _ _ _ _ _ _ _ _ _ _ _ _ _ _ _ _ I1) (fun h => absurd ea1 h)
theorem dL_law_872 : decode cL_law 872 = .ok (.aload_n 1, 1) := by decide +kernel
theorem dL_law_873 : decode cL_law 873 = .ok (.aload_n 0, 1) := by decide +kernel
theorem dL_law_874 : decode cL_law 874 = .ok (.iload_n 3, 1) := by decide +kernel
theorem dL_law_875 : decode cL_law 875 = .ok (.iconst 1, 1) := by decide +kernel
theorem dL_law_876 : decode cL_law 876 = .ok (.iadd, 1) := by decide +kernel
theorem dL_law_877 : decode cL_law 877 = .ok (.iaload, 1) := by decide +kernel
theorem dL_law_878 : decode cL_law 878 = .ok (.invokevirtual 98, 3) := by decide +kernel
theorem dL_law_881 : decode cL_law 881 = .ok (.aload_n 2, 1) := by decide +kernel
theorem dL_law_882 : decode cL_law 882 = .ok (.aload_n 0, 1) := by decide +kernel
theorem dL_law_883 : decode cL_law 883 = .ok (.iload_n 3, 1) := by decide +kernel
theorem dL_law_884 : decode cL_law 884 = .ok (.iconst 1, 1) := by decide +kernel
theorem dL_law_885 : decode cL_law 885 = .ok (.iadd, 1) := by decide +kernel
theorem dL_law_886 : decode cL_law 886 = .ok (.iaload, 1) := by decide +kernel
theorem dL_law_887 : decode cL_law 887 = .ok (.invokevirtual 101, 3) := by decide +kernel
theorem dL_law_890 : decode cL_law 890 = .ok (.if_icmp .eq 794, 3) := by decide +kernel
theorem law_moved (C : CC p s m #[Value.ref b] meth c code RL 4 ret D cy (fun q => s.heap.size ≤ q) false Bd xa) (hX : va_X b Ln xs s s.heap) (hbl : b < s.heap.size) (hL : Ln ≤ 2560) {sX : S1} {aX : S2} {uG : S1} {es : S1} {ea : S2} {sT : S1} {aT : S2} {tT : S2} {pT : S1} {qT : S2} {ma : S2} {sL : S1} {aL : S2} {tL : S2} {pL : S1} {qL : S2} {sK : S1} {aK : S2} {tK : S2} {pK : S1} {qK : S2} {sH : S2} {rH : S3} {uH : S2} {sc : S1} {ar : S2} {la : S3} (I : INV sX aX uG es ea sT aT tT pT qT ma sL aL tL pL qL sK aK tK pK qK sH rH uH sc ar la) {i : Nat} (hi : i + 5 ≤ Ln) (k : ∀ (sX : S1) (aX : S2) (uG : S1) (es : S1) (ea : S2) (sT : S1) (aT : S2) (tT : S2) (pT : S1) (qT : S2) (ma : S2) (sL : S1) (aL : S2) (tL : S2) (pL : S1) (qL : S2) (sK : S1) (aK : S2) (tK : S2) (pK : S1) (qK : S2) (sH : S2) (rH : S3) (uH : S2) (sc : S1) (ar : S2) (la : S3), INV sX aX uG es ea sT aT tT pT qT ma sL aL tL pL qL sK aK tK pK qK sH rH uH sc ar la → LU p l e s m below meth c D b 1684 i (xd 0 0) (ad 0) [] (xC cy xd sX aX uG es ea sT aT tT pT qT ma sL aL tL pL qL sK aK tK pK qK sH rH uH ++ mC cy ad sc ar la)) : LU p l e s m below meth c D b 872 i (xd 0 0) (ad 0) [] (xC cy xd sX aX uG es ea sT aT tT pT qT ma sL aL tL pL qL sK aK tK pK qK sH rH uH ++ mC cy ad sc ar la) := by
  obtain ⟨o6, o7, e6, e7, ea1, I1⟩ := v_moved (N := 10000000) (Nat.le_refl _) I (xs (i + 1))
  refine uu_aload_n C dL_law_872 rfl (k := 2) rfl ?_
  refine lu_arg C hX hbl hL hi (j := 1) (by decide) rfl dL_law_873 dL_law_874 dL_law_875 dL_law_876 dL_law_877 ?_
  refine uu_callG C (k_X6_moved (xa := xa) (xd := xd) (sX := sX) (aX := aX) (uG := uG) (es := es) (ea := ea) (sT := sT) (aT := aT) (tT := tT) (pT := pT) (qT := qT) (ma := ma) (sL := sL) (aL := aL) (tL := tL) (pL := pL) (qL := qL) (sK := sK) (aK := aK) (tK := tK) (pK := pK) (qK := qK) (sH := sH) (rH := rH) (uH := uH) e6) okX6_moved q3_138 (ci := 6) rfl (q0 := 0) rfl [] (mC cy ad sc ar la) rfl (ws' := (xC cy xd sX o6.2.1 uG es ea sT aT tT pT qT o6.2.2 sL aL tL pL qL sK aK tK pK qK sH rH uH ++ mC cy ad sc ar la)) rfl rfl rfl rfl (Nat.le_of_ble_eq_true rfl) ⟨Nat.le_of_ble_eq_true rfl, Nat.le_of_ble_eq_true rfl⟩ ⟨Nat.le_of_ble_eq_true rfl, Nat.le_of_ble_eq_true rfl⟩ dL_law_878 ?_
  refine uu_aload_n C dL_law_881 rfl (k := 1) rfl ?_
  refine lu_arg C hX hbl hL hi (j := 1) (by decide) rfl dL_law_882 dL_law_883 dL_law_884 dL_law_885 dL_law_886 ?_
  refine uu_callG C (k_X7_moved (xa := xa) (ad := ad) (sc := sc) (ar := ar) (la := la) e7) okX7_moved q5_191 (ci := 7) rfl (q0 := 72) rfl (xC cy xd sX o6.2.1 uG es ea sT aT tT pT qT o6.2.2 sL aL tL pL qL sK aK tK pK qK sH rH uH) [] (by rw [List.append_nil]) (ws' := (xC cy xd sX o6.2.1 uG es ea sT aT tT pT qT o6.2.2 sL aL tL pL qL sK aK tK pK qK sH rH uH ++ mC cy ad sc o7.2 la)) (by rw [List.append_nil]) rfl rfl rfl (Nat.le_of_ble_eq_true rfl) ⟨Nat.le_of_ble_eq_true rfl, Nat.le_of_ble_eq_true rfl⟩ ⟨Nat.le_of_ble_eq_true rfl, Nat.le_of_ble_eq_true rfl⟩ dL_law_887 ?_
  exact ur_icmp_eq C dL_law_890 (tgt := 1684) rfl (fun _ => k _ _ _ _ _ _ _ _ _ _ _ _ _ _ _ _ _ _ _ _ _ _ _ _ _ _ _ I1) (fun h => absurd ea1 h)
theorem dL_law_895 : decode cL_law 895 = .ok (.aload_n 1, 1) := by decide +kernel
theorem dL_law_896 : decode cL_law 896 = .ok (.aload_n 0, 1) := by decide +kernel
theorem dL_law_897 : decode cL_law 897 = .ok (.iload_n 3, 1) := by decide +kernel
theorem dL_law_898 : decode cL_law 898 = .ok (.iconst 1, 1) := by decide +kernel
theorem dL_law_899 : decode cL_law 899 = .ok (.iadd, 1) := by decide +kernel
theorem dL_law_900 : decode cL_law 900 = .ok (.iaload, 1) := by decide +kernel
theorem dL_law_901 : decode cL_law 901 = .ok (.invokevirtual 102, 3) := by decide +kernel
theorem dL_law_904 : decode cL_law 904 = .ok (.aload_n 2, 1) := by decide +kernel
theorem dL_law_905 : decode cL_law 905 = .ok (.aload_n 0, 1) := by decide +kernel
theorem dL_law_906 : decode cL_law 906 = .ok (.iload_n 3, 1) := by decide +kernel
theorem dL_law_907 : decode cL_law 907 = .ok (.iconst 1, 1) := by decide +kernel
theorem dL_law_908 : decode cL_law 908 = .ok (.iadd, 1) := by decide +kernel
theorem dL_law_909 : decode cL_law 909 = .ok (.iaload, 1) := by decide +kernel
theorem dL_law_910 : decode cL_law 910 = .ok (.invokevirtual 105, 3) := by decide +kernel
theorem dL_law_913 : decode cL_law 913 = .ok (.if_icmp .eq 771, 3) := by decide +kernel
theorem law_raised (C : CC p s m #[Value.ref b] meth c code RL 4 ret D cy (fun q => s.heap.size ≤ q) false Bd xa) (hX : va_X b Ln xs s s.heap) (hbl : b < s.heap.size) (hL : Ln ≤ 2560) {sX : S1} {aX : S2} {uG : S1} {es : S1} {ea : S2} {sT : S1} {aT : S2} {tT : S2} {pT : S1} {qT : S2} {ma : S2} {sL : S1} {aL : S2} {tL : S2} {pL : S1} {qL : S2} {sK : S1} {aK : S2} {tK : S2} {pK : S1} {qK : S2} {sH : S2} {rH : S3} {uH : S2} {sc : S1} {ar : S2} {la : S3} (I : INV sX aX uG es ea sT aT tT pT qT ma sL aL tL pL qL sK aK tK pK qK sH rH uH sc ar la) {i : Nat} (hi : i + 5 ≤ Ln) (k : ∀ (sX : S1) (aX : S2) (uG : S1) (es : S1) (ea : S2) (sT : S1) (aT : S2) (tT : S2) (pT : S1) (qT : S2) (ma : S2) (sL : S1) (aL : S2) (tL : S2) (pL : S1) (qL : S2) (sK : S1) (aK : S2) (tK : S2) (pK : S1) (qK : S2) (sH : S2) (rH : S3) (uH : S2) (sc : S1) (ar : S2) (la : S3), INV sX aX uG es ea sT aT tT pT qT ma sL aL tL pL qL sK aK tK pK qK sH rH uH sc ar la → LU p l e s m below meth c D b 1684 i (xd 0 0) (ad 0) [] (xC cy xd sX aX uG es ea sT aT tT pT qT ma sL aL tL pL qL sK aK tK pK qK sH rH uH ++ mC cy ad sc ar la)) : LU p l e s m below meth c D b 895 i (xd 0 0) (ad 0) [] (xC cy xd sX aX uG es ea sT aT tT pT qT ma sL aL tL pL qL sK aK tK pK qK sH rH uH ++ mC cy ad sc ar la) := by
  obtain ⟨o6, o7, e6, e7, ea1, I1⟩ := v_raised (N := 10000000) (Nat.le_refl _) I (xs (i + 1))
  refine uu_aload_n C dL_law_895 rfl (k := 2) rfl ?_
  refine lu_arg C hX hbl hL hi (j := 1) (by decide) rfl dL_law_896 dL_law_897 dL_law_898 dL_law_899 dL_law_900 ?_
  refine uu_callG C (k_X6_raised (xa := xa) (xd := xd) (sX := sX) (aX := aX) (uG := uG) (es := es) (ea := ea) (sT := sT) (aT := aT) (tT := tT) (pT := pT) (qT := qT) (ma := ma) (sL := sL) (aL := aL) (tL := tL) (pL := pL) (qL := qL) (sK := sK) (aK := aK) (tK := tK) (pK := pK) (qK := qK) (sH := sH) (rH := rH) (uH := uH) e6) okX6_raised q3_172 (ci := 6) rfl (q0 := 0) rfl [] (mC cy ad sc ar la) rfl (ws' := (xC cy xd sX o6.2 uG es ea sT aT tT pT qT ma sL aL tL pL qL sK aK tK pK qK sH rH uH ++ mC cy ad sc ar la)) rfl rfl rfl rfl (Nat.le_of_ble_eq_true rfl) ⟨Nat.le_of_ble_eq_true rfl, Nat.le_of_ble_eq_true rfl⟩ ⟨Nat.le_of_ble_eq_true rfl, Nat.le_of_ble_eq_true rfl⟩ dL_law_901 ?_
  refine uu_aload_n C dL_law_904 rfl (k := 1) rfl ?_
  refine lu_arg C hX hbl hL hi (j := 1) (by decide) rfl dL_law_905 dL_law_906 dL_law_907 dL_law_908 dL_law_909 ?_
  refine uu_callG C (k_X7_raised (xa := xa) (ad := ad) (sc := sc) (ar := ar) (la := la) e7) okX7_raised q5_219 (ci := 7) rfl (q0 := 72) rfl (xC cy xd sX o6.2 uG es ea sT aT tT pT qT ma sL aL tL pL qL sK aK tK pK qK sH rH uH) [] (by rw [List.append_nil]) (ws' := (xC cy xd sX o6.2 uG es ea sT aT tT pT qT ma sL aL tL pL qL sK aK tK pK qK sH rH uH ++ mC cy ad sc o7.2 la)) (by rw [List.append_nil]) rfl rfl rfl (Nat.le_of_ble_eq_true rfl) ⟨Nat.le_of_ble_eq_true rfl, Nat.le_of_ble_eq_true rfl⟩ ⟨Nat.le_of_ble_eq_true rfl, Nat.le_of_ble_eq_true rfl⟩ dL_law_910 ?_
  exact ur_icmp_eq C dL_law_913 (tgt := 1684) rfl (fun _ => k _ _ _ _ _ _ _ _ _ _ _ _ _ _ _ _ _ _ _ _ _ _ _ _ _ _ _ I1) (fun h => absurd ea1 h)
theorem dL_law_918 : decode cL_law 918 = .ok (.aload_n 1, 1) := by decide +kernel
theorem dL_law_919 : decode cL_law 919 = .ok (.aload_n 0, 1) := by decide +kernel
theorem dL_law_920 : decode cL_law 920 = .ok (.iload_n 3, 1) := by decide +kernel
theorem dL_law_921 : decode cL_law 921 = .ok (.iconst 1, 1) := by decide +kernel
theorem dL_law_922 : decode cL_law 922 = .ok (.iadd, 1) := by decide +kernel
theorem dL_law_923 : decode cL_law 923 = .ok (.iaload, 1) := by decide +kernel
theorem dL_law_924 : decode cL_law 924 = .ok (.invokevirtual 106, 3) := by decide +kernel
theorem dL_law_927 : decode cL_law 927 = .ok (.aload_n 2, 1) := by decide +kernel
theorem dL_law_928 : decode cL_law 928 = .ok (.aload_n 0, 1) := by decide +kernel
theorem dL_law_929 : decode cL_law 929 = .ok (.iload_n 3, 1) := by decide +kernel
theorem dL_law_930 : decode cL_law 930 = .ok (.iconst 1, 1) := by decide +kernel
theorem dL_law_931 : decode cL_law 931 = .ok (.iadd, 1) := by decide +kernel
theorem dL_law_932 : decode cL_law 932 = .ok (.iaload, 1) := by decide +kernel
theorem dL_law_933 : decode cL_law 933 = .ok (.invokevirtual 110, 3) := by decide +kernel
theorem dL_law_936 : decode cL_law 936 = .ok (.lcmp, 1) := by decide +kernel
theorem dL_law_937 : decode cL_law 937 = .ok (.ifCond .eq 747, 3) := by decide +kernel
theorem law_freed (C : CC p s m #[Value.ref b] meth c code RL 4 ret D cy (fun q => s.heap.size ≤ q) false Bd xa) (hX : va_X b Ln xs s s.heap) (hbl : b < s.heap.size) (hL : Ln ≤ 2560) {sX : S1} {aX : S2} {uG : S1} {es : S1} {ea : S2} {sT : S1} {aT : S2} {tT : S2} {pT : S1} {qT : S2} {ma : S2} {sL : S1} {aL : S2} {tL : S2} {pL : S1} {qL : S2} {sK : S1} {aK : S2} {tK : S2} {pK : S1} {qK : S2} {sH : S2} {rH : S3} {uH : S2} {sc : S1} {ar : S2} {la : S3} (I : INV sX aX uG es ea sT aT tT pT qT ma sL aL tL pL qL sK aK tK pK qK sH rH uH sc ar la) {i : Nat} (hi : i + 5 ≤ Ln) (k : ∀ (sX : S1) (aX : S2) (uG : S1) (es : S1) (ea : S2) (sT : S1) (aT : S2) (tT : S2) (pT : S1) (qT : S2) (ma : S2) (sL : S1) (aL : S2) (tL : S2) (pL : S1) (qL : S2) (sK : S1) (aK : S2) (tK : S2) (pK : S1) (qK : S2) (sH : S2) (rH : S3) (uH : S2) (sc : S1) (ar : S2) (la : S3), INV sX aX uG es ea sT aT tT pT qT ma sL aL tL pL qL sK aK tK pK qK sH rH uH sc ar la → LU p l e s m below meth c D b 1684 i (xd 0 0) (ad 0) [] (xC cy xd sX aX uG es ea sT aT tT pT qT ma sL aL tL pL qL sK aK tK pK qK sH rH uH ++ mC cy ad sc ar la)) : LU p l e s m below meth c D b 918 i (xd 0 0) (ad 0) [] (xC cy xd sX aX uG es ea sT aT tT pT qT ma sL aL tL pL qL sK aK tK pK qK sH rH uH ++ mC cy ad sc ar la) := by
  obtain ⟨o6, o7, e6, e7, ea1, I1⟩ := v_freed (N := 10000000) (Nat.le_refl _) I (xs (i + 1))
  refine uu_aload_n C dL_law_918 rfl (k := 2) rfl ?_
  refine lu_arg C hX hbl hL hi (j := 1) (by decide) rfl dL_law_919 dL_law_920 dL_law_921 dL_law_922 dL_law_923 ?_
  refine uu_callG C (k_X6_freed (xa := xa) (xd := xd) (sX := sX) (aX := aX) (uG := uG) (es := es) (ea := ea) (sT := sT) (aT := aT) (tT := tT) (pT := pT) (qT := qT) (ma := ma) (sL := sL) (aL := aL) (tL := tL) (pL := pL) (qL := qL) (sK := sK) (aK := aK) (tK := tK) (pK := pK) (qK := qK) (sH := sH) (rH := rH) (uH := uH) e6) okX6_freed q3_177 (ci := 6) rfl (q0 := 0) rfl [] (mC cy ad sc ar la) rfl (ws' := (xC cy xd sX o6.2 uG es ea sT aT tT pT qT ma sL aL tL pL qL sK aK tK pK qK sH rH uH ++ mC cy ad sc ar la)) rfl rfl rfl rfl (Nat.le_of_ble_eq_true rfl) ⟨Nat.le_of_ble_eq_true rfl, Nat.le_of_ble_eq_true rfl⟩ ⟨Nat.le_of_ble_eq_true rfl, Nat.le_of_ble_eq_true rfl⟩ dL_law_924 ?_
  refine uu_aload_n C dL_law_927 rfl (k := 1) rfl ?_
  refine lu_arg C hX hbl hL hi (j := 1) (by decide) rfl dL_law_928 dL_law_929 dL_law_930 dL_law_931 dL_law_932 ?_
  refine uu_callG C (k_X7_freed (xa := xa) (ad := ad) (sc := sc) (ar := ar) (la := la) e7) okX7_freed q5_223 (ci := 7) rfl (q0 := 72) rfl (xC cy xd sX o6.2 uG es ea sT aT tT pT qT ma sL aL tL pL qL sK aK tK pK qK sH rH uH) [] (by rw [List.append_nil]) (ws' := (xC cy xd sX o6.2 uG es ea sT aT tT pT qT ma sL aL tL pL qL sK aK tK pK qK sH rH uH ++ mC cy ad o7.2.1 o7.2.2 la)) (by rw [List.append_nil]) rfl rfl rfl (Nat.le_of_ble_eq_true rfl) ⟨Nat.le_of_ble_eq_true rfl, Nat.le_of_ble_eq_true rfl⟩ ⟨Nat.le_of_ble_eq_true rfl, Nat.le_of_ble_eq_true rfl⟩ dL_law_933 ?_
  refine uu_lcmp C dL_law_936 ?_
  exact ur_if_eq C dL_law_937 (tgt := 1684) rfl (fun _ => k _ _ _ _ _ _ _ _ _ _ _ _ _ _ _ _ _ _ _ _ _ _ _ _ _ _ _ I1) (fun h => absurd ((lg_cmp_eq _ _).2 ea1) h)
theorem dL_law_942 : decode cL_law 942 = .ok (.aload_n 1, 1) := by decide +kernel
theorem dL_law_943 : decode cL_law 943 = .ok (.invokevirtual 111, 3) := by decide +kernel
theorem dL_law_946 : decode cL_law 946 = .ok (.aload_n 2, 1) := by decide +kernel
theorem dL_law_947 : decode cL_law 947 = .ok (.invokevirtual 114, 3) := by decide +kernel
theorem dL_law_950 : decode cL_law 950 = .ok (.if_icmp .eq 734, 3) := by decide +kernel
theorem law_worst (C : CC p s m #[Value.ref b] meth c code RL 4 ret D cy (fun q => s.heap.size ≤ q) false Bd xa) (hX : va_X b Ln xs s s.heap) (hbl : b < s.heap.size) (hL : Ln ≤ 2560) {sX : S1} {aX : S2} {uG : S1} {es : S1} {ea : S2} {sT : S1} {aT : S2} {tT : S2} {pT : S1} {qT : S2} {ma : S2} {sL : S1} {aL : S2} {tL : S2} {pL : S1} {qL : S2} {sK : S1} {aK : S2} {tK : S2} {pK : S1} {qK : S2} {sH : S2} {rH : S3} {uH : S2} {sc : S1} {ar : S2} {la : S3} (I : INV sX aX uG es ea sT aT tT pT qT ma sL aL tL pL qL sK aK tK pK qK sH rH uH sc ar la) {i : Nat} (hi : i + 5 ≤ Ln) (k : ∀ (sX : S1) (aX : S2) (uG : S1) (es : S1) (ea : S2) (sT : S1) (aT : S2) (tT : S2) (pT : S1) (qT : S2) (ma : S2) (sL : S1) (aL : S2) (tL : S2) (pL : S1) (qL : S2) (sK : S1) (aK : S2) (tK : S2) (pK : S1) (qK : S2) (sH : S2) (rH : S3) (uH : S2) (sc : S1) (ar : S2) (la : S3), INV sX aX uG es ea sT aT tT pT qT ma sL aL tL pL qL sK aK tK pK qK sH rH uH sc ar la → LU p l e s m below meth c D b 1684 i (xd 0 0) (ad 0) [] (xC cy xd sX aX uG es ea sT aT tT pT qT ma sL aL tL pL qL sK aK tK pK qK sH rH uH ++ mC cy ad sc ar la)) : LU p l e s m below meth c D b 942 i (xd 0 0) (ad 0) [] (xC cy xd sX aX uG es ea sT aT tT pT qT ma sL aL tL pL qL sK aK tK pK qK sH rH uH ++ mC cy ad sc ar la) := by
  obtain ⟨o6, o7, e6, e7, ea1, I1⟩ := v_worst (N := 10000000) (Nat.le_refl _) I 
  refine uu_aload_n C dL_law_942 rfl (k := 2) rfl ?_
  refine uu_callR C (k_X6_worst (xa := xa) (xd := xd) (sX := sX) (aX := aX) (uG := uG) (es := es) (ea := ea) (sT := sT) (aT := aT) (tT := tT) (pT := pT) (qT := qT) (ma := ma) (sL := sL) (aL := aL) (tL := tL) (pL := pL) (qL := qL) (sK := sK) (aK := aK) (tK := tK) (pK := pK) (qK := qK) (sH := sH) (rH := rH) (uH := uH) e6) okX6_worst q3_190 (ci := 6) rfl (q0 := 0) rfl (fun x hx => List.mem_append_left _ hx) rfl rfl rfl (Nat.le_of_ble_eq_true rfl) ⟨Nat.le_of_ble_eq_true rfl, Nat.le_of_ble_eq_true rfl⟩ ⟨Nat.le_of_ble_eq_true rfl, Nat.le_of_ble_eq_true rfl⟩ dL_law_943 ?_
  refine uu_aload_n C dL_law_946 rfl (k := 1) rfl ?_
  refine uu_callR C (k_X7_worst (xa := xa) (ad := ad) (sc := sc) (ar := ar) (la := la) e7) okX7_worst q6_5 (ci := 7) rfl (q0 := 72) rfl (fun x hx => List.mem_append_right _ hx) rfl rfl rfl (Nat.le_of_ble_eq_true rfl) ⟨Nat.le_of_ble_eq_true rfl, Nat.le_of_ble_eq_true rfl⟩ ⟨Nat.le_of_ble_eq_true rfl, Nat.le_of_ble_eq_true rfl⟩ dL_law_947 ?_
  exact ur_icmp_eq C dL_law_950 (tgt := 1684) rfl (fun _ => k _ _ _ _ _ _ _ _ _ _ _ _ _ _ _ _ _ _ _ _ _ _ _ _ _ _ _ I1) (fun h => absurd ea1 h)
end LWc1
