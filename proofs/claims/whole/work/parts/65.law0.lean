section LWc0
variable {p : Program} {l : Launch} {e : Env} {s : State} {m : MethodId} {below : List Frame} {meth : Method} {c : Code} {D : va_G} {cy : Nat → ClassId} {Bd : Nat} {xa : Xa} {b Ln : Nat} {xs : Nat → Int32} {xd : Nat → Nat → Nat} {ad : Nat → Nat}
theorem dL_law_232 : decode cL_law 232 = .ok (.aload_n 1, 1) := by decide +kernel
theorem dL_law_233 : decode cL_law 233 = .ok (.aload_n 0, 1) := by decide +kernel
theorem dL_law_234 : decode cL_law 234 = .ok (.iload_n 3, 1) := by decide +kernel
theorem dL_law_235 : decode cL_law 235 = .ok (.iconst 1, 1) := by decide +kernel
theorem dL_law_236 : decode cL_law 236 = .ok (.iadd, 1) := by decide +kernel
theorem dL_law_237 : decode cL_law 237 = .ok (.iaload, 1) := by decide +kernel
theorem dL_law_238 : decode cL_law 238 = .ok (.invokevirtual 13, 3) := by decide +kernel
theorem dL_law_241 : decode cL_law 241 = .ok (.aload_n 2, 1) := by decide +kernel
theorem dL_law_242 : decode cL_law 242 = .ok (.aload_n 0, 1) := by decide +kernel
theorem dL_law_243 : decode cL_law 243 = .ok (.iload_n 3, 1) := by decide +kernel
theorem dL_law_244 : decode cL_law 244 = .ok (.iconst 1, 1) := by decide +kernel
theorem dL_law_245 : decode cL_law 245 = .ok (.iadd, 1) := by decide +kernel
theorem dL_law_246 : decode cL_law 246 = .ok (.iaload, 1) := by decide +kernel
theorem dL_law_247 : decode cL_law 247 = .ok (.invokevirtual 17, 3) := by decide +kernel
theorem dL_law_250 : decode cL_law 250 = .ok (.if_icmp .eq 1434, 3) := by decide +kernel
theorem law_letter (C : CC p s m #[Value.ref b] meth c code RL 4 ret D cy (fun q => s.heap.size ≤ q) false Bd xa) (hX : va_X b Ln xs s s.heap) (hbl : b < s.heap.size) (hL : Ln ≤ 2560) {sX : S1} {aX : S2} {uG : S1} {es : S1} {ea : S2} {sT : S1} {aT : S2} {tT : S2} {pT : S1} {qT : S2} {ma : S2} {sL : S1} {aL : S2} {tL : S2} {pL : S1} {qL : S2} {sK : S1} {aK : S2} {tK : S2} {pK : S1} {qK : S2} {sH : S2} {rH : S3} {uH : S2} {sc : S1} {ar : S2} {la : S3} (I : INV sX aX uG es ea sT aT tT pT qT ma sL aL tL pL qL sK aK tK pK qK sH rH uH sc ar la) {i : Nat} (hi : i + 5 ≤ Ln) (k : ∀ (sX : S1) (aX : S2) (uG : S1) (es : S1) (ea : S2) (sT : S1) (aT : S2) (tT : S2) (pT : S1) (qT : S2) (ma : S2) (sL : S1) (aL : S2) (tL : S2) (pL : S1) (qL : S2) (sK : S1) (aK : S2) (tK : S2) (pK : S1) (qK : S2) (sH : S2) (rH : S3) (uH : S2) (sc : S1) (ar : S2) (la : S3), INV sX aX uG es ea sT aT tT pT qT ma sL aL tL pL qL sK aK tK pK qK sH rH uH sc ar la → LU p l e s m below meth c D b 1684 i (xd 0 0) (ad 0) [] (xC cy xd sX aX uG es ea sT aT tT pT qT ma sL aL tL pL qL sK aK tK pK qK sH rH uH ++ mC cy ad sc ar la)) : LU p l e s m below meth c D b 232 i (xd 0 0) (ad 0) [] (xC cy xd sX aX uG es ea sT aT tT pT qT ma sL aL tL pL qL sK aK tK pK qK sH rH uH ++ mC cy ad sc ar la) := by
  obtain ⟨o6, o7, e6, e7, ea1, I1⟩ := v_letter (N := 10000000) (Nat.le_refl _) I (xs (i + 1))
  refine uu_aload_n C dL_law_232 rfl (k := 2) rfl ?_
  refine lu_arg C hX hbl hL hi (j := 1) (by decide) rfl dL_law_233 dL_law_234 dL_law_235 dL_law_236 dL_law_237 ?_
  refine uu_callG C (k_X6_letter (xa := xa) (xd := xd) (sX := sX) (aX := aX) (uG := uG) (es := es) (ea := ea) (sT := sT) (aT := aT) (tT := tT) (pT := pT) (qT := qT) (ma := ma) (sL := sL) (aL := aL) (tL := tL) (pL := pL) (qL := qL) (sK := sK) (aK := aK) (tK := tK) (pK := pK) (qK := qK) (sH := sH) (rH := rH) (uH := uH) e6) okX6_letter q2_7 (ci := 6) rfl (q0 := 0) rfl [] (mC cy ad sc ar la) rfl (ws' := (xC cy xd sX o6.2.1 uG o6.2.2.1 o6.2.2.2 sT aT tT pT qT ma sL aL tL pL qL sK aK tK pK qK sH rH uH ++ mC cy ad sc ar la)) rfl rfl rfl rfl (Nat.le_of_ble_eq_true rfl) ⟨Nat.le_of_ble_eq_true rfl, Nat.le_of_ble_eq_true rfl⟩ ⟨Nat.le_of_ble_eq_true rfl, Nat.le_of_ble_eq_true rfl⟩ dL_law_238 ?_
  refine uu_aload_n C dL_law_241 rfl (k := 1) rfl ?_
  refine lu_arg C hX hbl hL hi (j := 1) (by decide) rfl dL_law_242 dL_law_243 dL_law_244 dL_law_245 dL_law_246 ?_
  refine uu_callG C (k_X7_letter (xa := xa) (ad := ad) (sc := sc) (ar := ar) (la := la) e7) okX7_letter q6_124 (ci := 7) rfl (q0 := 72) rfl (xC cy xd sX o6.2.1 uG o6.2.2.1 o6.2.2.2 sT aT tT pT qT ma sL aL tL pL qL sK aK tK pK qK sH rH uH) [] (by rw [List.append_nil]) (ws' := (xC cy xd sX o6.2.1 uG o6.2.2.1 o6.2.2.2 sT aT tT pT qT ma sL aL tL pL qL sK aK tK pK qK sH rH uH ++ mC cy ad o7.2.1 o7.2.2 la)) (by rw [List.append_nil]) rfl rfl rfl (Nat.le_of_ble_eq_true rfl) ⟨Nat.le_of_ble_eq_true rfl, Nat.le_of_ble_eq_true rfl⟩ ⟨Nat.le_of_ble_eq_true rfl, Nat.le_of_ble_eq_true rfl⟩ dL_law_247 ?_
  exact ur_icmp_eq C dL_law_250 (tgt := 1684) rfl (fun _ => k _ _ _ _ _ _ _ _ _ _ _ _ _ _ _ _ _ _ _ _ _ _ _ _ _ _ _ I1) (fun h => absurd ea1 h)
theorem dL_law_255 : decode cL_law 255 = .ok (.aload_n 1, 1) := by decide +kernel
theorem dL_law_256 : decode cL_law 256 = .ok (.invokevirtual 18, 3) := by decide +kernel
theorem dL_law_259 : decode cL_law 259 = .ok (.aload_n 2, 1) := by decide +kernel
theorem dL_law_260 : decode cL_law 260 = .ok (.invokevirtual 22, 3) := by decide +kernel
theorem dL_law_263 : decode cL_law 263 = .ok (.if_icmp .eq 1421, 3) := by decide +kernel
theorem law_tells (C : CC p s m #[Value.ref b] meth c code RL 4 ret D cy (fun q => s.heap.size ≤ q) false Bd xa) (hX : va_X b Ln xs s s.heap) (hbl : b < s.heap.size) (hL : Ln ≤ 2560) {sX : S1} {aX : S2} {uG : S1} {es : S1} {ea : S2} {sT : S1} {aT : S2} {tT : S2} {pT : S1} {qT : S2} {ma : S2} {sL : S1} {aL : S2} {tL : S2} {pL : S1} {qL : S2} {sK : S1} {aK : S2} {tK : S2} {pK : S1} {qK : S2} {sH : S2} {rH : S3} {uH : S2} {sc : S1} {ar : S2} {la : S3} (I : INV sX aX uG es ea sT aT tT pT qT ma sL aL tL pL qL sK aK tK pK qK sH rH uH sc ar la) {i : Nat} (hi : i + 5 ≤ Ln) (k : ∀ (sX : S1) (aX : S2) (uG : S1) (es : S1) (ea : S2) (sT : S1) (aT : S2) (tT : S2) (pT : S1) (qT : S2) (ma : S2) (sL : S1) (aL : S2) (tL : S2) (pL : S1) (qL : S2) (sK : S1) (aK : S2) (tK : S2) (pK : S1) (qK : S2) (sH : S2) (rH : S3) (uH : S2) (sc : S1) (ar : S2) (la : S3), INV sX aX uG es ea sT aT tT pT qT ma sL aL tL pL qL sK aK tK pK qK sH rH uH sc ar la → LU p l e s m below meth c D b 1684 i (xd 0 0) (ad 0) [] (xC cy xd sX aX uG es ea sT aT tT pT qT ma sL aL tL pL qL sK aK tK pK qK sH rH uH ++ mC cy ad sc ar la)) : LU p l e s m below meth c D b 255 i (xd 0 0) (ad 0) [] (xC cy xd sX aX uG es ea sT aT tT pT qT ma sL aL tL pL qL sK aK tK pK qK sH rH uH ++ mC cy ad sc ar la) := by
  obtain ⟨o6, o7, e6, e7, ea1, I1⟩ := v_tells (N := 10000000) (Nat.le_refl _) I 
  refine uu_aload_n C dL_law_255 rfl (k := 2) rfl ?_
  refine uu_callG C (k_X6_tells (xa := xa) (xd := xd) (sX := sX) (aX := aX) (uG := uG) (es := es) (ea := ea) (sT := sT) (aT := aT) (tT := tT) (pT := pT) (qT := qT) (ma := ma) (sL := sL) (aL := aL) (tL := tL) (pL := pL) (qL := qL) (sK := sK) (aK := aK) (tK := tK) (pK := pK) (qK := qK) (sH := sH) (rH := rH) (uH := uH) e6) okX6_tells q2_23 (ci := 6) rfl (q0 := 0) rfl [] (mC cy ad sc ar la) rfl (ws' := (xC cy xd sX aX uG o6.2.1 o6.2.2.1 o6.2.2.2.1 o6.2.2.2.2.1 o6.2.2.2.2.2.1 o6.2.2.2.2.2.2.1 o6.2.2.2.2.2.2.2.1 ma o6.2.2.2.2.2.2.2.2.1 o6.2.2.2.2.2.2.2.2.2.1 o6.2.2.2.2.2.2.2.2.2.2.1 o6.2.2.2.2.2.2.2.2.2.2.2.1 o6.2.2.2.2.2.2.2.2.2.2.2.2 sK aK tK pK qK sH rH uH ++ mC cy ad sc ar la)) rfl rfl rfl rfl (Nat.le_of_ble_eq_true rfl) ⟨Nat.le_of_ble_eq_true rfl, Nat.le_of_ble_eq_true rfl⟩ ⟨Nat.le_of_ble_eq_true rfl, Nat.le_of_ble_eq_true rfl⟩ dL_law_256 ?_
  refine uu_aload_n C dL_law_259 rfl (k := 1) rfl ?_
  refine uu_callG C (k_X7_tells (xa := xa) (ad := ad) (sc := sc) (ar := ar) (la := la) e7) okX7_tells q6_128 (ci := 7) rfl (q0 := 72) rfl (xC cy xd sX aX uG o6.2.1 o6.2.2.1 o6.2.2.2.1 o6.2.2.2.2.1 o6.2.2.2.2.2.1 o6.2.2.2.2.2.2.1 o6.2.2.2.2.2.2.2.1 ma o6.2.2.2.2.2.2.2.2.1 o6.2.2.2.2.2.2.2.2.2.1 o6.2.2.2.2.2.2.2.2.2.2.1 o6.2.2.2.2.2.2.2.2.2.2.2.1 o6.2.2.2.2.2.2.2.2.2.2.2.2 sK aK tK pK qK sH rH uH) [] (by rw [List.append_nil]) (ws' := (xC cy xd sX aX uG o6.2.1 o6.2.2.1 o6.2.2.2.1 o6.2.2.2.2.1 o6.2.2.2.2.2.1 o6.2.2.2.2.2.2.1 o6.2.2.2.2.2.2.2.1 ma o6.2.2.2.2.2.2.2.2.1 o6.2.2.2.2.2.2.2.2.2.1 o6.2.2.2.2.2.2.2.2.2.2.1 o6.2.2.2.2.2.2.2.2.2.2.2.1 o6.2.2.2.2.2.2.2.2.2.2.2.2 sK aK tK pK qK sH rH uH ++ mC cy ad o7.2.1 o7.2.2 la)) (by rw [List.append_nil]) rfl rfl rfl (Nat.le_of_ble_eq_true rfl) ⟨Nat.le_of_ble_eq_true rfl, Nat.le_of_ble_eq_true rfl⟩ ⟨Nat.le_of_ble_eq_true rfl, Nat.le_of_ble_eq_true rfl⟩ dL_law_260 ?_
  exact ur_icmp_eq C dL_law_263 (tgt := 1684) rfl (fun _ => k _ _ _ _ _ _ _ _ _ _ _ _ _ _ _ _ _ _ _ _ _ _ _ _ _ _ _ I1) (fun h => absurd ea1 h)
theorem dL_law_268 : decode cL_law 268 = .ok (.aload_n 1, 1) := by decide +kernel
theorem dL_law_269 : decode cL_law 269 = .ok (.aload_n 0, 1) := by decide +kernel
theorem dL_law_270 : decode cL_law 270 = .ok (.iload_n 3, 1) := by decide +kernel
theorem dL_law_271 : decode cL_law 271 = .ok (.iconst 1, 1) := by decide +kernel
theorem dL_law_272 : decode cL_law 272 = .ok (.iadd, 1) := by decide +kernel
theorem dL_law_273 : decode cL_law 273 = .ok (.iaload, 1) := by decide +kernel
theorem dL_law_274 : decode cL_law 274 = .ok (.invokevirtual 23, 3) := by decide +kernel
theorem dL_law_277 : decode cL_law 277 = .ok (.aload_n 2, 1) := by decide +kernel
theorem dL_law_278 : decode cL_law 278 = .ok (.aload_n 0, 1) := by decide +kernel
theorem dL_law_279 : decode cL_law 279 = .ok (.iload_n 3, 1) := by decide +kernel
theorem dL_law_280 : decode cL_law 280 = .ok (.iconst 1, 1) := by decide +kernel
theorem dL_law_281 : decode cL_law 281 = .ok (.iadd, 1) := by decide +kernel
theorem dL_law_282 : decode cL_law 282 = .ok (.iaload, 1) := by decide +kernel
theorem dL_law_283 : decode cL_law 283 = .ok (.invokevirtual 26, 3) := by decide +kernel
theorem dL_law_286 : decode cL_law 286 = .ok (.if_icmp .eq 1398, 3) := by decide +kernel
theorem law_cells (C : CC p s m #[Value.ref b] meth c code RL 4 ret D cy (fun q => s.heap.size ≤ q) false Bd xa) (hX : va_X b Ln xs s s.heap) (hbl : b < s.heap.size) (hL : Ln ≤ 2560) {sX : S1} {aX : S2} {uG : S1} {es : S1} {ea : S2} {sT : S1} {aT : S2} {tT : S2} {pT : S1} {qT : S2} {ma : S2} {sL : S1} {aL : S2} {tL : S2} {pL : S1} {qL : S2} {sK : S1} {aK : S2} {tK : S2} {pK : S1} {qK : S2} {sH : S2} {rH : S3} {uH : S2} {sc : S1} {ar : S2} {la : S3} (I : INV sX aX uG es ea sT aT tT pT qT ma sL aL tL pL qL sK aK tK pK qK sH rH uH sc ar la) {i : Nat} (hi : i + 5 ≤ Ln) (k : ∀ (sX : S1) (aX : S2) (uG : S1) (es : S1) (ea : S2) (sT : S1) (aT : S2) (tT : S2) (pT : S1) (qT : S2) (ma : S2) (sL : S1) (aL : S2) (tL : S2) (pL : S1) (qL : S2) (sK : S1) (aK : S2) (tK : S2) (pK : S1) (qK : S2) (sH : S2) (rH : S3) (uH : S2) (sc : S1) (ar : S2) (la : S3), INV sX aX uG es ea sT aT tT pT qT ma sL aL tL pL qL sK aK tK pK qK sH rH uH sc ar la → LU p l e s m below meth c D b 1684 i (xd 0 0) (ad 0) [] (xC cy xd sX aX uG es ea sT aT tT pT qT ma sL aL tL pL qL sK aK tK pK qK sH rH uH ++ mC cy ad sc ar la)) : LU p l e s m below meth c D b 268 i (xd 0 0) (ad 0) [] (xC cy xd sX aX uG es ea sT aT tT pT qT ma sL aL tL pL qL sK aK tK pK qK sH rH uH ++ mC cy ad sc ar la) := by
  obtain ⟨o6, o7, e6, e7, ea1, I1⟩ := v_cells (N := 10000000) (Nat.le_refl _) I (xs (i + 1))
  refine uu_aload_n C dL_law_268 rfl (k := 2) rfl ?_
  refine lu_arg C hX hbl hL hi (j := 1) (by decide) rfl dL_law_269 dL_law_270 dL_law_271 dL_law_272 dL_law_273 ?_
  refine uu_callG C (k_X6_cells (xa := xa) (xd := xd) (sX := sX) (aX := aX) (uG := uG) (es := es) (ea := ea) (sT := sT) (aT := aT) (tT := tT) (pT := pT) (qT := qT) (ma := ma) (sL := sL) (aL := aL) (tL := tL) (pL := pL) (qL := qL) (sK := sK) (aK := aK) (tK := tK) (pK := pK) (qK := qK) (sH := sH) (rH := rH) (uH := uH) e6) okX6_cells q2_219 (ci := 6) rfl (q0 := 0) rfl [] (mC cy ad sc ar la) rfl (ws' := (xC cy xd sX o6.2.1 uG es ea sT aT tT pT qT ma o6.2.2.1 o6.2.2.2.1 tL o6.2.2.2.2.1 o6.2.2.2.2.2 sK aK tK pK qK sH rH uH ++ mC cy ad sc ar la)) rfl rfl rfl rfl (Nat.le_of_ble_eq_true rfl) ⟨Nat.le_of_ble_eq_true rfl, Nat.le_of_ble_eq_true rfl⟩ ⟨Nat.le_of_ble_eq_true rfl, Nat.le_of_ble_eq_true rfl⟩ dL_law_274 ?_
  refine uu_aload_n C dL_law_277 rfl (k := 1) rfl ?_
  refine lu_arg C hX hbl hL hi (j := 1) (by decide) rfl dL_law_278 dL_law_279 dL_law_280 dL_law_281 dL_law_282 ?_
  refine uu_callG C (k_X7_cells (xa := xa) (ad := ad) (sc := sc) (ar := ar) (la := la) e7) okX7_cells q5_32 (ci := 7) rfl (q0 := 72) rfl (xC cy xd sX o6.2.1 uG es ea sT aT tT pT qT ma o6.2.2.1 o6.2.2.2.1 tL o6.2.2.2.2.1 o6.2.2.2.2.2 sK aK tK pK qK sH rH uH) [] (by rw [List.append_nil]) (ws' := (xC cy xd sX o6.2.1 uG es ea sT aT tT pT qT ma o6.2.2.1 o6.2.2.2.1 tL o6.2.2.2.2.1 o6.2.2.2.2.2 sK aK tK pK qK sH rH uH ++ mC cy ad o7.2.1 o7.2.2 la)) (by rw [List.append_nil]) rfl rfl rfl (Nat.le_of_ble_eq_true rfl) ⟨Nat.le_of_ble_eq_true rfl, Nat.le_of_ble_eq_true rfl⟩ ⟨Nat.le_of_ble_eq_true rfl, Nat.le_of_ble_eq_true rfl⟩ dL_law_283 ?_
  exact ur_icmp_eq C dL_law_286 (tgt := 1684) rfl (fun _ => k _ _ _ _ _ _ _ _ _ _ _ _ _ _ _ _ _ _ _ _ _ _ _ _ _ _ _ I1) (fun h => absurd ea1 h)
theorem dL_law_291 : decode cL_law 291 = .ok (.aload_n 1, 1) := by decide +kernel
theorem dL_law_292 : decode cL_law 292 = .ok (.aload_n 0, 1) := by decide +kernel
theorem dL_law_293 : decode cL_law 293 = .ok (.iload_n 3, 1) := by decide +kernel
theorem dL_law_294 : decode cL_law 294 = .ok (.iconst 1, 1) := by decide +kernel
theorem dL_law_295 : decode cL_law 295 = .ok (.iadd, 1) := by decide +kernel
theorem dL_law_296 : decode cL_law 296 = .ok (.iaload, 1) := by decide +kernel
theorem dL_law_297 : decode cL_law 297 = .ok (.aload_n 0, 1) := by decide +kernel
theorem dL_law_298 : decode cL_law 298 = .ok (.iload_n 3, 1) := by decide +kernel
theorem dL_law_299 : decode cL_law 299 = .ok (.iconst 2, 1) := by decide +kernel
theorem dL_law_300 : decode cL_law 300 = .ok (.iadd, 1) := by decide +kernel
theorem dL_law_301 : decode cL_law 301 = .ok (.iaload, 1) := by decide +kernel
theorem dL_law_302 : decode cL_law 302 = .ok (.invokevirtual 27, 3) := by decide +kernel
theorem dL_law_305 : decode cL_law 305 = .ok (.aload_n 2, 1) := by decide +kernel
theorem dL_law_306 : decode cL_law 306 = .ok (.aload_n 0, 1) := by decide +kernel
theorem dL_law_307 : decode cL_law 307 = .ok (.iload_n 3, 1) := by decide +kernel
theorem dL_law_308 : decode cL_law 308 = .ok (.iconst 1, 1) := by decide +kernel
theorem dL_law_309 : decode cL_law 309 = .ok (.iadd, 1) := by decide +kernel
theorem dL_law_310 : decode cL_law 310 = .ok (.iaload, 1) := by decide +kernel
theorem dL_law_311 : decode cL_law 311 = .ok (.aload_n 0, 1) := by decide +kernel
theorem dL_law_312 : decode cL_law 312 = .ok (.iload_n 3, 1) := by decide +kernel
theorem dL_law_313 : decode cL_law 313 = .ok (.iconst 2, 1) := by decide +kernel
theorem dL_law_314 : decode cL_law 314 = .ok (.iadd, 1) := by decide +kernel
theorem dL_law_315 : decode cL_law 315 = .ok (.iaload, 1) := by decide +kernel
theorem dL_law_316 : decode cL_law 316 = .ok (.invokevirtual 31, 3) := by decide +kernel
theorem dL_law_319 : decode cL_law 319 = .ok (.if_icmp .eq 1365, 3) := by decide +kernel
theorem law_ground (C : CC p s m #[Value.ref b] meth c code RL 4 ret D cy (fun q => s.heap.size ≤ q) false Bd xa) (hX : va_X b Ln xs s s.heap) (hbl : b < s.heap.size) (hL : Ln ≤ 2560) {sX : S1} {aX : S2} {uG : S1} {es : S1} {ea : S2} {sT : S1} {aT : S2} {tT : S2} {pT : S1} {qT : S2} {ma : S2} {sL : S1} {aL : S2} {tL : S2} {pL : S1} {qL : S2} {sK : S1} {aK : S2} {tK : S2} {pK : S1} {qK : S2} {sH : S2} {rH : S3} {uH : S2} {sc : S1} {ar : S2} {la : S3} (I : INV sX aX uG es ea sT aT tT pT qT ma sL aL tL pL qL sK aK tK pK qK sH rH uH sc ar la) {i : Nat} (hi : i + 5 ≤ Ln) (k : ∀ (sX : S1) (aX : S2) (uG : S1) (es : S1) (ea : S2) (sT : S1) (aT : S2) (tT : S2) (pT : S1) (qT : S2) (ma : S2) (sL : S1) (aL : S2) (tL : S2) (pL : S1) (qL : S2) (sK : S1) (aK : S2) (tK : S2) (pK : S1) (qK : S2) (sH : S2) (rH : S3) (uH : S2) (sc : S1) (ar : S2) (la : S3), INV sX aX uG es ea sT aT tT pT qT ma sL aL tL pL qL sK aK tK pK qK sH rH uH sc ar la → LU p l e s m below meth c D b 1684 i (xd 0 0) (ad 0) [] (xC cy xd sX aX uG es ea sT aT tT pT qT ma sL aL tL pL qL sK aK tK pK qK sH rH uH ++ mC cy ad sc ar la)) : LU p l e s m below meth c D b 291 i (xd 0 0) (ad 0) [] (xC cy xd sX aX uG es ea sT aT tT pT qT ma sL aL tL pL qL sK aK tK pK qK sH rH uH ++ mC cy ad sc ar la) := by
  obtain ⟨o6, o7, e6, e7, ea1, I1⟩ := v_ground (N := 10000000) (Nat.le_refl _) I (xs (i + 1)) (xs (i + 2))
  refine uu_aload_n C dL_law_291 rfl (k := 2) rfl ?_
  refine lu_arg C hX hbl hL hi (j := 1) (by decide) rfl dL_law_292 dL_law_293 dL_law_294 dL_law_295 dL_law_296 ?_
  refine lu_arg C hX hbl hL hi (j := 2) (by decide) rfl dL_law_297 dL_law_298 dL_law_299 dL_law_300 dL_law_301 ?_
  refine uu_callG C (k_X6_ground (xa := xa) (xd := xd) (sX := sX) (aX := aX) (uG := uG) (es := es) (ea := ea) (sT := sT) (aT := aT) (tT := tT) (pT := pT) (qT := qT) (ma := ma) (sL := sL) (aL := aL) (tL := tL) (pL := pL) (qL := qL) (sK := sK) (aK := aK) (tK := tK) (pK := pK) (qK := qK) (sH := sH) (rH := rH) (uH := uH) e6) okX6_ground q2_224 (ci := 6) rfl (q0 := 0) rfl [] (mC cy ad sc ar la) rfl (ws' := (xC cy xd sX o6.2.1 uG es ea sT aT tT pT qT ma sL o6.2.2 tL pL qL sK aK tK pK qK sH rH uH ++ mC cy ad sc ar la)) rfl rfl rfl rfl (Nat.le_of_ble_eq_true rfl) ⟨Nat.le_of_ble_eq_true rfl, Nat.le_of_ble_eq_true rfl⟩ ⟨Nat.le_of_ble_eq_true rfl, Nat.le_of_ble_eq_true rfl⟩ dL_law_302 ?_
  refine uu_aload_n C dL_law_305 rfl (k := 1) rfl ?_
  refine lu_arg C hX hbl hL hi (j := 1) (by decide) rfl dL_law_306 dL_law_307 dL_law_308 dL_law_309 dL_law_310 ?_
  refine lu_arg C hX hbl hL hi (j := 2) (by decide) rfl dL_law_311 dL_law_312 dL_law_313 dL_law_314 dL_law_315 ?_
  refine uu_callG C (k_X7_ground (xa := xa) (ad := ad) (sc := sc) (ar := ar) (la := la) e7) okX7_ground q5_44 (ci := 7) rfl (q0 := 72) rfl (xC cy xd sX o6.2.1 uG es ea sT aT tT pT qT ma sL o6.2.2 tL pL qL sK aK tK pK qK sH rH uH) [] (by rw [List.append_nil]) (ws' := (xC cy xd sX o6.2.1 uG es ea sT aT tT pT qT ma sL o6.2.2 tL pL qL sK aK tK pK qK sH rH uH ++ mC cy ad sc o7.2 la)) (by rw [List.append_nil]) rfl rfl rfl (Nat.le_of_ble_eq_true rfl) ⟨Nat.le_of_ble_eq_true rfl, Nat.le_of_ble_eq_true rfl⟩ ⟨Nat.le_of_ble_eq_true rfl, Nat.le_of_ble_eq_true rfl⟩ dL_law_316 ?_
  exact ur_icmp_eq C dL_law_319 (tgt := 1684) rfl (fun _ => k _ _ _ _ _ _ _ _ _ _ _ _ _ _ _ _ _ _ _ _ _ _ _ _ _ _ _ I1) (fun h => absurd ea1 h)
theorem dL_law_324 : decode cL_law 324 = .ok (.aload_n 1, 1) := by decide +kernel
theorem dL_law_325 : decode cL_law 325 = .ok (.aload_n 0, 1) := by decide +kernel
theorem dL_law_326 : decode cL_law 326 = .ok (.iload_n 3, 1) := by decide +kernel
theorem dL_law_327 : decode cL_law 327 = .ok (.iconst 1, 1) := by decide +kernel
theorem dL_law_328 : decode cL_law 328 = .ok (.iadd, 1) := by decide +kernel
theorem dL_law_329 : decode cL_law 329 = .ok (.iaload, 1) := by decide +kernel
theorem dL_law_330 : decode cL_law 330 = .ok (.aload_n 0, 1) := by decide +kernel
theorem dL_law_331 : decode cL_law 331 = .ok (.iload_n 3, 1) := by decide +kernel
theorem dL_law_332 : decode cL_law 332 = .ok (.iconst 2, 1) := by decide +kernel
theorem dL_law_333 : decode cL_law 333 = .ok (.iadd, 1) := by decide +kernel
theorem dL_law_334 : decode cL_law 334 = .ok (.iaload, 1) := by decide +kernel
theorem dL_law_335 : decode cL_law 335 = .ok (.aload_n 0, 1) := by decide +kernel
theorem dL_law_336 : decode cL_law 336 = .ok (.iload_n 3, 1) := by decide +kernel
theorem dL_law_337 : decode cL_law 337 = .ok (.iconst 3, 1) := by decide +kernel
theorem dL_law_338 : decode cL_law 338 = .ok (.iadd, 1) := by decide +kernel
theorem dL_law_339 : decode cL_law 339 = .ok (.iaload, 1) := by decide +kernel
theorem dL_law_340 : decode cL_law 340 = .ok (.invokevirtual 32, 3) := by decide +kernel
theorem dL_law_343 : decode cL_law 343 = .ok (.aload_n 2, 1) := by decide +kernel
theorem dL_law_344 : decode cL_law 344 = .ok (.aload_n 0, 1) := by decide +kernel
theorem dL_law_345 : decode cL_law 345 = .ok (.iload_n 3, 1) := by decide +kernel
theorem dL_law_346 : decode cL_law 346 = .ok (.iconst 1, 1) := by decide +kernel
theorem dL_law_347 : decode cL_law 347 = .ok (.iadd, 1) := by decide +kernel
theorem dL_law_348 : decode cL_law 348 = .ok (.iaload, 1) := by decide +kernel
theorem dL_law_349 : decode cL_law 349 = .ok (.aload_n 0, 1) := by decide +kernel
theorem dL_law_350 : decode cL_law 350 = .ok (.iload_n 3, 1) := by decide +kernel
theorem dL_law_351 : decode cL_law 351 = .ok (.iconst 2, 1) := by decide +kernel
theorem dL_law_352 : decode cL_law 352 = .ok (.iadd, 1) := by decide +kernel
theorem dL_law_353 : decode cL_law 353 = .ok (.iaload, 1) := by decide +kernel
theorem dL_law_354 : decode cL_law 354 = .ok (.aload_n 0, 1) := by decide +kernel
theorem dL_law_355 : decode cL_law 355 = .ok (.iload_n 3, 1) := by decide +kernel
theorem dL_law_356 : decode cL_law 356 = .ok (.iconst 3, 1) := by decide +kernel
theorem dL_law_357 : decode cL_law 357 = .ok (.iadd, 1) := by decide +kernel
theorem dL_law_358 : decode cL_law 358 = .ok (.iaload, 1) := by decide +kernel
theorem dL_law_359 : decode cL_law 359 = .ok (.invokevirtual 36, 3) := by decide +kernel
theorem dL_law_362 : decode cL_law 362 = .ok (.if_icmp .eq 1322, 3) := by decide +kernel
theorem law_bridge (C : CC p s m #[Value.ref b] meth c code RL 4 ret D cy (fun q => s.heap.size ≤ q) false Bd xa) (hX : va_X b Ln xs s s.heap) (hbl : b < s.heap.size) (hL : Ln ≤ 2560) {sX : S1} {aX : S2} {uG : S1} {es : S1} {ea : S2} {sT : S1} {aT : S2} {tT : S2} {pT : S1} {qT : S2} {ma : S2} {sL : S1} {aL : S2} {tL : S2} {pL : S1} {qL : S2} {sK : S1} {aK : S2} {tK : S2} {pK : S1} {qK : S2} {sH : S2} {rH : S3} {uH : S2} {sc : S1} {ar : S2} {la : S3} (I : INV sX aX uG es ea sT aT tT pT qT ma sL aL tL pL qL sK aK tK pK qK sH rH uH sc ar la) {i : Nat} (hi : i + 5 ≤ Ln) (k : ∀ (sX : S1) (aX : S2) (uG : S1) (es : S1) (ea : S2) (sT : S1) (aT : S2) (tT : S2) (pT : S1) (qT : S2) (ma : S2) (sL : S1) (aL : S2) (tL : S2) (pL : S1) (qL : S2) (sK : S1) (aK : S2) (tK : S2) (pK : S1) (qK : S2) (sH : S2) (rH : S3) (uH : S2) (sc : S1) (ar : S2) (la : S3), INV sX aX uG es ea sT aT tT pT qT ma sL aL tL pL qL sK aK tK pK qK sH rH uH sc ar la → LU p l e s m below meth c D b 1684 i (xd 0 0) (ad 0) [] (xC cy xd sX aX uG es ea sT aT tT pT qT ma sL aL tL pL qL sK aK tK pK qK sH rH uH ++ mC cy ad sc ar la)) : LU p l e s m below meth c D b 324 i (xd 0 0) (ad 0) [] (xC cy xd sX aX uG es ea sT aT tT pT qT ma sL aL tL pL qL sK aK tK pK qK sH rH uH ++ mC cy ad sc ar la) := by
  obtain ⟨o6, o7, e6, e7, ea1, I1⟩ := v_bridge (N := 10000000) (Nat.le_refl _) I (xs (i + 1)) (xs (i + 2)) (xs (i + 3))
  refine uu_aload_n C dL_law_324 rfl (k := 2) rfl ?_
  refine lu_arg C hX hbl hL hi (j := 1) (by decide) rfl dL_law_325 dL_law_326 dL_law_327 dL_law_328 dL_law_329 ?_
  refine lu_arg C hX hbl hL hi (j := 2) (by decide) rfl dL_law_330 dL_law_331 dL_law_332 dL_law_333 dL_law_334 ?_
  refine lu_arg C hX hbl hL hi (j := 3) (by decide) rfl dL_law_335 dL_law_336 dL_law_337 dL_law_338 dL_law_339 ?_
  refine uu_callG C (k_X6_bridge (xa := xa) (xd := xd) (sX := sX) (aX := aX) (uG := uG) (es := es) (ea := ea) (sT := sT) (aT := aT) (tT := tT) (pT := pT) (qT := qT) (ma := ma) (sL := sL) (aL := aL) (tL := tL) (pL := pL) (qL := qL) (sK := sK) (aK := aK) (tK := tK) (pK := pK) (qK := qK) (sH := sH) (rH := rH) (uH := uH) e6) okX6_bridge q2_229 (ci := 6) rfl (q0 := 0) rfl [] (mC cy ad sc ar la) rfl (ws' := (xC cy xd sX o6.2.1 uG es ea sT aT tT pT qT ma o6.2.2.1 o6.2.2.2 tL pL qL sK aK tK pK qK sH rH uH ++ mC cy ad sc ar la)) rfl rfl rfl rfl (Nat.le_of_ble_eq_true rfl) ⟨Nat.le_of_ble_eq_true rfl, Nat.le_of_ble_eq_true rfl⟩ ⟨Nat.le_of_ble_eq_true rfl, Nat.le_of_ble_eq_true rfl⟩ dL_law_340 ?_
  refine uu_aload_n C dL_law_343 rfl (k := 1) rfl ?_
  refine lu_arg C hX hbl hL hi (j := 1) (by decide) rfl dL_law_344 dL_law_345 dL_law_346 dL_law_347 dL_law_348 ?_
  refine lu_arg C hX hbl hL hi (j := 2) (by decide) rfl dL_law_349 dL_law_350 dL_law_351 dL_law_352 dL_law_353 ?_
  refine lu_arg C hX hbl hL hi (j := 3) (by decide) rfl dL_law_354 dL_law_355 dL_law_356 dL_law_357 dL_law_358 ?_
  refine uu_callG C (k_X7_bridge (xa := xa) (ad := ad) (sc := sc) (ar := ar) (la := la) e7) okX7_bridge q5_55 (ci := 7) rfl (q0 := 72) rfl (xC cy xd sX o6.2.1 uG es ea sT aT tT pT qT ma o6.2.2.1 o6.2.2.2 tL pL qL sK aK tK pK qK sH rH uH) [] (by rw [List.append_nil]) (ws' := (xC cy xd sX o6.2.1 uG es ea sT aT tT pT qT ma o6.2.2.1 o6.2.2.2 tL pL qL sK aK tK pK qK sH rH uH ++ mC cy ad o7.2.1 o7.2.2 la)) (by rw [List.append_nil]) rfl rfl rfl (Nat.le_of_ble_eq_true rfl) ⟨Nat.le_of_ble_eq_true rfl, Nat.le_of_ble_eq_true rfl⟩ ⟨Nat.le_of_ble_eq_true rfl, Nat.le_of_ble_eq_true rfl⟩ dL_law_359 ?_
  exact ur_icmp_eq C dL_law_362 (tgt := 1684) rfl (fun _ => k _ _ _ _ _ _ _ _ _ _ _ _ _ _ _ _ _ _ _ _ _ _ _ _ _ _ _ I1) (fun h => absurd ea1 h)
theorem dL_law_367 : decode cL_law 367 = .ok (.aload_n 1, 1) := by decide +kernel
theorem dL_law_368 : decode cL_law 368 = .ok (.aload_n 0, 1) := by decide +kernel
theorem dL_law_369 : decode cL_law 369 = .ok (.iload_n 3, 1) := by decide +kernel
theorem dL_law_370 : decode cL_law 370 = .ok (.iconst 1, 1) := by decide +kernel
theorem dL_law_371 : decode cL_law 371 = .ok (.iadd, 1) := by decide +kernel
theorem dL_law_372 : decode cL_law 372 = .ok (.iaload, 1) := by decide +kernel
theorem dL_law_373 : decode cL_law 373 = .ok (.invokevirtual 37, 3) := by decide +kernel
theorem dL_law_376 : decode cL_law 376 = .ok (.aload_n 2, 1) := by decide +kernel
theorem dL_law_377 : decode cL_law 377 = .ok (.aload_n 0, 1) := by decide +kernel
theorem dL_law_378 : decode cL_law 378 = .ok (.iload_n 3, 1) := by decide +kernel
theorem dL_law_379 : decode cL_law 379 = .ok (.iconst 1, 1) := by decide +kernel
theorem dL_law_380 : decode cL_law 380 = .ok (.iadd, 1) := by decide +kernel
theorem dL_law_381 : decode cL_law 381 = .ok (.iaload, 1) := by decide +kernel
theorem dL_law_382 : decode cL_law 382 = .ok (.invokevirtual 40, 3) := by decide +kernel
theorem dL_law_385 : decode cL_law 385 = .ok (.if_icmp .eq 1299, 3) := by decide +kernel
theorem law_fells (C : CC p s m #[Value.ref b] meth c code RL 4 ret D cy (fun q => s.heap.size ≤ q) false Bd xa) (hX : va_X b Ln xs s s.heap) (hbl : b < s.heap.size) (hL : Ln ≤ 2560) {sX : S1} {aX : S2} {uG : S1} {es : S1} {ea : S2} {sT : S1} {aT : S2} {tT : S2} {pT : S1} {qT : S2} {ma : S2} {sL : S1} {aL : S2} {tL : S2} {pL : S1} {qL : S2} {sK : S1} {aK : S2} {tK : S2} {pK : S1} {qK : S2} {sH : S2} {rH : S3} {uH : S2} {sc : S1} {ar : S2} {la : S3} (I : INV sX aX uG es ea sT aT tT pT qT ma sL aL tL pL qL sK aK tK pK qK sH rH uH sc ar la) {i : Nat} (hi : i + 5 ≤ Ln) (k : ∀ (sX : S1) (aX : S2) (uG : S1) (es : S1) (ea : S2) (sT : S1) (aT : S2) (tT : S2) (pT : S1) (qT : S2) (ma : S2) (sL : S1) (aL : S2) (tL : S2) (pL : S1) (qL : S2) (sK : S1) (aK : S2) (tK : S2) (pK : S1) (qK : S2) (sH : S2) (rH : S3) (uH : S2) (sc : S1) (ar : S2) (la : S3), INV sX aX uG es ea sT aT tT pT qT ma sL aL tL pL qL sK aK tK pK qK sH rH uH sc ar la → LU p l e s m below meth c D b 1684 i (xd 0 0) (ad 0) [] (xC cy xd sX aX uG es ea sT aT tT pT qT ma sL aL tL pL qL sK aK tK pK qK sH rH uH ++ mC cy ad sc ar la)) : LU p l e s m below meth c D b 367 i (xd 0 0) (ad 0) [] (xC cy xd sX aX uG es ea sT aT tT pT qT ma sL aL tL pL qL sK aK tK pK qK sH rH uH ++ mC cy ad sc ar la) := by
  obtain ⟨o6, o7, e6, e7, ea1, I1⟩ := v_fells (N := 10000000) (Nat.le_refl _) I (xs (i + 1))
  refine uu_aload_n C dL_law_367 rfl (k := 2) rfl ?_
  refine lu_arg C hX hbl hL hi (j := 1) (by decide) rfl dL_law_368 dL_law_369 dL_law_370 dL_law_371 dL_law_372 ?_
  refine uu_callG C (k_X6_fells (xa := xa) (xd := xd) (sX := sX) (aX := aX) (uG := uG) (es := es) (ea := ea) (sT := sT) (aT := aT) (tT := tT) (pT := pT) (qT := qT) (ma := ma) (sL := sL) (aL := aL) (tL := tL) (pL := pL) (qL := qL) (sK := sK) (aK := aK) (tK := tK) (pK := pK) (qK := qK) (sH := sH) (rH := rH) (uH := uH) e6) okX6_fells q2_234 (ci := 6) rfl (q0 := 0) rfl [] (mC cy ad sc ar la) rfl (ws' := (xC cy xd sX o6.2.1 uG es ea sT aT tT pT qT ma o6.2.2.1 o6.2.2.2 tL pL qL sK aK tK pK qK sH rH uH ++ mC cy ad sc ar la)) rfl rfl rfl rfl (Nat.le_of_ble_eq_true rfl) ⟨Nat.le_of_ble_eq_true rfl, Nat.le_of_ble_eq_true rfl⟩ ⟨Nat.le_of_ble_eq_true rfl, Nat.le_of_ble_eq_true rfl⟩ dL_law_373 ?_
  refine uu_aload_n C dL_law_376 rfl (k := 1) rfl ?_
  refine lu_arg C hX hbl hL hi (j := 1) (by decide) rfl dL_law_377 dL_law_378 dL_law_379 dL_law_380 dL_law_381 ?_
  refine uu_callG C (k_X7_fells (xa := xa) (ad := ad) (sc := sc) (ar := ar) (la := la) e7) okX7_fells q5_59 (ci := 7) rfl (q0 := 72) rfl (xC cy xd sX o6.2.1 uG es ea sT aT tT pT qT ma o6.2.2.1 o6.2.2.2 tL pL qL sK aK tK pK qK sH rH uH) [] (by rw [List.append_nil]) (ws' := (xC cy xd sX o6.2.1 uG es ea sT aT tT pT qT ma o6.2.2.1 o6.2.2.2 tL pL qL sK aK tK pK qK sH rH uH ++ mC cy ad o7.2.1 o7.2.2 la)) (by rw [List.append_nil]) rfl rfl rfl (Nat.le_of_ble_eq_true rfl) ⟨Nat.le_of_ble_eq_true rfl, Nat.le_of_ble_eq_true rfl⟩ ⟨Nat.le_of_ble_eq_true rfl, Nat.le_of_ble_eq_true rfl⟩ dL_law_382 ?_
  exact ur_icmp_eq C dL_law_385 (tgt := 1684) rfl (fun _ => k _ _ _ _ _ _ _ _ _ _ _ _ _ _ _ _ _ _ _ _ _ _ _ _ _ _ _ I1) (fun h => absurd ea1 h)
theorem dL_law_390 : decode cL_law 390 = .ok (.aload_n 1, 1) := by decide +kernel
theorem dL_law_391 : decode cL_law 391 = .ok (.aload_n 0, 1) := by decide +kernel
theorem dL_law_392 : decode cL_law 392 = .ok (.iload_n 3, 1) := by decide +kernel
theorem dL_law_393 : decode cL_law 393 = .ok (.iconst 1, 1) := by decide +kernel
theorem dL_law_394 : decode cL_law 394 = .ok (.iadd, 1) := by decide +kernel
theorem dL_law_395 : decode cL_law 395 = .ok (.iaload, 1) := by decide +kernel
theorem dL_law_396 : decode cL_law 396 = .ok (.aload_n 0, 1) := by decide +kernel
theorem dL_law_397 : decode cL_law 397 = .ok (.iload_n 3, 1) := by decide +kernel
theorem dL_law_398 : decode cL_law 398 = .ok (.iconst 2, 1) := by decide +kernel
theorem dL_law_399 : decode cL_law 399 = .ok (.iadd, 1) := by decide +kernel
theorem dL_law_400 : decode cL_law 400 = .ok (.iaload, 1) := by decide +kernel
theorem dL_law_401 : decode cL_law 401 = .ok (.invokevirtual 41, 3) := by decide +kernel
theorem dL_law_404 : decode cL_law 404 = .ok (.aload_n 2, 1) := by decide +kernel
theorem dL_law_405 : decode cL_law 405 = .ok (.aload_n 0, 1) := by decide +kernel
theorem dL_law_406 : decode cL_law 406 = .ok (.iload_n 3, 1) := by decide +kernel
theorem dL_law_407 : decode cL_law 407 = .ok (.iconst 1, 1) := by decide +kernel
theorem dL_law_408 : decode cL_law 408 = .ok (.iadd, 1) := by decide +kernel
theorem dL_law_409 : decode cL_law 409 = .ok (.iaload, 1) := by decide +kernel
theorem dL_law_410 : decode cL_law 410 = .ok (.aload_n 0, 1) := by decide +kernel
theorem dL_law_411 : decode cL_law 411 = .ok (.iload_n 3, 1) := by decide +kernel
theorem dL_law_412 : decode cL_law 412 = .ok (.iconst 2, 1) := by decide +kernel
theorem dL_law_413 : decode cL_law 413 = .ok (.iadd, 1) := by decide +kernel
theorem dL_law_414 : decode cL_law 414 = .ok (.iaload, 1) := by decide +kernel
theorem dL_law_415 : decode cL_law 415 = .ok (.invokevirtual 44, 3) := by decide +kernel
theorem dL_law_418 : decode cL_law 418 = .ok (.if_icmp .eq 1266, 3) := by decide +kernel
theorem law_post (C : CC p s m #[Value.ref b] meth c code RL 4 ret D cy (fun q => s.heap.size ≤ q) false Bd xa) (hX : va_X b Ln xs s s.heap) (hbl : b < s.heap.size) (hL : Ln ≤ 2560) {sX : S1} {aX : S2} {uG : S1} {es : S1} {ea : S2} {sT : S1} {aT : S2} {tT : S2} {pT : S1} {qT : S2} {ma : S2} {sL : S1} {aL : S2} {tL : S2} {pL : S1} {qL : S2} {sK : S1} {aK : S2} {tK : S2} {pK : S1} {qK : S2} {sH : S2} {rH : S3} {uH : S2} {sc : S1} {ar : S2} {la : S3} (I : INV sX aX uG es ea sT aT tT pT qT ma sL aL tL pL qL sK aK tK pK qK sH rH uH sc ar la) {i : Nat} (hi : i + 5 ≤ Ln) (k : ∀ (sX : S1) (aX : S2) (uG : S1) (es : S1) (ea : S2) (sT : S1) (aT : S2) (tT : S2) (pT : S1) (qT : S2) (ma : S2) (sL : S1) (aL : S2) (tL : S2) (pL : S1) (qL : S2) (sK : S1) (aK : S2) (tK : S2) (pK : S1) (qK : S2) (sH : S2) (rH : S3) (uH : S2) (sc : S1) (ar : S2) (la : S3), INV sX aX uG es ea sT aT tT pT qT ma sL aL tL pL qL sK aK tK pK qK sH rH uH sc ar la → LU p l e s m below meth c D b 1684 i (xd 0 0) (ad 0) [] (xC cy xd sX aX uG es ea sT aT tT pT qT ma sL aL tL pL qL sK aK tK pK qK sH rH uH ++ mC cy ad sc ar la)) : LU p l e s m below meth c D b 390 i (xd 0 0) (ad 0) [] (xC cy xd sX aX uG es ea sT aT tT pT qT ma sL aL tL pL qL sK aK tK pK qK sH rH uH ++ mC cy ad sc ar la) := by
  obtain ⟨o6, o7, e6, e7, ea1, I1⟩ := v_post (N := 10000000) (Nat.le_refl _) I (xs (i + 1)) (xs (i + 2))
  refine uu_aload_n C dL_law_390 rfl (k := 2) rfl ?_
  refine lu_arg C hX hbl hL hi (j := 1) (by decide) rfl dL_law_391 dL_law_392 dL_law_393 dL_law_394 dL_law_395 ?_
  refine lu_arg C hX hbl hL hi (j := 2) (by decide) rfl dL_law_396 dL_law_397 dL_law_398 dL_law_399 dL_law_400 ?_
  refine uu_callG C (k_X6_post (xa := xa) (xd := xd) (sX := sX) (aX := aX) (uG := uG) (es := es) (ea := ea) (sT := sT) (aT := aT) (tT := tT) (pT := pT) (qT := qT) (ma := ma) (sL := sL) (aL := aL) (tL := tL) (pL := pL) (qL := qL) (sK := sK) (aK := aK) (tK := tK) (pK := pK) (qK := qK) (sH := sH) (rH := rH) (uH := uH) e6) okX6_post q3_3 (ci := 6) rfl (q0 := 0) rfl [] (mC cy ad sc ar la) rfl (ws' := (xC cy xd sX o6.2.1 uG es ea sT aT tT pT qT ma o6.2.2.1 o6.2.2.2 tL pL qL sK aK tK pK qK sH rH uH ++ mC cy ad sc ar la)) rfl rfl rfl rfl (Nat.le_of_ble_eq_true rfl) ⟨Nat.le_of_ble_eq_true rfl, Nat.le_of_ble_eq_true rfl⟩ ⟨Nat.le_of_ble_eq_true rfl, Nat.le_of_ble_eq_true rfl⟩ dL_law_401 ?_
  refine uu_aload_n C dL_law_404 rfl (k := 1) rfl ?_
  refine lu_arg C hX hbl hL hi (j := 1) (by decide) rfl dL_law_405 dL_law_406 dL_law_407 dL_law_408 dL_law_409 ?_
  refine lu_arg C hX hbl hL hi (j := 2) (by decide) rfl dL_law_410 dL_law_411 dL_law_412 dL_law_413 dL_law_414 ?_
  refine uu_callG C (k_X7_post (xa := xa) (ad := ad) (sc := sc) (ar := ar) (la := la) e7) okX7_post q5_67 (ci := 7) rfl (q0 := 72) rfl (xC cy xd sX o6.2.1 uG es ea sT aT tT pT qT ma o6.2.2.1 o6.2.2.2 tL pL qL sK aK tK pK qK sH rH uH) [] (by rw [List.append_nil]) (ws' := (xC cy xd sX o6.2.1 uG es ea sT aT tT pT qT ma o6.2.2.1 o6.2.2.2 tL pL qL sK aK tK pK qK sH rH uH ++ mC cy ad o7.2.1 o7.2.2 la)) (by rw [List.append_nil]) rfl rfl rfl (Nat.le_of_ble_eq_true rfl) ⟨Nat.le_of_ble_eq_true rfl, Nat.le_of_ble_eq_true rfl⟩ ⟨Nat.le_of_ble_eq_true rfl, Nat.le_of_ble_eq_true rfl⟩ dL_law_415 ?_
  exact ur_icmp_eq C dL_law_418 (tgt := 1684) rfl (fun _ => k _ _ _ _ _ _ _ _ _ _ _ _ _ _ _ _ _ _ _ _ _ _ _ _ _ _ _ I1) (fun h => absurd ea1 h)
theorem dL_law_423 : decode cL_law 423 = .ok (.aload_n 1, 1) := by decide +kernel
theorem dL_law_424 : decode cL_law 424 = .ok (.aload_n 0, 1) := by decide +kernel
theorem dL_law_425 : decode cL_law 425 = .ok (.iload_n 3, 1) := by decide +kernel
theorem dL_law_426 : decode cL_law 426 = .ok (.iconst 1, 1) := by decide +kernel
theorem dL_law_427 : decode cL_law 427 = .ok (.iadd, 1) := by decide +kernel
theorem dL_law_428 : decode cL_law 428 = .ok (.iaload, 1) := by decide +kernel
theorem dL_law_429 : decode cL_law 429 = .ok (.aload_n 0, 1) := by decide +kernel
theorem dL_law_430 : decode cL_law 430 = .ok (.iload_n 3, 1) := by decide +kernel
theorem dL_law_431 : decode cL_law 431 = .ok (.iconst 2, 1) := by decide +kernel
theorem dL_law_432 : decode cL_law 432 = .ok (.iadd, 1) := by decide +kernel
theorem dL_law_433 : decode cL_law 433 = .ok (.iaload, 1) := by decide +kernel
theorem dL_law_434 : decode cL_law 434 = .ok (.aload_n 0, 1) := by decide +kernel
theorem dL_law_435 : decode cL_law 435 = .ok (.iload_n 3, 1) := by decide +kernel
theorem dL_law_436 : decode cL_law 436 = .ok (.iconst 3, 1) := by decide +kernel
theorem dL_law_437 : decode cL_law 437 = .ok (.iadd, 1) := by decide +kernel
theorem dL_law_438 : decode cL_law 438 = .ok (.iaload, 1) := by decide +kernel
theorem dL_law_439 : decode cL_law 439 = .ok (.invokevirtual 45, 3) := by decide +kernel
theorem dL_law_442 : decode cL_law 442 = .ok (.aload_n 2, 1) := by decide +kernel
theorem dL_law_443 : decode cL_law 443 = .ok (.aload_n 0, 1) := by decide +kernel
theorem dL_law_444 : decode cL_law 444 = .ok (.iload_n 3, 1) := by decide +kernel
theorem dL_law_445 : decode cL_law 445 = .ok (.iconst 1, 1) := by decide +kernel
theorem dL_law_446 : decode cL_law 446 = .ok (.iadd, 1) := by decide +kernel
theorem dL_law_447 : decode cL_law 447 = .ok (.iaload, 1) := by decide +kernel
theorem dL_law_448 : decode cL_law 448 = .ok (.aload_n 0, 1) := by decide +kernel
theorem dL_law_449 : decode cL_law 449 = .ok (.iload_n 3, 1) := by decide +kernel
theorem dL_law_450 : decode cL_law 450 = .ok (.iconst 2, 1) := by decide +kernel
theorem dL_law_451 : decode cL_law 451 = .ok (.iadd, 1) := by decide +kernel
theorem dL_law_452 : decode cL_law 452 = .ok (.iaload, 1) := by decide +kernel
theorem dL_law_453 : decode cL_law 453 = .ok (.aload_n 0, 1) := by decide +kernel
theorem dL_law_454 : decode cL_law 454 = .ok (.iload_n 3, 1) := by decide +kernel
theorem dL_law_455 : decode cL_law 455 = .ok (.iconst 3, 1) := by decide +kernel
theorem dL_law_456 : decode cL_law 456 = .ok (.iadd, 1) := by decide +kernel
theorem dL_law_457 : decode cL_law 457 = .ok (.iaload, 1) := by decide +kernel
theorem dL_law_458 : decode cL_law 458 = .ok (.invokevirtual 48, 3) := by decide +kernel
theorem dL_law_461 : decode cL_law 461 = .ok (.if_icmp .eq 1223, 3) := by decide +kernel
theorem law_sets (C : CC p s m #[Value.ref b] meth c code RL 4 ret D cy (fun q => s.heap.size ≤ q) false Bd xa) (hX : va_X b Ln xs s s.heap) (hbl : b < s.heap.size) (hL : Ln ≤ 2560) {sX : S1} {aX : S2} {uG : S1} {es : S1} {ea : S2} {sT : S1} {aT : S2} {tT : S2} {pT : S1} {qT : S2} {ma : S2} {sL : S1} {aL : S2} {tL : S2} {pL : S1} {qL : S2} {sK : S1} {aK : S2} {tK : S2} {pK : S1} {qK : S2} {sH : S2} {rH : S3} {uH : S2} {sc : S1} {ar : S2} {la : S3} (I : INV sX aX uG es ea sT aT tT pT qT ma sL aL tL pL qL sK aK tK pK qK sH rH uH sc ar la) {i : Nat} (hi : i + 5 ≤ Ln) (k : ∀ (sX : S1) (aX : S2) (uG : S1) (es : S1) (ea : S2) (sT : S1) (aT : S2) (tT : S2) (pT : S1) (qT : S2) (ma : S2) (sL : S1) (aL : S2) (tL : S2) (pL : S1) (qL : S2) (sK : S1) (aK : S2) (tK : S2) (pK : S1) (qK : S2) (sH : S2) (rH : S3) (uH : S2) (sc : S1) (ar : S2) (la : S3), INV sX aX uG es ea sT aT tT pT qT ma sL aL tL pL qL sK aK tK pK qK sH rH uH sc ar la → LU p l e s m below meth c D b 1684 i (xd 0 0) (ad 0) [] (xC cy xd sX aX uG es ea sT aT tT pT qT ma sL aL tL pL qL sK aK tK pK qK sH rH uH ++ mC cy ad sc ar la)) : LU p l e s m below meth c D b 423 i (xd 0 0) (ad 0) [] (xC cy xd sX aX uG es ea sT aT tT pT qT ma sL aL tL pL qL sK aK tK pK qK sH rH uH ++ mC cy ad sc ar la) := by
  obtain ⟨o6, o7, e6, e7, ea1, I1⟩ := v_sets (N := 10000000) (Nat.le_refl _) I (xs (i + 1)) (xs (i + 2)) (xs (i + 3))
  refine uu_aload_n C dL_law_423 rfl (k := 2) rfl ?_
  refine lu_arg C hX hbl hL hi (j := 1) (by decide) rfl dL_law_424 dL_law_425 dL_law_426 dL_law_427 dL_law_428 ?_
  refine lu_arg C hX hbl hL hi (j := 2) (by decide) rfl dL_law_429 dL_law_430 dL_law_431 dL_law_432 dL_law_433 ?_
  refine lu_arg C hX hbl hL hi (j := 3) (by decide) rfl dL_law_434 dL_law_435 dL_law_436 dL_law_437 dL_law_438 ?_
  refine uu_callG C (k_X6_sets (xa := xa) (xd := xd) (sX := sX) (aX := aX) (uG := uG) (es := es) (ea := ea) (sT := sT) (aT := aT) (tT := tT) (pT := pT) (qT := qT) (ma := ma) (sL := sL) (aL := aL) (tL := tL) (pL := pL) (qL := qL) (sK := sK) (aK := aK) (tK := tK) (pK := pK) (qK := qK) (sH := sH) (rH := rH) (uH := uH) e6) okX6_sets q3_8 (ci := 6) rfl (q0 := 0) rfl [] (mC cy ad sc ar la) rfl (ws' := (xC cy xd sX o6.2.1 uG es ea sT aT tT pT qT ma sL o6.2.2 tL pL qL sK aK tK pK qK sH rH uH ++ mC cy ad sc ar la)) rfl rfl rfl rfl (Nat.le_of_ble_eq_true rfl) ⟨Nat.le_of_ble_eq_true rfl, Nat.le_of_ble_eq_true rfl⟩ ⟨Nat.le_of_ble_eq_true rfl, Nat.le_of_ble_eq_true rfl⟩ dL_law_439 ?_
  refine uu_aload_n C dL_law_442 rfl (k := 1) rfl ?_
  refine lu_arg C hX hbl hL hi (j := 1) (by decide) rfl dL_law_443 dL_law_444 dL_law_445 dL_law_446 dL_law_447 ?_
  refine lu_arg C hX hbl hL hi (j := 2) (by decide) rfl dL_law_448 dL_law_449 dL_law_450 dL_law_451 dL_law_452 ?_
  refine lu_arg C hX hbl hL hi (j := 3) (by decide) rfl dL_law_453 dL_law_454 dL_law_455 dL_law_456 dL_law_457 ?_
  refine uu_callG C (k_X7_sets (xa := xa) (ad := ad) (sc := sc) (ar := ar) (la := la) e7) okX7_sets q5_75 (ci := 7) rfl (q0 := 72) rfl (xC cy xd sX o6.2.1 uG es ea sT aT tT pT qT ma sL o6.2.2 tL pL qL sK aK tK pK qK sH rH uH) [] (by rw [List.append_nil]) (ws' := (xC cy xd sX o6.2.1 uG es ea sT aT tT pT qT ma sL o6.2.2 tL pL qL sK aK tK pK qK sH rH uH ++ mC cy ad sc o7.2 la)) (by rw [List.append_nil]) rfl rfl rfl (Nat.le_of_ble_eq_true rfl) ⟨Nat.le_of_ble_eq_true rfl, Nat.le_of_ble_eq_true rfl⟩ ⟨Nat.le_of_ble_eq_true rfl, Nat.le_of_ble_eq_true rfl⟩ dL_law_458 ?_
  exact ur_icmp_eq C dL_law_461 (tgt := 1684) rfl (fun _ => k _ _ _ _ _ _ _ _ _ _ _ _ _ _ _ _ _ _ _ _ _ _ _ _ _ _ _ I1) (fun h => absurd ea1 h)
theorem dL_law_466 : decode cL_law 466 = .ok (.aload_n 1, 1) := by decide +kernel
theorem dL_law_467 : decode cL_law 467 = .ok (.aload_n 0, 1) := by decide +kernel
theorem dL_law_468 : decode cL_law 468 = .ok (.iload_n 3, 1) := by decide +kernel
theorem dL_law_469 : decode cL_law 469 = .ok (.iconst 1, 1) := by decide +kernel
theorem dL_law_470 : decode cL_law 470 = .ok (.iadd, 1) := by decide +kernel
theorem dL_law_471 : decode cL_law 471 = .ok (.iaload, 1) := by decide +kernel
theorem dL_law_472 : decode cL_law 472 = .ok (.aload_n 0, 1) := by decide +kernel
theorem dL_law_473 : decode cL_law 473 = .ok (.iload_n 3, 1) := by decide +kernel
theorem dL_law_474 : decode cL_law 474 = .ok (.iconst 2, 1) := by decide +kernel
theorem dL_law_475 : decode cL_law 475 = .ok (.iadd, 1) := by decide +kernel
theorem dL_law_476 : decode cL_law 476 = .ok (.iaload, 1) := by decide +kernel
theorem dL_law_477 : decode cL_law 477 = .ok (.aload_n 0, 1) := by decide +kernel
theorem dL_law_478 : decode cL_law 478 = .ok (.iload_n 3, 1) := by decide +kernel
theorem dL_law_479 : decode cL_law 479 = .ok (.iconst 3, 1) := by decide +kernel
theorem dL_law_480 : decode cL_law 480 = .ok (.iadd, 1) := by decide +kernel
theorem dL_law_481 : decode cL_law 481 = .ok (.iaload, 1) := by decide +kernel
theorem dL_law_482 : decode cL_law 482 = .ok (.aload_n 0, 1) := by decide +kernel
theorem dL_law_483 : decode cL_law 483 = .ok (.iload_n 3, 1) := by decide +kernel
theorem dL_law_484 : decode cL_law 484 = .ok (.iconst 4, 1) := by decide +kernel
theorem dL_law_485 : decode cL_law 485 = .ok (.iadd, 1) := by decide +kernel
theorem dL_law_486 : decode cL_law 486 = .ok (.iaload, 1) := by decide +kernel
theorem dL_law_487 : decode cL_law 487 = .ok (.invokevirtual 49, 3) := by decide +kernel
theorem dL_law_490 : decode cL_law 490 = .ok (.aload_n 2, 1) := by decide +kernel
theorem dL_law_491 : decode cL_law 491 = .ok (.aload_n 0, 1) := by decide +kernel
theorem dL_law_492 : decode cL_law 492 = .ok (.iload_n 3, 1) := by decide +kernel
theorem dL_law_493 : decode cL_law 493 = .ok (.iconst 1, 1) := by decide +kernel
theorem dL_law_494 : decode cL_law 494 = .ok (.iadd, 1) := by decide +kernel
theorem dL_law_495 : decode cL_law 495 = .ok (.iaload, 1) := by decide +kernel
theorem dL_law_496 : decode cL_law 496 = .ok (.aload_n 0, 1) := by decide +kernel
theorem dL_law_497 : decode cL_law 497 = .ok (.iload_n 3, 1) := by decide +kernel
theorem dL_law_498 : decode cL_law 498 = .ok (.iconst 2, 1) := by decide +kernel
theorem dL_law_499 : decode cL_law 499 = .ok (.iadd, 1) := by decide +kernel
theorem dL_law_500 : decode cL_law 500 = .ok (.iaload, 1) := by decide +kernel
theorem dL_law_501 : decode cL_law 501 = .ok (.aload_n 0, 1) := by decide +kernel
theorem dL_law_502 : decode cL_law 502 = .ok (.iload_n 3, 1) := by decide +kernel
theorem dL_law_503 : decode cL_law 503 = .ok (.iconst 3, 1) := by decide +kernel
theorem dL_law_504 : decode cL_law 504 = .ok (.iadd, 1) := by decide +kernel
theorem dL_law_505 : decode cL_law 505 = .ok (.iaload, 1) := by decide +kernel
theorem dL_law_506 : decode cL_law 506 = .ok (.aload_n 0, 1) := by decide +kernel
theorem dL_law_507 : decode cL_law 507 = .ok (.iload_n 3, 1) := by decide +kernel
theorem dL_law_508 : decode cL_law 508 = .ok (.iconst 4, 1) := by decide +kernel
theorem dL_law_509 : decode cL_law 509 = .ok (.iadd, 1) := by decide +kernel
theorem dL_law_510 : decode cL_law 510 = .ok (.iaload, 1) := by decide +kernel
theorem dL_law_511 : decode cL_law 511 = .ok (.invokevirtual 53, 3) := by decide +kernel
theorem dL_law_514 : decode cL_law 514 = .ok (.if_icmp .eq 1170, 3) := by decide +kernel
theorem law_train (C : CC p s m #[Value.ref b] meth c code RL 4 ret D cy (fun q => s.heap.size ≤ q) false Bd xa) (hX : va_X b Ln xs s s.heap) (hbl : b < s.heap.size) (hL : Ln ≤ 2560) {sX : S1} {aX : S2} {uG : S1} {es : S1} {ea : S2} {sT : S1} {aT : S2} {tT : S2} {pT : S1} {qT : S2} {ma : S2} {sL : S1} {aL : S2} {tL : S2} {pL : S1} {qL : S2} {sK : S1} {aK : S2} {tK : S2} {pK : S1} {qK : S2} {sH : S2} {rH : S3} {uH : S2} {sc : S1} {ar : S2} {la : S3} (I : INV sX aX uG es ea sT aT tT pT qT ma sL aL tL pL qL sK aK tK pK qK sH rH uH sc ar la) {i : Nat} (hi : i + 5 ≤ Ln) (k : ∀ (sX : S1) (aX : S2) (uG : S1) (es : S1) (ea : S2) (sT : S1) (aT : S2) (tT : S2) (pT : S1) (qT : S2) (ma : S2) (sL : S1) (aL : S2) (tL : S2) (pL : S1) (qL : S2) (sK : S1) (aK : S2) (tK : S2) (pK : S1) (qK : S2) (sH : S2) (rH : S3) (uH : S2) (sc : S1) (ar : S2) (la : S3), INV sX aX uG es ea sT aT tT pT qT ma sL aL tL pL qL sK aK tK pK qK sH rH uH sc ar la → LU p l e s m below meth c D b 1684 i (xd 0 0) (ad 0) [] (xC cy xd sX aX uG es ea sT aT tT pT qT ma sL aL tL pL qL sK aK tK pK qK sH rH uH ++ mC cy ad sc ar la)) : LU p l e s m below meth c D b 466 i (xd 0 0) (ad 0) [] (xC cy xd sX aX uG es ea sT aT tT pT qT ma sL aL tL pL qL sK aK tK pK qK sH rH uH ++ mC cy ad sc ar la) := by
  obtain ⟨o6, o7, e6, e7, ea1, I1⟩ := v_train (N := 10000000) (Nat.le_refl _) I (xs (i + 1)) (xs (i + 2)) (xs (i + 3)) (xs (i + 4))
  refine uu_aload_n C dL_law_466 rfl (k := 2) rfl ?_
  refine lu_arg C hX hbl hL hi (j := 1) (by decide) rfl dL_law_467 dL_law_468 dL_law_469 dL_law_470 dL_law_471 ?_
  refine lu_arg C hX hbl hL hi (j := 2) (by decide) rfl dL_law_472 dL_law_473 dL_law_474 dL_law_475 dL_law_476 ?_
  refine lu_arg C hX hbl hL hi (j := 3) (by decide) rfl dL_law_477 dL_law_478 dL_law_479 dL_law_480 dL_law_481 ?_
  refine lu_arg C hX hbl hL hi (j := 4) (by decide) rfl dL_law_482 dL_law_483 dL_law_484 dL_law_485 dL_law_486 ?_
  refine uu_callG C (k_X6_train (xa := xa) (xd := xd) (sX := sX) (aX := aX) (uG := uG) (es := es) (ea := ea) (sT := sT) (aT := aT) (tT := tT) (pT := pT) (qT := qT) (ma := ma) (sL := sL) (aL := aL) (tL := tL) (pL := pL) (qL := qL) (sK := sK) (aK := aK) (tK := tK) (pK := pK) (qK := qK) (sH := sH) (rH := rH) (uH := uH) e6) okX6_train q3_20 (ci := 6) rfl (q0 := 0) rfl [] (mC cy ad sc ar la) rfl (ws' := (xC cy xd sX o6.2.1 uG es ea sT aT tT pT qT ma o6.2.2.1 aL o6.2.2.2 pL qL sK aK tK pK qK sH rH uH ++ mC cy ad sc ar la)) rfl rfl rfl rfl (Nat.le_of_ble_eq_true rfl) ⟨Nat.le_of_ble_eq_true rfl, Nat.le_of_ble_eq_true rfl⟩ ⟨Nat.le_of_ble_eq_true rfl, Nat.le_of_ble_eq_true rfl⟩ dL_law_487 ?_
  refine uu_aload_n C dL_law_490 rfl (k := 1) rfl ?_
  refine lu_arg C hX hbl hL hi (j := 1) (by decide) rfl dL_law_491 dL_law_492 dL_law_493 dL_law_494 dL_law_495 ?_
  refine lu_arg C hX hbl hL hi (j := 2) (by decide) rfl dL_law_496 dL_law_497 dL_law_498 dL_law_499 dL_law_500 ?_
  refine lu_arg C hX hbl hL hi (j := 3) (by decide) rfl dL_law_501 dL_law_502 dL_law_503 dL_law_504 dL_law_505 ?_
  refine lu_arg C hX hbl hL hi (j := 4) (by decide) rfl dL_law_506 dL_law_507 dL_law_508 dL_law_509 dL_law_510 ?_
  refine uu_callG C (k_X7_train (xa := xa) (ad := ad) (sc := sc) (ar := ar) (la := la) e7) okX7_train q5_83 (ci := 7) rfl (q0 := 72) rfl (xC cy xd sX o6.2.1 uG es ea sT aT tT pT qT ma o6.2.2.1 aL o6.2.2.2 pL qL sK aK tK pK qK sH rH uH) [] (by rw [List.append_nil]) (ws' := (xC cy xd sX o6.2.1 uG es ea sT aT tT pT qT ma o6.2.2.1 aL o6.2.2.2 pL qL sK aK tK pK qK sH rH uH ++ mC cy ad o7.2.1 o7.2.2 la)) (by rw [List.append_nil]) rfl rfl rfl (Nat.le_of_ble_eq_true rfl) ⟨Nat.le_of_ble_eq_true rfl, Nat.le_of_ble_eq_true rfl⟩ ⟨Nat.le_of_ble_eq_true rfl, Nat.le_of_ble_eq_true rfl⟩ dL_law_511 ?_
  exact ur_icmp_eq C dL_law_514 (tgt := 1684) rfl (fun _ => k _ _ _ _ _ _ _ _ _ _ _ _ _ _ _ _ _ _ _ _ _ _ _ _ _ _ _ I1) (fun h => absurd ea1 h)
theorem dL_law_519 : decode cL_law 519 = .ok (.aload_n 1, 1) := by decide +kernel
theorem dL_law_520 : decode cL_law 520 = .ok (.aload_n 0, 1) := by decide +kernel
theorem dL_law_521 : decode cL_law 521 = .ok (.iload_n 3, 1) := by decide +kernel
theorem dL_law_522 : decode cL_law 522 = .ok (.iconst 1, 1) := by decide +kernel
theorem dL_law_523 : decode cL_law 523 = .ok (.iadd, 1) := by decide +kernel
theorem dL_law_524 : decode cL_law 524 = .ok (.iaload, 1) := by decide +kernel
theorem dL_law_525 : decode cL_law 525 = .ok (.invokevirtual 54, 3) := by decide +kernel
theorem dL_law_528 : decode cL_law 528 = .ok (.aload_n 2, 1) := by decide +kernel
theorem dL_law_529 : decode cL_law 529 = .ok (.aload_n 0, 1) := by decide +kernel
theorem dL_law_530 : decode cL_law 530 = .ok (.iload_n 3, 1) := by decide +kernel
theorem dL_law_531 : decode cL_law 531 = .ok (.iconst 1, 1) := by decide +kernel
theorem dL_law_532 : decode cL_law 532 = .ok (.iadd, 1) := by decide +kernel
theorem dL_law_533 : decode cL_law 533 = .ok (.iaload, 1) := by decide +kernel
theorem dL_law_534 : decode cL_law 534 = .ok (.invokevirtual 57, 3) := by decide +kernel
theorem dL_law_537 : decode cL_law 537 = .ok (.if_icmp .eq 1147, 3) := by decide +kernel
theorem law_need (C : CC p s m #[Value.ref b] meth c code RL 4 ret D cy (fun q => s.heap.size ≤ q) false Bd xa) (hX : va_X b Ln xs s s.heap) (hbl : b < s.heap.size) (hL : Ln ≤ 2560) {sX : S1} {aX : S2} {uG : S1} {es : S1} {ea : S2} {sT : S1} {aT : S2} {tT : S2} {pT : S1} {qT : S2} {ma : S2} {sL : S1} {aL : S2} {tL : S2} {pL : S1} {qL : S2} {sK : S1} {aK : S2} {tK : S2} {pK : S1} {qK : S2} {sH : S2} {rH : S3} {uH : S2} {sc : S1} {ar : S2} {la : S3} (I : INV sX aX uG es ea sT aT tT pT qT ma sL aL tL pL qL sK aK tK pK qK sH rH uH sc ar la) {i : Nat} (hi : i + 5 ≤ Ln) (k : ∀ (sX : S1) (aX : S2) (uG : S1) (es : S1) (ea : S2) (sT : S1) (aT : S2) (tT : S2) (pT : S1) (qT : S2) (ma : S2) (sL : S1) (aL : S2) (tL : S2) (pL : S1) (qL : S2) (sK : S1) (aK : S2) (tK : S2) (pK : S1) (qK : S2) (sH : S2) (rH : S3) (uH : S2) (sc : S1) (ar : S2) (la : S3), INV sX aX uG es ea sT aT tT pT qT ma sL aL tL pL qL sK aK tK pK qK sH rH uH sc ar la → LU p l e s m below meth c D b 1684 i (xd 0 0) (ad 0) [] (xC cy xd sX aX uG es ea sT aT tT pT qT ma sL aL tL pL qL sK aK tK pK qK sH rH uH ++ mC cy ad sc ar la)) : LU p l e s m below meth c D b 519 i (xd 0 0) (ad 0) [] (xC cy xd sX aX uG es ea sT aT tT pT qT ma sL aL tL pL qL sK aK tK pK qK sH rH uH ++ mC cy ad sc ar la) := by
  obtain ⟨o6, o7, e6, e7, ea1, I1⟩ := v_need (N := 10000000) (Nat.le_refl _) I (xs (i + 1))
  refine uu_aload_n C dL_law_519 rfl (k := 2) rfl ?_
  refine lu_arg C hX hbl hL hi (j := 1) (by decide) rfl dL_law_520 dL_law_521 dL_law_522 dL_law_523 dL_law_524 ?_
  refine uu_callG C (k_X6_need (xa := xa) (xd := xd) (sX := sX) (aX := aX) (uG := uG) (es := es) (ea := ea) (sT := sT) (aT := aT) (tT := tT) (pT := pT) (qT := qT) (ma := ma) (sL := sL) (aL := aL) (tL := tL) (pL := pL) (qL := qL) (sK := sK) (aK := aK) (tK := tK) (pK := pK) (qK := qK) (sH := sH) (rH := rH) (uH := uH) e6) okX6_need q3_25 (ci := 6) rfl (q0 := 0) rfl [] (mC cy ad sc ar la) rfl (ws' := (xC cy xd sX o6.2.1 uG es ea sT aT tT pT qT ma o6.2.2 aL tL pL qL sK aK tK pK qK sH rH uH ++ mC cy ad sc ar la)) rfl rfl rfl rfl (Nat.le_of_ble_eq_true rfl) ⟨Nat.le_of_ble_eq_true rfl, Nat.le_of_ble_eq_true rfl⟩ ⟨Nat.le_of_ble_eq_true rfl, Nat.le_of_ble_eq_true rfl⟩ dL_law_525 ?_
  refine uu_aload_n C dL_law_528 rfl (k := 1) rfl ?_
  refine lu_arg C hX hbl hL hi (j := 1) (by decide) rfl dL_law_529 dL_law_530 dL_law_531 dL_law_532 dL_law_533 ?_
  refine uu_callG C (k_X7_need (xa := xa) (ad := ad) (sc := sc) (ar := ar) (la := la) e7) okX7_need q5_87 (ci := 7) rfl (q0 := 72) rfl (xC cy xd sX o6.2.1 uG es ea sT aT tT pT qT ma o6.2.2 aL tL pL qL sK aK tK pK qK sH rH uH) [] (by rw [List.append_nil]) (ws' := (xC cy xd sX o6.2.1 uG es ea sT aT tT pT qT ma o6.2.2 aL tL pL qL sK aK tK pK qK sH rH uH ++ mC cy ad o7.2.1 o7.2.2 la)) (by rw [List.append_nil]) rfl rfl rfl (Nat.le_of_ble_eq_true rfl) ⟨Nat.le_of_ble_eq_true rfl, Nat.le_of_ble_eq_true rfl⟩ ⟨Nat.le_of_ble_eq_true rfl, Nat.le_of_ble_eq_true rfl⟩ dL_law_534 ?_
  exact ur_icmp_eq C dL_law_537 (tgt := 1684) rfl (fun _ => k _ _ _ _ _ _ _ _ _ _ _ _ _ _ _ _ _ _ _ _ _ _ _ _ _ _ _ I1) (fun h => absurd ea1 h)
theorem dL_law_542 : decode cL_law 542 = .ok (.aload_n 1, 1) := by decide +kernel
theorem dL_law_543 : decode cL_law 543 = .ok (.aload_n 0, 1) := by decide +kernel
theorem dL_law_544 : decode cL_law 544 = .ok (.iload_n 3, 1) := by decide +kernel
theorem dL_law_545 : decode cL_law 545 = .ok (.iconst 1, 1) := by decide +kernel
theorem dL_law_546 : decode cL_law 546 = .ok (.iadd, 1) := by decide +kernel
theorem dL_law_547 : decode cL_law 547 = .ok (.iaload, 1) := by decide +kernel
theorem dL_law_548 : decode cL_law 548 = .ok (.aload_n 0, 1) := by decide +kernel
theorem dL_law_549 : decode cL_law 549 = .ok (.iload_n 3, 1) := by decide +kernel
theorem dL_law_550 : decode cL_law 550 = .ok (.iconst 2, 1) := by decide +kernel
theorem dL_law_551 : decode cL_law 551 = .ok (.iadd, 1) := by decide +kernel
theorem dL_law_552 : decode cL_law 552 = .ok (.iaload, 1) := by decide +kernel
theorem dL_law_553 : decode cL_law 553 = .ok (.invokevirtual 58, 3) := by decide +kernel
theorem dL_law_556 : decode cL_law 556 = .ok (.aload_n 2, 1) := by decide +kernel
theorem dL_law_557 : decode cL_law 557 = .ok (.aload_n 0, 1) := by decide +kernel
theorem dL_law_558 : decode cL_law 558 = .ok (.iload_n 3, 1) := by decide +kernel
theorem dL_law_559 : decode cL_law 559 = .ok (.iconst 1, 1) := by decide +kernel
theorem dL_law_560 : decode cL_law 560 = .ok (.iadd, 1) := by decide +kernel
theorem dL_law_561 : decode cL_law 561 = .ok (.iaload, 1) := by decide +kernel
theorem dL_law_562 : decode cL_law 562 = .ok (.aload_n 0, 1) := by decide +kernel
theorem dL_law_563 : decode cL_law 563 = .ok (.iload_n 3, 1) := by decide +kernel
theorem dL_law_564 : decode cL_law 564 = .ok (.iconst 2, 1) := by decide +kernel
theorem dL_law_565 : decode cL_law 565 = .ok (.iadd, 1) := by decide +kernel
theorem dL_law_566 : decode cL_law 566 = .ok (.iaload, 1) := by decide +kernel
theorem dL_law_567 : decode cL_law 567 = .ok (.invokevirtual 61, 3) := by decide +kernel
theorem dL_law_570 : decode cL_law 570 = .ok (.if_icmp .eq 1114, 3) := by decide +kernel
theorem law_ofBridge (C : CC p s m #[Value.ref b] meth c code RL 4 ret D cy (fun q => s.heap.size ≤ q) false Bd xa) (hX : va_X b Ln xs s s.heap) (hbl : b < s.heap.size) (hL : Ln ≤ 2560) {sX : S1} {aX : S2} {uG : S1} {es : S1} {ea : S2} {sT : S1} {aT : S2} {tT : S2} {pT : S1} {qT : S2} {ma : S2} {sL : S1} {aL : S2} {tL : S2} {pL : S1} {qL : S2} {sK : S1} {aK : S2} {tK : S2} {pK : S1} {qK : S2} {sH : S2} {rH : S3} {uH : S2} {sc : S1} {ar : S2} {la : S3} (I : INV sX aX uG es ea sT aT tT pT qT ma sL aL tL pL qL sK aK tK pK qK sH rH uH sc ar la) {i : Nat} (hi : i + 5 ≤ Ln) (k : ∀ (sX : S1) (aX : S2) (uG : S1) (es : S1) (ea : S2) (sT : S1) (aT : S2) (tT : S2) (pT : S1) (qT : S2) (ma : S2) (sL : S1) (aL : S2) (tL : S2) (pL : S1) (qL : S2) (sK : S1) (aK : S2) (tK : S2) (pK : S1) (qK : S2) (sH : S2) (rH : S3) (uH : S2) (sc : S1) (ar : S2) (la : S3), INV sX aX uG es ea sT aT tT pT qT ma sL aL tL pL qL sK aK tK pK qK sH rH uH sc ar la → LU p l e s m below meth c D b 1684 i (xd 0 0) (ad 0) [] (xC cy xd sX aX uG es ea sT aT tT pT qT ma sL aL tL pL qL sK aK tK pK qK sH rH uH ++ mC cy ad sc ar la)) : LU p l e s m below meth c D b 542 i (xd 0 0) (ad 0) [] (xC cy xd sX aX uG es ea sT aT tT pT qT ma sL aL tL pL qL sK aK tK pK qK sH rH uH ++ mC cy ad sc ar la) := by
  obtain ⟨o6, o7, e6, e7, ea1, I1⟩ := v_ofBridge (N := 10000000) (Nat.le_refl _) I (xs (i + 1)) (xs (i + 2))
  refine uu_aload_n C dL_law_542 rfl (k := 2) rfl ?_
  refine lu_arg C hX hbl hL hi (j := 1) (by decide) rfl dL_law_543 dL_law_544 dL_law_545 dL_law_546 dL_law_547 ?_
  refine lu_arg C hX hbl hL hi (j := 2) (by decide) rfl dL_law_548 dL_law_549 dL_law_550 dL_law_551 dL_law_552 ?_
  refine uu_callG C (k_X6_ofBridge (xa := xa) (xd := xd) (sX := sX) (aX := aX) (uG := uG) (es := es) (ea := ea) (sT := sT) (aT := aT) (tT := tT) (pT := pT) (qT := qT) (ma := ma) (sL := sL) (aL := aL) (tL := tL) (pL := pL) (qL := qL) (sK := sK) (aK := aK) (tK := tK) (pK := pK) (qK := qK) (sH := sH) (rH := rH) (uH := uH) e6) okX6_ofBridge q3_30 (ci := 6) rfl (q0 := 0) rfl [] (mC cy ad sc ar la) rfl (ws' := (xC cy xd sX o6.2 uG es ea sT aT tT pT qT ma sL aL tL pL qL sK aK tK pK qK sH rH uH ++ mC cy ad sc ar la)) rfl rfl rfl rfl (Nat.le_of_ble_eq_true rfl) ⟨Nat.le_of_ble_eq_true rfl, Nat.le_of_ble_eq_true rfl⟩ ⟨Nat.le_of_ble_eq_true rfl, Nat.le_of_ble_eq_true rfl⟩ dL_law_553 ?_
  refine uu_aload_n C dL_law_556 rfl (k := 1) rfl ?_
  refine lu_arg C hX hbl hL hi (j := 1) (by decide) rfl dL_law_557 dL_law_558 dL_law_559 dL_law_560 dL_law_561 ?_
  refine lu_arg C hX hbl hL hi (j := 2) (by decide) rfl dL_law_562 dL_law_563 dL_law_564 dL_law_565 dL_law_566 ?_
  refine uu_callG C (k_X7_ofBridge (xa := xa) (ad := ad) (sc := sc) (ar := ar) (la := la) e7) okX7_ofBridge q5_91 (ci := 7) rfl (q0 := 72) rfl (xC cy xd sX o6.2 uG es ea sT aT tT pT qT ma sL aL tL pL qL sK aK tK pK qK sH rH uH) [] (by rw [List.append_nil]) (ws' := (xC cy xd sX o6.2 uG es ea sT aT tT pT qT ma sL aL tL pL qL sK aK tK pK qK sH rH uH ++ mC cy ad sc o7.2 la)) (by rw [List.append_nil]) rfl rfl rfl (Nat.le_of_ble_eq_true rfl) ⟨Nat.le_of_ble_eq_true rfl, Nat.le_of_ble_eq_true rfl⟩ ⟨Nat.le_of_ble_eq_true rfl, Nat.le_of_ble_eq_true rfl⟩ dL_law_567 ?_
  exact ur_icmp_eq C dL_law_570 (tgt := 1684) rfl (fun _ => k _ _ _ _ _ _ _ _ _ _ _ _ _ _ _ _ _ _ _ _ _ _ _ _ _ _ _ I1) (fun h => absurd ea1 h)
theorem dL_law_575 : decode cL_law 575 = .ok (.aload_n 1, 1) := by decide +kernel
theorem dL_law_576 : decode cL_law 576 = .ok (.aload_n 0, 1) := by decide +kernel
theorem dL_law_577 : decode cL_law 577 = .ok (.iload_n 3, 1) := by decide +kernel
theorem dL_law_578 : decode cL_law 578 = .ok (.iconst 1, 1) := by decide +kernel
theorem dL_law_579 : decode cL_law 579 = .ok (.iadd, 1) := by decide +kernel
theorem dL_law_580 : decode cL_law 580 = .ok (.iaload, 1) := by decide +kernel
theorem dL_law_581 : decode cL_law 581 = .ok (.aload_n 0, 1) := by decide +kernel
theorem dL_law_582 : decode cL_law 582 = .ok (.iload_n 3, 1) := by decide +kernel
theorem dL_law_583 : decode cL_law 583 = .ok (.iconst 2, 1) := by decide +kernel
theorem dL_law_584 : decode cL_law 584 = .ok (.iadd, 1) := by decide +kernel
theorem dL_law_585 : decode cL_law 585 = .ok (.iaload, 1) := by decide +kernel
theorem dL_law_586 : decode cL_law 586 = .ok (.invokevirtual 62, 3) := by decide +kernel
theorem dL_law_589 : decode cL_law 589 = .ok (.aload_n 2, 1) := by decide +kernel
theorem dL_law_590 : decode cL_law 590 = .ok (.aload_n 0, 1) := by decide +kernel
theorem dL_law_591 : decode cL_law 591 = .ok (.iload_n 3, 1) := by decide +kernel
theorem dL_law_592 : decode cL_law 592 = .ok (.iconst 1, 1) := by decide +kernel
theorem dL_law_593 : decode cL_law 593 = .ok (.iadd, 1) := by decide +kernel
theorem dL_law_594 : decode cL_law 594 = .ok (.iaload, 1) := by decide +kernel
theorem dL_law_595 : decode cL_law 595 = .ok (.aload_n 0, 1) := by decide +kernel
theorem dL_law_596 : decode cL_law 596 = .ok (.iload_n 3, 1) := by decide +kernel
theorem dL_law_597 : decode cL_law 597 = .ok (.iconst 2, 1) := by decide +kernel
theorem dL_law_598 : decode cL_law 598 = .ok (.iadd, 1) := by decide +kernel
theorem dL_law_599 : decode cL_law 599 = .ok (.iaload, 1) := by decide +kernel
theorem dL_law_600 : decode cL_law 600 = .ok (.invokevirtual 65, 3) := by decide +kernel
theorem dL_law_603 : decode cL_law 603 = .ok (.if_icmp .eq 1081, 3) := by decide +kernel
theorem law_ofPost (C : CC p s m #[Value.ref b] meth c code RL 4 ret D cy (fun q => s.heap.size ≤ q) false Bd xa) (hX : va_X b Ln xs s s.heap) (hbl : b < s.heap.size) (hL : Ln ≤ 2560) {sX : S1} {aX : S2} {uG : S1} {es : S1} {ea : S2} {sT : S1} {aT : S2} {tT : S2} {pT : S1} {qT : S2} {ma : S2} {sL : S1} {aL : S2} {tL : S2} {pL : S1} {qL : S2} {sK : S1} {aK : S2} {tK : S2} {pK : S1} {qK : S2} {sH : S2} {rH : S3} {uH : S2} {sc : S1} {ar : S2} {la : S3} (I : INV sX aX uG es ea sT aT tT pT qT ma sL aL tL pL qL sK aK tK pK qK sH rH uH sc ar la) {i : Nat} (hi : i + 5 ≤ Ln) (k : ∀ (sX : S1) (aX : S2) (uG : S1) (es : S1) (ea : S2) (sT : S1) (aT : S2) (tT : S2) (pT : S1) (qT : S2) (ma : S2) (sL : S1) (aL : S2) (tL : S2) (pL : S1) (qL : S2) (sK : S1) (aK : S2) (tK : S2) (pK : S1) (qK : S2) (sH : S2) (rH : S3) (uH : S2) (sc : S1) (ar : S2) (la : S3), INV sX aX uG es ea sT aT tT pT qT ma sL aL tL pL qL sK aK tK pK qK sH rH uH sc ar la → LU p l e s m below meth c D b 1684 i (xd 0 0) (ad 0) [] (xC cy xd sX aX uG es ea sT aT tT pT qT ma sL aL tL pL qL sK aK tK pK qK sH rH uH ++ mC cy ad sc ar la)) : LU p l e s m below meth c D b 575 i (xd 0 0) (ad 0) [] (xC cy xd sX aX uG es ea sT aT tT pT qT ma sL aL tL pL qL sK aK tK pK qK sH rH uH ++ mC cy ad sc ar la) := by
  obtain ⟨o6, o7, e6, e7, ea1, I1⟩ := v_ofPost (N := 10000000) (Nat.le_refl _) I (xs (i + 1)) (xs (i + 2))
  refine uu_aload_n C dL_law_575 rfl (k := 2) rfl ?_
  refine lu_arg C hX hbl hL hi (j := 1) (by decide) rfl dL_law_576 dL_law_577 dL_law_578 dL_law_579 dL_law_580 ?_
  refine lu_arg C hX hbl hL hi (j := 2) (by decide) rfl dL_law_581 dL_law_582 dL_law_583 dL_law_584 dL_law_585 ?_
  refine uu_callG C (k_X6_ofPost (xa := xa) (xd := xd) (sX := sX) (aX := aX) (uG := uG) (es := es) (ea := ea) (sT := sT) (aT := aT) (tT := tT) (pT := pT) (qT := qT) (ma := ma) (sL := sL) (aL := aL) (tL := tL) (pL := pL) (qL := qL) (sK := sK) (aK := aK) (tK := tK) (pK := pK) (qK := qK) (sH := sH) (rH := rH) (uH := uH) e6) okX6_ofPost q3_34 (ci := 6) rfl (q0 := 0) rfl [] (mC cy ad sc ar la) rfl (ws' := (xC cy xd sX o6.2 uG es ea sT aT tT pT qT ma sL aL tL pL qL sK aK tK pK qK sH rH uH ++ mC cy ad sc ar la)) rfl rfl rfl rfl (Nat.le_of_ble_eq_true rfl) ⟨Nat.le_of_ble_eq_true rfl, Nat.le_of_ble_eq_true rfl⟩ ⟨Nat.le_of_ble_eq_true rfl, Nat.le_of_ble_eq_true rfl⟩ dL_law_586 ?_
  refine uu_aload_n C dL_law_589 rfl (k := 1) rfl ?_
  refine lu_arg C hX hbl hL hi (j := 1) (by decide) rfl dL_law_590 dL_law_591 dL_law_592 dL_law_593 dL_law_594 ?_
  refine lu_arg C hX hbl hL hi (j := 2) (by decide) rfl dL_law_595 dL_law_596 dL_law_597 dL_law_598 dL_law_599 ?_
  refine uu_callG C (k_X7_ofPost (xa := xa) (ad := ad) (sc := sc) (ar := ar) (la := la) e7) okX7_ofPost q5_95 (ci := 7) rfl (q0 := 72) rfl (xC cy xd sX o6.2 uG es ea sT aT tT pT qT ma sL aL tL pL qL sK aK tK pK qK sH rH uH) [] (by rw [List.append_nil]) (ws' := (xC cy xd sX o6.2 uG es ea sT aT tT pT qT ma sL aL tL pL qL sK aK tK pK qK sH rH uH ++ mC cy ad sc o7.2 la)) (by rw [List.append_nil]) rfl rfl rfl (Nat.le_of_ble_eq_true rfl) ⟨Nat.le_of_ble_eq_true rfl, Nat.le_of_ble_eq_true rfl⟩ ⟨Nat.le_of_ble_eq_true rfl, Nat.le_of_ble_eq_true rfl⟩ dL_law_600 ?_
  exact ur_icmp_eq C dL_law_603 (tgt := 1684) rfl (fun _ => k _ _ _ _ _ _ _ _ _ _ _ _ _ _ _ _ _ _ _ _ _ _ _ _ _ _ _ I1) (fun h => absurd ea1 h)
end LWc0
