-- ===== the invariant =====
def INV (sX : S1) (aX : S2) (uG : S1) (es : S1) (ea : S2) (sT : S1) (aT : S2) (tT : S2) (pT : S1) (qT : S2) (ma : S2) (sL : S1) (aL : S2) (tL : S2) (pL : S1) (qL : S2) (sK : S1) (aK : S2) (tK : S2) (pK : S1) (qK : S2) (sH : S2) (rH : S3) (uH : S2) (sc : S1) (ar : S2) (la : S3) : Prop := ∃ (A : AS) (n : Nat), LA A sL aL tL pL qL ∧ MA A sc ar ∧ WF A ∧ UQ A ∧ sc 25 = 0 ∧ LT es ea sc ar n ∧ RFs aX ar ∧ IMG sX sc ar sK aK tK pK qK ∧ SH sH rH uH ar la
theorem INV_no {sX : S1} {aX : S2} {uG : S1} {es : S1} {ea : S2} {sT : S1} {aT : S2} {tT : S2} {pT : S1} {qT : S2} {ma : S2} {sL : S1} {aL : S2} {tL : S2} {pL : S1} {qL : S2} {sK : S1} {aK : S2} {tK : S2} {pK : S1} {qK : S2} {sH : S2} {rH : S3} {uH : S2} {sc : S1} {ar : S2} {la : S3} {uG2 : S1} {sT2 : S1} {aT2 : S2} {tT2 : S2} {pT2 : S1} {qT2 : S2} {ma2 : S2} (I : INV sX aX uG es ea sT aT tT pT qT ma sL aL tL pL qL sK aK tK pK qK sH rH uH sc ar la) {c : Int32} (hc : cod c) : INV sX (rfA aX c) uG2 es ea sT2 aT2 tT2 pT2 qT2 ma2 sL aL tL pL qL sK aK tK pK qK sH rH uH sc (noA ar c) la := by
  obtain ⟨A, n, h, g, hw, hu, hg, hl, hR, hi, hs⟩ := I
  refine ⟨A, n, h, MA_cg g (fun _ _ => rfl) (fun j hj => noA_ne (by omega)), hw, hu, hg, ⟨hl.1, ?_⟩, RFs_no hR c hc, ?_, SH_cg hs (noA_ne (by decide)) (noA_ne (by decide))⟩
  · rw [noA_ne (by decide)]; exact hl.2
  · rcases hi with z | ⟨z1, z2, A', s0, a0, q1, q2, q3, q4, q5⟩
    · exact Or.inl z
    · exact Or.inr ⟨z1, z2, A', s0, a0, q1, q2, q3, q4, by rw [noA_ne (by decide)]; exact q5⟩
theorem INV_ch {sX : S1} {aX : S2} {uG : S1} {es : S1} {ea : S2} {sT : S1} {aT : S2} {tT : S2} {pT : S1} {qT : S2} {ma : S2} {sL : S1} {aL : S2} {tL : S2} {pL : S1} {qL : S2} {sK : S1} {aK : S2} {tK : S2} {pK : S1} {qK : S2} {sH : S2} {rH : S3} {uH : S2} {sc : S1} {ar : S2} {la : S3} {uG2 : S1} {sT2 : S1} {aT2 : S2} {tT2 : S2} {pT2 : S1} {qT2 : S2} {ma2 : S2} {A : AS} {s2 : S1} {a2 t2 : S2} {p2 : S1} {q2 : S2} {sc2 : S1} {ar2 : S2} (I : INV sX aX uG es ea sT aT tT pT qT ma sL aL tL pL qL sK aK tK pK qK sH rH uH sc ar la) (h : LA A s2 a2 t2 p2 q2) (g : MA A sc2 ar2) (hw : WF A) (hu : UQ A) (f1 : ∀ j, j = 20 ∨ j = 24 ∨ j = 25 → sc2 j = sc j) (f2 : ∀ j, j = 19 ∨ j = 21 ∨ j = 22 ∨ j = 30 ∨ j = 31 → ar2 j = ar j) : INV sX aX uG2 es ea sT2 aT2 tT2 pT2 qT2 ma2 s2 a2 t2 p2 q2 sK aK tK pK qK sH rH uH sc2 ar2 la := by
  obtain ⟨A0, n, -, -, -, -, hg, hl, hR, hi, hs⟩ := I
  refine ⟨A, n, h, g, hw, hu, ?_, ⟨⟨hl.1.1, hl.1.2.1, ?_⟩, ?_⟩, ?_, ?_, SH_cg hs (f2 30 (by decide)) (f2 31 (by decide))⟩
  · rw [f1 25 (by decide)]; exact hg
  · rw [f1 20 (by decide)]; exact hl.1.2.2
  · rw [f2 19 (by decide)]; exact hl.2
  · intro k hk; rw [f2 21 (by decide)]; exact hR k hk
  · unfold IMG
    rw [f1 24 (by decide), f2 22 (by decide)]
    exact hi
/-- a change, taken apart -/
theorem chg6 {β : Type} {N : Nat} {A : AS} {s : S1} {a t : S2} {p : S1} {q : S2} {sc : S1} {ar : S2} {o1 : Option β} {F : β → Int32 × S1 × S2 × S2 × S1 × S2} {o7 : Option (Int32 × S1 × S2)} (H : CHG N A sc ar s a t p q (o1.bind fun r => some (F r)) o7) : (∃ x A' sc' ar', o1 = some x ∧ o7 = some ((F x).1, sc', ar') ∧ 0 ≤ (F x).1 ∧ LA A' (F x).2.1 (F x).2.2.1 (F x).2.2.2.1 (F x).2.2.2.2.1 (F x).2.2.2.2.2 ∧ MA A' sc' ar' ∧ WF A' ∧ UQ A' ∧ frS sc sc' ∧ frA ar ar') ∨ (∃ c x, cod c ∧ o1 = some x ∧ F x = (c, s, a, t, p, q) ∧ o7 = some (c, sc, noA ar c)) := by
  rcases H with ⟨r, A', s', a', t', p', q', sc', ar', e1, e7, h0, h1, h2, h3, h4, h5, h6⟩ | ⟨c, hc, e1, e7⟩
  · obtain ⟨x, hx, hF⟩ := bind_some e1
    have hF' := Option.some.inj hF
    refine Or.inl ⟨x, A', sc', ar', hx, ?_, ?_, ?_, h2, h3, h4, h5, h6⟩
    · rw [hF']; exact e7
    · rw [hF']; exact h0
    · rw [hF']; exact h1
  · obtain ⟨x, hx, hF⟩ := bind_some e1
    exact Or.inr ⟨c, x, hc, hx, Option.some.inj hF, e7⟩
theorem un7 {o : Option (Int32 × S2)} {sc sc' : S1} {r : Int32} {ar' : S2} (h : (o.bind fun r => some (r.1, sc, r.2)) = some (r, sc', ar')) : o = some (r, ar') ∧ sc' = sc := by
  obtain ⟨x, hx, hF⟩ := bind_some h
  have := Option.some.inj hF
  have e1 : x.1 = r := congrArg (fun y => y.1) this
  have e2 : sc = sc' := congrArg (fun y => y.2.1) this
  have e3 : x.2 = ar' := congrArg (fun y => y.2.2) this
  subst e1 e2 e3
  exact ⟨hx, rfl⟩
theorem v_letter {N : Nat} (hN : 10000000 ≤ N) {sX : S1} {aX : S2} {uG : S1} {es : S1} {ea : S2} {sT : S1} {aT : S2} {tT : S2} {pT : S1} {qT : S2} {ma : S2} {sL : S1} {aL : S2} {tL : S2} {pL : S1} {qL : S2} {sK : S1} {aK : S2} {tK : S2} {pK : S1} {qK : S2} {sH : S2} {rH : S3} {uH : S2} {sc : S1} {ar : S2} {la : S3} (I : INV sX aX uG es ea sT aT tT pT qT ma sL aL tL pL qL sK aK tK pK qK sH rH uH sc ar la) (a1 : Int32) : ∃ o6 o7, f_X6_letter N aX es ea a1 = some o6 ∧ f_X7_letter N sc ar a1 = some o7 ∧ o6.1 = o7.1 ∧ INV sX o6.2.1 uG o6.2.2.1 o6.2.2.2 sT aT tT pT qT ma sL aL tL pL qL sK aK tK pK qK sH rH uH o7.2.1 o7.2.2 la := by
  have hM : 100 ≤ N := by omega
  obtain ⟨A, n, h, g, hw, hu, hg, hl, hR, hi, hs⟩ := id I
  obtain ⟨z1, rfl, hz1⟩ := iI_ex a1
  rcases c_letter (N := N) (aX := aX) hl hz1 with ⟨r, es', ea', sc', ar', e6, e7, l', f1, f2⟩ | ⟨c, hc, e6, e7⟩
  · refine ⟨_, _, e6, e7, rfl, A, n + 1, h, MA_cg g (fun j hj => f1 j (by omega)) (fun j hj => f2 j (by omega)), hw, hu, ?_, l', ?_, ?_, SH_cg hs (f2 30 (by decide)) (f2 31 (by decide))⟩
    · show sc' 25 = 0
      rw [f1 25 (by decide)]; exact hg
    · intro k hk
      show aX 8 k = ar' 21 k
      rw [f2 21 (by decide)]; exact hR k hk
    · show IMG sX sc' ar' sK aK tK pK qK
      unfold IMG
      rw [f1 24 (by decide), f2 22 (by decide)]
      exact hi
  · exact ⟨_, _, e6, e7, rfl, INV_no I hc⟩
theorem v_tells {N : Nat} (hN : 10000000 ≤ N) {sX : S1} {aX : S2} {uG : S1} {es : S1} {ea : S2} {sT : S1} {aT : S2} {tT : S2} {pT : S1} {qT : S2} {ma : S2} {sL : S1} {aL : S2} {tL : S2} {pL : S1} {qL : S2} {sK : S1} {aK : S2} {tK : S2} {pK : S1} {qK : S2} {sH : S2} {rH : S3} {uH : S2} {sc : S1} {ar : S2} {la : S3} (I : INV sX aX uG es ea sT aT tT pT qT ma sL aL tL pL qL sK aK tK pK qK sH rH uH sc ar la) : ∃ o6 o7, f_X6_tells N es ea sT aT tT pT qT sL aL tL pL qL = some o6 ∧ f_X7_tells N sc ar = some o7 ∧ o6.1 = o7.1 ∧ INV sX aX uG o6.2.1 o6.2.2.1 o6.2.2.2.1 o6.2.2.2.2.1 o6.2.2.2.2.2.1 o6.2.2.2.2.2.2.1 o6.2.2.2.2.2.2.2.1 ma o6.2.2.2.2.2.2.2.2.1 o6.2.2.2.2.2.2.2.2.2.1 o6.2.2.2.2.2.2.2.2.2.2.1 o6.2.2.2.2.2.2.2.2.2.2.2.1 o6.2.2.2.2.2.2.2.2.2.2.2.2 sK aK tK pK qK sH rH uH o7.2.1 o7.2.2 la := by
  have hM : 100 ≤ N := by omega
  obtain ⟨A, n, h, g, hw, hu, hg, hl, hR, hi, hs⟩ := id I
  obtain ⟨z, A', es', ea', s1, a1, t1, p1, q1, s', a', t', p', q', sc', ar', e6, e7, h', g', w', u', l', f1, f2⟩ := c_tells (N := N) (by omega) h g hw hu hl (sK := sT) (aK := aT) (tK := tT) (pK := pT) (qK := qT)
  refine ⟨_, _, e6, e7, rfl, A', 0, h', g', w', u', ?_, l', ?_, ?_, SH_cg hs (f2 30 (by decide) (by decide) (by decide) (by decide)) (f2 31 (by decide) (by decide) (by decide) (by decide))⟩
  · show sc' 25 = 0
    rw [f1 25 (by decide) (by decide) (by decide) (by decide)]; exact hg
  · intro k hk
    show aX 8 k = ar' 21 k
    rw [f2 21 (by decide) (by decide) (by decide) (by decide)]; exact hR k hk
  · show IMG sX sc' ar' sK aK tK pK qK
    unfold IMG
    rw [f1 24 (by decide) (by decide) (by decide) (by decide), f2 22 (by decide) (by decide) (by decide) (by decide)]
    exact hi
theorem v_cells {N : Nat} (hN : 10000000 ≤ N) {sX : S1} {aX : S2} {uG : S1} {es : S1} {ea : S2} {sT : S1} {aT : S2} {tT : S2} {pT : S1} {qT : S2} {ma : S2} {sL : S1} {aL : S2} {tL : S2} {pL : S1} {qL : S2} {sK : S1} {aK : S2} {tK : S2} {pK : S1} {qK : S2} {sH : S2} {rH : S3} {uH : S2} {sc : S1} {ar : S2} {la : S3} (I : INV sX aX uG es ea sT aT tT pT qT ma sL aL tL pL qL sK aK tK pK qK sH rH uH sc ar la) (a1 : Int32) : ∃ o6 o7, f_X6_cells N aX sL aL pL qL a1 = some o6 ∧ f_X7_cells N sc ar a1 = some o7 ∧ o6.1 = o7.1 ∧ INV sX o6.2.1 uG es ea sT aT tT pT qT ma o6.2.2.1 o6.2.2.2.1 tL o6.2.2.2.2.1 o6.2.2.2.2.2 sK aK tK pK qK sH rH uH o7.2.1 o7.2.2 la := by
  have hM : 100 ≤ N := by omega
  obtain ⟨A, n, h, g, hw, hu, hg, hl, hR, hi, hs⟩ := id I
  obtain ⟨z1, rfl, hz1⟩ := iI_ex a1
  rcases chg6 (chg_cells (N := N) hM h g hw hu hz1) with ⟨x, A', sc', ar', hx, e7, h0, h', g', w', u', f1, f2⟩ | ⟨c, x, hc, hx, hF, e7⟩
  · refine ⟨(x.1, aX, x.2.1, x.2.2.1, x.2.2.2.1, x.2.2.2.2), (x.1, sc', ar'), ?_, e7, rfl, INV_ch I h' g' w' u' (fun j hj => f1 j (by omega)) (fun j hj => f2 j (by omega))⟩
    unfold f_X6_cells
    rw [hx, Option.bind_some, x6_counted_yes h0]
    rfl
  · have q0 : x.1 = c := congrArg (fun y => y.1) hF
    have q1 : x.2.1 = sL := congrArg (fun y => y.2.1) hF
    have q2 : x.2.2.1 = aL := congrArg (fun y => y.2.2.1) hF
    have q3 : x.2.2.2.1 = pL := congrArg (fun y => y.2.2.2.2.1) hF
    have q4 : x.2.2.2.2 = qL := congrArg (fun y => y.2.2.2.2.2) hF
    refine ⟨(c, rfA aX c, sL, aL, pL, qL), (c, sc, noA ar c), ?_, e7, rfl, INV_no I hc⟩
    unfold f_X6_cells
    rw [hx, Option.bind_some, q0, x6_counted_no hc, Option.bind_some, q1, q2, q3, q4]
theorem v_ground {N : Nat} (hN : 10000000 ≤ N) {sX : S1} {aX : S2} {uG : S1} {es : S1} {ea : S2} {sT : S1} {aT : S2} {tT : S2} {pT : S1} {qT : S2} {ma : S2} {sL : S1} {aL : S2} {tL : S2} {pL : S1} {qL : S2} {sK : S1} {aK : S2} {tK : S2} {pK : S1} {qK : S2} {sH : S2} {rH : S3} {uH : S2} {sc : S1} {ar : S2} {la : S3} (I : INV sX aX uG es ea sT aT tT pT qT ma sL aL tL pL qL sK aK tK pK qK sH rH uH sc ar la) (a1 : Int32) (a2 : Int32) : ∃ o6 o7, f_X6_ground N aX sL aL a1 a2 = some o6 ∧ f_X7_ground N sc ar a1 a2 = some o7 ∧ o6.1 = o7.1 ∧ INV sX o6.2.1 uG es ea sT aT tT pT qT ma sL o6.2.2 tL pL qL sK aK tK pK qK sH rH uH sc o7.2 la := by
  have hM : 100 ≤ N := by omega
  obtain ⟨A, n, h, g, hw, hu, hg, hl, hR, hi, hs⟩ := id I
  obtain ⟨z1, rfl, hz1⟩ := iI_ex a1
  obtain ⟨z2, rfl, hz2⟩ := iI_ex a2
  rcases chg6 (chg_ground (N := N) h g hw hu hz1 hz2) with ⟨x, A', sc', ar', hx, e7, h0, h', g', w', u', f1, f2⟩ | ⟨c, x, hc, hx, hF, e7⟩
  · obtain ⟨e8, e9⟩ := un7 e7
    subst e9
    refine ⟨(x.1, aX, x.2), (x.1, ar'), ?_, e8, rfl, INV_ch I h' g' w' u' (fun _ _ => rfl) (fun j hj => f2 j (by omega))⟩
    unfold f_X6_ground
    rw [hx, Option.bind_some, x6_counted_yes h0]
    rfl
  · have q0 : x.1 = c := congrArg (fun y => y.1) hF
    have q1 : x.2 = aL := congrArg (fun y => y.2.2.1) hF
    obtain ⟨e8, -⟩ := un7 e7
    refine ⟨(c, rfA aX c, aL), (c, noA ar c), ?_, e8, rfl, INV_no I hc⟩
    unfold f_X6_ground
    rw [hx, Option.bind_some, q0, x6_counted_no hc, Option.bind_some, q1]
theorem v_bridge {N : Nat} (hN : 10000000 ≤ N) {sX : S1} {aX : S2} {uG : S1} {es : S1} {ea : S2} {sT : S1} {aT : S2} {tT : S2} {pT : S1} {qT : S2} {ma : S2} {sL : S1} {aL : S2} {tL : S2} {pL : S1} {qL : S2} {sK : S1} {aK : S2} {tK : S2} {pK : S1} {qK : S2} {sH : S2} {rH : S3} {uH : S2} {sc : S1} {ar : S2} {la : S3} (I : INV sX aX uG es ea sT aT tT pT qT ma sL aL tL pL qL sK aK tK pK qK sH rH uH sc ar la) (a1 : Int32) (a2 : Int32) (a3 : Int32) : ∃ o6 o7, f_X6_bridge N aX sL aL a1 a2 a3 = some o6 ∧ f_X7_bridge N sc ar a1 a2 a3 = some o7 ∧ o6.1 = o7.1 ∧ INV sX o6.2.1 uG es ea sT aT tT pT qT ma o6.2.2.1 o6.2.2.2 tL pL qL sK aK tK pK qK sH rH uH o7.2.1 o7.2.2 la := by
  have hM : 100 ≤ N := by omega
  obtain ⟨A, n, h, g, hw, hu, hg, hl, hR, hi, hs⟩ := id I
  obtain ⟨z1, rfl, hz1⟩ := iI_ex a1
  obtain ⟨z2, rfl, hz2⟩ := iI_ex a2
  obtain ⟨z3, rfl, hz3⟩ := iI_ex a3
  rcases chg6 (chg_bridge (N := N) h g hw hu hz1 hz2 hz3) with ⟨x, A', sc', ar', hx, e7, h0, h', g', w', u', f1, f2⟩ | ⟨c, x, hc, hx, hF, e7⟩
  · refine ⟨(x.1, aX, x.2.1, x.2.2), (x.1, sc', ar'), ?_, e7, rfl, INV_ch I h' g' w' u' (fun j hj => f1 j (by omega)) (fun j hj => f2 j (by omega))⟩
    unfold f_X6_bridge
    rw [hx, Option.bind_some, x6_counted_yes h0]
    rfl
  · have q0 : x.1 = c := congrArg (fun y => y.1) hF
    have q1 : x.2.1 = sL := congrArg (fun y => y.2.1) hF
    have q2 : x.2.2 = aL := congrArg (fun y => y.2.2.1) hF
    refine ⟨(c, rfA aX c, sL, aL), (c, sc, noA ar c), ?_, e7, rfl, INV_no I hc⟩
    unfold f_X6_bridge
    rw [hx, Option.bind_some, q0, x6_counted_no hc, Option.bind_some, q1, q2]
theorem v_fells {N : Nat} (hN : 10000000 ≤ N) {sX : S1} {aX : S2} {uG : S1} {es : S1} {ea : S2} {sT : S1} {aT : S2} {tT : S2} {pT : S1} {qT : S2} {ma : S2} {sL : S1} {aL : S2} {tL : S2} {pL : S1} {qL : S2} {sK : S1} {aK : S2} {tK : S2} {pK : S1} {qK : S2} {sH : S2} {rH : S3} {uH : S2} {sc : S1} {ar : S2} {la : S3} (I : INV sX aX uG es ea sT aT tT pT qT ma sL aL tL pL qL sK aK tK pK qK sH rH uH sc ar la) (a1 : Int32) : ∃ o6 o7, f_X6_fells N aX sL aL a1 = some o6 ∧ f_X7_fells N sc ar a1 = some o7 ∧ o6.1 = o7.1 ∧ INV sX o6.2.1 uG es ea sT aT tT pT qT ma o6.2.2.1 o6.2.2.2 tL pL qL sK aK tK pK qK sH rH uH o7.2.1 o7.2.2 la := by
  have hM : 100 ≤ N := by omega
  obtain ⟨A, n, h, g, hw, hu, hg, hl, hR, hi, hs⟩ := id I
  obtain ⟨z1, rfl, hz1⟩ := iI_ex a1
  rcases chg_fells (N := N) (aX := aX) hM h g hw hu hz1 with ⟨r, A', s', a', sc', ar', e6, e7, h', g', w', u', f1, f2⟩ | ⟨c, hc, e6, e7⟩
  · exact ⟨_, _, e6, e7, rfl, INV_ch I h' g' w' u' (fun j hj => f1 j (by omega)) (fun j hj => f2 j (by omega))⟩
  · exact ⟨_, _, e6, e7, rfl, INV_no I hc⟩
theorem v_post {N : Nat} (hN : 10000000 ≤ N) {sX : S1} {aX : S2} {uG : S1} {es : S1} {ea : S2} {sT : S1} {aT : S2} {tT : S2} {pT : S1} {qT : S2} {ma : S2} {sL : S1} {aL : S2} {tL : S2} {pL : S1} {qL : S2} {sK : S1} {aK : S2} {tK : S2} {pK : S1} {qK : S2} {sH : S2} {rH : S3} {uH : S2} {sc : S1} {ar : S2} {la : S3} (I : INV sX aX uG es ea sT aT tT pT qT ma sL aL tL pL qL sK aK tK pK qK sH rH uH sc ar la) (a1 : Int32) (a2 : Int32) : ∃ o6 o7, f_X6_post N aX sL aL a1 a2 = some o6 ∧ f_X7_post N sc ar a1 a2 = some o7 ∧ o6.1 = o7.1 ∧ INV sX o6.2.1 uG es ea sT aT tT pT qT ma o6.2.2.1 o6.2.2.2 tL pL qL sK aK tK pK qK sH rH uH o7.2.1 o7.2.2 la := by
  have hM : 100 ≤ N := by omega
  obtain ⟨A, n, h, g, hw, hu, hg, hl, hR, hi, hs⟩ := id I
  obtain ⟨z1, rfl, hz1⟩ := iI_ex a1
  obtain ⟨z2, rfl, hz2⟩ := iI_ex a2
  rcases chg6 (chg_post (N := N) hM h g hw hu hz1 hz2) with ⟨x, A', sc', ar', hx, e7, h0, h', g', w', u', f1, f2⟩ | ⟨c, x, hc, hx, hF, e7⟩
  · refine ⟨(x.1, aX, x.2.1, x.2.2), (x.1, sc', ar'), ?_, e7, rfl, INV_ch I h' g' w' u' (fun j hj => f1 j (by omega)) (fun j hj => f2 j (by omega))⟩
    unfold f_X6_post
    rw [hx, Option.bind_some, x6_counted_yes h0]
    rfl
  · have q0 : x.1 = c := congrArg (fun y => y.1) hF
    have q1 : x.2.1 = sL := congrArg (fun y => y.2.1) hF
    have q2 : x.2.2 = aL := congrArg (fun y => y.2.2.1) hF
    refine ⟨(c, rfA aX c, sL, aL), (c, sc, noA ar c), ?_, e7, rfl, INV_no I hc⟩
    unfold f_X6_post
    rw [hx, Option.bind_some, q0, x6_counted_no hc, Option.bind_some, q1, q2]
theorem v_sets {N : Nat} (hN : 10000000 ≤ N) {sX : S1} {aX : S2} {uG : S1} {es : S1} {ea : S2} {sT : S1} {aT : S2} {tT : S2} {pT : S1} {qT : S2} {ma : S2} {sL : S1} {aL : S2} {tL : S2} {pL : S1} {qL : S2} {sK : S1} {aK : S2} {tK : S2} {pK : S1} {qK : S2} {sH : S2} {rH : S3} {uH : S2} {sc : S1} {ar : S2} {la : S3} (I : INV sX aX uG es ea sT aT tT pT qT ma sL aL tL pL qL sK aK tK pK qK sH rH uH sc ar la) (a1 : Int32) (a2 : Int32) (a3 : Int32) : ∃ o6 o7, f_X6_sets N aX sL aL a1 a2 a3 = some o6 ∧ f_X7_sets N sc ar a1 a2 a3 = some o7 ∧ o6.1 = o7.1 ∧ INV sX o6.2.1 uG es ea sT aT tT pT qT ma sL o6.2.2 tL pL qL sK aK tK pK qK sH rH uH sc o7.2 la := by
  have hM : 100 ≤ N := by omega
  obtain ⟨A, n, h, g, hw, hu, hg, hl, hR, hi, hs⟩ := id I
  obtain ⟨z1, rfl, hz1⟩ := iI_ex a1
  obtain ⟨z2, rfl, hz2⟩ := iI_ex a2
  obtain ⟨z3, rfl, hz3⟩ := iI_ex a3
  rcases chg6 (chg_sets (N := N) hM h g hw hu hz1 hz2 hz3) with ⟨x, A', sc', ar', hx, e7, h0, h', g', w', u', f1, f2⟩ | ⟨c, x, hc, hx, hF, e7⟩
  · obtain ⟨e8, e9⟩ := un7 e7
    subst e9
    refine ⟨(x.1, aX, x.2), (x.1, ar'), ?_, e8, rfl, INV_ch I h' g' w' u' (fun _ _ => rfl) (fun j hj => f2 j (by omega))⟩
    unfold f_X6_sets
    rw [hx, Option.bind_some, x6_counted_yes h0]
    rfl
  · have q0 : x.1 = c := congrArg (fun y => y.1) hF
    have q1 : x.2 = aL := congrArg (fun y => y.2.2.1) hF
    obtain ⟨e8, -⟩ := un7 e7
    refine ⟨(c, rfA aX c, aL), (c, noA ar c), ?_, e8, rfl, INV_no I hc⟩
    unfold f_X6_sets
    rw [hx, Option.bind_some, q0, x6_counted_no hc, Option.bind_some, q1]
theorem v_train {N : Nat} (hN : 10000000 ≤ N) {sX : S1} {aX : S2} {uG : S1} {es : S1} {ea : S2} {sT : S1} {aT : S2} {tT : S2} {pT : S1} {qT : S2} {ma : S2} {sL : S1} {aL : S2} {tL : S2} {pL : S1} {qL : S2} {sK : S1} {aK : S2} {tK : S2} {pK : S1} {qK : S2} {sH : S2} {rH : S3} {uH : S2} {sc : S1} {ar : S2} {la : S3} (I : INV sX aX uG es ea sT aT tT pT qT ma sL aL tL pL qL sK aK tK pK qK sH rH uH sc ar la) (a1 : Int32) (a2 : Int32) (a3 : Int32) (a4 : Int32) : ∃ o6 o7, f_X6_train N aX sL tL a1 a2 a3 a4 = some o6 ∧ f_X7_train N sc ar a1 a2 a3 a4 = some o7 ∧ o6.1 = o7.1 ∧ INV sX o6.2.1 uG es ea sT aT tT pT qT ma o6.2.2.1 aL o6.2.2.2 pL qL sK aK tK pK qK sH rH uH o7.2.1 o7.2.2 la := by
  have hM : 100 ≤ N := by omega
  obtain ⟨A, n, h, g, hw, hu, hg, hl, hR, hi, hs⟩ := id I
  obtain ⟨z1, rfl, hz1⟩ := iI_ex a1
  obtain ⟨z2, rfl, hz2⟩ := iI_ex a2
  obtain ⟨z3, rfl, hz3⟩ := iI_ex a3
  obtain ⟨z4, rfl, hz4⟩ := iI_ex a4
  rcases chg6 (chg_train (N := N) h g hw hu hz1 hz2 hz3 hz4) with ⟨x, A', sc', ar', hx, e7, h0, h', g', w', u', f1, f2⟩ | ⟨c, x, hc, hx, hF, e7⟩
  · refine ⟨(x.1, aX, x.2.1, x.2.2), (x.1, sc', ar'), ?_, e7, rfl, INV_ch I h' g' w' u' (fun j hj => f1 j (by omega)) (fun j hj => f2 j (by omega))⟩
    unfold f_X6_train
    rw [hx, Option.bind_some, x6_counted_yes h0]
    rfl
  · have q0 : x.1 = c := congrArg (fun y => y.1) hF
    have q1 : x.2.1 = sL := congrArg (fun y => y.2.1) hF
    have q2 : x.2.2 = tL := congrArg (fun y => y.2.2.2.1) hF
    refine ⟨(c, rfA aX c, sL, tL), (c, sc, noA ar c), ?_, e7, rfl, INV_no I hc⟩
    unfold f_X6_train
    rw [hx, Option.bind_some, q0, x6_counted_no hc, Option.bind_some, q1, q2]
theorem v_need {N : Nat} (hN : 10000000 ≤ N) {sX : S1} {aX : S2} {uG : S1} {es : S1} {ea : S2} {sT : S1} {aT : S2} {tT : S2} {pT : S1} {qT : S2} {ma : S2} {sL : S1} {aL : S2} {tL : S2} {pL : S1} {qL : S2} {sK : S1} {aK : S2} {tK : S2} {pK : S1} {qK : S2} {sH : S2} {rH : S3} {uH : S2} {sc : S1} {ar : S2} {la : S3} (I : INV sX aX uG es ea sT aT tT pT qT ma sL aL tL pL qL sK aK tK pK qK sH rH uH sc ar la) (a1 : Int32) : ∃ o6 o7, f_X6_need N aX sL a1 = some o6 ∧ f_X7_need N sc ar a1 = some o7 ∧ o6.1 = o7.1 ∧ INV sX o6.2.1 uG es ea sT aT tT pT qT ma o6.2.2 aL tL pL qL sK aK tK pK qK sH rH uH o7.2.1 o7.2.2 la := by
  have hM : 100 ≤ N := by omega
  obtain ⟨A, n, h, g, hw, hu, hg, hl, hR, hi, hs⟩ := id I
  obtain ⟨z1, rfl, hz1⟩ := iI_ex a1
  rcases chg6 (chg_need (N := N) h g hw hu hz1) with ⟨x, A', sc', ar', hx, e7, h0, h', g', w', u', f1, f2⟩ | ⟨c, x, hc, hx, hF, e7⟩
  · refine ⟨(x.1, aX, x.2), (x.1, sc', ar'), ?_, e7, rfl, INV_ch I h' g' w' u' (fun j hj => f1 j (by omega)) (fun j hj => f2 j (by omega))⟩
    unfold f_X6_need
    rw [hx, Option.bind_some, x6_counted_yes h0]
    rfl
  · have q0 : x.1 = c := congrArg (fun y => y.1) hF
    have q1 : x.2 = sL := congrArg (fun y => y.2.1) hF
    refine ⟨(c, rfA aX c, sL), (c, sc, noA ar c), ?_, e7, rfl, INV_no I hc⟩
    unfold f_X6_need
    rw [hx, Option.bind_some, q0, x6_counted_no hc, Option.bind_some, q1]
theorem v_ofBridge {N : Nat} (hN : 10000000 ≤ N) {sX : S1} {aX : S2} {uG : S1} {es : S1} {ea : S2} {sT : S1} {aT : S2} {tT : S2} {pT : S1} {qT : S2} {ma : S2} {sL : S1} {aL : S2} {tL : S2} {pL : S1} {qL : S2} {sK : S1} {aK : S2} {tK : S2} {pK : S1} {qK : S2} {sH : S2} {rH : S3} {uH : S2} {sc : S1} {ar : S2} {la : S3} (I : INV sX aX uG es ea sT aT tT pT qT ma sL aL tL pL qL sK aK tK pK qK sH rH uH sc ar la) (a1 : Int32) (a2 : Int32) : ∃ o6 o7, f_X6_ofBridge N aX sL aL a1 a2 = some o6 ∧ f_X7_ofBridge N sc ar a1 a2 = some o7 ∧ o6.1 = o7.1 ∧ INV sX o6.2 uG es ea sT aT tT pT qT ma sL aL tL pL qL sK aK tK pK qK sH rH uH sc o7.2 la := by
  have hM : 100 ≤ N := by omega
  obtain ⟨A, n, h, g, hw, hu, hg, hl, hR, hi, hs⟩ := id I
  obtain ⟨z1, rfl, hz1⟩ := iI_ex a1
  obtain ⟨z2, rfl, hz2⟩ := iI_ex a2
  rcases q_ofBridge (N := N) (aX := aX) h g hw (w := iI z2) hz1 with ⟨r, e6, e7⟩ | ⟨c, hc, e6, e7⟩
  · exact ⟨_, _, e6, e7, rfl, I⟩
  · exact ⟨_, _, e6, e7, rfl, INV_no I hc⟩
theorem v_ofPost {N : Nat} (hN : 10000000 ≤ N) {sX : S1} {aX : S2} {uG : S1} {es : S1} {ea : S2} {sT : S1} {aT : S2} {tT : S2} {pT : S1} {qT : S2} {ma : S2} {sL : S1} {aL : S2} {tL : S2} {pL : S1} {qL : S2} {sK : S1} {aK : S2} {tK : S2} {pK : S1} {qK : S2} {sH : S2} {rH : S3} {uH : S2} {sc : S1} {ar : S2} {la : S3} (I : INV sX aX uG es ea sT aT tT pT qT ma sL aL tL pL qL sK aK tK pK qK sH rH uH sc ar la) (a1 : Int32) (a2 : Int32) : ∃ o6 o7, f_X6_ofPost N aX sL aL a1 a2 = some o6 ∧ f_X7_ofPost N sc ar a1 a2 = some o7 ∧ o6.1 = o7.1 ∧ INV sX o6.2 uG es ea sT aT tT pT qT ma sL aL tL pL qL sK aK tK pK qK sH rH uH sc o7.2 la := by
  have hM : 100 ≤ N := by omega
  obtain ⟨A, n, h, g, hw, hu, hg, hl, hR, hi, hs⟩ := id I
  obtain ⟨z1, rfl, hz1⟩ := iI_ex a1
  obtain ⟨z2, rfl, hz2⟩ := iI_ex a2
  rcases q_ofPost (N := N) (aX := aX) h g hw (w := iI z2) hz1 with ⟨r, e6, e7⟩ | ⟨c, hc, e6, e7⟩
  · exact ⟨_, _, e6, e7, rfl, I⟩
  · exact ⟨_, _, e6, e7, rfl, INV_no I hc⟩
theorem v_ofTrain {N : Nat} (hN : 10000000 ≤ N) {sX : S1} {aX : S2} {uG : S1} {es : S1} {ea : S2} {sT : S1} {aT : S2} {tT : S2} {pT : S1} {qT : S2} {ma : S2} {sL : S1} {aL : S2} {tL : S2} {pL : S1} {qL : S2} {sK : S1} {aK : S2} {tK : S2} {pK : S1} {qK : S2} {sH : S2} {rH : S3} {uH : S2} {sc : S1} {ar : S2} {la : S3} (I : INV sX aX uG es ea sT aT tT pT qT ma sL aL tL pL qL sK aK tK pK qK sH rH uH sc ar la) (a1 : Int32) (a2 : Int32) : ∃ o6 o7, f_X6_ofTrain N aX sL tL a1 a2 = some o6 ∧ f_X7_ofTrain N sc ar a1 a2 = some o7 ∧ o6.1 = o7.1 ∧ INV sX o6.2 uG es ea sT aT tT pT qT ma sL aL tL pL qL sK aK tK pK qK sH rH uH sc o7.2 la := by
  have hM : 100 ≤ N := by omega
  obtain ⟨A, n, h, g, hw, hu, hg, hl, hR, hi, hs⟩ := id I
  obtain ⟨z1, rfl, hz1⟩ := iI_ex a1
  obtain ⟨z2, rfl, hz2⟩ := iI_ex a2
  rcases q_ofTrain (N := N) (aX := aX) h g hw (w := iI z2) hz1 with ⟨r, e6, e7⟩ | ⟨c, hc, e6, e7⟩
  · exact ⟨_, _, e6, e7, rfl, I⟩
  · exact ⟨_, _, e6, e7, rfl, INV_no I hc⟩
theorem v_height {N : Nat} (hN : 10000000 ≤ N) {sX : S1} {aX : S2} {uG : S1} {es : S1} {ea : S2} {sT : S1} {aT : S2} {tT : S2} {pT : S1} {qT : S2} {ma : S2} {sL : S1} {aL : S2} {tL : S2} {pL : S1} {qL : S2} {sK : S1} {aK : S2} {tK : S2} {pK : S1} {qK : S2} {sH : S2} {rH : S3} {uH : S2} {sc : S1} {ar : S2} {la : S3} (I : INV sX aX uG es ea sT aT tT pT qT ma sL aL tL pL qL sK aK tK pK qK sH rH uH sc ar la) (a1 : Int32) : ∃ o6 o7, f_X6_height N aX sL aL a1 = some o6 ∧ f_X7_height N sc ar a1 = some o7 ∧ o6.1 = o7.1 ∧ INV sX o6.2 uG es ea sT aT tT pT qT ma sL aL tL pL qL sK aK tK pK qK sH rH uH sc o7.2 la := by
  have hM : 100 ≤ N := by omega
  obtain ⟨A, n, h, g, hw, hu, hg, hl, hR, hi, hs⟩ := id I
  obtain ⟨z1, rfl, hz1⟩ := iI_ex a1
  rcases q_height (N := N) (aX := aX) h g hw hz1 with ⟨r, e6, e7⟩ | ⟨c, hc, e6, e7⟩
  · exact ⟨_, _, e6, e7, rfl, I⟩
  · exact ⟨_, _, e6, e7, rfl, INV_no I hc⟩
theorem v_time {N : Nat} (hN : 10000000 ≤ N) {sX : S1} {aX : S2} {uG : S1} {es : S1} {ea : S2} {sT : S1} {aT : S2} {tT : S2} {pT : S1} {qT : S2} {ma : S2} {sL : S1} {aL : S2} {tL : S2} {pL : S1} {qL : S2} {sK : S1} {aK : S2} {tK : S2} {pK : S1} {qK : S2} {sH : S2} {rH : S3} {uH : S2} {sc : S1} {ar : S2} {la : S3} (I : INV sX aX uG es ea sT aT tT pT qT ma sL aL tL pL qL sK aK tK pK qK sH rH uH sc ar la) (a1 : Int32) (a2 : Int32) : ∃ o6 o7, f_X6_time N aX sL aL tL a1 a2 = some o6 ∧ f_X7_time N sc ar a1 a2 = some o7 ∧ o6.1 = o7.1 ∧ INV sX o6.2 uG es ea sT aT tT pT qT ma sL aL tL pL qL sK aK tK pK qK sH rH uH sc o7.2 la := by
  have hM : 100 ≤ N := by omega
  obtain ⟨A, n, h, g, hw, hu, hg, hl, hR, hi, hs⟩ := id I
  obtain ⟨z1, rfl, hz1⟩ := iI_ex a1
  obtain ⟨z2, rfl, hz2⟩ := iI_ex a2
  rcases q_time (N := N) (aX := aX) hM h g hw hz1 hz2 with ⟨r, e6, e7⟩ | ⟨c, hc, e6, e7⟩
  · exact ⟨_, _, e6, e7, rfl, I⟩
  · exact ⟨_, _, e6, e7, rfl, INV_no I hc⟩
theorem v_sight {N : Nat} (hN : 10000000 ≤ N) {sX : S1} {aX : S2} {uG : S1} {es : S1} {ea : S2} {sT : S1} {aT : S2} {tT : S2} {pT : S1} {qT : S2} {ma : S2} {sL : S1} {aL : S2} {tL : S2} {pL : S1} {qL : S2} {sK : S1} {aK : S2} {tK : S2} {pK : S1} {qK : S2} {sH : S2} {rH : S3} {uH : S2} {sc : S1} {ar : S2} {la : S3} (I : INV sX aX uG es ea sT aT tT pT qT ma sL aL tL pL qL sK aK tK pK qK sH rH uH sc ar la) (a1 : Int32) (a2 : Int32) (a3 : Int32) (a4 : Int32) : ∃ o6 o7, f_X6_sight N aX sL aL a1 a2 a3 a4 = some o6 ∧ f_X7_sight N sc ar a1 a2 a3 a4 = some o7 ∧ o6.1 = o7.1 ∧ INV sX o6.2 uG es ea sT aT tT pT qT ma sL aL tL pL qL sK aK tK pK qK sH rH uH sc o7.2 la := by
  have hM : 100 ≤ N := by omega
  obtain ⟨A, n, h, g, hw, hu, hg, hl, hR, hi, hs⟩ := id I
  obtain ⟨z1, rfl, hz1⟩ := iI_ex a1
  obtain ⟨z2, rfl, hz2⟩ := iI_ex a2
  obtain ⟨z3, rfl, hz3⟩ := iI_ex a3
  obtain ⟨z4, rfl, hz4⟩ := iI_ex a4
  rcases q_sight (N := N) (aX := aX) hM h g hw hg hz1 hz2 hz3 hz4 with ⟨r, e6, e7⟩ | ⟨c, hc, e6, e7⟩
  · exact ⟨_, _, e6, e7, rfl, I⟩
  · exact ⟨_, _, e6, e7, rfl, INV_no I hc⟩
theorem v_sees {N : Nat} (hN : 10000000 ≤ N) {sX : S1} {aX : S2} {uG : S1} {es : S1} {ea : S2} {sT : S1} {aT : S2} {tT : S2} {pT : S1} {qT : S2} {ma : S2} {sL : S1} {aL : S2} {tL : S2} {pL : S1} {qL : S2} {sK : S1} {aK : S2} {tK : S2} {pK : S1} {qK : S2} {sH : S2} {rH : S3} {uH : S2} {sc : S1} {ar : S2} {la : S3} (I : INV sX aX uG es ea sT aT tT pT qT ma sL aL tL pL qL sK aK tK pK qK sH rH uH sc ar la) (a1 : Int32) (a2 : Int32) (a3 : Int32) : ∃ o6 o7, f_X6_sees N aX sL aL tL a1 a2 a3 = some o6 ∧ f_X7_sees N sc ar a1 a2 a3 = some o7 ∧ o6.1 = o7.1 ∧ INV sX o6.2 uG es ea sT aT tT pT qT ma sL aL tL pL qL sK aK tK pK qK sH rH uH sc o7.2 la := by
  have hM : 100 ≤ N := by omega
  obtain ⟨A, n, h, g, hw, hu, hg, hl, hR, hi, hs⟩ := id I
  obtain ⟨z1, rfl, hz1⟩ := iI_ex a1
  obtain ⟨z2, rfl, hz2⟩ := iI_ex a2
  obtain ⟨z3, rfl, hz3⟩ := iI_ex a3
  rcases q_sees (N := N) (aX := aX) hM h g hw hg hz1 hz2 hz3 with ⟨r, e6, e7⟩ | ⟨c, hc, e6, e7⟩
  · exact ⟨_, _, e6, e7, rfl, I⟩
  · exact ⟨_, _, e6, e7, rfl, INV_no I hc⟩
theorem v_first {N : Nat} (hN : 10000000 ≤ N) {sX : S1} {aX : S2} {uG : S1} {es : S1} {ea : S2} {sT : S1} {aT : S2} {tT : S2} {pT : S1} {qT : S2} {ma : S2} {sL : S1} {aL : S2} {tL : S2} {pL : S1} {qL : S2} {sK : S1} {aK : S2} {tK : S2} {pK : S1} {qK : S2} {sH : S2} {rH : S3} {uH : S2} {sc : S1} {ar : S2} {la : S3} (I : INV sX aX uG es ea sT aT tT pT qT ma sL aL tL pL qL sK aK tK pK qK sH rH uH sc ar la) (a1 : Int32) (a2 : Int32) : ∃ o6 o7, f_X6_first N aX sL aL tL a1 a2 = some o6 ∧ f_X7_first N sc ar a1 a2 = some o7 ∧ o6.1 = o7.1 ∧ INV sX o6.2 uG es ea sT aT tT pT qT ma sL aL tL pL qL sK aK tK pK qK sH rH uH sc o7.2 la := by
  have hM : 100 ≤ N := by omega
  obtain ⟨A, n, h, g, hw, hu, hg, hl, hR, hi, hs⟩ := id I
  obtain ⟨z1, rfl, hz1⟩ := iI_ex a1
  obtain ⟨z2, rfl, hz2⟩ := iI_ex a2
  rcases q_first (N := N) (aX := aX) hM h g hw hg hz1 hz2 with ⟨r, e6, e7⟩ | ⟨c, hc, e6, e7⟩
  · exact ⟨_, _, e6, e7, rfl, I⟩
  · exact ⟨_, _, e6, e7, rfl, INV_no I hc⟩
theorem v_warned {N : Nat} (hN : 10000000 ≤ N) {sX : S1} {aX : S2} {uG : S1} {es : S1} {ea : S2} {sT : S1} {aT : S2} {tT : S2} {pT : S1} {qT : S2} {ma : S2} {sL : S1} {aL : S2} {tL : S2} {pL : S1} {qL : S2} {sK : S1} {aK : S2} {tK : S2} {pK : S1} {qK : S2} {sH : S2} {rH : S3} {uH : S2} {sc : S1} {ar : S2} {la : S3} (I : INV sX aX uG es ea sT aT tT pT qT ma sL aL tL pL qL sK aK tK pK qK sH rH uH sc ar la) (a1 : Int32) (a2 : Int32) : ∃ o6 o7, f_X6_warned N aX sL aL tL a1 a2 = some o6 ∧ f_X7_warned N sc ar a1 a2 = some o7 ∧ o6.1 = o7.1 ∧ INV sX o6.2 uG es ea sT aT tT pT qT ma sL aL tL pL qL sK aK tK pK qK sH rH uH sc o7.2 la := by
  have hM : 100 ≤ N := by omega
  obtain ⟨A, n, h, g, hw, hu, hg, hl, hR, hi, hs⟩ := id I
  obtain ⟨z1, rfl, hz1⟩ := iI_ex a1
  obtain ⟨z2, rfl, hz2⟩ := iI_ex a2
  rcases q_warned (N := N) (aX := aX) hM h g hw hg hz1 hz2 with ⟨r, e6, e7⟩ | ⟨c, hc, e6, e7⟩
  · exact ⟨_, _, e6, e7, rfl, I⟩
  · exact ⟨_, _, e6, e7, rfl, INV_no I hc⟩
theorem v_safe {N : Nat} (hN : 10000000 ≤ N) {sX : S1} {aX : S2} {uG : S1} {es : S1} {ea : S2} {sT : S1} {aT : S2} {tT : S2} {pT : S1} {qT : S2} {ma : S2} {sL : S1} {aL : S2} {tL : S2} {pL : S1} {qL : S2} {sK : S1} {aK : S2} {tK : S2} {pK : S1} {qK : S2} {sH : S2} {rH : S3} {uH : S2} {sc : S1} {ar : S2} {la : S3} (I : INV sX aX uG es ea sT aT tT pT qT ma sL aL tL pL qL sK aK tK pK qK sH rH uH sc ar la) : ∃ o6 o7, f_X6_safe N sL aL tL = some o6 ∧ f_X7_safe N sc ar = some o7 ∧ o6 = o7 ∧ INV sX aX uG es ea sT aT tT pT qT ma sL aL tL pL qL sK aK tK pK qK sH rH uH sc ar la := by
  have hM : 100 ≤ N := by omega
  obtain ⟨A, n, h, g, hw, hu, hg, hl, hR, hi, hs⟩ := id I
  obtain ⟨r, e6, e7⟩ := q_safe (N := N) hM h g hw hg
  exact ⟨_, _, e6, e7, rfl, I⟩
theorem v_moved {N : Nat} (hN : 10000000 ≤ N) {sX : S1} {aX : S2} {uG : S1} {es : S1} {ea : S2} {sT : S1} {aT : S2} {tT : S2} {pT : S1} {qT : S2} {ma : S2} {sL : S1} {aL : S2} {tL : S2} {pL : S1} {qL : S2} {sK : S1} {aK : S2} {tK : S2} {pK : S1} {qK : S2} {sH : S2} {rH : S3} {uH : S2} {sc : S1} {ar : S2} {la : S3} (I : INV sX aX uG es ea sT aT tT pT qT ma sL aL tL pL qL sK aK tK pK qK sH rH uH sc ar la) (a1 : Int32) : ∃ o6 o7, f_X6_moved N aX ma sL aL tL a1 = some o6 ∧ f_X7_moved N sc ar a1 = some o7 ∧ o6.1 = o7.1 ∧ INV sX o6.2.1 uG es ea sT aT tT pT qT o6.2.2 sL aL tL pL qL sK aK tK pK qK sH rH uH sc o7.2 la := by
  have hM : 100 ≤ N := by omega
  obtain ⟨A, n, h, g, hw, hu, hg, hl, hR, hi, hs⟩ := id I
  obtain ⟨z1, rfl, hz1⟩ := iI_ex a1
  rcases q_moved (N := N) (aX := aX) (ma := ma) hN h g hw hu hg hz1 with ⟨r, ma', ar', e6, e7, g', f2⟩ | ⟨c, hc, e6, e7⟩
  · exact ⟨_, _, e6, e7, rfl, INV_ch I h g' hw hu (fun _ _ => rfl) (fun j hj => f2 j (by omega) (by omega) (by omega) (by omega))⟩
  · exact ⟨_, _, e6, e7, rfl, INV_no I hc⟩
theorem v_raised {N : Nat} (hN : 10000000 ≤ N) {sX : S1} {aX : S2} {uG : S1} {es : S1} {ea : S2} {sT : S1} {aT : S2} {tT : S2} {pT : S1} {qT : S2} {ma : S2} {sL : S1} {aL : S2} {tL : S2} {pL : S1} {qL : S2} {sK : S1} {aK : S2} {tK : S2} {pK : S1} {qK : S2} {sH : S2} {rH : S3} {uH : S2} {sc : S1} {ar : S2} {la : S3} (I : INV sX aX uG es ea sT aT tT pT qT ma sL aL tL pL qL sK aK tK pK qK sH rH uH sc ar la) (a1 : Int32) : ∃ o6 o7, f_X6_raised N aX sL aL tL a1 = some o6 ∧ f_X7_raised N sc ar a1 = some o7 ∧ o6.1 = o7.1 ∧ INV sX o6.2 uG es ea sT aT tT pT qT ma sL aL tL pL qL sK aK tK pK qK sH rH uH sc o7.2 la := by
  have hM : 100 ≤ N := by omega
  obtain ⟨A, n, h, g, hw, hu, hg, hl, hR, hi, hs⟩ := id I
  obtain ⟨z1, rfl, hz1⟩ := iI_ex a1
  rcases q_raised (N := N) (aX := aX) hM h g hw hg hz1 with ⟨r, e6, e7⟩ | ⟨c, hc, e6, e7⟩
  · exact ⟨_, _, e6, e7, rfl, I⟩
  · exact ⟨_, _, e6, e7, rfl, INV_no I hc⟩
theorem v_freed {N : Nat} (hN : 10000000 ≤ N) {sX : S1} {aX : S2} {uG : S1} {es : S1} {ea : S2} {sT : S1} {aT : S2} {tT : S2} {pT : S1} {qT : S2} {ma : S2} {sL : S1} {aL : S2} {tL : S2} {pL : S1} {qL : S2} {sK : S1} {aK : S2} {tK : S2} {pK : S1} {qK : S2} {sH : S2} {rH : S3} {uH : S2} {sc : S1} {ar : S2} {la : S3} (I : INV sX aX uG es ea sT aT tT pT qT ma sL aL tL pL qL sK aK tK pK qK sH rH uH sc ar la) (a1 : Int32) : ∃ o6 o7, f_X6_freed N aX sL aL tL a1 = some o6 ∧ f_X7_freed N sc ar a1 = some o7 ∧ o6.1 = o7.1 ∧ INV sX o6.2 uG es ea sT aT tT pT qT ma sL aL tL pL qL sK aK tK pK qK sH rH uH o7.2.1 o7.2.2 la := by
  have hM : 100 ≤ N := by omega
  obtain ⟨A, n, h, g, hw, hu, hg, hl, hR, hi, hs⟩ := id I
  obtain ⟨z1, rfl, hz1⟩ := iI_ex a1
  rcases q_freed (N := N) (aX := aX) hM h g hw hg hz1 with ⟨r, sc', ar', e6, e7, g', f1, f2⟩ | ⟨c, hc, e6, e7⟩
  · exact ⟨_, _, e6, e7, rfl, INV_ch I h g' hw hu (fun j hj => f1 j (by omega)) (fun j hj => f2 j (by omega) (by omega))⟩
  · exact ⟨_, _, e6, e7, rfl, INV_no I hc⟩
theorem v_worst {N : Nat} (hN : 10000000 ≤ N) {sX : S1} {aX : S2} {uG : S1} {es : S1} {ea : S2} {sT : S1} {aT : S2} {tT : S2} {pT : S1} {qT : S2} {ma : S2} {sL : S1} {aL : S2} {tL : S2} {pL : S1} {qL : S2} {sK : S1} {aK : S2} {tK : S2} {pK : S1} {qK : S2} {sH : S2} {rH : S3} {uH : S2} {sc : S1} {ar : S2} {la : S3} (I : INV sX aX uG es ea sT aT tT pT qT ma sL aL tL pL qL sK aK tK pK qK sH rH uH sc ar la) : ∃ o6 o7, f_X6_worst N sL aL tL = some o6 ∧ f_X7_worst N sc ar = some o7 ∧ o6 = o7 ∧ INV sX aX uG es ea sT aT tT pT qT ma sL aL tL pL qL sK aK tK pK qK sH rH uH sc ar la := by
  have hM : 100 ≤ N := by omega
  obtain ⟨A, n, h, g, hw, hu, hg, hl, hR, hi, hs⟩ := id I
  obtain ⟨r, e6, e7⟩ := q_worst (N := N) hM h g hw hg
  exact ⟨_, _, e6, e7, rfl, I⟩
theorem v_slowest {N : Nat} (hN : 10000000 ≤ N) {sX : S1} {aX : S2} {uG : S1} {es : S1} {ea : S2} {sT : S1} {aT : S2} {tT : S2} {pT : S1} {qT : S2} {ma : S2} {sL : S1} {aL : S2} {tL : S2} {pL : S1} {qL : S2} {sK : S1} {aK : S2} {tK : S2} {pK : S1} {qK : S2} {sH : S2} {rH : S3} {uH : S2} {sc : S1} {ar : S2} {la : S3} (I : INV sX aX uG es ea sT aT tT pT qT ma sL aL tL pL qL sK aK tK pK qK sH rH uH sc ar la) (a1 : Int32) (a2 : Int32) : ∃ o6 o7, f_X6_slowest N aX uG sL aL tL a1 a2 = some o6 ∧ f_X7_slowest N sc ar a1 a2 = some o7 ∧ o6.1 = o7.1 ∧ INV sX o6.2.1 o6.2.2 es ea sT aT tT pT qT ma sL aL tL pL qL sK aK tK pK qK sH rH uH sc o7.2 la := by
  have hM : 100 ≤ N := by omega
  obtain ⟨A, n, h, g, hw, hu, hg, hl, hR, hi, hs⟩ := id I
  obtain ⟨z1, rfl, hz1⟩ := iI_ex a1
  obtain ⟨z2, rfl, hz2⟩ := iI_ex a2
  rcases q_slowest (N := N) (aX := aX) (uG := uG) hM h g hw hg hz1 hz2 with ⟨r, u', e6, e7⟩ | ⟨c, hc, e6, e7⟩
  · exact ⟨_, _, e6, e7, rfl, INV_ch I h g hw hu (fun _ _ => rfl) (fun _ _ => rfl)⟩
  · exact ⟨_, _, e6, e7, rfl, INV_no I hc⟩
theorem v_atOnce {N : Nat} (hN : 10000000 ≤ N) {sX : S1} {aX : S2} {uG : S1} {es : S1} {ea : S2} {sT : S1} {aT : S2} {tT : S2} {pT : S1} {qT : S2} {ma : S2} {sL : S1} {aL : S2} {tL : S2} {pL : S1} {qL : S2} {sK : S1} {aK : S2} {tK : S2} {pK : S1} {qK : S2} {sH : S2} {rH : S3} {uH : S2} {sc : S1} {ar : S2} {la : S3} (I : INV sX aX uG es ea sT aT tT pT qT ma sL aL tL pL qL sK aK tK pK qK sH rH uH sc ar la) (a1 : Int32) (a2 : Int32) : ∃ o6 o7, f_X6_atOnce N aX sL aL tL a1 a2 = some o6 ∧ f_X7_atOnce N sc ar a1 a2 = some o7 ∧ o6.1 = o7.1 ∧ INV sX o6.2 uG es ea sT aT tT pT qT ma sL aL tL pL qL sK aK tK pK qK sH rH uH sc o7.2 la := by
  have hM : 100 ≤ N := by omega
  obtain ⟨A, n, h, g, hw, hu, hg, hl, hR, hi, hs⟩ := id I
  obtain ⟨z1, rfl, hz1⟩ := iI_ex a1
  obtain ⟨z2, rfl, hz2⟩ := iI_ex a2
  rcases q_atOnce (N := N) (aX := aX) hM h g hw hg hz1 hz2 with ⟨r, e6, e7⟩ | ⟨c, hc, e6, e7⟩
  · exact ⟨_, _, e6, e7, rfl, I⟩
  · exact ⟨_, _, e6, e7, rfl, INV_no I hc⟩
theorem v_most {N : Nat} (hN : 10000000 ≤ N) {sX : S1} {aX : S2} {uG : S1} {es : S1} {ea : S2} {sT : S1} {aT : S2} {tT : S2} {pT : S1} {qT : S2} {ma : S2} {sL : S1} {aL : S2} {tL : S2} {pL : S1} {qL : S2} {sK : S1} {aK : S2} {tK : S2} {pK : S1} {qK : S2} {sH : S2} {rH : S3} {uH : S2} {sc : S1} {ar : S2} {la : S3} (I : INV sX aX uG es ea sT aT tT pT qT ma sL aL tL pL qL sK aK tK pK qK sH rH uH sc ar la) (a1 : Int32) (a2 : Int32) : ∃ o6 o7, f_X6_most N aX sL aL tL a1 a2 = some o6 ∧ f_X7_most N sc ar a1 a2 = some o7 ∧ o6.1 = o7.1 ∧ INV sX o6.2 uG es ea sT aT tT pT qT ma sL aL tL pL qL sK aK tK pK qK sH rH uH sc o7.2 la := by
  have hM : 100 ≤ N := by omega
  obtain ⟨A, n, h, g, hw, hu, hg, hl, hR, hi, hs⟩ := id I
  obtain ⟨z1, rfl, hz1⟩ := iI_ex a1
  obtain ⟨z2, rfl, hz2⟩ := iI_ex a2
  rcases q_most (N := N) (aX := aX) hM h g hw hg hz1 hz2 with ⟨r, e6, e7⟩ | ⟨c, hc, e6, e7⟩
  · exact ⟨_, _, e6, e7, rfl, I⟩
  · exact ⟨_, _, e6, e7, rfl, INV_no I hc⟩
theorem v_nearest {N : Nat} (hN : 10000000 ≤ N) {sX : S1} {aX : S2} {uG : S1} {es : S1} {ea : S2} {sT : S1} {aT : S2} {tT : S2} {pT : S1} {qT : S2} {ma : S2} {sL : S1} {aL : S2} {tL : S2} {pL : S1} {qL : S2} {sK : S1} {aK : S2} {tK : S2} {pK : S1} {qK : S2} {sH : S2} {rH : S3} {uH : S2} {sc : S1} {ar : S2} {la : S3} (I : INV sX aX uG es ea sT aT tT pT qT ma sL aL tL pL qL sK aK tK pK qK sH rH uH sc ar la) (a1 : Int32) (a2 : Int32) : ∃ o6 o7, f_X6_nearest N aX sL aL tL a1 a2 = some o6 ∧ f_X7_nearest N sc ar a1 a2 = some o7 ∧ o6.1 = o7.1 ∧ INV sX o6.2 uG es ea sT aT tT pT qT ma sL aL tL pL qL sK aK tK pK qK sH rH uH sc o7.2 la := by
  have hM : 100 ≤ N := by omega
  obtain ⟨A, n, h, g, hw, hu, hg, hl, hR, hi, hs⟩ := id I
  obtain ⟨z1, rfl, hz1⟩ := iI_ex a1
  obtain ⟨z2, rfl, hz2⟩ := iI_ex a2
  rcases q_nearest (N := N) (aX := aX) hM h g hw hg hz1 hz2 with ⟨r, e6, e7⟩ | ⟨c, hc, e6, e7⟩
  · exact ⟨_, _, e6, e7, rfl, I⟩
  · exact ⟨_, _, e6, e7, rfl, INV_no I hc⟩
theorem v_shadow {N : Nat} (hN : 10000000 ≤ N) {sX : S1} {aX : S2} {uG : S1} {es : S1} {ea : S2} {sT : S1} {aT : S2} {tT : S2} {pT : S1} {qT : S2} {ma : S2} {sL : S1} {aL : S2} {tL : S2} {pL : S1} {qL : S2} {sK : S1} {aK : S2} {tK : S2} {pK : S1} {qK : S2} {sH : S2} {rH : S3} {uH : S2} {sc : S1} {ar : S2} {la : S3} (I : INV sX aX uG es ea sT aT tT pT qT ma sL aL tL pL qL sK aK tK pK qK sH rH uH sc ar la) (a1 : Int32) (a2 : Int32) (a3 : Int32) : ∃ o6 o7, f_X6_shadow N aX sL aL tL a1 a2 a3 = some o6 ∧ f_X7_shadow N sc ar a1 a2 a3 = some o7 ∧ o6.1 = o7.1 ∧ INV sX o6.2 uG es ea sT aT tT pT qT ma sL aL tL pL qL sK aK tK pK qK sH rH uH o7.2.1 o7.2.2 la := by
  have hM : 100 ≤ N := by omega
  obtain ⟨A, n, h, g, hw, hu, hg, hl, hR, hi, hs⟩ := id I
  obtain ⟨z1, rfl, hz1⟩ := iI_ex a1
  obtain ⟨z2, rfl, hz2⟩ := iI_ex a2
  obtain ⟨z3, rfl, hz3⟩ := iI_ex a3
  rcases q_shadow (N := N) (aX := aX) hM h g hw hg hz1 hz2 hz3 with ⟨r, e6, e7⟩ | ⟨c, hc, e6, e7⟩
  · exact ⟨_, _, e6, e7, rfl, I⟩
  · exact ⟨_, _, e6, e7, rfl, INV_no I hc⟩
theorem v_alike {N : Nat} (hN : 10000000 ≤ N) {sX : S1} {aX : S2} {uG : S1} {es : S1} {ea : S2} {sT : S1} {aT : S2} {tT : S2} {pT : S1} {qT : S2} {ma : S2} {sL : S1} {aL : S2} {tL : S2} {pL : S1} {qL : S2} {sK : S1} {aK : S2} {tK : S2} {pK : S1} {qK : S2} {sH : S2} {rH : S3} {uH : S2} {sc : S1} {ar : S2} {la : S3} (I : INV sX aX uG es ea sT aT tT pT qT ma sL aL tL pL qL sK aK tK pK qK sH rH uH sc ar la) (a1 : Int32) (a2 : Int32) : ∃ o6 o7, f_X6_alike N aX sL aL a1 a2 = some o6 ∧ f_X7_alike N sc ar a1 a2 = some o7 ∧ o6.1 = o7.1 ∧ INV sX o6.2 uG es ea sT aT tT pT qT ma sL aL tL pL qL sK aK tK pK qK sH rH uH sc o7.2 la := by
  have hM : 100 ≤ N := by omega
  obtain ⟨A, n, h, g, hw, hu, hg, hl, hR, hi, hs⟩ := id I
  obtain ⟨z1, rfl, hz1⟩ := iI_ex a1
  obtain ⟨z2, rfl, hz2⟩ := iI_ex a2
  rcases q_alike (N := N) (aX := aX) hM h g hw hz1 hz2 with ⟨r, e6, e7⟩ | ⟨c, hc, e6, e7⟩
  · exact ⟨_, _, e6, e7, rfl, I⟩
  · exact ⟨_, _, e6, e7, rfl, INV_no I hc⟩
theorem v_steepest {N : Nat} (hN : 10000000 ≤ N) {sX : S1} {aX : S2} {uG : S1} {es : S1} {ea : S2} {sT : S1} {aT : S2} {tT : S2} {pT : S1} {qT : S2} {ma : S2} {sL : S1} {aL : S2} {tL : S2} {pL : S1} {qL : S2} {sK : S1} {aK : S2} {tK : S2} {pK : S1} {qK : S2} {sH : S2} {rH : S3} {uH : S2} {sc : S1} {ar : S2} {la : S3} (I : INV sX aX uG es ea sT aT tT pT qT ma sL aL tL pL qL sK aK tK pK qK sH rH uH sc ar la) (a1 : Int32) : ∃ o6 o7, f_X6_steepest N aX sL aL a1 = some o6 ∧ f_X7_steepest N sc ar a1 = some o7 ∧ o6.1 = o7.1 ∧ INV sX o6.2 uG es ea sT aT tT pT qT ma sL aL tL pL qL sK aK tK pK qK sH rH uH sc o7.2 la := by
  have hM : 100 ≤ N := by omega
  obtain ⟨A, n, h, g, hw, hu, hg, hl, hR, hi, hs⟩ := id I
  obtain ⟨z1, rfl, hz1⟩ := iI_ex a1
  rcases q_steepest (N := N) (aX := aX) hM h g hw hz1 with ⟨r, e6, e7⟩ | ⟨c, hc, e6, e7⟩
  · exact ⟨_, _, e6, e7, rfl, I⟩
  · exact ⟨_, _, e6, e7, rfl, INV_no I hc⟩
theorem v_down {N : Nat} (hN : 10000000 ≤ N) {sX : S1} {aX : S2} {uG : S1} {es : S1} {ea : S2} {sT : S1} {aT : S2} {tT : S2} {pT : S1} {qT : S2} {ma : S2} {sL : S1} {aL : S2} {tL : S2} {pL : S1} {qL : S2} {sK : S1} {aK : S2} {tK : S2} {pK : S1} {qK : S2} {sH : S2} {rH : S3} {uH : S2} {sc : S1} {ar : S2} {la : S3} (I : INV sX aX uG es ea sT aT tT pT qT ma sL aL tL pL qL sK aK tK pK qK sH rH uH sc ar la) (a1 : Int32) (a2 : Int32) : ∃ o6 o7, f_X6_down N aX sL aL tL a1 a2 = some o6 ∧ f_X7_down N sc ar a1 a2 = some o7 ∧ o6.1 = o7.1 ∧ INV sX o6.2 uG es ea sT aT tT pT qT ma sL aL tL pL qL sK aK tK pK qK sH rH uH o7.2.1 o7.2.2 la := by
  have hM : 100 ≤ N := by omega
  obtain ⟨A, n, h, g, hw, hu, hg, hl, hR, hi, hs⟩ := id I
  obtain ⟨z1, rfl, hz1⟩ := iI_ex a1
  obtain ⟨z2, rfl, hz2⟩ := iI_ex a2
  rcases q_down (N := N) (aX := aX) hM h g hw hg hz1 hz2 with ⟨r, sc', ar', e6, e7, g', f1, f2⟩ | ⟨c, hc, e6, e7⟩
  · exact ⟨_, _, e6, e7, rfl, INV_ch I h g' hw hu (fun j hj => f1 j (by omega)) (fun j hj => f2 j (by omega) (by omega))⟩
  · exact ⟨_, _, e6, e7, rfl, INV_no I hc⟩
theorem v_mean {N : Nat} (hN : 10000000 ≤ N) {sX : S1} {aX : S2} {uG : S1} {es : S1} {ea : S2} {sT : S1} {aT : S2} {tT : S2} {pT : S1} {qT : S2} {ma : S2} {sL : S1} {aL : S2} {tL : S2} {pL : S1} {qL : S2} {sK : S1} {aK : S2} {tK : S2} {pK : S1} {qK : S2} {sH : S2} {rH : S3} {uH : S2} {sc : S1} {ar : S2} {la : S3} (I : INV sX aX uG es ea sT aT tT pT qT ma sL aL tL pL qL sK aK tK pK qK sH rH uH sc ar la) (a1 : Int32) : ∃ o6 o7, f_X6_mean N aX sL aL tL a1 = some o6 ∧ f_X7_mean N sc ar a1 = some o7 ∧ o6.1 = o7.1 ∧ INV sX o6.2 uG es ea sT aT tT pT qT ma sL aL tL pL qL sK aK tK pK qK sH rH uH sc o7.2 la := by
  have hM : 100 ≤ N := by omega
  obtain ⟨A, n, h, g, hw, hu, hg, hl, hR, hi, hs⟩ := id I
  obtain ⟨z1, rfl, hz1⟩ := iI_ex a1
  rcases q_mean (N := N) (aX := aX) hM h g hw hg hz1 with ⟨r, e6, e7⟩ | ⟨c, hc, e6, e7⟩
  · exact ⟨_, _, e6, e7, rfl, I⟩
  · exact ⟨_, _, e6, e7, rfl, INV_no I hc⟩
theorem v_name {N : Nat} (hN : 10000000 ≤ N) {sX : S1} {aX : S2} {uG : S1} {es : S1} {ea : S2} {sT : S1} {aT : S2} {tT : S2} {pT : S1} {qT : S2} {ma : S2} {sL : S1} {aL : S2} {tL : S2} {pL : S1} {qL : S2} {sK : S1} {aK : S2} {tK : S2} {pK : S1} {qK : S2} {sH : S2} {rH : S3} {uH : S2} {sc : S1} {ar : S2} {la : S3} (I : INV sX aX uG es ea sT aT tT pT qT ma sL aL tL pL qL sK aK tK pK qK sH rH uH sc ar la) (a1 : Int32) (a2 : Int32) : ∃ o6 o7, f_X6_name N aX pL qL a1 a2 = some o6 ∧ f_X7_name N sc ar a1 a2 = some o7 ∧ o6.1 = o7.1 ∧ INV sX o6.2 uG es ea sT aT tT pT qT ma sL aL tL pL qL sK aK tK pK qK sH rH uH sc o7.2 la := by
  have hM : 100 ≤ N := by omega
  obtain ⟨A, n, h, g, hw, hu, hg, hl, hR, hi, hs⟩ := id I
  obtain ⟨z1, rfl, hz1⟩ := iI_ex a1
  obtain ⟨z2, rfl, hz2⟩ := iI_ex a2
  rcases q_name (N := N) (aX := aX) h g hw hz1 hz2 with ⟨r, e6, e7⟩ | ⟨c, hc, e6, e7⟩
  · exact ⟨_, _, e6, e7, rfl, I⟩
  · exact ⟨_, _, e6, e7, rfl, INV_no I hc⟩
theorem v_placeAt {N : Nat} (hN : 10000000 ≤ N) {sX : S1} {aX : S2} {uG : S1} {es : S1} {ea : S2} {sT : S1} {aT : S2} {tT : S2} {pT : S1} {qT : S2} {ma : S2} {sL : S1} {aL : S2} {tL : S2} {pL : S1} {qL : S2} {sK : S1} {aK : S2} {tK : S2} {pK : S1} {qK : S2} {sH : S2} {rH : S3} {uH : S2} {sc : S1} {ar : S2} {la : S3} (I : INV sX aX uG es ea sT aT tT pT qT ma sL aL tL pL qL sK aK tK pK qK sH rH uH sc ar la) (a1 : Int32) : ∃ o6 o7, f_X6_placeAt N aX pL qL a1 = some o6 ∧ f_X7_placeAt N sc ar a1 = some o7 ∧ o6.1 = o7.1 ∧ INV sX o6.2 uG es ea sT aT tT pT qT ma sL aL tL pL qL sK aK tK pK qK sH rH uH sc o7.2 la := by
  have hM : 100 ≤ N := by omega
  obtain ⟨A, n, h, g, hw, hu, hg, hl, hR, hi, hs⟩ := id I
  obtain ⟨z1, rfl, hz1⟩ := iI_ex a1
  rcases q_placeAt (N := N) (aX := aX) h g hw hz1 with ⟨r, e6, e7⟩ | ⟨c, hc, e6, e7⟩
  · exact ⟨_, _, e6, e7, rfl, I⟩
  · exact ⟨_, _, e6, e7, rfl, INV_no I hc⟩
theorem v_shelf {N : Nat} (hN : 10000000 ≤ N) {sX : S1} {aX : S2} {uG : S1} {es : S1} {ea : S2} {sT : S1} {aT : S2} {tT : S2} {pT : S1} {qT : S2} {ma : S2} {sL : S1} {aL : S2} {tL : S2} {pL : S1} {qL : S2} {sK : S1} {aK : S2} {tK : S2} {pK : S1} {qK : S2} {sH : S2} {rH : S3} {uH : S2} {sc : S1} {ar : S2} {la : S3} (I : INV sX aX uG es ea sT aT tT pT qT ma sL aL tL pL qL sK aK tK pK qK sH rH uH sc ar la) (a1 : Int32) (a2 : Int32) (a3 : Int32) : ∃ o6 o7, f_X6_shelf N aX sH rH a1 a2 a3 = some o6 ∧ f_X7_shelf N ar la a1 a2 a3 = some o7 ∧ o6.1 = o7.1 ∧ INV sX o6.2.1 uG es ea sT aT tT pT qT ma sL aL tL pL qL sK aK tK pK qK o6.2.2.1 o6.2.2.2 uH sc o7.2.1 o7.2.2 := by
  have hM : 100 ≤ N := by omega
  obtain ⟨A, n, h, g, hw, hu, hg, hl, hR, hi, hs⟩ := id I
  obtain ⟨z1, rfl, hz1⟩ := iI_ex a1
  obtain ⟨z2, rfl, hz2⟩ := iI_ex a2
  obtain ⟨z3, rfl, hz3⟩ := iI_ex a3
  rcases c_shelf (N := N) (aX := aX) hM hs hz1 hz2 hz3 with ⟨r, ar', sH', rH', la', e6, e7, s', f2⟩ | ⟨c, hc, e6, e7⟩
  · refine ⟨_, _, e6, e7, rfl, A, n, h, MA_cg g (fun _ _ => rfl) (fun j hj => f2 j (by omega) (by omega)), hw, hu, hg, ⟨hl.1, ?_⟩, ?_, ?_, s'⟩
    · show ∀ i : Nat, i < n → ∃ c : Int, (0 ≤ c ∧ c ≤ 255) ∧ ea 2 i = iI c ∧ ar' 19 i = iI c
      rw [f2 19 (by decide) (by decide)]; exact hl.2
    · intro k hk
      show aX 8 k = ar' 21 k
      rw [f2 21 (by decide) (by decide)]; exact hR k hk
    · show IMG sX sc ar' sK aK tK pK qK
      unfold IMG
      rw [f2 22 (by decide) (by decide)]
      exact hi
  · exact ⟨_, _, e6, e7, rfl, INV_no I hc⟩
theorem v_lay {N : Nat} (hN : 10000000 ≤ N) {sX : S1} {aX : S2} {uG : S1} {es : S1} {ea : S2} {sT : S1} {aT : S2} {tT : S2} {pT : S1} {qT : S2} {ma : S2} {sL : S1} {aL : S2} {tL : S2} {pL : S1} {qL : S2} {sK : S1} {aK : S2} {tK : S2} {pK : S1} {qK : S2} {sH : S2} {rH : S3} {uH : S2} {sc : S1} {ar : S2} {la : S3} (I : INV sX aX uG es ea sT aT tT pT qT ma sL aL tL pL qL sK aK tK pK qK sH rH uH sc ar la) (a1 : Int32) (a2 : Int32) : ∃ o6 o7, f_X6_lay N aX sL tL sH uH a1 a2 = some o6 ∧ f_X7_lay N sc ar la a1 a2 = some o7 ∧ o6.1 = o7.1 ∧ INV sX o6.2.1 uG es ea sT aT tT pT qT ma sL aL tL pL qL sK aK tK pK qK o6.2.2.1 rH o6.2.2.2 sc o7.2.1 o7.2.2 := by
  have hM : 100 ≤ N := by omega
  obtain ⟨A, n, h, g, hw, hu, hg, hl, hR, hi, hs⟩ := id I
  obtain ⟨z1, rfl, hz1⟩ := iI_ex a1
  obtain ⟨z2, rfl, hz2⟩ := iI_ex a2
  rcases c_lay (N := N) (aX := aX) hM h g hw hs hz1 hz2 with ⟨r, ar', sH', uH', la', e6, e7, s', f2⟩ | ⟨c, hc, e6, e7⟩
  · refine ⟨_, _, e6, e7, rfl, A, n, h, MA_cg g (fun _ _ => rfl) (fun j hj => f2 j (by omega) (by omega)), hw, hu, hg, ⟨hl.1, ?_⟩, ?_, ?_, s'⟩
    · show ∀ i : Nat, i < n → ∃ c : Int, (0 ≤ c ∧ c ≤ 255) ∧ ea 2 i = iI c ∧ ar' 19 i = iI c
      rw [f2 19 (by decide) (by decide)]; exact hl.2
    · intro k hk
      show aX 8 k = ar' 21 k
      rw [f2 21 (by decide) (by decide)]; exact hR k hk
    · show IMG sX sc ar' sK aK tK pK qK
      unfold IMG
      rw [f2 22 (by decide) (by decide)]
      exact hi
  · exact ⟨_, _, e6, e7, rfl, INV_no I hc⟩
theorem v_put {N : Nat} (hN : 10000000 ≤ N) {sX : S1} {aX : S2} {uG : S1} {es : S1} {ea : S2} {sT : S1} {aT : S2} {tT : S2} {pT : S1} {qT : S2} {ma : S2} {sL : S1} {aL : S2} {tL : S2} {pL : S1} {qL : S2} {sK : S1} {aK : S2} {tK : S2} {pK : S1} {qK : S2} {sH : S2} {rH : S3} {uH : S2} {sc : S1} {ar : S2} {la : S3} (I : INV sX aX uG es ea sT aT tT pT qT ma sL aL tL pL qL sK aK tK pK qK sH rH uH sc ar la) (a1 : Int32) (a2 : Int32) (a3 : Int64) : ∃ o6 o7, f_X6_put N aX sH rH a1 a2 a3 = some o6 ∧ f_X7_put N ar la a1 a2 a3 = some o7 ∧ o6.1 = o7.1 ∧ INV sX o6.2.1 uG es ea sT aT tT pT qT ma sL aL tL pL qL sK aK tK pK qK sH o6.2.2 uH sc o7.2.1 o7.2.2 := by
  have hM : 100 ≤ N := by omega
  obtain ⟨A, n, h, g, hw, hu, hg, hl, hR, hi, hs⟩ := id I
  obtain ⟨z1, rfl, hz1⟩ := iI_ex a1
  obtain ⟨z2, rfl, hz2⟩ := iI_ex a2
  rcases c_put (N := N) (aX := aX) (v := a3) hs hz1 hz2 with ⟨r, rH', la', e6, e7, s'⟩ | ⟨c, hc, e6, e7⟩
  · exact ⟨_, _, e6, e7, rfl, A, n, h, g, hw, hu, hg, hl, hR, hi, s'⟩
  · exact ⟨_, _, e6, e7, rfl, INV_no I hc⟩
theorem v_look {N : Nat} (hN : 10000000 ≤ N) {sX : S1} {aX : S2} {uG : S1} {es : S1} {ea : S2} {sT : S1} {aT : S2} {tT : S2} {pT : S1} {qT : S2} {ma : S2} {sL : S1} {aL : S2} {tL : S2} {pL : S1} {qL : S2} {sK : S1} {aK : S2} {tK : S2} {pK : S1} {qK : S2} {sH : S2} {rH : S3} {uH : S2} {sc : S1} {ar : S2} {la : S3} (I : INV sX aX uG es ea sT aT tT pT qT ma sL aL tL pL qL sK aK tK pK qK sH rH uH sc ar la) (a1 : Int32) (a2 : Int32) : ∃ o6 o7, f_X6_look N aX sH rH a1 a2 = some o6 ∧ f_X7_look N ar la a1 a2 = some o7 ∧ o6.1 = o7.1 ∧ INV sX o6.2 uG es ea sT aT tT pT qT ma sL aL tL pL qL sK aK tK pK qK sH rH uH sc o7.2 la := by
  have hM : 100 ≤ N := by omega
  obtain ⟨A, n, h, g, hw, hu, hg, hl, hR, hi, hs⟩ := id I
  obtain ⟨z1, rfl, hz1⟩ := iI_ex a1
  obtain ⟨z2, rfl, hz2⟩ := iI_ex a2
  rcases q_look (N := N) (aX := aX) hs hz1 hz2 with ⟨r, e6, e7⟩ | ⟨c, hc, e6, e7⟩
  · exact ⟨_, _, e6, e7, rfl, I⟩
  · exact ⟨_, _, e6, e7, rfl, INV_no I hc⟩
theorem v_taken {N : Nat} (hN : 10000000 ≤ N) {sX : S1} {aX : S2} {uG : S1} {es : S1} {ea : S2} {sT : S1} {aT : S2} {tT : S2} {pT : S1} {qT : S2} {ma : S2} {sL : S1} {aL : S2} {tL : S2} {pL : S1} {qL : S2} {sK : S1} {aK : S2} {tK : S2} {pK : S1} {qK : S2} {sH : S2} {rH : S3} {uH : S2} {sc : S1} {ar : S2} {la : S3} (I : INV sX aX uG es ea sT aT tT pT qT ma sL aL tL pL qL sK aK tK pK qK sH rH uH sc ar la) (a1 : Int32) (a2 : Int32) : ∃ o6 o7, f_X6_taken N aX sH uH a1 a2 = some o6 ∧ f_X7_taken N ar la a1 a2 = some o7 ∧ o6.1 = o7.1 ∧ INV sX o6.2 uG es ea sT aT tT pT qT ma sL aL tL pL qL sK aK tK pK qK sH rH uH sc o7.2 la := by
  have hM : 100 ≤ N := by omega
  obtain ⟨A, n, h, g, hw, hu, hg, hl, hR, hi, hs⟩ := id I
  obtain ⟨z1, rfl, hz1⟩ := iI_ex a1
  obtain ⟨z2, rfl, hz2⟩ := iI_ex a2
  rcases q_taken (N := N) (aX := aX) hM hs hz1 hz2 with ⟨r, e6, e7⟩ | ⟨c, hc, e6, e7⟩
  · exact ⟨_, _, e6, e7, rfl, I⟩
  · exact ⟨_, _, e6, e7, rfl, INV_no I hc⟩
theorem v_whatIs {N : Nat} (hN : 10000000 ≤ N) {sX : S1} {aX : S2} {uG : S1} {es : S1} {ea : S2} {sT : S1} {aT : S2} {tT : S2} {pT : S1} {qT : S2} {ma : S2} {sL : S1} {aL : S2} {tL : S2} {pL : S1} {qL : S2} {sK : S1} {aK : S2} {tK : S2} {pK : S1} {qK : S2} {sH : S2} {rH : S3} {uH : S2} {sc : S1} {ar : S2} {la : S3} (I : INV sX aX uG es ea sT aT tT pT qT ma sL aL tL pL qL sK aK tK pK qK sH rH uH sc ar la) (a1 : Int32) (a2 : Int32) (a3 : Int32) : ∃ o6 o7, f_X6_whatIs N aX uG sL aL tL sH rH a1 a2 a3 = some o6 ∧ f_X7_whatIs N sc ar la a1 a2 a3 = some o7 ∧ o6.1 = o7.1 ∧ INV sX o6.2.1 o6.2.2 es ea sT aT tT pT qT ma sL aL tL pL qL sK aK tK pK qK sH rH uH sc o7.2 la := by
  have hM : 100 ≤ N := by omega
  obtain ⟨A, n, h, g, hw, hu, hg, hl, hR, hi, hs⟩ := id I
  obtain ⟨z1, rfl, hz1⟩ := iI_ex a1
  obtain ⟨z2, rfl, hz2⟩ := iI_ex a2
  obtain ⟨z3, rfl, hz3⟩ := iI_ex a3
  rcases q_whatIs (N := N) (aX := aX) (uG := uG) hM h g hw hs hz1 hz2 hz3 with ⟨r, u', e6, e7⟩ | ⟨c, hc, e6, e7⟩
  · exact ⟨_, _, e6, e7, rfl, INV_ch I h g hw hu (fun _ _ => rfl) (fun _ _ => rfl)⟩
  · exact ⟨_, _, e6, e7, rfl, INV_no I hc⟩
theorem v_judge {N : Nat} (hN : 10000000 ≤ N) {sX : S1} {aX : S2} {uG : S1} {es : S1} {ea : S2} {sT : S1} {aT : S2} {tT : S2} {pT : S1} {qT : S2} {ma : S2} {sL : S1} {aL : S2} {tL : S2} {pL : S1} {qL : S2} {sK : S1} {aK : S2} {tK : S2} {pK : S1} {qK : S2} {sH : S2} {rH : S3} {uH : S2} {sc : S1} {ar : S2} {la : S3} (I : INV sX aX uG es ea sT aT tT pT qT ma sL aL tL pL qL sK aK tK pK qK sH rH uH sc ar la) (a1 : Int32) (a2 : Int32) : ∃ o6 o7, f_X6_judge N aX sL aL tL sH rH a1 a2 = some o6 ∧ f_X7_judge N sc ar la a1 a2 = some o7 ∧ o6.1 = o7.1 ∧ INV sX o6.2 uG es ea sT aT tT pT qT ma sL aL tL pL qL sK aK tK pK qK sH rH uH sc o7.2 la := by
  have hM : 100 ≤ N := by omega
  obtain ⟨A, n, h, g, hw, hu, hg, hl, hR, hi, hs⟩ := id I
  obtain ⟨z1, rfl, hz1⟩ := iI_ex a1
  obtain ⟨z2, rfl, hz2⟩ := iI_ex a2
  rcases q_judge (N := N) (aX := aX) hM h g hw hg hs hz1 hz2 with ⟨r, e6, e7⟩ | ⟨c, hc, e6, e7⟩
  · exact ⟨_, _, e6, e7, rfl, I⟩
  · exact ⟨_, _, e6, e7, rfl, INV_no I hc⟩
theorem v_lots {N : Nat} (hN : 10000000 ≤ N) {sX : S1} {aX : S2} {uG : S1} {es : S1} {ea : S2} {sT : S1} {aT : S2} {tT : S2} {pT : S1} {qT : S2} {ma : S2} {sL : S1} {aL : S2} {tL : S2} {pL : S1} {qL : S2} {sK : S1} {aK : S2} {tK : S2} {pK : S1} {qK : S2} {sH : S2} {rH : S3} {uH : S2} {sc : S1} {ar : S2} {la : S3} (I : INV sX aX uG es ea sT aT tT pT qT ma sL aL tL pL qL sK aK tK pK qK sH rH uH sc ar la) (a1 : Int32) (a2 : Int32) (a3 : Int32) : ∃ o6 o7, f_X6_lots N aX sT aT tT pT qT sL aL tL pL qL a1 a2 a3 = some o6 ∧ f_X7_lots N sc ar a1 a2 a3 = some o7 ∧ o6.1 = o7.1 ∧ INV sX o6.2.1 uG es ea o6.2.2.1 o6.2.2.2.1 o6.2.2.2.2.1 o6.2.2.2.2.2.1 o6.2.2.2.2.2.2 ma sL aL tL pL qL sK aK tK pK qK sH rH uH o7.2.1 o7.2.2 la := by
  have hM : 100 ≤ N := by omega
  obtain ⟨A, n, h, g, hw, hu, hg, hl, hR, hi, hs⟩ := id I
  obtain ⟨z1, rfl, hz1⟩ := iI_ex a1
  obtain ⟨z2, rfl, hz2⟩ := iI_ex a2
  obtain ⟨z3, rfl, hz3⟩ := iI_ex a3
  rcases q_lots (N := N) (aX := aX) (sK := sT) (aK := aT) (tK := tT) (pK := pT) (qK := qT) hM h g hw hu hg (z := z2) hz1 hz3 with ⟨r, s', a', t', p', q', sc', ar', e6, e7, g', f1, f2⟩ | ⟨c, hc, e6, e7⟩
  · exact ⟨_, _, e6, e7, rfl, INV_ch I h g' hw hu (fun j hj => f1 j (by omega)) (fun j hj => f2 j (by omega) (by omega))⟩
  · exact ⟨_, _, e6, e7, rfl, INV_no I hc⟩
theorem v_image {N : Nat} (hN : 10000000 ≤ N) {sX : S1} {aX : S2} {uG : S1} {es : S1} {ea : S2} {sT : S1} {aT : S2} {tT : S2} {pT : S1} {qT : S2} {ma : S2} {sL : S1} {aL : S2} {tL : S2} {pL : S1} {qL : S2} {sK : S1} {aK : S2} {tK : S2} {pK : S1} {qK : S2} {sH : S2} {rH : S3} {uH : S2} {sc : S1} {ar : S2} {la : S3} (I : INV sX aX uG es ea sT aT tT pT qT ma sL aL tL pL qL sK aK tK pK qK sH rH uH sc ar la) : ∃ o6 o7, f_X6_image N sX sL aL tL pL qL sK aK tK pK qK = some o6 ∧ f_X7_image N sc ar = some o7 ∧ o6.1 = o7.1 ∧ INV o6.2.1 aX uG es ea sT aT tT pT qT ma sL aL tL pL qL o6.2.2.1 o6.2.2.2.1 o6.2.2.2.2.1 o6.2.2.2.2.2.1 o6.2.2.2.2.2.2 sH rH uH o7.2.1 o7.2.2 la := by
  have hM : 100 ≤ N := by omega
  obtain ⟨A, n, h, g, hw, hu, hg, hl, hR, hi, hs⟩ := id I
  obtain ⟨r, s', a', t', p', q', ar', e6, e7, g', i', f2⟩ := c_image (N := N) (sX := sX) (sK := sK) (aK := aK) (tK := tK) (pK := pK) (qK := qK) hM h g hw hu
  refine ⟨_, _, e6, e7, rfl, A, n, h, g', hw, hu, ?_, ⟨⟨hl.1.1, hl.1.2.1, ?_⟩, ?_⟩, ?_, i', SH_cg hs (f2 30 (by decide)) (f2 31 (by decide))⟩
  · show upd sc 24 1 25 = 0
    rw [ud_ne (by decide)]; exact hg
  · show upd sc 24 1 20 = iI n
    rw [ud_ne (by decide)]; exact hl.1.2.2
  · show ∀ i : Nat, i < n → ∃ c : Int, (0 ≤ c ∧ c ≤ 255) ∧ ea 2 i = iI c ∧ ar' 19 i = iI c
    rw [f2 19 (by decide)]; exact hl.2
  · intro k hk
    show aX 8 k = ar' 21 k
    rw [f2 21 (by decide)]; exact hR k hk
theorem v_on {N : Nat} (hN : 10000000 ≤ N) {sX : S1} {aX : S2} {uG : S1} {es : S1} {ea : S2} {sT : S1} {aT : S2} {tT : S2} {pT : S1} {qT : S2} {ma : S2} {sL : S1} {aL : S2} {tL : S2} {pL : S1} {qL : S2} {sK : S1} {aK : S2} {tK : S2} {pK : S1} {qK : S2} {sH : S2} {rH : S3} {uH : S2} {sc : S1} {ar : S2} {la : S3} (I : INV sX aX uG es ea sT aT tT pT qT ma sL aL tL pL qL sK aK tK pK qK sH rH uH sc ar la) : ∃ o6 o7, f_X6_on N sX aX sL aL tL pL qL sK aK tK pK qK = some o6 ∧ f_X7_on N sc ar = some o7 ∧ o6.1 = o7.1 ∧ INV sX o6.2.1 uG es ea sT aT tT pT qT ma o6.2.2.1 o6.2.2.2.1 o6.2.2.2.2.1 o6.2.2.2.2.2.1 o6.2.2.2.2.2.2 sK aK tK pK qK sH rH uH o7.2.1 o7.2.2 la := by
  have hM : 100 ≤ N := by omega
  obtain ⟨A, n, h, g, hw, hu, hg, hl, hR, hi, hs⟩ := id I
  rcases c_on (N := N) (aX := aX) hM h g hw hu hi with ⟨r, A', s', a', t', p', q', sc', ar', e6, e7, h', g', w', u', f1, f2⟩ | ⟨c, hc, e6, e7⟩
  · exact ⟨_, _, e6, e7, rfl, INV_ch I h' g' w' u' (fun j hj => f1 j (by omega)) (fun j hj => f2 j (by omega))⟩
  · exact ⟨_, _, e6, e7, rfl, INV_no I hc⟩
theorem v_count {N : Nat} (hN : 10000000 ≤ N) {sX : S1} {aX : S2} {uG : S1} {es : S1} {ea : S2} {sT : S1} {aT : S2} {tT : S2} {pT : S1} {qT : S2} {ma : S2} {sL : S1} {aL : S2} {tL : S2} {pL : S1} {qL : S2} {sK : S1} {aK : S2} {tK : S2} {pK : S1} {qK : S2} {sH : S2} {rH : S3} {uH : S2} {sc : S1} {ar : S2} {la : S3} (I : INV sX aX uG es ea sT aT tT pT qT ma sL aL tL pL qL sK aK tK pK qK sH rH uH sc ar la) (a1 : Int32) : ∃ o6 o7, f_X6_count N aX es sL aL tL pL a1 = some o6 ∧ f_X7_count N sc ar a1 = some o7 ∧ o6 = o7 ∧ INV sX aX uG es ea sT aT tT pT qT ma sL aL tL pL qL sK aK tK pK qK sH rH uH sc ar la := by
  have hM : 100 ≤ N := by omega
  obtain ⟨A, n, h, g, hw, hu, hg, hl, hR, hi, hs⟩ := id I
  obtain ⟨z1, rfl, hz1⟩ := iI_ex a1
  obtain ⟨r, e6, e7⟩ := q_count (N := N) hM h g hw hg hl hR hz1
  exact ⟨_, _, e6, e7, rfl, I⟩
