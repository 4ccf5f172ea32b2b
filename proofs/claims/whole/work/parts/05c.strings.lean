-- ===== texts: the JDK's own length() and charAt() over the seven constants =====
def sLen (j : Nat) : Int32 := Int32.ofNat (txLen.getD j 0) >>> ((0 : Int32) &&& 31)
def sAt (j : Nat) (k : Int32) : Int32 := ((((txByt.getD j []).getD (ix k) 0) &&& 255).toUInt32 % 65536).toInt32
section TT3
variable {p : Program} {l : Launch} {e : Env} {R : Room} {s : State} {m : MethodId} {args : Array Value} {below : List Frame} {meth : Method} {c : Code}
variable {cc : ByteArray} {own : String} {nL : Nat} {ret : Option FieldType} {D : va_G} {cy : Nat → ClassId} {A : Nat → Prop} {ro : Bool} {Bd : Nat} {xa : Xa} {v0 : Option Value} {w0 : va_W}
variable {pc : Nat} {L : List (Nat × Value)} {rest : List Value} {ws : va_W} {α : Type} {o : α} {a b : Option α}
theorem ldcwS {T : State} {locs : List Loc} {cells slots : Nat} (X : Stand p l e R s m args below meth c T locs cells slots) (hexec : p.tables.exec = Jvm.exec) {own text : String} {index : Nat} {a : Addr} (hown : s.vm.findClass own = some m.cls)
    (hconst : (Cond.stringRef own index text).before args s = true) (hev : (Term.string own index).eval args s none [] s = some (.ref a)) {g : JFrame} (hg : g.method = m) (hdg : decode c.code g.pc = .ok (.ldc_w index, 3)) :
    ∀ target, Steps p.tables e below (T.setTop { g with pc := g.pc + 3, stack := .ref a :: g.stack }) target → Steps p.tables e below (T.setTop g) target := by
  obtain ⟨k, cf, i, a', hk, hcf, hcp, -, hr, hev'⟩ := Cond.stringRef_spec hown hconst
  cases hev.symm.trans hev'
  obtain ⟨k', hk', he⟩ := X.warmed.alike.2.2 _ _ hk
  have hr' : k'.resolved[index]? = some (some (.string a)) := by
    rcases X.warmed.entry hk hk' index with h | ⟨h, -⟩
    · rw [h]; exact hr
    · rw [hr] at h; cases h
  intro target hrest
  subst hg
  jvm_step X.here [hexec, hdg, ldc_w.wp_string (e := e) (s := T) (f := g) X.here.top hk' (by rw [he]; exact hcf) hcp hr']
  exact hrest
theorem tt_ldcM (C : CC p s m args meth c cc own nL ret D cy A ro Bd xa) (ho : own = RX7) {i j : Nat} (hj : j < 7) (hi : txIM.getD j 0 = i) (d : decode cc pc = .ok (.ldc_w i, 3)) (k : TT p l e R s m args below meth c nL D A ro v0 w0 (pc + 3) L (.ref (xa.2.2.1 j) :: rest) ws) : TT p l e R s m args below meth c nL D A ro v0 w0 pc L rest ws := by
  subst ho; subst hi
  intro H locs ls hP hD hS hl T hT X
  obtain ⟨t, a1, b1⟩ := k H locs ls hP hD hS hl T hT X
  have hZ := (C.2.2.2.2.2.2.1.2 j hj).2
  exact ⟨t, ldcwS X C.1 C.2.2.2.1 (text := txT.getD j "") (a := xa.2.2.1 j) hZ.1 hZ.2 (g := F0 m pc ls rest) rfl (by rw [C.2.1]; exact d) t a1, b1⟩
theorem tt_gs (C : CC p s m args meth c cc own nL ret D cy A ro Bd xa) {Cn n ds : String} {v : Value} (hZ : va_Z Cn n ds v (exA Bd) s s.heap) {i : Nat} (hq : Cond.fieldLink own i Cn n ds ∈ wsG) (d : decode cc pc = .ok (.getstatic i, 3)) (k : TT p l e R s m args below meth c nL D A ro v0 w0 (pc + 3) L (v :: rest) ws) : TT p l e R s m args below meth c nL D A ro v0 w0 pc L rest ws :=
  fun H locs ls hP hD hS hl => va_gets C.1 C.2.1 (hZ.narrow C.2.2.2.2.2.2.2.1) hS C.2.2.2.1 (C.2.2.2.2.1 _ hq) (fun _ h => h) d (k H locs ls hP hD hS hl)
theorem tt_sval (C : CC p s m args meth c cc own nL ret D cy A ro Bd xa) {j : Nat} (hj : j < 7) {i : Nat} (hq : Cond.fieldLink own i "java/lang/String" "value" "[B" ∈ wsG) (d : decode cc pc = .ok (.getfield i, 3)) (k : TT p l e R s m args below meth c nL D A ro v0 w0 (pc + 3) L (.ref (xa.2.2.2 j) :: rest) ws) : TT p l e R s m args below meth c nL D A ro v0 w0 pc L (.ref (xa.2.2.1 j) :: rest) ws :=
  fun H locs ls hP hD hS hl => vk_getf C.1 C.2.1 ((C.2.2.2.2.2.2.1.1.2.2.2.2.2.2.1 j hj).2.2.1.narrow C.2.2.2.2.2.2.2.1) hS C.2.2.2.1 (C.2.2.2.2.1 _ hq) (fun _ h => h) d (k H locs ls hP hD hS hl)
theorem tt_scod (C : CC p s m args meth c cc own nL ret D cy A ro Bd xa) {j : Nat} (hj : j < 7) {i : Nat} (hq : Cond.fieldLink own i "java/lang/String" "coder" "B" ∈ wsG) (d : decode cc pc = .ok (.getfield i, 3)) (k : TT p l e R s m args below meth c nL D A ro v0 w0 (pc + 3) L (.int 0 :: rest) ws) : TT p l e R s m args below meth c nL D A ro v0 w0 pc L (.ref (xa.2.2.1 j) :: rest) ws :=
  fun H locs ls hP hD hS hl => vk_getf C.1 C.2.1 ((C.2.2.2.2.2.2.1.1.2.2.2.2.2.2.1 j hj).2.1.narrow C.2.2.2.2.2.2.2.1) hS C.2.2.2.1 (C.2.2.2.2.1 _ hq) (fun _ h => h) d (k H locs ls hP hD hS hl)
theorem tt_salen (C : CC p s m args meth c cc own nL ret D cy A ro Bd xa) {j : Nat} (hj : j < 7) (d : decode cc pc = .ok (.arraylength, 1)) (k : TT p l e R s m args below meth c nL D A ro v0 w0 (pc + 1) L (.int (Int32.ofNat (txLen.getD j 0)) :: rest) ws) : TT p l e R s m args below meth c nL D A ro v0 w0 pc L (.ref (xa.2.2.2 j) :: rest) ws :=
  fun H locs ls hP hD hS hl => va_tlen C.1 C.2.1 ((C.2.2.2.2.2.2.1.1.2.2.2.2.2.2.1 j hj).2.2.2.narrow C.2.2.2.2.2.2.2.1) hS rfl d (k H locs ls hP hD hS hl)
theorem tt_sbal (C : CC p s m args meth c cc own nL ret D cy A ro Bd xa) {j : Nat} (hj : j < 7) {i : Int32} (hin : vp_in i (txLen.getD j 0)) (d : decode cc pc = .ok (.baload, 1)) (k : TT p l e R s m args below meth c nL D A ro v0 w0 (pc + 1) L (.int ((txByt.getD j []).getD (ix i) 0) :: rest) ws) : TT p l e R s m args below meth c nL D A ro v0 w0 pc L (.int i :: .ref (xa.2.2.2 j) :: rest) ws :=
  fun H locs ls hP hD hS hl => va_tb C.1 C.2.1 ((C.2.2.2.2.2.2.1.1.2.2.2.2.2.2.1 j hj).2.2.2.narrow C.2.2.2.2.2.2.2.1) hS hin rfl d (k H locs ls hP hD hS hl)
/-- a call of a text's own method -/
theorem tt_callT {y : MethodName} {cc2 : ByteArray} {maxL2 : Nat} {ret2 : Option FieldType} {fr2 lo2 n i : Nat} {As st : List Value} {j : Nat} {v2 : Option Value} (C : CC p s m args meth c cc own nL ret D cy A ro Bd xa) (hj : j < 7) (hM : KC l y cc2 maxL2 ret2 fr2 lo2 true D cy Bd xa (.ref (xa.2.2.1 j) :: As) [] v2 []) (hV : OkV y cc2 maxL2 ret2 n) (hy : y.cls = "java/lang/String") (hq : Cond.methodLink own i y ∈ wsG) (hn : As.length = n) (hst : As.reverse ++ .ref (xa.2.2.1 j) :: rest = st) {st' : List Value} (hst2 : v2.toList ++ rest = st') (hcat : (rest.map fun v => v.category).sum ≤ 8) (hR : fr2 + 1 ≤ R.frames ∧ 8 + (maxL2 + 11) + lo2 ≤ R.locals) (d : decode cc pc = .ok (.invokevirtual i, 3)) (k : TT p l e R s m args below meth c nL D A ro v0 w0 (pc + 3) L st' ws) : TT p l e R s m args below meth c nL D A ro v0 w0 pc L st ws := by
  intro H locs ls hP hD hS hl
  have hsub : ∀ x ∈ ([] : va_W), x ∈ ws := fun _ h => absurd h List.not_mem_nil
  have hV' := hV
  obtain ⟨h1, h2, h3, h4, h5⟩ := hV
  have hrec : ∃ cell : Cell, H[xa.2.2.1 j]? = some cell ∧ cell.vm.isStatics = false ∧ s.vm.findClass y.cls = some cell.cls := by
    rw [hy]
    exact vk_recv (C.2.2.2.2.2.2.1.1.2.2.2.2.2.2.narrow C.2.2.2.2.2.2.2.1) hj hS
  refine cs_backR (va_runV (Ts := wsG) (own := own) (C := y.cls) (n := n) (nL := nL) (cc := cc) ⟨C.1, C.2.1, C.2.2.1, C.2.2.2.1, C.2.2.2.2.1⟩ (hM H.size) ⟨cs_B C h4 h3 hq h5 hR, C.2.2.2.2.1 _ h1, C.2.2.2.2.1 _ h2⟩ ⟨Pz.blind, hrec, fun U hU hW => ⟨rfl, cs_pre C hP (fun h => by cases h) hS hsub U hU hW⟩⟩ rfl hn hl.1 hst.symm (lv_room hcat) d ⟨Nat.zero_le _, Nat.zero_le _⟩) hP hD hS hl (hst2 ▸ k)
end TT3
theorem dJ3_checkIndex_8e157_0 : decode cJ3_checkIndex_8e157 0 = .ok (.iload_n 0, 1) := by decide +kernel
theorem dJ3_checkIndex_8e157_1 : decode cJ3_checkIndex_8e157 1 = .ok (.ifCond .lt 8, 3) := by decide +kernel
theorem dJ3_checkIndex_8e157_4 : decode cJ3_checkIndex_8e157 4 = .ok (.iload_n 0, 1) := by decide +kernel
theorem dJ3_checkIndex_8e157_5 : decode cJ3_checkIndex_8e157 5 = .ok (.iload_n 1, 1) := by decide +kernel
theorem dJ3_checkIndex_8e157_6 : decode cJ3_checkIndex_8e157 6 = .ok (.if_icmp .lt 10, 3) := by decide +kernel
theorem dJ3_checkIndex_8e157_9 : decode cJ3_checkIndex_8e157 9 = .ok (.aload_n 2, 1) := by decide +kernel
theorem dJ3_checkIndex_8e157_10 : decode cJ3_checkIndex_8e157 10 = .ok (.iload_n 0, 1) := by decide +kernel
theorem dJ3_checkIndex_8e157_11 : decode cJ3_checkIndex_8e157 11 = .ok (.iload_n 1, 1) := by decide +kernel
theorem dJ3_checkIndex_8e157_12 : decode cJ3_checkIndex_8e157 12 = .ok (.invokestatic 95, 3) := by decide +kernel
theorem dJ3_checkIndex_8e157_15 : decode cJ3_checkIndex_8e157 15 = .ok (.athrow, 1) := by decide +kernel
theorem dJ3_checkIndex_8e157_16 : decode cJ3_checkIndex_8e157 16 = .ok (.iload_n 0, 1) := by decide +kernel
theorem dJ3_checkIndex_8e157_17 : decode cJ3_checkIndex_8e157 17 = .ok (.ireturn, 1) := by decide +kernel
theorem dJ0_checkIndex_df160_0 : decode cJ0_checkIndex_df160 0 = .ok (.iload_n 0, 1) := by decide +kernel
theorem dJ0_checkIndex_df160_1 : decode cJ0_checkIndex_df160 1 = .ok (.iload_n 1, 1) := by decide +kernel
theorem dJ0_checkIndex_df160_2 : decode cJ0_checkIndex_df160 2 = .ok (.getstatic 1053, 3) := by decide +kernel
theorem dJ0_checkIndex_df160_5 : decode cJ0_checkIndex_df160 5 = .ok (.invokestatic 1059, 3) := by decide +kernel
theorem dJ0_checkIndex_df160_8 : decode cJ0_checkIndex_df160 8 = .ok (.pop, 1) := by decide +kernel
theorem dJ0_checkIndex_df160_9 : decode cJ0_checkIndex_df160 9 = .ok (.return_, 1) := by decide +kernel
theorem dJ1_charAt_3b067_0 : decode cJ1_charAt_3b067 0 = .ok (.iload_n 1, 1) := by decide +kernel
theorem dJ1_charAt_3b067_1 : decode cJ1_charAt_3b067 1 = .ok (.aload_n 0, 1) := by decide +kernel
theorem dJ1_charAt_3b067_2 : decode cJ1_charAt_3b067 2 = .ok (.arraylength, 1) := by decide +kernel
theorem dJ1_charAt_3b067_3 : decode cJ1_charAt_3b067 3 = .ok (.invokestatic 9, 3) := by decide +kernel
theorem dJ1_charAt_3b067_6 : decode cJ1_charAt_3b067 6 = .ok (.aload_n 0, 1) := by decide +kernel
theorem dJ1_charAt_3b067_7 : decode cJ1_charAt_3b067 7 = .ok (.iload_n 1, 1) := by decide +kernel
theorem dJ1_charAt_3b067_8 : decode cJ1_charAt_3b067 8 = .ok (.baload, 1) := by decide +kernel
theorem dJ1_charAt_3b067_9 : decode cJ1_charAt_3b067 9 = .ok (.sipush 255, 3) := by decide +kernel
theorem dJ1_charAt_3b067_12 : decode cJ1_charAt_3b067 12 = .ok (.iand, 1) := by decide +kernel
theorem dJ1_charAt_3b067_13 : decode cJ1_charAt_3b067 13 = .ok (.i2c, 1) := by decide +kernel
theorem dJ1_charAt_3b067_14 : decode cJ1_charAt_3b067 14 = .ok (.ireturn, 1) := by decide +kernel
theorem dJ0_coder_7d493_0 : decode cJ0_coder_7d493 0 = .ok (.getstatic 38, 3) := by decide +kernel
theorem dJ0_coder_7d493_3 : decode cJ0_coder_7d493 3 = .ok (.ifCond .eq 10, 3) := by decide +kernel
theorem dJ0_coder_7d493_6 : decode cJ0_coder_7d493 6 = .ok (.aload_n 0, 1) := by decide +kernel
theorem dJ0_coder_7d493_7 : decode cJ0_coder_7d493 7 = .ok (.getfield 15, 3) := by decide +kernel
theorem dJ0_coder_7d493_10 : decode cJ0_coder_7d493 10 = .ok (.goto 4, 3) := by decide +kernel
theorem dJ0_coder_7d493_13 : decode cJ0_coder_7d493 13 = .ok (.iconst 1, 1) := by decide +kernel
theorem dJ0_coder_7d493_14 : decode cJ0_coder_7d493 14 = .ok (.ireturn, 1) := by decide +kernel
theorem dJ0_isLatin1_aae02_0 : decode cJ0_isLatin1_aae02 0 = .ok (.getstatic 38, 3) := by decide +kernel
theorem dJ0_isLatin1_aae02_3 : decode cJ0_isLatin1_aae02 3 = .ok (.ifCond .eq 14, 3) := by decide +kernel
theorem dJ0_isLatin1_aae02_6 : decode cJ0_isLatin1_aae02 6 = .ok (.aload_n 0, 1) := by decide +kernel
theorem dJ0_isLatin1_aae02_7 : decode cJ0_isLatin1_aae02 7 = .ok (.getfield 15, 3) := by decide +kernel
theorem dJ0_isLatin1_aae02_10 : decode cJ0_isLatin1_aae02 10 = .ok (.ifCond .ne 7, 3) := by decide +kernel
theorem dJ0_isLatin1_aae02_13 : decode cJ0_isLatin1_aae02 13 = .ok (.iconst 1, 1) := by decide +kernel
theorem dJ0_isLatin1_aae02_14 : decode cJ0_isLatin1_aae02 14 = .ok (.goto 4, 3) := by decide +kernel
theorem dJ0_isLatin1_aae02_17 : decode cJ0_isLatin1_aae02 17 = .ok (.iconst 0, 1) := by decide +kernel
theorem dJ0_isLatin1_aae02_18 : decode cJ0_isLatin1_aae02 18 = .ok (.ireturn, 1) := by decide +kernel
theorem dJ0_length_8abf5_0 : decode cJ0_length_8abf5 0 = .ok (.aload_n 0, 1) := by decide +kernel
theorem dJ0_length_8abf5_1 : decode cJ0_length_8abf5 1 = .ok (.getfield 9, 3) := by decide +kernel
theorem dJ0_length_8abf5_4 : decode cJ0_length_8abf5 4 = .ok (.arraylength, 1) := by decide +kernel
theorem dJ0_length_8abf5_5 : decode cJ0_length_8abf5 5 = .ok (.aload_n 0, 1) := by decide +kernel
theorem dJ0_length_8abf5_6 : decode cJ0_length_8abf5 6 = .ok (.invokevirtual 335, 3) := by decide +kernel
theorem dJ0_length_8abf5_9 : decode cJ0_length_8abf5 9 = .ok (.ishr, 1) := by decide +kernel
theorem dJ0_length_8abf5_10 : decode cJ0_length_8abf5 10 = .ok (.ireturn, 1) := by decide +kernel
theorem dJ0_charAt_5068e_0 : decode cJ0_charAt_5068e 0 = .ok (.aload_n 0, 1) := by decide +kernel
theorem dJ0_charAt_5068e_1 : decode cJ0_charAt_5068e 1 = .ok (.invokevirtual 492, 3) := by decide +kernel
theorem dJ0_charAt_5068e_4 : decode cJ0_charAt_5068e 4 = .ok (.ifCond .eq 12, 3) := by decide +kernel
theorem dJ0_charAt_5068e_7 : decode cJ0_charAt_5068e 7 = .ok (.aload_n 0, 1) := by decide +kernel
theorem dJ0_charAt_5068e_8 : decode cJ0_charAt_5068e 8 = .ok (.getfield 9, 3) := by decide +kernel
theorem dJ0_charAt_5068e_11 : decode cJ0_charAt_5068e 11 = .ok (.iload_n 1, 1) := by decide +kernel
theorem dJ0_charAt_5068e_12 : decode cJ0_charAt_5068e 12 = .ok (.invokestatic 495, 3) := by decide +kernel
theorem dJ0_charAt_5068e_15 : decode cJ0_charAt_5068e 15 = .ok (.ireturn, 1) := by decide +kernel
theorem dJ0_charAt_5068e_16 : decode cJ0_charAt_5068e 16 = .ok (.aload_n 0, 1) := by decide +kernel
theorem dJ0_charAt_5068e_17 : decode cJ0_charAt_5068e 17 = .ok (.getfield 9, 3) := by decide +kernel
theorem dJ0_charAt_5068e_20 : decode cJ0_charAt_5068e 20 = .ok (.iload_n 1, 1) := by decide +kernel
theorem dJ0_charAt_5068e_21 : decode cJ0_charAt_5068e 21 = .ok (.invokestatic 498, 3) := by decide +kernel
theorem dJ0_charAt_5068e_24 : decode cJ0_charAt_5068e 24 = .ok (.ireturn, 1) := by decide +kernel
set_option maxHeartbeats 4000000 in
set_option maxRecDepth 100000 in
theorem k_pcheck {l : Launch} {D : va_G} {cy : Nat → ClassId} {Bd : Nat} {xa : Xa} {x y : Int32} {w : Value} (hw : w = .null ∨ ∃ t, w = .ref t) (h0 : ¬ x < 0) (h1 : x < y) : KC l yJ3_checkIndex_8e157 cJ3_checkIndex_8e157 3 (some .int) 0 0 true D cy Bd xa [.int x, .int y, w] [] (some (.int x)) [] := by
  refine kc_start (own := RJ3) (by decide +kernel) rfl (by rcases hw with rfl | ⟨t, rfl⟩ <;> exact Nat.le_of_ble_eq_true rfl) ?_
  intro p e s m args below meth c A C
  refine tt_locs (L' := [(0, .int x), (1, .int y)]) [0, 1] (by rcases hw with rfl | ⟨t, rfl⟩ <;> rfl) ?_
  refine tt_iload_n (pc := 0) (k := 0) C dJ3_checkIndex_8e157_0 rfl rfl ?_
  refine tr_if_lt (pc := 1) (tgt := 9) C dJ3_checkIndex_8e157_1 (by decide) (fun hc => absurd hc h0) (fun _ => ?_)
  refine tt_iload_n (pc := 4) (k := 0) C dJ3_checkIndex_8e157_4 rfl rfl ?_
  refine tt_iload_n (pc := 5) (k := 1) C dJ3_checkIndex_8e157_5 rfl rfl ?_
  refine tr_icmp_lt (pc := 6) (tgt := 16) C dJ3_checkIndex_8e157_6 (by decide) (fun _ => ?_) (fun hc => absurd h1 hc)
  refine tt_iload_n (pc := 16) (k := 0) C dJ3_checkIndex_8e157_16 rfl rfl ?_
  exact tt_ireturn (pc := 17) C rfl rfl rfl dJ3_checkIndex_8e157_17
set_option maxHeartbeats 4000000 in
set_option maxRecDepth 100000 in
theorem k_scheck {l : Launch} {D : va_G} {cy : Nat → ClassId} {Bd : Nat} {xa : Xa} {x y : Int32} (h0 : ¬ x < 0) (h1 : x < y) : KC l yJ0_checkIndex_df160 cJ0_checkIndex_df160 2 none 1 22 true D cy Bd xa [.int x, .int y] [] none [] := by
  refine kc_start (own := RJ0) (by decide +kernel) rfl (Nat.le_of_ble_eq_true rfl) ?_
  intro p e s m args below meth c A C
  refine tt_locs (L' := [(0, .int x), (1, .int y)]) [0, 1] rfl ?_
  refine tt_iload_n (pc := 0) (k := 0) C dJ0_checkIndex_df160_0 rfl rfl ?_
  refine tt_iload_n (pc := 1) (k := 1) C dJ0_checkIndex_df160_1 rfl rfl ?_
  have key : ∀ w : Value, (w = .null ∨ ∃ t, w = .ref t) → w.category = 1 → TT p l e { frames := 1, cells := 0, slots := 0, locals := 22 } s m args below meth c 2 D A true none [] (2 + 3) [(0, .int x), (1, .int y)] [w, .int y, .int x] [] := by
    intro w hw hcat
    refine tt_callS (pc := 5) (As := [.int x, .int y, w]) (rest := []) (st' := [.int x]) C (k_pcheck hw h0 h1) okJ3_checkIndex_8e157 q2_87 (fun _ h => h) rfl rfl rfl (Nat.le_of_ble_eq_true rfl) ⟨Nat.le_of_ble_eq_true rfl, Nat.le_of_ble_eq_true rfl⟩ dJ0_checkIndex_df160_5 ?_
    refine tt_pop (pc := 8) C dJ0_checkIndex_df160_8 rfl ?_
    exact tt_vreturn (pc := 9) C rfl rfl rfl dJ0_checkIndex_df160_9
  rcases C.2.2.2.2.2.2.1.1.2.2.2.2.2.1 with hz | ⟨t, hz⟩
  · exact tt_gs (pc := 2) C hz q2_85 dJ0_checkIndex_df160_2 (key .null (Or.inl rfl) rfl)
  · exact tt_gs (pc := 2) C hz q2_85 dJ0_checkIndex_df160_2 (key (.ref t) (Or.inr ⟨t, rfl⟩) rfl)
set_option maxHeartbeats 4000000 in
set_option maxRecDepth 100000 in
theorem k_l1at {l : Launch} {D : va_G} {cy : Nat → ClassId} {Bd : Nat} {xa : Xa} {j : Nat} (hj : j < 7) {x : Int32} (h0 : ¬ x < 0) (h1 : x < Int32.ofNat (txLen.getD j 0)) (h2 : vp_in x (txLen.getD j 0)) : KC l yJ1_charAt_3b067 cJ1_charAt_3b067 2 (some .char) 2 43 true D cy Bd xa [.ref (xa.2.2.2 j), .int x] [] (some (.int (sAt j x))) [] := by
  refine kc_start (own := RJ1) (by decide +kernel) rfl (Nat.le_of_ble_eq_true rfl) ?_
  intro p e s m args below meth c A C
  refine tt_locs (L' := [(0, .ref (xa.2.2.2 j)), (1, .int x)]) [0, 1] rfl ?_
  refine tt_iload_n (pc := 0) (k := 1) C dJ1_charAt_3b067_0 rfl rfl ?_
  refine tt_aload_n (pc := 1) (k := 0) C dJ1_charAt_3b067_1 rfl rfl ?_
  refine tt_salen (pc := 2) C hj dJ1_charAt_3b067_2 ?_
  refine tt_callS (pc := 3) (As := [.int x, .int (Int32.ofNat (txLen.getD j 0))]) (rest := []) (st' := []) C (k_scheck h0 h1) okJ0_checkIndex_df160 q2_82 (fun _ h => h) rfl rfl rfl (Nat.le_of_ble_eq_true rfl) ⟨Nat.le_of_ble_eq_true rfl, Nat.le_of_ble_eq_true rfl⟩ dJ1_charAt_3b067_3 ?_
  refine tt_aload_n (pc := 6) (k := 0) C dJ1_charAt_3b067_6 rfl rfl ?_
  refine tt_iload_n (pc := 7) (k := 1) C dJ1_charAt_3b067_7 rfl rfl ?_
  refine tt_sbal (pc := 8) C hj h2 dJ1_charAt_3b067_8 ?_
  refine tt_sipush (pc := 9) (v := 255) C dJ1_charAt_3b067_9 (by decide) ?_
  refine tt_iand (pc := 12) C dJ1_charAt_3b067_12 ?_
  refine tt_i2c (pc := 13) C dJ1_charAt_3b067_13 ?_
  exact tt_zreturn (pc := 14) C rfl (pk_nc _) rfl rfl dJ1_charAt_3b067_14
set_option maxHeartbeats 4000000 in
set_option maxRecDepth 100000 in
theorem k_coder {l : Launch} {D : va_G} {cy : Nat → ClassId} {Bd : Nat} {xa : Xa} {j : Nat} (hj : j < 7) : KC l yJ0_coder_7d493 cJ0_coder_7d493 1 (some .byte) 0 0 true D cy Bd xa [.ref (xa.2.2.1 j)] [] (some (.int 0)) [] := by
  refine kc_start (own := RJ0) (by decide +kernel) rfl (Nat.le_of_ble_eq_true rfl) ?_
  intro p e s m args below meth c A C
  refine tt_locs (L' := [(0, .ref (xa.2.2.1 j))]) [0] rfl ?_
  refine tt_gs (pc := 0) C C.2.2.2.2.2.2.1.1.2.2.2.2.1 q2_69 dJ0_coder_7d493_0 ?_
  refine tr_if_eq (pc := 3) (tgt := 13) C dJ0_coder_7d493_3 (by decide) (fun hc => absurd hc (by decide)) (fun _ => ?_)
  refine tt_aload_n (pc := 6) (k := 0) C dJ0_coder_7d493_6 rfl rfl ?_
  refine tt_scod (pc := 7) C hj q6_207 dJ0_coder_7d493_7 ?_
  refine tt_goto (pc := 10) (tgt := 14) C dJ0_coder_7d493_10 (by decide) ?_
  exact tt_zreturn (pc := 14) C rfl rfl rfl rfl dJ0_coder_7d493_14
set_option maxHeartbeats 4000000 in
set_option maxRecDepth 100000 in
theorem k_isL1 {l : Launch} {D : va_G} {cy : Nat → ClassId} {Bd : Nat} {xa : Xa} {j : Nat} (hj : j < 7) : KC l yJ0_isLatin1_aae02 cJ0_isLatin1_aae02 1 (some .boolean) 0 0 true D cy Bd xa [.ref (xa.2.2.1 j)] [] (some (.int 1)) [] := by
  refine kc_start (own := RJ0) (by decide +kernel) rfl (Nat.le_of_ble_eq_true rfl) ?_
  intro p e s m args below meth c A C
  refine tt_locs (L' := [(0, .ref (xa.2.2.1 j))]) [0] rfl ?_
  refine tt_gs (pc := 0) C C.2.2.2.2.2.2.1.1.2.2.2.2.1 q2_69 dJ0_isLatin1_aae02_0 ?_
  refine tr_if_eq (pc := 3) (tgt := 17) C dJ0_isLatin1_aae02_3 (by decide) (fun hc => absurd hc (by decide)) (fun _ => ?_)
  refine tt_aload_n (pc := 6) (k := 0) C dJ0_isLatin1_aae02_6 rfl rfl ?_
  refine tt_scod (pc := 7) C hj q6_207 dJ0_isLatin1_aae02_7 ?_
  refine tr_if_ne (pc := 10) (tgt := 17) C dJ0_isLatin1_aae02_10 (by decide) (fun hc => absurd rfl hc) (fun _ => ?_)
  refine tt_iconst (pc := 13) (v := 1) C dJ0_isLatin1_aae02_13 (by decide) ?_
  refine tt_goto (pc := 14) (tgt := 18) C dJ0_isLatin1_aae02_14 (by decide) ?_
  exact tt_zreturn (pc := 18) C rfl rfl rfl rfl dJ0_isLatin1_aae02_18
set_option maxHeartbeats 4000000 in
set_option maxRecDepth 100000 in
theorem k_slen {l : Launch} {D : va_G} {cy : Nat → ClassId} {Bd : Nat} {xa : Xa} {j : Nat} (hj : j < 7) : KC l yJ0_length_8abf5 cJ0_length_8abf5 1 (some .int) 1 20 true D cy Bd xa [.ref (xa.2.2.1 j)] [] (some (.int (sLen j))) [] := by
  refine kc_start (own := RJ0) (by decide +kernel) rfl (Nat.le_of_ble_eq_true rfl) ?_
  intro p e s m args below meth c A C
  refine tt_locs (L' := [(0, .ref (xa.2.2.1 j))]) [0] rfl ?_
  refine tt_aload_n (pc := 0) (k := 0) C dJ0_length_8abf5_0 rfl rfl ?_
  refine tt_sval (pc := 1) C hj q6_206 dJ0_length_8abf5_1 ?_
  refine tt_salen (pc := 4) C hj dJ0_length_8abf5_4 ?_
  refine tt_aload_n (pc := 5) (k := 0) C dJ0_length_8abf5_5 rfl rfl ?_
  refine tt_callT (pc := 6) (As := []) (rest := [.int (Int32.ofNat (txLen.getD j 0))]) (st' := [.int 0, .int (Int32.ofNat (txLen.getD j 0))]) C hj (k_coder hj) okJ0_coder_7d493 rfl q2_65 rfl rfl rfl (Nat.le_of_ble_eq_true rfl) ⟨Nat.le_of_ble_eq_true rfl, Nat.le_of_ble_eq_true rfl⟩ dJ0_length_8abf5_6 ?_
  refine tt_ishr (pc := 9) C dJ0_length_8abf5_9 ?_
  exact tt_ireturn (pc := 10) C rfl rfl rfl dJ0_length_8abf5_10
set_option maxHeartbeats 4000000 in
set_option maxRecDepth 100000 in
theorem k_sat {l : Launch} {D : va_G} {cy : Nat → ClassId} {Bd : Nat} {xa : Xa} {j : Nat} (hj : j < 7) {x : Int32} (h0 : ¬ x < 0) (h1 : x < Int32.ofNat (txLen.getD j 0)) (h2 : vp_in x (txLen.getD j 0)) : KC l yJ0_charAt_5068e cJ0_charAt_5068e 2 (some .char) 3 64 true D cy Bd xa [.ref (xa.2.2.1 j), .int x] [] (some (.int (sAt j x))) [] := by
  refine kc_start (own := RJ0) (by decide +kernel) rfl (Nat.le_of_ble_eq_true rfl) ?_
  intro p e s m args below meth c A C
  refine tt_locs (L' := [(0, .ref (xa.2.2.1 j)), (1, .int x)]) [0, 1] rfl ?_
  refine tt_aload_n (pc := 0) (k := 0) C dJ0_charAt_5068e_0 rfl rfl ?_
  refine tt_callT (pc := 1) (As := []) (rest := []) (st' := [.int 1]) C hj (k_isL1 hj) okJ0_isLatin1_aae02 rfl q2_75 rfl rfl rfl (Nat.le_of_ble_eq_true rfl) ⟨Nat.le_of_ble_eq_true rfl, Nat.le_of_ble_eq_true rfl⟩ dJ0_charAt_5068e_1 ?_
  refine tr_if_eq (pc := 4) (tgt := 16) C dJ0_charAt_5068e_4 (by decide) (fun hc => absurd hc (by decide)) (fun _ => ?_)
  refine tt_aload_n (pc := 7) (k := 0) C dJ0_charAt_5068e_7 rfl rfl ?_
  refine tt_sval (pc := 8) C hj q6_206 dJ0_charAt_5068e_8 ?_
  refine tt_iload_n (pc := 11) (k := 1) C dJ0_charAt_5068e_11 rfl rfl ?_
  refine tt_callS (pc := 12) (As := [.ref (xa.2.2.2 j), .int x]) (rest := []) (st' := [.int (sAt j x)]) C (k_l1at hj h0 h1 h2) okJ1_charAt_3b067 q2_79 (fun _ h => h) rfl rfl rfl (Nat.le_of_ble_eq_true rfl) ⟨Nat.le_of_ble_eq_true rfl, Nat.le_of_ble_eq_true rfl⟩ dJ0_charAt_5068e_12 ?_
  exact tt_zreturn (pc := 15) C rfl (pk_nc _) rfl rfl dJ0_charAt_5068e_15
abbrev sBad (j : Nat) (x : Int32) : Prop := 7 ≤ j ∨ x < 0 ∨ ¬ x < Int32.ofNat (txLen.getD j 0) ∨ txLen.getD j 0 ≤ ix x
section TT4
variable {p : Program} {l : Launch} {e : Env} {R : Room} {s : State} {m : MethodId} {args : Array Value} {below : List Frame} {meth : Method} {c : Code}
variable {cc : ByteArray} {own : String} {nL : Nat} {ret : Option FieldType} {D : va_G} {cy : Nat → ClassId} {A : Nat → Prop} {ro : Bool} {Bd : Nat} {xa : Xa} {v0 : Option Value} {w0 : va_W}
variable {pc : Nat} {L : List (Nat × Value)} {rest : List Value} {ws : va_W} {α : Type} {o : α} {a b : Option α}
theorem tt_slen (C : CC p s m args meth c cc own nL ret D cy A ro Bd xa) {j i : Nat} (h : (if 7 ≤ j then none else b) = some o) (hq : Cond.methodLink own i yJ0_length_8abf5 ∈ wsG) (hcat : (rest.map fun v => v.category).sum ≤ 8) (hR : 1 + 1 ≤ R.frames ∧ 8 + (1 + 11) + 20 ≤ R.locals) (d : decode cc pc = .ok (.invokevirtual i, 3)) (k : b = some o → TT p l e R s m args below meth c nL D A ro v0 w0 (pc + 3) L (.int (sLen j) :: rest) ws) : TT p l e R s m args below meth c nL D A ro v0 w0 pc L (.ref (xa.2.2.1 j) :: rest) ws := by
  by_cases hc : 7 ≤ j
  · rw [if_pos hc] at h; cases h
  · rw [if_neg hc] at h
    exact tt_callT (As := []) (rest := rest) C (Nat.lt_of_not_le hc) (k_slen (Nat.lt_of_not_le hc)) okJ0_length_8abf5 rfl hq rfl rfl rfl hcat hR d (k h)
theorem tt_sat (C : CC p s m args meth c cc own nL ret D cy A ro Bd xa) {j i : Nat} {x : Int32} (h : (if sBad j x then none else b) = some o) (hq : Cond.methodLink own i yJ0_charAt_5068e ∈ wsG) (hcat : (rest.map fun v => v.category).sum ≤ 8) (hR : 3 + 1 ≤ R.frames ∧ 8 + (2 + 11) + 64 ≤ R.locals) (d : decode cc pc = .ok (.invokevirtual i, 3)) (k : b = some o → TT p l e R s m args below meth c nL D A ro v0 w0 (pc + 3) L (.int (sAt j x) :: rest) ws) : TT p l e R s m args below meth c nL D A ro v0 w0 pc L (.int x :: .ref (xa.2.2.1 j) :: rest) ws := by
  by_cases hc : sBad j x
  · rw [if_pos hc] at h; cases h
  · rw [if_neg hc] at h
    simp only [sBad, not_or, Classical.not_not] at hc
    obtain ⟨c1, c2, c3, c4⟩ := hc
    exact tt_callT (As := [.int x]) (rest := rest) C (Nat.lt_of_not_le c1) (k_sat (Nat.lt_of_not_le c1) c2 c3 (fun z => z.elim c2 c4)) okJ0_charAt_5068e rfl hq rfl rfl rfl hcat hR d (k h)
end TT4
