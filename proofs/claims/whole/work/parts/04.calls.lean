-- ===== calls =====
def OkV (y : MethodName) (cc : ByteArray) (maxL : Nat) (ret : Option FieldType) (n : Nat) : Prop := Cond.instanceMethod y ∈ wsG ∧ Cond.selects y.cls y y ∈ wsG ∧ Cond.initialized y.cls ∈ wsG ∧ Cond.code y cc maxL ret ∈ wsG ∧ (y.cls ≠ "java/lang/invoke/MethodHandle" ∧ y.cls ≠ "java/lang/invoke/VarHandle" ∧ (parseMethodDescriptor y.desc).map (fun d => d.parameters.length) = some n)
def OkS (y : MethodName) (cc : ByteArray) (maxL : Nat) (ret : Option FieldType) (n : Nat) : Prop := Cond.static y ∈ wsG ∧ Cond.initialized y.cls ∈ wsG ∧ Cond.code y cc maxL ret ∈ wsG ∧ (y.cls ≠ "java/lang/invoke/MethodHandle" ∧ y.cls ≠ "java/lang/invoke/VarHandle" ∧ (parseMethodDescriptor y.desc).map (fun d => d.parameters.length) = some n)
theorem gd_all {w : Cond} (h : w ∈ wsG) : GoodIn wsG (w :: wsG) := by
  intro x hx
  rcases List.mem_cons.mp hx with rfl | hx
  · exact ⟨h, wg_good h⟩
  · exact ⟨hx, wg_good hx⟩
theorem va_P.mem {D : va_G} {cl : List vw_C} {ws ws2 : va_W} {H : Heap} (h : va_P D cl ws H) (hs : ∀ x ∈ ws2, x ∈ ws) : va_P D cl ws2 H := by
  intro k q hk
  obtain ⟨i, hi⟩ := List.getElem?_of_mem (hs q (List.mem_of_getElem? hk))
  exact h i q hi
section TTc
variable {p : Program} {l : Launch} {e : Env} {R : Room} {s : State} {m : MethodId} {args : Array Value} {below : List Frame} {meth : Method} {c : Code}
variable {cc : ByteArray} {own : String} {nL : Nat} {ret : Option FieldType} {D : va_G} {cy : Nat → ClassId} {A : Nat → Prop} {ro : Bool} {Bd : Nat} {xa : Xa} {v0 : Option Value} {w0 : va_W}
variable {pc : Nat} {L : List (Nat × Value)} {rest : List Value} {ws : va_W} {α : Type} {o : α} {a b : Option α}
variable {y : MethodName} {cc2 : ByteArray} {maxL2 : Nat} {ret2 : Option FieldType} {fr2 lo2 n i : Nat} {As st : List Value} {q q0 : Nat} {ws2 w2 : va_W} {v2 : Option Value} {ro2 : Bool}
/-- the callee's start out of the caller's walk -/
theorem cs_pre {H : Heap} {locs : List Loc} (C : CC p s m args meth c cc own nL ret D cy A ro Bd xa) (hP : va_P D classes ws H) (hD : ro2 = false → va_D A ws2) (hS : va_S A s.heap H locs) (hsub : ∀ x ∈ ws2, x ∈ ws) : ∀ U : State, U.heap = H → s.WarmedH U.vm → Pz ro2 D cy Bd xa ws2 H.size U := by
  intro U hU hW
  obtain ⟨-, -, -, -, -, hK, hE, hA, hB, -, -, -⟩ := C
  refine ⟨by rw [hU], Nat.le_trans hB hS.1, by rw [hU]; exact hP.mem hsub, hK.moved hW.alike, ?_, fun hr => ⟨(hD hr).1, fun k x hk => hA _ ((hD hr).2 k x hk)⟩⟩
  rw [hU]
  exact (hE.kept (fun z hz hn => hS.2.1 z hz (fun ha => hn (hA z ha)))).warm hW
theorem cs_B (C : CC p s m args meth c cc own nL ret D cy A ro Bd xa) (hc : Cond.code y cc2 maxL2 ret2 ∈ wsG) (hi : Cond.initialized y.cls ∈ wsG) (hq : Cond.methodLink own i y ∈ wsG) (hd : y.cls ≠ "java/lang/invoke/MethodHandle" ∧ y.cls ≠ "java/lang/invoke/VarHandle" ∧ (parseMethodDescriptor y.desc).map (fun d => d.parameters.length) = some n) (hR : fr2 + 1 ≤ R.frames ∧ 8 + (maxL2 + 11) + lo2 ≤ R.locals) :
    CallB R s args own i y cc2 maxL2 ret2 (Cond.code y cc2 maxL2 ret2 :: wsG) { frames := fr2, cells := 0, slots := 0, locals := lo2 } 0 0 n :=
  callB_of n C.2.2.2.2.1 (gd_all hc) rfl rfl rfl (C.2.2.2.2.1 _ hi) (C.2.2.2.2.1 _ hq) hd hR
theorem cs_run (C : CC p s m args meth c cc own nL ret D cy A ro Bd xa) (hM : KC l y cc2 maxL2 ret2 fr2 lo2 ro2 D cy Bd xa (.ref q :: As) ws2 v2 w2) (hV : OkV y cc2 maxL2 ret2 n) (hq : Cond.methodLink own i y ∈ wsG) {ci : Nat} {T : u_T} {N : Nat} {fs : List Value} (hc : classes[ci]? = some (y.cls, T, N)) (he : ws[q0]? = some (q, .inr (ci, fs))) (hsub : ∀ x ∈ ws2, x ∈ ws) (hn : As.length = n) (hst : As.reverse ++ .ref q :: rest = st) (hcat : (rest.map fun v => v.category).sum ≤ 8) (hR : fr2 + 1 ≤ R.frames ∧ 8 + (maxL2 + 11) + lo2 ≤ R.locals) (d : decode cc pc = .ok (.invokevirtual i, 3)) {H : Heap} {locs : List Loc} {ls : Array Slot} (hP : va_P D classes ws H) (hD : ro2 = false → va_D A ws2) (hS : va_S A s.heap H locs) (hl : lv_has ls nL L) :
    va_Run p l e R s m args below meth c H locs 0 0 0 0 (F0 m pc ls st) rest (Qz D (Aw ro2 ws2 H.size) ro2 v2 w2 (Value.ref q :: As).toArray) (Aw ro2 ws2 H.size) := by
  obtain ⟨h1, h2, h3, h4, h5⟩ := hV
  refine va_runV (Ts := wsG) (own := own) (C := y.cls) (n := n) (nL := nL) (cc := cc) ⟨C.1, C.2.1, C.2.2.1, C.2.2.2.1, C.2.2.2.2.1⟩ (hM H.size) ⟨cs_B C h4 h3 hq h5 hR, C.2.2.2.2.1 _ h1, C.2.2.2.2.1 _ h2⟩ ⟨Pz.blind, va_recv C.2.2.2.2.2.1 hP hc he, fun U hU hW => ⟨rfl, cs_pre C hP hD hS hsub U hU hW⟩⟩ rfl hn hl.1 hst.symm (lv_room hcat) d ⟨Nat.zero_le _, Nat.zero_le _⟩
theorem cs_runS (C : CC p s m args meth c cc own nL ret D cy A ro Bd xa) (hM : KC l y cc2 maxL2 ret2 fr2 lo2 ro2 D cy Bd xa As ws2 v2 w2) (hV : OkS y cc2 maxL2 ret2 n) (hq : Cond.methodLink own i y ∈ wsG) (hsub : ∀ x ∈ ws2, x ∈ ws) (hn : As.length = n) (hst : As.reverse ++ rest = st) (hcat : (rest.map fun v => v.category).sum ≤ 8) (hR : fr2 + 1 ≤ R.frames ∧ 8 + (maxL2 + 11) + lo2 ≤ R.locals) (d : decode cc pc = .ok (.invokestatic i, 3)) {H : Heap} {locs : List Loc} {ls : Array Slot} (hP : va_P D classes ws H) (hD : ro2 = false → va_D A ws2) (hS : va_S A s.heap H locs) (hl : lv_has ls nL L) :
    va_Run p l e R s m args below meth c H locs 0 0 0 0 (F0 m pc ls st) rest (Qz D (Aw ro2 ws2 H.size) ro2 v2 w2 As.toArray) (Aw ro2 ws2 H.size) := by
  obtain ⟨h1, h3, h4, h5⟩ := hV
  refine va_runS (Ts := wsG) (own := own) (n := n) (nL := nL) (cc := cc) ⟨C.1, C.2.1, C.2.2.1, C.2.2.2.1, C.2.2.2.2.1⟩ (hM H.size) ⟨cs_B C h4 h3 hq h5 hR, C.2.2.2.2.1 _ h1⟩ ⟨Pz.blind, fun U hU hW => ⟨rfl, cs_pre C hP hD hS hsub U hU hW⟩⟩ rfl hn hl.1 hst.symm (lv_room hcat) d ⟨Nat.zero_le _, Nat.zero_le _⟩
/-- behind a call that changes nothing -/
theorem cs_backR {aa : Array Value} {H : Heap} {locs : List Loc} {ls : Array Slot} (hr : va_Run p l e R s m args below meth c H locs 0 0 0 0 (F0 m pc ls st) rest (Qz D (Aw true ws2 H.size) true v2 w2 aa) (Aw true ws2 H.size)) (hP : va_P D classes ws H) (hD : ro = false → va_D A ws) (hS : va_S A s.heap H locs) (hl : lv_has ls nL L) (k : TT p l e R s m args below meth c nL D A ro v0 w0 (pc + 3) L (v2.toList ++ rest) ws) :
    W p l e R s m args below meth c H locs 0 0 (MQ below (Qz D A ro v0 w0) args s 0 0 A) (F0 m pc ls st) := by
  intro T hT X
  obtain ⟨v, st₀, t, T', L', h0, X', hL, e1, e2, ⟨ho, -, -, hz, hk⟩, st1⟩ := hr T hT X
  cases ho
  rw [h0] at hz hk
  have hk' : ∀ z : Nat, z < H.size → T'.heap[z]? = H[z]? := fun z h => by rw [e1]; exact hk z h (fun ha => by cases ha.1)
  have hL0 : L' = [] := by
    cases L' with
    | nil => rfl
    | cons x xs => exact absurd (hL x List.mem_cons_self).1 (by decide)
  subst hL0
  obtain ⟨t2, a1, b1⟩ := k T'.heap (locs ++ []) ls (hP.kept (fun k x hx => hk' _ (hP k x hx).lt)) hD ⟨Nat.le_trans hS.1 (by rw [e1]; exact hz), fun z h1 h2 => by rw [hk' z (Nat.lt_of_lt_of_le h1 hS.1)]; exact hS.2.1 z h1 h2, by rw [List.append_nil]; exact hS.2.2⟩ hl T' rfl X'
  exact ⟨t2, st1 t2 a1, b1⟩
/-- behind a call that may change its world -/
theorem cs_backM {aa : Array Value} {H : Heap} {locs : List Loc} {ls : Array Slot} (C : CC p s m args meth c cc own nL ret D cy A ro Bd xa) (hro : ro = false) (hr : va_Run p l e R s m args below meth c H locs 0 0 0 0 (F0 m pc ls st) rest (Qz D (Aw false ws2 H.size) false v2 w2 aa) (Aw false ws2 H.size)) (hS : va_S A s.heap H locs) (hl : lv_has ls nL L) (hA2 : ∀ z, va_A ws2 H.size z → A z)
    {ws' : va_W} (hw : ∀ H1 : Heap, (∀ z : Nat, z < H.size → ¬ va_A ws2 H.size z → H1[z]? = H[z]?) → va_P D classes w2 H1 → va_D (va_A ws2 H.size) w2 → va_P D classes ws' H1 ∧ va_D A ws') (k : TT p l e R s m args below meth c nL D A ro v0 w0 (pc + 3) L (v2.toList ++ rest) ws') :
    W p l e R s m args below meth c H locs 0 0 (MQ below (Qz D A ro v0 w0) args s 0 0 A) (F0 m pc ls st) := by
  intro T hT X
  obtain ⟨v, st₀, t, T', L', h0, X', hL, e1, e2, ⟨ho, hP2, hD2, hz, hk⟩, st1⟩ := hr T hT X
  cases ho
  rw [h0] at hz hk
  have hk' : ∀ z : Nat, z < H.size → ¬ va_A ws2 H.size z → T'.heap[z]? = H[z]? := fun z h hn => by rw [e1]; exact hk z h (fun ha => hn ha.2)
  obtain ⟨hP', hD'⟩ := hw T'.heap hk' (by rw [e1]; exact hP2) ((hD2 rfl).weaken (fun _ _ _ h => h.2))
  obtain ⟨t2, a1, b1⟩ := k T'.heap (locs ++ L') ls hP' (fun _ => hD') ⟨Nat.le_trans hS.1 (by rw [e1]; exact hz), fun z h1 h2 => by rw [hk' z (Nat.lt_of_lt_of_le h1 hS.1) (fun z9 => h2 (hA2 z z9))]; exact hS.2.1 z h1 h2, fun z hz => by
      rcases List.mem_append.mp hz with h | h
      · exact hS.2.2 z h
      · exact hA2 _ (hL z h).2⟩ hl T' rfl X'
  exact ⟨t2, st1 t2 a1, b1⟩
theorem tt_callR (C : CC p s m args meth c cc own nL ret D cy A ro Bd xa) (hM : KC l y cc2 maxL2 ret2 fr2 lo2 true D cy Bd xa (.ref q :: As) ws2 v2 w2) (hV : OkV y cc2 maxL2 ret2 n) (hq : Cond.methodLink own i y ∈ wsG) {ci : Nat} {T : u_T} {N : Nat} {fs : List Value} (hc : classes[ci]? = some (y.cls, T, N)) (he : ws[q0]? = some (q, .inr (ci, fs))) (hsub : ∀ x ∈ ws2, x ∈ ws) (hn : As.length = n) (hst : As.reverse ++ .ref q :: rest = st) {st' : List Value} (hst2 : v2.toList ++ rest = st') (hcat : (rest.map fun v => v.category).sum ≤ 8) (hR : fr2 + 1 ≤ R.frames ∧ 8 + (maxL2 + 11) + lo2 ≤ R.locals) (d : decode cc pc = .ok (.invokevirtual i, 3)) (k : TT p l e R s m args below meth c nL D A ro v0 w0 (pc + 3) L st' ws) : TT p l e R s m args below meth c nL D A ro v0 w0 pc L st ws :=
  fun _ _ _ hP hD hS hl => cs_backR (cs_run C hM hV hq hc he hsub hn hst hcat hR d hP (fun h => by cases h) hS hl) hP hD hS hl (hst2 ▸ k)
theorem tt_callS (C : CC p s m args meth c cc own nL ret D cy A ro Bd xa) (hM : KC l y cc2 maxL2 ret2 fr2 lo2 true D cy Bd xa As ws2 v2 w2) (hV : OkS y cc2 maxL2 ret2 n) (hq : Cond.methodLink own i y ∈ wsG) (hsub : ∀ x ∈ ws2, x ∈ ws) (hn : As.length = n) (hst : As.reverse ++ rest = st) {st' : List Value} (hst2 : v2.toList ++ rest = st') (hcat : (rest.map fun v => v.category).sum ≤ 8) (hR : fr2 + 1 ≤ R.frames ∧ 8 + (maxL2 + 11) + lo2 ≤ R.locals) (d : decode cc pc = .ok (.invokestatic i, 3)) (k : TT p l e R s m args below meth c nL D A ro v0 w0 (pc + 3) L st' ws) : TT p l e R s m args below meth c nL D A ro v0 w0 pc L st ws :=
  fun _ _ _ hP hD hS hl => cs_backR (cs_runS C hM hV hq hsub hn hst hcat hR d hP (fun h => by cases h) hS hl) hP hD hS hl (hst2 ▸ k)
/-- a call over the same world -/
theorem tt_callM (C : CC p s m args meth c cc own nL ret D cy A ro Bd xa) (hro : ro = false) (hM : KC l y cc2 maxL2 ret2 fr2 lo2 false D cy Bd xa (.ref q :: As) ws v2 w2) (hV : OkV y cc2 maxL2 ret2 n) (hq : Cond.methodLink own i y ∈ wsG) {ci : Nat} {T : u_T} {N : Nat} {fs : List Value} (hc : classes[ci]? = some (y.cls, T, N)) (he : ws[q0]? = some (q, .inr (ci, fs))) (hn : As.length = n) (hst : As.reverse ++ .ref q :: rest = st) {st' : List Value} (hst2 : v2.toList ++ rest = st') (hcat : (rest.map fun v => v.category).sum ≤ 8) (hR : fr2 + 1 ≤ R.frames ∧ 8 + (maxL2 + 11) + lo2 ≤ R.locals) (d : decode cc pc = .ok (.invokevirtual i, 3)) (k : TT p l e R s m args below meth c nL D A ro v0 w0 (pc + 3) L st' w2) : TT p l e R s m args below meth c nL D A ro v0 w0 pc L st ws := by
  intro H locs ls hP hD hS hl
  have hA2 : ∀ z, va_A ws H.size z → A z := by
    intro z hz
    rcases hz with ⟨k, e, hk⟩ | hz
    · exact (hD hro).2 k (z, e) hk
    · exact C.2.2.2.2.2.2.2.2.2.1 hro z (Nat.le_trans hS.1 hz)
  exact cs_backM C hro (cs_run C hM hV hq hc he (fun _ h => h) hn hst hcat hR d hP (fun _ => hD hro) hS hl) hS hl hA2 (fun H1 _ hP1 hD1 => ⟨hP1, hD1.weaken (fun _ _ _ h => hA2 _ h)⟩) (hst2 ▸ k)
/-- a call over a part of the world: the callee's places isC, the rest's isR; behind it the world's order again by isF -/
theorem tt_callP (C : CC p s m args meth c cc own nL ret D cy A ro Bd xa) (hro : ro = false) (hM : KC l y cc2 maxL2 ret2 fr2 lo2 false D cy Bd xa (.ref q :: As) ws2 v2 w2) (hV : OkV y cc2 maxL2 ret2 n) (hq : Cond.methodLink own i y ∈ wsG) {ci : Nat} {T : u_T} {N : Nat} {fs : List Value} (hc : classes[ci]? = some (y.cls, T, N)) (he : ws[q0]? = some (q, .inr (ci, fs)))
    (isC isR isF : List Nat) {wr ws' : va_W} (hC : isC.map (fun i => ws[i]?) = ws2.map some) (hnC : va_nd isC = true) (hRr : isR.map (fun i => ws[i]?) = wr.map some) (hnR : va_nd isR = true) (hdis : ∀ i ∈ isR, i ∉ isC) (hF : isF.map (fun i => (wr ++ w2)[i]?) = ws'.map some) (hnF : va_nd isF = true)
    (hn : As.length = n) (hst : As.reverse ++ .ref q :: rest = st) {st' : List Value} (hst2 : v2.toList ++ rest = st') (hcat : (rest.map fun v => v.category).sum ≤ 8) (hR : fr2 + 1 ≤ R.frames ∧ 8 + (maxL2 + 11) + lo2 ≤ R.locals) (d : decode cc pc = .ok (.invokevirtual i, 3)) (k : TT p l e R s m args below meth c nL D A ro v0 w0 (pc + 3) L st' ws') : TT p l e R s m args below meth c nL D A ro v0 w0 pc L st ws := by
  intro H locs ls hP hD hS hl
  have hA2 : ∀ z, va_A ws2 H.size z → A z := va_free (hD hro) hS (C.2.2.2.2.2.2.2.2.2.1 hro) isC hC
  have hsub : ∀ x ∈ ws2, x ∈ ws := by
    intro x hx
    obtain ⟨k, hk⟩ := List.getElem?_of_mem hx
    have h1 : (isC.map (fun i => ws[i]?))[k]? = some (some x) := by rw [hC, List.getElem?_map, hk]; rfl
    rw [List.getElem?_map] at h1
    cases hi : isC[k]? with
    | none => rw [hi] at h1; cases h1
    | some i => rw [hi] at h1; exact List.mem_of_getElem? (Option.some.inj h1)
  refine cs_backM C hro (cs_run C hM hV hq hc he hsub hn hst hcat hR d hP (fun _ => (hD hro).sub isC hnC hC) hS hl) hS hl hA2 (fun H1 hk hP1 hD1 => ?_) (hst2 ▸ k)
  obtain ⟨h1, h2⟩ := va_join hP (hD hro) isC isR hC hRr hnR hdis hk hA2 hP1 hD1
  refine ⟨?_, h2.sub isF hnF hF⟩
  refine h1.mem (fun x hx => ?_)
  obtain ⟨k, hk⟩ := List.getElem?_of_mem hx
  have h3 : (isF.map (fun i => (wr ++ w2)[i]?))[k]? = some (some x) := by rw [hF, List.getElem?_map, hk]; rfl
  rw [List.getElem?_map] at h3
  cases hi : isF[k]? with
  | none => rw [hi] at h3; cases h3
  | some i => rw [hi] at h3; exact List.mem_of_getElem? (Option.some.inj h3)
end TTc
theorem bind_some {α β : Type} {f : Option α} {g : α → Option β} {o : β} (h : f.bind g = some o) : ∃ r, f = some r ∧ g r = some o := by
  cases f with
  | none => cases h
  | some r => exact ⟨r, rfl, h⟩
