/-! THE CLAIM OUT OF ONE WALK OF THE LAW'S BODY. Your part is whole_start (and what it stands on); all else here is the same for every law, but numbers. -/
def R_law : String := "SignalsSightedLaw"
def lw_P (b : Addr) (xs : List Int32) (args : Array Value) (s : State) : Prop := args = #[.ref b] ∧ s.IntsAt b xs ∧ xs.length ≤ 2560 ∧ (Jvm.Cond.and given_1 narrow_1).before args s = true
def lw_Q (_ : Array Value) (s : State) (o : Outcome) (t : State) : Prop := o = .returned (some (.int 1)) ∧ Framed s o t [] 600000 7302250
def lw_Z (below : List Frame) (a : Array Value) (s : State) : State → Prop := fun t => ∃ o, t.status = .running ∧ Ended t below o ∧ lw_Q a s o t
/-- the law's own end, with 1 on the stack, nothing written that was there before, its room as the claim has it -/
theorem lw_ret {p : Program} {l : Launch} {e : Env} {s : State} {m : MethodId} {below : List Frame} {meth : Method} {c : Code} {b : Nat} (hx : p.tables.exec = Jvm.exec) (hb : c.code = code) (hr : meth.sig.returnType = ret) (hlocks : meth.locks = false) {pc : Nat} {H : Heap} {ls : Array Slot} (hdg : decode code pc = .ok (.ireturn, 1)) : W p l e room_1 s m #[Value.ref b] below meth c H [] 600000 7302250 (lw_Z below #[Value.ref b] s) (F0 m pc ls [.int 1]) := by
  intro T hT X
  obtain ⟨fs, hret, hrun, hended, hW, hframe⟩ := X.leave (v := some (.int 1)) (hlocks := hlocks) (fun h => by rw [hr] at h; cases h)
  have hmeth' : T.vm.method? m = some meth := X.method'
  refine ⟨T.setFrames fs, ?_, .returned (some (.int 1)), hrun, hended, rfl, ⟨_, rfl⟩, hW, hframe⟩
  jvm_step X.here [X.here.top, hx, hb, hdg, hmeth', hr, ret, narrow_b1]
  (try refine ⟨rfl, ?_⟩); (try refine ⟨rfl, ?_⟩)
  first | (intro acts; rw [hret _ acts rfl rfl rfl]) | rw [hret _ _ rfl rfl rfl]
  exact Steps.refl _
/-- what holds at the law's entry: the machine, the code, the tables' words (any of lw_tbl by 'hts w (by decide +kernel)'), the script of L ints xs at the cell b, what the Statement gives of the start (any of its parts by flat_of_before) -/
def lw_At (p : Program) (s : State) (m : MethodId) (meth : Method) (c : Code) (b L : Nat) (xs : Nat → Int32) : Prop :=
  p.tables.exec = Jvm.exec ∧ c.code = code ∧ meth.sig.returnType = ret ∧ c.maxLocals = 4 ∧ s.vm.findClass R_law = some m.cls ∧ (∀ w ∈ lw_tbl, w.before #[Value.ref b] s = true) ∧ va_X b L xs s s.heap ∧ b < s.heap.size ∧ meth.locks = false ∧ (Jvm.Cond.and given_1 narrow_1).before #[Value.ref b] s = true
-- ===== rows for the law =====
section LWr
variable {p : Program} {l : Launch} {e : Env} {R : Room} {s : State} {m : MethodId} {args : Array Value} {below : List Frame} {meth : Method} {c : Code}
variable {cc : ByteArray} {own : String} {nL : Nat} {ret : Option FieldType} {D : va_G} {cy : Nat → ClassId} {A : Nat → Prop} {Bd : Nat} {xa : Xa} {Q : State → Prop} {cl sl : Nat}
variable {pc : Nat} {L : List (Nat × Value)} {rest : List Value} {ws : va_W} {α : Type} {o : α} {a b : Option α}
variable {y : MethodName} {cc2 : ByteArray} {maxL2 : Nat} {ret2 : Option FieldType} {fr2 lo2 n i : Nat} {As st : List Value} {q q0 : Nat} {ws2 w2 : va_W} {v2 : Option Value} {ro2 : Bool}
theorem cu_run (C : CC p s m args meth c cc own nL ret D cy A false Bd xa) (hM : KC l y cc2 maxL2 ret2 fr2 lo2 ro2 D cy Bd xa (.ref q :: As) ws2 v2 w2) (hV : OkV y cc2 maxL2 ret2 n) (hq : Cond.methodLink own i y ∈ wsG) {ci : Nat} {T : u_T} {N : Nat} {fs : List Value} (hc : classes[ci]? = some (y.cls, T, N)) (he : ws[q0]? = some (q, .inr (ci, fs))) (hsub : ∀ x ∈ ws2, x ∈ ws) (hn : As.length = n) (hst : As.reverse ++ .ref q :: rest = st) (hcat : (rest.map fun v => v.category).sum ≤ 8) (hR : fr2 + 1 ≤ R.frames ∧ 8 + (maxL2 + 11) + lo2 ≤ R.locals) (d : decode cc pc = .ok (.invokevirtual i, 3)) (hcs : cl ≤ R.cells ∧ sl ≤ R.slots) {H : Heap} {locs : List Loc} {ls : Array Slot} (hP : va_P D classes ws H) (hD : ro2 = false → va_D A ws2) (hS : va_S A s.heap H locs) (hl : lv_has ls nL L) :
    va_Run p l e R s m args below meth c H locs cl sl 0 0 (F0 m pc ls st) rest (Qz D (Aw ro2 ws2 H.size) ro2 v2 w2 (Value.ref q :: As).toArray) (Aw ro2 ws2 H.size) := by
  obtain ⟨h1, h2, h3, h4, h5⟩ := hV
  refine va_runV (Ts := wsG) (own := own) (C := y.cls) (n := n) (nL := nL) (cc := cc) ⟨C.1, C.2.1, C.2.2.1, C.2.2.2.1, C.2.2.2.2.1⟩ (hM H.size) ⟨cs_B C h4 h3 hq h5 hR, C.2.2.2.2.1 _ h1, C.2.2.2.2.1 _ h2⟩ ⟨Pz.blind, va_recv C.2.2.2.2.2.1 hP hc he, fun U hU hW => ⟨rfl, cs_pre C hP hD hS hsub U hU hW⟩⟩ rfl hn hl.1 hst.symm (lv_room hcat) d hcs
theorem cu_backR {aa : Array Value} {H : Heap} {locs : List Loc} {ls : Array Slot} (hr : va_Run p l e R s m args below meth c H locs cl sl 0 0 (F0 m pc ls st) rest (Qz D (Aw true ws2 H.size) true v2 w2 aa) (Aw true ws2 H.size)) (hP : va_P D classes ws H) (hD : va_D A ws) (hS : va_S A s.heap H locs) (hl : lv_has ls nL L) (k : UU p l e R s m args below meth c nL D A Q cl sl (pc + 3) L (v2.toList ++ rest) ws) :
    W p l e R s m args below meth c H locs cl sl Q (F0 m pc ls st) := by
  intro T hT X
  obtain ⟨v, st₀, t, T', L', h0, X', hL, e1, e2, ⟨ho, -, -, hz, hk⟩, st1⟩ := hr T hT X
  cases ho
  rw [h0] at hz hk
  have hk' : ∀ z : Nat, z < H.size → T'.heap[z]? = H[z]? := fun z h => by rw [e1]; exact hk z h (fun ha => by cases ha.1)
  have hL0 : L' = [] := by
    cases L' with
    | nil => rfl
    | cons x xs => exact absurd (hL x List.mem_cons_self).1 (by decide)
  subst hL0
  obtain ⟨t2, a1, b1⟩ := k T'.heap (locs ++ []) ls (hP.kept (fun k x hx => hk' _ (hP k x hx).lt)) hD ⟨Nat.le_trans hS.1 (by rw [e1]; exact hz), fun z h1 h2 => by rw [hk' z (Nat.lt_of_lt_of_le h1 hS.1)]; exact hS.2.1 z h1 h2, by rw [List.append_nil]; exact hS.2.2⟩ hl T' rfl X'
  exact ⟨t2, st1 t2 a1, b1⟩
theorem cu_backM {aa : Array Value} {H : Heap} {locs : List Loc} {ls : Array Slot} (C : CC p s m args meth c cc own nL ret D cy A false Bd xa) (hr : va_Run p l e R s m args below meth c H locs cl sl 0 0 (F0 m pc ls st) rest (Qz D (Aw false ws2 H.size) false v2 w2 aa) (Aw false ws2 H.size)) (hS : va_S A s.heap H locs) (hl : lv_has ls nL L) (hA2 : ∀ z, va_A ws2 H.size z → A z)
    {ws' : va_W} (hw : ∀ H1 : Heap, (∀ z : Nat, z < H.size → ¬ va_A ws2 H.size z → H1[z]? = H[z]?) → va_P D classes w2 H1 → va_D (va_A ws2 H.size) w2 → va_P D classes ws' H1 ∧ va_D A ws') (k : UU p l e R s m args below meth c nL D A Q cl sl (pc + 3) L (v2.toList ++ rest) ws') :
    W p l e R s m args below meth c H locs cl sl Q (F0 m pc ls st) := by
  intro T hT X
  obtain ⟨v, st₀, t, T', L', h0, X', hL, e1, e2, ⟨ho, hP2, hD2, hz, hk⟩, st1⟩ := hr T hT X
  cases ho
  rw [h0] at hz hk
  have hk' : ∀ z : Nat, z < H.size → ¬ va_A ws2 H.size z → T'.heap[z]? = H[z]? := fun z h hn => by rw [e1]; exact hk z h (fun ha => hn ha.2)
  obtain ⟨hP', hD'⟩ := hw T'.heap hk' (by rw [e1]; exact hP2) ((hD2 rfl).weaken (fun _ _ _ h => h.2))
  obtain ⟨t2, a1, b1⟩ := k T'.heap (locs ++ L') ls hP' hD' ⟨Nat.le_trans hS.1 (by rw [e1]; exact hz), fun z h1 h2 => by rw [hk' z (Nat.lt_of_lt_of_le h1 hS.1) (fun z9 => h2 (hA2 z z9))]; exact hS.2.1 z h1 h2, fun z hz => by
      rcases List.mem_append.mp hz with h | h
      · exact hS.2.2 z h
      · exact hA2 _ (hL z h).2⟩ hl T' rfl X'
  exact ⟨t2, st1 t2 a1, b1⟩
theorem uu_callR (C : CC p s m args meth c cc own nL ret D cy A false Bd xa) (hM : KC l y cc2 maxL2 ret2 fr2 lo2 true D cy Bd xa (.ref q :: As) ws2 v2 w2) (hV : OkV y cc2 maxL2 ret2 n) (hq : Cond.methodLink own i y ∈ wsG) {ci : Nat} {T : u_T} {N : Nat} {fs : List Value} (hc : classes[ci]? = some (y.cls, T, N)) (he : ws[q0]? = some (q, .inr (ci, fs))) (hsub : ∀ x ∈ ws2, x ∈ ws) (hn : As.length = n) (hst : As.reverse ++ .ref q :: rest = st) {st' : List Value} (hst2 : v2.toList ++ rest = st') (hcat : (rest.map fun v => v.category).sum ≤ 8) (hR : fr2 + 1 ≤ R.frames ∧ 8 + (maxL2 + 11) + lo2 ≤ R.locals) (hcs : cl ≤ R.cells ∧ sl ≤ R.slots) (d : decode cc pc = .ok (.invokevirtual i, 3)) (k : UU p l e R s m args below meth c nL D A Q cl sl (pc + 3) L st' ws) : UU p l e R s m args below meth c nL D A Q cl sl pc L st ws :=
  fun _ _ _ hP hD hS hl => cu_backR (cu_run C hM hV hq hc he hsub hn hst hcat hR d hcs hP (fun h => by cases h) hS hl) hP hD hS hl (hst2 ▸ k)
theorem uu_callG {y : MethodName} {cc2 : ByteArray} {maxL2 : Nat} {ret2 : Option FieldType} {fr2 lo2 n i : Nat} {As st : List Value} {q q0 : Nat} {seg w2 : va_W} {v2 : Option Value} (C : CC p s m args meth c cc own nL ret D cy A false Bd xa) (hM : KC l y cc2 maxL2 ret2 fr2 lo2 false D cy Bd xa (.ref q :: As) seg v2 w2) (hV : OkV y cc2 maxL2 ret2 n) (hq : Cond.methodLink own i y ∈ wsG) {ci : Nat} {T : u_T} {N : Nat} {fs : List Value} (hc : classes[ci]? = some (y.cls, T, N)) (he : ws[q0]? = some (q, .inr (ci, fs))) (pre post : va_W) (hws : ws = pre ++ (seg ++ post)) {ws' : va_W} (hws' : pre ++ (w2 ++ post) = ws') (hn : As.length = n) (hst : As.reverse ++ .ref q :: rest = st) {st' : List Value} (hst2 : v2.toList ++ rest = st') (hcat : (rest.map fun v => v.category).sum ≤ 8) (hR : fr2 + 1 ≤ R.frames ∧ 8 + (maxL2 + 11) + lo2 ≤ R.locals) (hcs : cl ≤ R.cells ∧ sl ≤ R.slots) (d : decode cc pc = .ok (.invokevirtual i, 3)) (k : UU p l e R s m args below meth c nL D A Q cl sl (pc + 3) L st' ws') : UU p l e R s m args below meth c nL D A Q cl sl pc L st ws := by
  intro H locs ls hP hD hS hl
  have hD0 := hD
  have hD1 := hD0
  rw [hws] at hD1
  obtain ⟨d1, d2, d3⟩ := hD1.split
  obtain ⟨d4, d5, d6⟩ := d2.split
  have hsub : ∀ x ∈ seg, x ∈ ws := fun x hx => by rw [hws]; exact List.mem_append_right _ (List.mem_append_left _ hx)
  have hA2 : ∀ z, va_A seg H.size z → A z := by
    intro z hz
    rcases hz with ⟨k, e, hk⟩ | hz
    · exact d4.2 k (z, e) hk
    · exact C.2.2.2.2.2.2.2.2.2.1 rfl z (Nat.le_trans hS.1 hz)
  have lt : ∀ x ∈ ws, x.1 < H.size := fun x hx => by
    obtain ⟨k, hk⟩ := List.getElem?_of_mem hx
    exact (hP k x hk).lt
  refine cu_backM C (cu_run C hM hV hq hc he hsub hn hst hcat hR d hcs hP (fun _ => d4) hS hl) hS hl hA2 (ws' := ws') (fun H1 hk hP1 hD1 => ?_) (hst2 ▸ k)
  have out1 : ∀ x ∈ pre, ¬ va_A seg H.size x.1 := by
    intro x hx hz
    rcases hz with ⟨k, e, hk⟩ | hz
    · exact d3 x hx (x.1, e) (List.mem_append_left _ (List.mem_of_getElem? hk)) rfl
    · have := lt x (by rw [hws]; exact List.mem_append_left _ hx); omega
  have out2 : ∀ x ∈ post, ¬ va_A seg H.size x.1 := by
    intro x hx hz
    rcases hz with ⟨k, e, hk⟩ | hz
    · exact d6 (x.1, e) (List.mem_of_getElem? hk) x hx rfl
    · have := lt x (by rw [hws]; exact List.mem_append_right _ (List.mem_append_right _ hx)); omega
  have inw : ∀ x ∈ w2, va_A seg H.size x.1 := fun x hx => by
    obtain ⟨k, hk⟩ := List.getElem?_of_mem hx
    exact hD1.2 k x hk
  have keep : ∀ (part : va_W), (∀ x ∈ part, x ∈ ws) → (∀ x ∈ part, ¬ va_A seg H.size x.1) → va_P D classes part H1 := by
    intro part h1 h2
    refine (hP.mem h1).kept (fun k x hx => ?_)
    have hm := List.mem_of_getElem? hx
    exact hk x.1 (lt x (h1 x hm)) (h2 x hm)
  rw [← hws']
  refine ⟨va_P.app (keep pre (fun x hx => by rw [hws]; exact List.mem_append_left _ hx) out1) (va_P.app hP1 (keep post (fun x hx => by rw [hws]; exact List.mem_append_right _ (List.mem_append_right _ hx)) out2)), ?_⟩
  refine va_D.join d1 (va_D.join (hD1.weaken (fun _ _ _ h => hA2 _ h)) d5 (fun x hx y hy e => out2 y hy (e ▸ inw x hx))) (fun x hx y hy e => ?_)
  rcases List.mem_append.mp hy with h | h
  · exact out1 x hx (e ▸ inw y h)
  · exact d3 x hx y (List.mem_append_right _ h) e
end LWr
section LWs
variable {p : Program} {l : Launch} {e : Env} {R : Room} {s : State} {m : MethodId} {args : Array Value} {below : List Frame} {meth : Method} {c : Code}
variable {cc : ByteArray} {own : String} {nL : Nat} {ret : Option FieldType} {D : va_G} {cy : Nat → ClassId} {A : Nat → Prop} {Bd : Nat} {xa : Xa} {Q : State → Prop} {cl sl : Nat}
variable {pc : Nat} {L : List (Nat × Value)} {rest : List Value} {ws : va_W}
theorem uu_sld (C : CC p s m args meth c cc own nL ret D cy A false Bd xa) {b Ln : Nat} {xs : Nat → Int32} (hX : va_X b Ln xs s s.heap) (hbl : b < s.heap.size) (hbA : ¬ A b) {i : Int32} (hin : ¬ oob i Ln) (d : decode cc pc = .ok (.iaload, 1)) (k : UU p l e R s m args below meth c nL D A Q cl sl (pc + 1) L (.int (xs (ix i)) :: rest) ws) : UU p l e R s m args below meth c nL D A Q cl sl pc L (.int i :: .ref b :: rest) ws :=
  fun H locs ls hP hD hS hl => va_sld C.1 C.2.1 hX hbl hbA hS (oob_in hin) d (k H locs ls hP hD hS hl)
theorem uu_slen (C : CC p s m args meth c cc own nL ret D cy A false Bd xa) {b Ln : Nat} {xs : Nat → Int32} (hX : va_X b Ln xs s s.heap) (hbl : b < s.heap.size) (hbA : ¬ A b) (d : decode cc pc = .ok (.arraylength, 1)) (k : UU p l e R s m args below meth c nL D A Q cl sl (pc + 1) L (.int (Int32.ofNat Ln) :: rest) ws) : UU p l e R s m args below meth c nL D A Q cl sl pc L (.ref b :: rest) ws :=
  fun H locs ls hP hD hS hl => va_slen C.1 C.2.1 hX hbl hbA hS d (k H locs ls hP hD hS hl)
end LWs
/-- the walk's goal in the law's body -/
abbrev LU (p : Program) (l : Launch) (e : Env) (s : State) (m : MethodId) (below : List Frame) (meth : Method) (c : Code) (D : va_G) (b pc i ax am : Nat) (st : List Value) (ws : va_W) : Prop := UU p l e room_1 s m #[Value.ref b] below meth c 4 D (fun q => s.heap.size ≤ q) (lw_Z below #[Value.ref b] s) 99 1607 pc [(3, .int (iI (i : Int))), (2, .ref am), (1, .ref ax), (0, .ref b)] st ws
section LWt
variable {p : Program} {l : Launch} {e : Env} {s : State} {m : MethodId} {below : List Frame} {meth : Method} {c : Code} {D : va_G} {cy : Nat → ClassId} {Bd : Nat} {xa : Xa} {b Ln : Nat} {xs : Nat → Int32}
variable {pc i ax am : Nat} {rest : List Value} {ws : va_W}
theorem lw_b (hbl : b < s.heap.size) : ¬ (fun q : Nat => s.heap.size ≤ q) b := Nat.not_le.mpr hbl
/-- a word of the script: aload_0, iload_3, iconst_j, iadd, iaload -/
theorem lu_arg (C : CC p s m #[Value.ref b] meth c code RL 4 ret D cy (fun q => s.heap.size ≤ q) false Bd xa) (hX : va_X b Ln xs s s.heap) (hbl : b < s.heap.size) (hL : Ln ≤ 2560) (hi : i + 5 ≤ Ln) {j : Nat} {n : Int} (hj : j ≤ 4) (hn : n = (j : Int)) (d1 : decode code pc = .ok (.aload_n 0, 1)) (d2 : decode code (pc + 1) = .ok (.iload_n 3, 1)) (d3 : decode code (pc + 1 + 1) = .ok (.iconst n, 1)) (d4 : decode code (pc + 1 + 1 + 1) = .ok (.iadd, 1)) (d5 : decode code (pc + 1 + 1 + 1 + 1) = .ok (.iaload, 1)) (k : LU p l e s m below meth c D b (pc + 1 + 1 + 1 + 1 + 1) i ax am (.int (xs (i + j)) :: rest) ws) : LU p l e s m below meth c D b pc i ax am rest ws := by
  refine uu_aload_n C d1 rfl (k := 3) rfl ?_
  refine uu_iload_n C d2 rfl (k := 0) rfl ?_
  refine uu_iconst C d3 (v := iI (j : Int)) (by rw [hn]; rfl) ?_
  refine uu_iadd C d4 ?_
  rw [iI_add, ← Int.natCast_add]
  refine uu_sld C hX hbl (lw_b hbl) (ob_nat (show i + j < Ln by omega) (by omega)) d5 ?_
  rw [ix_nat (by omega)]
  exact k
theorem lu_end (C : CC p s m #[Value.ref b] meth c code RL 4 ret D cy (fun q => s.heap.size ≤ q) false Bd xa) {L : List (Nat × Value)} (d : decode code pc = .ok (.ireturn, 1)) : UU p l e room_1 s m #[Value.ref b] below meth c 4 D (fun q => s.heap.size ≤ q) (lw_Z below #[Value.ref b] s) 99 1607 pc L [.int 1] ws := by
  intro H locs ls hP hD hS hl
  refine va_forget (fun q hq => hS.2.2 q hq) ?_
  refine W.widen (k := 600000) (n := 7302250) (Nat.le_of_ble_eq_true rfl) (Nat.le_of_ble_eq_true rfl) ?_
  exact lw_ret C.1 C.2.1 C.2.2.2.2.2.2.2.2.2.2.2 C.2.2.2.2.2.2.2.2.2.2.1 d
end LWt
