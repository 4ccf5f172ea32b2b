-- ===== more rows: statics, texts, copies; worlds in segments =====
theorem va_D_iff {A : Nat → Prop} {ws : va_W} : va_D A ws ↔ (ws.map Prod.fst).Nodup ∧ ∀ x ∈ ws, A x.1 := by
  constructor
  · intro h
    refine ⟨?_, fun x hx => ?_⟩
    · refine List.pairwise_iff_getElem.mpr (fun i j hi hj hij heq => ?_)
      rw [List.length_map] at hi hj
      rw [List.getElem_map, List.getElem_map] at heq
      have h1 := h.1 i j _ _ (List.getElem?_eq_getElem hi) (List.getElem?_eq_getElem hj) heq
      omega
    · obtain ⟨k, hk⟩ := List.getElem?_of_mem hx
      exact h.2 k x hk
  · intro h
    obtain ⟨h1, h2⟩ := h
    refine ⟨fun i j x y hi hj hxy => ?_, fun k x hk => h2 x (List.mem_of_getElem? hk)⟩
    have h1 := List.pairwise_iff_getElem.mp h1
    obtain ⟨li, ei⟩ := List.getElem?_eq_some_iff.mp hi
    obtain ⟨lj, ej⟩ := List.getElem?_eq_some_iff.mp hj
    rcases Nat.lt_trichotomy i j with q | q | q
    · exact absurd (by rw [List.getElem_map, List.getElem_map, ei, ej]; exact hxy) (h1 i j (by rw [List.length_map]; exact li) (by rw [List.length_map]; exact lj) q)
    · exact q
    · exact absurd (by rw [List.getElem_map, List.getElem_map, ei, ej]; exact hxy.symm) (h1 j i (by rw [List.length_map]; exact lj) (by rw [List.length_map]; exact li) q)
theorem va_D.perm {A : Nat → Prop} {ws ws2 : va_W} (hp : ws.Perm ws2) (h : va_D A ws) : va_D A ws2 := by
  rw [va_D_iff] at h ⊢
  exact ⟨(hp.map Prod.fst).nodup_iff.mp h.1, fun x hx => h.2 x (hp.mem_iff.mpr hx)⟩
theorem va_D.split {A : Nat → Prop} {a b : va_W} (h : va_D A (a ++ b)) : va_D A a ∧ va_D A b ∧ ∀ x ∈ a, ∀ y ∈ b, x.1 ≠ y.1 := by
  rw [va_D_iff] at h
  rw [va_D_iff, va_D_iff]
  obtain ⟨h1, h2⟩ := h
  rw [List.map_append, List.nodup_append] at h1
  exact ⟨⟨h1.1, fun x hx => h2 x (List.mem_append_left _ hx)⟩, ⟨h1.2.1, fun x hx => h2 x (List.mem_append_right _ hx)⟩, fun x hx y hy => h1.2.2 _ (List.mem_map_of_mem hx) _ (List.mem_map_of_mem hy)⟩
theorem va_D.join {A : Nat → Prop} {a b : va_W} (ha : va_D A a) (hb : va_D A b) (hx : ∀ x ∈ a, ∀ y ∈ b, x.1 ≠ y.1) : va_D A (a ++ b) :=
  va_D.app ha hb (fun _ _ _ _ h1 h2 => hx _ (List.mem_of_getElem? h1) _ (List.mem_of_getElem? h2))
abbrev cpb (n0 n1 : Nat) (sp dp n : Int32) : Prop := sp < 0 ∨ dp < 0 ∨ n < 0 ∨ n0 < ix sp + ix n ∨ n1 < ix dp + ix n
abbrev cpc (f : Nat → Int32) (sp n : Int32) : Prop := ¬ ∀ i, i < ix n → fits .char (.int (f (ix sp + i))) = true
section TT2
variable {p : Program} {l : Launch} {e : Env} {R : Room} {s : State} {m : MethodId} {args : Array Value} {below : List Frame} {meth : Method} {c : Code}
variable {cc : ByteArray} {own : String} {nL : Nat} {ret : Option FieldType} {D : va_G} {cy : Nat → ClassId} {A : Nat → Prop} {ro : Bool} {Bd : Nat} {xa : Xa} {v0 : Option Value} {w0 : va_W}
variable {pc : Nat} {L : List (Nat × Value)} {rest : List Value} {ws : va_W} {α : Type} {o : α} {a b : Option α}
theorem tt_perm {ws2 : va_W} (hp : ws.Perm ws2) {st : List Value} (k : TT p l e R s m args below meth c nL D A ro v0 w0 pc L st ws2) : TT p l e R s m args below meth c nL D A ro v0 w0 pc L st ws := fun H locs ls hP hD hS hl => k H locs ls (hP.mem (fun x hx => hp.mem_iff.mpr hx)) (fun h => (hD h).perm hp) hS hl
theorem tt_kind (C : CC p s m args meth c cc own nL ret D cy A ro Bd xa) {i : Nat} (hq : Cond.fieldLink own i "SignalsSighted$Train" "KIND_ABOVE" "[I" ∈ wsG) (d : decode cc pc = .ok (.getstatic i, 3)) (k : TT p l e R s m args below meth c nL D A ro v0 w0 (pc + 3) L (.ref xa.1 :: rest) ws) : TT p l e R s m args below meth c nL D A ro v0 w0 pc L rest ws :=
  fun H locs ls hP hD hS hl => va_gets C.1 C.2.1 (C.2.2.2.2.2.2.1.1.1.narrow C.2.2.2.2.2.2.2.1) hS C.2.2.2.1 (C.2.2.2.2.1 _ hq) (fun _ h => h) d (k H locs ls hP hD hS hl)
theorem tt_nums (C : CC p s m args meth c cc own nL ret D cy A ro Bd xa) {i : Nat} (hq : Cond.fieldLink own i "SignalsSighted$Letters" "NUMBERS_OF" "[I" ∈ wsG) (d : decode cc pc = .ok (.getstatic i, 3)) (k : TT p l e R s m args below meth c nL D A ro v0 w0 (pc + 3) L (.ref xa.2.1 :: rest) ws) : TT p l e R s m args below meth c nL D A ro v0 w0 pc L rest ws :=
  fun H locs ls hP hD hS hl => va_gets C.1 C.2.1 (C.2.2.2.2.2.2.1.1.2.2.1.narrow C.2.2.2.2.2.2.2.1) hS C.2.2.2.1 (C.2.2.2.2.1 _ hq) (fun _ h => h) d (k H locs ls hP hD hS hl)
theorem tt_kload (C : CC p s m args meth c cc own nL ret D cy A ro Bd xa) {i : Int32} (h : (if oob i 6 then none else b) = some o) (d : decode cc pc = .ok (.iaload, 1)) (k : b = some o → TT p l e R s m args below meth c nL D A ro v0 w0 (pc + 1) L (.int (kindAbove (ix i)) :: rest) ws) : TT p l e R s m args below meth c nL D A ro v0 w0 pc L (.int i :: .ref xa.1 :: rest) ws := by
  by_cases hc : oob i 6
  · rw [if_pos hc] at h; cases h
  · rw [if_neg hc] at h; exact fun H locs ls hP hD hS hl => va_ti C.1 C.2.1 (C.2.2.2.2.2.2.1.1.2.1.narrow C.2.2.2.2.2.2.2.1) hS (oob_in hc) rfl d (k h H locs ls hP hD hS hl)
theorem tt_nload (C : CC p s m args meth c cc own nL ret D cy A ro Bd xa) {i : Int32} (h : (if oob i 7 then none else b) = some o) (d : decode cc pc = .ok (.iaload, 1)) (k : b = some o → TT p l e R s m args below meth c nL D A ro v0 w0 (pc + 1) L (.int (numbersOfT (ix i)) :: rest) ws) : TT p l e R s m args below meth c nL D A ro v0 w0 pc L (.int i :: .ref xa.2.1 :: rest) ws := by
  by_cases hc : oob i 7
  · rw [if_pos hc] at h; cases h
  · rw [if_neg hc] at h; exact fun H locs ls hP hD hS hl => va_ti C.1 C.2.1 (C.2.2.2.2.2.2.1.1.2.2.2.1.narrow C.2.2.2.2.2.2.2.1) hS (oob_in hc) rfl d (k h H locs ls hP hD hS hl)
theorem tt_ldcE (C : CC p s m args meth c cc own nL ret D cy A ro Bd xa) (ho : own = RX0) {i j : Nat} (hj : j < 7) (hi : txIL.getD j 0 = i) (d : decode cc pc = .ok (.ldc i, 2)) (k : TT p l e R s m args below meth c nL D A ro v0 w0 (pc + 2) L (.ref (xa.2.2.1 j) :: rest) ws) : TT p l e R s m args below meth c nL D A ro v0 w0 pc L rest ws := by
  subst ho; subst hi
  exact fun H locs ls hP hD hS hl => va_ldcS C.1 C.2.1 C.2.2.2.1 (C.2.2.2.2.2.2.1.2 j hj).1 d (k H locs ls hP hD hS hl)
theorem tt_copyI (C : CC p s m args meth c cc own nL ret D cy A ro Bd xa) (hro : ro = false) {i : Nat} (hq : Cond.methodLink own i arraycopyName ∈ wsG) (h2 : Cond.native arraycopyName ∈ wsG) (h3 : Cond.static arraycopyName ∈ wsG) (h4 : Cond.initialized "java/lang/System" ∈ wsG) (q0 q1 : Nat) {z0 z1 n0 n1 : Nat} {f g : Nat → Int32} (ha0 : ws[q0]? = some (z0, .inl (cy 0, n0, .inl f))) (ha1 : ws[q1]? = some (z1, .inl (cy 0, n1, .inl g))) {sp dp n : Int32} (h : (if cpb n0 n1 sp dp n then none else b) = some o) (hfr : 1 ≤ R.frames) (hlo : (rest.map fun v => v.category).sum + 18 ≤ R.locals) (d : decode cc pc = .ok (.invokestatic i, 3)) {ws' : va_W} (hw : ws.set q1 (z1, .inl (cy 0, n1, .inl (va_cpy f g (ix sp) (ix dp) (ix n)))) = ws') (k : b = some o → TT p l e R s m args below meth c nL D A ro v0 w0 (pc + 3) L rest ws') : TT p l e R s m args below meth c nL D A ro v0 w0 pc L (.int n :: .int dp :: .ref z1 :: .int sp :: .ref z0 :: rest) ws := by
  by_cases hc : cpb n0 n1 sp dp n
  · rw [if_pos hc] at h; cases h
  · rw [if_neg hc] at h
    simp only [cpb, not_or] at hc
    obtain ⟨c1, c2, c3, c4, c5⟩ := hc
    exact fun H locs ls hP hD hS hl => va_copyi C.1 C.2.1 (C.2.2.1.trans hl.1.symm) C.2.2.2.1 (C.2.2.2.2.1 _ hq) (C.2.2.2.2.1 _ h2) (C.2.2.2.2.1 _ h3) (C.2.2.2.2.1 _ h4) C.2.2.2.2.2.1 hP (hD hro) hS q0 q1 0 0 ha0 ha1 rfl rfl rfl c1 c2 c3 (Nat.le_of_not_lt c4) (Nat.le_of_not_lt c5) (fun _ _ => rfl) hfr hlo d (fun H1 locs1 hP1 hD1 hS1 => k h H1 locs1 ls (hw ▸ hP1) (fun _ => hw ▸ hD1) hS1 hl)
theorem tt_copyC (C : CC p s m args meth c cc own nL ret D cy A ro Bd xa) (hro : ro = false) {i : Nat} (hq : Cond.methodLink own i arraycopyName ∈ wsG) (h2 : Cond.native arraycopyName ∈ wsG) (h3 : Cond.static arraycopyName ∈ wsG) (h4 : Cond.initialized "java/lang/System" ∈ wsG) (q0 q1 : Nat) {z0 z1 n0 n1 : Nat} {f g : Nat → Int32} (ha0 : ws[q0]? = some (z0, .inl (cy 2, n0, .inl f))) (ha1 : ws[q1]? = some (z1, .inl (cy 2, n1, .inl g))) {sp dp n : Int32} (h : (if cpb n0 n1 sp dp n ∨ cpc f sp n then none else b) = some o) (hfr : 1 ≤ R.frames) (hlo : (rest.map fun v => v.category).sum + 18 ≤ R.locals) (d : decode cc pc = .ok (.invokestatic i, 3)) {ws' : va_W} (hw : ws.set q1 (z1, .inl (cy 2, n1, .inl (va_cpy f g (ix sp) (ix dp) (ix n)))) = ws') (k : b = some o → TT p l e R s m args below meth c nL D A ro v0 w0 (pc + 3) L rest ws') : TT p l e R s m args below meth c nL D A ro v0 w0 pc L (.int n :: .int dp :: .ref z1 :: .int sp :: .ref z0 :: rest) ws := by
  by_cases hc : cpb n0 n1 sp dp n ∨ cpc f sp n
  · rw [if_pos hc] at h; cases h
  · rw [if_neg hc] at h
    simp only [cpb, cpc, not_or, Classical.not_not] at hc
    obtain ⟨⟨c1, c2, c3, c4, c5⟩, c6⟩ := hc
    exact fun H locs ls hP hD hS hl => va_copyi C.1 C.2.1 (C.2.2.1.trans hl.1.symm) C.2.2.2.1 (C.2.2.2.2.1 _ hq) (C.2.2.2.2.1 _ h2) (C.2.2.2.2.1 _ h3) (C.2.2.2.2.1 _ h4) C.2.2.2.2.2.1 hP (hD hro) hS q0 q1 2 2 ha0 ha1 rfl rfl rfl c1 c2 c3 (Nat.le_of_not_lt c4) (Nat.le_of_not_lt c5) c6 hfr hlo d (fun H1 locs1 hP1 hD1 hS1 => k h H1 locs1 ls (hw ▸ hP1) (fun _ => hw ▸ hD1) hS1 hl)
/-- a call over a segment of the world -/
theorem tt_callG {y : MethodName} {cc2 : ByteArray} {maxL2 : Nat} {ret2 : Option FieldType} {fr2 lo2 n i : Nat} {As st : List Value} {q q0 : Nat} {seg w2 : va_W} {v2 : Option Value} (C : CC p s m args meth c cc own nL ret D cy A ro Bd xa) (hro : ro = false) (hM : KC l y cc2 maxL2 ret2 fr2 lo2 false D cy Bd xa (.ref q :: As) seg v2 w2) (hV : OkV y cc2 maxL2 ret2 n) (hq : Cond.methodLink own i y ∈ wsG) {ci : Nat} {T : u_T} {N : Nat} {fs : List Value} (hc : classes[ci]? = some (y.cls, T, N)) (he : ws[q0]? = some (q, .inr (ci, fs))) (pre post : va_W) (hws : ws = pre ++ (seg ++ post)) {ws' : va_W} (hws' : pre ++ (w2 ++ post) = ws') (hn : As.length = n) (hst : As.reverse ++ .ref q :: rest = st) {st' : List Value} (hst2 : v2.toList ++ rest = st') (hcat : (rest.map fun v => v.category).sum ≤ 8) (hR : fr2 + 1 ≤ R.frames ∧ 8 + (maxL2 + 11) + lo2 ≤ R.locals) (d : decode cc pc = .ok (.invokevirtual i, 3)) (k : TT p l e R s m args below meth c nL D A ro v0 w0 (pc + 3) L st' ws') : TT p l e R s m args below meth c nL D A ro v0 w0 pc L st ws := by
  intro H locs ls hP hD hS hl
  have hD0 := hD hro
  have hD1 := hD0
  rw [hws] at hD1
  obtain ⟨d1, d2, d3⟩ := hD1.split
  obtain ⟨d4, d5, d6⟩ := d2.split
  have hsub : ∀ x ∈ seg, x ∈ ws := fun x hx => by rw [hws]; exact List.mem_append_right _ (List.mem_append_left _ hx)
  have hA2 : ∀ z, va_A seg H.size z → A z := by
    intro z hz
    rcases hz with ⟨k, e, hk⟩ | hz
    · exact d4.2 k (z, e) hk
    · exact C.2.2.2.2.2.2.2.2.2.1 hro z (Nat.le_trans hS.1 hz)
  have lt : ∀ x ∈ ws, x.1 < H.size := fun x hx => by
    obtain ⟨k, hk⟩ := List.getElem?_of_mem hx
    exact (hP k x hk).lt
  refine cs_backM C hro (cs_run C hM hV hq hc he hsub hn hst hcat hR d hP (fun _ => d4) hS hl) hS hl hA2 (ws' := ws') (fun H1 hk hP1 hD1 => ?_) (hst2 ▸ k)
  have out1 : ∀ x ∈ pre, ¬ va_A seg H.size x.1 := by
    intro x hx hz
    rcases hz with ⟨k, e, hk⟩ | hz
    · exact d3 x hx (x.1, e) (List.mem_append_left _ (List.mem_of_getElem? hk)) rfl
    · have := lt x (by rw [hws]; exact List.mem_append_left _ hx); omega
  have out2 : ∀ x ∈ post, ¬ va_A seg H.size x.1 := by
    intro x hx hz
    rcases hz with ⟨k, e, hk⟩ | hz
    · exact d6 (x.1, e) (List.mem_of_getElem? hk) x hx rfl
    · have := lt x (by rw [hws]; exact List.mem_append_right _ (List.mem_append_right _ hx)); omega
  have inw : ∀ x ∈ w2, va_A seg H.size x.1 := fun x hx => by
    obtain ⟨k, hk⟩ := List.getElem?_of_mem hx
    exact hD1.2 k x hk
  have keep : ∀ (part : va_W), (∀ x ∈ part, x ∈ ws) → (∀ x ∈ part, ¬ va_A seg H.size x.1) → va_P D classes part H1 := by
    intro part h1 h2
    refine (hP.mem h1).kept (fun k x hx => ?_)
    have hm := List.mem_of_getElem? hx
    exact hk x.1 (lt x (h1 x hm)) (h2 x hm)
  rw [← hws']
  refine ⟨va_P.app (keep pre (fun x hx => by rw [hws]; exact List.mem_append_left _ hx) out1) (va_P.app hP1 (keep post (fun x hx => by rw [hws]; exact List.mem_append_right _ (List.mem_append_right _ hx)) out2)), ?_⟩
  refine va_D.join d1 (va_D.join (hD1.weaken (fun _ _ _ h => hA2 _ h)) d5 (fun x hx y hy e => out2 y hy (e ▸ inw x hx))) (fun x hx y hy e => ?_)
  rcases List.mem_append.mp hy with h | h
  · exact out1 x hx (e ▸ inw y h)
  · exact d3 x hx y (List.mem_append_right _ h) e
end TT2
