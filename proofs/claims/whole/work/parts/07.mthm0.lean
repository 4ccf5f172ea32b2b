theorem dX7_cuts_0 : decode cX7_cuts 0 = .ok (.iconst 0, 1) := by decide +kernel
theorem dX7_cuts_1 : decode cX7_cuts 1 = .ok (.istore_n 1, 1) := by decide +kernel
theorem dX7_cuts_2 : decode cX7_cuts 2 = .ok (.iconst 0, 1) := by decide +kernel
theorem dX7_cuts_3 : decode cX7_cuts 3 = .ok (.istore_n 2, 1) := by decide +kernel
theorem dX7_cuts_4 : decode cX7_cuts 4 = .ok (.iload_n 2, 1) := by decide +kernel
theorem dX7_cuts_5 : decode cX7_cuts 5 = .ok (.aload_n 0, 1) := by decide +kernel
theorem dX7_cuts_6 : decode cX7_cuts 6 = .ok (.getfield 106, 3) := by decide +kernel
theorem dX7_cuts_9 : decode cX7_cuts 9 = .ok (.if_icmp .ge 61, 3) := by decide +kernel
theorem dX7_cuts_12 : decode cX7_cuts 12 = .ok (.aload_n 0, 1) := by decide +kernel
theorem dX7_cuts_13 : decode cX7_cuts 13 = .ok (.getfield 17, 3) := by decide +kernel
theorem dX7_cuts_16 : decode cX7_cuts 16 = .ok (.iload_n 2, 1) := by decide +kernel
theorem dX7_cuts_17 : decode cX7_cuts 17 = .ok (.iaload, 1) := by decide +kernel
theorem dX7_cuts_18 : decode cX7_cuts 18 = .ok (.aload_n 0, 1) := by decide +kernel
theorem dX7_cuts_19 : decode cX7_cuts 19 = .ok (.getfield 7, 3) := by decide +kernel
theorem dX7_cuts_22 : decode cX7_cuts 22 = .ok (.if_icmp .ge 42, 3) := by decide +kernel
theorem dX7_cuts_25 : decode cX7_cuts 25 = .ok (.aload_n 0, 1) := by decide +kernel
theorem dX7_cuts_26 : decode cX7_cuts 26 = .ok (.getfield 17, 3) := by decide +kernel
theorem dX7_cuts_29 : decode cX7_cuts 29 = .ok (.iload_n 1, 1) := by decide +kernel
theorem dX7_cuts_30 : decode cX7_cuts 30 = .ok (.aload_n 0, 1) := by decide +kernel
theorem dX7_cuts_31 : decode cX7_cuts 31 = .ok (.getfield 17, 3) := by decide +kernel
theorem dX7_cuts_34 : decode cX7_cuts 34 = .ok (.iload_n 2, 1) := by decide +kernel
theorem dX7_cuts_35 : decode cX7_cuts 35 = .ok (.iaload, 1) := by decide +kernel
theorem dX7_cuts_36 : decode cX7_cuts 36 = .ok (.iastore, 1) := by decide +kernel
theorem dX7_cuts_37 : decode cX7_cuts 37 = .ok (.aload_n 0, 1) := by decide +kernel
theorem dX7_cuts_38 : decode cX7_cuts 38 = .ok (.getfield 20, 3) := by decide +kernel
theorem dX7_cuts_41 : decode cX7_cuts 41 = .ok (.iload_n 1, 1) := by decide +kernel
theorem dX7_cuts_42 : decode cX7_cuts 42 = .ok (.aload_n 0, 1) := by decide +kernel
theorem dX7_cuts_43 : decode cX7_cuts 43 = .ok (.getfield 20, 3) := by decide +kernel
theorem dX7_cuts_46 : decode cX7_cuts 46 = .ok (.iload_n 2, 1) := by decide +kernel
theorem dX7_cuts_47 : decode cX7_cuts 47 = .ok (.iaload, 1) := by decide +kernel
theorem dX7_cuts_48 : decode cX7_cuts 48 = .ok (.iastore, 1) := by decide +kernel
theorem dX7_cuts_49 : decode cX7_cuts 49 = .ok (.aload_n 0, 1) := by decide +kernel
theorem dX7_cuts_50 : decode cX7_cuts 50 = .ok (.getfield 23, 3) := by decide +kernel
theorem dX7_cuts_53 : decode cX7_cuts 53 = .ok (.iload_n 1, 1) := by decide +kernel
theorem dX7_cuts_54 : decode cX7_cuts 54 = .ok (.aload_n 0, 1) := by decide +kernel
theorem dX7_cuts_55 : decode cX7_cuts 55 = .ok (.getfield 23, 3) := by decide +kernel
theorem dX7_cuts_58 : decode cX7_cuts 58 = .ok (.iload_n 2, 1) := by decide +kernel
theorem dX7_cuts_59 : decode cX7_cuts 59 = .ok (.iaload, 1) := by decide +kernel
theorem dX7_cuts_60 : decode cX7_cuts 60 = .ok (.iastore, 1) := by decide +kernel
theorem dX7_cuts_61 : decode cX7_cuts 61 = .ok (.iinc 1 1, 3) := by decide +kernel
theorem dX7_cuts_64 : decode cX7_cuts 64 = .ok (.iinc 2 1, 3) := by decide +kernel
theorem dX7_cuts_67 : decode cX7_cuts 67 = .ok (.goto (-63), 3) := by decide +kernel
theorem dX7_cuts_70 : decode cX7_cuts 70 = .ok (.aload_n 0, 1) := by decide +kernel
theorem dX7_cuts_71 : decode cX7_cuts 71 = .ok (.iload_n 1, 1) := by decide +kernel
theorem dX7_cuts_72 : decode cX7_cuts 72 = .ok (.putfield 106, 3) := by decide +kernel
theorem dX7_cuts_75 : decode cX7_cuts 75 = .ok (.iconst 0, 1) := by decide +kernel
theorem dX7_cuts_76 : decode cX7_cuts 76 = .ok (.istore_n 1, 1) := by decide +kernel
theorem dX7_cuts_77 : decode cX7_cuts 77 = .ok (.iconst 0, 1) := by decide +kernel
theorem dX7_cuts_78 : decode cX7_cuts 78 = .ok (.istore_n 2, 1) := by decide +kernel
theorem dX7_cuts_79 : decode cX7_cuts 79 = .ok (.iload_n 2, 1) := by decide +kernel
theorem dX7_cuts_80 : decode cX7_cuts 80 = .ok (.aload_n 0, 1) := by decide +kernel
theorem dX7_cuts_81 : decode cX7_cuts 81 = .ok (.getfield 109, 3) := by decide +kernel
theorem dX7_cuts_84 : decode cX7_cuts 84 = .ok (.if_icmp .ge 49, 3) := by decide +kernel
theorem dX7_cuts_87 : decode cX7_cuts 87 = .ok (.aload_n 0, 1) := by decide +kernel
theorem dX7_cuts_88 : decode cX7_cuts 88 = .ok (.getfield 26, 3) := by decide +kernel
theorem dX7_cuts_91 : decode cX7_cuts 91 = .ok (.iload_n 2, 1) := by decide +kernel
theorem dX7_cuts_92 : decode cX7_cuts 92 = .ok (.iaload, 1) := by decide +kernel
theorem dX7_cuts_93 : decode cX7_cuts 93 = .ok (.aload_n 0, 1) := by decide +kernel
theorem dX7_cuts_94 : decode cX7_cuts 94 = .ok (.getfield 7, 3) := by decide +kernel
theorem dX7_cuts_97 : decode cX7_cuts 97 = .ok (.if_icmp .ge 30, 3) := by decide +kernel
theorem dX7_cuts_100 : decode cX7_cuts 100 = .ok (.aload_n 0, 1) := by decide +kernel
theorem dX7_cuts_101 : decode cX7_cuts 101 = .ok (.getfield 26, 3) := by decide +kernel
theorem dX7_cuts_104 : decode cX7_cuts 104 = .ok (.iload_n 1, 1) := by decide +kernel
theorem dX7_cuts_105 : decode cX7_cuts 105 = .ok (.aload_n 0, 1) := by decide +kernel
theorem dX7_cuts_106 : decode cX7_cuts 106 = .ok (.getfield 26, 3) := by decide +kernel
theorem dX7_cuts_109 : decode cX7_cuts 109 = .ok (.iload_n 2, 1) := by decide +kernel
theorem dX7_cuts_110 : decode cX7_cuts 110 = .ok (.iaload, 1) := by decide +kernel
theorem dX7_cuts_111 : decode cX7_cuts 111 = .ok (.iastore, 1) := by decide +kernel
theorem dX7_cuts_112 : decode cX7_cuts 112 = .ok (.aload_n 0, 1) := by decide +kernel
theorem dX7_cuts_113 : decode cX7_cuts 113 = .ok (.getfield 29, 3) := by decide +kernel
theorem dX7_cuts_116 : decode cX7_cuts 116 = .ok (.iload_n 1, 1) := by decide +kernel
theorem dX7_cuts_117 : decode cX7_cuts 117 = .ok (.aload_n 0, 1) := by decide +kernel
theorem dX7_cuts_118 : decode cX7_cuts 118 = .ok (.getfield 29, 3) := by decide +kernel
theorem dX7_cuts_121 : decode cX7_cuts 121 = .ok (.iload_n 2, 1) := by decide +kernel
theorem dX7_cuts_122 : decode cX7_cuts 122 = .ok (.iaload, 1) := by decide +kernel
theorem dX7_cuts_123 : decode cX7_cuts 123 = .ok (.iastore, 1) := by decide +kernel
theorem dX7_cuts_124 : decode cX7_cuts 124 = .ok (.iinc 1 1, 3) := by decide +kernel
theorem dX7_cuts_127 : decode cX7_cuts 127 = .ok (.iinc 2 1, 3) := by decide +kernel
theorem dX7_cuts_130 : decode cX7_cuts 130 = .ok (.goto (-51), 3) := by decide +kernel
theorem dX7_cuts_133 : decode cX7_cuts 133 = .ok (.aload_n 0, 1) := by decide +kernel
theorem dX7_cuts_134 : decode cX7_cuts 134 = .ok (.iload_n 1, 1) := by decide +kernel
theorem dX7_cuts_135 : decode cX7_cuts 135 = .ok (.putfield 109, 3) := by decide +kernel
theorem dX7_cuts_138 : decode cX7_cuts 138 = .ok (.iconst 0, 1) := by decide +kernel
theorem dX7_cuts_139 : decode cX7_cuts 139 = .ok (.istore_n 1, 1) := by decide +kernel
theorem dX7_cuts_140 : decode cX7_cuts 140 = .ok (.iconst 0, 1) := by decide +kernel
theorem dX7_cuts_141 : decode cX7_cuts 141 = .ok (.istore_n 2, 1) := by decide +kernel
theorem dX7_cuts_142 : decode cX7_cuts 142 = .ok (.iload_n 2, 1) := by decide +kernel
theorem dX7_cuts_143 : decode cX7_cuts 143 = .ok (.aload_n 0, 1) := by decide +kernel
theorem dX7_cuts_144 : decode cX7_cuts 144 = .ok (.getfield 115, 3) := by decide +kernel
theorem dX7_cuts_147 : decode cX7_cuts 147 = .ok (.if_icmp .ge 85, 3) := by decide +kernel
theorem dX7_cuts_150 : decode cX7_cuts 150 = .ok (.aload_n 0, 1) := by decide +kernel
theorem dX7_cuts_151 : decode cX7_cuts 151 = .ok (.getfield 53, 3) := by decide +kernel
theorem dX7_cuts_154 : decode cX7_cuts 154 = .ok (.iload_n 2, 1) := by decide +kernel
theorem dX7_cuts_155 : decode cX7_cuts 155 = .ok (.iaload, 1) := by decide +kernel
theorem dX7_cuts_156 : decode cX7_cuts 156 = .ok (.aload_n 0, 1) := by decide +kernel
theorem dX7_cuts_157 : decode cX7_cuts 157 = .ok (.getfield 7, 3) := by decide +kernel
theorem dX7_cuts_160 : decode cX7_cuts 160 = .ok (.if_icmp .ge 66, 3) := by decide +kernel
theorem dX7_cuts_163 : decode cX7_cuts 163 = .ok (.iconst 0, 1) := by decide +kernel
theorem dX7_cuts_164 : decode cX7_cuts 164 = .ok (.istore_n 3, 1) := by decide +kernel
theorem dX7_cuts_165 : decode cX7_cuts 165 = .ok (.iload_n 3, 1) := by decide +kernel
theorem dX7_cuts_166 : decode cX7_cuts 166 = .ok (.bipush 7, 2) := by decide +kernel
theorem dX7_cuts_168 : decode cX7_cuts 168 = .ok (.if_icmp .ge 31, 3) := by decide +kernel
theorem dX7_cuts_171 : decode cX7_cuts 171 = .ok (.aload_n 0, 1) := by decide +kernel
theorem dX7_cuts_172 : decode cX7_cuts 172 = .ok (.getfield 47, 3) := by decide +kernel
theorem dX7_cuts_175 : decode cX7_cuts 175 = .ok (.bipush 7, 2) := by decide +kernel
theorem dX7_cuts_177 : decode cX7_cuts 177 = .ok (.iload_n 1, 1) := by decide +kernel
theorem dX7_cuts_178 : decode cX7_cuts 178 = .ok (.imul, 1) := by decide +kernel
theorem dX7_cuts_179 : decode cX7_cuts 179 = .ok (.iload_n 3, 1) := by decide +kernel
theorem dX7_cuts_180 : decode cX7_cuts 180 = .ok (.iadd, 1) := by decide +kernel
theorem dX7_cuts_181 : decode cX7_cuts 181 = .ok (.aload_n 0, 1) := by decide +kernel
theorem dX7_cuts_182 : decode cX7_cuts 182 = .ok (.getfield 47, 3) := by decide +kernel
theorem dX7_cuts_185 : decode cX7_cuts 185 = .ok (.bipush 7, 2) := by decide +kernel
theorem dX7_cuts_187 : decode cX7_cuts 187 = .ok (.iload_n 2, 1) := by decide +kernel
theorem dX7_cuts_188 : decode cX7_cuts 188 = .ok (.imul, 1) := by decide +kernel
theorem dX7_cuts_189 : decode cX7_cuts 189 = .ok (.iload_n 3, 1) := by decide +kernel
theorem dX7_cuts_190 : decode cX7_cuts 190 = .ok (.iadd, 1) := by decide +kernel
theorem dX7_cuts_191 : decode cX7_cuts 191 = .ok (.iaload, 1) := by decide +kernel
theorem dX7_cuts_192 : decode cX7_cuts 192 = .ok (.iastore, 1) := by decide +kernel
theorem dX7_cuts_193 : decode cX7_cuts 193 = .ok (.iinc 3 1, 3) := by decide +kernel
theorem dX7_cuts_196 : decode cX7_cuts 196 = .ok (.goto (-31), 3) := by decide +kernel
theorem dX7_cuts_199 : decode cX7_cuts 199 = .ok (.aload_n 0, 1) := by decide +kernel
theorem dX7_cuts_200 : decode cX7_cuts 200 = .ok (.getfield 50, 3) := by decide +kernel
theorem dX7_cuts_203 : decode cX7_cuts 203 = .ok (.iload_n 1, 1) := by decide +kernel
theorem dX7_cuts_204 : decode cX7_cuts 204 = .ok (.aload_n 0, 1) := by decide +kernel
theorem dX7_cuts_205 : decode cX7_cuts 205 = .ok (.getfield 50, 3) := by decide +kernel
theorem dX7_cuts_208 : decode cX7_cuts 208 = .ok (.iload_n 2, 1) := by decide +kernel
theorem dX7_cuts_209 : decode cX7_cuts 209 = .ok (.iaload, 1) := by decide +kernel
theorem dX7_cuts_210 : decode cX7_cuts 210 = .ok (.iastore, 1) := by decide +kernel
theorem dX7_cuts_211 : decode cX7_cuts 211 = .ok (.aload_n 0, 1) := by decide +kernel
theorem dX7_cuts_212 : decode cX7_cuts 212 = .ok (.getfield 53, 3) := by decide +kernel
theorem dX7_cuts_215 : decode cX7_cuts 215 = .ok (.iload_n 1, 1) := by decide +kernel
theorem dX7_cuts_216 : decode cX7_cuts 216 = .ok (.aload_n 0, 1) := by decide +kernel
theorem dX7_cuts_217 : decode cX7_cuts 217 = .ok (.getfield 53, 3) := by decide +kernel
theorem dX7_cuts_220 : decode cX7_cuts 220 = .ok (.iload_n 2, 1) := by decide +kernel
theorem dX7_cuts_221 : decode cX7_cuts 221 = .ok (.iaload, 1) := by decide +kernel
theorem dX7_cuts_222 : decode cX7_cuts 222 = .ok (.iastore, 1) := by decide +kernel
theorem dX7_cuts_223 : decode cX7_cuts 223 = .ok (.iinc 1 1, 3) := by decide +kernel
theorem dX7_cuts_226 : decode cX7_cuts 226 = .ok (.iinc 2 1, 3) := by decide +kernel
theorem dX7_cuts_229 : decode cX7_cuts 229 = .ok (.goto (-87), 3) := by decide +kernel
theorem dX7_cuts_232 : decode cX7_cuts 232 = .ok (.aload_n 0, 1) := by decide +kernel
theorem dX7_cuts_233 : decode cX7_cuts 233 = .ok (.iload_n 1, 1) := by decide +kernel
theorem dX7_cuts_234 : decode cX7_cuts 234 = .ok (.putfield 115, 3) := by decide +kernel
theorem dX7_cuts_237 : decode cX7_cuts 237 = .ok (.return_, 1) := by decide +kernel
set_option maxHeartbeats 4000000 in
set_option maxRecDepth 100000 in
theorem l_X7_cuts_4 {p : Program} {l : Launch} {e : Env} {s : State} {m : MethodId} {args : Array Value} {below : List Frame} {meth : Method} {c : Code} {D : va_G} {cy : Nat → ClassId} {A : Nat → Prop} {Bd : Nat} {xa : Xa} {ad : Nat → Nat} {β : Type} {vO : Option Value} {wO : va_W} {N : Nat} {sc : Nat → Int32} {la : Nat → Nat → Int64} {kx : Int32 → (Nat → Nat → Int32) → Option (β)} {out : β} (C : CC p s m args meth c cX7_cuts RX7 4 none D cy A false Bd xa) (hk : ∀ (x1 : Int32) (ar1 : Nat → Nat → Int32), kx x1 ar1 = some out → TT p l e { frames := 0, cells := 0, slots := 0, locals := 0 } s m args below meth c 4 D A false vO wO 70 [(0, .ref (ad 0)), (1, .int x1)] [] (mC cy ad sc ar1 la)) {n : Nat} {v1 : Int32} {v2 : Int32} {ar : Nat → Nat → Int32} (hf : f_X7_cuts_L4 N sc kx n v1 v2 ar = some out) : TT p l e { frames := 0, cells := 0, slots := 0, locals := 0 } s m args below meth c 4 D A false vO wO 4 [(0, .ref (ad 0)), (1, .int v1), (2, .int v2)] [] (mC cy ad sc ar la) := by
  induction n generalizing v1 v2 ar with
  | zero => cases hf
  | succ n ih =>
    rw [f_X7_cuts_L4] at hf
    refine tt_iload_n (pc := 4) (k := 2) C dX7_cuts_4 rfl rfl ?_
    refine tt_aload_n (pc := 5) (k := 0) C dX7_cuts_5 rfl rfl ?_
    refine tt_get (pc := 6) (ws := (mC cy ad sc ar la)) (ci := 7) (v := .int (sc 2)) C fiX7 rfl 0 mC_obj 2 (by decide) q4_162 rfl dX7_cuts_6 ?_
    refine tt_icmp_ge (pc := 9) (tgt := 70) C dX7_cuts_9 (by decide) hf (fun hf => ?_) (fun hf => ?_)
    · exact tt_locs [0, 1] rfl (hk _ _ hf)
    · refine tt_aload_n (pc := 12) (k := 0) C dX7_cuts_12 rfl rfl ?_
      refine tt_get (pc := 13) (ws := (mC cy ad sc ar la)) (ci := 7) (v := .ref (ad 3)) C fiX7 rfl 0 mC_obj 3 (by decide) q4_163 rfl dX7_cuts_13 ?_
      refine tt_iload_n (pc := 16) (k := 2) C dX7_cuts_16 rfl rfl ?_
      refine tt_iaload (pc := 17) (ws := (mC cy ad sc ar la)) (n := 4) (f := (ar 3)) C 2 0 mC_get3 rfl hf dX7_cuts_17 (fun hf => ?_)
      refine tt_aload_n (pc := 18) (k := 0) C dX7_cuts_18 rfl rfl ?_
      refine tt_get (pc := 19) (ws := (mC cy ad sc ar la)) (ci := 7) (v := .int (sc 0)) C fiX7 rfl 0 mC_obj 0 (by decide) q4_160 rfl dX7_cuts_19 ?_
      obtain ⟨j1, hj1, hf⟩ := bind_some hf
      have k2 : TT p l e { frames := 0, cells := 0, slots := 0, locals := 0 } s m args below meth c 4 D A false vO wO 64 [(0, .ref (ad 0)), (1, .int j1.1), (2, .int v2)] [] (mC cy ad sc j1.2 la) := by
        refine tt_iinc (pc := 64) (k := 2) (v := (v2 + 1)) (L' := [(2, .int (v2 + 1)), (0, .ref (ad 0)), (1, .int j1.1)]) C dX7_cuts_64 rfl rfl (by decide) rfl ?_
        refine tt_goto (pc := 67) (tgt := 4) C dX7_cuts_67 (by decide) ?_
        exact tt_locs [1, 2, 0] rfl (ih hf)
      refine tt_icmp_ge (pc := 22) (tgt := 64) C dX7_cuts_22 (by decide) hj1 (fun hj1 => ?_) (fun hj1 => ?_)
      · obtain rfl := Option.some.inj hj1
        exact tt_locs [0, 1, 2] rfl k2
      · refine tt_aload_n (pc := 25) (k := 0) C dX7_cuts_25 rfl rfl ?_
        refine tt_get (pc := 26) (ws := (mC cy ad sc ar la)) (ci := 7) (v := .ref (ad 3)) C fiX7 rfl 0 mC_obj 3 (by decide) q4_163 rfl dX7_cuts_26 ?_
        refine tt_iload_n (pc := 29) (k := 1) C dX7_cuts_29 rfl rfl ?_
        refine tt_aload_n (pc := 30) (k := 0) C dX7_cuts_30 rfl rfl ?_
        refine tt_get (pc := 31) (ws := (mC cy ad sc ar la)) (ci := 7) (v := .ref (ad 3)) C fiX7 rfl 0 mC_obj 3 (by decide) q4_163 rfl dX7_cuts_31 ?_
        refine tt_iload_n (pc := 34) (k := 2) C dX7_cuts_34 rfl rfl ?_
        refine tt_iaload (pc := 35) (ws := (mC cy ad sc ar la)) (n := 4) (f := (ar 3)) C 2 0 mC_get3 rfl hj1 dX7_cuts_35 (fun hj1 => ?_)
        refine tt_iastore (pc := 36) (ws := (mC cy ad sc ar la)) (n := 4) (f := (ar 3)) (ws' := (mC cy ad sc (va_up ar 3 (upd (ar 3) (ix v1) ((ar 3) (ix v2)))) la)) C rfl 2 0 mC_get3 rfl hj1 dX7_cuts_36 mC_set3 (fun hj1 => ?_)
        refine tt_aload_n (pc := 37) (k := 0) C dX7_cuts_37 rfl rfl ?_
        refine tt_get (pc := 38) (ws := (mC cy ad sc (va_up ar 3 (upd (ar 3) (ix v1) ((ar 3) (ix v2)))) la)) (ci := 7) (v := .ref (ad 4)) C fiX7 rfl 0 mC_obj 4 (by decide) q4_164 rfl dX7_cuts_38 ?_
        refine tt_iload_n (pc := 41) (k := 1) C dX7_cuts_41 rfl rfl ?_
        refine tt_aload_n (pc := 42) (k := 0) C dX7_cuts_42 rfl rfl ?_
        refine tt_get (pc := 43) (ws := (mC cy ad sc (va_up ar 3 (upd (ar 3) (ix v1) ((ar 3) (ix v2)))) la)) (ci := 7) (v := .ref (ad 4)) C fiX7 rfl 0 mC_obj 4 (by decide) q4_164 rfl dX7_cuts_43 ?_
        refine tt_iload_n (pc := 46) (k := 2) C dX7_cuts_46 rfl rfl ?_
        refine tt_iaload (pc := 47) (ws := (mC cy ad sc (va_up ar 3 (upd (ar 3) (ix v1) ((ar 3) (ix v2)))) la)) (n := 4) (f := (ar 4)) C 3 0 mC_get4 rfl hj1 dX7_cuts_47 (fun hj1 => ?_)
        refine tt_iastore (pc := 48) (ws := (mC cy ad sc (va_up ar 3 (upd (ar 3) (ix v1) ((ar 3) (ix v2)))) la)) (n := 4) (f := (ar 4)) (ws' := (mC cy ad sc (va_up (va_up ar 3 (upd (ar 3) (ix v1) ((ar 3) (ix v2)))) 4 (upd (ar 4) (ix v1) ((ar 4) (ix v2)))) la)) C rfl 3 0 mC_get4 rfl hj1 dX7_cuts_48 mC_set4 (fun hj1 => ?_)
        refine tt_aload_n (pc := 49) (k := 0) C dX7_cuts_49 rfl rfl ?_
        refine tt_get (pc := 50) (ws := (mC cy ad sc (va_up (va_up ar 3 (upd (ar 3) (ix v1) ((ar 3) (ix v2)))) 4 (upd (ar 4) (ix v1) ((ar 4) (ix v2)))) la)) (ci := 7) (v := .ref (ad 5)) C fiX7 rfl 0 mC_obj 5 (by decide) q4_165 rfl dX7_cuts_50 ?_
        refine tt_iload_n (pc := 53) (k := 1) C dX7_cuts_53 rfl rfl ?_
        refine tt_aload_n (pc := 54) (k := 0) C dX7_cuts_54 rfl rfl ?_
        refine tt_get (pc := 55) (ws := (mC cy ad sc (va_up (va_up ar 3 (upd (ar 3) (ix v1) ((ar 3) (ix v2)))) 4 (upd (ar 4) (ix v1) ((ar 4) (ix v2)))) la)) (ci := 7) (v := .ref (ad 5)) C fiX7 rfl 0 mC_obj 5 (by decide) q4_165 rfl dX7_cuts_55 ?_
        refine tt_iload_n (pc := 58) (k := 2) C dX7_cuts_58 rfl rfl ?_
        refine tt_iaload (pc := 59) (ws := (mC cy ad sc (va_up (va_up ar 3 (upd (ar 3) (ix v1) ((ar 3) (ix v2)))) 4 (upd (ar 4) (ix v1) ((ar 4) (ix v2)))) la)) (n := 4) (f := (ar 5)) C 4 0 mC_get5 rfl hj1 dX7_cuts_59 (fun hj1 => ?_)
        refine tt_iastore (pc := 60) (ws := (mC cy ad sc (va_up (va_up ar 3 (upd (ar 3) (ix v1) ((ar 3) (ix v2)))) 4 (upd (ar 4) (ix v1) ((ar 4) (ix v2)))) la)) (n := 4) (f := (ar 5)) (ws' := (mC cy ad sc (va_up (va_up (va_up ar 3 (upd (ar 3) (ix v1) ((ar 3) (ix v2)))) 4 (upd (ar 4) (ix v1) ((ar 4) (ix v2)))) 5 (upd (ar 5) (ix v1) ((ar 5) (ix v2)))) la)) C rfl 4 0 mC_get5 rfl hj1 dX7_cuts_60 mC_set5 (fun hj1 => ?_)
        refine tt_iinc (pc := 61) (k := 1) (v := (v1 + 1)) (L' := [(1, .int (v1 + 1)), (0, .ref (ad 0)), (2, .int v2)]) C dX7_cuts_61 rfl rfl (by decide) rfl ?_
        obtain rfl := Option.some.inj hj1
        exact tt_locs [1, 0, 2] rfl k2
set_option maxHeartbeats 4000000 in
set_option maxRecDepth 100000 in
theorem l_X7_cuts_79 {p : Program} {l : Launch} {e : Env} {s : State} {m : MethodId} {args : Array Value} {below : List Frame} {meth : Method} {c : Code} {D : va_G} {cy : Nat → ClassId} {A : Nat → Prop} {Bd : Nat} {xa : Xa} {ad : Nat → Nat} {β : Type} {vO : Option Value} {wO : va_W} {N : Nat} {sc : Nat → Int32} {la : Nat → Nat → Int64} {kx : Int32 → (Nat → Nat → Int32) → Option (β)} {out : β} (C : CC p s m args meth c cX7_cuts RX7 4 none D cy A false Bd xa) (hk : ∀ (x1 : Int32) (ar1 : Nat → Nat → Int32), kx x1 ar1 = some out → TT p l e { frames := 0, cells := 0, slots := 0, locals := 0 } s m args below meth c 4 D A false vO wO 133 [(0, .ref (ad 0)), (1, .int x1)] [] (mC cy ad sc ar1 la)) {n : Nat} {v1 : Int32} {v2 : Int32} {ar : Nat → Nat → Int32} (hf : f_X7_cuts_L79 N sc kx n v1 v2 ar = some out) : TT p l e { frames := 0, cells := 0, slots := 0, locals := 0 } s m args below meth c 4 D A false vO wO 79 [(0, .ref (ad 0)), (1, .int v1), (2, .int v2)] [] (mC cy ad sc ar la) := by
  induction n generalizing v1 v2 ar with
  | zero => cases hf
  | succ n ih =>
    rw [f_X7_cuts_L79] at hf
    refine tt_iload_n (pc := 79) (k := 2) C dX7_cuts_79 rfl rfl ?_
    refine tt_aload_n (pc := 80) (k := 0) C dX7_cuts_80 rfl rfl ?_
    refine tt_get (pc := 81) (ws := (mC cy ad sc ar la)) (ci := 7) (v := .int (sc 6)) C fiX7 rfl 0 mC_obj 6 (by decide) q4_166 rfl dX7_cuts_81 ?_
    refine tt_icmp_ge (pc := 84) (tgt := 133) C dX7_cuts_84 (by decide) hf (fun hf => ?_) (fun hf => ?_)
    · exact tt_locs [0, 1] rfl (hk _ _ hf)
    · refine tt_aload_n (pc := 87) (k := 0) C dX7_cuts_87 rfl rfl ?_
      refine tt_get (pc := 88) (ws := (mC cy ad sc ar la)) (ci := 7) (v := .ref (ad 7)) C fiX7 rfl 0 mC_obj 7 (by decide) q4_167 rfl dX7_cuts_88 ?_
      refine tt_iload_n (pc := 91) (k := 2) C dX7_cuts_91 rfl rfl ?_
      refine tt_iaload (pc := 92) (ws := (mC cy ad sc ar la)) (n := 5) (f := (ar 7)) C 5 0 mC_get7 rfl hf dX7_cuts_92 (fun hf => ?_)
      refine tt_aload_n (pc := 93) (k := 0) C dX7_cuts_93 rfl rfl ?_
      refine tt_get (pc := 94) (ws := (mC cy ad sc ar la)) (ci := 7) (v := .int (sc 0)) C fiX7 rfl 0 mC_obj 0 (by decide) q4_160 rfl dX7_cuts_94 ?_
      obtain ⟨j4, hj4, hf⟩ := bind_some hf
      have k5 : TT p l e { frames := 0, cells := 0, slots := 0, locals := 0 } s m args below meth c 4 D A false vO wO 127 [(0, .ref (ad 0)), (1, .int j4.1), (2, .int v2)] [] (mC cy ad sc j4.2 la) := by
        refine tt_iinc (pc := 127) (k := 2) (v := (v2 + 1)) (L' := [(2, .int (v2 + 1)), (0, .ref (ad 0)), (1, .int j4.1)]) C dX7_cuts_127 rfl rfl (by decide) rfl ?_
        refine tt_goto (pc := 130) (tgt := 79) C dX7_cuts_130 (by decide) ?_
        exact tt_locs [1, 2, 0] rfl (ih hf)
      refine tt_icmp_ge (pc := 97) (tgt := 127) C dX7_cuts_97 (by decide) hj4 (fun hj4 => ?_) (fun hj4 => ?_)
      · obtain rfl := Option.some.inj hj4
        exact tt_locs [0, 1, 2] rfl k5
      · refine tt_aload_n (pc := 100) (k := 0) C dX7_cuts_100 rfl rfl ?_
        refine tt_get (pc := 101) (ws := (mC cy ad sc ar la)) (ci := 7) (v := .ref (ad 7)) C fiX7 rfl 0 mC_obj 7 (by decide) q4_167 rfl dX7_cuts_101 ?_
        refine tt_iload_n (pc := 104) (k := 1) C dX7_cuts_104 rfl rfl ?_
        refine tt_aload_n (pc := 105) (k := 0) C dX7_cuts_105 rfl rfl ?_
        refine tt_get (pc := 106) (ws := (mC cy ad sc ar la)) (ci := 7) (v := .ref (ad 7)) C fiX7 rfl 0 mC_obj 7 (by decide) q4_167 rfl dX7_cuts_106 ?_
        refine tt_iload_n (pc := 109) (k := 2) C dX7_cuts_109 rfl rfl ?_
        refine tt_iaload (pc := 110) (ws := (mC cy ad sc ar la)) (n := 5) (f := (ar 7)) C 5 0 mC_get7 rfl hj4 dX7_cuts_110 (fun hj4 => ?_)
        refine tt_iastore (pc := 111) (ws := (mC cy ad sc ar la)) (n := 5) (f := (ar 7)) (ws' := (mC cy ad sc (va_up ar 7 (upd (ar 7) (ix v1) ((ar 7) (ix v2)))) la)) C rfl 5 0 mC_get7 rfl hj4 dX7_cuts_111 mC_set7 (fun hj4 => ?_)
        refine tt_aload_n (pc := 112) (k := 0) C dX7_cuts_112 rfl rfl ?_
        refine tt_get (pc := 113) (ws := (mC cy ad sc (va_up ar 7 (upd (ar 7) (ix v1) ((ar 7) (ix v2)))) la)) (ci := 7) (v := .ref (ad 8)) C fiX7 rfl 0 mC_obj 8 (by decide) q4_168 rfl dX7_cuts_113 ?_
        refine tt_iload_n (pc := 116) (k := 1) C dX7_cuts_116 rfl rfl ?_
        refine tt_aload_n (pc := 117) (k := 0) C dX7_cuts_117 rfl rfl ?_
        refine tt_get (pc := 118) (ws := (mC cy ad sc (va_up ar 7 (upd (ar 7) (ix v1) ((ar 7) (ix v2)))) la)) (ci := 7) (v := .ref (ad 8)) C fiX7 rfl 0 mC_obj 8 (by decide) q4_168 rfl dX7_cuts_118 ?_
        refine tt_iload_n (pc := 121) (k := 2) C dX7_cuts_121 rfl rfl ?_
        refine tt_iaload (pc := 122) (ws := (mC cy ad sc (va_up ar 7 (upd (ar 7) (ix v1) ((ar 7) (ix v2)))) la)) (n := 5) (f := (ar 8)) C 6 0 mC_get8 rfl hj4 dX7_cuts_122 (fun hj4 => ?_)
        refine tt_iastore (pc := 123) (ws := (mC cy ad sc (va_up ar 7 (upd (ar 7) (ix v1) ((ar 7) (ix v2)))) la)) (n := 5) (f := (ar 8)) (ws' := (mC cy ad sc (va_up (va_up ar 7 (upd (ar 7) (ix v1) ((ar 7) (ix v2)))) 8 (upd (ar 8) (ix v1) ((ar 8) (ix v2)))) la)) C rfl 6 0 mC_get8 rfl hj4 dX7_cuts_123 mC_set8 (fun hj4 => ?_)
        refine tt_iinc (pc := 124) (k := 1) (v := (v1 + 1)) (L' := [(1, .int (v1 + 1)), (0, .ref (ad 0)), (2, .int v2)]) C dX7_cuts_124 rfl rfl (by decide) rfl ?_
        obtain rfl := Option.some.inj hj4
        exact tt_locs [1, 0, 2] rfl k5
set_option maxHeartbeats 4000000 in
set_option maxRecDepth 100000 in
theorem l_X7_cuts_165 {p : Program} {l : Launch} {e : Env} {s : State} {m : MethodId} {args : Array Value} {below : List Frame} {meth : Method} {c : Code} {D : va_G} {cy : Nat → ClassId} {A : Nat → Prop} {Bd : Nat} {xa : Xa} {ad : Nat → Nat} {β : Type} {vO : Option Value} {wO : va_W} {N : Nat} {sc : Nat → Int32} {la : Nat → Nat → Int64} {v1 : Int32} {v2 : Int32} {kx : (Nat → Nat → Int32) → Option (β)} {out : β} (C : CC p s m args meth c cX7_cuts RX7 4 none D cy A false Bd xa) (hk : ∀ (ar1 : Nat → Nat → Int32), kx ar1 = some out → TT p l e { frames := 0, cells := 0, slots := 0, locals := 0 } s m args below meth c 4 D A false vO wO 199 [(0, .ref (ad 0)), (1, .int v1), (2, .int v2)] [] (mC cy ad sc ar1 la)) {n : Nat} {v3 : Int32} {ar : Nat → Nat → Int32} (hf : f_X7_cuts_L165 N sc v1 v2 kx n v3 ar = some out) : TT p l e { frames := 0, cells := 0, slots := 0, locals := 0 } s m args below meth c 4 D A false vO wO 165 [(0, .ref (ad 0)), (1, .int v1), (2, .int v2), (3, .int v3)] [] (mC cy ad sc ar la) := by
  induction n generalizing v3 ar with
  | zero => cases hf
  | succ n ih =>
    rw [f_X7_cuts_L165] at hf
    refine tt_iload_n (pc := 165) (k := 3) C dX7_cuts_165 rfl rfl ?_
    refine tt_bipush (pc := 166) (v := (7 : Int32)) C dX7_cuts_166 (by decide) ?_
    refine tt_icmp_ge (pc := 168) (tgt := 199) C dX7_cuts_168 (by decide) hf (fun hf => ?_) (fun hf => ?_)
    · exact tt_locs [0, 1, 2] rfl (hk _ hf)
    · refine tt_aload_n (pc := 171) (k := 0) C dX7_cuts_171 rfl rfl ?_
      refine tt_get (pc := 172) (ws := (mC cy ad sc ar la)) (ci := 7) (v := .ref (ad 16)) C fiX7 rfl 0 mC_obj 16 (by decide) q4_176 rfl dX7_cuts_172 ?_
      refine tt_bipush (pc := 175) (v := (7 : Int32)) C dX7_cuts_175 (by decide) ?_
      refine tt_iload_n (pc := 177) (k := 1) C dX7_cuts_177 rfl rfl ?_
      refine tt_imul (pc := 178) C dX7_cuts_178 ?_
      refine tt_iload_n (pc := 179) (k := 3) C dX7_cuts_179 rfl rfl ?_
      refine tt_iadd (pc := 180) C dX7_cuts_180 ?_
      refine tt_aload_n (pc := 181) (k := 0) C dX7_cuts_181 rfl rfl ?_
      refine tt_get (pc := 182) (ws := (mC cy ad sc ar la)) (ci := 7) (v := .ref (ad 16)) C fiX7 rfl 0 mC_obj 16 (by decide) q4_176 rfl dX7_cuts_182 ?_
      refine tt_bipush (pc := 185) (v := (7 : Int32)) C dX7_cuts_185 (by decide) ?_
      refine tt_iload_n (pc := 187) (k := 2) C dX7_cuts_187 rfl rfl ?_
      refine tt_imul (pc := 188) C dX7_cuts_188 ?_
      refine tt_iload_n (pc := 189) (k := 3) C dX7_cuts_189 rfl rfl ?_
      refine tt_iadd (pc := 190) C dX7_cuts_190 ?_
      refine tt_iaload (pc := 191) (ws := (mC cy ad sc ar la)) (n := 56) (f := (ar 16)) C 11 0 mC_get16 rfl hf dX7_cuts_191 (fun hf => ?_)
      refine tt_iastore (pc := 192) (ws := (mC cy ad sc ar la)) (n := 56) (f := (ar 16)) (ws' := (mC cy ad sc (va_up ar 16 (upd (ar 16) (ix (((7 : Int32) * v1) + v3)) ((ar 16) (ix (((7 : Int32) * v2) + v3))))) la)) C rfl 11 0 mC_get16 rfl hf dX7_cuts_192 mC_set16 (fun hf => ?_)
      refine tt_iinc (pc := 193) (k := 3) (v := (v3 + 1)) (L' := [(3, .int (v3 + 1)), (0, .ref (ad 0)), (1, .int v1), (2, .int v2)]) C dX7_cuts_193 rfl rfl (by decide) rfl ?_
      refine tt_goto (pc := 196) (tgt := 165) C dX7_cuts_196 (by decide) ?_
      exact tt_locs [1, 2, 3, 0] rfl (ih hf)
set_option maxHeartbeats 4000000 in
set_option maxRecDepth 100000 in
theorem l_X7_cuts_142 {p : Program} {l : Launch} {e : Env} {s : State} {m : MethodId} {args : Array Value} {below : List Frame} {meth : Method} {c : Code} {D : va_G} {cy : Nat → ClassId} {A : Nat → Prop} {Bd : Nat} {xa : Xa} {ad : Nat → Nat} {β : Type} {vO : Option Value} {wO : va_W} {N : Nat} {sc : Nat → Int32} {la : Nat → Nat → Int64} {kx : Int32 → (Nat → Nat → Int32) → Option (β)} {out : β} (C : CC p s m args meth c cX7_cuts RX7 4 none D cy A false Bd xa) (hk : ∀ (x1 : Int32) (ar1 : Nat → Nat → Int32), kx x1 ar1 = some out → TT p l e { frames := 0, cells := 0, slots := 0, locals := 0 } s m args below meth c 4 D A false vO wO 232 [(0, .ref (ad 0)), (1, .int x1)] [] (mC cy ad sc ar1 la)) {n : Nat} {v1 : Int32} {v2 : Int32} {ar : Nat → Nat → Int32} (hf : f_X7_cuts_L142 N sc kx n v1 v2 ar = some out) : TT p l e { frames := 0, cells := 0, slots := 0, locals := 0 } s m args below meth c 4 D A false vO wO 142 [(0, .ref (ad 0)), (1, .int v1), (2, .int v2)] [] (mC cy ad sc ar la) := by
  induction n generalizing v1 v2 ar with
  | zero => cases hf
  | succ n ih =>
    rw [f_X7_cuts_L142] at hf
    refine tt_iload_n (pc := 142) (k := 2) C dX7_cuts_142 rfl rfl ?_
    refine tt_aload_n (pc := 143) (k := 0) C dX7_cuts_143 rfl rfl ?_
    refine tt_get (pc := 144) (ws := (mC cy ad sc ar la)) (ci := 7) (v := .int (sc 15)) C fiX7 rfl 0 mC_obj 15 (by decide) q4_175 rfl dX7_cuts_144 ?_
    refine tt_icmp_ge (pc := 147) (tgt := 232) C dX7_cuts_147 (by decide) hf (fun hf => ?_) (fun hf => ?_)
    · exact tt_locs [0, 1] rfl (hk _ _ hf)
    · refine tt_aload_n (pc := 150) (k := 0) C dX7_cuts_150 rfl rfl ?_
      refine tt_get (pc := 151) (ws := (mC cy ad sc ar la)) (ci := 7) (v := .ref (ad 18)) C fiX7 rfl 0 mC_obj 18 (by decide) q4_178 rfl dX7_cuts_151 ?_
      refine tt_iload_n (pc := 154) (k := 2) C dX7_cuts_154 rfl rfl ?_
      refine tt_iaload (pc := 155) (ws := (mC cy ad sc ar la)) (n := 8) (f := (ar 18)) C 13 0 mC_get18 rfl hf dX7_cuts_155 (fun hf => ?_)
      refine tt_aload_n (pc := 156) (k := 0) C dX7_cuts_156 rfl rfl ?_
      refine tt_get (pc := 157) (ws := (mC cy ad sc ar la)) (ci := 7) (v := .int (sc 0)) C fiX7 rfl 0 mC_obj 0 (by decide) q4_160 rfl dX7_cuts_157 ?_
      obtain ⟨j7, hj7, hf⟩ := bind_some hf
      have k8 : TT p l e { frames := 0, cells := 0, slots := 0, locals := 0 } s m args below meth c 4 D A false vO wO 226 [(0, .ref (ad 0)), (1, .int j7.1), (2, .int v2)] [] (mC cy ad sc j7.2 la) := by
        refine tt_iinc (pc := 226) (k := 2) (v := (v2 + 1)) (L' := [(2, .int (v2 + 1)), (0, .ref (ad 0)), (1, .int j7.1)]) C dX7_cuts_226 rfl rfl (by decide) rfl ?_
        refine tt_goto (pc := 229) (tgt := 142) C dX7_cuts_229 (by decide) ?_
        exact tt_locs [1, 2, 0] rfl (ih hf)
      refine tt_icmp_ge (pc := 160) (tgt := 226) C dX7_cuts_160 (by decide) hj7 (fun hj7 => ?_) (fun hj7 => ?_)
      · obtain rfl := Option.some.inj hj7
        exact tt_locs [0, 1, 2] rfl k8
      · refine tt_iconst (pc := 163) (v := (0 : Int32)) C dX7_cuts_163 (by decide) ?_
        refine tt_istore_n (pc := 164) (L' := [(3, .int (0 : Int32)), (0, .ref (ad 0)), (1, .int v1), (2, .int v2)]) C dX7_cuts_164 rfl (by decide) rfl ?_
        refine tt_locs (L' := [(0, .ref (ad 0)), (1, .int v1), (2, .int v2), (3, .int (0 : Int32))]) [1, 2, 3, 0] rfl (l_X7_cuts_165 C (fun t9 hj7 => ?_) hj7)
        refine tt_aload_n (pc := 199) (k := 0) C dX7_cuts_199 rfl rfl ?_
        refine tt_get (pc := 200) (ws := (mC cy ad sc t9 la)) (ci := 7) (v := .ref (ad 17)) C fiX7 rfl 0 mC_obj 17 (by decide) q4_177 rfl dX7_cuts_200 ?_
        refine tt_iload_n (pc := 203) (k := 1) C dX7_cuts_203 rfl rfl ?_
        refine tt_aload_n (pc := 204) (k := 0) C dX7_cuts_204 rfl rfl ?_
        refine tt_get (pc := 205) (ws := (mC cy ad sc t9 la)) (ci := 7) (v := .ref (ad 17)) C fiX7 rfl 0 mC_obj 17 (by decide) q4_177 rfl dX7_cuts_205 ?_
        refine tt_iload_n (pc := 208) (k := 2) C dX7_cuts_208 rfl rfl ?_
        refine tt_iaload (pc := 209) (ws := (mC cy ad sc t9 la)) (n := 8) (f := (t9 17)) C 12 0 mC_get17 rfl hj7 dX7_cuts_209 (fun hj7 => ?_)
        refine tt_iastore (pc := 210) (ws := (mC cy ad sc t9 la)) (n := 8) (f := (t9 17)) (ws' := (mC cy ad sc (va_up t9 17 (upd (t9 17) (ix v1) ((t9 17) (ix v2)))) la)) C rfl 12 0 mC_get17 rfl hj7 dX7_cuts_210 mC_set17 (fun hj7 => ?_)
        refine tt_aload_n (pc := 211) (k := 0) C dX7_cuts_211 rfl rfl ?_
        refine tt_get (pc := 212) (ws := (mC cy ad sc (va_up t9 17 (upd (t9 17) (ix v1) ((t9 17) (ix v2)))) la)) (ci := 7) (v := .ref (ad 18)) C fiX7 rfl 0 mC_obj 18 (by decide) q4_178 rfl dX7_cuts_212 ?_
        refine tt_iload_n (pc := 215) (k := 1) C dX7_cuts_215 rfl rfl ?_
        refine tt_aload_n (pc := 216) (k := 0) C dX7_cuts_216 rfl rfl ?_
        refine tt_get (pc := 217) (ws := (mC cy ad sc (va_up t9 17 (upd (t9 17) (ix v1) ((t9 17) (ix v2)))) la)) (ci := 7) (v := .ref (ad 18)) C fiX7 rfl 0 mC_obj 18 (by decide) q4_178 rfl dX7_cuts_217 ?_
        refine tt_iload_n (pc := 220) (k := 2) C dX7_cuts_220 rfl rfl ?_
        refine tt_iaload (pc := 221) (ws := (mC cy ad sc (va_up t9 17 (upd (t9 17) (ix v1) ((t9 17) (ix v2)))) la)) (n := 8) (f := (t9 18)) C 13 0 mC_get18 rfl hj7 dX7_cuts_221 (fun hj7 => ?_)
        refine tt_iastore (pc := 222) (ws := (mC cy ad sc (va_up t9 17 (upd (t9 17) (ix v1) ((t9 17) (ix v2)))) la)) (n := 8) (f := (t9 18)) (ws' := (mC cy ad sc (va_up (va_up t9 17 (upd (t9 17) (ix v1) ((t9 17) (ix v2)))) 18 (upd (t9 18) (ix v1) ((t9 18) (ix v2)))) la)) C rfl 13 0 mC_get18 rfl hj7 dX7_cuts_222 mC_set18 (fun hj7 => ?_)
        refine tt_iinc (pc := 223) (k := 1) (v := (v1 + 1)) (L' := [(1, .int (v1 + 1)), (0, .ref (ad 0)), (2, .int v2)]) C dX7_cuts_223 rfl rfl (by decide) rfl ?_
        obtain rfl := Option.some.inj hj7
        exact tt_locs [1, 0, 2] rfl k8
set_option maxHeartbeats 4000000 in
set_option maxRecDepth 100000 in
theorem k_X7_cuts {l : Launch} {D : va_G} {cy : Nat → ClassId} {Bd : Nat} {xa : Xa} {ad : Nat → Nat} {N : Nat} {sc : Nat → Int32} {ar : Nat → Nat → Int32} {la : Nat → Nat → Int64} {out : (Nat → Int32) × (Nat → Nat → Int32)} (hf : f_X7_cuts N sc ar = some out) : KC l yX7_cuts cX7_cuts 4 none 0 0 false D cy Bd xa [.ref (ad 0)] (mC cy ad sc ar la) none (mC cy ad out.1 out.2 la) := by
  refine kc_start (own := RX7) (by decide +kernel) rfl (Nat.le_of_ble_eq_true rfl) ?_
  intro p e s m args below meth c A C
  unfold f_X7_cuts at hf
  refine tt_locs (L' := [(0, .ref (ad 0))]) [0] rfl ?_
  refine tt_iconst (pc := 0) (v := (0 : Int32)) C dX7_cuts_0 (by decide) ?_
  refine tt_istore_n (pc := 1) (L' := [(1, .int (0 : Int32)), (0, .ref (ad 0))]) C dX7_cuts_1 rfl (by decide) rfl ?_
  refine tt_iconst (pc := 2) (v := (0 : Int32)) C dX7_cuts_2 (by decide) ?_
  refine tt_istore_n (pc := 3) (L' := [(2, .int (0 : Int32)), (1, .int (0 : Int32)), (0, .ref (ad 0))]) C dX7_cuts_3 rfl (by decide) rfl ?_
  refine tt_locs (L' := [(0, .ref (ad 0)), (1, .int (0 : Int32)), (2, .int (0 : Int32))]) [2, 1, 0] rfl (l_X7_cuts_4 C (fun x1_3 t3 hf => ?_) hf)
  refine tt_aload_n (pc := 70) (k := 0) C dX7_cuts_70 rfl rfl ?_
  refine tt_iload_n (pc := 71) (k := 1) C dX7_cuts_71 rfl rfl ?_
  refine tt_put (pc := 72) (ws := (mC cy ad sc t3 la)) (ci := 7) (ty := .int) (ws' := (mC cy ad (upd sc 2 x1_3) t3 la)) C rfl fiX7 rfl 0 mC_obj 2 (by decide) q4_162 rfl rfl rfl rfl (Nat.le_of_ble_eq_true rfl) dX7_cuts_72 mC_put2 ?_
  refine tt_iconst (pc := 75) (v := (0 : Int32)) C dX7_cuts_75 (by decide) ?_
  refine tt_istore_n (pc := 76) (L' := [(1, .int (0 : Int32)), (0, .ref (ad 0))]) C dX7_cuts_76 rfl (by decide) rfl ?_
  refine tt_iconst (pc := 77) (v := (0 : Int32)) C dX7_cuts_77 (by decide) ?_
  refine tt_istore_n (pc := 78) (L' := [(2, .int (0 : Int32)), (1, .int (0 : Int32)), (0, .ref (ad 0))]) C dX7_cuts_78 rfl (by decide) rfl ?_
  refine tt_locs (L' := [(0, .ref (ad 0)), (1, .int (0 : Int32)), (2, .int (0 : Int32))]) [2, 1, 0] rfl (l_X7_cuts_79 C (fun x1_6 t6 hf => ?_) hf)
  refine tt_aload_n (pc := 133) (k := 0) C dX7_cuts_133 rfl rfl ?_
  refine tt_iload_n (pc := 134) (k := 1) C dX7_cuts_134 rfl rfl ?_
  refine tt_put (pc := 135) (ws := (mC cy ad (upd sc 2 x1_3) t6 la)) (ci := 7) (ty := .int) (ws' := (mC cy ad (upd (upd sc 2 x1_3) 6 x1_6) t6 la)) C rfl fiX7 rfl 0 mC_obj 6 (by decide) q4_166 rfl rfl rfl rfl (Nat.le_of_ble_eq_true rfl) dX7_cuts_135 mC_put6 ?_
  refine tt_iconst (pc := 138) (v := (0 : Int32)) C dX7_cuts_138 (by decide) ?_
  refine tt_istore_n (pc := 139) (L' := [(1, .int (0 : Int32)), (0, .ref (ad 0))]) C dX7_cuts_139 rfl (by decide) rfl ?_
  refine tt_iconst (pc := 140) (v := (0 : Int32)) C dX7_cuts_140 (by decide) ?_
  refine tt_istore_n (pc := 141) (L' := [(2, .int (0 : Int32)), (1, .int (0 : Int32)), (0, .ref (ad 0))]) C dX7_cuts_141 rfl (by decide) rfl ?_
  refine tt_locs (L' := [(0, .ref (ad 0)), (1, .int (0 : Int32)), (2, .int (0 : Int32))]) [2, 1, 0] rfl (l_X7_cuts_142 C (fun x1_10 t10 hf => ?_) hf)
  refine tt_aload_n (pc := 232) (k := 0) C dX7_cuts_232 rfl rfl ?_
  refine tt_iload_n (pc := 233) (k := 1) C dX7_cuts_233 rfl rfl ?_
  refine tt_put (pc := 234) (ws := (mC cy ad (upd (upd sc 2 x1_3) 6 x1_6) t10 la)) (ci := 7) (ty := .int) (ws' := (mC cy ad (upd (upd (upd sc 2 x1_3) 6 x1_6) 15 x1_10) t10 la)) C rfl fiX7 rfl 0 mC_obj 15 (by decide) q4_175 rfl rfl rfl rfl (Nat.le_of_ble_eq_true rfl) dX7_cuts_234 mC_put15 ?_
  obtain rfl := Option.some.inj hf
  exact tt_vreturn (pc := 237) C rfl rfl rfl dX7_cuts_237
theorem dX7_no_0 : decode cX7_no 0 = .ok (.aload_n 0, 1) := by decide +kernel
theorem dX7_no_1 : decode cX7_no 1 = .ok (.getfield 59, 3) := by decide +kernel
theorem dX7_no_4 : decode cX7_no 4 = .ok (.iload_n 1, 1) := by decide +kernel
theorem dX7_no_5 : decode cX7_no 5 = .ok (.ineg, 1) := by decide +kernel
theorem dX7_no_6 : decode cX7_no 6 = .ok (.dup2, 1) := by decide +kernel
theorem dX7_no_7 : decode cX7_no 7 = .ok (.iaload, 1) := by decide +kernel
theorem dX7_no_8 : decode cX7_no 8 = .ok (.iconst 1, 1) := by decide +kernel
theorem dX7_no_9 : decode cX7_no 9 = .ok (.iadd, 1) := by decide +kernel
theorem dX7_no_10 : decode cX7_no 10 = .ok (.iastore, 1) := by decide +kernel
theorem dX7_no_11 : decode cX7_no 11 = .ok (.iload_n 1, 1) := by decide +kernel
theorem dX7_no_12 : decode cX7_no 12 = .ok (.ireturn, 1) := by decide +kernel
set_option maxHeartbeats 4000000 in
set_option maxRecDepth 100000 in
theorem k_X7_no {l : Launch} {D : va_G} {cy : Nat → ClassId} {Bd : Nat} {xa : Xa} {ad : Nat → Nat} {N : Nat} {sc : Nat → Int32} {ar : Nat → Nat → Int32} {la : Nat → Nat → Int64} {a1 : Int32} {out : Int32 × (Nat → Nat → Int32)} (hf : f_X7_no N ar a1 = some out) : KC l yX7_no cX7_no 2 (some .int) 0 0 false D cy Bd xa [.ref (ad 0), .int a1] (mC cy ad sc ar la) (some (.int out.1)) (mC cy ad sc out.2 la) := by
  refine kc_start (own := RX7) (by decide +kernel) rfl (Nat.le_of_ble_eq_true rfl) ?_
  intro p e s m args below meth c A C
  unfold f_X7_no at hf
  refine tt_locs (L' := [(0, .ref (ad 0)), (1, .int a1)]) [0, 1] rfl ?_
  refine tt_aload_n (pc := 0) (k := 0) C dX7_no_0 rfl rfl ?_
  refine tt_get (pc := 1) (ws := (mC cy ad sc ar la)) (ci := 7) (v := .ref (ad 21)) C fiX7 rfl 0 mC_obj 21 (by decide) q4_181 rfl dX7_no_1 ?_
  refine tt_iload_n (pc := 4) (k := 1) C dX7_no_4 rfl rfl ?_
  refine tt_ineg (pc := 5) C dX7_no_5 ?_
  refine tt_dup2 (pc := 6) C dX7_no_6 rfl rfl ?_
  refine tt_iaload (pc := 7) (ws := (mC cy ad sc ar la)) (n := 7) (f := (ar 21)) C 15 0 mC_get21 rfl hf dX7_no_7 (fun hf => ?_)
  refine tt_iconst (pc := 8) (v := (1 : Int32)) C dX7_no_8 (by decide) ?_
  refine tt_iadd (pc := 9) C dX7_no_9 ?_
  refine tt_iastore (pc := 10) (ws := (mC cy ad sc ar la)) (n := 7) (f := (ar 21)) (ws' := (mC cy ad sc (va_up ar 21 (upd (ar 21) (ix (-a1)) (((ar 21) (ix (-a1))) + (1 : Int32)))) la)) C rfl 15 0 mC_get21 rfl hf dX7_no_10 mC_set21 (fun hf => ?_)
  refine tt_iload_n (pc := 11) (k := 1) C dX7_no_11 rfl rfl ?_
  obtain rfl := Option.some.inj hf
  exact tt_ireturn (pc := 12) C rfl rfl rfl dX7_no_12
theorem dX7_cells_0 : decode cX7_cells 0 = .ok (.iload_n 1, 1) := by decide +kernel
theorem dX7_cells_1 : decode cX7_cells 1 = .ok (.iconst 2, 1) := by decide +kernel
theorem dX7_cells_2 : decode cX7_cells 2 = .ok (.if_icmp .ge 10, 3) := by decide +kernel
theorem dX7_cells_5 : decode cX7_cells 5 = .ok (.aload_n 0, 1) := by decide +kernel
theorem dX7_cells_6 : decode cX7_cells 6 = .ok (.bipush (-4), 2) := by decide +kernel
theorem dX7_cells_8 : decode cX7_cells 8 = .ok (.invokevirtual 98, 3) := by decide +kernel
theorem dX7_cells_11 : decode cX7_cells 11 = .ok (.ireturn, 1) := by decide +kernel
theorem dX7_cells_12 : decode cX7_cells 12 = .ok (.iload_n 1, 1) := by decide +kernel
theorem dX7_cells_13 : decode cX7_cells 13 = .ok (.bipush 24, 2) := by decide +kernel
theorem dX7_cells_15 : decode cX7_cells 15 = .ok (.if_icmp .le 10, 3) := by decide +kernel
theorem dX7_cells_18 : decode cX7_cells 18 = .ok (.aload_n 0, 1) := by decide +kernel
theorem dX7_cells_19 : decode cX7_cells 19 = .ok (.bipush (-6), 2) := by decide +kernel
theorem dX7_cells_21 : decode cX7_cells 21 = .ok (.invokevirtual 98, 3) := by decide +kernel
theorem dX7_cells_24 : decode cX7_cells 24 = .ok (.ireturn, 1) := by decide +kernel
theorem dX7_cells_25 : decode cX7_cells 25 = .ok (.aload_n 0, 1) := by decide +kernel
theorem dX7_cells_26 : decode cX7_cells 26 = .ok (.getfield 7, 3) := by decide +kernel
theorem dX7_cells_29 : decode cX7_cells 29 = .ok (.istore_n 2, 1) := by decide +kernel
theorem dX7_cells_30 : decode cX7_cells 30 = .ok (.aload_n 0, 1) := by decide +kernel
theorem dX7_cells_31 : decode cX7_cells 31 = .ok (.iload_n 1, 1) := by decide +kernel
theorem dX7_cells_32 : decode cX7_cells 32 = .ok (.putfield 7, 3) := by decide +kernel
theorem dX7_cells_35 : decode cX7_cells 35 = .ok (.iload_n 2, 1) := by decide +kernel
theorem dX7_cells_36 : decode cX7_cells 36 = .ok (.istore_n 3, 1) := by decide +kernel
theorem dX7_cells_37 : decode cX7_cells 37 = .ok (.iload_n 3, 1) := by decide +kernel
theorem dX7_cells_38 : decode cX7_cells 38 = .ok (.iload_n 1, 1) := by decide +kernel
theorem dX7_cells_39 : decode cX7_cells 39 = .ok (.if_icmp .ge 17, 3) := by decide +kernel
theorem dX7_cells_42 : decode cX7_cells 42 = .ok (.aload_n 0, 1) := by decide +kernel
theorem dX7_cells_43 : decode cX7_cells 43 = .ok (.getfield 13, 3) := by decide +kernel
theorem dX7_cells_46 : decode cX7_cells 46 = .ok (.iload_n 3, 1) := by decide +kernel
theorem dX7_cells_47 : decode cX7_cells 47 = .ok (.bipush 10, 2) := by decide +kernel
theorem dX7_cells_49 : decode cX7_cells 49 = .ok (.iastore, 1) := by decide +kernel
theorem dX7_cells_50 : decode cX7_cells 50 = .ok (.iinc 3 1, 3) := by decide +kernel
theorem dX7_cells_53 : decode cX7_cells 53 = .ok (.goto (-16), 3) := by decide +kernel
theorem dX7_cells_56 : decode cX7_cells 56 = .ok (.aload_n 0, 1) := by decide +kernel
theorem dX7_cells_57 : decode cX7_cells 57 = .ok (.invokevirtual 118, 3) := by decide +kernel
theorem dX7_cells_60 : decode cX7_cells 60 = .ok (.iload_n 2, 1) := by decide +kernel
theorem dX7_cells_61 : decode cX7_cells 61 = .ok (.ireturn, 1) := by decide +kernel
set_option maxHeartbeats 4000000 in
set_option maxRecDepth 100000 in
theorem l_X7_cells_37 {p : Program} {l : Launch} {e : Env} {s : State} {m : MethodId} {args : Array Value} {below : List Frame} {meth : Method} {c : Code} {D : va_G} {cy : Nat → ClassId} {A : Nat → Prop} {Bd : Nat} {xa : Xa} {ad : Nat → Nat} {β : Type} {vO : Option Value} {wO : va_W} {N : Nat} {sc : Nat → Int32} {la : Nat → Nat → Int64} {v1 : Int32} {v2 : Int32} {kx : (Nat → Nat → Int32) → Option (β)} {out : β} (C : CC p s m args meth c cX7_cells RX7 4 (some .int) D cy A false Bd xa) (hk : ∀ (ar1 : Nat → Nat → Int32), kx ar1 = some out → TT p l e { frames := 1, cells := 0, slots := 0, locals := 23 } s m args below meth c 4 D A false vO wO 56 [(0, .ref (ad 0)), (2, .int v2)] [] (mC cy ad sc ar1 la)) {n : Nat} {v3 : Int32} {ar : Nat → Nat → Int32} (hf : f_X7_cells_L37 N sc v1 v2 kx n v3 ar = some out) : TT p l e { frames := 1, cells := 0, slots := 0, locals := 23 } s m args below meth c 4 D A false vO wO 37 [(0, .ref (ad 0)), (1, .int v1), (2, .int v2), (3, .int v3)] [] (mC cy ad sc ar la) := by
  induction n generalizing v3 ar with
  | zero => cases hf
  | succ n ih =>
    rw [f_X7_cells_L37] at hf
    refine tt_iload_n (pc := 37) (k := 3) C dX7_cells_37 rfl rfl ?_
    refine tt_iload_n (pc := 38) (k := 1) C dX7_cells_38 rfl rfl ?_
    refine tt_icmp_ge (pc := 39) (tgt := 56) C dX7_cells_39 (by decide) hf (fun hf => ?_) (fun hf => ?_)
    · exact tt_locs [0, 2] rfl (hk _ hf)
    · refine tt_aload_n (pc := 42) (k := 0) C dX7_cells_42 rfl rfl ?_
      refine tt_get (pc := 43) (ws := (mC cy ad sc ar la)) (ci := 7) (v := .ref (ad 1)) C fiX7 rfl 0 mC_obj 1 (by decide) q4_161 rfl dX7_cells_43 ?_
      refine tt_iload_n (pc := 46) (k := 3) C dX7_cells_46 rfl rfl ?_
      refine tt_bipush (pc := 47) (v := (10 : Int32)) C dX7_cells_47 (by decide) ?_
      refine tt_iastore (pc := 49) (ws := (mC cy ad sc ar la)) (n := 24) (f := (ar 1)) (ws' := (mC cy ad sc (va_up ar 1 (upd (ar 1) (ix v3) (10 : Int32))) la)) C rfl 1 0 mC_get1 rfl hf dX7_cells_49 mC_set1 (fun hf => ?_)
      refine tt_iinc (pc := 50) (k := 3) (v := (v3 + 1)) (L' := [(3, .int (v3 + 1)), (0, .ref (ad 0)), (1, .int v1), (2, .int v2)]) C dX7_cells_50 rfl rfl (by decide) rfl ?_
      refine tt_goto (pc := 53) (tgt := 37) C dX7_cells_53 (by decide) ?_
      exact tt_locs [1, 2, 3, 0] rfl (ih hf)
set_option maxHeartbeats 4000000 in
set_option maxRecDepth 100000 in
theorem k_X7_cells {l : Launch} {D : va_G} {cy : Nat → ClassId} {Bd : Nat} {xa : Xa} {ad : Nat → Nat} {N : Nat} {sc : Nat → Int32} {ar : Nat → Nat → Int32} {la : Nat → Nat → Int64} {a1 : Int32} {out : Int32 × (Nat → Int32) × (Nat → Nat → Int32)} (hf : f_X7_cells N sc ar a1 = some out) : KC l yX7_cells cX7_cells 4 (some .int) 1 23 false D cy Bd xa [.ref (ad 0), .int a1] (mC cy ad sc ar la) (some (.int out.1)) (mC cy ad out.2.1 out.2.2 la) := by
  refine kc_start (own := RX7) (by decide +kernel) rfl (Nat.le_of_ble_eq_true rfl) ?_
  intro p e s m args below meth c A C
  unfold f_X7_cells at hf
  refine tt_locs (L' := [(0, .ref (ad 0)), (1, .int a1)]) [0, 1] rfl ?_
  refine tt_iload_n (pc := 0) (k := 1) C dX7_cells_0 rfl rfl ?_
  refine tt_iconst (pc := 1) (v := (2 : Int32)) C dX7_cells_1 (by decide) ?_
  refine tt_icmp_ge (pc := 2) (tgt := 12) C dX7_cells_2 (by decide) hf (fun hf => ?_) (fun hf => ?_)
  · refine tt_iload_n (pc := 12) (k := 1) C dX7_cells_12 rfl rfl ?_
    refine tt_bipush (pc := 13) (v := (24 : Int32)) C dX7_cells_13 (by decide) ?_
    refine tt_icmp_le (pc := 15) (tgt := 25) C dX7_cells_15 (by decide) hf (fun hf => ?_) (fun hf => ?_)
    · refine tt_aload_n (pc := 25) (k := 0) C dX7_cells_25 rfl rfl ?_
      refine tt_get (pc := 26) (ws := (mC cy ad sc ar la)) (ci := 7) (v := .int (sc 0)) C fiX7 rfl 0 mC_obj 0 (by decide) q4_160 rfl dX7_cells_26 ?_
      refine tt_istore_n (pc := 29) (L' := [(2, .int (sc 0)), (0, .ref (ad 0)), (1, .int a1)]) C dX7_cells_29 rfl (by decide) rfl ?_
      refine tt_aload_n (pc := 30) (k := 1) C dX7_cells_30 rfl rfl ?_
      refine tt_iload_n (pc := 31) (k := 2) C dX7_cells_31 rfl rfl ?_
      refine tt_put (pc := 32) (ws := (mC cy ad sc ar la)) (ci := 7) (ty := .int) (ws' := (mC cy ad (upd sc 0 a1) ar la)) C rfl fiX7 rfl 0 mC_obj 0 (by decide) q4_160 rfl rfl rfl rfl (Nat.le_of_ble_eq_true rfl) dX7_cells_32 mC_put0 ?_
      refine tt_iload_n (pc := 35) (k := 0) C dX7_cells_35 rfl rfl ?_
      refine tt_istore_n (pc := 36) (L' := [(3, .int (sc 0)), (2, .int (sc 0)), (0, .ref (ad 0)), (1, .int a1)]) C dX7_cells_36 rfl (by decide) rfl ?_
      refine tt_locs (L' := [(0, .ref (ad 0)), (1, .int a1), (2, .int (sc 0)), (3, .int (sc 0))]) [2, 3, 1, 0] rfl (l_X7_cells_37 C (fun t1 hf => ?_) hf)
      refine tt_aload_n (pc := 56) (k := 0) C dX7_cells_56 rfl rfl ?_
      obtain ⟨r2, hr2, hf⟩ := bind_some hf
      refine tt_callM (pc := 57) (ws := (mC cy ad (upd sc 0 a1) t1 la)) (q0 := 0) (ci := 7) (rest := []) (st' := []) C rfl (k_X7_cuts hr2) okX7_cuts q5_40 rfl mC_obj rfl rfl rfl (Nat.le_of_ble_eq_true rfl) ⟨Nat.le_of_ble_eq_true rfl, Nat.le_of_ble_eq_true rfl⟩ dX7_cells_57 ?_
      refine tt_iload_n (pc := 60) (k := 1) C dX7_cells_60 rfl rfl ?_
      obtain rfl := Option.some.inj hf
      exact tt_ireturn (pc := 61) C rfl rfl rfl dX7_cells_61
    · refine tt_aload_n (pc := 18) (k := 0) C dX7_cells_18 rfl rfl ?_
      refine tt_bipush (pc := 19) (v := (-6 : Int32)) C dX7_cells_19 (by decide) ?_
      obtain ⟨r3, hr3, hf⟩ := bind_some hf
      refine tt_callM (pc := 21) (ws := (mC cy ad sc ar la)) (q0 := 0) (ci := 7) (rest := []) (st' := [.int r3.1]) C rfl (k_X7_no hr3) okX7_no q5_36 rfl mC_obj rfl rfl rfl (Nat.le_of_ble_eq_true rfl) ⟨Nat.le_of_ble_eq_true rfl, Nat.le_of_ble_eq_true rfl⟩ dX7_cells_21 ?_
      obtain rfl := Option.some.inj hf
      exact tt_ireturn (pc := 24) C rfl rfl rfl dX7_cells_24
  · refine tt_aload_n (pc := 5) (k := 0) C dX7_cells_5 rfl rfl ?_
    refine tt_bipush (pc := 6) (v := (-4 : Int32)) C dX7_cells_6 (by decide) ?_
    obtain ⟨r4, hr4, hf⟩ := bind_some hf
    refine tt_callM (pc := 8) (ws := (mC cy ad sc ar la)) (q0 := 0) (ci := 7) (rest := []) (st' := [.int r4.1]) C rfl (k_X7_no hr4) okX7_no q5_36 rfl mC_obj rfl rfl rfl (Nat.le_of_ble_eq_true rfl) ⟨Nat.le_of_ble_eq_true rfl, Nat.le_of_ble_eq_true rfl⟩ dX7_cells_8 ?_
    obtain rfl := Option.some.inj hf
    exact tt_ireturn (pc := 11) C rfl rfl rfl dX7_cells_11
theorem dX7_in_0 : decode cX7_in 0 = .ok (.iload_n 0, 1) := by decide +kernel
theorem dX7_in_1 : decode cX7_in 1 = .ok (.iload_n 1, 1) := by decide +kernel
theorem dX7_in_2 : decode cX7_in 2 = .ok (.if_icmp .lt 12, 3) := by decide +kernel
theorem dX7_in_5 : decode cX7_in 5 = .ok (.iload_n 0, 1) := by decide +kernel
theorem dX7_in_6 : decode cX7_in 6 = .ok (.iload_n 2, 1) := by decide +kernel
theorem dX7_in_7 : decode cX7_in 7 = .ok (.if_icmp .gt 7, 3) := by decide +kernel
theorem dX7_in_10 : decode cX7_in 10 = .ok (.iconst 1, 1) := by decide +kernel
theorem dX7_in_11 : decode cX7_in 11 = .ok (.goto 4, 3) := by decide +kernel
theorem dX7_in_14 : decode cX7_in 14 = .ok (.iconst 0, 1) := by decide +kernel
theorem dX7_in_15 : decode cX7_in 15 = .ok (.ireturn, 1) := by decide +kernel
set_option maxHeartbeats 4000000 in
set_option maxRecDepth 100000 in
theorem k_X7_in {l : Launch} {D : va_G} {cy : Nat → ClassId} {Bd : Nat} {xa : Xa}  {N : Nat} {a1 : Int32} {a2 : Int32} {a3 : Int32} {out : Int32} (hf : f_X7_in N a1 a2 a3 = some out) : KC l yX7_in cX7_in 3 (some .boolean) 0 0 true D cy Bd xa [.int a1, .int a2, .int a3] [] (some (.int out)) [] := by
  refine kc_start (own := RX7) (by decide +kernel) rfl (Nat.le_of_ble_eq_true rfl) ?_
  intro p e s m args below meth c A C
  unfold f_X7_in at hf
  refine tt_locs (L' := [(0, .int a1), (1, .int a2), (2, .int a3)]) [0, 1, 2] rfl ?_
  refine tt_iload_n (pc := 0) (k := 0) C dX7_in_0 rfl rfl ?_
  refine tt_iload_n (pc := 1) (k := 1) C dX7_in_1 rfl rfl ?_
  have k3 : TT p l e { frames := 0, cells := 0, slots := 0, locals := 0 } s m args below meth c 3 D A true (some (.int out)) [] 15 [] [.int (if a1 < a2 then (0 : Int32) else (if a3 < a1 then (0 : Int32) else (1 : Int32)))] [] := by
    obtain rfl := Option.some.inj hf
    exact tt_zreturn (pc := 15) C rfl (nb_if rfl (nb_if rfl rfl)) rfl rfl dX7_in_15
  refine tr_icmp_lt (pc := 2) (tgt := 14) C dX7_in_2 (by decide) (fun c1 => ?_) (fun c1 => ?_)
  · refine tt_iconst (pc := 14) (v := (0 : Int32)) C dX7_in_14 (by decide) ?_
    try simp only [if_pos c1] at k3 ⊢
    exact tt_locs [] rfl k3
  · refine tt_iload_n (pc := 5) (k := 0) C dX7_in_5 rfl rfl ?_
    refine tt_iload_n (pc := 6) (k := 2) C dX7_in_6 rfl rfl ?_
    refine tr_icmp_gt (pc := 7) (tgt := 14) C dX7_in_7 (by decide) (fun c2 => ?_) (fun c2 => ?_)
    · refine tt_iconst (pc := 14) (v := (0 : Int32)) C dX7_in_14 (by decide) ?_
      try simp only [if_neg c1, if_pos c2] at k3 ⊢
      exact tt_locs [] rfl k3
    · refine tt_iconst (pc := 10) (v := (1 : Int32)) C dX7_in_10 (by decide) ?_
      refine tt_goto (pc := 11) (tgt := 15) C dX7_in_11 (by decide) ?_
      try simp only [if_neg c1, if_neg c2] at k3 ⊢
      exact tt_locs [] rfl k3
theorem dX7_isCell_0 : decode cX7_isCell 0 = .ok (.iload_n 1, 1) := by decide +kernel
theorem dX7_isCell_1 : decode cX7_isCell 1 = .ok (.iconst 0, 1) := by decide +kernel
theorem dX7_isCell_2 : decode cX7_isCell 2 = .ok (.aload_n 0, 1) := by decide +kernel
theorem dX7_isCell_3 : decode cX7_isCell 3 = .ok (.getfield 7, 3) := by decide +kernel
theorem dX7_isCell_6 : decode cX7_isCell 6 = .ok (.iconst 1, 1) := by decide +kernel
theorem dX7_isCell_7 : decode cX7_isCell 7 = .ok (.isub, 1) := by decide +kernel
theorem dX7_isCell_8 : decode cX7_isCell 8 = .ok (.invokestatic 102, 3) := by decide +kernel
theorem dX7_isCell_11 : decode cX7_isCell 11 = .ok (.ireturn, 1) := by decide +kernel
set_option maxHeartbeats 4000000 in
set_option maxRecDepth 100000 in
theorem k_X7_isCell {l : Launch} {D : va_G} {cy : Nat → ClassId} {Bd : Nat} {xa : Xa} {ad : Nat → Nat} {N : Nat} {sc : Nat → Int32} {ar : Nat → Nat → Int32} {la : Nat → Nat → Int64} {a1 : Int32} {out : Int32} (hf : f_X7_isCell N sc a1 = some out) : KC l yX7_isCell cX7_isCell 2 (some .boolean) 1 22 true D cy Bd xa [.ref (ad 0), .int a1] (mC cy ad sc ar la) (some (.int out)) (mC cy ad sc ar la) := by
  refine kc_start (own := RX7) (by decide +kernel) rfl (Nat.le_of_ble_eq_true rfl) ?_
  intro p e s m args below meth c A C
  unfold f_X7_isCell at hf
  refine tt_locs (L' := [(0, .ref (ad 0)), (1, .int a1)]) [0, 1] rfl ?_
  refine tt_iload_n (pc := 0) (k := 1) C dX7_isCell_0 rfl rfl ?_
  refine tt_iconst (pc := 1) (v := (0 : Int32)) C dX7_isCell_1 (by decide) ?_
  refine tt_aload_n (pc := 2) (k := 0) C dX7_isCell_2 rfl rfl ?_
  refine tt_get (pc := 3) (ws := (mC cy ad sc ar la)) (ci := 7) (v := .int (sc 0)) C fiX7 rfl 0 mC_obj 0 (by decide) q4_160 rfl dX7_isCell_3 ?_
  refine tt_iconst (pc := 6) (v := (1 : Int32)) C dX7_isCell_6 (by decide) ?_
  refine tt_isub (pc := 7) C dX7_isCell_7 ?_
  obtain ⟨r1, hr1, hf⟩ := bind_some hf
  refine tt_callS (pc := 8) (ws := (mC cy ad sc ar la)) (rest := []) (st' := [.int r1]) C (k_X7_in hr1) okX7_in q5_52 (fun _ h => absurd h List.not_mem_nil) rfl rfl rfl (Nat.le_of_ble_eq_true rfl) ⟨Nat.le_of_ble_eq_true rfl, Nat.le_of_ble_eq_true rfl⟩ dX7_isCell_8 ?_
  obtain ⟨hz, hf⟩ := zchk hf
  obtain rfl := Option.some.inj hf
  exact tt_zreturn (pc := 11) C rfl hz rfl rfl dX7_isCell_11
theorem dX7_ground_0 : decode cX7_ground 0 = .ok (.aload_n 0, 1) := by decide +kernel
theorem dX7_ground_1 : decode cX7_ground 1 = .ok (.iload_n 1, 1) := by decide +kernel
theorem dX7_ground_2 : decode cX7_ground 2 = .ok (.invokevirtual 121, 3) := by decide +kernel
theorem dX7_ground_5 : decode cX7_ground 5 = .ok (.ifCond .ne 9, 3) := by decide +kernel
theorem dX7_ground_8 : decode cX7_ground 8 = .ok (.aload_n 0, 1) := by decide +kernel
theorem dX7_ground_9 : decode cX7_ground 9 = .ok (.iconst (-1), 1) := by decide +kernel
theorem dX7_ground_10 : decode cX7_ground 10 = .ok (.invokevirtual 98, 3) := by decide +kernel
theorem dX7_ground_13 : decode cX7_ground 13 = .ok (.ireturn, 1) := by decide +kernel
theorem dX7_ground_14 : decode cX7_ground 14 = .ok (.iload_n 2, 1) := by decide +kernel
theorem dX7_ground_15 : decode cX7_ground 15 = .ok (.ifCond .ge 10, 3) := by decide +kernel
theorem dX7_ground_18 : decode cX7_ground 18 = .ok (.aload_n 0, 1) := by decide +kernel
theorem dX7_ground_19 : decode cX7_ground 19 = .ok (.bipush (-4), 2) := by decide +kernel
theorem dX7_ground_21 : decode cX7_ground 21 = .ok (.invokevirtual 98, 3) := by decide +kernel
theorem dX7_ground_24 : decode cX7_ground 24 = .ok (.ireturn, 1) := by decide +kernel
theorem dX7_ground_25 : decode cX7_ground 25 = .ok (.iload_n 2, 1) := by decide +kernel
theorem dX7_ground_26 : decode cX7_ground 26 = .ok (.bipush 30, 2) := by decide +kernel
theorem dX7_ground_28 : decode cX7_ground 28 = .ok (.if_icmp .le 10, 3) := by decide +kernel
theorem dX7_ground_31 : decode cX7_ground 31 = .ok (.aload_n 0, 1) := by decide +kernel
theorem dX7_ground_32 : decode cX7_ground 32 = .ok (.bipush (-6), 2) := by decide +kernel
theorem dX7_ground_34 : decode cX7_ground 34 = .ok (.invokevirtual 98, 3) := by decide +kernel
theorem dX7_ground_37 : decode cX7_ground 37 = .ok (.ireturn, 1) := by decide +kernel
theorem dX7_ground_38 : decode cX7_ground 38 = .ok (.aload_n 0, 1) := by decide +kernel
theorem dX7_ground_39 : decode cX7_ground 39 = .ok (.getfield 13, 3) := by decide +kernel
theorem dX7_ground_42 : decode cX7_ground 42 = .ok (.iload_n 1, 1) := by decide +kernel
theorem dX7_ground_43 : decode cX7_ground 43 = .ok (.iaload, 1) := by decide +kernel
theorem dX7_ground_44 : decode cX7_ground 44 = .ok (.istore_n 3, 1) := by decide +kernel
theorem dX7_ground_45 : decode cX7_ground 45 = .ok (.aload_n 0, 1) := by decide +kernel
theorem dX7_ground_46 : decode cX7_ground 46 = .ok (.getfield 13, 3) := by decide +kernel
theorem dX7_ground_49 : decode cX7_ground 49 = .ok (.iload_n 1, 1) := by decide +kernel
theorem dX7_ground_50 : decode cX7_ground 50 = .ok (.iload_n 2, 1) := by decide +kernel
theorem dX7_ground_51 : decode cX7_ground 51 = .ok (.iastore, 1) := by decide +kernel
theorem dX7_ground_52 : decode cX7_ground 52 = .ok (.iload_n 3, 1) := by decide +kernel
theorem dX7_ground_53 : decode cX7_ground 53 = .ok (.ireturn, 1) := by decide +kernel
set_option maxHeartbeats 4000000 in
set_option maxRecDepth 100000 in
theorem k_X7_ground {l : Launch} {D : va_G} {cy : Nat → ClassId} {Bd : Nat} {xa : Xa} {ad : Nat → Nat} {N : Nat} {sc : Nat → Int32} {ar : Nat → Nat → Int32} {la : Nat → Nat → Int64} {a1 : Int32} {a2 : Int32} {out : Int32 × (Nat → Nat → Int32)} (hf : f_X7_ground N sc ar a1 a2 = some out) : KC l yX7_ground cX7_ground 4 (some .int) 2 43 false D cy Bd xa [.ref (ad 0), .int a1, .int a2] (mC cy ad sc ar la) (some (.int out.1)) (mC cy ad sc out.2 la) := by
  refine kc_start (own := RX7) (by decide +kernel) rfl (Nat.le_of_ble_eq_true rfl) ?_
  intro p e s m args below meth c A C
  unfold f_X7_ground at hf
  refine tt_locs (L' := [(0, .ref (ad 0)), (1, .int a1), (2, .int a2)]) [0, 1, 2] rfl ?_
  refine tt_aload_n (pc := 0) (k := 0) C dX7_ground_0 rfl rfl ?_
  refine tt_iload_n (pc := 1) (k := 1) C dX7_ground_1 rfl rfl ?_
  obtain ⟨r1, hr1, hf⟩ := bind_some hf
  refine tt_callR (pc := 2) (ws := (mC cy ad sc ar la)) (q0 := 0) (ci := 7) (rest := []) (st' := [.int r1]) C (k_X7_isCell hr1) okX7_isCell q5_48 rfl mC_obj (fun _ h => h) rfl rfl rfl (Nat.le_of_ble_eq_true rfl) ⟨Nat.le_of_ble_eq_true rfl, Nat.le_of_ble_eq_true rfl⟩ dX7_ground_2 ?_
  refine tt_if_ne (pc := 5) (tgt := 14) C dX7_ground_5 (by decide) hf (fun hf => ?_) (fun hf => ?_)
  · refine tt_iload_n (pc := 14) (k := 2) C dX7_ground_14 rfl rfl ?_
    refine tt_if_ge (pc := 15) (tgt := 25) C dX7_ground_15 (by decide) hf (fun hf => ?_) (fun hf => ?_)
    · refine tt_iload_n (pc := 25) (k := 2) C dX7_ground_25 rfl rfl ?_
      refine tt_bipush (pc := 26) (v := (30 : Int32)) C dX7_ground_26 (by decide) ?_
      refine tt_icmp_le (pc := 28) (tgt := 38) C dX7_ground_28 (by decide) hf (fun hf => ?_) (fun hf => ?_)
      · refine tt_aload_n (pc := 38) (k := 0) C dX7_ground_38 rfl rfl ?_
        refine tt_get (pc := 39) (ws := (mC cy ad sc ar la)) (ci := 7) (v := .ref (ad 1)) C fiX7 rfl 0 mC_obj 1 (by decide) q4_161 rfl dX7_ground_39 ?_
        refine tt_iload_n (pc := 42) (k := 1) C dX7_ground_42 rfl rfl ?_
        refine tt_iaload (pc := 43) (ws := (mC cy ad sc ar la)) (n := 24) (f := (ar 1)) C 1 0 mC_get1 rfl hf dX7_ground_43 (fun hf => ?_)
        refine tt_istore_n (pc := 44) (L' := [(3, .int ((ar 1) (ix a1))), (0, .ref (ad 0)), (1, .int a1), (2, .int a2)]) C dX7_ground_44 rfl (by decide) rfl ?_
        refine tt_aload_n (pc := 45) (k := 1) C dX7_ground_45 rfl rfl ?_
        refine tt_get (pc := 46) (ws := (mC cy ad sc ar la)) (ci := 7) (v := .ref (ad 1)) C fiX7 rfl 0 mC_obj 1 (by decide) q4_161 rfl dX7_ground_46 ?_
        refine tt_iload_n (pc := 49) (k := 2) C dX7_ground_49 rfl rfl ?_
        refine tt_iload_n (pc := 50) (k := 3) C dX7_ground_50 rfl rfl ?_
        refine tt_iastore (pc := 51) (ws := (mC cy ad sc ar la)) (n := 24) (f := (ar 1)) (ws' := (mC cy ad sc (va_up ar 1 (upd (ar 1) (ix a1) a2)) la)) C rfl 1 0 mC_get1 rfl hf dX7_ground_51 mC_set1 (fun hf => ?_)
        refine tt_iload_n (pc := 52) (k := 0) C dX7_ground_52 rfl rfl ?_
        obtain rfl := Option.some.inj hf
        exact tt_ireturn (pc := 53) C rfl rfl rfl dX7_ground_53
      · refine tt_aload_n (pc := 31) (k := 0) C dX7_ground_31 rfl rfl ?_
        refine tt_bipush (pc := 32) (v := (-6 : Int32)) C dX7_ground_32 (by decide) ?_
        obtain ⟨r2, hr2, hf⟩ := bind_some hf
        refine tt_callM (pc := 34) (ws := (mC cy ad sc ar la)) (q0 := 0) (ci := 7) (rest := []) (st' := [.int r2.1]) C rfl (k_X7_no hr2) okX7_no q5_36 rfl mC_obj rfl rfl rfl (Nat.le_of_ble_eq_true rfl) ⟨Nat.le_of_ble_eq_true rfl, Nat.le_of_ble_eq_true rfl⟩ dX7_ground_34 ?_
        obtain rfl := Option.some.inj hf
        exact tt_ireturn (pc := 37) C rfl rfl rfl dX7_ground_37
    · refine tt_aload_n (pc := 18) (k := 0) C dX7_ground_18 rfl rfl ?_
      refine tt_bipush (pc := 19) (v := (-4 : Int32)) C dX7_ground_19 (by decide) ?_
      obtain ⟨r3, hr3, hf⟩ := bind_some hf
      refine tt_callM (pc := 21) (ws := (mC cy ad sc ar la)) (q0 := 0) (ci := 7) (rest := []) (st' := [.int r3.1]) C rfl (k_X7_no hr3) okX7_no q5_36 rfl mC_obj rfl rfl rfl (Nat.le_of_ble_eq_true rfl) ⟨Nat.le_of_ble_eq_true rfl, Nat.le_of_ble_eq_true rfl⟩ dX7_ground_21 ?_
      obtain rfl := Option.some.inj hf
      exact tt_ireturn (pc := 24) C rfl rfl rfl dX7_ground_24
  · refine tt_aload_n (pc := 8) (k := 0) C dX7_ground_8 rfl rfl ?_
    refine tt_iconst (pc := 9) (v := (-1 : Int32)) C dX7_ground_9 (by decide) ?_
    obtain ⟨r4, hr4, hf⟩ := bind_some hf
    refine tt_callM (pc := 10) (ws := (mC cy ad sc ar la)) (q0 := 0) (ci := 7) (rest := []) (st' := [.int r4.1]) C rfl (k_X7_no hr4) okX7_no q5_36 rfl mC_obj rfl rfl rfl (Nat.le_of_ble_eq_true rfl) ⟨Nat.le_of_ble_eq_true rfl, Nat.le_of_ble_eq_true rfl⟩ dX7_ground_10 ?_
    obtain rfl := Option.some.inj hf
    exact tt_ireturn (pc := 13) C rfl rfl rfl dX7_ground_13
theorem dX7_bridge_0 : decode cX7_bridge 0 = .ok (.aload_n 0, 1) := by decide +kernel
theorem dX7_bridge_1 : decode cX7_bridge 1 = .ok (.iload_n 1, 1) := by decide +kernel
theorem dX7_bridge_2 : decode cX7_bridge 2 = .ok (.invokevirtual 121, 3) := by decide +kernel
theorem dX7_bridge_5 : decode cX7_bridge 5 = .ok (.ifCond .ne 9, 3) := by decide +kernel
theorem dX7_bridge_8 : decode cX7_bridge 8 = .ok (.aload_n 0, 1) := by decide +kernel
theorem dX7_bridge_9 : decode cX7_bridge 9 = .ok (.iconst (-1), 1) := by decide +kernel
theorem dX7_bridge_10 : decode cX7_bridge 10 = .ok (.invokevirtual 98, 3) := by decide +kernel
theorem dX7_bridge_13 : decode cX7_bridge 13 = .ok (.ireturn, 1) := by decide +kernel
theorem dX7_bridge_14 : decode cX7_bridge 14 = .ok (.iload_n 2, 1) := by decide +kernel
theorem dX7_bridge_15 : decode cX7_bridge 15 = .ok (.ifCond .lt 7, 3) := by decide +kernel
theorem dX7_bridge_18 : decode cX7_bridge 18 = .ok (.iload_n 3, 1) := by decide +kernel
theorem dX7_bridge_19 : decode cX7_bridge 19 = .ok (.ifCond .ge 10, 3) := by decide +kernel
theorem dX7_bridge_22 : decode cX7_bridge 22 = .ok (.aload_n 0, 1) := by decide +kernel
theorem dX7_bridge_23 : decode cX7_bridge 23 = .ok (.bipush (-4), 2) := by decide +kernel
theorem dX7_bridge_25 : decode cX7_bridge 25 = .ok (.invokevirtual 98, 3) := by decide +kernel
theorem dX7_bridge_28 : decode cX7_bridge 28 = .ok (.ireturn, 1) := by decide +kernel
theorem dX7_bridge_29 : decode cX7_bridge 29 = .ok (.iload_n 2, 1) := by decide +kernel
theorem dX7_bridge_30 : decode cX7_bridge 30 = .ok (.bipush 60, 2) := by decide +kernel
theorem dX7_bridge_32 : decode cX7_bridge 32 = .ok (.if_icmp .gt 17, 3) := by decide +kernel
theorem dX7_bridge_35 : decode cX7_bridge 35 = .ok (.iload_n 3, 1) := by decide +kernel
theorem dX7_bridge_36 : decode cX7_bridge 36 = .ok (.bipush 60, 2) := by decide +kernel
theorem dX7_bridge_38 : decode cX7_bridge 38 = .ok (.if_icmp .gt 11, 3) := by decide +kernel
theorem dX7_bridge_41 : decode cX7_bridge 41 = .ok (.aload_n 0, 1) := by decide +kernel
theorem dX7_bridge_42 : decode cX7_bridge 42 = .ok (.getfield 106, 3) := by decide +kernel
theorem dX7_bridge_45 : decode cX7_bridge 45 = .ok (.iconst 4, 1) := by decide +kernel
theorem dX7_bridge_46 : decode cX7_bridge 46 = .ok (.if_icmp .ne 10, 3) := by decide +kernel
theorem dX7_bridge_49 : decode cX7_bridge 49 = .ok (.aload_n 0, 1) := by decide +kernel
theorem dX7_bridge_50 : decode cX7_bridge 50 = .ok (.bipush (-6), 2) := by decide +kernel
theorem dX7_bridge_52 : decode cX7_bridge 52 = .ok (.invokevirtual 98, 3) := by decide +kernel
theorem dX7_bridge_55 : decode cX7_bridge 55 = .ok (.ireturn, 1) := by decide +kernel
theorem dX7_bridge_56 : decode cX7_bridge 56 = .ok (.iload_n 2, 1) := by decide +kernel
theorem dX7_bridge_57 : decode cX7_bridge 57 = .ok (.iload_n 3, 1) := by decide +kernel
theorem dX7_bridge_58 : decode cX7_bridge 58 = .ok (.if_icmp .le 10, 3) := by decide +kernel
theorem dX7_bridge_61 : decode cX7_bridge 61 = .ok (.aload_n 0, 1) := by decide +kernel
theorem dX7_bridge_62 : decode cX7_bridge 62 = .ok (.bipush (-3), 2) := by decide +kernel
theorem dX7_bridge_64 : decode cX7_bridge 64 = .ok (.invokevirtual 98, 3) := by decide +kernel
theorem dX7_bridge_67 : decode cX7_bridge 67 = .ok (.ireturn, 1) := by decide +kernel
theorem dX7_bridge_68 : decode cX7_bridge 68 = .ok (.aload_n 0, 1) := by decide +kernel
theorem dX7_bridge_69 : decode cX7_bridge 69 = .ok (.getfield 17, 3) := by decide +kernel
theorem dX7_bridge_72 : decode cX7_bridge 72 = .ok (.aload_n 0, 1) := by decide +kernel
theorem dX7_bridge_73 : decode cX7_bridge 73 = .ok (.getfield 106, 3) := by decide +kernel
theorem dX7_bridge_76 : decode cX7_bridge 76 = .ok (.iload_n 1, 1) := by decide +kernel
theorem dX7_bridge_77 : decode cX7_bridge 77 = .ok (.iastore, 1) := by decide +kernel
theorem dX7_bridge_78 : decode cX7_bridge 78 = .ok (.aload_n 0, 1) := by decide +kernel
theorem dX7_bridge_79 : decode cX7_bridge 79 = .ok (.getfield 20, 3) := by decide +kernel
theorem dX7_bridge_82 : decode cX7_bridge 82 = .ok (.aload_n 0, 1) := by decide +kernel
theorem dX7_bridge_83 : decode cX7_bridge 83 = .ok (.getfield 106, 3) := by decide +kernel
theorem dX7_bridge_86 : decode cX7_bridge 86 = .ok (.iload_n 2, 1) := by decide +kernel
theorem dX7_bridge_87 : decode cX7_bridge 87 = .ok (.iastore, 1) := by decide +kernel
theorem dX7_bridge_88 : decode cX7_bridge 88 = .ok (.aload_n 0, 1) := by decide +kernel
theorem dX7_bridge_89 : decode cX7_bridge 89 = .ok (.getfield 23, 3) := by decide +kernel
theorem dX7_bridge_92 : decode cX7_bridge 92 = .ok (.aload_n 0, 1) := by decide +kernel
theorem dX7_bridge_93 : decode cX7_bridge 93 = .ok (.getfield 106, 3) := by decide +kernel
theorem dX7_bridge_96 : decode cX7_bridge 96 = .ok (.iload_n 3, 1) := by decide +kernel
theorem dX7_bridge_97 : decode cX7_bridge 97 = .ok (.iastore, 1) := by decide +kernel
theorem dX7_bridge_98 : decode cX7_bridge 98 = .ok (.aload_n 0, 1) := by decide +kernel
theorem dX7_bridge_99 : decode cX7_bridge 99 = .ok (.dup, 1) := by decide +kernel
theorem dX7_bridge_100 : decode cX7_bridge 100 = .ok (.getfield 106, 3) := by decide +kernel
theorem dX7_bridge_103 : decode cX7_bridge 103 = .ok (.iconst 1, 1) := by decide +kernel
theorem dX7_bridge_104 : decode cX7_bridge 104 = .ok (.iadd, 1) := by decide +kernel
theorem dX7_bridge_105 : decode cX7_bridge 105 = .ok (.putfield 106, 3) := by decide +kernel
theorem dX7_bridge_108 : decode cX7_bridge 108 = .ok (.aload_n 0, 1) := by decide +kernel
theorem dX7_bridge_109 : decode cX7_bridge 109 = .ok (.getfield 106, 3) := by decide +kernel
theorem dX7_bridge_112 : decode cX7_bridge 112 = .ok (.iconst 1, 1) := by decide +kernel
theorem dX7_bridge_113 : decode cX7_bridge 113 = .ok (.isub, 1) := by decide +kernel
theorem dX7_bridge_114 : decode cX7_bridge 114 = .ok (.ireturn, 1) := by decide +kernel
set_option maxHeartbeats 4000000 in
set_option maxRecDepth 100000 in
theorem k_X7_bridge {l : Launch} {D : va_G} {cy : Nat → ClassId} {Bd : Nat} {xa : Xa} {ad : Nat → Nat} {N : Nat} {sc : Nat → Int32} {ar : Nat → Nat → Int32} {la : Nat → Nat → Int64} {a1 : Int32} {a2 : Int32} {a3 : Int32} {out : Int32 × (Nat → Int32) × (Nat → Nat → Int32)} (hf : f_X7_bridge N sc ar a1 a2 a3 = some out) : KC l yX7_bridge cX7_bridge 4 (some .int) 2 43 false D cy Bd xa [.ref (ad 0), .int a1, .int a2, .int a3] (mC cy ad sc ar la) (some (.int out.1)) (mC cy ad out.2.1 out.2.2 la) := by
  refine kc_start (own := RX7) (by decide +kernel) rfl (Nat.le_of_ble_eq_true rfl) ?_
  intro p e s m args below meth c A C
  unfold f_X7_bridge at hf
  refine tt_locs (L' := [(0, .ref (ad 0)), (1, .int a1), (2, .int a2), (3, .int a3)]) [0, 1, 2, 3] rfl ?_
  refine tt_aload_n (pc := 0) (k := 0) C dX7_bridge_0 rfl rfl ?_
  refine tt_iload_n (pc := 1) (k := 1) C dX7_bridge_1 rfl rfl ?_
  obtain ⟨r1, hr1, hf⟩ := bind_some hf
  refine tt_callR (pc := 2) (ws := (mC cy ad sc ar la)) (q0 := 0) (ci := 7) (rest := []) (st' := [.int r1]) C (k_X7_isCell hr1) okX7_isCell q5_48 rfl mC_obj (fun _ h => h) rfl rfl rfl (Nat.le_of_ble_eq_true rfl) ⟨Nat.le_of_ble_eq_true rfl, Nat.le_of_ble_eq_true rfl⟩ dX7_bridge_2 ?_
  refine tt_if_ne (pc := 5) (tgt := 14) C dX7_bridge_5 (by decide) hf (fun hf => ?_) (fun hf => ?_)
  · refine tt_iload_n (pc := 14) (k := 2) C dX7_bridge_14 rfl rfl ?_
    refine tt_if_lt (pc := 15) (tgt := 22) C dX7_bridge_15 (by decide) hf (fun hf => ?_) (fun hf => ?_)
    · refine tt_aload_n (pc := 22) (k := 0) C dX7_bridge_22 rfl rfl ?_
      refine tt_bipush (pc := 23) (v := (-4 : Int32)) C dX7_bridge_23 (by decide) ?_
      obtain ⟨r2, hr2, hf⟩ := bind_some hf
      refine tt_callM (pc := 25) (ws := (mC cy ad sc ar la)) (q0 := 0) (ci := 7) (rest := []) (st' := [.int r2.1]) C rfl (k_X7_no hr2) okX7_no q5_36 rfl mC_obj rfl rfl rfl (Nat.le_of_ble_eq_true rfl) ⟨Nat.le_of_ble_eq_true rfl, Nat.le_of_ble_eq_true rfl⟩ dX7_bridge_25 ?_
      obtain rfl := Option.some.inj hf
      exact tt_ireturn (pc := 28) C rfl rfl rfl dX7_bridge_28
    · refine tt_iload_n (pc := 18) (k := 3) C dX7_bridge_18 rfl rfl ?_
      refine tt_if_ge (pc := 19) (tgt := 29) C dX7_bridge_19 (by decide) hf (fun hf => ?_) (fun hf => ?_)
      · refine tt_iload_n (pc := 29) (k := 2) C dX7_bridge_29 rfl rfl ?_
        refine tt_bipush (pc := 30) (v := (60 : Int32)) C dX7_bridge_30 (by decide) ?_
        refine tt_icmp_gt (pc := 32) (tgt := 49) C dX7_bridge_32 (by decide) hf (fun hf => ?_) (fun hf => ?_)
        · refine tt_aload_n (pc := 49) (k := 0) C dX7_bridge_49 rfl rfl ?_
          refine tt_bipush (pc := 50) (v := (-6 : Int32)) C dX7_bridge_50 (by decide) ?_
          obtain ⟨r3, hr3, hf⟩ := bind_some hf
          refine tt_callM (pc := 52) (ws := (mC cy ad sc ar la)) (q0 := 0) (ci := 7) (rest := []) (st' := [.int r3.1]) C rfl (k_X7_no hr3) okX7_no q5_36 rfl mC_obj rfl rfl rfl (Nat.le_of_ble_eq_true rfl) ⟨Nat.le_of_ble_eq_true rfl, Nat.le_of_ble_eq_true rfl⟩ dX7_bridge_52 ?_
          obtain rfl := Option.some.inj hf
          exact tt_ireturn (pc := 55) C rfl rfl rfl dX7_bridge_55
        · refine tt_iload_n (pc := 35) (k := 3) C dX7_bridge_35 rfl rfl ?_
          refine tt_bipush (pc := 36) (v := (60 : Int32)) C dX7_bridge_36 (by decide) ?_
          refine tt_icmp_gt (pc := 38) (tgt := 49) C dX7_bridge_38 (by decide) hf (fun hf => ?_) (fun hf => ?_)
          · refine tt_aload_n (pc := 49) (k := 0) C dX7_bridge_49 rfl rfl ?_
            refine tt_bipush (pc := 50) (v := (-6 : Int32)) C dX7_bridge_50 (by decide) ?_
            obtain ⟨r4, hr4, hf⟩ := bind_some hf
            refine tt_callM (pc := 52) (ws := (mC cy ad sc ar la)) (q0 := 0) (ci := 7) (rest := []) (st' := [.int r4.1]) C rfl (k_X7_no hr4) okX7_no q5_36 rfl mC_obj rfl rfl rfl (Nat.le_of_ble_eq_true rfl) ⟨Nat.le_of_ble_eq_true rfl, Nat.le_of_ble_eq_true rfl⟩ dX7_bridge_52 ?_
            obtain rfl := Option.some.inj hf
            exact tt_ireturn (pc := 55) C rfl rfl rfl dX7_bridge_55
          · refine tt_aload_n (pc := 41) (k := 0) C dX7_bridge_41 rfl rfl ?_
            refine tt_get (pc := 42) (ws := (mC cy ad sc ar la)) (ci := 7) (v := .int (sc 2)) C fiX7 rfl 0 mC_obj 2 (by decide) q4_162 rfl dX7_bridge_42 ?_
            refine tt_iconst (pc := 45) (v := (4 : Int32)) C dX7_bridge_45 (by decide) ?_
            refine tt_icmp_ne (pc := 46) (tgt := 56) C dX7_bridge_46 (by decide) hf (fun hf => ?_) (fun hf => ?_)
            · refine tt_iload_n (pc := 56) (k := 2) C dX7_bridge_56 rfl rfl ?_
              refine tt_iload_n (pc := 57) (k := 3) C dX7_bridge_57 rfl rfl ?_
              refine tt_icmp_le (pc := 58) (tgt := 68) C dX7_bridge_58 (by decide) hf (fun hf => ?_) (fun hf => ?_)
              · refine tt_aload_n (pc := 68) (k := 0) C dX7_bridge_68 rfl rfl ?_
                refine tt_get (pc := 69) (ws := (mC cy ad sc ar la)) (ci := 7) (v := .ref (ad 3)) C fiX7 rfl 0 mC_obj 3 (by decide) q4_163 rfl dX7_bridge_69 ?_
                refine tt_aload_n (pc := 72) (k := 0) C dX7_bridge_72 rfl rfl ?_
                refine tt_get (pc := 73) (ws := (mC cy ad sc ar la)) (ci := 7) (v := .int (sc 2)) C fiX7 rfl 0 mC_obj 2 (by decide) q4_162 rfl dX7_bridge_73 ?_
                refine tt_iload_n (pc := 76) (k := 1) C dX7_bridge_76 rfl rfl ?_
                refine tt_iastore (pc := 77) (ws := (mC cy ad sc ar la)) (n := 4) (f := (ar 3)) (ws' := (mC cy ad sc (va_up ar 3 (upd (ar 3) (ix (sc 2)) a1)) la)) C rfl 2 0 mC_get3 rfl hf dX7_bridge_77 mC_set3 (fun hf => ?_)
                refine tt_aload_n (pc := 78) (k := 0) C dX7_bridge_78 rfl rfl ?_
                refine tt_get (pc := 79) (ws := (mC cy ad sc (va_up ar 3 (upd (ar 3) (ix (sc 2)) a1)) la)) (ci := 7) (v := .ref (ad 4)) C fiX7 rfl 0 mC_obj 4 (by decide) q4_164 rfl dX7_bridge_79 ?_
                refine tt_aload_n (pc := 82) (k := 0) C dX7_bridge_82 rfl rfl ?_
                refine tt_get (pc := 83) (ws := (mC cy ad sc (va_up ar 3 (upd (ar 3) (ix (sc 2)) a1)) la)) (ci := 7) (v := .int (sc 2)) C fiX7 rfl 0 mC_obj 2 (by decide) q4_162 rfl dX7_bridge_83 ?_
                refine tt_iload_n (pc := 86) (k := 2) C dX7_bridge_86 rfl rfl ?_
                refine tt_iastore (pc := 87) (ws := (mC cy ad sc (va_up ar 3 (upd (ar 3) (ix (sc 2)) a1)) la)) (n := 4) (f := (ar 4)) (ws' := (mC cy ad sc (va_up (va_up ar 3 (upd (ar 3) (ix (sc 2)) a1)) 4 (upd (ar 4) (ix (sc 2)) a2)) la)) C rfl 3 0 mC_get4 rfl hf dX7_bridge_87 mC_set4 (fun hf => ?_)
                refine tt_aload_n (pc := 88) (k := 0) C dX7_bridge_88 rfl rfl ?_
                refine tt_get (pc := 89) (ws := (mC cy ad sc (va_up (va_up ar 3 (upd (ar 3) (ix (sc 2)) a1)) 4 (upd (ar 4) (ix (sc 2)) a2)) la)) (ci := 7) (v := .ref (ad 5)) C fiX7 rfl 0 mC_obj 5 (by decide) q4_165 rfl dX7_bridge_89 ?_
                refine tt_aload_n (pc := 92) (k := 0) C dX7_bridge_92 rfl rfl ?_
                refine tt_get (pc := 93) (ws := (mC cy ad sc (va_up (va_up ar 3 (upd (ar 3) (ix (sc 2)) a1)) 4 (upd (ar 4) (ix (sc 2)) a2)) la)) (ci := 7) (v := .int (sc 2)) C fiX7 rfl 0 mC_obj 2 (by decide) q4_162 rfl dX7_bridge_93 ?_
                refine tt_iload_n (pc := 96) (k := 3) C dX7_bridge_96 rfl rfl ?_
                refine tt_iastore (pc := 97) (ws := (mC cy ad sc (va_up (va_up ar 3 (upd (ar 3) (ix (sc 2)) a1)) 4 (upd (ar 4) (ix (sc 2)) a2)) la)) (n := 4) (f := (ar 5)) (ws' := (mC cy ad sc (va_up (va_up (va_up ar 3 (upd (ar 3) (ix (sc 2)) a1)) 4 (upd (ar 4) (ix (sc 2)) a2)) 5 (upd (ar 5) (ix (sc 2)) a3)) la)) C rfl 4 0 mC_get5 rfl hf dX7_bridge_97 mC_set5 (fun hf => ?_)
                refine tt_aload_n (pc := 98) (k := 0) C dX7_bridge_98 rfl rfl ?_
                refine tt_dup (pc := 99) C dX7_bridge_99 rfl ?_
                refine tt_get (pc := 100) (ws := (mC cy ad sc (va_up (va_up (va_up ar 3 (upd (ar 3) (ix (sc 2)) a1)) 4 (upd (ar 4) (ix (sc 2)) a2)) 5 (upd (ar 5) (ix (sc 2)) a3)) la)) (ci := 7) (v := .int (sc 2)) C fiX7 rfl 0 mC_obj 2 (by decide) q4_162 rfl dX7_bridge_100 ?_
                refine tt_iconst (pc := 103) (v := (1 : Int32)) C dX7_bridge_103 (by decide) ?_
                refine tt_iadd (pc := 104) C dX7_bridge_104 ?_
                refine tt_put (pc := 105) (ws := (mC cy ad sc (va_up (va_up (va_up ar 3 (upd (ar 3) (ix (sc 2)) a1)) 4 (upd (ar 4) (ix (sc 2)) a2)) 5 (upd (ar 5) (ix (sc 2)) a3)) la)) (ci := 7) (ty := .int) (ws' := (mC cy ad (upd sc 2 ((sc 2) + (1 : Int32))) (va_up (va_up (va_up ar 3 (upd (ar 3) (ix (sc 2)) a1)) 4 (upd (ar 4) (ix (sc 2)) a2)) 5 (upd (ar 5) (ix (sc 2)) a3)) la)) C rfl fiX7 rfl 0 mC_obj 2 (by decide) q4_162 rfl rfl rfl rfl (Nat.le_of_ble_eq_true rfl) dX7_bridge_105 mC_put2 ?_
                refine tt_aload_n (pc := 108) (k := 0) C dX7_bridge_108 rfl rfl ?_
                refine tt_get (pc := 109) (ws := (mC cy ad (upd sc 2 ((sc 2) + (1 : Int32))) (va_up (va_up (va_up ar 3 (upd (ar 3) (ix (sc 2)) a1)) 4 (upd (ar 4) (ix (sc 2)) a2)) 5 (upd (ar 5) (ix (sc 2)) a3)) la)) (ci := 7) (v := .int ((sc 2) + (1 : Int32))) C fiX7 rfl 0 mC_obj 2 (by decide) q4_162 rfl dX7_bridge_109 ?_
                refine tt_iconst (pc := 112) (v := (1 : Int32)) C dX7_bridge_112 (by decide) ?_
                refine tt_isub (pc := 113) C dX7_bridge_113 ?_
                obtain rfl := Option.some.inj hf
                exact tt_ireturn (pc := 114) C rfl rfl rfl dX7_bridge_114
              · refine tt_aload_n (pc := 61) (k := 0) C dX7_bridge_61 rfl rfl ?_
                refine tt_bipush (pc := 62) (v := (-3 : Int32)) C dX7_bridge_62 (by decide) ?_
                obtain ⟨r5, hr5, hf⟩ := bind_some hf
                refine tt_callM (pc := 64) (ws := (mC cy ad sc ar la)) (q0 := 0) (ci := 7) (rest := []) (st' := [.int r5.1]) C rfl (k_X7_no hr5) okX7_no q5_36 rfl mC_obj rfl rfl rfl (Nat.le_of_ble_eq_true rfl) ⟨Nat.le_of_ble_eq_true rfl, Nat.le_of_ble_eq_true rfl⟩ dX7_bridge_64 ?_
                obtain rfl := Option.some.inj hf
                exact tt_ireturn (pc := 67) C rfl rfl rfl dX7_bridge_67
            · refine tt_aload_n (pc := 49) (k := 0) C dX7_bridge_49 rfl rfl ?_
              refine tt_bipush (pc := 50) (v := (-6 : Int32)) C dX7_bridge_50 (by decide) ?_
              obtain ⟨r6, hr6, hf⟩ := bind_some hf
              refine tt_callM (pc := 52) (ws := (mC cy ad sc ar la)) (q0 := 0) (ci := 7) (rest := []) (st' := [.int r6.1]) C rfl (k_X7_no hr6) okX7_no q5_36 rfl mC_obj rfl rfl rfl (Nat.le_of_ble_eq_true rfl) ⟨Nat.le_of_ble_eq_true rfl, Nat.le_of_ble_eq_true rfl⟩ dX7_bridge_52 ?_
              obtain rfl := Option.some.inj hf
              exact tt_ireturn (pc := 55) C rfl rfl rfl dX7_bridge_55
      · refine tt_aload_n (pc := 22) (k := 0) C dX7_bridge_22 rfl rfl ?_
        refine tt_bipush (pc := 23) (v := (-4 : Int32)) C dX7_bridge_23 (by decide) ?_
        obtain ⟨r7, hr7, hf⟩ := bind_some hf
        refine tt_callM (pc := 25) (ws := (mC cy ad sc ar la)) (q0 := 0) (ci := 7) (rest := []) (st' := [.int r7.1]) C rfl (k_X7_no hr7) okX7_no q5_36 rfl mC_obj rfl rfl rfl (Nat.le_of_ble_eq_true rfl) ⟨Nat.le_of_ble_eq_true rfl, Nat.le_of_ble_eq_true rfl⟩ dX7_bridge_25 ?_
        obtain rfl := Option.some.inj hf
        exact tt_ireturn (pc := 28) C rfl rfl rfl dX7_bridge_28
  · refine tt_aload_n (pc := 8) (k := 0) C dX7_bridge_8 rfl rfl ?_
    refine tt_iconst (pc := 9) (v := (-1 : Int32)) C dX7_bridge_9 (by decide) ?_
    obtain ⟨r8, hr8, hf⟩ := bind_some hf
    refine tt_callM (pc := 10) (ws := (mC cy ad sc ar la)) (q0 := 0) (ci := 7) (rest := []) (st' := [.int r8.1]) C rfl (k_X7_no hr8) okX7_no q5_36 rfl mC_obj rfl rfl rfl (Nat.le_of_ble_eq_true rfl) ⟨Nat.le_of_ble_eq_true rfl, Nat.le_of_ble_eq_true rfl⟩ dX7_bridge_10 ?_
    obtain rfl := Option.some.inj hf
    exact tt_ireturn (pc := 13) C rfl rfl rfl dX7_bridge_13
theorem dX7_isBridge_0 : decode cX7_isBridge 0 = .ok (.iload_n 1, 1) := by decide +kernel
theorem dX7_isBridge_1 : decode cX7_isBridge 1 = .ok (.iconst 0, 1) := by decide +kernel
theorem dX7_isBridge_2 : decode cX7_isBridge 2 = .ok (.aload_n 0, 1) := by decide +kernel
theorem dX7_isBridge_3 : decode cX7_isBridge 3 = .ok (.getfield 106, 3) := by decide +kernel
theorem dX7_isBridge_6 : decode cX7_isBridge 6 = .ok (.iconst 1, 1) := by decide +kernel
theorem dX7_isBridge_7 : decode cX7_isBridge 7 = .ok (.isub, 1) := by decide +kernel
theorem dX7_isBridge_8 : decode cX7_isBridge 8 = .ok (.invokestatic 102, 3) := by decide +kernel
theorem dX7_isBridge_11 : decode cX7_isBridge 11 = .ok (.ireturn, 1) := by decide +kernel
set_option maxHeartbeats 4000000 in
set_option maxRecDepth 100000 in
theorem k_X7_isBridge {l : Launch} {D : va_G} {cy : Nat → ClassId} {Bd : Nat} {xa : Xa} {ad : Nat → Nat} {N : Nat} {sc : Nat → Int32} {ar : Nat → Nat → Int32} {la : Nat → Nat → Int64} {a1 : Int32} {out : Int32} (hf : f_X7_isBridge N sc a1 = some out) : KC l yX7_isBridge cX7_isBridge 2 (some .boolean) 1 22 true D cy Bd xa [.ref (ad 0), .int a1] (mC cy ad sc ar la) (some (.int out)) (mC cy ad sc ar la) := by
  refine kc_start (own := RX7) (by decide +kernel) rfl (Nat.le_of_ble_eq_true rfl) ?_
  intro p e s m args below meth c A C
  unfold f_X7_isBridge at hf
  refine tt_locs (L' := [(0, .ref (ad 0)), (1, .int a1)]) [0, 1] rfl ?_
  refine tt_iload_n (pc := 0) (k := 1) C dX7_isBridge_0 rfl rfl ?_
  refine tt_iconst (pc := 1) (v := (0 : Int32)) C dX7_isBridge_1 (by decide) ?_
  refine tt_aload_n (pc := 2) (k := 0) C dX7_isBridge_2 rfl rfl ?_
  refine tt_get (pc := 3) (ws := (mC cy ad sc ar la)) (ci := 7) (v := .int (sc 2)) C fiX7 rfl 0 mC_obj 2 (by decide) q4_162 rfl dX7_isBridge_3 ?_
  refine tt_iconst (pc := 6) (v := (1 : Int32)) C dX7_isBridge_6 (by decide) ?_
  refine tt_isub (pc := 7) C dX7_isBridge_7 ?_
  obtain ⟨r1, hr1, hf⟩ := bind_some hf
  refine tt_callS (pc := 8) (ws := (mC cy ad sc ar la)) (rest := []) (st' := [.int r1]) C (k_X7_in hr1) okX7_in q5_52 (fun _ h => absurd h List.not_mem_nil) rfl rfl rfl (Nat.le_of_ble_eq_true rfl) ⟨Nat.le_of_ble_eq_true rfl, Nat.le_of_ble_eq_true rfl⟩ dX7_isBridge_8 ?_
  obtain ⟨hz, hf⟩ := zchk hf
  obtain rfl := Option.some.inj hf
  exact tt_zreturn (pc := 11) C rfl hz rfl rfl dX7_isBridge_11
theorem dX7_fells_0 : decode cX7_fells 0 = .ok (.aload_n 0, 1) := by decide +kernel
theorem dX7_fells_1 : decode cX7_fells 1 = .ok (.iload_n 1, 1) := by decide +kernel
theorem dX7_fells_2 : decode cX7_fells 2 = .ok (.invokevirtual 125, 3) := by decide +kernel
theorem dX7_fells_5 : decode cX7_fells 5 = .ok (.ifCond .ne 9, 3) := by decide +kernel
theorem dX7_fells_8 : decode cX7_fells 8 = .ok (.aload_n 0, 1) := by decide +kernel
theorem dX7_fells_9 : decode cX7_fells 9 = .ok (.iconst (-1), 1) := by decide +kernel
theorem dX7_fells_10 : decode cX7_fells 10 = .ok (.invokevirtual 98, 3) := by decide +kernel
theorem dX7_fells_13 : decode cX7_fells 13 = .ok (.ireturn, 1) := by decide +kernel
theorem dX7_fells_14 : decode cX7_fells 14 = .ok (.aload_n 0, 1) := by decide +kernel
theorem dX7_fells_15 : decode cX7_fells 15 = .ok (.dup, 1) := by decide +kernel
theorem dX7_fells_16 : decode cX7_fells 16 = .ok (.getfield 106, 3) := by decide +kernel
theorem dX7_fells_19 : decode cX7_fells 19 = .ok (.iconst 1, 1) := by decide +kernel
theorem dX7_fells_20 : decode cX7_fells 20 = .ok (.isub, 1) := by decide +kernel
theorem dX7_fells_21 : decode cX7_fells 21 = .ok (.putfield 106, 3) := by decide +kernel
theorem dX7_fells_24 : decode cX7_fells 24 = .ok (.iload_n 1, 1) := by decide +kernel
theorem dX7_fells_25 : decode cX7_fells 25 = .ok (.istore_n 2, 1) := by decide +kernel
theorem dX7_fells_26 : decode cX7_fells 26 = .ok (.iload_n 2, 1) := by decide +kernel
theorem dX7_fells_27 : decode cX7_fells 27 = .ok (.aload_n 0, 1) := by decide +kernel
theorem dX7_fells_28 : decode cX7_fells 28 = .ok (.getfield 106, 3) := by decide +kernel
theorem dX7_fells_31 : decode cX7_fells 31 = .ok (.if_icmp .ge 51, 3) := by decide +kernel
theorem dX7_fells_34 : decode cX7_fells 34 = .ok (.aload_n 0, 1) := by decide +kernel
theorem dX7_fells_35 : decode cX7_fells 35 = .ok (.getfield 17, 3) := by decide +kernel
theorem dX7_fells_38 : decode cX7_fells 38 = .ok (.iload_n 2, 1) := by decide +kernel
theorem dX7_fells_39 : decode cX7_fells 39 = .ok (.aload_n 0, 1) := by decide +kernel
theorem dX7_fells_40 : decode cX7_fells 40 = .ok (.getfield 17, 3) := by decide +kernel
theorem dX7_fells_43 : decode cX7_fells 43 = .ok (.iload_n 2, 1) := by decide +kernel
theorem dX7_fells_44 : decode cX7_fells 44 = .ok (.iconst 1, 1) := by decide +kernel
theorem dX7_fells_45 : decode cX7_fells 45 = .ok (.iadd, 1) := by decide +kernel
theorem dX7_fells_46 : decode cX7_fells 46 = .ok (.iaload, 1) := by decide +kernel
theorem dX7_fells_47 : decode cX7_fells 47 = .ok (.iastore, 1) := by decide +kernel
theorem dX7_fells_48 : decode cX7_fells 48 = .ok (.aload_n 0, 1) := by decide +kernel
theorem dX7_fells_49 : decode cX7_fells 49 = .ok (.getfield 20, 3) := by decide +kernel
theorem dX7_fells_52 : decode cX7_fells 52 = .ok (.iload_n 2, 1) := by decide +kernel
theorem dX7_fells_53 : decode cX7_fells 53 = .ok (.aload_n 0, 1) := by decide +kernel
theorem dX7_fells_54 : decode cX7_fells 54 = .ok (.getfield 20, 3) := by decide +kernel
theorem dX7_fells_57 : decode cX7_fells 57 = .ok (.iload_n 2, 1) := by decide +kernel
theorem dX7_fells_58 : decode cX7_fells 58 = .ok (.iconst 1, 1) := by decide +kernel
theorem dX7_fells_59 : decode cX7_fells 59 = .ok (.iadd, 1) := by decide +kernel
theorem dX7_fells_60 : decode cX7_fells 60 = .ok (.iaload, 1) := by decide +kernel
theorem dX7_fells_61 : decode cX7_fells 61 = .ok (.iastore, 1) := by decide +kernel
theorem dX7_fells_62 : decode cX7_fells 62 = .ok (.aload_n 0, 1) := by decide +kernel
theorem dX7_fells_63 : decode cX7_fells 63 = .ok (.getfield 23, 3) := by decide +kernel
theorem dX7_fells_66 : decode cX7_fells 66 = .ok (.iload_n 2, 1) := by decide +kernel
theorem dX7_fells_67 : decode cX7_fells 67 = .ok (.aload_n 0, 1) := by decide +kernel
theorem dX7_fells_68 : decode cX7_fells 68 = .ok (.getfield 23, 3) := by decide +kernel
theorem dX7_fells_71 : decode cX7_fells 71 = .ok (.iload_n 2, 1) := by decide +kernel
theorem dX7_fells_72 : decode cX7_fells 72 = .ok (.iconst 1, 1) := by decide +kernel
theorem dX7_fells_73 : decode cX7_fells 73 = .ok (.iadd, 1) := by decide +kernel
theorem dX7_fells_74 : decode cX7_fells 74 = .ok (.iaload, 1) := by decide +kernel
theorem dX7_fells_75 : decode cX7_fells 75 = .ok (.iastore, 1) := by decide +kernel
theorem dX7_fells_76 : decode cX7_fells 76 = .ok (.iinc 2 1, 3) := by decide +kernel
theorem dX7_fells_79 : decode cX7_fells 79 = .ok (.goto (-53), 3) := by decide +kernel
theorem dX7_fells_82 : decode cX7_fells 82 = .ok (.aload_n 0, 1) := by decide +kernel
theorem dX7_fells_83 : decode cX7_fells 83 = .ok (.getfield 106, 3) := by decide +kernel
theorem dX7_fells_86 : decode cX7_fells 86 = .ok (.ireturn, 1) := by decide +kernel
set_option maxHeartbeats 4000000 in
set_option maxRecDepth 100000 in
theorem l_X7_fells_26 {p : Program} {l : Launch} {e : Env} {s : State} {m : MethodId} {args : Array Value} {below : List Frame} {meth : Method} {c : Code} {D : va_G} {cy : Nat → ClassId} {A : Nat → Prop} {Bd : Nat} {xa : Xa} {ad : Nat → Nat} {β : Type} {vO : Option Value} {wO : va_W} {N : Nat} {sc : Nat → Int32} {la : Nat → Nat → Int64} {kx : (Nat → Nat → Int32) → Option (β)} {out : β} (C : CC p s m args meth c cX7_fells RX7 3 (some .int) D cy A false Bd xa) (hk : ∀ (ar1 : Nat → Nat → Int32), kx ar1 = some out → TT p l e { frames := 2, cells := 0, slots := 0, locals := 43 } s m args below meth c 3 D A false vO wO 82 [(0, .ref (ad 0))] [] (mC cy ad sc ar1 la)) {n : Nat} {v2 : Int32} {ar : Nat → Nat → Int32} (hf : f_X7_fells_L26 N sc kx n v2 ar = some out) : TT p l e { frames := 2, cells := 0, slots := 0, locals := 43 } s m args below meth c 3 D A false vO wO 26 [(0, .ref (ad 0)), (2, .int v2)] [] (mC cy ad sc ar la) := by
  induction n generalizing v2 ar with
  | zero => cases hf
  | succ n ih =>
    rw [f_X7_fells_L26] at hf
    refine tt_iload_n (pc := 26) (k := 1) C dX7_fells_26 rfl rfl ?_
    refine tt_aload_n (pc := 27) (k := 0) C dX7_fells_27 rfl rfl ?_
    refine tt_get (pc := 28) (ws := (mC cy ad sc ar la)) (ci := 7) (v := .int (sc 2)) C fiX7 rfl 0 mC_obj 2 (by decide) q4_162 rfl dX7_fells_28 ?_
    refine tt_icmp_ge (pc := 31) (tgt := 82) C dX7_fells_31 (by decide) hf (fun hf => ?_) (fun hf => ?_)
    · exact tt_locs [0] rfl (hk _ hf)
    · refine tt_aload_n (pc := 34) (k := 0) C dX7_fells_34 rfl rfl ?_
      refine tt_get (pc := 35) (ws := (mC cy ad sc ar la)) (ci := 7) (v := .ref (ad 3)) C fiX7 rfl 0 mC_obj 3 (by decide) q4_163 rfl dX7_fells_35 ?_
      refine tt_iload_n (pc := 38) (k := 1) C dX7_fells_38 rfl rfl ?_
      refine tt_aload_n (pc := 39) (k := 0) C dX7_fells_39 rfl rfl ?_
      refine tt_get (pc := 40) (ws := (mC cy ad sc ar la)) (ci := 7) (v := .ref (ad 3)) C fiX7 rfl 0 mC_obj 3 (by decide) q4_163 rfl dX7_fells_40 ?_
      refine tt_iload_n (pc := 43) (k := 1) C dX7_fells_43 rfl rfl ?_
      refine tt_iconst (pc := 44) (v := (1 : Int32)) C dX7_fells_44 (by decide) ?_
      refine tt_iadd (pc := 45) C dX7_fells_45 ?_
      refine tt_iaload (pc := 46) (ws := (mC cy ad sc ar la)) (n := 4) (f := (ar 3)) C 2 0 mC_get3 rfl hf dX7_fells_46 (fun hf => ?_)
      refine tt_iastore (pc := 47) (ws := (mC cy ad sc ar la)) (n := 4) (f := (ar 3)) (ws' := (mC cy ad sc (va_up ar 3 (upd (ar 3) (ix v2) ((ar 3) (ix (v2 + (1 : Int32)))))) la)) C rfl 2 0 mC_get3 rfl hf dX7_fells_47 mC_set3 (fun hf => ?_)
      refine tt_aload_n (pc := 48) (k := 0) C dX7_fells_48 rfl rfl ?_
      refine tt_get (pc := 49) (ws := (mC cy ad sc (va_up ar 3 (upd (ar 3) (ix v2) ((ar 3) (ix (v2 + (1 : Int32)))))) la)) (ci := 7) (v := .ref (ad 4)) C fiX7 rfl 0 mC_obj 4 (by decide) q4_164 rfl dX7_fells_49 ?_
      refine tt_iload_n (pc := 52) (k := 1) C dX7_fells_52 rfl rfl ?_
      refine tt_aload_n (pc := 53) (k := 0) C dX7_fells_53 rfl rfl ?_
      refine tt_get (pc := 54) (ws := (mC cy ad sc (va_up ar 3 (upd (ar 3) (ix v2) ((ar 3) (ix (v2 + (1 : Int32)))))) la)) (ci := 7) (v := .ref (ad 4)) C fiX7 rfl 0 mC_obj 4 (by decide) q4_164 rfl dX7_fells_54 ?_
      refine tt_iload_n (pc := 57) (k := 1) C dX7_fells_57 rfl rfl ?_
      refine tt_iconst (pc := 58) (v := (1 : Int32)) C dX7_fells_58 (by decide) ?_
      refine tt_iadd (pc := 59) C dX7_fells_59 ?_
      refine tt_iaload (pc := 60) (ws := (mC cy ad sc (va_up ar 3 (upd (ar 3) (ix v2) ((ar 3) (ix (v2 + (1 : Int32)))))) la)) (n := 4) (f := (ar 4)) C 3 0 mC_get4 rfl hf dX7_fells_60 (fun hf => ?_)
      refine tt_iastore (pc := 61) (ws := (mC cy ad sc (va_up ar 3 (upd (ar 3) (ix v2) ((ar 3) (ix (v2 + (1 : Int32)))))) la)) (n := 4) (f := (ar 4)) (ws' := (mC cy ad sc (va_up (va_up ar 3 (upd (ar 3) (ix v2) ((ar 3) (ix (v2 + (1 : Int32)))))) 4 (upd (ar 4) (ix v2) ((ar 4) (ix (v2 + (1 : Int32)))))) la)) C rfl 3 0 mC_get4 rfl hf dX7_fells_61 mC_set4 (fun hf => ?_)
      refine tt_aload_n (pc := 62) (k := 0) C dX7_fells_62 rfl rfl ?_
      refine tt_get (pc := 63) (ws := (mC cy ad sc (va_up (va_up ar 3 (upd (ar 3) (ix v2) ((ar 3) (ix (v2 + (1 : Int32)))))) 4 (upd (ar 4) (ix v2) ((ar 4) (ix (v2 + (1 : Int32)))))) la)) (ci := 7) (v := .ref (ad 5)) C fiX7 rfl 0 mC_obj 5 (by decide) q4_165 rfl dX7_fells_63 ?_
      refine tt_iload_n (pc := 66) (k := 1) C dX7_fells_66 rfl rfl ?_
      refine tt_aload_n (pc := 67) (k := 0) C dX7_fells_67 rfl rfl ?_
      refine tt_get (pc := 68) (ws := (mC cy ad sc (va_up (va_up ar 3 (upd (ar 3) (ix v2) ((ar 3) (ix (v2 + (1 : Int32)))))) 4 (upd (ar 4) (ix v2) ((ar 4) (ix (v2 + (1 : Int32)))))) la)) (ci := 7) (v := .ref (ad 5)) C fiX7 rfl 0 mC_obj 5 (by decide) q4_165 rfl dX7_fells_68 ?_
      refine tt_iload_n (pc := 71) (k := 1) C dX7_fells_71 rfl rfl ?_
      refine tt_iconst (pc := 72) (v := (1 : Int32)) C dX7_fells_72 (by decide) ?_
      refine tt_iadd (pc := 73) C dX7_fells_73 ?_
      refine tt_iaload (pc := 74) (ws := (mC cy ad sc (va_up (va_up ar 3 (upd (ar 3) (ix v2) ((ar 3) (ix (v2 + (1 : Int32)))))) 4 (upd (ar 4) (ix v2) ((ar 4) (ix (v2 + (1 : Int32)))))) la)) (n := 4) (f := (ar 5)) C 4 0 mC_get5 rfl hf dX7_fells_74 (fun hf => ?_)
      refine tt_iastore (pc := 75) (ws := (mC cy ad sc (va_up (va_up ar 3 (upd (ar 3) (ix v2) ((ar 3) (ix (v2 + (1 : Int32)))))) 4 (upd (ar 4) (ix v2) ((ar 4) (ix (v2 + (1 : Int32)))))) la)) (n := 4) (f := (ar 5)) (ws' := (mC cy ad sc (va_up (va_up (va_up ar 3 (upd (ar 3) (ix v2) ((ar 3) (ix (v2 + (1 : Int32)))))) 4 (upd (ar 4) (ix v2) ((ar 4) (ix (v2 + (1 : Int32)))))) 5 (upd (ar 5) (ix v2) ((ar 5) (ix (v2 + (1 : Int32)))))) la)) C rfl 4 0 mC_get5 rfl hf dX7_fells_75 mC_set5 (fun hf => ?_)
      refine tt_iinc (pc := 76) (k := 1) (v := (v2 + 1)) (L' := [(2, .int (v2 + 1)), (0, .ref (ad 0))]) C dX7_fells_76 rfl rfl (by decide) rfl ?_
      refine tt_goto (pc := 79) (tgt := 26) C dX7_fells_79 (by decide) ?_
      exact tt_locs [1, 0] rfl (ih hf)
set_option maxHeartbeats 4000000 in
set_option maxRecDepth 100000 in
theorem k_X7_fells {l : Launch} {D : va_G} {cy : Nat → ClassId} {Bd : Nat} {xa : Xa} {ad : Nat → Nat} {N : Nat} {sc : Nat → Int32} {ar : Nat → Nat → Int32} {la : Nat → Nat → Int64} {a1 : Int32} {out : Int32 × (Nat → Int32) × (Nat → Nat → Int32)} (hf : f_X7_fells N sc ar a1 = some out) : KC l yX7_fells cX7_fells 3 (some .int) 2 43 false D cy Bd xa [.ref (ad 0), .int a1] (mC cy ad sc ar la) (some (.int out.1)) (mC cy ad out.2.1 out.2.2 la) := by
  refine kc_start (own := RX7) (by decide +kernel) rfl (Nat.le_of_ble_eq_true rfl) ?_
  intro p e s m args below meth c A C
  unfold f_X7_fells at hf
  refine tt_locs (L' := [(0, .ref (ad 0)), (1, .int a1)]) [0, 1] rfl ?_
  refine tt_aload_n (pc := 0) (k := 0) C dX7_fells_0 rfl rfl ?_
  refine tt_iload_n (pc := 1) (k := 1) C dX7_fells_1 rfl rfl ?_
  obtain ⟨r1, hr1, hf⟩ := bind_some hf
  refine tt_callR (pc := 2) (ws := (mC cy ad sc ar la)) (q0 := 0) (ci := 7) (rest := []) (st' := [.int r1]) C (k_X7_isBridge hr1) okX7_isBridge q5_63 rfl mC_obj (fun _ h => h) rfl rfl rfl (Nat.le_of_ble_eq_true rfl) ⟨Nat.le_of_ble_eq_true rfl, Nat.le_of_ble_eq_true rfl⟩ dX7_fells_2 ?_
  refine tt_if_ne (pc := 5) (tgt := 14) C dX7_fells_5 (by decide) hf (fun hf => ?_) (fun hf => ?_)
  · refine tt_aload_n (pc := 14) (k := 0) C dX7_fells_14 rfl rfl ?_
    refine tt_dup (pc := 15) C dX7_fells_15 rfl ?_
    refine tt_get (pc := 16) (ws := (mC cy ad sc ar la)) (ci := 7) (v := .int (sc 2)) C fiX7 rfl 0 mC_obj 2 (by decide) q4_162 rfl dX7_fells_16 ?_
    refine tt_iconst (pc := 19) (v := (1 : Int32)) C dX7_fells_19 (by decide) ?_
    refine tt_isub (pc := 20) C dX7_fells_20 ?_
    refine tt_put (pc := 21) (ws := (mC cy ad sc ar la)) (ci := 7) (ty := .int) (ws' := (mC cy ad (upd sc 2 ((sc 2) - (1 : Int32))) ar la)) C rfl fiX7 rfl 0 mC_obj 2 (by decide) q4_162 rfl rfl rfl rfl (Nat.le_of_ble_eq_true rfl) dX7_fells_21 mC_put2 ?_
    refine tt_iload_n (pc := 24) (k := 1) C dX7_fells_24 rfl rfl ?_
    refine tt_istore_n (pc := 25) (L' := [(2, .int a1), (0, .ref (ad 0)), (1, .int a1)]) C dX7_fells_25 rfl (by decide) rfl ?_
    refine tt_locs (L' := [(0, .ref (ad 0)), (2, .int a1)]) [1, 0] rfl (l_X7_fells_26 C (fun t2 hf => ?_) hf)
    refine tt_aload_n (pc := 82) (k := 0) C dX7_fells_82 rfl rfl ?_
    refine tt_get (pc := 83) (ws := (mC cy ad (upd sc 2 ((sc 2) - (1 : Int32))) t2 la)) (ci := 7) (v := .int ((sc 2) - (1 : Int32))) C fiX7 rfl 0 mC_obj 2 (by decide) q4_162 rfl dX7_fells_83 ?_
    obtain rfl := Option.some.inj hf
    exact tt_ireturn (pc := 86) C rfl rfl rfl dX7_fells_86
  · refine tt_aload_n (pc := 8) (k := 0) C dX7_fells_8 rfl rfl ?_
    refine tt_iconst (pc := 9) (v := (-1 : Int32)) C dX7_fells_9 (by decide) ?_
    obtain ⟨r3, hr3, hf⟩ := bind_some hf
    refine tt_callM (pc := 10) (ws := (mC cy ad sc ar la)) (q0 := 0) (ci := 7) (rest := []) (st' := [.int r3.1]) C rfl (k_X7_no hr3) okX7_no q5_36 rfl mC_obj rfl rfl rfl (Nat.le_of_ble_eq_true rfl) ⟨Nat.le_of_ble_eq_true rfl, Nat.le_of_ble_eq_true rfl⟩ dX7_fells_10 ?_
    obtain rfl := Option.some.inj hf
    exact tt_ireturn (pc := 13) C rfl rfl rfl dX7_fells_13
theorem dX7_postOn_0 : decode cX7_postOn 0 = .ok (.iconst (-1), 1) := by decide +kernel
theorem dX7_postOn_1 : decode cX7_postOn 1 = .ok (.istore_n 2, 1) := by decide +kernel
theorem dX7_postOn_2 : decode cX7_postOn 2 = .ok (.iconst 0, 1) := by decide +kernel
theorem dX7_postOn_3 : decode cX7_postOn 3 = .ok (.istore_n 3, 1) := by decide +kernel
theorem dX7_postOn_4 : decode cX7_postOn 4 = .ok (.iload_n 3, 1) := by decide +kernel
theorem dX7_postOn_5 : decode cX7_postOn 5 = .ok (.aload_n 0, 1) := by decide +kernel
theorem dX7_postOn_6 : decode cX7_postOn 6 = .ok (.getfield 109, 3) := by decide +kernel
theorem dX7_postOn_9 : decode cX7_postOn 9 = .ok (.if_icmp .ge 25, 3) := by decide +kernel
theorem dX7_postOn_12 : decode cX7_postOn 12 = .ok (.aload_n 0, 1) := by decide +kernel
theorem dX7_postOn_13 : decode cX7_postOn 13 = .ok (.getfield 26, 3) := by decide +kernel
theorem dX7_postOn_16 : decode cX7_postOn 16 = .ok (.iload_n 3, 1) := by decide +kernel
theorem dX7_postOn_17 : decode cX7_postOn 17 = .ok (.iaload, 1) := by decide +kernel
theorem dX7_postOn_18 : decode cX7_postOn 18 = .ok (.iload_n 1, 1) := by decide +kernel
theorem dX7_postOn_19 : decode cX7_postOn 19 = .ok (.if_icmp .ne 7, 3) := by decide +kernel
theorem dX7_postOn_22 : decode cX7_postOn 22 = .ok (.iload_n 3, 1) := by decide +kernel
theorem dX7_postOn_23 : decode cX7_postOn 23 = .ok (.goto 4, 3) := by decide +kernel
theorem dX7_postOn_26 : decode cX7_postOn 26 = .ok (.iload_n 2, 1) := by decide +kernel
theorem dX7_postOn_27 : decode cX7_postOn 27 = .ok (.istore_n 2, 1) := by decide +kernel
theorem dX7_postOn_28 : decode cX7_postOn 28 = .ok (.iinc 3 1, 3) := by decide +kernel
theorem dX7_postOn_31 : decode cX7_postOn 31 = .ok (.goto (-27), 3) := by decide +kernel
theorem dX7_postOn_34 : decode cX7_postOn 34 = .ok (.iload_n 2, 1) := by decide +kernel
theorem dX7_postOn_35 : decode cX7_postOn 35 = .ok (.ireturn, 1) := by decide +kernel
set_option maxHeartbeats 4000000 in
set_option maxRecDepth 100000 in
theorem l_X7_postOn_4 {p : Program} {l : Launch} {e : Env} {s : State} {m : MethodId} {args : Array Value} {below : List Frame} {meth : Method} {c : Code} {D : va_G} {cy : Nat → ClassId} {A : Nat → Prop} {Bd : Nat} {xa : Xa} {ad : Nat → Nat} {β : Type} {vO : Option Value} {wO : va_W} {N : Nat} {sc : Nat → Int32} {ar : Nat → Nat → Int32} {la : Nat → Nat → Int64} {v1 : Int32} {kx : Int32 → Option (β)} {out : β} (C : CC p s m args meth c cX7_postOn RX7 4 (some .int) D cy A true Bd xa) (hk : ∀ (x2 : Int32), kx x2 = some out → TT p l e { frames := 0, cells := 0, slots := 0, locals := 0 } s m args below meth c 4 D A true vO wO 34 [(2, .int x2)] [] (mC cy ad sc ar la)) {n : Nat} {v2 : Int32} {v3 : Int32} (hf : f_X7_postOn_L4 N sc ar v1 kx n v2 v3 = some out) : TT p l e { frames := 0, cells := 0, slots := 0, locals := 0 } s m args below meth c 4 D A true vO wO 4 [(0, .ref (ad 0)), (1, .int v1), (2, .int v2), (3, .int v3)] [] (mC cy ad sc ar la) := by
  induction n generalizing v2 v3 with
  | zero => cases hf
  | succ n ih =>
    rw [f_X7_postOn_L4] at hf
    refine tt_iload_n (pc := 4) (k := 3) C dX7_postOn_4 rfl rfl ?_
    refine tt_aload_n (pc := 5) (k := 0) C dX7_postOn_5 rfl rfl ?_
    refine tt_get (pc := 6) (ws := (mC cy ad sc ar la)) (ci := 7) (v := .int (sc 6)) C fiX7 rfl 0 mC_obj 6 (by decide) q4_166 rfl dX7_postOn_6 ?_
    refine tt_icmp_ge (pc := 9) (tgt := 34) C dX7_postOn_9 (by decide) hf (fun hf => ?_) (fun hf => ?_)
    · exact tt_locs [2] rfl (hk _ hf)
    · refine tt_aload_n (pc := 12) (k := 0) C dX7_postOn_12 rfl rfl ?_
      refine tt_get (pc := 13) (ws := (mC cy ad sc ar la)) (ci := 7) (v := .ref (ad 7)) C fiX7 rfl 0 mC_obj 7 (by decide) q4_167 rfl dX7_postOn_13 ?_
      refine tt_iload_n (pc := 16) (k := 3) C dX7_postOn_16 rfl rfl ?_
      refine tt_iaload (pc := 17) (ws := (mC cy ad sc ar la)) (n := 5) (f := (ar 7)) C 5 0 mC_get7 rfl hf dX7_postOn_17 (fun hf => ?_)
      refine tt_iload_n (pc := 18) (k := 1) C dX7_postOn_18 rfl rfl ?_
      have k2 : TT p l e { frames := 0, cells := 0, slots := 0, locals := 0 } s m args below meth c 4 D A true vO wO 27 [(0, .ref (ad 0)), (1, .int v1), (3, .int v3)] [.int (if ((ar 7) (ix v3)) = v1 then v3 else v2)] (mC cy ad sc ar la) := by
        refine tt_istore_n (pc := 27) (L' := [(2, .int (if ((ar 7) (ix v3)) = v1 then v3 else v2)), (0, .ref (ad 0)), (1, .int v1), (3, .int v3)]) C dX7_postOn_27 rfl (by decide) rfl ?_
        refine tt_iinc (pc := 28) (k := 3) (v := (v3 + 1)) (L' := [(3, .int (v3 + 1)), (2, .int (if ((ar 7) (ix v3)) = v1 then v3 else v2)), (0, .ref (ad 0)), (1, .int v1)]) C dX7_postOn_28 rfl rfl (by decide) rfl ?_
        refine tt_goto (pc := 31) (tgt := 4) C dX7_postOn_31 (by decide) ?_
        exact tt_locs [2, 3, 1, 0] rfl (ih hf)
      refine tr_icmp_ne (pc := 19) (tgt := 26) C dX7_postOn_19 (by decide) (fun c1 => ?_) (fun c1 => ?_)
      · refine tt_iload_n (pc := 26) (k := 2) C dX7_postOn_26 rfl rfl ?_
        try simp only [if_neg c1] at k2 ⊢
        exact tt_locs [0, 1, 3] rfl k2
      · refine tt_iload_n (pc := 22) (k := 3) C dX7_postOn_22 rfl rfl ?_
        refine tt_goto (pc := 23) (tgt := 27) C dX7_postOn_23 (by decide) ?_
        try simp only [if_pos c1] at k2 ⊢
        exact tt_locs [0, 1, 3] rfl k2
set_option maxHeartbeats 4000000 in
set_option maxRecDepth 100000 in
theorem k_X7_postOn {l : Launch} {D : va_G} {cy : Nat → ClassId} {Bd : Nat} {xa : Xa} {ad : Nat → Nat} {N : Nat} {sc : Nat → Int32} {ar : Nat → Nat → Int32} {la : Nat → Nat → Int64} {a1 : Int32} {out : Int32} (hf : f_X7_postOn N sc ar a1 = some out) : KC l yX7_postOn cX7_postOn 4 (some .int) 0 0 true D cy Bd xa [.ref (ad 0), .int a1] (mC cy ad sc ar la) (some (.int out)) (mC cy ad sc ar la) := by
  refine kc_start (own := RX7) (by decide +kernel) rfl (Nat.le_of_ble_eq_true rfl) ?_
  intro p e s m args below meth c A C
  unfold f_X7_postOn at hf
  refine tt_locs (L' := [(0, .ref (ad 0)), (1, .int a1)]) [0, 1] rfl ?_
  refine tt_iconst (pc := 0) (v := (-1 : Int32)) C dX7_postOn_0 (by decide) ?_
  refine tt_istore_n (pc := 1) (L' := [(2, .int (-1 : Int32)), (0, .ref (ad 0)), (1, .int a1)]) C dX7_postOn_1 rfl (by decide) rfl ?_
  refine tt_iconst (pc := 2) (v := (0 : Int32)) C dX7_postOn_2 (by decide) ?_
  refine tt_istore_n (pc := 3) (L' := [(3, .int (0 : Int32)), (2, .int (-1 : Int32)), (0, .ref (ad 0)), (1, .int a1)]) C dX7_postOn_3 rfl (by decide) rfl ?_
  refine tt_locs (L' := [(0, .ref (ad 0)), (1, .int a1), (2, .int (-1 : Int32)), (3, .int (0 : Int32))]) [2, 3, 1, 0] rfl (l_X7_postOn_4 C (fun x2_3 hf => ?_) hf)
  refine tt_iload_n (pc := 34) (k := 0) C dX7_postOn_34 rfl rfl ?_
  obtain rfl := Option.some.inj hf
  exact tt_ireturn (pc := 35) C rfl rfl rfl dX7_postOn_35
theorem dX7_post_0 : decode cX7_post 0 = .ok (.aload_n 0, 1) := by decide +kernel
theorem dX7_post_1 : decode cX7_post 1 = .ok (.iload_n 1, 1) := by decide +kernel
theorem dX7_post_2 : decode cX7_post 2 = .ok (.invokevirtual 121, 3) := by decide +kernel
theorem dX7_post_5 : decode cX7_post 5 = .ok (.ifCond .ne 9, 3) := by decide +kernel
theorem dX7_post_8 : decode cX7_post 8 = .ok (.aload_n 0, 1) := by decide +kernel
theorem dX7_post_9 : decode cX7_post 9 = .ok (.iconst (-1), 1) := by decide +kernel
theorem dX7_post_10 : decode cX7_post 10 = .ok (.invokevirtual 98, 3) := by decide +kernel
theorem dX7_post_13 : decode cX7_post 13 = .ok (.ireturn, 1) := by decide +kernel
theorem dX7_post_14 : decode cX7_post 14 = .ok (.iload_n 2, 1) := by decide +kernel
theorem dX7_post_15 : decode cX7_post 15 = .ok (.ifCond .ge 10, 3) := by decide +kernel
theorem dX7_post_18 : decode cX7_post 18 = .ok (.aload_n 0, 1) := by decide +kernel
theorem dX7_post_19 : decode cX7_post 19 = .ok (.bipush (-4), 2) := by decide +kernel
theorem dX7_post_21 : decode cX7_post 21 = .ok (.invokevirtual 98, 3) := by decide +kernel
theorem dX7_post_24 : decode cX7_post 24 = .ok (.ireturn, 1) := by decide +kernel
theorem dX7_post_25 : decode cX7_post 25 = .ok (.iload_n 2, 1) := by decide +kernel
theorem dX7_post_26 : decode cX7_post 26 = .ok (.bipush 15, 2) := by decide +kernel
theorem dX7_post_28 : decode cX7_post 28 = .ok (.if_icmp .gt 11, 3) := by decide +kernel
theorem dX7_post_31 : decode cX7_post 31 = .ok (.aload_n 0, 1) := by decide +kernel
theorem dX7_post_32 : decode cX7_post 32 = .ok (.getfield 109, 3) := by decide +kernel
theorem dX7_post_35 : decode cX7_post 35 = .ok (.iconst 5, 1) := by decide +kernel
theorem dX7_post_36 : decode cX7_post 36 = .ok (.if_icmp .ne 10, 3) := by decide +kernel
theorem dX7_post_39 : decode cX7_post 39 = .ok (.aload_n 0, 1) := by decide +kernel
theorem dX7_post_40 : decode cX7_post 40 = .ok (.bipush (-6), 2) := by decide +kernel
theorem dX7_post_42 : decode cX7_post 42 = .ok (.invokevirtual 98, 3) := by decide +kernel
theorem dX7_post_45 : decode cX7_post 45 = .ok (.ireturn, 1) := by decide +kernel
theorem dX7_post_46 : decode cX7_post 46 = .ok (.aload_n 0, 1) := by decide +kernel
theorem dX7_post_47 : decode cX7_post 47 = .ok (.iload_n 1, 1) := by decide +kernel
theorem dX7_post_48 : decode cX7_post 48 = .ok (.invokevirtual 128, 3) := by decide +kernel
theorem dX7_post_51 : decode cX7_post 51 = .ok (.ifCond .lt 10, 3) := by decide +kernel
theorem dX7_post_54 : decode cX7_post 54 = .ok (.aload_n 0, 1) := by decide +kernel
theorem dX7_post_55 : decode cX7_post 55 = .ok (.bipush (-3), 2) := by decide +kernel
theorem dX7_post_57 : decode cX7_post 57 = .ok (.invokevirtual 98, 3) := by decide +kernel
theorem dX7_post_60 : decode cX7_post 60 = .ok (.ireturn, 1) := by decide +kernel
theorem dX7_post_61 : decode cX7_post 61 = .ok (.aload_n 0, 1) := by decide +kernel
theorem dX7_post_62 : decode cX7_post 62 = .ok (.getfield 26, 3) := by decide +kernel
theorem dX7_post_65 : decode cX7_post 65 = .ok (.aload_n 0, 1) := by decide +kernel
theorem dX7_post_66 : decode cX7_post 66 = .ok (.getfield 109, 3) := by decide +kernel
theorem dX7_post_69 : decode cX7_post 69 = .ok (.iload_n 1, 1) := by decide +kernel
theorem dX7_post_70 : decode cX7_post 70 = .ok (.iastore, 1) := by decide +kernel
theorem dX7_post_71 : decode cX7_post 71 = .ok (.aload_n 0, 1) := by decide +kernel
theorem dX7_post_72 : decode cX7_post 72 = .ok (.getfield 29, 3) := by decide +kernel
theorem dX7_post_75 : decode cX7_post 75 = .ok (.aload_n 0, 1) := by decide +kernel
theorem dX7_post_76 : decode cX7_post 76 = .ok (.getfield 109, 3) := by decide +kernel
theorem dX7_post_79 : decode cX7_post 79 = .ok (.iload_n 2, 1) := by decide +kernel
theorem dX7_post_80 : decode cX7_post 80 = .ok (.iastore, 1) := by decide +kernel
theorem dX7_post_81 : decode cX7_post 81 = .ok (.aload_n 0, 1) := by decide +kernel
theorem dX7_post_82 : decode cX7_post 82 = .ok (.dup, 1) := by decide +kernel
theorem dX7_post_83 : decode cX7_post 83 = .ok (.getfield 109, 3) := by decide +kernel
theorem dX7_post_86 : decode cX7_post 86 = .ok (.iconst 1, 1) := by decide +kernel
theorem dX7_post_87 : decode cX7_post 87 = .ok (.iadd, 1) := by decide +kernel
theorem dX7_post_88 : decode cX7_post 88 = .ok (.putfield 109, 3) := by decide +kernel
theorem dX7_post_91 : decode cX7_post 91 = .ok (.aload_n 0, 1) := by decide +kernel
theorem dX7_post_92 : decode cX7_post 92 = .ok (.getfield 109, 3) := by decide +kernel
theorem dX7_post_95 : decode cX7_post 95 = .ok (.iconst 1, 1) := by decide +kernel
theorem dX7_post_96 : decode cX7_post 96 = .ok (.isub, 1) := by decide +kernel
theorem dX7_post_97 : decode cX7_post 97 = .ok (.ireturn, 1) := by decide +kernel
set_option maxHeartbeats 4000000 in
set_option maxRecDepth 100000 in
theorem k_X7_post {l : Launch} {D : va_G} {cy : Nat → ClassId} {Bd : Nat} {xa : Xa} {ad : Nat → Nat} {N : Nat} {sc : Nat → Int32} {ar : Nat → Nat → Int32} {la : Nat → Nat → Int64} {a1 : Int32} {a2 : Int32} {out : Int32 × (Nat → Int32) × (Nat → Nat → Int32)} (hf : f_X7_post N sc ar a1 a2 = some out) : KC l yX7_post cX7_post 3 (some .int) 2 43 false D cy Bd xa [.ref (ad 0), .int a1, .int a2] (mC cy ad sc ar la) (some (.int out.1)) (mC cy ad out.2.1 out.2.2 la) := by
  refine kc_start (own := RX7) (by decide +kernel) rfl (Nat.le_of_ble_eq_true rfl) ?_
  intro p e s m args below meth c A C
  unfold f_X7_post at hf
  refine tt_locs (L' := [(0, .ref (ad 0)), (1, .int a1), (2, .int a2)]) [0, 1, 2] rfl ?_
  refine tt_aload_n (pc := 0) (k := 0) C dX7_post_0 rfl rfl ?_
  refine tt_iload_n (pc := 1) (k := 1) C dX7_post_1 rfl rfl ?_
  obtain ⟨r1, hr1, hf⟩ := bind_some hf
  refine tt_callR (pc := 2) (ws := (mC cy ad sc ar la)) (q0 := 0) (ci := 7) (rest := []) (st' := [.int r1]) C (k_X7_isCell hr1) okX7_isCell q5_48 rfl mC_obj (fun _ h => h) rfl rfl rfl (Nat.le_of_ble_eq_true rfl) ⟨Nat.le_of_ble_eq_true rfl, Nat.le_of_ble_eq_true rfl⟩ dX7_post_2 ?_
  refine tt_if_ne (pc := 5) (tgt := 14) C dX7_post_5 (by decide) hf (fun hf => ?_) (fun hf => ?_)
  · refine tt_iload_n (pc := 14) (k := 2) C dX7_post_14 rfl rfl ?_
    refine tt_if_ge (pc := 15) (tgt := 25) C dX7_post_15 (by decide) hf (fun hf => ?_) (fun hf => ?_)
    · refine tt_iload_n (pc := 25) (k := 2) C dX7_post_25 rfl rfl ?_
      refine tt_bipush (pc := 26) (v := (15 : Int32)) C dX7_post_26 (by decide) ?_
      refine tt_icmp_gt (pc := 28) (tgt := 39) C dX7_post_28 (by decide) hf (fun hf => ?_) (fun hf => ?_)
      · refine tt_aload_n (pc := 39) (k := 0) C dX7_post_39 rfl rfl ?_
        refine tt_bipush (pc := 40) (v := (-6 : Int32)) C dX7_post_40 (by decide) ?_
        obtain ⟨r2, hr2, hf⟩ := bind_some hf
        refine tt_callM (pc := 42) (ws := (mC cy ad sc ar la)) (q0 := 0) (ci := 7) (rest := []) (st' := [.int r2.1]) C rfl (k_X7_no hr2) okX7_no q5_36 rfl mC_obj rfl rfl rfl (Nat.le_of_ble_eq_true rfl) ⟨Nat.le_of_ble_eq_true rfl, Nat.le_of_ble_eq_true rfl⟩ dX7_post_42 ?_
        obtain rfl := Option.some.inj hf
        exact tt_ireturn (pc := 45) C rfl rfl rfl dX7_post_45
      · refine tt_aload_n (pc := 31) (k := 0) C dX7_post_31 rfl rfl ?_
        refine tt_get (pc := 32) (ws := (mC cy ad sc ar la)) (ci := 7) (v := .int (sc 6)) C fiX7 rfl 0 mC_obj 6 (by decide) q4_166 rfl dX7_post_32 ?_
        refine tt_iconst (pc := 35) (v := (5 : Int32)) C dX7_post_35 (by decide) ?_
        refine tt_icmp_ne (pc := 36) (tgt := 46) C dX7_post_36 (by decide) hf (fun hf => ?_) (fun hf => ?_)
        · refine tt_aload_n (pc := 46) (k := 0) C dX7_post_46 rfl rfl ?_
          refine tt_iload_n (pc := 47) (k := 1) C dX7_post_47 rfl rfl ?_
          obtain ⟨r3, hr3, hf⟩ := bind_some hf
          refine tt_callR (pc := 48) (ws := (mC cy ad sc ar la)) (q0 := 0) (ci := 7) (rest := []) (st' := [.int r3]) C (k_X7_postOn hr3) okX7_postOn q5_71 rfl mC_obj (fun _ h => h) rfl rfl rfl (Nat.le_of_ble_eq_true rfl) ⟨Nat.le_of_ble_eq_true rfl, Nat.le_of_ble_eq_true rfl⟩ dX7_post_48 ?_
          refine tt_if_lt (pc := 51) (tgt := 61) C dX7_post_51 (by decide) hf (fun hf => ?_) (fun hf => ?_)
          · refine tt_aload_n (pc := 61) (k := 0) C dX7_post_61 rfl rfl ?_
            refine tt_get (pc := 62) (ws := (mC cy ad sc ar la)) (ci := 7) (v := .ref (ad 7)) C fiX7 rfl 0 mC_obj 7 (by decide) q4_167 rfl dX7_post_62 ?_
            refine tt_aload_n (pc := 65) (k := 0) C dX7_post_65 rfl rfl ?_
            refine tt_get (pc := 66) (ws := (mC cy ad sc ar la)) (ci := 7) (v := .int (sc 6)) C fiX7 rfl 0 mC_obj 6 (by decide) q4_166 rfl dX7_post_66 ?_
            refine tt_iload_n (pc := 69) (k := 1) C dX7_post_69 rfl rfl ?_
            refine tt_iastore (pc := 70) (ws := (mC cy ad sc ar la)) (n := 5) (f := (ar 7)) (ws' := (mC cy ad sc (va_up ar 7 (upd (ar 7) (ix (sc 6)) a1)) la)) C rfl 5 0 mC_get7 rfl hf dX7_post_70 mC_set7 (fun hf => ?_)
            refine tt_aload_n (pc := 71) (k := 0) C dX7_post_71 rfl rfl ?_
            refine tt_get (pc := 72) (ws := (mC cy ad sc (va_up ar 7 (upd (ar 7) (ix (sc 6)) a1)) la)) (ci := 7) (v := .ref (ad 8)) C fiX7 rfl 0 mC_obj 8 (by decide) q4_168 rfl dX7_post_72 ?_
            refine tt_aload_n (pc := 75) (k := 0) C dX7_post_75 rfl rfl ?_
            refine tt_get (pc := 76) (ws := (mC cy ad sc (va_up ar 7 (upd (ar 7) (ix (sc 6)) a1)) la)) (ci := 7) (v := .int (sc 6)) C fiX7 rfl 0 mC_obj 6 (by decide) q4_166 rfl dX7_post_76 ?_
            refine tt_iload_n (pc := 79) (k := 2) C dX7_post_79 rfl rfl ?_
            refine tt_iastore (pc := 80) (ws := (mC cy ad sc (va_up ar 7 (upd (ar 7) (ix (sc 6)) a1)) la)) (n := 5) (f := (ar 8)) (ws' := (mC cy ad sc (va_up (va_up ar 7 (upd (ar 7) (ix (sc 6)) a1)) 8 (upd (ar 8) (ix (sc 6)) a2)) la)) C rfl 6 0 mC_get8 rfl hf dX7_post_80 mC_set8 (fun hf => ?_)
            refine tt_aload_n (pc := 81) (k := 0) C dX7_post_81 rfl rfl ?_
            refine tt_dup (pc := 82) C dX7_post_82 rfl ?_
            refine tt_get (pc := 83) (ws := (mC cy ad sc (va_up (va_up ar 7 (upd (ar 7) (ix (sc 6)) a1)) 8 (upd (ar 8) (ix (sc 6)) a2)) la)) (ci := 7) (v := .int (sc 6)) C fiX7 rfl 0 mC_obj 6 (by decide) q4_166 rfl dX7_post_83 ?_
            refine tt_iconst (pc := 86) (v := (1 : Int32)) C dX7_post_86 (by decide) ?_
            refine tt_iadd (pc := 87) C dX7_post_87 ?_
            refine tt_put (pc := 88) (ws := (mC cy ad sc (va_up (va_up ar 7 (upd (ar 7) (ix (sc 6)) a1)) 8 (upd (ar 8) (ix (sc 6)) a2)) la)) (ci := 7) (ty := .int) (ws' := (mC cy ad (upd sc 6 ((sc 6) + (1 : Int32))) (va_up (va_up ar 7 (upd (ar 7) (ix (sc 6)) a1)) 8 (upd (ar 8) (ix (sc 6)) a2)) la)) C rfl fiX7 rfl 0 mC_obj 6 (by decide) q4_166 rfl rfl rfl rfl (Nat.le_of_ble_eq_true rfl) dX7_post_88 mC_put6 ?_
            refine tt_aload_n (pc := 91) (k := 0) C dX7_post_91 rfl rfl ?_
            refine tt_get (pc := 92) (ws := (mC cy ad (upd sc 6 ((sc 6) + (1 : Int32))) (va_up (va_up ar 7 (upd (ar 7) (ix (sc 6)) a1)) 8 (upd (ar 8) (ix (sc 6)) a2)) la)) (ci := 7) (v := .int ((sc 6) + (1 : Int32))) C fiX7 rfl 0 mC_obj 6 (by decide) q4_166 rfl dX7_post_92 ?_
            refine tt_iconst (pc := 95) (v := (1 : Int32)) C dX7_post_95 (by decide) ?_
            refine tt_isub (pc := 96) C dX7_post_96 ?_
            obtain rfl := Option.some.inj hf
            exact tt_ireturn (pc := 97) C rfl rfl rfl dX7_post_97
          · refine tt_aload_n (pc := 54) (k := 0) C dX7_post_54 rfl rfl ?_
            refine tt_bipush (pc := 55) (v := (-3 : Int32)) C dX7_post_55 (by decide) ?_
            obtain ⟨r4, hr4, hf⟩ := bind_some hf
            refine tt_callM (pc := 57) (ws := (mC cy ad sc ar la)) (q0 := 0) (ci := 7) (rest := []) (st' := [.int r4.1]) C rfl (k_X7_no hr4) okX7_no q5_36 rfl mC_obj rfl rfl rfl (Nat.le_of_ble_eq_true rfl) ⟨Nat.le_of_ble_eq_true rfl, Nat.le_of_ble_eq_true rfl⟩ dX7_post_57 ?_
            obtain rfl := Option.some.inj hf
            exact tt_ireturn (pc := 60) C rfl rfl rfl dX7_post_60
        · refine tt_aload_n (pc := 39) (k := 0) C dX7_post_39 rfl rfl ?_
          refine tt_bipush (pc := 40) (v := (-6 : Int32)) C dX7_post_40 (by decide) ?_
          obtain ⟨r5, hr5, hf⟩ := bind_some hf
          refine tt_callM (pc := 42) (ws := (mC cy ad sc ar la)) (q0 := 0) (ci := 7) (rest := []) (st' := [.int r5.1]) C rfl (k_X7_no hr5) okX7_no q5_36 rfl mC_obj rfl rfl rfl (Nat.le_of_ble_eq_true rfl) ⟨Nat.le_of_ble_eq_true rfl, Nat.le_of_ble_eq_true rfl⟩ dX7_post_42 ?_
          obtain rfl := Option.some.inj hf
          exact tt_ireturn (pc := 45) C rfl rfl rfl dX7_post_45
    · refine tt_aload_n (pc := 18) (k := 0) C dX7_post_18 rfl rfl ?_
      refine tt_bipush (pc := 19) (v := (-4 : Int32)) C dX7_post_19 (by decide) ?_
      obtain ⟨r6, hr6, hf⟩ := bind_some hf
      refine tt_callM (pc := 21) (ws := (mC cy ad sc ar la)) (q0 := 0) (ci := 7) (rest := []) (st' := [.int r6.1]) C rfl (k_X7_no hr6) okX7_no q5_36 rfl mC_obj rfl rfl rfl (Nat.le_of_ble_eq_true rfl) ⟨Nat.le_of_ble_eq_true rfl, Nat.le_of_ble_eq_true rfl⟩ dX7_post_21 ?_
      obtain rfl := Option.some.inj hf
      exact tt_ireturn (pc := 24) C rfl rfl rfl dX7_post_24
  · refine tt_aload_n (pc := 8) (k := 0) C dX7_post_8 rfl rfl ?_
    refine tt_iconst (pc := 9) (v := (-1 : Int32)) C dX7_post_9 (by decide) ?_
    obtain ⟨r7, hr7, hf⟩ := bind_some hf
    refine tt_callM (pc := 10) (ws := (mC cy ad sc ar la)) (q0 := 0) (ci := 7) (rest := []) (st' := [.int r7.1]) C rfl (k_X7_no hr7) okX7_no q5_36 rfl mC_obj rfl rfl rfl (Nat.le_of_ble_eq_true rfl) ⟨Nat.le_of_ble_eq_true rfl, Nat.le_of_ble_eq_true rfl⟩ dX7_post_10 ?_
    obtain rfl := Option.some.inj hf
    exact tt_ireturn (pc := 13) C rfl rfl rfl dX7_post_13
theorem dX7_isPost_0 : decode cX7_isPost 0 = .ok (.iload_n 1, 1) := by decide +kernel
theorem dX7_isPost_1 : decode cX7_isPost 1 = .ok (.iconst 0, 1) := by decide +kernel
theorem dX7_isPost_2 : decode cX7_isPost 2 = .ok (.aload_n 0, 1) := by decide +kernel
theorem dX7_isPost_3 : decode cX7_isPost 3 = .ok (.getfield 109, 3) := by decide +kernel
theorem dX7_isPost_6 : decode cX7_isPost 6 = .ok (.iconst 1, 1) := by decide +kernel
theorem dX7_isPost_7 : decode cX7_isPost 7 = .ok (.isub, 1) := by decide +kernel
theorem dX7_isPost_8 : decode cX7_isPost 8 = .ok (.invokestatic 102, 3) := by decide +kernel
theorem dX7_isPost_11 : decode cX7_isPost 11 = .ok (.ireturn, 1) := by decide +kernel
set_option maxHeartbeats 4000000 in
set_option maxRecDepth 100000 in
theorem k_X7_isPost {l : Launch} {D : va_G} {cy : Nat → ClassId} {Bd : Nat} {xa : Xa} {ad : Nat → Nat} {N : Nat} {sc : Nat → Int32} {ar : Nat → Nat → Int32} {la : Nat → Nat → Int64} {a1 : Int32} {out : Int32} (hf : f_X7_isPost N sc a1 = some out) : KC l yX7_isPost cX7_isPost 2 (some .boolean) 1 22 true D cy Bd xa [.ref (ad 0), .int a1] (mC cy ad sc ar la) (some (.int out)) (mC cy ad sc ar la) := by
  refine kc_start (own := RX7) (by decide +kernel) rfl (Nat.le_of_ble_eq_true rfl) ?_
  intro p e s m args below meth c A C
  unfold f_X7_isPost at hf
  refine tt_locs (L' := [(0, .ref (ad 0)), (1, .int a1)]) [0, 1] rfl ?_
  refine tt_iload_n (pc := 0) (k := 1) C dX7_isPost_0 rfl rfl ?_
  refine tt_iconst (pc := 1) (v := (0 : Int32)) C dX7_isPost_1 (by decide) ?_
  refine tt_aload_n (pc := 2) (k := 0) C dX7_isPost_2 rfl rfl ?_
  refine tt_get (pc := 3) (ws := (mC cy ad sc ar la)) (ci := 7) (v := .int (sc 6)) C fiX7 rfl 0 mC_obj 6 (by decide) q4_166 rfl dX7_isPost_3 ?_
  refine tt_iconst (pc := 6) (v := (1 : Int32)) C dX7_isPost_6 (by decide) ?_
  refine tt_isub (pc := 7) C dX7_isPost_7 ?_
  obtain ⟨r1, hr1, hf⟩ := bind_some hf
  refine tt_callS (pc := 8) (ws := (mC cy ad sc ar la)) (rest := []) (st' := [.int r1]) C (k_X7_in hr1) okX7_in q5_52 (fun _ h => absurd h List.not_mem_nil) rfl rfl rfl (Nat.le_of_ble_eq_true rfl) ⟨Nat.le_of_ble_eq_true rfl, Nat.le_of_ble_eq_true rfl⟩ dX7_isPost_8 ?_
  obtain ⟨hz, hf⟩ := zchk hf
  obtain rfl := Option.some.inj hf
  exact tt_zreturn (pc := 11) C rfl hz rfl rfl dX7_isPost_11
theorem dX7_sets_0 : decode cX7_sets 0 = .ok (.aload_n 0, 1) := by decide +kernel
theorem dX7_sets_1 : decode cX7_sets 1 = .ok (.iload_n 1, 1) := by decide +kernel
theorem dX7_sets_2 : decode cX7_sets 2 = .ok (.invokevirtual 131, 3) := by decide +kernel
theorem dX7_sets_5 : decode cX7_sets 5 = .ok (.ifCond .eq 11, 3) := by decide +kernel
theorem dX7_sets_8 : decode cX7_sets 8 = .ok (.aload_n 0, 1) := by decide +kernel
theorem dX7_sets_9 : decode cX7_sets 9 = .ok (.iload_n 2, 1) := by decide +kernel
theorem dX7_sets_10 : decode cX7_sets 10 = .ok (.invokevirtual 121, 3) := by decide +kernel
theorem dX7_sets_13 : decode cX7_sets 13 = .ok (.ifCond .ne 9, 3) := by decide +kernel
theorem dX7_sets_16 : decode cX7_sets 16 = .ok (.aload_n 0, 1) := by decide +kernel
theorem dX7_sets_17 : decode cX7_sets 17 = .ok (.iconst (-1), 1) := by decide +kernel
theorem dX7_sets_18 : decode cX7_sets 18 = .ok (.invokevirtual 98, 3) := by decide +kernel
theorem dX7_sets_21 : decode cX7_sets 21 = .ok (.ireturn, 1) := by decide +kernel
theorem dX7_sets_22 : decode cX7_sets 22 = .ok (.iload_n 3, 1) := by decide +kernel
theorem dX7_sets_23 : decode cX7_sets 23 = .ok (.ifCond .ge 10, 3) := by decide +kernel
theorem dX7_sets_26 : decode cX7_sets 26 = .ok (.aload_n 0, 1) := by decide +kernel
theorem dX7_sets_27 : decode cX7_sets 27 = .ok (.bipush (-4), 2) := by decide +kernel
theorem dX7_sets_29 : decode cX7_sets 29 = .ok (.invokevirtual 98, 3) := by decide +kernel
theorem dX7_sets_32 : decode cX7_sets 32 = .ok (.ireturn, 1) := by decide +kernel
theorem dX7_sets_33 : decode cX7_sets 33 = .ok (.iload_n 3, 1) := by decide +kernel
theorem dX7_sets_34 : decode cX7_sets 34 = .ok (.bipush 15, 2) := by decide +kernel
theorem dX7_sets_36 : decode cX7_sets 36 = .ok (.if_icmp .le 10, 3) := by decide +kernel
theorem dX7_sets_39 : decode cX7_sets 39 = .ok (.aload_n 0, 1) := by decide +kernel
theorem dX7_sets_40 : decode cX7_sets 40 = .ok (.bipush (-6), 2) := by decide +kernel
theorem dX7_sets_42 : decode cX7_sets 42 = .ok (.invokevirtual 98, 3) := by decide +kernel
theorem dX7_sets_45 : decode cX7_sets 45 = .ok (.ireturn, 1) := by decide +kernel
theorem dX7_sets_46 : decode cX7_sets 46 = .ok (.aload_n 0, 1) := by decide +kernel
theorem dX7_sets_47 : decode cX7_sets 47 = .ok (.iload_n 2, 1) := by decide +kernel
theorem dX7_sets_48 : decode cX7_sets 48 = .ok (.invokevirtual 128, 3) := by decide +kernel
theorem dX7_sets_51 : decode cX7_sets 51 = .ok (.ifCond .lt 19, 3) := by decide +kernel
theorem dX7_sets_54 : decode cX7_sets 54 = .ok (.aload_n 0, 1) := by decide +kernel
theorem dX7_sets_55 : decode cX7_sets 55 = .ok (.iload_n 2, 1) := by decide +kernel
theorem dX7_sets_56 : decode cX7_sets 56 = .ok (.invokevirtual 128, 3) := by decide +kernel
theorem dX7_sets_59 : decode cX7_sets 59 = .ok (.iload_n 1, 1) := by decide +kernel
theorem dX7_sets_60 : decode cX7_sets 60 = .ok (.if_icmp .eq 10, 3) := by decide +kernel
theorem dX7_sets_63 : decode cX7_sets 63 = .ok (.aload_n 0, 1) := by decide +kernel
theorem dX7_sets_64 : decode cX7_sets 64 = .ok (.bipush (-3), 2) := by decide +kernel
theorem dX7_sets_66 : decode cX7_sets 66 = .ok (.invokevirtual 98, 3) := by decide +kernel
theorem dX7_sets_69 : decode cX7_sets 69 = .ok (.ireturn, 1) := by decide +kernel
theorem dX7_sets_70 : decode cX7_sets 70 = .ok (.bipush 100, 2) := by decide +kernel
theorem dX7_sets_72 : decode cX7_sets 72 = .ok (.aload_n 0, 1) := by decide +kernel
theorem dX7_sets_73 : decode cX7_sets 73 = .ok (.getfield 26, 3) := by decide +kernel
theorem dX7_sets_76 : decode cX7_sets 76 = .ok (.iload_n 1, 1) := by decide +kernel
theorem dX7_sets_77 : decode cX7_sets 77 = .ok (.iaload, 1) := by decide +kernel
theorem dX7_sets_78 : decode cX7_sets 78 = .ok (.imul, 1) := by decide +kernel
theorem dX7_sets_79 : decode cX7_sets 79 = .ok (.aload_n 0, 1) := by decide +kernel
theorem dX7_sets_80 : decode cX7_sets 80 = .ok (.getfield 29, 3) := by decide +kernel
theorem dX7_sets_83 : decode cX7_sets 83 = .ok (.iload_n 1, 1) := by decide +kernel
theorem dX7_sets_84 : decode cX7_sets 84 = .ok (.iaload, 1) := by decide +kernel
theorem dX7_sets_85 : decode cX7_sets 85 = .ok (.iadd, 1) := by decide +kernel
theorem dX7_sets_86 : decode cX7_sets 86 = .ok (.istore 4, 2) := by decide +kernel
theorem dX7_sets_88 : decode cX7_sets 88 = .ok (.aload_n 0, 1) := by decide +kernel
theorem dX7_sets_89 : decode cX7_sets 89 = .ok (.getfield 26, 3) := by decide +kernel
theorem dX7_sets_92 : decode cX7_sets 92 = .ok (.iload_n 1, 1) := by decide +kernel
theorem dX7_sets_93 : decode cX7_sets 93 = .ok (.iload_n 2, 1) := by decide +kernel
theorem dX7_sets_94 : decode cX7_sets 94 = .ok (.iastore, 1) := by decide +kernel
theorem dX7_sets_95 : decode cX7_sets 95 = .ok (.aload_n 0, 1) := by decide +kernel
theorem dX7_sets_96 : decode cX7_sets 96 = .ok (.getfield 29, 3) := by decide +kernel
theorem dX7_sets_99 : decode cX7_sets 99 = .ok (.iload_n 1, 1) := by decide +kernel
theorem dX7_sets_100 : decode cX7_sets 100 = .ok (.iload_n 3, 1) := by decide +kernel
theorem dX7_sets_101 : decode cX7_sets 101 = .ok (.iastore, 1) := by decide +kernel
theorem dX7_sets_102 : decode cX7_sets 102 = .ok (.iload 4, 2) := by decide +kernel
theorem dX7_sets_104 : decode cX7_sets 104 = .ok (.ireturn, 1) := by decide +kernel
set_option maxHeartbeats 4000000 in
set_option maxRecDepth 100000 in
theorem k_X7_sets {l : Launch} {D : va_G} {cy : Nat → ClassId} {Bd : Nat} {xa : Xa} {ad : Nat → Nat} {N : Nat} {sc : Nat → Int32} {ar : Nat → Nat → Int32} {la : Nat → Nat → Int64} {a1 : Int32} {a2 : Int32} {a3 : Int32} {out : Int32 × (Nat → Nat → Int32)} (hf : f_X7_sets N sc ar a1 a2 a3 = some out) : KC l yX7_sets cX7_sets 5 (some .int) 2 43 false D cy Bd xa [.ref (ad 0), .int a1, .int a2, .int a3] (mC cy ad sc ar la) (some (.int out.1)) (mC cy ad sc out.2 la) := by
  refine kc_start (own := RX7) (by decide +kernel) rfl (Nat.le_of_ble_eq_true rfl) ?_
  intro p e s m args below meth c A C
  unfold f_X7_sets at hf
  refine tt_locs (L' := [(0, .ref (ad 0)), (1, .int a1), (2, .int a2), (3, .int a3)]) [0, 1, 2, 3] rfl ?_
  refine tt_aload_n (pc := 0) (k := 0) C dX7_sets_0 rfl rfl ?_
  refine tt_iload_n (pc := 1) (k := 1) C dX7_sets_1 rfl rfl ?_
  obtain ⟨r1, hr1, hf⟩ := bind_some hf
  refine tt_callR (pc := 2) (ws := (mC cy ad sc ar la)) (q0 := 0) (ci := 7) (rest := []) (st' := [.int r1]) C (k_X7_isPost hr1) okX7_isPost q5_79 rfl mC_obj (fun _ h => h) rfl rfl rfl (Nat.le_of_ble_eq_true rfl) ⟨Nat.le_of_ble_eq_true rfl, Nat.le_of_ble_eq_true rfl⟩ dX7_sets_2 ?_
  refine tt_if_eq (pc := 5) (tgt := 16) C dX7_sets_5 (by decide) hf (fun hf => ?_) (fun hf => ?_)
  · refine tt_aload_n (pc := 16) (k := 0) C dX7_sets_16 rfl rfl ?_
    refine tt_iconst (pc := 17) (v := (-1 : Int32)) C dX7_sets_17 (by decide) ?_
    obtain ⟨r2, hr2, hf⟩ := bind_some hf
    refine tt_callM (pc := 18) (ws := (mC cy ad sc ar la)) (q0 := 0) (ci := 7) (rest := []) (st' := [.int r2.1]) C rfl (k_X7_no hr2) okX7_no q5_36 rfl mC_obj rfl rfl rfl (Nat.le_of_ble_eq_true rfl) ⟨Nat.le_of_ble_eq_true rfl, Nat.le_of_ble_eq_true rfl⟩ dX7_sets_18 ?_
    obtain rfl := Option.some.inj hf
    exact tt_ireturn (pc := 21) C rfl rfl rfl dX7_sets_21
  · refine tt_aload_n (pc := 8) (k := 0) C dX7_sets_8 rfl rfl ?_
    refine tt_iload_n (pc := 9) (k := 2) C dX7_sets_9 rfl rfl ?_
    obtain ⟨r3, hr3, hf⟩ := bind_some hf
    refine tt_callR (pc := 10) (ws := (mC cy ad sc ar la)) (q0 := 0) (ci := 7) (rest := []) (st' := [.int r3]) C (k_X7_isCell hr3) okX7_isCell q5_48 rfl mC_obj (fun _ h => h) rfl rfl rfl (Nat.le_of_ble_eq_true rfl) ⟨Nat.le_of_ble_eq_true rfl, Nat.le_of_ble_eq_true rfl⟩ dX7_sets_10 ?_
    refine tt_if_ne (pc := 13) (tgt := 22) C dX7_sets_13 (by decide) hf (fun hf => ?_) (fun hf => ?_)
    · refine tt_iload_n (pc := 22) (k := 3) C dX7_sets_22 rfl rfl ?_
      refine tt_if_ge (pc := 23) (tgt := 33) C dX7_sets_23 (by decide) hf (fun hf => ?_) (fun hf => ?_)
      · refine tt_iload_n (pc := 33) (k := 3) C dX7_sets_33 rfl rfl ?_
        refine tt_bipush (pc := 34) (v := (15 : Int32)) C dX7_sets_34 (by decide) ?_
        refine tt_icmp_le (pc := 36) (tgt := 46) C dX7_sets_36 (by decide) hf (fun hf => ?_) (fun hf => ?_)
        · refine tt_aload_n (pc := 46) (k := 0) C dX7_sets_46 rfl rfl ?_
          refine tt_iload_n (pc := 47) (k := 2) C dX7_sets_47 rfl rfl ?_
          obtain ⟨r4, hr4, hf⟩ := bind_some hf
          refine tt_callR (pc := 48) (ws := (mC cy ad sc ar la)) (q0 := 0) (ci := 7) (rest := []) (st' := [.int r4]) C (k_X7_postOn hr4) okX7_postOn q5_71 rfl mC_obj (fun _ h => h) rfl rfl rfl (Nat.le_of_ble_eq_true rfl) ⟨Nat.le_of_ble_eq_true rfl, Nat.le_of_ble_eq_true rfl⟩ dX7_sets_48 ?_
          refine tt_if_lt (pc := 51) (tgt := 70) C dX7_sets_51 (by decide) hf (fun hf => ?_) (fun hf => ?_)
          · refine tt_bipush (pc := 70) (v := (100 : Int32)) C dX7_sets_70 (by decide) ?_
            refine tt_aload_n (pc := 72) (k := 0) C dX7_sets_72 rfl rfl ?_
            refine tt_get (pc := 73) (ws := (mC cy ad sc ar la)) (ci := 7) (v := .ref (ad 7)) C fiX7 rfl 0 mC_obj 7 (by decide) q4_167 rfl dX7_sets_73 ?_
            refine tt_iload_n (pc := 76) (k := 1) C dX7_sets_76 rfl rfl ?_
            refine tt_iaload (pc := 77) (ws := (mC cy ad sc ar la)) (n := 5) (f := (ar 7)) C 5 0 mC_get7 rfl hf dX7_sets_77 (fun hf => ?_)
            refine tt_imul (pc := 78) C dX7_sets_78 ?_
            refine tt_aload_n (pc := 79) (k := 0) C dX7_sets_79 rfl rfl ?_
            refine tt_get (pc := 80) (ws := (mC cy ad sc ar la)) (ci := 7) (v := .ref (ad 8)) C fiX7 rfl 0 mC_obj 8 (by decide) q4_168 rfl dX7_sets_80 ?_
            refine tt_iload_n (pc := 83) (k := 1) C dX7_sets_83 rfl rfl ?_
            refine tt_iaload (pc := 84) (ws := (mC cy ad sc ar la)) (n := 5) (f := (ar 8)) C 6 0 mC_get8 rfl hf dX7_sets_84 (fun hf => ?_)
            refine tt_iadd (pc := 85) C dX7_sets_85 ?_
            refine tt_istore (pc := 86) (L' := [(4, .int (((100 : Int32) * ((ar 7) (ix a1))) + ((ar 8) (ix a1)))), (0, .ref (ad 0)), (1, .int a1), (2, .int a2), (3, .int a3)]) C dX7_sets_86 (by decide) rfl ?_
            refine tt_aload_n (pc := 88) (k := 1) C dX7_sets_88 rfl rfl ?_
            refine tt_get (pc := 89) (ws := (mC cy ad sc ar la)) (ci := 7) (v := .ref (ad 7)) C fiX7 rfl 0 mC_obj 7 (by decide) q4_167 rfl dX7_sets_89 ?_
            refine tt_iload_n (pc := 92) (k := 2) C dX7_sets_92 rfl rfl ?_
            refine tt_iload_n (pc := 93) (k := 3) C dX7_sets_93 rfl rfl ?_
            refine tt_iastore (pc := 94) (ws := (mC cy ad sc ar la)) (n := 5) (f := (ar 7)) (ws' := (mC cy ad sc (va_up ar 7 (upd (ar 7) (ix a1) a2)) la)) C rfl 5 0 mC_get7 rfl hf dX7_sets_94 mC_set7 (fun hf => ?_)
            refine tt_aload_n (pc := 95) (k := 1) C dX7_sets_95 rfl rfl ?_
            refine tt_get (pc := 96) (ws := (mC cy ad sc (va_up ar 7 (upd (ar 7) (ix a1) a2)) la)) (ci := 7) (v := .ref (ad 8)) C fiX7 rfl 0 mC_obj 8 (by decide) q4_168 rfl dX7_sets_96 ?_
            refine tt_iload_n (pc := 99) (k := 2) C dX7_sets_99 rfl rfl ?_
            refine tt_iload_n (pc := 100) (k := 4) C dX7_sets_100 rfl rfl ?_
            refine tt_iastore (pc := 101) (ws := (mC cy ad sc (va_up ar 7 (upd (ar 7) (ix a1) a2)) la)) (n := 5) (f := (ar 8)) (ws' := (mC cy ad sc (va_up (va_up ar 7 (upd (ar 7) (ix a1) a2)) 8 (upd (ar 8) (ix a1) a3)) la)) C rfl 6 0 mC_get8 rfl hf dX7_sets_101 mC_set8 (fun hf => ?_)
            refine tt_iload (pc := 102) (k := 0) C dX7_sets_102 rfl ?_
            obtain rfl := Option.some.inj hf
            exact tt_ireturn (pc := 104) C rfl rfl rfl dX7_sets_104
          · refine tt_aload_n (pc := 54) (k := 0) C dX7_sets_54 rfl rfl ?_
            refine tt_iload_n (pc := 55) (k := 2) C dX7_sets_55 rfl rfl ?_
            obtain ⟨r5, hr5, hf⟩ := bind_some hf
            refine tt_callR (pc := 56) (ws := (mC cy ad sc ar la)) (q0 := 0) (ci := 7) (rest := []) (st' := [.int r5]) C (k_X7_postOn hr5) okX7_postOn q5_71 rfl mC_obj (fun _ h => h) rfl rfl rfl (Nat.le_of_ble_eq_true rfl) ⟨Nat.le_of_ble_eq_true rfl, Nat.le_of_ble_eq_true rfl⟩ dX7_sets_56 ?_
            refine tt_iload_n (pc := 59) (k := 1) C dX7_sets_59 rfl rfl ?_
            refine tt_icmp_eq (pc := 60) (tgt := 70) C dX7_sets_60 (by decide) hf (fun hf => ?_) (fun hf => ?_)
            · refine tt_bipush (pc := 70) (v := (100 : Int32)) C dX7_sets_70 (by decide) ?_
              refine tt_aload_n (pc := 72) (k := 0) C dX7_sets_72 rfl rfl ?_
              refine tt_get (pc := 73) (ws := (mC cy ad sc ar la)) (ci := 7) (v := .ref (ad 7)) C fiX7 rfl 0 mC_obj 7 (by decide) q4_167 rfl dX7_sets_73 ?_
              refine tt_iload_n (pc := 76) (k := 1) C dX7_sets_76 rfl rfl ?_
              refine tt_iaload (pc := 77) (ws := (mC cy ad sc ar la)) (n := 5) (f := (ar 7)) C 5 0 mC_get7 rfl hf dX7_sets_77 (fun hf => ?_)
              refine tt_imul (pc := 78) C dX7_sets_78 ?_
              refine tt_aload_n (pc := 79) (k := 0) C dX7_sets_79 rfl rfl ?_
              refine tt_get (pc := 80) (ws := (mC cy ad sc ar la)) (ci := 7) (v := .ref (ad 8)) C fiX7 rfl 0 mC_obj 8 (by decide) q4_168 rfl dX7_sets_80 ?_
              refine tt_iload_n (pc := 83) (k := 1) C dX7_sets_83 rfl rfl ?_
              refine tt_iaload (pc := 84) (ws := (mC cy ad sc ar la)) (n := 5) (f := (ar 8)) C 6 0 mC_get8 rfl hf dX7_sets_84 (fun hf => ?_)
              refine tt_iadd (pc := 85) C dX7_sets_85 ?_
              refine tt_istore (pc := 86) (L' := [(4, .int (((100 : Int32) * ((ar 7) (ix a1))) + ((ar 8) (ix a1)))), (0, .ref (ad 0)), (1, .int a1), (2, .int a2), (3, .int a3)]) C dX7_sets_86 (by decide) rfl ?_
              refine tt_aload_n (pc := 88) (k := 1) C dX7_sets_88 rfl rfl ?_
              refine tt_get (pc := 89) (ws := (mC cy ad sc ar la)) (ci := 7) (v := .ref (ad 7)) C fiX7 rfl 0 mC_obj 7 (by decide) q4_167 rfl dX7_sets_89 ?_
              refine tt_iload_n (pc := 92) (k := 2) C dX7_sets_92 rfl rfl ?_
              refine tt_iload_n (pc := 93) (k := 3) C dX7_sets_93 rfl rfl ?_
              refine tt_iastore (pc := 94) (ws := (mC cy ad sc ar la)) (n := 5) (f := (ar 7)) (ws' := (mC cy ad sc (va_up ar 7 (upd (ar 7) (ix a1) a2)) la)) C rfl 5 0 mC_get7 rfl hf dX7_sets_94 mC_set7 (fun hf => ?_)
              refine tt_aload_n (pc := 95) (k := 1) C dX7_sets_95 rfl rfl ?_
              refine tt_get (pc := 96) (ws := (mC cy ad sc (va_up ar 7 (upd (ar 7) (ix a1) a2)) la)) (ci := 7) (v := .ref (ad 8)) C fiX7 rfl 0 mC_obj 8 (by decide) q4_168 rfl dX7_sets_96 ?_
              refine tt_iload_n (pc := 99) (k := 2) C dX7_sets_99 rfl rfl ?_
              refine tt_iload_n (pc := 100) (k := 4) C dX7_sets_100 rfl rfl ?_
              refine tt_iastore (pc := 101) (ws := (mC cy ad sc (va_up ar 7 (upd (ar 7) (ix a1) a2)) la)) (n := 5) (f := (ar 8)) (ws' := (mC cy ad sc (va_up (va_up ar 7 (upd (ar 7) (ix a1) a2)) 8 (upd (ar 8) (ix a1) a3)) la)) C rfl 6 0 mC_get8 rfl hf dX7_sets_101 mC_set8 (fun hf => ?_)
              refine tt_iload (pc := 102) (k := 0) C dX7_sets_102 rfl ?_
              obtain rfl := Option.some.inj hf
              exact tt_ireturn (pc := 104) C rfl rfl rfl dX7_sets_104
            · refine tt_aload_n (pc := 63) (k := 0) C dX7_sets_63 rfl rfl ?_
              refine tt_bipush (pc := 64) (v := (-3 : Int32)) C dX7_sets_64 (by decide) ?_
              obtain ⟨r6, hr6, hf⟩ := bind_some hf
              refine tt_callM (pc := 66) (ws := (mC cy ad sc ar la)) (q0 := 0) (ci := 7) (rest := []) (st' := [.int r6.1]) C rfl (k_X7_no hr6) okX7_no q5_36 rfl mC_obj rfl rfl rfl (Nat.le_of_ble_eq_true rfl) ⟨Nat.le_of_ble_eq_true rfl, Nat.le_of_ble_eq_true rfl⟩ dX7_sets_66 ?_
              obtain rfl := Option.some.inj hf
              exact tt_ireturn (pc := 69) C rfl rfl rfl dX7_sets_69
        · refine tt_aload_n (pc := 39) (k := 0) C dX7_sets_39 rfl rfl ?_
          refine tt_bipush (pc := 40) (v := (-6 : Int32)) C dX7_sets_40 (by decide) ?_
          obtain ⟨r7, hr7, hf⟩ := bind_some hf
          refine tt_callM (pc := 42) (ws := (mC cy ad sc ar la)) (q0 := 0) (ci := 7) (rest := []) (st' := [.int r7.1]) C rfl (k_X7_no hr7) okX7_no q5_36 rfl mC_obj rfl rfl rfl (Nat.le_of_ble_eq_true rfl) ⟨Nat.le_of_ble_eq_true rfl, Nat.le_of_ble_eq_true rfl⟩ dX7_sets_42 ?_
          obtain rfl := Option.some.inj hf
          exact tt_ireturn (pc := 45) C rfl rfl rfl dX7_sets_45
      · refine tt_aload_n (pc := 26) (k := 0) C dX7_sets_26 rfl rfl ?_
        refine tt_bipush (pc := 27) (v := (-4 : Int32)) C dX7_sets_27 (by decide) ?_
        obtain ⟨r8, hr8, hf⟩ := bind_some hf
        refine tt_callM (pc := 29) (ws := (mC cy ad sc ar la)) (q0 := 0) (ci := 7) (rest := []) (st' := [.int r8.1]) C rfl (k_X7_no hr8) okX7_no q5_36 rfl mC_obj rfl rfl rfl (Nat.le_of_ble_eq_true rfl) ⟨Nat.le_of_ble_eq_true rfl, Nat.le_of_ble_eq_true rfl⟩ dX7_sets_29 ?_
        obtain rfl := Option.some.inj hf
        exact tt_ireturn (pc := 32) C rfl rfl rfl dX7_sets_32
    · refine tt_aload_n (pc := 16) (k := 0) C dX7_sets_16 rfl rfl ?_
      refine tt_iconst (pc := 17) (v := (-1 : Int32)) C dX7_sets_17 (by decide) ?_
      obtain ⟨r9, hr9, hf⟩ := bind_some hf
      refine tt_callM (pc := 18) (ws := (mC cy ad sc ar la)) (q0 := 0) (ci := 7) (rest := []) (st' := [.int r9.1]) C rfl (k_X7_no hr9) okX7_no q5_36 rfl mC_obj rfl rfl rfl (Nat.le_of_ble_eq_true rfl) ⟨Nat.le_of_ble_eq_true rfl, Nat.le_of_ble_eq_true rfl⟩ dX7_sets_18 ?_
      obtain rfl := Option.some.inj hf
      exact tt_ireturn (pc := 21) C rfl rfl rfl dX7_sets_21
theorem dX7_train_0 : decode cX7_train 0 = .ok (.iload_n 1, 1) := by decide +kernel
theorem dX7_train_1 : decode cX7_train 1 = .ok (.iconst 0, 1) := by decide +kernel
theorem dX7_train_2 : decode cX7_train 2 = .ok (.iconst 5, 1) := by decide +kernel
theorem dX7_train_3 : decode cX7_train 3 = .ok (.invokestatic 102, 3) := by decide +kernel
theorem dX7_train_6 : decode cX7_train 6 = .ok (.ifCond .eq 13, 3) := by decide +kernel
theorem dX7_train_9 : decode cX7_train 9 = .ok (.iload 4, 2) := by decide +kernel
theorem dX7_train_11 : decode cX7_train 11 = .ok (.iconst 0, 1) := by decide +kernel
theorem dX7_train_12 : decode cX7_train 12 = .ok (.iconst 1, 1) := by decide +kernel
theorem dX7_train_13 : decode cX7_train 13 = .ok (.invokestatic 102, 3) := by decide +kernel
theorem dX7_train_16 : decode cX7_train 16 = .ok (.ifCond .ne 10, 3) := by decide +kernel
theorem dX7_train_19 : decode cX7_train 19 = .ok (.aload_n 0, 1) := by decide +kernel
theorem dX7_train_20 : decode cX7_train 20 = .ok (.bipush (-2), 2) := by decide +kernel
theorem dX7_train_22 : decode cX7_train 22 = .ok (.invokevirtual 98, 3) := by decide +kernel
theorem dX7_train_25 : decode cX7_train 25 = .ok (.ireturn, 1) := by decide +kernel
theorem dX7_train_26 : decode cX7_train 26 = .ok (.iload_n 2, 1) := by decide +kernel
theorem dX7_train_27 : decode cX7_train 27 = .ok (.ifCond .lt 8, 3) := by decide +kernel
theorem dX7_train_30 : decode cX7_train 30 = .ok (.iload_n 3, 1) := by decide +kernel
theorem dX7_train_31 : decode cX7_train 31 = .ok (.iconst 1, 1) := by decide +kernel
theorem dX7_train_32 : decode cX7_train 32 = .ok (.if_icmp .ge 10, 3) := by decide +kernel
theorem dX7_train_35 : decode cX7_train 35 = .ok (.aload_n 0, 1) := by decide +kernel
theorem dX7_train_36 : decode cX7_train 36 = .ok (.bipush (-4), 2) := by decide +kernel
theorem dX7_train_38 : decode cX7_train 38 = .ok (.invokevirtual 98, 3) := by decide +kernel
theorem dX7_train_41 : decode cX7_train 41 = .ok (.ireturn, 1) := by decide +kernel
theorem dX7_train_42 : decode cX7_train 42 = .ok (.iload_n 2, 1) := by decide +kernel
theorem dX7_train_43 : decode cX7_train 43 = .ok (.bipush 9, 2) := by decide +kernel
theorem dX7_train_45 : decode cX7_train 45 = .ok (.if_icmp .gt 17, 3) := by decide +kernel
theorem dX7_train_48 : decode cX7_train 48 = .ok (.iload_n 3, 1) := by decide +kernel
theorem dX7_train_49 : decode cX7_train 49 = .ok (.bipush 9, 2) := by decide +kernel
theorem dX7_train_51 : decode cX7_train 51 = .ok (.if_icmp .gt 11, 3) := by decide +kernel
theorem dX7_train_54 : decode cX7_train 54 = .ok (.aload_n 0, 1) := by decide +kernel
theorem dX7_train_55 : decode cX7_train 55 = .ok (.getfield 112, 3) := by decide +kernel
theorem dX7_train_58 : decode cX7_train 58 = .ok (.iconst 4, 1) := by decide +kernel
theorem dX7_train_59 : decode cX7_train 59 = .ok (.if_icmp .ne 10, 3) := by decide +kernel
theorem dX7_train_62 : decode cX7_train 62 = .ok (.aload_n 0, 1) := by decide +kernel
theorem dX7_train_63 : decode cX7_train 63 = .ok (.bipush (-6), 2) := by decide +kernel
theorem dX7_train_65 : decode cX7_train 65 = .ok (.invokevirtual 98, 3) := by decide +kernel
theorem dX7_train_68 : decode cX7_train 68 = .ok (.ireturn, 1) := by decide +kernel
theorem dX7_train_69 : decode cX7_train 69 = .ok (.aload_n 0, 1) := by decide +kernel
theorem dX7_train_70 : decode cX7_train 70 = .ok (.getfield 32, 3) := by decide +kernel
theorem dX7_train_73 : decode cX7_train 73 = .ok (.aload_n 0, 1) := by decide +kernel
theorem dX7_train_74 : decode cX7_train 74 = .ok (.getfield 112, 3) := by decide +kernel
theorem dX7_train_77 : decode cX7_train 77 = .ok (.iload_n 1, 1) := by decide +kernel
theorem dX7_train_78 : decode cX7_train 78 = .ok (.iastore, 1) := by decide +kernel
theorem dX7_train_79 : decode cX7_train 79 = .ok (.aload_n 0, 1) := by decide +kernel
theorem dX7_train_80 : decode cX7_train 80 = .ok (.getfield 35, 3) := by decide +kernel
theorem dX7_train_83 : decode cX7_train 83 = .ok (.aload_n 0, 1) := by decide +kernel
theorem dX7_train_84 : decode cX7_train 84 = .ok (.getfield 112, 3) := by decide +kernel
theorem dX7_train_87 : decode cX7_train 87 = .ok (.iload_n 2, 1) := by decide +kernel
theorem dX7_train_88 : decode cX7_train 88 = .ok (.iastore, 1) := by decide +kernel
theorem dX7_train_89 : decode cX7_train 89 = .ok (.aload_n 0, 1) := by decide +kernel
theorem dX7_train_90 : decode cX7_train 90 = .ok (.getfield 38, 3) := by decide +kernel
theorem dX7_train_93 : decode cX7_train 93 = .ok (.aload_n 0, 1) := by decide +kernel
theorem dX7_train_94 : decode cX7_train 94 = .ok (.getfield 112, 3) := by decide +kernel
theorem dX7_train_97 : decode cX7_train 97 = .ok (.iload_n 3, 1) := by decide +kernel
theorem dX7_train_98 : decode cX7_train 98 = .ok (.iastore, 1) := by decide +kernel
theorem dX7_train_99 : decode cX7_train 99 = .ok (.aload_n 0, 1) := by decide +kernel
theorem dX7_train_100 : decode cX7_train 100 = .ok (.getfield 41, 3) := by decide +kernel
theorem dX7_train_103 : decode cX7_train 103 = .ok (.aload_n 0, 1) := by decide +kernel
theorem dX7_train_104 : decode cX7_train 104 = .ok (.getfield 112, 3) := by decide +kernel
theorem dX7_train_107 : decode cX7_train 107 = .ok (.iload 4, 2) := by decide +kernel
theorem dX7_train_109 : decode cX7_train 109 = .ok (.iastore, 1) := by decide +kernel
theorem dX7_train_110 : decode cX7_train 110 = .ok (.aload_n 0, 1) := by decide +kernel
theorem dX7_train_111 : decode cX7_train 111 = .ok (.dup, 1) := by decide +kernel
theorem dX7_train_112 : decode cX7_train 112 = .ok (.getfield 112, 3) := by decide +kernel
theorem dX7_train_115 : decode cX7_train 115 = .ok (.iconst 1, 1) := by decide +kernel
theorem dX7_train_116 : decode cX7_train 116 = .ok (.iadd, 1) := by decide +kernel
theorem dX7_train_117 : decode cX7_train 117 = .ok (.putfield 112, 3) := by decide +kernel
theorem dX7_train_120 : decode cX7_train 120 = .ok (.aload_n 0, 1) := by decide +kernel
theorem dX7_train_121 : decode cX7_train 121 = .ok (.getfield 112, 3) := by decide +kernel
theorem dX7_train_124 : decode cX7_train 124 = .ok (.iconst 1, 1) := by decide +kernel
theorem dX7_train_125 : decode cX7_train 125 = .ok (.isub, 1) := by decide +kernel
theorem dX7_train_126 : decode cX7_train 126 = .ok (.ireturn, 1) := by decide +kernel
set_option maxHeartbeats 4000000 in
set_option maxRecDepth 100000 in
theorem k_X7_train {l : Launch} {D : va_G} {cy : Nat → ClassId} {Bd : Nat} {xa : Xa} {ad : Nat → Nat} {N : Nat} {sc : Nat → Int32} {ar : Nat → Nat → Int32} {la : Nat → Nat → Int64} {a1 : Int32} {a2 : Int32} {a3 : Int32} {a4 : Int32} {out : Int32 × (Nat → Int32) × (Nat → Nat → Int32)} (hf : f_X7_train N sc ar a1 a2 a3 a4 = some out) : KC l yX7_train cX7_train 5 (some .int) 1 22 false D cy Bd xa [.ref (ad 0), .int a1, .int a2, .int a3, .int a4] (mC cy ad sc ar la) (some (.int out.1)) (mC cy ad out.2.1 out.2.2 la) := by
  refine kc_start (own := RX7) (by decide +kernel) rfl (Nat.le_of_ble_eq_true rfl) ?_
  intro p e s m args below meth c A C
  unfold f_X7_train at hf
  refine tt_locs (L' := [(0, .ref (ad 0)), (1, .int a1), (2, .int a2), (3, .int a3), (4, .int a4)]) [0, 1, 2, 3, 4] rfl ?_
  refine tt_iload_n (pc := 0) (k := 1) C dX7_train_0 rfl rfl ?_
  refine tt_iconst (pc := 1) (v := (0 : Int32)) C dX7_train_1 (by decide) ?_
  refine tt_iconst (pc := 2) (v := (5 : Int32)) C dX7_train_2 (by decide) ?_
  obtain ⟨r1, hr1, hf⟩ := bind_some hf
  refine tt_callS (pc := 3) (ws := (mC cy ad sc ar la)) (rest := []) (st' := [.int r1]) C (k_X7_in hr1) okX7_in q5_52 (fun _ h => absurd h List.not_mem_nil) rfl rfl rfl (Nat.le_of_ble_eq_true rfl) ⟨Nat.le_of_ble_eq_true rfl, Nat.le_of_ble_eq_true rfl⟩ dX7_train_3 ?_
  refine tt_if_eq (pc := 6) (tgt := 19) C dX7_train_6 (by decide) hf (fun hf => ?_) (fun hf => ?_)
  · refine tt_aload_n (pc := 19) (k := 0) C dX7_train_19 rfl rfl ?_
    refine tt_bipush (pc := 20) (v := (-2 : Int32)) C dX7_train_20 (by decide) ?_
    obtain ⟨r2, hr2, hf⟩ := bind_some hf
    refine tt_callM (pc := 22) (ws := (mC cy ad sc ar la)) (q0 := 0) (ci := 7) (rest := []) (st' := [.int r2.1]) C rfl (k_X7_no hr2) okX7_no q5_36 rfl mC_obj rfl rfl rfl (Nat.le_of_ble_eq_true rfl) ⟨Nat.le_of_ble_eq_true rfl, Nat.le_of_ble_eq_true rfl⟩ dX7_train_22 ?_
    obtain rfl := Option.some.inj hf
    exact tt_ireturn (pc := 25) C rfl rfl rfl dX7_train_25
  · refine tt_iload (pc := 9) (k := 4) C dX7_train_9 rfl ?_
    refine tt_iconst (pc := 11) (v := (0 : Int32)) C dX7_train_11 (by decide) ?_
    refine tt_iconst (pc := 12) (v := (1 : Int32)) C dX7_train_12 (by decide) ?_
    obtain ⟨r3, hr3, hf⟩ := bind_some hf
    refine tt_callS (pc := 13) (ws := (mC cy ad sc ar la)) (rest := []) (st' := [.int r3]) C (k_X7_in hr3) okX7_in q5_52 (fun _ h => absurd h List.not_mem_nil) rfl rfl rfl (Nat.le_of_ble_eq_true rfl) ⟨Nat.le_of_ble_eq_true rfl, Nat.le_of_ble_eq_true rfl⟩ dX7_train_13 ?_
    refine tt_if_ne (pc := 16) (tgt := 26) C dX7_train_16 (by decide) hf (fun hf => ?_) (fun hf => ?_)
    · refine tt_iload_n (pc := 26) (k := 2) C dX7_train_26 rfl rfl ?_
      refine tt_if_lt (pc := 27) (tgt := 35) C dX7_train_27 (by decide) hf (fun hf => ?_) (fun hf => ?_)
      · refine tt_aload_n (pc := 35) (k := 0) C dX7_train_35 rfl rfl ?_
        refine tt_bipush (pc := 36) (v := (-4 : Int32)) C dX7_train_36 (by decide) ?_
        obtain ⟨r4, hr4, hf⟩ := bind_some hf
        refine tt_callM (pc := 38) (ws := (mC cy ad sc ar la)) (q0 := 0) (ci := 7) (rest := []) (st' := [.int r4.1]) C rfl (k_X7_no hr4) okX7_no q5_36 rfl mC_obj rfl rfl rfl (Nat.le_of_ble_eq_true rfl) ⟨Nat.le_of_ble_eq_true rfl, Nat.le_of_ble_eq_true rfl⟩ dX7_train_38 ?_
        obtain rfl := Option.some.inj hf
        exact tt_ireturn (pc := 41) C rfl rfl rfl dX7_train_41
      · refine tt_iload_n (pc := 30) (k := 3) C dX7_train_30 rfl rfl ?_
        refine tt_iconst (pc := 31) (v := (1 : Int32)) C dX7_train_31 (by decide) ?_
        refine tt_icmp_ge (pc := 32) (tgt := 42) C dX7_train_32 (by decide) hf (fun hf => ?_) (fun hf => ?_)
        · refine tt_iload_n (pc := 42) (k := 2) C dX7_train_42 rfl rfl ?_
          refine tt_bipush (pc := 43) (v := (9 : Int32)) C dX7_train_43 (by decide) ?_
          refine tt_icmp_gt (pc := 45) (tgt := 62) C dX7_train_45 (by decide) hf (fun hf => ?_) (fun hf => ?_)
          · refine tt_aload_n (pc := 62) (k := 0) C dX7_train_62 rfl rfl ?_
            refine tt_bipush (pc := 63) (v := (-6 : Int32)) C dX7_train_63 (by decide) ?_
            obtain ⟨r5, hr5, hf⟩ := bind_some hf
            refine tt_callM (pc := 65) (ws := (mC cy ad sc ar la)) (q0 := 0) (ci := 7) (rest := []) (st' := [.int r5.1]) C rfl (k_X7_no hr5) okX7_no q5_36 rfl mC_obj rfl rfl rfl (Nat.le_of_ble_eq_true rfl) ⟨Nat.le_of_ble_eq_true rfl, Nat.le_of_ble_eq_true rfl⟩ dX7_train_65 ?_
            obtain rfl := Option.some.inj hf
            exact tt_ireturn (pc := 68) C rfl rfl rfl dX7_train_68
          · refine tt_iload_n (pc := 48) (k := 3) C dX7_train_48 rfl rfl ?_
            refine tt_bipush (pc := 49) (v := (9 : Int32)) C dX7_train_49 (by decide) ?_
            refine tt_icmp_gt (pc := 51) (tgt := 62) C dX7_train_51 (by decide) hf (fun hf => ?_) (fun hf => ?_)
            · refine tt_aload_n (pc := 62) (k := 0) C dX7_train_62 rfl rfl ?_
              refine tt_bipush (pc := 63) (v := (-6 : Int32)) C dX7_train_63 (by decide) ?_
              obtain ⟨r6, hr6, hf⟩ := bind_some hf
              refine tt_callM (pc := 65) (ws := (mC cy ad sc ar la)) (q0 := 0) (ci := 7) (rest := []) (st' := [.int r6.1]) C rfl (k_X7_no hr6) okX7_no q5_36 rfl mC_obj rfl rfl rfl (Nat.le_of_ble_eq_true rfl) ⟨Nat.le_of_ble_eq_true rfl, Nat.le_of_ble_eq_true rfl⟩ dX7_train_65 ?_
              obtain rfl := Option.some.inj hf
              exact tt_ireturn (pc := 68) C rfl rfl rfl dX7_train_68
            · refine tt_aload_n (pc := 54) (k := 0) C dX7_train_54 rfl rfl ?_
              refine tt_get (pc := 55) (ws := (mC cy ad sc ar la)) (ci := 7) (v := .int (sc 9)) C fiX7 rfl 0 mC_obj 9 (by decide) q4_169 rfl dX7_train_55 ?_
              refine tt_iconst (pc := 58) (v := (4 : Int32)) C dX7_train_58 (by decide) ?_
              refine tt_icmp_ne (pc := 59) (tgt := 69) C dX7_train_59 (by decide) hf (fun hf => ?_) (fun hf => ?_)
              · refine tt_aload_n (pc := 69) (k := 0) C dX7_train_69 rfl rfl ?_
                refine tt_get (pc := 70) (ws := (mC cy ad sc ar la)) (ci := 7) (v := .ref (ad 10)) C fiX7 rfl 0 mC_obj 10 (by decide) q4_170 rfl dX7_train_70 ?_
                refine tt_aload_n (pc := 73) (k := 0) C dX7_train_73 rfl rfl ?_
                refine tt_get (pc := 74) (ws := (mC cy ad sc ar la)) (ci := 7) (v := .int (sc 9)) C fiX7 rfl 0 mC_obj 9 (by decide) q4_169 rfl dX7_train_74 ?_
                refine tt_iload_n (pc := 77) (k := 1) C dX7_train_77 rfl rfl ?_
                refine tt_iastore (pc := 78) (ws := (mC cy ad sc ar la)) (n := 4) (f := (ar 10)) (ws' := (mC cy ad sc (va_up ar 10 (upd (ar 10) (ix (sc 9)) a1)) la)) C rfl 7 0 mC_get10 rfl hf dX7_train_78 mC_set10 (fun hf => ?_)
                refine tt_aload_n (pc := 79) (k := 0) C dX7_train_79 rfl rfl ?_
                refine tt_get (pc := 80) (ws := (mC cy ad sc (va_up ar 10 (upd (ar 10) (ix (sc 9)) a1)) la)) (ci := 7) (v := .ref (ad 11)) C fiX7 rfl 0 mC_obj 11 (by decide) q4_171 rfl dX7_train_80 ?_
                refine tt_aload_n (pc := 83) (k := 0) C dX7_train_83 rfl rfl ?_
                refine tt_get (pc := 84) (ws := (mC cy ad sc (va_up ar 10 (upd (ar 10) (ix (sc 9)) a1)) la)) (ci := 7) (v := .int (sc 9)) C fiX7 rfl 0 mC_obj 9 (by decide) q4_169 rfl dX7_train_84 ?_
                refine tt_iload_n (pc := 87) (k := 2) C dX7_train_87 rfl rfl ?_
                refine tt_iastore (pc := 88) (ws := (mC cy ad sc (va_up ar 10 (upd (ar 10) (ix (sc 9)) a1)) la)) (n := 4) (f := (ar 11)) (ws' := (mC cy ad sc (va_up (va_up ar 10 (upd (ar 10) (ix (sc 9)) a1)) 11 (upd (ar 11) (ix (sc 9)) a2)) la)) C rfl 8 0 mC_get11 rfl hf dX7_train_88 mC_set11 (fun hf => ?_)
                refine tt_aload_n (pc := 89) (k := 0) C dX7_train_89 rfl rfl ?_
                refine tt_get (pc := 90) (ws := (mC cy ad sc (va_up (va_up ar 10 (upd (ar 10) (ix (sc 9)) a1)) 11 (upd (ar 11) (ix (sc 9)) a2)) la)) (ci := 7) (v := .ref (ad 12)) C fiX7 rfl 0 mC_obj 12 (by decide) q4_172 rfl dX7_train_90 ?_
                refine tt_aload_n (pc := 93) (k := 0) C dX7_train_93 rfl rfl ?_
                refine tt_get (pc := 94) (ws := (mC cy ad sc (va_up (va_up ar 10 (upd (ar 10) (ix (sc 9)) a1)) 11 (upd (ar 11) (ix (sc 9)) a2)) la)) (ci := 7) (v := .int (sc 9)) C fiX7 rfl 0 mC_obj 9 (by decide) q4_169 rfl dX7_train_94 ?_
                refine tt_iload_n (pc := 97) (k := 3) C dX7_train_97 rfl rfl ?_
                refine tt_iastore (pc := 98) (ws := (mC cy ad sc (va_up (va_up ar 10 (upd (ar 10) (ix (sc 9)) a1)) 11 (upd (ar 11) (ix (sc 9)) a2)) la)) (n := 4) (f := (ar 12)) (ws' := (mC cy ad sc (va_up (va_up (va_up ar 10 (upd (ar 10) (ix (sc 9)) a1)) 11 (upd (ar 11) (ix (sc 9)) a2)) 12 (upd (ar 12) (ix (sc 9)) a3)) la)) C rfl 9 0 mC_get12 rfl hf dX7_train_98 mC_set12 (fun hf => ?_)
                refine tt_aload_n (pc := 99) (k := 0) C dX7_train_99 rfl rfl ?_
                refine tt_get (pc := 100) (ws := (mC cy ad sc (va_up (va_up (va_up ar 10 (upd (ar 10) (ix (sc 9)) a1)) 11 (upd (ar 11) (ix (sc 9)) a2)) 12 (upd (ar 12) (ix (sc 9)) a3)) la)) (ci := 7) (v := .ref (ad 13)) C fiX7 rfl 0 mC_obj 13 (by decide) q4_173 rfl dX7_train_100 ?_
                refine tt_aload_n (pc := 103) (k := 0) C dX7_train_103 rfl rfl ?_
                refine tt_get (pc := 104) (ws := (mC cy ad sc (va_up (va_up (va_up ar 10 (upd (ar 10) (ix (sc 9)) a1)) 11 (upd (ar 11) (ix (sc 9)) a2)) 12 (upd (ar 12) (ix (sc 9)) a3)) la)) (ci := 7) (v := .int (sc 9)) C fiX7 rfl 0 mC_obj 9 (by decide) q4_169 rfl dX7_train_104 ?_
                refine tt_iload (pc := 107) (k := 4) C dX7_train_107 rfl ?_
                refine tt_iastore (pc := 109) (ws := (mC cy ad sc (va_up (va_up (va_up ar 10 (upd (ar 10) (ix (sc 9)) a1)) 11 (upd (ar 11) (ix (sc 9)) a2)) 12 (upd (ar 12) (ix (sc 9)) a3)) la)) (n := 4) (f := (ar 13)) (ws' := (mC cy ad sc (va_up (va_up (va_up (va_up ar 10 (upd (ar 10) (ix (sc 9)) a1)) 11 (upd (ar 11) (ix (sc 9)) a2)) 12 (upd (ar 12) (ix (sc 9)) a3)) 13 (upd (ar 13) (ix (sc 9)) a4)) la)) C rfl 10 0 mC_get13 rfl hf dX7_train_109 mC_set13 (fun hf => ?_)
                refine tt_aload_n (pc := 110) (k := 0) C dX7_train_110 rfl rfl ?_
                refine tt_dup (pc := 111) C dX7_train_111 rfl ?_
                refine tt_get (pc := 112) (ws := (mC cy ad sc (va_up (va_up (va_up (va_up ar 10 (upd (ar 10) (ix (sc 9)) a1)) 11 (upd (ar 11) (ix (sc 9)) a2)) 12 (upd (ar 12) (ix (sc 9)) a3)) 13 (upd (ar 13) (ix (sc 9)) a4)) la)) (ci := 7) (v := .int (sc 9)) C fiX7 rfl 0 mC_obj 9 (by decide) q4_169 rfl dX7_train_112 ?_
                refine tt_iconst (pc := 115) (v := (1 : Int32)) C dX7_train_115 (by decide) ?_
                refine tt_iadd (pc := 116) C dX7_train_116 ?_
                refine tt_put (pc := 117) (ws := (mC cy ad sc (va_up (va_up (va_up (va_up ar 10 (upd (ar 10) (ix (sc 9)) a1)) 11 (upd (ar 11) (ix (sc 9)) a2)) 12 (upd (ar 12) (ix (sc 9)) a3)) 13 (upd (ar 13) (ix (sc 9)) a4)) la)) (ci := 7) (ty := .int) (ws' := (mC cy ad (upd sc 9 ((sc 9) + (1 : Int32))) (va_up (va_up (va_up (va_up ar 10 (upd (ar 10) (ix (sc 9)) a1)) 11 (upd (ar 11) (ix (sc 9)) a2)) 12 (upd (ar 12) (ix (sc 9)) a3)) 13 (upd (ar 13) (ix (sc 9)) a4)) la)) C rfl fiX7 rfl 0 mC_obj 9 (by decide) q4_169 rfl rfl rfl rfl (Nat.le_of_ble_eq_true rfl) dX7_train_117 mC_put9 ?_
                refine tt_aload_n (pc := 120) (k := 0) C dX7_train_120 rfl rfl ?_
                refine tt_get (pc := 121) (ws := (mC cy ad (upd sc 9 ((sc 9) + (1 : Int32))) (va_up (va_up (va_up (va_up ar 10 (upd (ar 10) (ix (sc 9)) a1)) 11 (upd (ar 11) (ix (sc 9)) a2)) 12 (upd (ar 12) (ix (sc 9)) a3)) 13 (upd (ar 13) (ix (sc 9)) a4)) la)) (ci := 7) (v := .int ((sc 9) + (1 : Int32))) C fiX7 rfl 0 mC_obj 9 (by decide) q4_169 rfl dX7_train_121 ?_
                refine tt_iconst (pc := 124) (v := (1 : Int32)) C dX7_train_124 (by decide) ?_
                refine tt_isub (pc := 125) C dX7_train_125 ?_
                obtain rfl := Option.some.inj hf
                exact tt_ireturn (pc := 126) C rfl rfl rfl dX7_train_126
              · refine tt_aload_n (pc := 62) (k := 0) C dX7_train_62 rfl rfl ?_
                refine tt_bipush (pc := 63) (v := (-6 : Int32)) C dX7_train_63 (by decide) ?_
                obtain ⟨r7, hr7, hf⟩ := bind_some hf
                refine tt_callM (pc := 65) (ws := (mC cy ad sc ar la)) (q0 := 0) (ci := 7) (rest := []) (st' := [.int r7.1]) C rfl (k_X7_no hr7) okX7_no q5_36 rfl mC_obj rfl rfl rfl (Nat.le_of_ble_eq_true rfl) ⟨Nat.le_of_ble_eq_true rfl, Nat.le_of_ble_eq_true rfl⟩ dX7_train_65 ?_
                obtain rfl := Option.some.inj hf
                exact tt_ireturn (pc := 68) C rfl rfl rfl dX7_train_68
        · refine tt_aload_n (pc := 35) (k := 0) C dX7_train_35 rfl rfl ?_
          refine tt_bipush (pc := 36) (v := (-4 : Int32)) C dX7_train_36 (by decide) ?_
          obtain ⟨r8, hr8, hf⟩ := bind_some hf
          refine tt_callM (pc := 38) (ws := (mC cy ad sc ar la)) (q0 := 0) (ci := 7) (rest := []) (st' := [.int r8.1]) C rfl (k_X7_no hr8) okX7_no q5_36 rfl mC_obj rfl rfl rfl (Nat.le_of_ble_eq_true rfl) ⟨Nat.le_of_ble_eq_true rfl, Nat.le_of_ble_eq_true rfl⟩ dX7_train_38 ?_
          obtain rfl := Option.some.inj hf
          exact tt_ireturn (pc := 41) C rfl rfl rfl dX7_train_41
    · refine tt_aload_n (pc := 19) (k := 0) C dX7_train_19 rfl rfl ?_
      refine tt_bipush (pc := 20) (v := (-2 : Int32)) C dX7_train_20 (by decide) ?_
      obtain ⟨r9, hr9, hf⟩ := bind_some hf
      refine tt_callM (pc := 22) (ws := (mC cy ad sc ar la)) (q0 := 0) (ci := 7) (rest := []) (st' := [.int r9.1]) C rfl (k_X7_no hr9) okX7_no q5_36 rfl mC_obj rfl rfl rfl (Nat.le_of_ble_eq_true rfl) ⟨Nat.le_of_ble_eq_true rfl, Nat.le_of_ble_eq_true rfl⟩ dX7_train_22 ?_
      obtain rfl := Option.some.inj hf
      exact tt_ireturn (pc := 25) C rfl rfl rfl dX7_train_25
theorem dX7_need_0 : decode cX7_need 0 = .ok (.iload_n 1, 1) := by decide +kernel
theorem dX7_need_1 : decode cX7_need 1 = .ok (.ifCond .ge 10, 3) := by decide +kernel
theorem dX7_need_4 : decode cX7_need 4 = .ok (.aload_n 0, 1) := by decide +kernel
theorem dX7_need_5 : decode cX7_need 5 = .ok (.bipush (-4), 2) := by decide +kernel
theorem dX7_need_7 : decode cX7_need 7 = .ok (.invokevirtual 98, 3) := by decide +kernel
theorem dX7_need_10 : decode cX7_need 10 = .ok (.ireturn, 1) := by decide +kernel
theorem dX7_need_11 : decode cX7_need 11 = .ok (.iload_n 1, 1) := by decide +kernel
theorem dX7_need_12 : decode cX7_need 12 = .ok (.bipush 99, 2) := by decide +kernel
theorem dX7_need_14 : decode cX7_need 14 = .ok (.if_icmp .le 10, 3) := by decide +kernel
theorem dX7_need_17 : decode cX7_need 17 = .ok (.aload_n 0, 1) := by decide +kernel
theorem dX7_need_18 : decode cX7_need 18 = .ok (.bipush (-6), 2) := by decide +kernel
theorem dX7_need_20 : decode cX7_need 20 = .ok (.invokevirtual 98, 3) := by decide +kernel
theorem dX7_need_23 : decode cX7_need 23 = .ok (.ireturn, 1) := by decide +kernel
theorem dX7_need_24 : decode cX7_need 24 = .ok (.aload_n 0, 1) := by decide +kernel
theorem dX7_need_25 : decode cX7_need 25 = .ok (.getfield 44, 3) := by decide +kernel
theorem dX7_need_28 : decode cX7_need 28 = .ok (.istore_n 2, 1) := by decide +kernel
theorem dX7_need_29 : decode cX7_need 29 = .ok (.aload_n 0, 1) := by decide +kernel
theorem dX7_need_30 : decode cX7_need 30 = .ok (.iload_n 1, 1) := by decide +kernel
theorem dX7_need_31 : decode cX7_need 31 = .ok (.putfield 44, 3) := by decide +kernel
theorem dX7_need_34 : decode cX7_need 34 = .ok (.iload_n 2, 1) := by decide +kernel
theorem dX7_need_35 : decode cX7_need 35 = .ok (.ireturn, 1) := by decide +kernel
set_option maxHeartbeats 4000000 in
set_option maxRecDepth 100000 in
theorem k_X7_need {l : Launch} {D : va_G} {cy : Nat → ClassId} {Bd : Nat} {xa : Xa} {ad : Nat → Nat} {N : Nat} {sc : Nat → Int32} {ar : Nat → Nat → Int32} {la : Nat → Nat → Int64} {a1 : Int32} {out : Int32 × (Nat → Int32) × (Nat → Nat → Int32)} (hf : f_X7_need N sc ar a1 = some out) : KC l yX7_need cX7_need 3 (some .int) 1 21 false D cy Bd xa [.ref (ad 0), .int a1] (mC cy ad sc ar la) (some (.int out.1)) (mC cy ad out.2.1 out.2.2 la) := by
  refine kc_start (own := RX7) (by decide +kernel) rfl (Nat.le_of_ble_eq_true rfl) ?_
  intro p e s m args below meth c A C
  unfold f_X7_need at hf
  refine tt_locs (L' := [(0, .ref (ad 0)), (1, .int a1)]) [0, 1] rfl ?_
  refine tt_iload_n (pc := 0) (k := 1) C dX7_need_0 rfl rfl ?_
  refine tt_if_ge (pc := 1) (tgt := 11) C dX7_need_1 (by decide) hf (fun hf => ?_) (fun hf => ?_)
  · refine tt_iload_n (pc := 11) (k := 1) C dX7_need_11 rfl rfl ?_
    refine tt_bipush (pc := 12) (v := (99 : Int32)) C dX7_need_12 (by decide) ?_
    refine tt_icmp_le (pc := 14) (tgt := 24) C dX7_need_14 (by decide) hf (fun hf => ?_) (fun hf => ?_)
    · refine tt_aload_n (pc := 24) (k := 0) C dX7_need_24 rfl rfl ?_
      refine tt_get (pc := 25) (ws := (mC cy ad sc ar la)) (ci := 7) (v := .int (sc 14)) C fiX7 rfl 0 mC_obj 14 (by decide) q4_174 rfl dX7_need_25 ?_
      refine tt_istore_n (pc := 28) (L' := [(2, .int (sc 14)), (0, .ref (ad 0)), (1, .int a1)]) C dX7_need_28 rfl (by decide) rfl ?_
      refine tt_aload_n (pc := 29) (k := 1) C dX7_need_29 rfl rfl ?_
      refine tt_iload_n (pc := 30) (k := 2) C dX7_need_30 rfl rfl ?_
      refine tt_put (pc := 31) (ws := (mC cy ad sc ar la)) (ci := 7) (ty := .int) (ws' := (mC cy ad (upd sc 14 a1) ar la)) C rfl fiX7 rfl 0 mC_obj 14 (by decide) q4_174 rfl rfl rfl rfl (Nat.le_of_ble_eq_true rfl) dX7_need_31 mC_put14 ?_
      refine tt_iload_n (pc := 34) (k := 0) C dX7_need_34 rfl rfl ?_
      obtain rfl := Option.some.inj hf
      exact tt_ireturn (pc := 35) C rfl rfl rfl dX7_need_35
    · refine tt_aload_n (pc := 17) (k := 0) C dX7_need_17 rfl rfl ?_
      refine tt_bipush (pc := 18) (v := (-6 : Int32)) C dX7_need_18 (by decide) ?_
      obtain ⟨r1, hr1, hf⟩ := bind_some hf
      refine tt_callM (pc := 20) (ws := (mC cy ad sc ar la)) (q0 := 0) (ci := 7) (rest := []) (st' := [.int r1.1]) C rfl (k_X7_no hr1) okX7_no q5_36 rfl mC_obj rfl rfl rfl (Nat.le_of_ble_eq_true rfl) ⟨Nat.le_of_ble_eq_true rfl, Nat.le_of_ble_eq_true rfl⟩ dX7_need_20 ?_
      obtain rfl := Option.some.inj hf
      exact tt_ireturn (pc := 23) C rfl rfl rfl dX7_need_23
  · refine tt_aload_n (pc := 4) (k := 0) C dX7_need_4 rfl rfl ?_
    refine tt_bipush (pc := 5) (v := (-4 : Int32)) C dX7_need_5 (by decide) ?_
    obtain ⟨r2, hr2, hf⟩ := bind_some hf
    refine tt_callM (pc := 7) (ws := (mC cy ad sc ar la)) (q0 := 0) (ci := 7) (rest := []) (st' := [.int r2.1]) C rfl (k_X7_no hr2) okX7_no q5_36 rfl mC_obj rfl rfl rfl (Nat.le_of_ble_eq_true rfl) ⟨Nat.le_of_ble_eq_true rfl, Nat.le_of_ble_eq_true rfl⟩ dX7_need_7 ?_
    obtain rfl := Option.some.inj hf
    exact tt_ireturn (pc := 10) C rfl rfl rfl dX7_need_10
theorem dX7_ofBridge_0 : decode cX7_ofBridge 0 = .ok (.aload_n 0, 1) := by decide +kernel
theorem dX7_ofBridge_1 : decode cX7_ofBridge 1 = .ok (.iload_n 1, 1) := by decide +kernel
theorem dX7_ofBridge_2 : decode cX7_ofBridge 2 = .ok (.invokevirtual 125, 3) := by decide +kernel
theorem dX7_ofBridge_5 : decode cX7_ofBridge 5 = .ok (.ifCond .ne 9, 3) := by decide +kernel
theorem dX7_ofBridge_8 : decode cX7_ofBridge 8 = .ok (.aload_n 0, 1) := by decide +kernel
theorem dX7_ofBridge_9 : decode cX7_ofBridge 9 = .ok (.iconst (-1), 1) := by decide +kernel
theorem dX7_ofBridge_10 : decode cX7_ofBridge 10 = .ok (.invokevirtual 98, 3) := by decide +kernel
theorem dX7_ofBridge_13 : decode cX7_ofBridge 13 = .ok (.ireturn, 1) := by decide +kernel
theorem dX7_ofBridge_14 : decode cX7_ofBridge 14 = .ok (.iload_n 2, 1) := by decide +kernel
theorem dX7_ofBridge_15 : decode cX7_ofBridge 15 = .ok (.tableswitch 46 0 2 #[25, 32, 39], 25) := by decide +kernel
theorem dX7_ofBridge_40 : decode cX7_ofBridge 40 = .ok (.aload_n 0, 1) := by decide +kernel
theorem dX7_ofBridge_41 : decode cX7_ofBridge 41 = .ok (.getfield 17, 3) := by decide +kernel
theorem dX7_ofBridge_44 : decode cX7_ofBridge 44 = .ok (.iload_n 1, 1) := by decide +kernel
theorem dX7_ofBridge_45 : decode cX7_ofBridge 45 = .ok (.iaload, 1) := by decide +kernel
theorem dX7_ofBridge_46 : decode cX7_ofBridge 46 = .ok (.ireturn, 1) := by decide +kernel
theorem dX7_ofBridge_47 : decode cX7_ofBridge 47 = .ok (.aload_n 0, 1) := by decide +kernel
theorem dX7_ofBridge_48 : decode cX7_ofBridge 48 = .ok (.getfield 20, 3) := by decide +kernel
theorem dX7_ofBridge_51 : decode cX7_ofBridge 51 = .ok (.iload_n 1, 1) := by decide +kernel
theorem dX7_ofBridge_52 : decode cX7_ofBridge 52 = .ok (.iaload, 1) := by decide +kernel
theorem dX7_ofBridge_53 : decode cX7_ofBridge 53 = .ok (.ireturn, 1) := by decide +kernel
theorem dX7_ofBridge_54 : decode cX7_ofBridge 54 = .ok (.aload_n 0, 1) := by decide +kernel
theorem dX7_ofBridge_55 : decode cX7_ofBridge 55 = .ok (.getfield 23, 3) := by decide +kernel
theorem dX7_ofBridge_58 : decode cX7_ofBridge 58 = .ok (.iload_n 1, 1) := by decide +kernel
theorem dX7_ofBridge_59 : decode cX7_ofBridge 59 = .ok (.iaload, 1) := by decide +kernel
theorem dX7_ofBridge_60 : decode cX7_ofBridge 60 = .ok (.ireturn, 1) := by decide +kernel
theorem dX7_ofBridge_61 : decode cX7_ofBridge 61 = .ok (.aload_n 0, 1) := by decide +kernel
theorem dX7_ofBridge_62 : decode cX7_ofBridge 62 = .ok (.bipush (-2), 2) := by decide +kernel
theorem dX7_ofBridge_64 : decode cX7_ofBridge 64 = .ok (.invokevirtual 98, 3) := by decide +kernel
theorem dX7_ofBridge_67 : decode cX7_ofBridge 67 = .ok (.ireturn, 1) := by decide +kernel
set_option maxHeartbeats 4000000 in
set_option maxRecDepth 100000 in
theorem k_X7_ofBridge {l : Launch} {D : va_G} {cy : Nat → ClassId} {Bd : Nat} {xa : Xa} {ad : Nat → Nat} {N : Nat} {sc : Nat → Int32} {ar : Nat → Nat → Int32} {la : Nat → Nat → Int64} {a1 : Int32} {a2 : Int32} {out : Int32 × (Nat → Nat → Int32)} (hf : f_X7_ofBridge N sc ar a1 a2 = some out) : KC l yX7_ofBridge cX7_ofBridge 3 (some .int) 2 43 false D cy Bd xa [.ref (ad 0), .int a1, .int a2] (mC cy ad sc ar la) (some (.int out.1)) (mC cy ad sc out.2 la) := by
  refine kc_start (own := RX7) (by decide +kernel) rfl (Nat.le_of_ble_eq_true rfl) ?_
  intro p e s m args below meth c A C
  unfold f_X7_ofBridge at hf
  refine tt_locs (L' := [(0, .ref (ad 0)), (1, .int a1), (2, .int a2)]) [0, 1, 2] rfl ?_
  refine tt_aload_n (pc := 0) (k := 0) C dX7_ofBridge_0 rfl rfl ?_
  refine tt_iload_n (pc := 1) (k := 1) C dX7_ofBridge_1 rfl rfl ?_
  obtain ⟨r1, hr1, hf⟩ := bind_some hf
  refine tt_callR (pc := 2) (ws := (mC cy ad sc ar la)) (q0 := 0) (ci := 7) (rest := []) (st' := [.int r1]) C (k_X7_isBridge hr1) okX7_isBridge q5_63 rfl mC_obj (fun _ h => h) rfl rfl rfl (Nat.le_of_ble_eq_true rfl) ⟨Nat.le_of_ble_eq_true rfl, Nat.le_of_ble_eq_true rfl⟩ dX7_ofBridge_2 ?_
  refine tt_if_ne (pc := 5) (tgt := 14) C dX7_ofBridge_5 (by decide) hf (fun hf => ?_) (fun hf => ?_)
  · refine tt_iload_n (pc := 14) (k := 2) C dX7_ofBridge_14 rfl rfl ?_
    refine sw_eq (x := a2) (k := 0) hf (fun hx hf => ?_) (fun n0 hf => ?_)
    · rw [hx]
      refine tt_tabIn (pc := 15) (tgt := 40) (x := 0) C dX7_ofBridge_15 (by decide) (by decide) rfl (by decide) ?_
      refine tt_aload_n (pc := 40) (k := 0) C dX7_ofBridge_40 rfl rfl ?_
      refine tt_get (pc := 41) (ws := (mC cy ad sc ar la)) (ci := 7) (v := .ref (ad 3)) C fiX7 rfl 0 mC_obj 3 (by decide) q4_163 rfl dX7_ofBridge_41 ?_
      refine tt_iload_n (pc := 44) (k := 1) C dX7_ofBridge_44 rfl rfl ?_
      refine tt_iaload (pc := 45) (ws := (mC cy ad sc ar la)) (n := 4) (f := (ar 3)) C 2 0 mC_get3 rfl hf dX7_ofBridge_45 (fun hf => ?_)
      obtain rfl := Option.some.inj hf
      exact tt_ireturn (pc := 46) C rfl rfl rfl dX7_ofBridge_46
    · refine sw_eq (x := a2) (k := 1) hf (fun hx hf => ?_) (fun n1 hf => ?_)
      · rw [hx]
        refine tt_tabIn (pc := 15) (tgt := 47) (x := 1) C dX7_ofBridge_15 (by decide) (by decide) rfl (by decide) ?_
        refine tt_aload_n (pc := 47) (k := 0) C dX7_ofBridge_47 rfl rfl ?_
        refine tt_get (pc := 48) (ws := (mC cy ad sc ar la)) (ci := 7) (v := .ref (ad 4)) C fiX7 rfl 0 mC_obj 4 (by decide) q4_164 rfl dX7_ofBridge_48 ?_
        refine tt_iload_n (pc := 51) (k := 1) C dX7_ofBridge_51 rfl rfl ?_
        refine tt_iaload (pc := 52) (ws := (mC cy ad sc ar la)) (n := 4) (f := (ar 4)) C 3 0 mC_get4 rfl hf dX7_ofBridge_52 (fun hf => ?_)
        obtain rfl := Option.some.inj hf
        exact tt_ireturn (pc := 53) C rfl rfl rfl dX7_ofBridge_53
      · refine sw_eq (x := a2) (k := 2) hf (fun hx hf => ?_) (fun n2 hf => ?_)
        · rw [hx]
          refine tt_tabIn (pc := 15) (tgt := 54) (x := 2) C dX7_ofBridge_15 (by decide) (by decide) rfl (by decide) ?_
          refine tt_aload_n (pc := 54) (k := 0) C dX7_ofBridge_54 rfl rfl ?_
          refine tt_get (pc := 55) (ws := (mC cy ad sc ar la)) (ci := 7) (v := .ref (ad 5)) C fiX7 rfl 0 mC_obj 5 (by decide) q4_165 rfl dX7_ofBridge_55 ?_
          refine tt_iload_n (pc := 58) (k := 1) C dX7_ofBridge_58 rfl rfl ?_
          refine tt_iaload (pc := 59) (ws := (mC cy ad sc ar la)) (n := 4) (f := (ar 5)) C 4 0 mC_get5 rfl hf dX7_ofBridge_59 (fun hf => ?_)
          obtain rfl := Option.some.inj hf
          exact tt_ireturn (pc := 60) C rfl rfl rfl dX7_ofBridge_60
        · have g0 := sw_ne n0 (z := 0) (by decide)
          have g1 := sw_ne n1 (z := 1) (by decide)
          have g2 := sw_ne n2 (z := 2) (by decide)
          refine tt_tabOut (pc := 15) (tgt := 61) C dX7_ofBridge_15 (by omega) (by decide) ?_
          refine tt_aload_n (pc := 61) (k := 0) C dX7_ofBridge_61 rfl rfl ?_
          refine tt_bipush (pc := 62) (v := (-2 : Int32)) C dX7_ofBridge_62 (by decide) ?_
          obtain ⟨r3, hr3, hf⟩ := bind_some hf
          refine tt_callM (pc := 64) (ws := (mC cy ad sc ar la)) (q0 := 0) (ci := 7) (rest := []) (st' := [.int r3.1]) C rfl (k_X7_no hr3) okX7_no q5_36 rfl mC_obj rfl rfl rfl (Nat.le_of_ble_eq_true rfl) ⟨Nat.le_of_ble_eq_true rfl, Nat.le_of_ble_eq_true rfl⟩ dX7_ofBridge_64 ?_
          obtain rfl := Option.some.inj hf
          exact tt_ireturn (pc := 67) C rfl rfl rfl dX7_ofBridge_67
  · refine tt_aload_n (pc := 8) (k := 0) C dX7_ofBridge_8 rfl rfl ?_
    refine tt_iconst (pc := 9) (v := (-1 : Int32)) C dX7_ofBridge_9 (by decide) ?_
    obtain ⟨r4, hr4, hf⟩ := bind_some hf
    refine tt_callM (pc := 10) (ws := (mC cy ad sc ar la)) (q0 := 0) (ci := 7) (rest := []) (st' := [.int r4.1]) C rfl (k_X7_no hr4) okX7_no q5_36 rfl mC_obj rfl rfl rfl (Nat.le_of_ble_eq_true rfl) ⟨Nat.le_of_ble_eq_true rfl, Nat.le_of_ble_eq_true rfl⟩ dX7_ofBridge_10 ?_
    obtain rfl := Option.some.inj hf
    exact tt_ireturn (pc := 13) C rfl rfl rfl dX7_ofBridge_13
theorem dX7_ofPost_0 : decode cX7_ofPost 0 = .ok (.aload_n 0, 1) := by decide +kernel
theorem dX7_ofPost_1 : decode cX7_ofPost 1 = .ok (.iload_n 1, 1) := by decide +kernel
theorem dX7_ofPost_2 : decode cX7_ofPost 2 = .ok (.invokevirtual 131, 3) := by decide +kernel
theorem dX7_ofPost_5 : decode cX7_ofPost 5 = .ok (.ifCond .ne 9, 3) := by decide +kernel
theorem dX7_ofPost_8 : decode cX7_ofPost 8 = .ok (.aload_n 0, 1) := by decide +kernel
theorem dX7_ofPost_9 : decode cX7_ofPost 9 = .ok (.iconst (-1), 1) := by decide +kernel
theorem dX7_ofPost_10 : decode cX7_ofPost 10 = .ok (.invokevirtual 98, 3) := by decide +kernel
theorem dX7_ofPost_13 : decode cX7_ofPost 13 = .ok (.ireturn, 1) := by decide +kernel
theorem dX7_ofPost_14 : decode cX7_ofPost 14 = .ok (.iload_n 2, 1) := by decide +kernel
theorem dX7_ofPost_15 : decode cX7_ofPost 15 = .ok (.ifCond .ne 12, 3) := by decide +kernel
theorem dX7_ofPost_18 : decode cX7_ofPost 18 = .ok (.aload_n 0, 1) := by decide +kernel
theorem dX7_ofPost_19 : decode cX7_ofPost 19 = .ok (.getfield 26, 3) := by decide +kernel
theorem dX7_ofPost_22 : decode cX7_ofPost 22 = .ok (.iload_n 1, 1) := by decide +kernel
theorem dX7_ofPost_23 : decode cX7_ofPost 23 = .ok (.iaload, 1) := by decide +kernel
theorem dX7_ofPost_24 : decode cX7_ofPost 24 = .ok (.goto 23, 3) := by decide +kernel
theorem dX7_ofPost_27 : decode cX7_ofPost 27 = .ok (.iload_n 2, 1) := by decide +kernel
theorem dX7_ofPost_28 : decode cX7_ofPost 28 = .ok (.iconst 1, 1) := by decide +kernel
theorem dX7_ofPost_29 : decode cX7_ofPost 29 = .ok (.if_icmp .ne 12, 3) := by decide +kernel
theorem dX7_ofPost_32 : decode cX7_ofPost 32 = .ok (.aload_n 0, 1) := by decide +kernel
theorem dX7_ofPost_33 : decode cX7_ofPost 33 = .ok (.getfield 29, 3) := by decide +kernel
theorem dX7_ofPost_36 : decode cX7_ofPost 36 = .ok (.iload_n 1, 1) := by decide +kernel
theorem dX7_ofPost_37 : decode cX7_ofPost 37 = .ok (.iaload, 1) := by decide +kernel
theorem dX7_ofPost_38 : decode cX7_ofPost 38 = .ok (.goto 9, 3) := by decide +kernel
theorem dX7_ofPost_41 : decode cX7_ofPost 41 = .ok (.aload_n 0, 1) := by decide +kernel
theorem dX7_ofPost_42 : decode cX7_ofPost 42 = .ok (.bipush (-2), 2) := by decide +kernel
theorem dX7_ofPost_44 : decode cX7_ofPost 44 = .ok (.invokevirtual 98, 3) := by decide +kernel
theorem dX7_ofPost_47 : decode cX7_ofPost 47 = .ok (.ireturn, 1) := by decide +kernel
set_option maxHeartbeats 4000000 in
set_option maxRecDepth 100000 in
theorem k_X7_ofPost {l : Launch} {D : va_G} {cy : Nat → ClassId} {Bd : Nat} {xa : Xa} {ad : Nat → Nat} {N : Nat} {sc : Nat → Int32} {ar : Nat → Nat → Int32} {la : Nat → Nat → Int64} {a1 : Int32} {a2 : Int32} {out : Int32 × (Nat → Nat → Int32)} (hf : f_X7_ofPost N sc ar a1 a2 = some out) : KC l yX7_ofPost cX7_ofPost 3 (some .int) 2 43 false D cy Bd xa [.ref (ad 0), .int a1, .int a2] (mC cy ad sc ar la) (some (.int out.1)) (mC cy ad sc out.2 la) := by
  refine kc_start (own := RX7) (by decide +kernel) rfl (Nat.le_of_ble_eq_true rfl) ?_
  intro p e s m args below meth c A C
  unfold f_X7_ofPost at hf
  refine tt_locs (L' := [(0, .ref (ad 0)), (1, .int a1), (2, .int a2)]) [0, 1, 2] rfl ?_
  refine tt_aload_n (pc := 0) (k := 0) C dX7_ofPost_0 rfl rfl ?_
  refine tt_iload_n (pc := 1) (k := 1) C dX7_ofPost_1 rfl rfl ?_
  obtain ⟨r1, hr1, hf⟩ := bind_some hf
  refine tt_callR (pc := 2) (ws := (mC cy ad sc ar la)) (q0 := 0) (ci := 7) (rest := []) (st' := [.int r1]) C (k_X7_isPost hr1) okX7_isPost q5_79 rfl mC_obj (fun _ h => h) rfl rfl rfl (Nat.le_of_ble_eq_true rfl) ⟨Nat.le_of_ble_eq_true rfl, Nat.le_of_ble_eq_true rfl⟩ dX7_ofPost_2 ?_
  refine tt_if_ne (pc := 5) (tgt := 14) C dX7_ofPost_5 (by decide) hf (fun hf => ?_) (fun hf => ?_)
  · refine tt_iload_n (pc := 14) (k := 2) C dX7_ofPost_14 rfl rfl ?_
    obtain ⟨j2, hj2, hf⟩ := bind_some hf
    have k3 : TT p l e { frames := 2, cells := 0, slots := 0, locals := 43 } s m args below meth c 3 D A false (some (.int out.1)) (mC cy ad sc out.2 la) 47 [] [.int j2.1] (mC cy ad sc j2.2 la) := by
      obtain rfl := Option.some.inj hf
      exact tt_ireturn (pc := 47) C rfl rfl rfl dX7_ofPost_47
    refine tt_if_ne (pc := 15) (tgt := 27) C dX7_ofPost_15 (by decide) hj2 (fun hj2 => ?_) (fun hj2 => ?_)
    · refine tt_iload_n (pc := 27) (k := 2) C dX7_ofPost_27 rfl rfl ?_
      refine tt_iconst (pc := 28) (v := (1 : Int32)) C dX7_ofPost_28 (by decide) ?_
      obtain ⟨j4, hj4, hj2⟩ := bind_some hj2
      have k5 : TT p l e { frames := 2, cells := 0, slots := 0, locals := 43 } s m args below meth c 3 D A false (some (.int out.1)) (mC cy ad sc out.2 la) 47 [] [.int j4.1] (mC cy ad sc j4.2 la) := by
        obtain rfl := Option.some.inj hj2
        exact tt_locs [] rfl k3
      refine tt_icmp_ne (pc := 29) (tgt := 41) C dX7_ofPost_29 (by decide) hj4 (fun hj4 => ?_) (fun hj4 => ?_)
      · refine tt_aload_n (pc := 41) (k := 0) C dX7_ofPost_41 rfl rfl ?_
        refine tt_bipush (pc := 42) (v := (-2 : Int32)) C dX7_ofPost_42 (by decide) ?_
        obtain ⟨r6, hr6, hj4⟩ := bind_some hj4
        refine tt_callM (pc := 44) (ws := (mC cy ad sc ar la)) (q0 := 0) (ci := 7) (rest := []) (st' := [.int r6.1]) C rfl (k_X7_no hr6) okX7_no q5_36 rfl mC_obj rfl rfl rfl (Nat.le_of_ble_eq_true rfl) ⟨Nat.le_of_ble_eq_true rfl, Nat.le_of_ble_eq_true rfl⟩ dX7_ofPost_44 ?_
        obtain rfl := Option.some.inj hj4
        exact tt_locs [] rfl k5
      · refine tt_aload_n (pc := 32) (k := 0) C dX7_ofPost_32 rfl rfl ?_
        refine tt_get (pc := 33) (ws := (mC cy ad sc ar la)) (ci := 7) (v := .ref (ad 8)) C fiX7 rfl 0 mC_obj 8 (by decide) q4_168 rfl dX7_ofPost_33 ?_
        refine tt_iload_n (pc := 36) (k := 1) C dX7_ofPost_36 rfl rfl ?_
        refine tt_iaload (pc := 37) (ws := (mC cy ad sc ar la)) (n := 5) (f := (ar 8)) C 6 0 mC_get8 rfl hj4 dX7_ofPost_37 (fun hj4 => ?_)
        refine tt_goto (pc := 38) (tgt := 47) C dX7_ofPost_38 (by decide) ?_
        obtain rfl := Option.some.inj hj4
        exact tt_locs [] rfl k5
    · refine tt_aload_n (pc := 18) (k := 0) C dX7_ofPost_18 rfl rfl ?_
      refine tt_get (pc := 19) (ws := (mC cy ad sc ar la)) (ci := 7) (v := .ref (ad 7)) C fiX7 rfl 0 mC_obj 7 (by decide) q4_167 rfl dX7_ofPost_19 ?_
      refine tt_iload_n (pc := 22) (k := 1) C dX7_ofPost_22 rfl rfl ?_
      refine tt_iaload (pc := 23) (ws := (mC cy ad sc ar la)) (n := 5) (f := (ar 7)) C 5 0 mC_get7 rfl hj2 dX7_ofPost_23 (fun hj2 => ?_)
      refine tt_goto (pc := 24) (tgt := 47) C dX7_ofPost_24 (by decide) ?_
      obtain rfl := Option.some.inj hj2
      exact tt_locs [] rfl k3
  · refine tt_aload_n (pc := 8) (k := 0) C dX7_ofPost_8 rfl rfl ?_
    refine tt_iconst (pc := 9) (v := (-1 : Int32)) C dX7_ofPost_9 (by decide) ?_
    obtain ⟨r7, hr7, hf⟩ := bind_some hf
    refine tt_callM (pc := 10) (ws := (mC cy ad sc ar la)) (q0 := 0) (ci := 7) (rest := []) (st' := [.int r7.1]) C rfl (k_X7_no hr7) okX7_no q5_36 rfl mC_obj rfl rfl rfl (Nat.le_of_ble_eq_true rfl) ⟨Nat.le_of_ble_eq_true rfl, Nat.le_of_ble_eq_true rfl⟩ dX7_ofPost_10 ?_
    obtain rfl := Option.some.inj hf
    exact tt_ireturn (pc := 13) C rfl rfl rfl dX7_ofPost_13
theorem dX7_isTrain_0 : decode cX7_isTrain 0 = .ok (.iload_n 1, 1) := by decide +kernel
theorem dX7_isTrain_1 : decode cX7_isTrain 1 = .ok (.iconst 0, 1) := by decide +kernel
theorem dX7_isTrain_2 : decode cX7_isTrain 2 = .ok (.aload_n 0, 1) := by decide +kernel
theorem dX7_isTrain_3 : decode cX7_isTrain 3 = .ok (.getfield 112, 3) := by decide +kernel
theorem dX7_isTrain_6 : decode cX7_isTrain 6 = .ok (.iconst 1, 1) := by decide +kernel
theorem dX7_isTrain_7 : decode cX7_isTrain 7 = .ok (.isub, 1) := by decide +kernel
theorem dX7_isTrain_8 : decode cX7_isTrain 8 = .ok (.invokestatic 102, 3) := by decide +kernel
theorem dX7_isTrain_11 : decode cX7_isTrain 11 = .ok (.ireturn, 1) := by decide +kernel
set_option maxHeartbeats 4000000 in
set_option maxRecDepth 100000 in
theorem k_X7_isTrain {l : Launch} {D : va_G} {cy : Nat → ClassId} {Bd : Nat} {xa : Xa} {ad : Nat → Nat} {N : Nat} {sc : Nat → Int32} {ar : Nat → Nat → Int32} {la : Nat → Nat → Int64} {a1 : Int32} {out : Int32} (hf : f_X7_isTrain N sc a1 = some out) : KC l yX7_isTrain cX7_isTrain 2 (some .boolean) 1 22 true D cy Bd xa [.ref (ad 0), .int a1] (mC cy ad sc ar la) (some (.int out)) (mC cy ad sc ar la) := by
  refine kc_start (own := RX7) (by decide +kernel) rfl (Nat.le_of_ble_eq_true rfl) ?_
  intro p e s m args below meth c A C
  unfold f_X7_isTrain at hf
  refine tt_locs (L' := [(0, .ref (ad 0)), (1, .int a1)]) [0, 1] rfl ?_
  refine tt_iload_n (pc := 0) (k := 1) C dX7_isTrain_0 rfl rfl ?_
  refine tt_iconst (pc := 1) (v := (0 : Int32)) C dX7_isTrain_1 (by decide) ?_
  refine tt_aload_n (pc := 2) (k := 0) C dX7_isTrain_2 rfl rfl ?_
  refine tt_get (pc := 3) (ws := (mC cy ad sc ar la)) (ci := 7) (v := .int (sc 9)) C fiX7 rfl 0 mC_obj 9 (by decide) q4_169 rfl dX7_isTrain_3 ?_
  refine tt_iconst (pc := 6) (v := (1 : Int32)) C dX7_isTrain_6 (by decide) ?_
  refine tt_isub (pc := 7) C dX7_isTrain_7 ?_
  obtain ⟨r1, hr1, hf⟩ := bind_some hf
  refine tt_callS (pc := 8) (ws := (mC cy ad sc ar la)) (rest := []) (st' := [.int r1]) C (k_X7_in hr1) okX7_in q5_52 (fun _ h => absurd h List.not_mem_nil) rfl rfl rfl (Nat.le_of_ble_eq_true rfl) ⟨Nat.le_of_ble_eq_true rfl, Nat.le_of_ble_eq_true rfl⟩ dX7_isTrain_8 ?_
  obtain ⟨hz, hf⟩ := zchk hf
  obtain rfl := Option.some.inj hf
  exact tt_zreturn (pc := 11) C rfl hz rfl rfl dX7_isTrain_11
theorem dX7_eyeBy_0 : decode cX7_eyeBy 0 = .ok (.iload_n 0, 1) := by decide +kernel
theorem dX7_eyeBy_1 : decode cX7_eyeBy 1 = .ok (.tableswitch 47 1 5 #[35, 37, 39, 41, 45], 35) := by decide +kernel
theorem dX7_eyeBy_36 : decode cX7_eyeBy 36 = .ok (.iconst 4, 1) := by decide +kernel
theorem dX7_eyeBy_37 : decode cX7_eyeBy 37 = .ok (.ireturn, 1) := by decide +kernel
theorem dX7_eyeBy_38 : decode cX7_eyeBy 38 = .ok (.iconst 2, 1) := by decide +kernel
theorem dX7_eyeBy_39 : decode cX7_eyeBy 39 = .ok (.ireturn, 1) := by decide +kernel
theorem dX7_eyeBy_40 : decode cX7_eyeBy 40 = .ok (.iconst 5, 1) := by decide +kernel
theorem dX7_eyeBy_41 : decode cX7_eyeBy 41 = .ok (.ireturn, 1) := by decide +kernel
theorem dX7_eyeBy_42 : decode cX7_eyeBy 42 = .ok (.iconst 2, 1) := by decide +kernel
theorem dX7_eyeBy_43 : decode cX7_eyeBy 43 = .ok (.iload_n 1, 1) := by decide +kernel
theorem dX7_eyeBy_44 : decode cX7_eyeBy 44 = .ok (.iadd, 1) := by decide +kernel
theorem dX7_eyeBy_45 : decode cX7_eyeBy 45 = .ok (.ireturn, 1) := by decide +kernel
theorem dX7_eyeBy_46 : decode cX7_eyeBy 46 = .ok (.iconst 0, 1) := by decide +kernel
theorem dX7_eyeBy_47 : decode cX7_eyeBy 47 = .ok (.ireturn, 1) := by decide +kernel
theorem dX7_eyeBy_48 : decode cX7_eyeBy 48 = .ok (.iconst 3, 1) := by decide +kernel
theorem dX7_eyeBy_49 : decode cX7_eyeBy 49 = .ok (.ireturn, 1) := by decide +kernel
set_option maxHeartbeats 4000000 in
set_option maxRecDepth 100000 in
theorem k_X7_eyeBy {l : Launch} {D : va_G} {cy : Nat → ClassId} {Bd : Nat} {xa : Xa}  {N : Nat} {a1 : Int32} {a2 : Int32} {out : Int32} (hf : f_X7_eyeBy N a1 a2 = some out) : KC l yX7_eyeBy cX7_eyeBy 2 (some .int) 0 0 true D cy Bd xa [.int a1, .int a2] [] (some (.int out)) [] := by
  refine kc_start (own := RX7) (by decide +kernel) rfl (Nat.le_of_ble_eq_true rfl) ?_
  intro p e s m args below meth c A C
  unfold f_X7_eyeBy at hf
  refine tt_locs (L' := [(0, .int a1), (1, .int a2)]) [0, 1] rfl ?_
  refine tt_iload_n (pc := 0) (k := 0) C dX7_eyeBy_0 rfl rfl ?_
  refine sw_eq (x := a1) (k := 1) hf (fun hx hf => ?_) (fun n0 hf => ?_)
  · rw [hx]
    refine tt_tabIn (pc := 1) (tgt := 36) (x := 1) C dX7_eyeBy_1 (by decide) (by decide) rfl (by decide) ?_
    refine tt_iconst (pc := 36) (v := (4 : Int32)) C dX7_eyeBy_36 (by decide) ?_
    obtain rfl := Option.some.inj hf
    exact tt_ireturn (pc := 37) C rfl rfl rfl dX7_eyeBy_37
  · refine sw_eq (x := a1) (k := 2) hf (fun hx hf => ?_) (fun n1 hf => ?_)
    · rw [hx]
      refine tt_tabIn (pc := 1) (tgt := 38) (x := 2) C dX7_eyeBy_1 (by decide) (by decide) rfl (by decide) ?_
      refine tt_iconst (pc := 38) (v := (2 : Int32)) C dX7_eyeBy_38 (by decide) ?_
      obtain rfl := Option.some.inj hf
      exact tt_ireturn (pc := 39) C rfl rfl rfl dX7_eyeBy_39
    · refine sw_eq (x := a1) (k := 3) hf (fun hx hf => ?_) (fun n2 hf => ?_)
      · rw [hx]
        refine tt_tabIn (pc := 1) (tgt := 40) (x := 3) C dX7_eyeBy_1 (by decide) (by decide) rfl (by decide) ?_
        refine tt_iconst (pc := 40) (v := (5 : Int32)) C dX7_eyeBy_40 (by decide) ?_
        obtain rfl := Option.some.inj hf
        exact tt_ireturn (pc := 41) C rfl rfl rfl dX7_eyeBy_41
      · refine sw_eq (x := a1) (k := 4) hf (fun hx hf => ?_) (fun n3 hf => ?_)
        · rw [hx]
          refine tt_tabIn (pc := 1) (tgt := 42) (x := 4) C dX7_eyeBy_1 (by decide) (by decide) rfl (by decide) ?_
          refine tt_iconst (pc := 42) (v := (2 : Int32)) C dX7_eyeBy_42 (by decide) ?_
          refine tt_iload_n (pc := 43) (k := 1) C dX7_eyeBy_43 rfl rfl ?_
          refine tt_iadd (pc := 44) C dX7_eyeBy_44 ?_
          obtain rfl := Option.some.inj hf
          exact tt_ireturn (pc := 45) C rfl rfl rfl dX7_eyeBy_45
        · refine sw_eq (x := a1) (k := 5) hf (fun hx hf => ?_) (fun n4 hf => ?_)
          · rw [hx]
            refine tt_tabIn (pc := 1) (tgt := 46) (x := 5) C dX7_eyeBy_1 (by decide) (by decide) rfl (by decide) ?_
            refine tt_iconst (pc := 46) (v := (0 : Int32)) C dX7_eyeBy_46 (by decide) ?_
            obtain rfl := Option.some.inj hf
            exact tt_ireturn (pc := 47) C rfl rfl rfl dX7_eyeBy_47
          · have g0 := sw_ne n0 (z := 1) (by decide)
            have g1 := sw_ne n1 (z := 2) (by decide)
            have g2 := sw_ne n2 (z := 3) (by decide)
            have g3 := sw_ne n3 (z := 4) (by decide)
            have g4 := sw_ne n4 (z := 5) (by decide)
            refine tt_tabOut (pc := 1) (tgt := 48) C dX7_eyeBy_1 (by omega) (by decide) ?_
            refine tt_iconst (pc := 48) (v := (3 : Int32)) C dX7_eyeBy_48 (by decide) ?_
            obtain rfl := Option.some.inj hf
            exact tt_ireturn (pc := 49) C rfl rfl rfl dX7_eyeBy_49
theorem dX7_eye_0 : decode cX7_eye 0 = .ok (.aload_n 0, 1) := by decide +kernel
theorem dX7_eye_1 : decode cX7_eye 1 = .ok (.getfield 32, 3) := by decide +kernel
theorem dX7_eye_4 : decode cX7_eye 4 = .ok (.iload_n 1, 1) := by decide +kernel
theorem dX7_eye_5 : decode cX7_eye 5 = .ok (.iaload, 1) := by decide +kernel
theorem dX7_eye_6 : decode cX7_eye 6 = .ok (.aload_n 0, 1) := by decide +kernel
theorem dX7_eye_7 : decode cX7_eye 7 = .ok (.getfield 35, 3) := by decide +kernel
theorem dX7_eye_10 : decode cX7_eye 10 = .ok (.iload_n 1, 1) := by decide +kernel
theorem dX7_eye_11 : decode cX7_eye 11 = .ok (.iaload, 1) := by decide +kernel
theorem dX7_eye_12 : decode cX7_eye 12 = .ok (.invokestatic 134, 3) := by decide +kernel
theorem dX7_eye_15 : decode cX7_eye 15 = .ok (.ireturn, 1) := by decide +kernel
set_option maxHeartbeats 4000000 in
set_option maxRecDepth 100000 in
theorem k_X7_eye {l : Launch} {D : va_G} {cy : Nat → ClassId} {Bd : Nat} {xa : Xa} {ad : Nat → Nat} {N : Nat} {sc : Nat → Int32} {ar : Nat → Nat → Int32} {la : Nat → Nat → Int64} {a1 : Int32} {out : Int32} (hf : f_X7_eye N ar a1 = some out) : KC l yX7_eye cX7_eye 2 (some .int) 1 21 true D cy Bd xa [.ref (ad 0), .int a1] (mC cy ad sc ar la) (some (.int out)) (mC cy ad sc ar la) := by
  refine kc_start (own := RX7) (by decide +kernel) rfl (Nat.le_of_ble_eq_true rfl) ?_
  intro p e s m args below meth c A C
  unfold f_X7_eye at hf
  refine tt_locs (L' := [(0, .ref (ad 0)), (1, .int a1)]) [0, 1] rfl ?_
  refine tt_aload_n (pc := 0) (k := 0) C dX7_eye_0 rfl rfl ?_
  refine tt_get (pc := 1) (ws := (mC cy ad sc ar la)) (ci := 7) (v := .ref (ad 10)) C fiX7 rfl 0 mC_obj 10 (by decide) q4_170 rfl dX7_eye_1 ?_
  refine tt_iload_n (pc := 4) (k := 1) C dX7_eye_4 rfl rfl ?_
  refine tt_iaload (pc := 5) (ws := (mC cy ad sc ar la)) (n := 4) (f := (ar 10)) C 7 0 mC_get10 rfl hf dX7_eye_5 (fun hf => ?_)
  refine tt_aload_n (pc := 6) (k := 0) C dX7_eye_6 rfl rfl ?_
  refine tt_get (pc := 7) (ws := (mC cy ad sc ar la)) (ci := 7) (v := .ref (ad 11)) C fiX7 rfl 0 mC_obj 11 (by decide) q4_171 rfl dX7_eye_7 ?_
  refine tt_iload_n (pc := 10) (k := 1) C dX7_eye_10 rfl rfl ?_
  refine tt_iaload (pc := 11) (ws := (mC cy ad sc ar la)) (n := 4) (f := (ar 11)) C 8 0 mC_get11 rfl hf dX7_eye_11 (fun hf => ?_)
  obtain ⟨r1, hr1, hf⟩ := bind_some hf
  refine tt_callS (pc := 12) (ws := (mC cy ad sc ar la)) (rest := []) (st' := [.int r1]) C (k_X7_eyeBy hr1) okX7_eyeBy q5_111 (fun _ h => absurd h List.not_mem_nil) rfl rfl rfl (Nat.le_of_ble_eq_true rfl) ⟨Nat.le_of_ble_eq_true rfl, Nat.le_of_ble_eq_true rfl⟩ dX7_eye_12 ?_
  obtain rfl := Option.some.inj hf
  exact tt_ireturn (pc := 15) C rfl rfl rfl dX7_eye_15
theorem dX7_ofTrain_0 : decode cX7_ofTrain 0 = .ok (.aload_n 0, 1) := by decide +kernel
theorem dX7_ofTrain_1 : decode cX7_ofTrain 1 = .ok (.iload_n 1, 1) := by decide +kernel
theorem dX7_ofTrain_2 : decode cX7_ofTrain 2 = .ok (.invokevirtual 138, 3) := by decide +kernel
theorem dX7_ofTrain_5 : decode cX7_ofTrain 5 = .ok (.ifCond .ne 9, 3) := by decide +kernel
theorem dX7_ofTrain_8 : decode cX7_ofTrain 8 = .ok (.aload_n 0, 1) := by decide +kernel
theorem dX7_ofTrain_9 : decode cX7_ofTrain 9 = .ok (.iconst (-1), 1) := by decide +kernel
theorem dX7_ofTrain_10 : decode cX7_ofTrain 10 = .ok (.invokevirtual 98, 3) := by decide +kernel
theorem dX7_ofTrain_13 : decode cX7_ofTrain 13 = .ok (.ireturn, 1) := by decide +kernel
theorem dX7_ofTrain_14 : decode cX7_ofTrain 14 = .ok (.iload_n 2, 1) := by decide +kernel
theorem dX7_ofTrain_15 : decode cX7_ofTrain 15 = .ok (.tableswitch 67 0 4 #[33, 40, 47, 54, 61], 33) := by decide +kernel
theorem dX7_ofTrain_48 : decode cX7_ofTrain 48 = .ok (.aload_n 0, 1) := by decide +kernel
theorem dX7_ofTrain_49 : decode cX7_ofTrain 49 = .ok (.getfield 32, 3) := by decide +kernel
theorem dX7_ofTrain_52 : decode cX7_ofTrain 52 = .ok (.iload_n 1, 1) := by decide +kernel
theorem dX7_ofTrain_53 : decode cX7_ofTrain 53 = .ok (.iaload, 1) := by decide +kernel
theorem dX7_ofTrain_54 : decode cX7_ofTrain 54 = .ok (.ireturn, 1) := by decide +kernel
theorem dX7_ofTrain_55 : decode cX7_ofTrain 55 = .ok (.aload_n 0, 1) := by decide +kernel
theorem dX7_ofTrain_56 : decode cX7_ofTrain 56 = .ok (.getfield 35, 3) := by decide +kernel
theorem dX7_ofTrain_59 : decode cX7_ofTrain 59 = .ok (.iload_n 1, 1) := by decide +kernel
theorem dX7_ofTrain_60 : decode cX7_ofTrain 60 = .ok (.iaload, 1) := by decide +kernel
theorem dX7_ofTrain_61 : decode cX7_ofTrain 61 = .ok (.ireturn, 1) := by decide +kernel
theorem dX7_ofTrain_62 : decode cX7_ofTrain 62 = .ok (.aload_n 0, 1) := by decide +kernel
theorem dX7_ofTrain_63 : decode cX7_ofTrain 63 = .ok (.getfield 38, 3) := by decide +kernel
theorem dX7_ofTrain_66 : decode cX7_ofTrain 66 = .ok (.iload_n 1, 1) := by decide +kernel
theorem dX7_ofTrain_67 : decode cX7_ofTrain 67 = .ok (.iaload, 1) := by decide +kernel
theorem dX7_ofTrain_68 : decode cX7_ofTrain 68 = .ok (.ireturn, 1) := by decide +kernel
theorem dX7_ofTrain_69 : decode cX7_ofTrain 69 = .ok (.aload_n 0, 1) := by decide +kernel
theorem dX7_ofTrain_70 : decode cX7_ofTrain 70 = .ok (.getfield 41, 3) := by decide +kernel
theorem dX7_ofTrain_73 : decode cX7_ofTrain 73 = .ok (.iload_n 1, 1) := by decide +kernel
theorem dX7_ofTrain_74 : decode cX7_ofTrain 74 = .ok (.iaload, 1) := by decide +kernel
theorem dX7_ofTrain_75 : decode cX7_ofTrain 75 = .ok (.ireturn, 1) := by decide +kernel
theorem dX7_ofTrain_76 : decode cX7_ofTrain 76 = .ok (.aload_n 0, 1) := by decide +kernel
theorem dX7_ofTrain_77 : decode cX7_ofTrain 77 = .ok (.iload_n 1, 1) := by decide +kernel
theorem dX7_ofTrain_78 : decode cX7_ofTrain 78 = .ok (.invokevirtual 141, 3) := by decide +kernel
theorem dX7_ofTrain_81 : decode cX7_ofTrain 81 = .ok (.ireturn, 1) := by decide +kernel
theorem dX7_ofTrain_82 : decode cX7_ofTrain 82 = .ok (.aload_n 0, 1) := by decide +kernel
theorem dX7_ofTrain_83 : decode cX7_ofTrain 83 = .ok (.bipush (-2), 2) := by decide +kernel
theorem dX7_ofTrain_85 : decode cX7_ofTrain 85 = .ok (.invokevirtual 98, 3) := by decide +kernel
theorem dX7_ofTrain_88 : decode cX7_ofTrain 88 = .ok (.ireturn, 1) := by decide +kernel
set_option maxHeartbeats 4000000 in
set_option maxRecDepth 100000 in
theorem k_X7_ofTrain {l : Launch} {D : va_G} {cy : Nat → ClassId} {Bd : Nat} {xa : Xa} {ad : Nat → Nat} {N : Nat} {sc : Nat → Int32} {ar : Nat → Nat → Int32} {la : Nat → Nat → Int64} {a1 : Int32} {a2 : Int32} {out : Int32 × (Nat → Nat → Int32)} (hf : f_X7_ofTrain N sc ar a1 a2 = some out) : KC l yX7_ofTrain cX7_ofTrain 3 (some .int) 2 43 false D cy Bd xa [.ref (ad 0), .int a1, .int a2] (mC cy ad sc ar la) (some (.int out.1)) (mC cy ad sc out.2 la) := by
  refine kc_start (own := RX7) (by decide +kernel) rfl (Nat.le_of_ble_eq_true rfl) ?_
  intro p e s m args below meth c A C
  unfold f_X7_ofTrain at hf
  refine tt_locs (L' := [(0, .ref (ad 0)), (1, .int a1), (2, .int a2)]) [0, 1, 2] rfl ?_
  refine tt_aload_n (pc := 0) (k := 0) C dX7_ofTrain_0 rfl rfl ?_
  refine tt_iload_n (pc := 1) (k := 1) C dX7_ofTrain_1 rfl rfl ?_
  obtain ⟨r1, hr1, hf⟩ := bind_some hf
  refine tt_callR (pc := 2) (ws := (mC cy ad sc ar la)) (q0 := 0) (ci := 7) (rest := []) (st' := [.int r1]) C (k_X7_isTrain hr1) okX7_isTrain q5_103 rfl mC_obj (fun _ h => h) rfl rfl rfl (Nat.le_of_ble_eq_true rfl) ⟨Nat.le_of_ble_eq_true rfl, Nat.le_of_ble_eq_true rfl⟩ dX7_ofTrain_2 ?_
  refine tt_if_ne (pc := 5) (tgt := 14) C dX7_ofTrain_5 (by decide) hf (fun hf => ?_) (fun hf => ?_)
  · refine tt_iload_n (pc := 14) (k := 2) C dX7_ofTrain_14 rfl rfl ?_
    refine sw_eq (x := a2) (k := 0) hf (fun hx hf => ?_) (fun n0 hf => ?_)
    · rw [hx]
      refine tt_tabIn (pc := 15) (tgt := 48) (x := 0) C dX7_ofTrain_15 (by decide) (by decide) rfl (by decide) ?_
      refine tt_aload_n (pc := 48) (k := 0) C dX7_ofTrain_48 rfl rfl ?_
      refine tt_get (pc := 49) (ws := (mC cy ad sc ar la)) (ci := 7) (v := .ref (ad 10)) C fiX7 rfl 0 mC_obj 10 (by decide) q4_170 rfl dX7_ofTrain_49 ?_
      refine tt_iload_n (pc := 52) (k := 1) C dX7_ofTrain_52 rfl rfl ?_
      refine tt_iaload (pc := 53) (ws := (mC cy ad sc ar la)) (n := 4) (f := (ar 10)) C 7 0 mC_get10 rfl hf dX7_ofTrain_53 (fun hf => ?_)
      obtain rfl := Option.some.inj hf
      exact tt_ireturn (pc := 54) C rfl rfl rfl dX7_ofTrain_54
    · refine sw_eq (x := a2) (k := 1) hf (fun hx hf => ?_) (fun n1 hf => ?_)
      · rw [hx]
        refine tt_tabIn (pc := 15) (tgt := 55) (x := 1) C dX7_ofTrain_15 (by decide) (by decide) rfl (by decide) ?_
        refine tt_aload_n (pc := 55) (k := 0) C dX7_ofTrain_55 rfl rfl ?_
        refine tt_get (pc := 56) (ws := (mC cy ad sc ar la)) (ci := 7) (v := .ref (ad 11)) C fiX7 rfl 0 mC_obj 11 (by decide) q4_171 rfl dX7_ofTrain_56 ?_
        refine tt_iload_n (pc := 59) (k := 1) C dX7_ofTrain_59 rfl rfl ?_
        refine tt_iaload (pc := 60) (ws := (mC cy ad sc ar la)) (n := 4) (f := (ar 11)) C 8 0 mC_get11 rfl hf dX7_ofTrain_60 (fun hf => ?_)
        obtain rfl := Option.some.inj hf
        exact tt_ireturn (pc := 61) C rfl rfl rfl dX7_ofTrain_61
      · refine sw_eq (x := a2) (k := 2) hf (fun hx hf => ?_) (fun n2 hf => ?_)
        · rw [hx]
          refine tt_tabIn (pc := 15) (tgt := 62) (x := 2) C dX7_ofTrain_15 (by decide) (by decide) rfl (by decide) ?_
          refine tt_aload_n (pc := 62) (k := 0) C dX7_ofTrain_62 rfl rfl ?_
          refine tt_get (pc := 63) (ws := (mC cy ad sc ar la)) (ci := 7) (v := .ref (ad 12)) C fiX7 rfl 0 mC_obj 12 (by decide) q4_172 rfl dX7_ofTrain_63 ?_
          refine tt_iload_n (pc := 66) (k := 1) C dX7_ofTrain_66 rfl rfl ?_
          refine tt_iaload (pc := 67) (ws := (mC cy ad sc ar la)) (n := 4) (f := (ar 12)) C 9 0 mC_get12 rfl hf dX7_ofTrain_67 (fun hf => ?_)
          obtain rfl := Option.some.inj hf
          exact tt_ireturn (pc := 68) C rfl rfl rfl dX7_ofTrain_68
        · refine sw_eq (x := a2) (k := 3) hf (fun hx hf => ?_) (fun n3 hf => ?_)
          · rw [hx]
            refine tt_tabIn (pc := 15) (tgt := 69) (x := 3) C dX7_ofTrain_15 (by decide) (by decide) rfl (by decide) ?_
            refine tt_aload_n (pc := 69) (k := 0) C dX7_ofTrain_69 rfl rfl ?_
            refine tt_get (pc := 70) (ws := (mC cy ad sc ar la)) (ci := 7) (v := .ref (ad 13)) C fiX7 rfl 0 mC_obj 13 (by decide) q4_173 rfl dX7_ofTrain_70 ?_
            refine tt_iload_n (pc := 73) (k := 1) C dX7_ofTrain_73 rfl rfl ?_
            refine tt_iaload (pc := 74) (ws := (mC cy ad sc ar la)) (n := 4) (f := (ar 13)) C 10 0 mC_get13 rfl hf dX7_ofTrain_74 (fun hf => ?_)
            obtain rfl := Option.some.inj hf
            exact tt_ireturn (pc := 75) C rfl rfl rfl dX7_ofTrain_75
          · refine sw_eq (x := a2) (k := 4) hf (fun hx hf => ?_) (fun n4 hf => ?_)
            · rw [hx]
              refine tt_tabIn (pc := 15) (tgt := 76) (x := 4) C dX7_ofTrain_15 (by decide) (by decide) rfl (by decide) ?_
              refine tt_aload_n (pc := 76) (k := 0) C dX7_ofTrain_76 rfl rfl ?_
              refine tt_iload_n (pc := 77) (k := 1) C dX7_ofTrain_77 rfl rfl ?_
              obtain ⟨r3, hr3, hf⟩ := bind_some hf
              refine tt_callR (pc := 78) (ws := (mC cy ad sc ar la)) (q0 := 0) (ci := 7) (rest := []) (st' := [.int r3]) C (k_X7_eye hr3) okX7_eye q5_107 rfl mC_obj (fun _ h => h) rfl rfl rfl (Nat.le_of_ble_eq_true rfl) ⟨Nat.le_of_ble_eq_true rfl, Nat.le_of_ble_eq_true rfl⟩ dX7_ofTrain_78 ?_
              obtain rfl := Option.some.inj hf
              exact tt_ireturn (pc := 81) C rfl rfl rfl dX7_ofTrain_81
            · have g0 := sw_ne n0 (z := 0) (by decide)
              have g1 := sw_ne n1 (z := 1) (by decide)
              have g2 := sw_ne n2 (z := 2) (by decide)
              have g3 := sw_ne n3 (z := 3) (by decide)
              have g4 := sw_ne n4 (z := 4) (by decide)
              refine tt_tabOut (pc := 15) (tgt := 82) C dX7_ofTrain_15 (by omega) (by decide) ?_
              refine tt_aload_n (pc := 82) (k := 0) C dX7_ofTrain_82 rfl rfl ?_
              refine tt_bipush (pc := 83) (v := (-2 : Int32)) C dX7_ofTrain_83 (by decide) ?_
              obtain ⟨r4, hr4, hf⟩ := bind_some hf
              refine tt_callM (pc := 85) (ws := (mC cy ad sc ar la)) (q0 := 0) (ci := 7) (rest := []) (st' := [.int r4.1]) C rfl (k_X7_no hr4) okX7_no q5_36 rfl mC_obj rfl rfl rfl (Nat.le_of_ble_eq_true rfl) ⟨Nat.le_of_ble_eq_true rfl, Nat.le_of_ble_eq_true rfl⟩ dX7_ofTrain_85 ?_
              obtain rfl := Option.some.inj hf
              exact tt_ireturn (pc := 88) C rfl rfl rfl dX7_ofTrain_88
  · refine tt_aload_n (pc := 8) (k := 0) C dX7_ofTrain_8 rfl rfl ?_
    refine tt_iconst (pc := 9) (v := (-1 : Int32)) C dX7_ofTrain_9 (by decide) ?_
    obtain ⟨r5, hr5, hf⟩ := bind_some hf
    refine tt_callM (pc := 10) (ws := (mC cy ad sc ar la)) (q0 := 0) (ci := 7) (rest := []) (st' := [.int r5.1]) C rfl (k_X7_no hr5) okX7_no q5_36 rfl mC_obj rfl rfl rfl (Nat.le_of_ble_eq_true rfl) ⟨Nat.le_of_ble_eq_true rfl, Nat.le_of_ble_eq_true rfl⟩ dX7_ofTrain_10 ?_
    obtain rfl := Option.some.inj hf
    exact tt_ireturn (pc := 13) C rfl rfl rfl dX7_ofTrain_13
theorem dX7_height_0 : decode cX7_height 0 = .ok (.aload_n 0, 1) := by decide +kernel
theorem dX7_height_1 : decode cX7_height 1 = .ok (.iload_n 1, 1) := by decide +kernel
theorem dX7_height_2 : decode cX7_height 2 = .ok (.invokevirtual 121, 3) := by decide +kernel
theorem dX7_height_5 : decode cX7_height 5 = .ok (.ifCond .eq 12, 3) := by decide +kernel
theorem dX7_height_8 : decode cX7_height 8 = .ok (.aload_n 0, 1) := by decide +kernel
theorem dX7_height_9 : decode cX7_height 9 = .ok (.getfield 13, 3) := by decide +kernel
theorem dX7_height_12 : decode cX7_height 12 = .ok (.iload_n 1, 1) := by decide +kernel
theorem dX7_height_13 : decode cX7_height 13 = .ok (.iaload, 1) := by decide +kernel
theorem dX7_height_14 : decode cX7_height 14 = .ok (.goto 8, 3) := by decide +kernel
theorem dX7_height_17 : decode cX7_height 17 = .ok (.aload_n 0, 1) := by decide +kernel
theorem dX7_height_18 : decode cX7_height 18 = .ok (.iconst (-1), 1) := by decide +kernel
theorem dX7_height_19 : decode cX7_height 19 = .ok (.invokevirtual 98, 3) := by decide +kernel
theorem dX7_height_22 : decode cX7_height 22 = .ok (.ireturn, 1) := by decide +kernel
set_option maxHeartbeats 4000000 in
set_option maxRecDepth 100000 in
theorem k_X7_height {l : Launch} {D : va_G} {cy : Nat → ClassId} {Bd : Nat} {xa : Xa} {ad : Nat → Nat} {N : Nat} {sc : Nat → Int32} {ar : Nat → Nat → Int32} {la : Nat → Nat → Int64} {a1 : Int32} {out : Int32 × (Nat → Nat → Int32)} (hf : f_X7_height N sc ar a1 = some out) : KC l yX7_height cX7_height 2 (some .int) 2 43 false D cy Bd xa [.ref (ad 0), .int a1] (mC cy ad sc ar la) (some (.int out.1)) (mC cy ad sc out.2 la) := by
  refine kc_start (own := RX7) (by decide +kernel) rfl (Nat.le_of_ble_eq_true rfl) ?_
  intro p e s m args below meth c A C
  unfold f_X7_height at hf
  refine tt_locs (L' := [(0, .ref (ad 0)), (1, .int a1)]) [0, 1] rfl ?_
  refine tt_aload_n (pc := 0) (k := 0) C dX7_height_0 rfl rfl ?_
  refine tt_iload_n (pc := 1) (k := 1) C dX7_height_1 rfl rfl ?_
  obtain ⟨r1, hr1, hf⟩ := bind_some hf
  refine tt_callR (pc := 2) (ws := (mC cy ad sc ar la)) (q0 := 0) (ci := 7) (rest := []) (st' := [.int r1]) C (k_X7_isCell hr1) okX7_isCell q5_48 rfl mC_obj (fun _ h => h) rfl rfl rfl (Nat.le_of_ble_eq_true rfl) ⟨Nat.le_of_ble_eq_true rfl, Nat.le_of_ble_eq_true rfl⟩ dX7_height_2 ?_
  obtain ⟨j2, hj2, hf⟩ := bind_some hf
  have k3 : TT p l e { frames := 2, cells := 0, slots := 0, locals := 43 } s m args below meth c 2 D A false (some (.int out.1)) (mC cy ad sc out.2 la) 22 [] [.int j2.1] (mC cy ad sc j2.2 la) := by
    obtain rfl := Option.some.inj hf
    exact tt_ireturn (pc := 22) C rfl rfl rfl dX7_height_22
  refine tt_if_eq (pc := 5) (tgt := 17) C dX7_height_5 (by decide) hj2 (fun hj2 => ?_) (fun hj2 => ?_)
  · refine tt_aload_n (pc := 17) (k := 0) C dX7_height_17 rfl rfl ?_
    refine tt_iconst (pc := 18) (v := (-1 : Int32)) C dX7_height_18 (by decide) ?_
    obtain ⟨r4, hr4, hj2⟩ := bind_some hj2
    refine tt_callM (pc := 19) (ws := (mC cy ad sc ar la)) (q0 := 0) (ci := 7) (rest := []) (st' := [.int r4.1]) C rfl (k_X7_no hr4) okX7_no q5_36 rfl mC_obj rfl rfl rfl (Nat.le_of_ble_eq_true rfl) ⟨Nat.le_of_ble_eq_true rfl, Nat.le_of_ble_eq_true rfl⟩ dX7_height_19 ?_
    obtain rfl := Option.some.inj hj2
    exact tt_locs [] rfl k3
  · refine tt_aload_n (pc := 8) (k := 0) C dX7_height_8 rfl rfl ?_
    refine tt_get (pc := 9) (ws := (mC cy ad sc ar la)) (ci := 7) (v := .ref (ad 1)) C fiX7 rfl 0 mC_obj 1 (by decide) q4_161 rfl dX7_height_9 ?_
    refine tt_iload_n (pc := 12) (k := 1) C dX7_height_12 rfl rfl ?_
    refine tt_iaload (pc := 13) (ws := (mC cy ad sc ar la)) (n := 24) (f := (ar 1)) C 1 0 mC_get1 rfl hj2 dX7_height_13 (fun hj2 => ?_)
    refine tt_goto (pc := 14) (tgt := 22) C dX7_height_14 (by decide) ?_
    obtain rfl := Option.some.inj hj2
    exact tt_locs [] rfl k3
theorem dX7_isBridged_0 : decode cX7_isBridged 0 = .ok (.iconst 0, 1) := by decide +kernel
theorem dX7_isBridged_1 : decode cX7_isBridged 1 = .ok (.istore_n 2, 1) := by decide +kernel
theorem dX7_isBridged_2 : decode cX7_isBridged 2 = .ok (.iconst 0, 1) := by decide +kernel
theorem dX7_isBridged_3 : decode cX7_isBridged 3 = .ok (.istore_n 3, 1) := by decide +kernel
theorem dX7_isBridged_4 : decode cX7_isBridged 4 = .ok (.iload_n 3, 1) := by decide +kernel
theorem dX7_isBridged_5 : decode cX7_isBridged 5 = .ok (.aload_n 0, 1) := by decide +kernel
theorem dX7_isBridged_6 : decode cX7_isBridged 6 = .ok (.getfield 106, 3) := by decide +kernel
theorem dX7_isBridged_9 : decode cX7_isBridged 9 = .ok (.if_icmp .ge 29, 3) := by decide +kernel
theorem dX7_isBridged_12 : decode cX7_isBridged 12 = .ok (.iload_n 2, 1) := by decide +kernel
theorem dX7_isBridged_13 : decode cX7_isBridged 13 = .ok (.ifCond .ne 13, 3) := by decide +kernel
theorem dX7_isBridged_16 : decode cX7_isBridged 16 = .ok (.aload_n 0, 1) := by decide +kernel
theorem dX7_isBridged_17 : decode cX7_isBridged 17 = .ok (.getfield 17, 3) := by decide +kernel
theorem dX7_isBridged_20 : decode cX7_isBridged 20 = .ok (.iload_n 3, 1) := by decide +kernel
theorem dX7_isBridged_21 : decode cX7_isBridged 21 = .ok (.iaload, 1) := by decide +kernel
theorem dX7_isBridged_22 : decode cX7_isBridged 22 = .ok (.iload_n 1, 1) := by decide +kernel
theorem dX7_isBridged_23 : decode cX7_isBridged 23 = .ok (.if_icmp .ne 7, 3) := by decide +kernel
theorem dX7_isBridged_26 : decode cX7_isBridged 26 = .ok (.iconst 1, 1) := by decide +kernel
theorem dX7_isBridged_27 : decode cX7_isBridged 27 = .ok (.goto 4, 3) := by decide +kernel
theorem dX7_isBridged_30 : decode cX7_isBridged 30 = .ok (.iconst 0, 1) := by decide +kernel
theorem dX7_isBridged_31 : decode cX7_isBridged 31 = .ok (.istore_n 2, 1) := by decide +kernel
theorem dX7_isBridged_32 : decode cX7_isBridged 32 = .ok (.iinc 3 1, 3) := by decide +kernel
theorem dX7_isBridged_35 : decode cX7_isBridged 35 = .ok (.goto (-31), 3) := by decide +kernel
theorem dX7_isBridged_38 : decode cX7_isBridged 38 = .ok (.iload_n 2, 1) := by decide +kernel
theorem dX7_isBridged_39 : decode cX7_isBridged 39 = .ok (.ireturn, 1) := by decide +kernel
set_option maxHeartbeats 4000000 in
set_option maxRecDepth 100000 in
theorem l_X7_isBridged_4 {p : Program} {l : Launch} {e : Env} {s : State} {m : MethodId} {args : Array Value} {below : List Frame} {meth : Method} {c : Code} {D : va_G} {cy : Nat → ClassId} {A : Nat → Prop} {Bd : Nat} {xa : Xa} {ad : Nat → Nat} {β : Type} {vO : Option Value} {wO : va_W} {N : Nat} {sc : Nat → Int32} {ar : Nat → Nat → Int32} {la : Nat → Nat → Int64} {v1 : Int32} {kx : Int32 → Option (β)} {out : β} (C : CC p s m args meth c cX7_isBridged RX7 4 (some .boolean) D cy A true Bd xa) (hk : ∀ (x2 : Int32), kx x2 = some out → TT p l e { frames := 0, cells := 0, slots := 0, locals := 0 } s m args below meth c 4 D A true vO wO 38 [(2, .int x2)] [] (mC cy ad sc ar la)) {n : Nat} {v2 : Int32} {v3 : Int32} (hf : f_X7_isBridged_L4 N sc ar v1 kx n v2 v3 = some out) : TT p l e { frames := 0, cells := 0, slots := 0, locals := 0 } s m args below meth c 4 D A true vO wO 4 [(0, .ref (ad 0)), (1, .int v1), (2, .int v2), (3, .int v3)] [] (mC cy ad sc ar la) := by
  induction n generalizing v2 v3 with
  | zero => cases hf
  | succ n ih =>
    rw [f_X7_isBridged_L4] at hf
    refine tt_iload_n (pc := 4) (k := 3) C dX7_isBridged_4 rfl rfl ?_
    refine tt_aload_n (pc := 5) (k := 0) C dX7_isBridged_5 rfl rfl ?_
    refine tt_get (pc := 6) (ws := (mC cy ad sc ar la)) (ci := 7) (v := .int (sc 2)) C fiX7 rfl 0 mC_obj 2 (by decide) q4_162 rfl dX7_isBridged_6 ?_
    refine tt_icmp_ge (pc := 9) (tgt := 38) C dX7_isBridged_9 (by decide) hf (fun hf => ?_) (fun hf => ?_)
    · exact tt_locs [2] rfl (hk _ hf)
    · refine tt_iload_n (pc := 12) (k := 2) C dX7_isBridged_12 rfl rfl ?_
      obtain ⟨j1, hj1, hf⟩ := bind_some hf
      have k2 : TT p l e { frames := 0, cells := 0, slots := 0, locals := 0 } s m args below meth c 4 D A true vO wO 31 [(0, .ref (ad 0)), (1, .int v1), (3, .int v3)] [.int j1] (mC cy ad sc ar la) := by
        refine tt_istore_n (pc := 31) (L' := [(2, .int j1), (0, .ref (ad 0)), (1, .int v1), (3, .int v3)]) C dX7_isBridged_31 rfl (by decide) rfl ?_
        refine tt_iinc (pc := 32) (k := 3) (v := (v3 + 1)) (L' := [(3, .int (v3 + 1)), (2, .int j1), (0, .ref (ad 0)), (1, .int v1)]) C dX7_isBridged_32 rfl rfl (by decide) rfl ?_
        refine tt_goto (pc := 35) (tgt := 4) C dX7_isBridged_35 (by decide) ?_
        exact tt_locs [2, 3, 1, 0] rfl (ih hf)
      refine tt_if_ne (pc := 13) (tgt := 26) C dX7_isBridged_13 (by decide) hj1 (fun hj1 => ?_) (fun hj1 => ?_)
      · refine tt_iconst (pc := 26) (v := (1 : Int32)) C dX7_isBridged_26 (by decide) ?_
        refine tt_goto (pc := 27) (tgt := 31) C dX7_isBridged_27 (by decide) ?_
        obtain rfl := Option.some.inj hj1
        exact tt_locs [0, 1, 3] rfl k2
      · refine tt_aload_n (pc := 16) (k := 0) C dX7_isBridged_16 rfl rfl ?_
        refine tt_get (pc := 17) (ws := (mC cy ad sc ar la)) (ci := 7) (v := .ref (ad 3)) C fiX7 rfl 0 mC_obj 3 (by decide) q4_163 rfl dX7_isBridged_17 ?_
        refine tt_iload_n (pc := 20) (k := 3) C dX7_isBridged_20 rfl rfl ?_
        refine tt_iaload (pc := 21) (ws := (mC cy ad sc ar la)) (n := 4) (f := (ar 3)) C 2 0 mC_get3 rfl hj1 dX7_isBridged_21 (fun hj1 => ?_)
        refine tt_iload_n (pc := 22) (k := 1) C dX7_isBridged_22 rfl rfl ?_
        have k4 : TT p l e { frames := 0, cells := 0, slots := 0, locals := 0 } s m args below meth c 4 D A true vO wO 31 [(0, .ref (ad 0)), (1, .int v1), (3, .int v3)] [.int (if ((ar 3) (ix v3)) = v1 then (1 : Int32) else (0 : Int32))] (mC cy ad sc ar la) := by
          obtain rfl := Option.some.inj hj1
          exact tt_locs [0, 1, 2] rfl k2
        refine tr_icmp_ne (pc := 23) (tgt := 30) C dX7_isBridged_23 (by decide) (fun c3 => ?_) (fun c3 => ?_)
        · refine tt_iconst (pc := 30) (v := (0 : Int32)) C dX7_isBridged_30 (by decide) ?_
          try simp only [if_neg c3] at k4 ⊢
          exact tt_locs [0, 1, 3] rfl k4
        · refine tt_iconst (pc := 26) (v := (1 : Int32)) C dX7_isBridged_26 (by decide) ?_
          refine tt_goto (pc := 27) (tgt := 31) C dX7_isBridged_27 (by decide) ?_
          try simp only [if_pos c3] at k4 ⊢
          exact tt_locs [0, 1, 3] rfl k4
set_option maxHeartbeats 4000000 in
set_option maxRecDepth 100000 in
theorem k_X7_isBridged {l : Launch} {D : va_G} {cy : Nat → ClassId} {Bd : Nat} {xa : Xa} {ad : Nat → Nat} {N : Nat} {sc : Nat → Int32} {ar : Nat → Nat → Int32} {la : Nat → Nat → Int64} {a1 : Int32} {out : Int32} (hf : f_X7_isBridged N sc ar a1 = some out) : KC l yX7_isBridged cX7_isBridged 4 (some .boolean) 0 0 true D cy Bd xa [.ref (ad 0), .int a1] (mC cy ad sc ar la) (some (.int out)) (mC cy ad sc ar la) := by
  refine kc_start (own := RX7) (by decide +kernel) rfl (Nat.le_of_ble_eq_true rfl) ?_
  intro p e s m args below meth c A C
  unfold f_X7_isBridged at hf
  refine tt_locs (L' := [(0, .ref (ad 0)), (1, .int a1)]) [0, 1] rfl ?_
  refine tt_iconst (pc := 0) (v := (0 : Int32)) C dX7_isBridged_0 (by decide) ?_
  refine tt_istore_n (pc := 1) (L' := [(2, .int (0 : Int32)), (0, .ref (ad 0)), (1, .int a1)]) C dX7_isBridged_1 rfl (by decide) rfl ?_
  refine tt_iconst (pc := 2) (v := (0 : Int32)) C dX7_isBridged_2 (by decide) ?_
  refine tt_istore_n (pc := 3) (L' := [(3, .int (0 : Int32)), (2, .int (0 : Int32)), (0, .ref (ad 0)), (1, .int a1)]) C dX7_isBridged_3 rfl (by decide) rfl ?_
  refine tt_locs (L' := [(0, .ref (ad 0)), (1, .int a1), (2, .int (0 : Int32)), (3, .int (0 : Int32))]) [2, 3, 1, 0] rfl (l_X7_isBridged_4 C (fun x2_5 hf => ?_) hf)
  refine tt_iload_n (pc := 38) (k := 0) C dX7_isBridged_38 rfl rfl ?_
  obtain ⟨hz, hf⟩ := zchk hf
  obtain rfl := Option.some.inj hf
  exact tt_zreturn (pc := 39) C rfl hz rfl rfl dX7_isBridged_39
theorem dX7_timeBy_0 : decode cX7_timeBy 0 = .ok (.iload 5, 2) := by decide +kernel
theorem dX7_timeBy_2 : decode cX7_timeBy 2 = .ok (.iload 4, 2) := by decide +kernel
theorem dX7_timeBy_4 : decode cX7_timeBy 4 = .ok (.ifCond .ne 7, 3) := by decide +kernel
theorem dX7_timeBy_7 : decode cX7_timeBy 7 = .ok (.iconst 1, 1) := by decide +kernel
theorem dX7_timeBy_8 : decode cX7_timeBy 8 = .ok (.goto 4, 3) := by decide +kernel
theorem dX7_timeBy_11 : decode cX7_timeBy 11 = .ok (.iconst (-1), 1) := by decide +kernel
theorem dX7_timeBy_12 : decode cX7_timeBy 12 = .ok (.iadd, 1) := by decide +kernel
theorem dX7_timeBy_13 : decode cX7_timeBy 13 = .ok (.istore 6, 2) := by decide +kernel
theorem dX7_timeBy_15 : decode cX7_timeBy 15 = .ok (.iload_n 3, 1) := by decide +kernel
theorem dX7_timeBy_16 : decode cX7_timeBy 16 = .ok (.aload_n 0, 1) := by decide +kernel
theorem dX7_timeBy_17 : decode cX7_timeBy 17 = .ok (.iload 6, 2) := by decide +kernel
theorem dX7_timeBy_19 : decode cX7_timeBy 19 = .ok (.invokevirtual 121, 3) := by decide +kernel
theorem dX7_timeBy_22 : decode cX7_timeBy 22 = .ok (.ifCond .eq 25, 3) := by decide +kernel
theorem dX7_timeBy_25 : decode cX7_timeBy 25 = .ok (.iconst 0, 1) := by decide +kernel
theorem dX7_timeBy_26 : decode cX7_timeBy 26 = .ok (.aload_n 0, 1) := by decide +kernel
theorem dX7_timeBy_27 : decode cX7_timeBy 27 = .ok (.getfield 13, 3) := by decide +kernel
theorem dX7_timeBy_30 : decode cX7_timeBy 30 = .ok (.iload 6, 2) := by decide +kernel
theorem dX7_timeBy_32 : decode cX7_timeBy 32 = .ok (.iaload, 1) := by decide +kernel
theorem dX7_timeBy_33 : decode cX7_timeBy 33 = .ok (.aload_n 0, 1) := by decide +kernel
theorem dX7_timeBy_34 : decode cX7_timeBy 34 = .ok (.getfield 13, 3) := by decide +kernel
theorem dX7_timeBy_37 : decode cX7_timeBy 37 = .ok (.iload 5, 2) := by decide +kernel
theorem dX7_timeBy_39 : decode cX7_timeBy 39 = .ok (.iaload, 1) := by decide +kernel
theorem dX7_timeBy_40 : decode cX7_timeBy 40 = .ok (.isub, 1) := by decide +kernel
theorem dX7_timeBy_41 : decode cX7_timeBy 41 = .ok (.invokestatic 144, 3) := by decide +kernel
theorem dX7_timeBy_44 : decode cX7_timeBy 44 = .ok (.goto 4, 3) := by decide +kernel
theorem dX7_timeBy_47 : decode cX7_timeBy 47 = .ok (.iconst 0, 1) := by decide +kernel
theorem dX7_timeBy_48 : decode cX7_timeBy 48 = .ok (.iadd, 1) := by decide +kernel
theorem dX7_timeBy_49 : decode cX7_timeBy 49 = .ok (.istore 7, 2) := by decide +kernel
theorem dX7_timeBy_51 : decode cX7_timeBy 51 = .ok (.iload_n 3, 1) := by decide +kernel
theorem dX7_timeBy_52 : decode cX7_timeBy 52 = .ok (.iconst 1, 1) := by decide +kernel
theorem dX7_timeBy_53 : decode cX7_timeBy 53 = .ok (.iadd, 1) := by decide +kernel
theorem dX7_timeBy_54 : decode cX7_timeBy 54 = .ok (.iconst 2, 1) := by decide +kernel
theorem dX7_timeBy_55 : decode cX7_timeBy 55 = .ok (.idiv, 1) := by decide +kernel
theorem dX7_timeBy_56 : decode cX7_timeBy 56 = .ok (.istore 8, 2) := by decide +kernel
theorem dX7_timeBy_58 : decode cX7_timeBy 58 = .ok (.iload_n 1, 1) := by decide +kernel
theorem dX7_timeBy_59 : decode cX7_timeBy 59 = .ok (.tableswitch 71 1 5 #[33, 36, 39, 57, 66], 33) := by decide +kernel
theorem dX7_timeBy_92 : decode cX7_timeBy 92 = .ok (.iload 7, 2) := by decide +kernel
theorem dX7_timeBy_94 : decode cX7_timeBy 94 = .ok (.ireturn, 1) := by decide +kernel
theorem dX7_timeBy_95 : decode cX7_timeBy 95 = .ok (.iload 8, 2) := by decide +kernel
theorem dX7_timeBy_97 : decode cX7_timeBy 97 = .ok (.ireturn, 1) := by decide +kernel
theorem dX7_timeBy_98 : decode cX7_timeBy 98 = .ok (.iload 7, 2) := by decide +kernel
theorem dX7_timeBy_100 : decode cX7_timeBy 100 = .ok (.aload_n 0, 1) := by decide +kernel
theorem dX7_timeBy_101 : decode cX7_timeBy 101 = .ok (.iload 5, 2) := by decide +kernel
theorem dX7_timeBy_103 : decode cX7_timeBy 103 = .ok (.invokevirtual 149, 3) := by decide +kernel
theorem dX7_timeBy_106 : decode cX7_timeBy 106 = .ok (.ifCond .eq 7, 3) := by decide +kernel
theorem dX7_timeBy_109 : decode cX7_timeBy 109 = .ok (.iload_n 2, 1) := by decide +kernel
theorem dX7_timeBy_110 : decode cX7_timeBy 110 = .ok (.goto 4, 3) := by decide +kernel
theorem dX7_timeBy_113 : decode cX7_timeBy 113 = .ok (.iconst 0, 1) := by decide +kernel
theorem dX7_timeBy_114 : decode cX7_timeBy 114 = .ok (.iadd, 1) := by decide +kernel
theorem dX7_timeBy_115 : decode cX7_timeBy 115 = .ok (.ireturn, 1) := by decide +kernel
theorem dX7_timeBy_116 : decode cX7_timeBy 116 = .ok (.iconst 1, 1) := by decide +kernel
theorem dX7_timeBy_117 : decode cX7_timeBy 117 = .ok (.iload 8, 2) := by decide +kernel
theorem dX7_timeBy_119 : decode cX7_timeBy 119 = .ok (.iconst 1, 1) := by decide +kernel
theorem dX7_timeBy_120 : decode cX7_timeBy 120 = .ok (.isub, 1) := by decide +kernel
theorem dX7_timeBy_121 : decode cX7_timeBy 121 = .ok (.invokestatic 144, 3) := by decide +kernel
theorem dX7_timeBy_124 : decode cX7_timeBy 124 = .ok (.ireturn, 1) := by decide +kernel
theorem dX7_timeBy_125 : decode cX7_timeBy 125 = .ok (.iconst 2, 1) := by decide +kernel
theorem dX7_timeBy_126 : decode cX7_timeBy 126 = .ok (.iload 7, 2) := by decide +kernel
theorem dX7_timeBy_128 : decode cX7_timeBy 128 = .ok (.imul, 1) := by decide +kernel
theorem dX7_timeBy_129 : decode cX7_timeBy 129 = .ok (.ireturn, 1) := by decide +kernel
theorem dX7_timeBy_130 : decode cX7_timeBy 130 = .ok (.iload_n 3, 1) := by decide +kernel
theorem dX7_timeBy_131 : decode cX7_timeBy 131 = .ok (.ireturn, 1) := by decide +kernel
set_option maxHeartbeats 4000000 in
set_option maxRecDepth 100000 in
theorem k_X7_timeBy {l : Launch} {D : va_G} {cy : Nat → ClassId} {Bd : Nat} {xa : Xa} {ad : Nat → Nat} {N : Nat} {sc : Nat → Int32} {ar : Nat → Nat → Int32} {la : Nat → Nat → Int64} {a1 : Int32} {a2 : Int32} {a3 : Int32} {a4 : Int32} {a5 : Int32} {out : Int32} (hf : f_X7_timeBy N sc ar a1 a2 a3 a4 a5 = some out) : KC l yX7_timeBy cX7_timeBy 9 (some .int) 2 43 true D cy Bd xa [.ref (ad 0), .int a1, .int a2, .int a3, .int a4, .int a5] (mC cy ad sc ar la) (some (.int out)) (mC cy ad sc ar la) := by
  refine kc_start (own := RX7) (by decide +kernel) rfl (Nat.le_of_ble_eq_true rfl) ?_
  intro p e s m args below meth c A C
  unfold f_X7_timeBy at hf
  refine tt_locs (L' := [(0, .ref (ad 0)), (1, .int a1), (2, .int a2), (3, .int a3), (4, .int a4), (5, .int a5)]) [0, 1, 2, 3, 4, 5] rfl ?_
  refine tt_iload (pc := 0) (k := 5) C dX7_timeBy_0 rfl ?_
  refine tt_iload (pc := 2) (k := 4) C dX7_timeBy_2 rfl ?_
  have k2 : TT p l e { frames := 2, cells := 0, slots := 0, locals := 43 } s m args below meth c 9 D A true (some (.int out)) (mC cy ad sc ar la) 12 [(0, .ref (ad 0)), (1, .int a1), (2, .int a2), (3, .int a3), (5, .int a5)] [.int (if a4 = 0 then (1 : Int32) else (-1 : Int32)), .int a5] (mC cy ad sc ar la) := by
    refine tt_iadd (pc := 12) C dX7_timeBy_12 ?_
    refine tt_istore (pc := 13) (L' := [(6, .int (a5 + (if a4 = 0 then (1 : Int32) else (-1 : Int32)))), (0, .ref (ad 0)), (1, .int a1), (2, .int a2), (3, .int a3), (5, .int a5)]) C dX7_timeBy_13 (by decide) rfl ?_
    refine tt_iload_n (pc := 15) (k := 4) C dX7_timeBy_15 rfl rfl ?_
    refine tt_aload_n (pc := 16) (k := 1) C dX7_timeBy_16 rfl rfl ?_
    refine tt_iload (pc := 17) (k := 0) C dX7_timeBy_17 rfl ?_
    obtain ⟨r3, hr3, hf⟩ := bind_some hf
    refine tt_callR (pc := 19) (ws := (mC cy ad sc ar la)) (q0 := 0) (ci := 7) (rest := [.int a3]) (st' := [.int r3, .int a3]) C (k_X7_isCell hr3) okX7_isCell q5_48 rfl mC_obj (fun _ h => h) rfl rfl rfl (Nat.le_of_ble_eq_true rfl) ⟨Nat.le_of_ble_eq_true rfl, Nat.le_of_ble_eq_true rfl⟩ dX7_timeBy_19 ?_
    obtain ⟨j4, hj4, hf⟩ := bind_some hf
    have k5 : TT p l e { frames := 2, cells := 0, slots := 0, locals := 43 } s m args below meth c 9 D A true (some (.int out)) (mC cy ad sc ar la) 48 [(0, .ref (ad 0)), (1, .int a1), (2, .int a2), (3, .int a3), (5, .int a5)] [.int j4, .int a3] (mC cy ad sc ar la) := by
      refine tt_iadd (pc := 48) C dX7_timeBy_48 ?_
      refine tt_istore (pc := 49) (L' := [(7, .int (a3 + j4)), (0, .ref (ad 0)), (1, .int a1), (2, .int a2), (3, .int a3), (5, .int a5)]) C dX7_timeBy_49 (by decide) rfl ?_
      refine tt_iload_n (pc := 51) (k := 4) C dX7_timeBy_51 rfl rfl ?_
      refine tt_iconst (pc := 52) (v := (1 : Int32)) C dX7_timeBy_52 (by decide) ?_
      refine tt_iadd (pc := 53) C dX7_timeBy_53 ?_
      refine tt_iconst (pc := 54) (v := (2 : Int32)) C dX7_timeBy_54 (by decide) ?_
      refine tt_idiv (pc := 55) C dX7_timeBy_55 hf (fun hf => ?_)
      refine tt_istore (pc := 56) (L' := [(8, .int ((a3 + (1 : Int32)) / (2 : Int32))), (7, .int (a3 + j4)), (0, .ref (ad 0)), (1, .int a1), (2, .int a2), (3, .int a3), (5, .int a5)]) C dX7_timeBy_56 (by decide) rfl ?_
      refine tt_iload_n (pc := 58) (k := 3) C dX7_timeBy_58 rfl rfl ?_
      refine sw_eq (x := a1) (k := 1) hf (fun hx hf => ?_) (fun n0 hf => ?_)
      · rw [hx]
        refine tt_tabIn (pc := 59) (tgt := 92) (x := 1) C dX7_timeBy_59 (by decide) (by decide) rfl (by decide) ?_
        refine tt_iload (pc := 92) (k := 1) C dX7_timeBy_92 rfl ?_
        obtain rfl := Option.some.inj hf
        exact tt_ireturn (pc := 94) C rfl rfl rfl dX7_timeBy_94
      · refine sw_eq (x := a1) (k := 2) hf (fun hx hf => ?_) (fun n1 hf => ?_)
        · rw [hx]
          refine tt_tabIn (pc := 59) (tgt := 95) (x := 2) C dX7_timeBy_59 (by decide) (by decide) rfl (by decide) ?_
          refine tt_iload (pc := 95) (k := 0) C dX7_timeBy_95 rfl ?_
          obtain rfl := Option.some.inj hf
          exact tt_ireturn (pc := 97) C rfl rfl rfl dX7_timeBy_97
        · refine sw_eq (x := a1) (k := 3) hf (fun hx hf => ?_) (fun n2 hf => ?_)
          · rw [hx]
            refine tt_tabIn (pc := 59) (tgt := 98) (x := 3) C dX7_timeBy_59 (by decide) (by decide) rfl (by decide) ?_
            refine tt_iload (pc := 98) (k := 1) C dX7_timeBy_98 rfl ?_
            refine tt_aload_n (pc := 100) (k := 2) C dX7_timeBy_100 rfl rfl ?_
            refine tt_iload (pc := 101) (k := 6) C dX7_timeBy_101 rfl ?_
            obtain ⟨r7, hr7, hf⟩ := bind_some hf
            refine tt_callR (pc := 103) (ws := (mC cy ad sc ar la)) (q0 := 0) (ci := 7) (rest := [.int (a3 + j4)]) (st' := [.int r7, .int (a3 + j4)]) C (k_X7_isBridged hr7) okX7_isBridged q5_131 rfl mC_obj (fun _ h => h) rfl rfl rfl (Nat.le_of_ble_eq_true rfl) ⟨Nat.le_of_ble_eq_true rfl, Nat.le_of_ble_eq_true rfl⟩ dX7_timeBy_103 ?_
            have k9 : TT p l e { frames := 2, cells := 0, slots := 0, locals := 43 } s m args below meth c 9 D A true (some (.int out)) (mC cy ad sc ar la) 114 [] [.int (if r7 = 0 then (0 : Int32) else a2), .int (a3 + j4)] (mC cy ad sc ar la) := by
              refine tt_iadd (pc := 114) C dX7_timeBy_114 ?_
              obtain rfl := Option.some.inj hf
              exact tt_ireturn (pc := 115) C rfl rfl rfl dX7_timeBy_115
            refine tr_if_eq (pc := 106) (tgt := 113) C dX7_timeBy_106 (by decide) (fun c8 => ?_) (fun c8 => ?_)
            · refine tt_iconst (pc := 113) (v := (0 : Int32)) C dX7_timeBy_113 (by decide) ?_
              try simp only [if_pos c8] at k9 ⊢
              exact tt_locs [] rfl k9
            · refine tt_iload_n (pc := 109) (k := 4) C dX7_timeBy_109 rfl rfl ?_
              refine tt_goto (pc := 110) (tgt := 114) C dX7_timeBy_110 (by decide) ?_
              try simp only [if_neg c8] at k9 ⊢
              exact tt_locs [] rfl k9
          · refine sw_eq (x := a1) (k := 4) hf (fun hx hf => ?_) (fun n3 hf => ?_)
            · rw [hx]
              refine tt_tabIn (pc := 59) (tgt := 116) (x := 4) C dX7_timeBy_59 (by decide) (by decide) rfl (by decide) ?_
              refine tt_iconst (pc := 116) (v := (1 : Int32)) C dX7_timeBy_116 (by decide) ?_
              refine tt_iload (pc := 117) (k := 0) C dX7_timeBy_117 rfl ?_
              refine tt_iconst (pc := 119) (v := (1 : Int32)) C dX7_timeBy_119 (by decide) ?_
              refine tt_isub (pc := 120) C dX7_timeBy_120 ?_
              refine tt_max (pc := 121) C q5_130 q3_73 q1_14 q3_74 (Nat.le_of_ble_eq_true rfl) (Nat.le_of_ble_eq_true rfl) dX7_timeBy_121 ?_
              obtain rfl := Option.some.inj hf
              exact tt_ireturn (pc := 124) C rfl rfl rfl dX7_timeBy_124
            · refine sw_eq (x := a1) (k := 5) hf (fun hx hf => ?_) (fun n4 hf => ?_)
              · rw [hx]
                refine tt_tabIn (pc := 59) (tgt := 125) (x := 5) C dX7_timeBy_59 (by decide) (by decide) rfl (by decide) ?_
                refine tt_iconst (pc := 125) (v := (2 : Int32)) C dX7_timeBy_125 (by decide) ?_
                refine tt_iload (pc := 126) (k := 1) C dX7_timeBy_126 rfl ?_
                refine tt_imul (pc := 128) C dX7_timeBy_128 ?_
                obtain rfl := Option.some.inj hf
                exact tt_ireturn (pc := 129) C rfl rfl rfl dX7_timeBy_129
              · have g0 := sw_ne n0 (z := 1) (by decide)
                have g1 := sw_ne n1 (z := 2) (by decide)
                have g2 := sw_ne n2 (z := 3) (by decide)
                have g3 := sw_ne n3 (z := 4) (by decide)
                have g4 := sw_ne n4 (z := 5) (by decide)
                refine tt_tabOut (pc := 59) (tgt := 130) C dX7_timeBy_59 (by omega) (by decide) ?_
                refine tt_iload_n (pc := 130) (k := 5) C dX7_timeBy_130 rfl rfl ?_
                obtain rfl := Option.some.inj hf
                exact tt_ireturn (pc := 131) C rfl rfl rfl dX7_timeBy_131
    refine tt_if_eq (pc := 22) (tgt := 47) C dX7_timeBy_22 (by decide) hj4 (fun hj4 => ?_) (fun hj4 => ?_)
    · refine tt_iconst (pc := 47) (v := (0 : Int32)) C dX7_timeBy_47 (by decide) ?_
      obtain rfl := Option.some.inj hj4
      exact tt_locs [1, 2, 3, 4, 5] rfl k5
    · refine tt_iconst (pc := 25) (v := (0 : Int32)) C dX7_timeBy_25 (by decide) ?_
      refine tt_aload_n (pc := 26) (k := 1) C dX7_timeBy_26 rfl rfl ?_
      refine tt_get (pc := 27) (ws := (mC cy ad sc ar la)) (ci := 7) (v := .ref (ad 1)) C fiX7 rfl 0 mC_obj 1 (by decide) q4_161 rfl dX7_timeBy_27 ?_
      refine tt_iload (pc := 30) (k := 0) C dX7_timeBy_30 rfl ?_
      refine tt_iaload (pc := 32) (ws := (mC cy ad sc ar la)) (n := 24) (f := (ar 1)) C 1 0 mC_get1 rfl hj4 dX7_timeBy_32 (fun hj4 => ?_)
      refine tt_aload_n (pc := 33) (k := 1) C dX7_timeBy_33 rfl rfl ?_
      refine tt_get (pc := 34) (ws := (mC cy ad sc ar la)) (ci := 7) (v := .ref (ad 1)) C fiX7 rfl 0 mC_obj 1 (by decide) q4_161 rfl dX7_timeBy_34 ?_
      refine tt_iload (pc := 37) (k := 5) C dX7_timeBy_37 rfl ?_
      refine tt_iaload (pc := 39) (ws := (mC cy ad sc ar la)) (n := 24) (f := (ar 1)) C 1 0 mC_get1 rfl hj4 dX7_timeBy_39 (fun hj4 => ?_)
      refine tt_isub (pc := 40) C dX7_timeBy_40 ?_
      refine tt_max (pc := 41) C q5_130 q3_73 q1_14 q3_74 (Nat.le_of_ble_eq_true rfl) (Nat.le_of_ble_eq_true rfl) dX7_timeBy_41 ?_
      refine tt_goto (pc := 44) (tgt := 48) C dX7_timeBy_44 (by decide) ?_
      obtain rfl := Option.some.inj hj4
      exact tt_locs [1, 2, 3, 4, 5] rfl k5
  refine tr_if_ne (pc := 4) (tgt := 11) C dX7_timeBy_4 (by decide) (fun c1 => ?_) (fun c1 => ?_)
  · refine tt_iconst (pc := 11) (v := (-1 : Int32)) C dX7_timeBy_11 (by decide) ?_
    try simp only [if_neg c1] at k2 ⊢
    exact tt_locs [0, 1, 2, 3, 5] rfl k2
  · refine tt_iconst (pc := 7) (v := (1 : Int32)) C dX7_timeBy_7 (by decide) ?_
    refine tt_goto (pc := 8) (tgt := 12) C dX7_timeBy_8 (by decide) ?_
    try simp only [if_pos c1] at k2 ⊢
    exact tt_locs [0, 1, 2, 3, 5] rfl k2
theorem dX7_timeOf_0 : decode cX7_timeOf 0 = .ok (.aload_n 0, 1) := by decide +kernel
theorem dX7_timeOf_1 : decode cX7_timeOf 1 = .ok (.aload_n 0, 1) := by decide +kernel
theorem dX7_timeOf_2 : decode cX7_timeOf 2 = .ok (.getfield 32, 3) := by decide +kernel
theorem dX7_timeOf_5 : decode cX7_timeOf 5 = .ok (.iload_n 1, 1) := by decide +kernel
theorem dX7_timeOf_6 : decode cX7_timeOf 6 = .ok (.iaload, 1) := by decide +kernel
theorem dX7_timeOf_7 : decode cX7_timeOf 7 = .ok (.aload_n 0, 1) := by decide +kernel
theorem dX7_timeOf_8 : decode cX7_timeOf 8 = .ok (.getfield 35, 3) := by decide +kernel
theorem dX7_timeOf_11 : decode cX7_timeOf 11 = .ok (.iload_n 1, 1) := by decide +kernel
theorem dX7_timeOf_12 : decode cX7_timeOf 12 = .ok (.iaload, 1) := by decide +kernel
theorem dX7_timeOf_13 : decode cX7_timeOf 13 = .ok (.aload_n 0, 1) := by decide +kernel
theorem dX7_timeOf_14 : decode cX7_timeOf 14 = .ok (.getfield 38, 3) := by decide +kernel
theorem dX7_timeOf_17 : decode cX7_timeOf 17 = .ok (.iload_n 1, 1) := by decide +kernel
theorem dX7_timeOf_18 : decode cX7_timeOf 18 = .ok (.iaload, 1) := by decide +kernel
theorem dX7_timeOf_19 : decode cX7_timeOf 19 = .ok (.aload_n 0, 1) := by decide +kernel
theorem dX7_timeOf_20 : decode cX7_timeOf 20 = .ok (.getfield 41, 3) := by decide +kernel
theorem dX7_timeOf_23 : decode cX7_timeOf 23 = .ok (.iload_n 1, 1) := by decide +kernel
theorem dX7_timeOf_24 : decode cX7_timeOf 24 = .ok (.iaload, 1) := by decide +kernel
theorem dX7_timeOf_25 : decode cX7_timeOf 25 = .ok (.iload_n 2, 1) := by decide +kernel
theorem dX7_timeOf_26 : decode cX7_timeOf 26 = .ok (.invokevirtual 152, 3) := by decide +kernel
theorem dX7_timeOf_29 : decode cX7_timeOf 29 = .ok (.ireturn, 1) := by decide +kernel
set_option maxHeartbeats 4000000 in
set_option maxRecDepth 100000 in
theorem k_X7_timeOf {l : Launch} {D : va_G} {cy : Nat → ClassId} {Bd : Nat} {xa : Xa} {ad : Nat → Nat} {N : Nat} {sc : Nat → Int32} {ar : Nat → Nat → Int32} {la : Nat → Nat → Int64} {a1 : Int32} {a2 : Int32} {out : Int32} (hf : f_X7_timeOf N sc ar a1 a2 = some out) : KC l yX7_timeOf cX7_timeOf 3 (some .int) 3 71 true D cy Bd xa [.ref (ad 0), .int a1, .int a2] (mC cy ad sc ar la) (some (.int out)) (mC cy ad sc ar la) := by
  refine kc_start (own := RX7) (by decide +kernel) rfl (Nat.le_of_ble_eq_true rfl) ?_
  intro p e s m args below meth c A C
  unfold f_X7_timeOf at hf
  refine tt_locs (L' := [(0, .ref (ad 0)), (1, .int a1), (2, .int a2)]) [0, 1, 2] rfl ?_
  refine tt_aload_n (pc := 0) (k := 0) C dX7_timeOf_0 rfl rfl ?_
  refine tt_aload_n (pc := 1) (k := 0) C dX7_timeOf_1 rfl rfl ?_
  refine tt_get (pc := 2) (ws := (mC cy ad sc ar la)) (ci := 7) (v := .ref (ad 10)) C fiX7 rfl 0 mC_obj 10 (by decide) q4_170 rfl dX7_timeOf_2 ?_
  refine tt_iload_n (pc := 5) (k := 1) C dX7_timeOf_5 rfl rfl ?_
  refine tt_iaload (pc := 6) (ws := (mC cy ad sc ar la)) (n := 4) (f := (ar 10)) C 7 0 mC_get10 rfl hf dX7_timeOf_6 (fun hf => ?_)
  refine tt_aload_n (pc := 7) (k := 0) C dX7_timeOf_7 rfl rfl ?_
  refine tt_get (pc := 8) (ws := (mC cy ad sc ar la)) (ci := 7) (v := .ref (ad 11)) C fiX7 rfl 0 mC_obj 11 (by decide) q4_171 rfl dX7_timeOf_8 ?_
  refine tt_iload_n (pc := 11) (k := 1) C dX7_timeOf_11 rfl rfl ?_
  refine tt_iaload (pc := 12) (ws := (mC cy ad sc ar la)) (n := 4) (f := (ar 11)) C 8 0 mC_get11 rfl hf dX7_timeOf_12 (fun hf => ?_)
  refine tt_aload_n (pc := 13) (k := 0) C dX7_timeOf_13 rfl rfl ?_
  refine tt_get (pc := 14) (ws := (mC cy ad sc ar la)) (ci := 7) (v := .ref (ad 12)) C fiX7 rfl 0 mC_obj 12 (by decide) q4_172 rfl dX7_timeOf_14 ?_
  refine tt_iload_n (pc := 17) (k := 1) C dX7_timeOf_17 rfl rfl ?_
  refine tt_iaload (pc := 18) (ws := (mC cy ad sc ar la)) (n := 4) (f := (ar 12)) C 9 0 mC_get12 rfl hf dX7_timeOf_18 (fun hf => ?_)
  refine tt_aload_n (pc := 19) (k := 0) C dX7_timeOf_19 rfl rfl ?_
  refine tt_get (pc := 20) (ws := (mC cy ad sc ar la)) (ci := 7) (v := .ref (ad 13)) C fiX7 rfl 0 mC_obj 13 (by decide) q4_173 rfl dX7_timeOf_20 ?_
  refine tt_iload_n (pc := 23) (k := 1) C dX7_timeOf_23 rfl rfl ?_
  refine tt_iaload (pc := 24) (ws := (mC cy ad sc ar la)) (n := 4) (f := (ar 13)) C 10 0 mC_get13 rfl hf dX7_timeOf_24 (fun hf => ?_)
  refine tt_iload_n (pc := 25) (k := 2) C dX7_timeOf_25 rfl rfl ?_
  obtain ⟨r1, hr1, hf⟩ := bind_some hf
  refine tt_callR (pc := 26) (ws := (mC cy ad sc ar la)) (q0 := 0) (ci := 7) (rest := []) (st' := [.int r1]) C (k_X7_timeBy hr1) okX7_timeBy q5_126 rfl mC_obj (fun _ h => h) rfl rfl rfl (Nat.le_of_ble_eq_true rfl) ⟨Nat.le_of_ble_eq_true rfl, Nat.le_of_ble_eq_true rfl⟩ dX7_timeOf_26 ?_
  obtain rfl := Option.some.inj hf
  exact tt_ireturn (pc := 29) C rfl rfl rfl dX7_timeOf_29
theorem dX7_time_0 : decode cX7_time 0 = .ok (.aload_n 0, 1) := by decide +kernel
theorem dX7_time_1 : decode cX7_time 1 = .ok (.iload_n 1, 1) := by decide +kernel
theorem dX7_time_2 : decode cX7_time 2 = .ok (.invokevirtual 138, 3) := by decide +kernel
theorem dX7_time_5 : decode cX7_time 5 = .ok (.ifCond .eq 20, 3) := by decide +kernel
theorem dX7_time_8 : decode cX7_time 8 = .ok (.aload_n 0, 1) := by decide +kernel
theorem dX7_time_9 : decode cX7_time 9 = .ok (.iload_n 2, 1) := by decide +kernel
theorem dX7_time_10 : decode cX7_time 10 = .ok (.invokevirtual 121, 3) := by decide +kernel
theorem dX7_time_13 : decode cX7_time 13 = .ok (.ifCond .eq 12, 3) := by decide +kernel
theorem dX7_time_16 : decode cX7_time 16 = .ok (.aload_n 0, 1) := by decide +kernel
theorem dX7_time_17 : decode cX7_time 17 = .ok (.iload_n 1, 1) := by decide +kernel
theorem dX7_time_18 : decode cX7_time 18 = .ok (.iload_n 2, 1) := by decide +kernel
theorem dX7_time_19 : decode cX7_time 19 = .ok (.invokevirtual 156, 3) := by decide +kernel
theorem dX7_time_22 : decode cX7_time 22 = .ok (.goto 8, 3) := by decide +kernel
theorem dX7_time_25 : decode cX7_time 25 = .ok (.aload_n 0, 1) := by decide +kernel
theorem dX7_time_26 : decode cX7_time 26 = .ok (.iconst (-1), 1) := by decide +kernel
theorem dX7_time_27 : decode cX7_time 27 = .ok (.invokevirtual 98, 3) := by decide +kernel
theorem dX7_time_30 : decode cX7_time 30 = .ok (.ireturn, 1) := by decide +kernel
set_option maxHeartbeats 4000000 in
set_option maxRecDepth 100000 in
theorem k_X7_time {l : Launch} {D : va_G} {cy : Nat → ClassId} {Bd : Nat} {xa : Xa} {ad : Nat → Nat} {N : Nat} {sc : Nat → Int32} {ar : Nat → Nat → Int32} {la : Nat → Nat → Int64} {a1 : Int32} {a2 : Int32} {out : Int32 × (Nat → Nat → Int32)} (hf : f_X7_time N sc ar a1 a2 = some out) : KC l yX7_time cX7_time 3 (some .int) 4 93 false D cy Bd xa [.ref (ad 0), .int a1, .int a2] (mC cy ad sc ar la) (some (.int out.1)) (mC cy ad sc out.2 la) := by
  refine kc_start (own := RX7) (by decide +kernel) rfl (Nat.le_of_ble_eq_true rfl) ?_
  intro p e s m args below meth c A C
  unfold f_X7_time at hf
  refine tt_locs (L' := [(0, .ref (ad 0)), (1, .int a1), (2, .int a2)]) [0, 1, 2] rfl ?_
  refine tt_aload_n (pc := 0) (k := 0) C dX7_time_0 rfl rfl ?_
  refine tt_iload_n (pc := 1) (k := 1) C dX7_time_1 rfl rfl ?_
  obtain ⟨r1, hr1, hf⟩ := bind_some hf
  refine tt_callR (pc := 2) (ws := (mC cy ad sc ar la)) (q0 := 0) (ci := 7) (rest := []) (st' := [.int r1]) C (k_X7_isTrain hr1) okX7_isTrain q5_103 rfl mC_obj (fun _ h => h) rfl rfl rfl (Nat.le_of_ble_eq_true rfl) ⟨Nat.le_of_ble_eq_true rfl, Nat.le_of_ble_eq_true rfl⟩ dX7_time_2 ?_
  obtain ⟨j2, hj2, hf⟩ := bind_some hf
  have k3 : TT p l e { frames := 4, cells := 0, slots := 0, locals := 93 } s m args below meth c 3 D A false (some (.int out.1)) (mC cy ad sc out.2 la) 30 [] [.int j2.1] (mC cy ad sc j2.2 la) := by
    obtain rfl := Option.some.inj hf
    exact tt_ireturn (pc := 30) C rfl rfl rfl dX7_time_30
  refine tt_if_eq (pc := 5) (tgt := 25) C dX7_time_5 (by decide) hj2 (fun hj2 => ?_) (fun hj2 => ?_)
  · refine tt_aload_n (pc := 25) (k := 0) C dX7_time_25 rfl rfl ?_
    refine tt_iconst (pc := 26) (v := (-1 : Int32)) C dX7_time_26 (by decide) ?_
    obtain ⟨r4, hr4, hj2⟩ := bind_some hj2
    refine tt_callM (pc := 27) (ws := (mC cy ad sc ar la)) (q0 := 0) (ci := 7) (rest := []) (st' := [.int r4.1]) C rfl (k_X7_no hr4) okX7_no q5_36 rfl mC_obj rfl rfl rfl (Nat.le_of_ble_eq_true rfl) ⟨Nat.le_of_ble_eq_true rfl, Nat.le_of_ble_eq_true rfl⟩ dX7_time_27 ?_
    obtain rfl := Option.some.inj hj2
    exact tt_locs [] rfl k3
  · refine tt_aload_n (pc := 8) (k := 0) C dX7_time_8 rfl rfl ?_
    refine tt_iload_n (pc := 9) (k := 2) C dX7_time_9 rfl rfl ?_
    obtain ⟨r5, hr5, hj2⟩ := bind_some hj2
    refine tt_callR (pc := 10) (ws := (mC cy ad sc ar la)) (q0 := 0) (ci := 7) (rest := []) (st' := [.int r5]) C (k_X7_isCell hr5) okX7_isCell q5_48 rfl mC_obj (fun _ h => h) rfl rfl rfl (Nat.le_of_ble_eq_true rfl) ⟨Nat.le_of_ble_eq_true rfl, Nat.le_of_ble_eq_true rfl⟩ dX7_time_10 ?_
    obtain ⟨j6, hj6, hj2⟩ := bind_some hj2
    have k7 : TT p l e { frames := 4, cells := 0, slots := 0, locals := 93 } s m args below meth c 3 D A false (some (.int out.1)) (mC cy ad sc out.2 la) 30 [] [.int j6.1] (mC cy ad sc j6.2 la) := by
      obtain rfl := Option.some.inj hj2
      exact tt_locs [] rfl k3
    refine tt_if_eq (pc := 13) (tgt := 25) C dX7_time_13 (by decide) hj6 (fun hj6 => ?_) (fun hj6 => ?_)
    · refine tt_aload_n (pc := 25) (k := 0) C dX7_time_25 rfl rfl ?_
      refine tt_iconst (pc := 26) (v := (-1 : Int32)) C dX7_time_26 (by decide) ?_
      obtain ⟨r8, hr8, hj6⟩ := bind_some hj6
      refine tt_callM (pc := 27) (ws := (mC cy ad sc ar la)) (q0 := 0) (ci := 7) (rest := []) (st' := [.int r8.1]) C rfl (k_X7_no hr8) okX7_no q5_36 rfl mC_obj rfl rfl rfl (Nat.le_of_ble_eq_true rfl) ⟨Nat.le_of_ble_eq_true rfl, Nat.le_of_ble_eq_true rfl⟩ dX7_time_27 ?_
      obtain rfl := Option.some.inj hj6
      exact tt_locs [] rfl k7
    · refine tt_aload_n (pc := 16) (k := 0) C dX7_time_16 rfl rfl ?_
      refine tt_iload_n (pc := 17) (k := 1) C dX7_time_17 rfl rfl ?_
      refine tt_iload_n (pc := 18) (k := 2) C dX7_time_18 rfl rfl ?_
      obtain ⟨r9, hr9, hj6⟩ := bind_some hj6
      refine tt_callR (pc := 19) (ws := (mC cy ad sc ar la)) (q0 := 0) (ci := 7) (rest := []) (st' := [.int r9]) C (k_X7_timeOf hr9) okX7_timeOf q5_122 rfl mC_obj (fun _ h => h) rfl rfl rfl (Nat.le_of_ble_eq_true rfl) ⟨Nat.le_of_ble_eq_true rfl, Nat.le_of_ble_eq_true rfl⟩ dX7_time_19 ?_
      refine tt_goto (pc := 22) (tgt := 30) C dX7_time_22 (by decide) ?_
      obtain rfl := Option.some.inj hj6
      exact tt_locs [] rfl k7
theorem dX7_has_0 : decode cX7_has 0 = .ok (.iload_n 0, 1) := by decide +kernel
theorem dX7_has_1 : decode cX7_has 1 = .ok (.iload_n 1, 1) := by decide +kernel
theorem dX7_has_2 : decode cX7_has 2 = .ok (.ishr, 1) := by decide +kernel
theorem dX7_has_3 : decode cX7_has 3 = .ok (.iconst 1, 1) := by decide +kernel
theorem dX7_has_4 : decode cX7_has 4 = .ok (.iand, 1) := by decide +kernel
theorem dX7_has_5 : decode cX7_has 5 = .ok (.iconst 1, 1) := by decide +kernel
theorem dX7_has_6 : decode cX7_has 6 = .ok (.if_icmp .ne 7, 3) := by decide +kernel
theorem dX7_has_9 : decode cX7_has 9 = .ok (.iconst 1, 1) := by decide +kernel
theorem dX7_has_10 : decode cX7_has 10 = .ok (.goto 4, 3) := by decide +kernel
theorem dX7_has_13 : decode cX7_has 13 = .ok (.iconst 0, 1) := by decide +kernel
theorem dX7_has_14 : decode cX7_has 14 = .ok (.ireturn, 1) := by decide +kernel
set_option maxHeartbeats 4000000 in
set_option maxRecDepth 100000 in
theorem k_X7_has {l : Launch} {D : va_G} {cy : Nat → ClassId} {Bd : Nat} {xa : Xa}  {N : Nat} {a1 : Int32} {a2 : Int32} {out : Int32} (hf : f_X7_has N a1 a2 = some out) : KC l yX7_has cX7_has 2 (some .boolean) 0 0 true D cy Bd xa [.int a1, .int a2] [] (some (.int out)) [] := by
  refine kc_start (own := RX7) (by decide +kernel) rfl (Nat.le_of_ble_eq_true rfl) ?_
  intro p e s m args below meth c A C
  unfold f_X7_has at hf
  refine tt_locs (L' := [(0, .int a1), (1, .int a2)]) [0, 1] rfl ?_
  refine tt_iload_n (pc := 0) (k := 0) C dX7_has_0 rfl rfl ?_
  refine tt_iload_n (pc := 1) (k := 1) C dX7_has_1 rfl rfl ?_
  refine tt_ishr (pc := 2) C dX7_has_2 ?_
  refine tt_iconst (pc := 3) (v := (1 : Int32)) C dX7_has_3 (by decide) ?_
  refine tt_iand (pc := 4) C dX7_has_4 ?_
  refine tt_iconst (pc := 5) (v := (1 : Int32)) C dX7_has_5 (by decide) ?_
  have k2 : TT p l e { frames := 0, cells := 0, slots := 0, locals := 0 } s m args below meth c 2 D A true (some (.int out)) [] 14 [] [.int (if ((a1 >>> (a2 &&& 31)) &&& (1 : Int32)) = (1 : Int32) then (1 : Int32) else (0 : Int32))] [] := by
    obtain rfl := Option.some.inj hf
    exact tt_zreturn (pc := 14) C rfl (nb_if rfl rfl) rfl rfl dX7_has_14
  refine tr_icmp_ne (pc := 6) (tgt := 13) C dX7_has_6 (by decide) (fun c1 => ?_) (fun c1 => ?_)
  · refine tt_iconst (pc := 13) (v := (0 : Int32)) C dX7_has_13 (by decide) ?_
    try simp only [if_neg c1] at k2 ⊢
    exact tt_locs [] rfl k2
  · refine tt_iconst (pc := 9) (v := (1 : Int32)) C dX7_has_9 (by decide) ?_
    refine tt_goto (pc := 10) (tgt := 14) C dX7_has_10 (by decide) ?_
    try simp only [if_pos c1] at k2 ⊢
    exact tt_locs [] rfl k2
theorem dX7_isBarred_0 : decode cX7_isBarred 0 = .ok (.iconst 0, 1) := by decide +kernel
theorem dX7_isBarred_1 : decode cX7_isBarred 1 = .ok (.istore 4, 2) := by decide +kernel
theorem dX7_isBarred_3 : decode cX7_isBarred 3 = .ok (.iload 4, 2) := by decide +kernel
theorem dX7_isBarred_5 : decode cX7_isBarred 5 = .ok (.aload_n 0, 1) := by decide +kernel
theorem dX7_isBarred_6 : decode cX7_isBarred 6 = .ok (.getfield 106, 3) := by decide +kernel
theorem dX7_isBarred_9 : decode cX7_isBarred 9 = .ok (.if_icmp .ge 59, 3) := by decide +kernel
theorem dX7_isBarred_12 : decode cX7_isBarred 12 = .ok (.aload_n 0, 1) := by decide +kernel
theorem dX7_isBarred_13 : decode cX7_isBarred 13 = .ok (.getfield 165, 3) := by decide +kernel
theorem dX7_isBarred_16 : decode cX7_isBarred 16 = .ok (.iload 4, 2) := by decide +kernel
theorem dX7_isBarred_18 : decode cX7_isBarred 18 = .ok (.invokestatic 168, 3) := by decide +kernel
theorem dX7_isBarred_21 : decode cX7_isBarred 21 = .ok (.ifCond .ne 41, 3) := by decide +kernel
theorem dX7_isBarred_24 : decode cX7_isBarred 24 = .ok (.aload_n 0, 1) := by decide +kernel
theorem dX7_isBarred_25 : decode cX7_isBarred 25 = .ok (.getfield 17, 3) := by decide +kernel
theorem dX7_isBarred_28 : decode cX7_isBarred 28 = .ok (.iload 4, 2) := by decide +kernel
theorem dX7_isBarred_30 : decode cX7_isBarred 30 = .ok (.iaload, 1) := by decide +kernel
theorem dX7_isBarred_31 : decode cX7_isBarred 31 = .ok (.iload_n 1, 1) := by decide +kernel
theorem dX7_isBarred_32 : decode cX7_isBarred 32 = .ok (.if_icmp .ne 30, 3) := by decide +kernel
theorem dX7_isBarred_35 : decode cX7_isBarred 35 = .ok (.iload_n 2, 1) := by decide +kernel
theorem dX7_isBarred_36 : decode cX7_isBarred 36 = .ok (.aload_n 0, 1) := by decide +kernel
theorem dX7_isBarred_37 : decode cX7_isBarred 37 = .ok (.getfield 20, 3) := by decide +kernel
theorem dX7_isBarred_40 : decode cX7_isBarred 40 = .ok (.iload 4, 2) := by decide +kernel
theorem dX7_isBarred_42 : decode cX7_isBarred 42 = .ok (.iaload, 1) := by decide +kernel
theorem dX7_isBarred_43 : decode cX7_isBarred 43 = .ok (.iload_n 3, 1) := by decide +kernel
theorem dX7_isBarred_44 : decode cX7_isBarred 44 = .ok (.imul, 1) := by decide +kernel
theorem dX7_isBarred_45 : decode cX7_isBarred 45 = .ok (.aload_n 0, 1) := by decide +kernel
theorem dX7_isBarred_46 : decode cX7_isBarred 46 = .ok (.getfield 23, 3) := by decide +kernel
theorem dX7_isBarred_49 : decode cX7_isBarred 49 = .ok (.iload 4, 2) := by decide +kernel
theorem dX7_isBarred_51 : decode cX7_isBarred 51 = .ok (.iaload, 1) := by decide +kernel
theorem dX7_isBarred_52 : decode cX7_isBarred 52 = .ok (.iload_n 3, 1) := by decide +kernel
theorem dX7_isBarred_53 : decode cX7_isBarred 53 = .ok (.imul, 1) := by decide +kernel
theorem dX7_isBarred_54 : decode cX7_isBarred 54 = .ok (.invokestatic 102, 3) := by decide +kernel
theorem dX7_isBarred_57 : decode cX7_isBarred 57 = .ok (.ifCond .eq 5, 3) := by decide +kernel
theorem dX7_isBarred_60 : decode cX7_isBarred 60 = .ok (.iconst 1, 1) := by decide +kernel
theorem dX7_isBarred_61 : decode cX7_isBarred 61 = .ok (.ireturn, 1) := by decide +kernel
theorem dX7_isBarred_62 : decode cX7_isBarred 62 = .ok (.iinc 4 1, 3) := by decide +kernel
theorem dX7_isBarred_65 : decode cX7_isBarred 65 = .ok (.goto (-62), 3) := by decide +kernel
theorem dX7_isBarred_68 : decode cX7_isBarred 68 = .ok (.iconst 0, 1) := by decide +kernel
theorem dX7_isBarred_69 : decode cX7_isBarred 69 = .ok (.ireturn, 1) := by decide +kernel
set_option maxHeartbeats 4000000 in
set_option maxRecDepth 100000 in
theorem l_X7_isBarred_3 {p : Program} {l : Launch} {e : Env} {s : State} {m : MethodId} {args : Array Value} {below : List Frame} {meth : Method} {c : Code} {D : va_G} {cy : Nat → ClassId} {A : Nat → Prop} {Bd : Nat} {xa : Xa} {ad : Nat → Nat} {N : Nat} {sc : Nat → Int32} {ar : Nat → Nat → Int32} {la : Nat → Nat → Int64} {v1 : Int32} {v2 : Int32} {v3 : Int32} {kx : Unit → Option (Int32)} {out : Int32} (C : CC p s m args meth c cX7_isBarred RX7 5 (some .boolean) D cy A true Bd xa) (hk : ∀ (uu : Unit), kx uu = some out → TT p l e { frames := 1, cells := 0, slots := 0, locals := 22 } s m args below meth c 5 D A true (some (.int out)) (mC cy ad sc ar la) 68 [] [] (mC cy ad sc ar la)) {n : Nat} {v4 : Int32} (hf : f_X7_isBarred_L3 N sc ar v1 v2 v3 kx n v4 = some out) : TT p l e { frames := 1, cells := 0, slots := 0, locals := 22 } s m args below meth c 5 D A true (some (.int out)) (mC cy ad sc ar la) 3 [(0, .ref (ad 0)), (1, .int v1), (2, .int v2), (3, .int v3), (4, .int v4)] [] (mC cy ad sc ar la) := by
  induction n generalizing v4 with
  | zero => cases hf
  | succ n ih =>
    rw [f_X7_isBarred_L3] at hf
    refine tt_iload (pc := 3) (k := 4) C dX7_isBarred_3 rfl ?_
    refine tt_aload_n (pc := 5) (k := 0) C dX7_isBarred_5 rfl rfl ?_
    refine tt_get (pc := 6) (ws := (mC cy ad sc ar la)) (ci := 7) (v := .int (sc 2)) C fiX7 rfl 0 mC_obj 2 (by decide) q4_162 rfl dX7_isBarred_6 ?_
    refine tt_icmp_ge (pc := 9) (tgt := 68) C dX7_isBarred_9 (by decide) hf (fun hf => ?_) (fun hf => ?_)
    · exact tt_locs [] rfl (hk () hf)
    · refine tt_aload_n (pc := 12) (k := 0) C dX7_isBarred_12 rfl rfl ?_
      refine tt_get (pc := 13) (ws := (mC cy ad sc ar la)) (ci := 7) (v := .int (sc 25)) C fiX7 rfl 0 mC_obj 25 (by decide) q4_185 rfl dX7_isBarred_13 ?_
      refine tt_iload (pc := 16) (k := 4) C dX7_isBarred_16 rfl ?_
      obtain ⟨r1, hr1, hf⟩ := bind_some hf
      refine tt_callS (pc := 18) (ws := (mC cy ad sc ar la)) (rest := []) (st' := [.int r1]) C (k_X7_has hr1) okX7_has q5_148 (fun _ h => absurd h List.not_mem_nil) rfl rfl rfl (Nat.le_of_ble_eq_true rfl) ⟨Nat.le_of_ble_eq_true rfl, Nat.le_of_ble_eq_true rfl⟩ dX7_isBarred_18 ?_
      refine tt_if_ne (pc := 21) (tgt := 62) C dX7_isBarred_21 (by decide) hf (fun hf => ?_) (fun hf => ?_)
      · refine tt_iinc (pc := 62) (k := 4) (v := (v4 + 1)) (L' := [(4, .int (v4 + 1)), (0, .ref (ad 0)), (1, .int v1), (2, .int v2), (3, .int v3)]) C dX7_isBarred_62 rfl rfl (by decide) rfl ?_
        refine tt_goto (pc := 65) (tgt := 3) C dX7_isBarred_65 (by decide) ?_
        exact tt_locs [1, 2, 3, 4, 0] rfl (ih hf)
      · refine tt_aload_n (pc := 24) (k := 0) C dX7_isBarred_24 rfl rfl ?_
        refine tt_get (pc := 25) (ws := (mC cy ad sc ar la)) (ci := 7) (v := .ref (ad 3)) C fiX7 rfl 0 mC_obj 3 (by decide) q4_163 rfl dX7_isBarred_25 ?_
        refine tt_iload (pc := 28) (k := 4) C dX7_isBarred_28 rfl ?_
        refine tt_iaload (pc := 30) (ws := (mC cy ad sc ar la)) (n := 4) (f := (ar 3)) C 2 0 mC_get3 rfl hf dX7_isBarred_30 (fun hf => ?_)
        refine tt_iload_n (pc := 31) (k := 1) C dX7_isBarred_31 rfl rfl ?_
        refine tt_icmp_ne (pc := 32) (tgt := 62) C dX7_isBarred_32 (by decide) hf (fun hf => ?_) (fun hf => ?_)
        · refine tt_iinc (pc := 62) (k := 4) (v := (v4 + 1)) (L' := [(4, .int (v4 + 1)), (0, .ref (ad 0)), (1, .int v1), (2, .int v2), (3, .int v3)]) C dX7_isBarred_62 rfl rfl (by decide) rfl ?_
          refine tt_goto (pc := 65) (tgt := 3) C dX7_isBarred_65 (by decide) ?_
          exact tt_locs [1, 2, 3, 4, 0] rfl (ih hf)
        · refine tt_iload_n (pc := 35) (k := 2) C dX7_isBarred_35 rfl rfl ?_
          refine tt_aload_n (pc := 36) (k := 0) C dX7_isBarred_36 rfl rfl ?_
          refine tt_get (pc := 37) (ws := (mC cy ad sc ar la)) (ci := 7) (v := .ref (ad 4)) C fiX7 rfl 0 mC_obj 4 (by decide) q4_164 rfl dX7_isBarred_37 ?_
          refine tt_iload (pc := 40) (k := 4) C dX7_isBarred_40 rfl ?_
          refine tt_iaload (pc := 42) (ws := (mC cy ad sc ar la)) (n := 4) (f := (ar 4)) C 3 0 mC_get4 rfl hf dX7_isBarred_42 (fun hf => ?_)
          refine tt_iload_n (pc := 43) (k := 3) C dX7_isBarred_43 rfl rfl ?_
          refine tt_imul (pc := 44) C dX7_isBarred_44 ?_
          refine tt_aload_n (pc := 45) (k := 0) C dX7_isBarred_45 rfl rfl ?_
          refine tt_get (pc := 46) (ws := (mC cy ad sc ar la)) (ci := 7) (v := .ref (ad 5)) C fiX7 rfl 0 mC_obj 5 (by decide) q4_165 rfl dX7_isBarred_46 ?_
          refine tt_iload (pc := 49) (k := 4) C dX7_isBarred_49 rfl ?_
          refine tt_iaload (pc := 51) (ws := (mC cy ad sc ar la)) (n := 4) (f := (ar 5)) C 4 0 mC_get5 rfl hf dX7_isBarred_51 (fun hf => ?_)
          refine tt_iload_n (pc := 52) (k := 3) C dX7_isBarred_52 rfl rfl ?_
          refine tt_imul (pc := 53) C dX7_isBarred_53 ?_
          obtain ⟨r2, hr2, hf⟩ := bind_some hf
          refine tt_callS (pc := 54) (ws := (mC cy ad sc ar la)) (rest := []) (st' := [.int r2]) C (k_X7_in hr2) okX7_in q5_52 (fun _ h => absurd h List.not_mem_nil) rfl rfl rfl (Nat.le_of_ble_eq_true rfl) ⟨Nat.le_of_ble_eq_true rfl, Nat.le_of_ble_eq_true rfl⟩ dX7_isBarred_54 ?_
          refine tt_if_eq (pc := 57) (tgt := 62) C dX7_isBarred_57 (by decide) hf (fun hf => ?_) (fun hf => ?_)
          · refine tt_iinc (pc := 62) (k := 4) (v := (v4 + 1)) (L' := [(4, .int (v4 + 1)), (0, .ref (ad 0)), (1, .int v1), (2, .int v2), (3, .int v3)]) C dX7_isBarred_62 rfl rfl (by decide) rfl ?_
            refine tt_goto (pc := 65) (tgt := 3) C dX7_isBarred_65 (by decide) ?_
            exact tt_locs [1, 2, 3, 4, 0] rfl (ih hf)
          · refine tt_iconst (pc := 60) (v := (1 : Int32)) C dX7_isBarred_60 (by decide) ?_
            obtain rfl := Option.some.inj hf
            exact tt_zreturn (pc := 61) C rfl rfl rfl rfl dX7_isBarred_61
set_option maxHeartbeats 4000000 in
set_option maxRecDepth 100000 in
theorem k_X7_isBarred {l : Launch} {D : va_G} {cy : Nat → ClassId} {Bd : Nat} {xa : Xa} {ad : Nat → Nat} {N : Nat} {sc : Nat → Int32} {ar : Nat → Nat → Int32} {la : Nat → Nat → Int64} {a1 : Int32} {a2 : Int32} {a3 : Int32} {out : Int32} (hf : f_X7_isBarred N sc ar a1 a2 a3 = some out) : KC l yX7_isBarred cX7_isBarred 5 (some .boolean) 1 22 true D cy Bd xa [.ref (ad 0), .int a1, .int a2, .int a3] (mC cy ad sc ar la) (some (.int out)) (mC cy ad sc ar la) := by
  refine kc_start (own := RX7) (by decide +kernel) rfl (Nat.le_of_ble_eq_true rfl) ?_
  intro p e s m args below meth c A C
  unfold f_X7_isBarred at hf
  refine tt_locs (L' := [(0, .ref (ad 0)), (1, .int a1), (2, .int a2), (3, .int a3)]) [0, 1, 2, 3] rfl ?_
  refine tt_iconst (pc := 0) (v := (0 : Int32)) C dX7_isBarred_0 (by decide) ?_
  refine tt_istore (pc := 1) (L' := [(4, .int (0 : Int32)), (0, .ref (ad 0)), (1, .int a1), (2, .int a2), (3, .int a3)]) C dX7_isBarred_1 (by decide) rfl ?_
  refine tt_locs (L' := [(0, .ref (ad 0)), (1, .int a1), (2, .int a2), (3, .int a3), (4, .int (0 : Int32))]) [1, 2, 3, 4, 0] rfl (l_X7_isBarred_3 C (fun _ hf => ?_) hf)
  refine tt_iconst (pc := 68) (v := (0 : Int32)) C dX7_isBarred_68 (by decide) ?_
  obtain rfl := Option.some.inj hf
  exact tt_zreturn (pc := 69) C rfl rfl rfl rfl dX7_isBarred_69
theorem dX7_isClear_0 : decode cX7_isClear 0 = .ok (.iload_n 3, 1) := by decide +kernel
theorem dX7_isClear_1 : decode cX7_isClear 1 = .ok (.iload_n 1, 1) := by decide +kernel
theorem dX7_isClear_2 : decode cX7_isClear 2 = .ok (.isub, 1) := by decide +kernel
theorem dX7_isClear_3 : decode cX7_isClear 3 = .ok (.invokestatic 159, 3) := by decide +kernel
theorem dX7_isClear_6 : decode cX7_isClear 6 = .ok (.istore 5, 2) := by decide +kernel
theorem dX7_isClear_8 : decode cX7_isClear 8 = .ok (.iload_n 3, 1) := by decide +kernel
theorem dX7_isClear_9 : decode cX7_isClear 9 = .ok (.iload_n 1, 1) := by decide +kernel
theorem dX7_isClear_10 : decode cX7_isClear 10 = .ok (.if_icmp .le 7, 3) := by decide +kernel
theorem dX7_isClear_13 : decode cX7_isClear 13 = .ok (.iconst 1, 1) := by decide +kernel
theorem dX7_isClear_14 : decode cX7_isClear 14 = .ok (.goto 4, 3) := by decide +kernel
theorem dX7_isClear_17 : decode cX7_isClear 17 = .ok (.iconst (-1), 1) := by decide +kernel
theorem dX7_isClear_18 : decode cX7_isClear 18 = .ok (.istore 6, 2) := by decide +kernel
theorem dX7_isClear_20 : decode cX7_isClear 20 = .ok (.aload_n 0, 1) := by decide +kernel
theorem dX7_isClear_21 : decode cX7_isClear 21 = .ok (.getfield 13, 3) := by decide +kernel
theorem dX7_isClear_24 : decode cX7_isClear 24 = .ok (.iload_n 1, 1) := by decide +kernel
theorem dX7_isClear_25 : decode cX7_isClear 25 = .ok (.iaload, 1) := by decide +kernel
theorem dX7_isClear_26 : decode cX7_isClear 26 = .ok (.iload_n 2, 1) := by decide +kernel
theorem dX7_isClear_27 : decode cX7_isClear 27 = .ok (.iadd, 1) := by decide +kernel
theorem dX7_isClear_28 : decode cX7_isClear 28 = .ok (.istore 7, 2) := by decide +kernel
theorem dX7_isClear_30 : decode cX7_isClear 30 = .ok (.aload_n 0, 1) := by decide +kernel
theorem dX7_isClear_31 : decode cX7_isClear 31 = .ok (.getfield 13, 3) := by decide +kernel
theorem dX7_isClear_34 : decode cX7_isClear 34 = .ok (.iload_n 3, 1) := by decide +kernel
theorem dX7_isClear_35 : decode cX7_isClear 35 = .ok (.iaload, 1) := by decide +kernel
theorem dX7_isClear_36 : decode cX7_isClear 36 = .ok (.iload 4, 2) := by decide +kernel
theorem dX7_isClear_38 : decode cX7_isClear 38 = .ok (.iadd, 1) := by decide +kernel
theorem dX7_isClear_39 : decode cX7_isClear 39 = .ok (.istore 8, 2) := by decide +kernel
theorem dX7_isClear_41 : decode cX7_isClear 41 = .ok (.iconst 1, 1) := by decide +kernel
theorem dX7_isClear_42 : decode cX7_isClear 42 = .ok (.istore 9, 2) := by decide +kernel
theorem dX7_isClear_44 : decode cX7_isClear 44 = .ok (.iload 9, 2) := by decide +kernel
theorem dX7_isClear_46 : decode cX7_isClear 46 = .ok (.iload 5, 2) := by decide +kernel
theorem dX7_isClear_48 : decode cX7_isClear 48 = .ok (.if_icmp .ge 64, 3) := by decide +kernel
theorem dX7_isClear_51 : decode cX7_isClear 51 = .ok (.iload_n 1, 1) := by decide +kernel
theorem dX7_isClear_52 : decode cX7_isClear 52 = .ok (.iload 6, 2) := by decide +kernel
theorem dX7_isClear_54 : decode cX7_isClear 54 = .ok (.iload 9, 2) := by decide +kernel
theorem dX7_isClear_56 : decode cX7_isClear 56 = .ok (.imul, 1) := by decide +kernel
theorem dX7_isClear_57 : decode cX7_isClear 57 = .ok (.iadd, 1) := by decide +kernel
theorem dX7_isClear_58 : decode cX7_isClear 58 = .ok (.istore 10, 2) := by decide +kernel
theorem dX7_isClear_60 : decode cX7_isClear 60 = .ok (.iload 7, 2) := by decide +kernel
theorem dX7_isClear_62 : decode cX7_isClear 62 = .ok (.iload 5, 2) := by decide +kernel
theorem dX7_isClear_64 : decode cX7_isClear 64 = .ok (.iload 9, 2) := by decide +kernel
theorem dX7_isClear_66 : decode cX7_isClear 66 = .ok (.isub, 1) := by decide +kernel
theorem dX7_isClear_67 : decode cX7_isClear 67 = .ok (.imul, 1) := by decide +kernel
theorem dX7_isClear_68 : decode cX7_isClear 68 = .ok (.iload 8, 2) := by decide +kernel
theorem dX7_isClear_70 : decode cX7_isClear 70 = .ok (.iload 9, 2) := by decide +kernel
theorem dX7_isClear_72 : decode cX7_isClear 72 = .ok (.imul, 1) := by decide +kernel
theorem dX7_isClear_73 : decode cX7_isClear 73 = .ok (.iadd, 1) := by decide +kernel
theorem dX7_isClear_74 : decode cX7_isClear 74 = .ok (.istore 11, 2) := by decide +kernel
theorem dX7_isClear_76 : decode cX7_isClear 76 = .ok (.iload 11, 2) := by decide +kernel
theorem dX7_isClear_78 : decode cX7_isClear 78 = .ok (.aload_n 0, 1) := by decide +kernel
theorem dX7_isClear_79 : decode cX7_isClear 79 = .ok (.getfield 13, 3) := by decide +kernel
theorem dX7_isClear_82 : decode cX7_isClear 82 = .ok (.iload 10, 2) := by decide +kernel
theorem dX7_isClear_84 : decode cX7_isClear 84 = .ok (.iaload, 1) := by decide +kernel
theorem dX7_isClear_85 : decode cX7_isClear 85 = .ok (.iload 5, 2) := by decide +kernel
theorem dX7_isClear_87 : decode cX7_isClear 87 = .ok (.imul, 1) := by decide +kernel
theorem dX7_isClear_88 : decode cX7_isClear 88 = .ok (.if_icmp .le 16, 3) := by decide +kernel
theorem dX7_isClear_91 : decode cX7_isClear 91 = .ok (.aload_n 0, 1) := by decide +kernel
theorem dX7_isClear_92 : decode cX7_isClear 92 = .ok (.iload 10, 2) := by decide +kernel
theorem dX7_isClear_94 : decode cX7_isClear 94 = .ok (.iload 11, 2) := by decide +kernel
theorem dX7_isClear_96 : decode cX7_isClear 96 = .ok (.iload 5, 2) := by decide +kernel
theorem dX7_isClear_98 : decode cX7_isClear 98 = .ok (.invokevirtual 162, 3) := by decide +kernel
theorem dX7_isClear_101 : decode cX7_isClear 101 = .ok (.ifCond .eq 5, 3) := by decide +kernel
theorem dX7_isClear_104 : decode cX7_isClear 104 = .ok (.iconst 0, 1) := by decide +kernel
theorem dX7_isClear_105 : decode cX7_isClear 105 = .ok (.ireturn, 1) := by decide +kernel
theorem dX7_isClear_106 : decode cX7_isClear 106 = .ok (.iinc 9 1, 3) := by decide +kernel
theorem dX7_isClear_109 : decode cX7_isClear 109 = .ok (.goto (-65), 3) := by decide +kernel
theorem dX7_isClear_112 : decode cX7_isClear 112 = .ok (.iconst 1, 1) := by decide +kernel
theorem dX7_isClear_113 : decode cX7_isClear 113 = .ok (.ireturn, 1) := by decide +kernel
set_option maxHeartbeats 4000000 in
set_option maxRecDepth 100000 in
theorem l_X7_isClear_44 {p : Program} {l : Launch} {e : Env} {s : State} {m : MethodId} {args : Array Value} {below : List Frame} {meth : Method} {c : Code} {D : va_G} {cy : Nat → ClassId} {A : Nat → Prop} {Bd : Nat} {xa : Xa} {ad : Nat → Nat} {N : Nat} {sc : Nat → Int32} {ar : Nat → Nat → Int32} {la : Nat → Nat → Int64} {v1 : Int32} {v5 : Int32} {v6 : Int32} {v7 : Int32} {v8 : Int32} {kx : Unit → Option (Int32)} {out : Int32} (C : CC p s m args meth c cX7_isClear RX7 12 (some .boolean) D cy A true Bd xa) (hk : ∀ (uu : Unit), kx uu = some out → TT p l e { frames := 2, cells := 0, slots := 0, locals := 46 } s m args below meth c 12 D A true (some (.int out)) (mC cy ad sc ar la) 112 [] [] (mC cy ad sc ar la)) {n : Nat} {v9 : Int32} (hf : f_X7_isClear_L44 N sc ar v1 v5 v6 v7 v8 kx n v9 = some out) : TT p l e { frames := 2, cells := 0, slots := 0, locals := 46 } s m args below meth c 12 D A true (some (.int out)) (mC cy ad sc ar la) 44 [(0, .ref (ad 0)), (1, .int v1), (5, .int v5), (6, .int v6), (7, .int v7), (8, .int v8), (9, .int v9)] [] (mC cy ad sc ar la) := by
  induction n generalizing v9 with
  | zero => cases hf
  | succ n ih =>
    rw [f_X7_isClear_L44] at hf
    refine tt_iload (pc := 44) (k := 6) C dX7_isClear_44 rfl ?_
    refine tt_iload (pc := 46) (k := 2) C dX7_isClear_46 rfl ?_
    refine tt_icmp_ge (pc := 48) (tgt := 112) C dX7_isClear_48 (by decide) hf (fun hf => ?_) (fun hf => ?_)
    · exact tt_locs [] rfl (hk () hf)
    · refine tt_iload_n (pc := 51) (k := 1) C dX7_isClear_51 rfl rfl ?_
      refine tt_iload (pc := 52) (k := 3) C dX7_isClear_52 rfl ?_
      refine tt_iload (pc := 54) (k := 6) C dX7_isClear_54 rfl ?_
      refine tt_imul (pc := 56) C dX7_isClear_56 ?_
      refine tt_iadd (pc := 57) C dX7_isClear_57 ?_
      refine tt_istore (pc := 58) (L' := [(10, .int (v1 + (v6 * v9))), (0, .ref (ad 0)), (1, .int v1), (5, .int v5), (6, .int v6), (7, .int v7), (8, .int v8), (9, .int v9)]) C dX7_isClear_58 (by decide) rfl ?_
      refine tt_iload (pc := 60) (k := 5) C dX7_isClear_60 rfl ?_
      refine tt_iload (pc := 62) (k := 3) C dX7_isClear_62 rfl ?_
      refine tt_iload (pc := 64) (k := 7) C dX7_isClear_64 rfl ?_
      refine tt_isub (pc := 66) C dX7_isClear_66 ?_
      refine tt_imul (pc := 67) C dX7_isClear_67 ?_
      refine tt_iload (pc := 68) (k := 6) C dX7_isClear_68 rfl ?_
      refine tt_iload (pc := 70) (k := 7) C dX7_isClear_70 rfl ?_
      refine tt_imul (pc := 72) C dX7_isClear_72 ?_
      refine tt_iadd (pc := 73) C dX7_isClear_73 ?_
      refine tt_istore (pc := 74) (L' := [(11, .int ((v7 * (v5 - v9)) + (v8 * v9))), (10, .int (v1 + (v6 * v9))), (0, .ref (ad 0)), (1, .int v1), (5, .int v5), (6, .int v6), (7, .int v7), (8, .int v8), (9, .int v9)]) C dX7_isClear_74 (by decide) rfl ?_
      refine tt_iload (pc := 76) (k := 0) C dX7_isClear_76 rfl ?_
      refine tt_aload_n (pc := 78) (k := 2) C dX7_isClear_78 rfl rfl ?_
      refine tt_get (pc := 79) (ws := (mC cy ad sc ar la)) (ci := 7) (v := .ref (ad 1)) C fiX7 rfl 0 mC_obj 1 (by decide) q4_161 rfl dX7_isClear_79 ?_
      refine tt_iload (pc := 82) (k := 1) C dX7_isClear_82 rfl ?_
      refine tt_iaload (pc := 84) (ws := (mC cy ad sc ar la)) (n := 24) (f := (ar 1)) C 1 0 mC_get1 rfl hf dX7_isClear_84 (fun hf => ?_)
      refine tt_iload (pc := 85) (k := 4) C dX7_isClear_85 rfl ?_
      refine tt_imul (pc := 87) C dX7_isClear_87 ?_
      refine tt_icmp_le (pc := 88) (tgt := 104) C dX7_isClear_88 (by decide) hf (fun hf => ?_) (fun hf => ?_)
      · refine tt_iconst (pc := 104) (v := (0 : Int32)) C dX7_isClear_104 (by decide) ?_
        obtain rfl := Option.some.inj hf
        exact tt_zreturn (pc := 105) C rfl rfl rfl rfl dX7_isClear_105
      · refine tt_aload_n (pc := 91) (k := 2) C dX7_isClear_91 rfl rfl ?_
        refine tt_iload (pc := 92) (k := 1) C dX7_isClear_92 rfl ?_
        refine tt_iload (pc := 94) (k := 0) C dX7_isClear_94 rfl ?_
        refine tt_iload (pc := 96) (k := 4) C dX7_isClear_96 rfl ?_
        obtain ⟨r3, hr3, hf⟩ := bind_some hf
        refine tt_callR (pc := 98) (ws := (mC cy ad sc ar la)) (q0 := 0) (ci := 7) (rest := []) (st' := [.int r3]) C (k_X7_isBarred hr3) okX7_isBarred q5_144 rfl mC_obj (fun _ h => h) rfl rfl rfl (Nat.le_of_ble_eq_true rfl) ⟨Nat.le_of_ble_eq_true rfl, Nat.le_of_ble_eq_true rfl⟩ dX7_isClear_98 ?_
        refine tt_if_eq (pc := 101) (tgt := 106) C dX7_isClear_101 (by decide) hf (fun hf => ?_) (fun hf => ?_)
        · refine tt_iinc (pc := 106) (k := 8) (v := (v9 + 1)) (L' := [(9, .int (v9 + 1)), (11, .int ((v7 * (v5 - v9)) + (v8 * v9))), (10, .int (v1 + (v6 * v9))), (0, .ref (ad 0)), (1, .int v1), (5, .int v5), (6, .int v6), (7, .int v7), (8, .int v8)]) C dX7_isClear_106 rfl rfl (by decide) rfl ?_
          refine tt_goto (pc := 109) (tgt := 44) C dX7_isClear_109 (by decide) ?_
          exact tt_locs [3, 4, 5, 6, 7, 8, 0] rfl (ih hf)
        · refine tt_iconst (pc := 104) (v := (0 : Int32)) C dX7_isClear_104 (by decide) ?_
          obtain rfl := Option.some.inj hf
          exact tt_zreturn (pc := 105) C rfl rfl rfl rfl dX7_isClear_105
set_option maxHeartbeats 4000000 in
set_option maxRecDepth 100000 in
theorem k_X7_isClear {l : Launch} {D : va_G} {cy : Nat → ClassId} {Bd : Nat} {xa : Xa} {ad : Nat → Nat} {N : Nat} {sc : Nat → Int32} {ar : Nat → Nat → Int32} {la : Nat → Nat → Int64} {a1 : Int32} {a2 : Int32} {a3 : Int32} {a4 : Int32} {out : Int32} (hf : f_X7_isClear N sc ar a1 a2 a3 a4 = some out) : KC l yX7_isClear cX7_isClear 12 (some .boolean) 2 46 true D cy Bd xa [.ref (ad 0), .int a1, .int a2, .int a3, .int a4] (mC cy ad sc ar la) (some (.int out)) (mC cy ad sc ar la) := by
  refine kc_start (own := RX7) (by decide +kernel) rfl (Nat.le_of_ble_eq_true rfl) ?_
  intro p e s m args below meth c A C
  unfold f_X7_isClear at hf
  refine tt_locs (L' := [(0, .ref (ad 0)), (1, .int a1), (2, .int a2), (3, .int a3), (4, .int a4)]) [0, 1, 2, 3, 4] rfl ?_
  refine tt_iload_n (pc := 0) (k := 3) C dX7_isClear_0 rfl rfl ?_
  refine tt_iload_n (pc := 1) (k := 1) C dX7_isClear_1 rfl rfl ?_
  refine tt_isub (pc := 2) C dX7_isClear_2 ?_
  refine tt_abs (pc := 3) C q5_143 q3_165 q1_14 q3_166 (Nat.le_of_ble_eq_true rfl) (Nat.le_of_ble_eq_true rfl) dX7_isClear_3 ?_
  refine tt_istore (pc := 6) (L' := [(5, .int (if 0 ≤ (a3 - a1) then (a3 - a1) else 0 - (a3 - a1))), (0, .ref (ad 0)), (1, .int a1), (2, .int a2), (3, .int a3), (4, .int a4)]) C dX7_isClear_6 (by decide) rfl ?_
  refine tt_iload_n (pc := 8) (k := 4) C dX7_isClear_8 rfl rfl ?_
  refine tt_iload_n (pc := 9) (k := 2) C dX7_isClear_9 rfl rfl ?_
  have k2 : TT p l e { frames := 2, cells := 0, slots := 0, locals := 46 } s m args below meth c 12 D A true (some (.int out)) (mC cy ad sc ar la) 18 [(0, .ref (ad 0)), (1, .int a1), (2, .int a2), (3, .int a3), (4, .int a4), (5, .int (if 0 ≤ (a3 - a1) then (a3 - a1) else 0 - (a3 - a1)))] [.int (if a3 ≤ a1 then (-1 : Int32) else (1 : Int32))] (mC cy ad sc ar la) := by
    refine tt_istore (pc := 18) (L' := [(6, .int (if a3 ≤ a1 then (-1 : Int32) else (1 : Int32))), (0, .ref (ad 0)), (1, .int a1), (2, .int a2), (3, .int a3), (4, .int a4), (5, .int (if 0 ≤ (a3 - a1) then (a3 - a1) else 0 - (a3 - a1)))]) C dX7_isClear_18 (by decide) rfl ?_
    refine tt_aload_n (pc := 20) (k := 1) C dX7_isClear_20 rfl rfl ?_
    refine tt_get (pc := 21) (ws := (mC cy ad sc ar la)) (ci := 7) (v := .ref (ad 1)) C fiX7 rfl 0 mC_obj 1 (by decide) q4_161 rfl dX7_isClear_21 ?_
    refine tt_iload_n (pc := 24) (k := 2) C dX7_isClear_24 rfl rfl ?_
    refine tt_iaload (pc := 25) (ws := (mC cy ad sc ar la)) (n := 24) (f := (ar 1)) C 1 0 mC_get1 rfl hf dX7_isClear_25 (fun hf => ?_)
    refine tt_iload_n (pc := 26) (k := 3) C dX7_isClear_26 rfl rfl ?_
    refine tt_iadd (pc := 27) C dX7_isClear_27 ?_
    refine tt_istore (pc := 28) (L' := [(7, .int (((ar 1) (ix a1)) + a2)), (6, .int (if a3 ≤ a1 then (-1 : Int32) else (1 : Int32))), (0, .ref (ad 0)), (1, .int a1), (2, .int a2), (3, .int a3), (4, .int a4), (5, .int (if 0 ≤ (a3 - a1) then (a3 - a1) else 0 - (a3 - a1)))]) C dX7_isClear_28 (by decide) rfl ?_
    refine tt_aload_n (pc := 30) (k := 2) C dX7_isClear_30 rfl rfl ?_
    refine tt_get (pc := 31) (ws := (mC cy ad sc ar la)) (ci := 7) (v := .ref (ad 1)) C fiX7 rfl 0 mC_obj 1 (by decide) q4_161 rfl dX7_isClear_31 ?_
    refine tt_iload_n (pc := 34) (k := 5) C dX7_isClear_34 rfl rfl ?_
    refine tt_iaload (pc := 35) (ws := (mC cy ad sc ar la)) (n := 24) (f := (ar 1)) C 1 0 mC_get1 rfl hf dX7_isClear_35 (fun hf => ?_)
    refine tt_iload (pc := 36) (k := 6) C dX7_isClear_36 rfl ?_
    refine tt_iadd (pc := 38) C dX7_isClear_38 ?_
    refine tt_istore (pc := 39) (L' := [(8, .int (((ar 1) (ix a3)) + a4)), (7, .int (((ar 1) (ix a1)) + a2)), (6, .int (if a3 ≤ a1 then (-1 : Int32) else (1 : Int32))), (0, .ref (ad 0)), (1, .int a1), (2, .int a2), (3, .int a3), (4, .int a4), (5, .int (if 0 ≤ (a3 - a1) then (a3 - a1) else 0 - (a3 - a1)))]) C dX7_isClear_39 (by decide) rfl ?_
    refine tt_iconst (pc := 41) (v := (1 : Int32)) C dX7_isClear_41 (by decide) ?_
    refine tt_istore (pc := 42) (L' := [(9, .int (1 : Int32)), (8, .int (((ar 1) (ix a3)) + a4)), (7, .int (((ar 1) (ix a1)) + a2)), (6, .int (if a3 ≤ a1 then (-1 : Int32) else (1 : Int32))), (0, .ref (ad 0)), (1, .int a1), (2, .int a2), (3, .int a3), (4, .int a4), (5, .int (if 0 ≤ (a3 - a1) then (a3 - a1) else 0 - (a3 - a1)))]) C dX7_isClear_42 (by decide) rfl ?_
    refine tt_locs (L' := [(0, .ref (ad 0)), (1, .int a1), (5, .int (if 0 ≤ (a3 - a1) then (a3 - a1) else 0 - (a3 - a1))), (6, .int (if a3 ≤ a1 then (-1 : Int32) else (1 : Int32))), (7, .int (((ar 1) (ix a1)) + a2)), (8, .int (((ar 1) (ix a3)) + a4)), (9, .int (1 : Int32))]) [4, 5, 9, 3, 2, 1, 0] rfl (l_X7_isClear_44 C (fun _ hf => ?_) hf)
    refine tt_iconst (pc := 112) (v := (1 : Int32)) C dX7_isClear_112 (by decide) ?_
    obtain rfl := Option.some.inj hf
    exact tt_zreturn (pc := 113) C rfl rfl rfl rfl dX7_isClear_113
  refine tr_icmp_le (pc := 10) (tgt := 17) C dX7_isClear_10 (by decide) (fun c1 => ?_) (fun c1 => ?_)
  · refine tt_iconst (pc := 17) (v := (-1 : Int32)) C dX7_isClear_17 (by decide) ?_
    try simp only [if_pos c1] at k2 ⊢
    exact tt_locs [1, 2, 3, 4, 5, 0] rfl k2
  · refine tt_iconst (pc := 13) (v := (1 : Int32)) C dX7_isClear_13 (by decide) ?_
    refine tt_goto (pc := 14) (tgt := 18) C dX7_isClear_14 (by decide) ?_
    try simp only [if_neg c1] at k2 ⊢
    exact tt_locs [1, 2, 3, 4, 5, 0] rfl k2
