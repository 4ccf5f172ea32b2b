theorem dX7_again_0 : decode cX7_again 0 = .ok (.iconst 0, 1) := by decide +kernel
theorem dX7_again_1 : decode cX7_again 1 = .ok (.istore_n 2, 1) := by decide +kernel
theorem dX7_again_2 : decode cX7_again 2 = .ok (.iload_n 2, 1) := by decide +kernel
theorem dX7_again_3 : decode cX7_again 3 = .ok (.bipush 24, 2) := by decide +kernel
theorem dX7_again_5 : decode cX7_again 5 = .ok (.if_icmp .ge 18, 3) := by decide +kernel
theorem dX7_again_8 : decode cX7_again 8 = .ok (.aload_n 0, 1) := by decide +kernel
theorem dX7_again_9 : decode cX7_again 9 = .ok (.getfield 13, 3) := by decide +kernel
theorem dX7_again_12 : decode cX7_again 12 = .ok (.iload_n 2, 1) := by decide +kernel
theorem dX7_again_13 : decode cX7_again 13 = .ok (.aload_n 1, 1) := by decide +kernel
theorem dX7_again_14 : decode cX7_again 14 = .ok (.iload_n 2, 1) := by decide +kernel
theorem dX7_again_15 : decode cX7_again 15 = .ok (.iaload, 1) := by decide +kernel
theorem dX7_again_16 : decode cX7_again 16 = .ok (.iastore, 1) := by decide +kernel
theorem dX7_again_17 : decode cX7_again 17 = .ok (.iinc 2 1, 3) := by decide +kernel
theorem dX7_again_20 : decode cX7_again 20 = .ok (.goto (-18), 3) := by decide +kernel
theorem dX7_again_23 : decode cX7_again 23 = .ok (.iconst 0, 1) := by decide +kernel
theorem dX7_again_24 : decode cX7_again 24 = .ok (.istore_n 2, 1) := by decide +kernel
theorem dX7_again_25 : decode cX7_again 25 = .ok (.iload_n 2, 1) := by decide +kernel
theorem dX7_again_26 : decode cX7_again 26 = .ok (.iconst 4, 1) := by decide +kernel
theorem dX7_again_27 : decode cX7_again 27 = .ok (.if_icmp .ge 93, 3) := by decide +kernel
theorem dX7_again_30 : decode cX7_again 30 = .ok (.aload_n 0, 1) := by decide +kernel
theorem dX7_again_31 : decode cX7_again 31 = .ok (.getfield 17, 3) := by decide +kernel
theorem dX7_again_34 : decode cX7_again 34 = .ok (.iload_n 2, 1) := by decide +kernel
theorem dX7_again_35 : decode cX7_again 35 = .ok (.aload_n 1, 1) := by decide +kernel
theorem dX7_again_36 : decode cX7_again 36 = .ok (.bipush 24, 2) := by decide +kernel
theorem dX7_again_38 : decode cX7_again 38 = .ok (.iload_n 2, 1) := by decide +kernel
theorem dX7_again_39 : decode cX7_again 39 = .ok (.iadd, 1) := by decide +kernel
theorem dX7_again_40 : decode cX7_again 40 = .ok (.iaload, 1) := by decide +kernel
theorem dX7_again_41 : decode cX7_again 41 = .ok (.iastore, 1) := by decide +kernel
theorem dX7_again_42 : decode cX7_again 42 = .ok (.aload_n 0, 1) := by decide +kernel
theorem dX7_again_43 : decode cX7_again 43 = .ok (.getfield 20, 3) := by decide +kernel
theorem dX7_again_46 : decode cX7_again 46 = .ok (.iload_n 2, 1) := by decide +kernel
theorem dX7_again_47 : decode cX7_again 47 = .ok (.aload_n 1, 1) := by decide +kernel
theorem dX7_again_48 : decode cX7_again 48 = .ok (.bipush 28, 2) := by decide +kernel
theorem dX7_again_50 : decode cX7_again 50 = .ok (.iload_n 2, 1) := by decide +kernel
theorem dX7_again_51 : decode cX7_again 51 = .ok (.iadd, 1) := by decide +kernel
theorem dX7_again_52 : decode cX7_again 52 = .ok (.iaload, 1) := by decide +kernel
theorem dX7_again_53 : decode cX7_again 53 = .ok (.iastore, 1) := by decide +kernel
theorem dX7_again_54 : decode cX7_again 54 = .ok (.aload_n 0, 1) := by decide +kernel
theorem dX7_again_55 : decode cX7_again 55 = .ok (.getfield 23, 3) := by decide +kernel
theorem dX7_again_58 : decode cX7_again 58 = .ok (.iload_n 2, 1) := by decide +kernel
theorem dX7_again_59 : decode cX7_again 59 = .ok (.aload_n 1, 1) := by decide +kernel
theorem dX7_again_60 : decode cX7_again 60 = .ok (.bipush 32, 2) := by decide +kernel
theorem dX7_again_62 : decode cX7_again 62 = .ok (.iload_n 2, 1) := by decide +kernel
theorem dX7_again_63 : decode cX7_again 63 = .ok (.iadd, 1) := by decide +kernel
theorem dX7_again_64 : decode cX7_again 64 = .ok (.iaload, 1) := by decide +kernel
theorem dX7_again_65 : decode cX7_again 65 = .ok (.iastore, 1) := by decide +kernel
theorem dX7_again_66 : decode cX7_again 66 = .ok (.aload_n 0, 1) := by decide +kernel
theorem dX7_again_67 : decode cX7_again 67 = .ok (.getfield 32, 3) := by decide +kernel
theorem dX7_again_70 : decode cX7_again 70 = .ok (.iload_n 2, 1) := by decide +kernel
theorem dX7_again_71 : decode cX7_again 71 = .ok (.aload_n 1, 1) := by decide +kernel
theorem dX7_again_72 : decode cX7_again 72 = .ok (.bipush 36, 2) := by decide +kernel
theorem dX7_again_74 : decode cX7_again 74 = .ok (.iload_n 2, 1) := by decide +kernel
theorem dX7_again_75 : decode cX7_again 75 = .ok (.iadd, 1) := by decide +kernel
theorem dX7_again_76 : decode cX7_again 76 = .ok (.iaload, 1) := by decide +kernel
theorem dX7_again_77 : decode cX7_again 77 = .ok (.iastore, 1) := by decide +kernel
theorem dX7_again_78 : decode cX7_again 78 = .ok (.aload_n 0, 1) := by decide +kernel
theorem dX7_again_79 : decode cX7_again 79 = .ok (.getfield 35, 3) := by decide +kernel
theorem dX7_again_82 : decode cX7_again 82 = .ok (.iload_n 2, 1) := by decide +kernel
theorem dX7_again_83 : decode cX7_again 83 = .ok (.aload_n 1, 1) := by decide +kernel
theorem dX7_again_84 : decode cX7_again 84 = .ok (.bipush 40, 2) := by decide +kernel
theorem dX7_again_86 : decode cX7_again 86 = .ok (.iload_n 2, 1) := by decide +kernel
theorem dX7_again_87 : decode cX7_again 87 = .ok (.iadd, 1) := by decide +kernel
theorem dX7_again_88 : decode cX7_again 88 = .ok (.iaload, 1) := by decide +kernel
theorem dX7_again_89 : decode cX7_again 89 = .ok (.iastore, 1) := by decide +kernel
theorem dX7_again_90 : decode cX7_again 90 = .ok (.aload_n 0, 1) := by decide +kernel
theorem dX7_again_91 : decode cX7_again 91 = .ok (.getfield 38, 3) := by decide +kernel
theorem dX7_again_94 : decode cX7_again 94 = .ok (.iload_n 2, 1) := by decide +kernel
theorem dX7_again_95 : decode cX7_again 95 = .ok (.aload_n 1, 1) := by decide +kernel
theorem dX7_again_96 : decode cX7_again 96 = .ok (.bipush 44, 2) := by decide +kernel
theorem dX7_again_98 : decode cX7_again 98 = .ok (.iload_n 2, 1) := by decide +kernel
theorem dX7_again_99 : decode cX7_again 99 = .ok (.iadd, 1) := by decide +kernel
theorem dX7_again_100 : decode cX7_again 100 = .ok (.iaload, 1) := by decide +kernel
theorem dX7_again_101 : decode cX7_again 101 = .ok (.iastore, 1) := by decide +kernel
theorem dX7_again_102 : decode cX7_again 102 = .ok (.aload_n 0, 1) := by decide +kernel
theorem dX7_again_103 : decode cX7_again 103 = .ok (.getfield 41, 3) := by decide +kernel
theorem dX7_again_106 : decode cX7_again 106 = .ok (.iload_n 2, 1) := by decide +kernel
theorem dX7_again_107 : decode cX7_again 107 = .ok (.aload_n 1, 1) := by decide +kernel
theorem dX7_again_108 : decode cX7_again 108 = .ok (.bipush 48, 2) := by decide +kernel
theorem dX7_again_110 : decode cX7_again 110 = .ok (.iload_n 2, 1) := by decide +kernel
theorem dX7_again_111 : decode cX7_again 111 = .ok (.iadd, 1) := by decide +kernel
theorem dX7_again_112 : decode cX7_again 112 = .ok (.iaload, 1) := by decide +kernel
theorem dX7_again_113 : decode cX7_again 113 = .ok (.iastore, 1) := by decide +kernel
theorem dX7_again_114 : decode cX7_again 114 = .ok (.iinc 2 1, 3) := by decide +kernel
theorem dX7_again_117 : decode cX7_again 117 = .ok (.goto (-92), 3) := by decide +kernel
theorem dX7_again_120 : decode cX7_again 120 = .ok (.iconst 0, 1) := by decide +kernel
theorem dX7_again_121 : decode cX7_again 121 = .ok (.istore_n 2, 1) := by decide +kernel
theorem dX7_again_122 : decode cX7_again 122 = .ok (.iload_n 2, 1) := by decide +kernel
theorem dX7_again_123 : decode cX7_again 123 = .ok (.iconst 5, 1) := by decide +kernel
theorem dX7_again_124 : decode cX7_again 124 = .ok (.if_icmp .ge 33, 3) := by decide +kernel
theorem dX7_again_127 : decode cX7_again 127 = .ok (.aload_n 0, 1) := by decide +kernel
theorem dX7_again_128 : decode cX7_again 128 = .ok (.getfield 26, 3) := by decide +kernel
theorem dX7_again_131 : decode cX7_again 131 = .ok (.iload_n 2, 1) := by decide +kernel
theorem dX7_again_132 : decode cX7_again 132 = .ok (.aload_n 1, 1) := by decide +kernel
theorem dX7_again_133 : decode cX7_again 133 = .ok (.bipush 52, 2) := by decide +kernel
theorem dX7_again_135 : decode cX7_again 135 = .ok (.iload_n 2, 1) := by decide +kernel
theorem dX7_again_136 : decode cX7_again 136 = .ok (.iadd, 1) := by decide +kernel
theorem dX7_again_137 : decode cX7_again 137 = .ok (.iaload, 1) := by decide +kernel
theorem dX7_again_138 : decode cX7_again 138 = .ok (.iastore, 1) := by decide +kernel
theorem dX7_again_139 : decode cX7_again 139 = .ok (.aload_n 0, 1) := by decide +kernel
theorem dX7_again_140 : decode cX7_again 140 = .ok (.getfield 29, 3) := by decide +kernel
theorem dX7_again_143 : decode cX7_again 143 = .ok (.iload_n 2, 1) := by decide +kernel
theorem dX7_again_144 : decode cX7_again 144 = .ok (.aload_n 1, 1) := by decide +kernel
theorem dX7_again_145 : decode cX7_again 145 = .ok (.bipush 57, 2) := by decide +kernel
theorem dX7_again_147 : decode cX7_again 147 = .ok (.iload_n 2, 1) := by decide +kernel
theorem dX7_again_148 : decode cX7_again 148 = .ok (.iadd, 1) := by decide +kernel
theorem dX7_again_149 : decode cX7_again 149 = .ok (.iaload, 1) := by decide +kernel
theorem dX7_again_150 : decode cX7_again 150 = .ok (.iastore, 1) := by decide +kernel
theorem dX7_again_151 : decode cX7_again 151 = .ok (.iinc 2 1, 3) := by decide +kernel
theorem dX7_again_154 : decode cX7_again 154 = .ok (.goto (-32), 3) := by decide +kernel
theorem dX7_again_157 : decode cX7_again 157 = .ok (.iconst 0, 1) := by decide +kernel
theorem dX7_again_158 : decode cX7_again 158 = .ok (.istore_n 2, 1) := by decide +kernel
theorem dX7_again_159 : decode cX7_again 159 = .ok (.iload_n 2, 1) := by decide +kernel
theorem dX7_again_160 : decode cX7_again 160 = .ok (.bipush 56, 2) := by decide +kernel
theorem dX7_again_162 : decode cX7_again 162 = .ok (.if_icmp .ge 21, 3) := by decide +kernel
theorem dX7_again_165 : decode cX7_again 165 = .ok (.aload_n 0, 1) := by decide +kernel
theorem dX7_again_166 : decode cX7_again 166 = .ok (.getfield 47, 3) := by decide +kernel
theorem dX7_again_169 : decode cX7_again 169 = .ok (.iload_n 2, 1) := by decide +kernel
theorem dX7_again_170 : decode cX7_again 170 = .ok (.aload_n 1, 1) := by decide +kernel
theorem dX7_again_171 : decode cX7_again 171 = .ok (.bipush 62, 2) := by decide +kernel
theorem dX7_again_173 : decode cX7_again 173 = .ok (.iload_n 2, 1) := by decide +kernel
theorem dX7_again_174 : decode cX7_again 174 = .ok (.iadd, 1) := by decide +kernel
theorem dX7_again_175 : decode cX7_again 175 = .ok (.iaload, 1) := by decide +kernel
theorem dX7_again_176 : decode cX7_again 176 = .ok (.iastore, 1) := by decide +kernel
theorem dX7_again_177 : decode cX7_again 177 = .ok (.iinc 2 1, 3) := by decide +kernel
theorem dX7_again_180 : decode cX7_again 180 = .ok (.goto (-21), 3) := by decide +kernel
theorem dX7_again_183 : decode cX7_again 183 = .ok (.iconst 0, 1) := by decide +kernel
theorem dX7_again_184 : decode cX7_again 184 = .ok (.istore_n 2, 1) := by decide +kernel
theorem dX7_again_185 : decode cX7_again 185 = .ok (.iload_n 2, 1) := by decide +kernel
theorem dX7_again_186 : decode cX7_again 186 = .ok (.bipush 8, 2) := by decide +kernel
theorem dX7_again_188 : decode cX7_again 188 = .ok (.if_icmp .ge 33, 3) := by decide +kernel
theorem dX7_again_191 : decode cX7_again 191 = .ok (.aload_n 0, 1) := by decide +kernel
theorem dX7_again_192 : decode cX7_again 192 = .ok (.getfield 50, 3) := by decide +kernel
theorem dX7_again_195 : decode cX7_again 195 = .ok (.iload_n 2, 1) := by decide +kernel
theorem dX7_again_196 : decode cX7_again 196 = .ok (.aload_n 1, 1) := by decide +kernel
theorem dX7_again_197 : decode cX7_again 197 = .ok (.bipush 118, 2) := by decide +kernel
theorem dX7_again_199 : decode cX7_again 199 = .ok (.iload_n 2, 1) := by decide +kernel
theorem dX7_again_200 : decode cX7_again 200 = .ok (.iadd, 1) := by decide +kernel
theorem dX7_again_201 : decode cX7_again 201 = .ok (.iaload, 1) := by decide +kernel
theorem dX7_again_202 : decode cX7_again 202 = .ok (.iastore, 1) := by decide +kernel
theorem dX7_again_203 : decode cX7_again 203 = .ok (.aload_n 0, 1) := by decide +kernel
theorem dX7_again_204 : decode cX7_again 204 = .ok (.getfield 53, 3) := by decide +kernel
theorem dX7_again_207 : decode cX7_again 207 = .ok (.iload_n 2, 1) := by decide +kernel
theorem dX7_again_208 : decode cX7_again 208 = .ok (.aload_n 1, 1) := by decide +kernel
theorem dX7_again_209 : decode cX7_again 209 = .ok (.bipush 126, 2) := by decide +kernel
theorem dX7_again_211 : decode cX7_again 211 = .ok (.iload_n 2, 1) := by decide +kernel
theorem dX7_again_212 : decode cX7_again 212 = .ok (.iadd, 1) := by decide +kernel
theorem dX7_again_213 : decode cX7_again 213 = .ok (.iaload, 1) := by decide +kernel
theorem dX7_again_214 : decode cX7_again 214 = .ok (.iastore, 1) := by decide +kernel
theorem dX7_again_215 : decode cX7_again 215 = .ok (.iinc 2 1, 3) := by decide +kernel
theorem dX7_again_218 : decode cX7_again 218 = .ok (.goto (-33), 3) := by decide +kernel
theorem dX7_again_221 : decode cX7_again 221 = .ok (.aload_n 0, 1) := by decide +kernel
theorem dX7_again_222 : decode cX7_again 222 = .ok (.aload_n 1, 1) := by decide +kernel
theorem dX7_again_223 : decode cX7_again 223 = .ok (.sipush 134, 3) := by decide +kernel
theorem dX7_again_226 : decode cX7_again 226 = .ok (.iaload, 1) := by decide +kernel
theorem dX7_again_227 : decode cX7_again 227 = .ok (.putfield 7, 3) := by decide +kernel
theorem dX7_again_230 : decode cX7_again 230 = .ok (.aload_n 0, 1) := by decide +kernel
theorem dX7_again_231 : decode cX7_again 231 = .ok (.aload_n 1, 1) := by decide +kernel
theorem dX7_again_232 : decode cX7_again 232 = .ok (.sipush 135, 3) := by decide +kernel
theorem dX7_again_235 : decode cX7_again 235 = .ok (.iaload, 1) := by decide +kernel
theorem dX7_again_236 : decode cX7_again 236 = .ok (.putfield 106, 3) := by decide +kernel
theorem dX7_again_239 : decode cX7_again 239 = .ok (.aload_n 0, 1) := by decide +kernel
theorem dX7_again_240 : decode cX7_again 240 = .ok (.aload_n 1, 1) := by decide +kernel
theorem dX7_again_241 : decode cX7_again 241 = .ok (.sipush 136, 3) := by decide +kernel
theorem dX7_again_244 : decode cX7_again 244 = .ok (.iaload, 1) := by decide +kernel
theorem dX7_again_245 : decode cX7_again 245 = .ok (.putfield 109, 3) := by decide +kernel
theorem dX7_again_248 : decode cX7_again 248 = .ok (.aload_n 0, 1) := by decide +kernel
theorem dX7_again_249 : decode cX7_again 249 = .ok (.aload_n 1, 1) := by decide +kernel
theorem dX7_again_250 : decode cX7_again 250 = .ok (.sipush 137, 3) := by decide +kernel
theorem dX7_again_253 : decode cX7_again 253 = .ok (.iaload, 1) := by decide +kernel
theorem dX7_again_254 : decode cX7_again 254 = .ok (.putfield 112, 3) := by decide +kernel
theorem dX7_again_257 : decode cX7_again 257 = .ok (.aload_n 0, 1) := by decide +kernel
theorem dX7_again_258 : decode cX7_again 258 = .ok (.aload_n 1, 1) := by decide +kernel
theorem dX7_again_259 : decode cX7_again 259 = .ok (.sipush 138, 3) := by decide +kernel
theorem dX7_again_262 : decode cX7_again 262 = .ok (.iaload, 1) := by decide +kernel
theorem dX7_again_263 : decode cX7_again 263 = .ok (.putfield 44, 3) := by decide +kernel
theorem dX7_again_266 : decode cX7_again 266 = .ok (.aload_n 0, 1) := by decide +kernel
theorem dX7_again_267 : decode cX7_again 267 = .ok (.aload_n 1, 1) := by decide +kernel
theorem dX7_again_268 : decode cX7_again 268 = .ok (.sipush 139, 3) := by decide +kernel
theorem dX7_again_271 : decode cX7_again 271 = .ok (.iaload, 1) := by decide +kernel
theorem dX7_again_272 : decode cX7_again 272 = .ok (.putfield 115, 3) := by decide +kernel
theorem dX7_again_275 : decode cX7_again 275 = .ok (.return_, 1) := by decide +kernel
set_option maxHeartbeats 4000000 in
set_option maxRecDepth 100000 in
theorem l_X7_again_23_2 {p : Program} {l : Launch} {e : Env} {s : State} {m : MethodId} {args : Array Value} {below : List Frame} {meth : Method} {c : Code} {D : va_G} {cy : Nat → ClassId} {A : Nat → Prop} {Bd : Nat} {xa : Xa} {ad : Nat → Nat} {β : Type} {vO : Option Value} {wO : va_W} {N : Nat} {sc : Nat → Int32} {la : Nat → Nat → Int64} {kx : (Nat → Nat → Int32) → Option (β)} {out : β} (C : CC p s m args meth c cX7_again RX7 3 none D cy A false Bd xa) (hk : ∀ (ar1 : Nat → Nat → Int32), kx ar1 = some out → TT p l e { frames := 0, cells := 0, slots := 0, locals := 0 } s m args below meth c 3 D A false vO wO 23 [(0, .ref (ad 0)), (1, .ref (ad 23))] [] (mC cy ad sc ar1 la)) {n : Nat} {v2 : Int32} {ar : Nat → Nat → Int32} (hf : f_X7_again_23_L2 N sc kx n v2 ar = some out) : TT p l e { frames := 0, cells := 0, slots := 0, locals := 0 } s m args below meth c 3 D A false vO wO 2 [(0, .ref (ad 0)), (1, .ref (ad 23)), (2, .int v2)] [] (mC cy ad sc ar la) := by
  induction n generalizing v2 ar with
  | zero => cases hf
  | succ n ih =>
    rw [f_X7_again_23_L2] at hf
    refine tt_iload_n (pc := 2) (k := 2) C dX7_again_2 rfl rfl ?_
    refine tt_bipush (pc := 3) (v := (24 : Int32)) C dX7_again_3 (by decide) ?_
    refine tt_icmp_ge (pc := 5) (tgt := 23) C dX7_again_5 (by decide) hf (fun hf => ?_) (fun hf => ?_)
    · exact tt_locs [0, 1] rfl (hk _ hf)
    · refine tt_aload_n (pc := 8) (k := 0) C dX7_again_8 rfl rfl ?_
      refine tt_get (pc := 9) (ws := (mC cy ad sc ar la)) (ci := 7) (v := .ref (ad 1)) C fiX7 rfl 0 mC_obj 1 (by decide) q4_161 rfl dX7_again_9 ?_
      refine tt_iload_n (pc := 12) (k := 2) C dX7_again_12 rfl rfl ?_
      refine tt_aload_n (pc := 13) (k := 1) C dX7_again_13 rfl rfl ?_
      refine tt_iload_n (pc := 14) (k := 2) C dX7_again_14 rfl rfl ?_
      refine tt_iaload (pc := 15) (ws := (mC cy ad sc ar la)) (n := 150) (f := (ar 23)) C 17 0 mC_get23 rfl hf dX7_again_15 (fun hf => ?_)
      refine tt_iastore (pc := 16) (ws := (mC cy ad sc ar la)) (n := 24) (f := (ar 1)) (ws' := (mC cy ad sc (va_up ar 1 (upd (ar 1) (ix v2) ((ar 23) (ix v2)))) la)) C rfl 1 0 mC_get1 rfl hf dX7_again_16 mC_set1 (fun hf => ?_)
      refine tt_iinc (pc := 17) (k := 2) (v := (v2 + 1)) (L' := [(2, .int (v2 + 1)), (0, .ref (ad 0)), (1, .ref (ad 23))]) C dX7_again_17 rfl rfl (by decide) rfl ?_
      refine tt_goto (pc := 20) (tgt := 2) C dX7_again_20 (by decide) ?_
      exact tt_locs [1, 2, 0] rfl (ih hf)
set_option maxHeartbeats 4000000 in
set_option maxRecDepth 100000 in
theorem l_X7_again_23_25 {p : Program} {l : Launch} {e : Env} {s : State} {m : MethodId} {args : Array Value} {below : List Frame} {meth : Method} {c : Code} {D : va_G} {cy : Nat → ClassId} {A : Nat → Prop} {Bd : Nat} {xa : Xa} {ad : Nat → Nat} {β : Type} {vO : Option Value} {wO : va_W} {N : Nat} {sc : Nat → Int32} {la : Nat → Nat → Int64} {kx : (Nat → Nat → Int32) → Option (β)} {out : β} (C : CC p s m args meth c cX7_again RX7 3 none D cy A false Bd xa) (hk : ∀ (ar1 : Nat → Nat → Int32), kx ar1 = some out → TT p l e { frames := 0, cells := 0, slots := 0, locals := 0 } s m args below meth c 3 D A false vO wO 120 [(0, .ref (ad 0)), (1, .ref (ad 23))] [] (mC cy ad sc ar1 la)) {n : Nat} {v2 : Int32} {ar : Nat → Nat → Int32} (hf : f_X7_again_23_L25 N sc kx n v2 ar = some out) : TT p l e { frames := 0, cells := 0, slots := 0, locals := 0 } s m args below meth c 3 D A false vO wO 25 [(0, .ref (ad 0)), (1, .ref (ad 23)), (2, .int v2)] [] (mC cy ad sc ar la) := by
  induction n generalizing v2 ar with
  | zero => cases hf
  | succ n ih =>
    rw [f_X7_again_23_L25] at hf
    refine tt_iload_n (pc := 25) (k := 2) C dX7_again_25 rfl rfl ?_
    refine tt_iconst (pc := 26) (v := (4 : Int32)) C dX7_again_26 (by decide) ?_
    refine tt_icmp_ge (pc := 27) (tgt := 120) C dX7_again_27 (by decide) hf (fun hf => ?_) (fun hf => ?_)
    · exact tt_locs [0, 1] rfl (hk _ hf)
    · refine tt_aload_n (pc := 30) (k := 0) C dX7_again_30 rfl rfl ?_
      refine tt_get (pc := 31) (ws := (mC cy ad sc ar la)) (ci := 7) (v := .ref (ad 3)) C fiX7 rfl 0 mC_obj 3 (by decide) q4_163 rfl dX7_again_31 ?_
      refine tt_iload_n (pc := 34) (k := 2) C dX7_again_34 rfl rfl ?_
      refine tt_aload_n (pc := 35) (k := 1) C dX7_again_35 rfl rfl ?_
      refine tt_bipush (pc := 36) (v := (24 : Int32)) C dX7_again_36 (by decide) ?_
      refine tt_iload_n (pc := 38) (k := 2) C dX7_again_38 rfl rfl ?_
      refine tt_iadd (pc := 39) C dX7_again_39 ?_
      refine tt_iaload (pc := 40) (ws := (mC cy ad sc ar la)) (n := 150) (f := (ar 23)) C 17 0 mC_get23 rfl hf dX7_again_40 (fun hf => ?_)
      refine tt_iastore (pc := 41) (ws := (mC cy ad sc ar la)) (n := 4) (f := (ar 3)) (ws' := (mC cy ad sc (va_up ar 3 (upd (ar 3) (ix v2) ((ar 23) (ix ((24 : Int32) + v2))))) la)) C rfl 2 0 mC_get3 rfl hf dX7_again_41 mC_set3 (fun hf => ?_)
      refine tt_aload_n (pc := 42) (k := 0) C dX7_again_42 rfl rfl ?_
      refine tt_get (pc := 43) (ws := (mC cy ad sc (va_up ar 3 (upd (ar 3) (ix v2) ((ar 23) (ix ((24 : Int32) + v2))))) la)) (ci := 7) (v := .ref (ad 4)) C fiX7 rfl 0 mC_obj 4 (by decide) q4_164 rfl dX7_again_43 ?_
      refine tt_iload_n (pc := 46) (k := 2) C dX7_again_46 rfl rfl ?_
      refine tt_aload_n (pc := 47) (k := 1) C dX7_again_47 rfl rfl ?_
      refine tt_bipush (pc := 48) (v := (28 : Int32)) C dX7_again_48 (by decide) ?_
      refine tt_iload_n (pc := 50) (k := 2) C dX7_again_50 rfl rfl ?_
      refine tt_iadd (pc := 51) C dX7_again_51 ?_
      refine tt_iaload (pc := 52) (ws := (mC cy ad sc (va_up ar 3 (upd (ar 3) (ix v2) ((ar 23) (ix ((24 : Int32) + v2))))) la)) (n := 150) (f := (ar 23)) C 17 0 mC_get23 rfl hf dX7_again_52 (fun hf => ?_)
      refine tt_iastore (pc := 53) (ws := (mC cy ad sc (va_up ar 3 (upd (ar 3) (ix v2) ((ar 23) (ix ((24 : Int32) + v2))))) la)) (n := 4) (f := (ar 4)) (ws' := (mC cy ad sc (va_up (va_up ar 3 (upd (ar 3) (ix v2) ((ar 23) (ix ((24 : Int32) + v2))))) 4 (upd (ar 4) (ix v2) ((ar 23) (ix ((28 : Int32) + v2))))) la)) C rfl 3 0 mC_get4 rfl hf dX7_again_53 mC_set4 (fun hf => ?_)
      refine tt_aload_n (pc := 54) (k := 0) C dX7_again_54 rfl rfl ?_
      refine tt_get (pc := 55) (ws := (mC cy ad sc (va_up (va_up ar 3 (upd (ar 3) (ix v2) ((ar 23) (ix ((24 : Int32) + v2))))) 4 (upd (ar 4) (ix v2) ((ar 23) (ix ((28 : Int32) + v2))))) la)) (ci := 7) (v := .ref (ad 5)) C fiX7 rfl 0 mC_obj 5 (by decide) q4_165 rfl dX7_again_55 ?_
      refine tt_iload_n (pc := 58) (k := 2) C dX7_again_58 rfl rfl ?_
      refine tt_aload_n (pc := 59) (k := 1) C dX7_again_59 rfl rfl ?_
      refine tt_bipush (pc := 60) (v := (32 : Int32)) C dX7_again_60 (by decide) ?_
      refine tt_iload_n (pc := 62) (k := 2) C dX7_again_62 rfl rfl ?_
      refine tt_iadd (pc := 63) C dX7_again_63 ?_
      refine tt_iaload (pc := 64) (ws := (mC cy ad sc (va_up (va_up ar 3 (upd (ar 3) (ix v2) ((ar 23) (ix ((24 : Int32) + v2))))) 4 (upd (ar 4) (ix v2) ((ar 23) (ix ((28 : Int32) + v2))))) la)) (n := 150) (f := (ar 23)) C 17 0 mC_get23 rfl hf dX7_again_64 (fun hf => ?_)
      refine tt_iastore (pc := 65) (ws := (mC cy ad sc (va_up (va_up ar 3 (upd (ar 3) (ix v2) ((ar 23) (ix ((24 : Int32) + v2))))) 4 (upd (ar 4) (ix v2) ((ar 23) (ix ((28 : Int32) + v2))))) la)) (n := 4) (f := (ar 5)) (ws' := (mC cy ad sc (va_up (va_up (va_up ar 3 (upd (ar 3) (ix v2) ((ar 23) (ix ((24 : Int32) + v2))))) 4 (upd (ar 4) (ix v2) ((ar 23) (ix ((28 : Int32) + v2))))) 5 (upd (ar 5) (ix v2) ((ar 23) (ix ((32 : Int32) + v2))))) la)) C rfl 4 0 mC_get5 rfl hf dX7_again_65 mC_set5 (fun hf => ?_)
      refine tt_aload_n (pc := 66) (k := 0) C dX7_again_66 rfl rfl ?_
      refine tt_get (pc := 67) (ws := (mC cy ad sc (va_up (va_up (va_up ar 3 (upd (ar 3) (ix v2) ((ar 23) (ix ((24 : Int32) + v2))))) 4 (upd (ar 4) (ix v2) ((ar 23) (ix ((28 : Int32) + v2))))) 5 (upd (ar 5) (ix v2) ((ar 23) (ix ((32 : Int32) + v2))))) la)) (ci := 7) (v := .ref (ad 10)) C fiX7 rfl 0 mC_obj 10 (by decide) q4_170 rfl dX7_again_67 ?_
      refine tt_iload_n (pc := 70) (k := 2) C dX7_again_70 rfl rfl ?_
      refine tt_aload_n (pc := 71) (k := 1) C dX7_again_71 rfl rfl ?_
      refine tt_bipush (pc := 72) (v := (36 : Int32)) C dX7_again_72 (by decide) ?_
      refine tt_iload_n (pc := 74) (k := 2) C dX7_again_74 rfl rfl ?_
      refine tt_iadd (pc := 75) C dX7_again_75 ?_
      refine tt_iaload (pc := 76) (ws := (mC cy ad sc (va_up (va_up (va_up ar 3 (upd (ar 3) (ix v2) ((ar 23) (ix ((24 : Int32) + v2))))) 4 (upd (ar 4) (ix v2) ((ar 23) (ix ((28 : Int32) + v2))))) 5 (upd (ar 5) (ix v2) ((ar 23) (ix ((32 : Int32) + v2))))) la)) (n := 150) (f := (ar 23)) C 17 0 mC_get23 rfl hf dX7_again_76 (fun hf => ?_)
      refine tt_iastore (pc := 77) (ws := (mC cy ad sc (va_up (va_up (va_up ar 3 (upd (ar 3) (ix v2) ((ar 23) (ix ((24 : Int32) + v2))))) 4 (upd (ar 4) (ix v2) ((ar 23) (ix ((28 : Int32) + v2))))) 5 (upd (ar 5) (ix v2) ((ar 23) (ix ((32 : Int32) + v2))))) la)) (n := 4) (f := (ar 10)) (ws' := (mC cy ad sc (va_up (va_up (va_up (va_up ar 3 (upd (ar 3) (ix v2) ((ar 23) (ix ((24 : Int32) + v2))))) 4 (upd (ar 4) (ix v2) ((ar 23) (ix ((28 : Int32) + v2))))) 5 (upd (ar 5) (ix v2) ((ar 23) (ix ((32 : Int32) + v2))))) 10 (upd (ar 10) (ix v2) ((ar 23) (ix ((36 : Int32) + v2))))) la)) C rfl 7 0 mC_get10 rfl hf dX7_again_77 mC_set10 (fun hf => ?_)
      refine tt_aload_n (pc := 78) (k := 0) C dX7_again_78 rfl rfl ?_
      refine tt_get (pc := 79) (ws := (mC cy ad sc (va_up (va_up (va_up (va_up ar 3 (upd (ar 3) (ix v2) ((ar 23) (ix ((24 : Int32) + v2))))) 4 (upd (ar 4) (ix v2) ((ar 23) (ix ((28 : Int32) + v2))))) 5 (upd (ar 5) (ix v2) ((ar 23) (ix ((32 : Int32) + v2))))) 10 (upd (ar 10) (ix v2) ((ar 23) (ix ((36 : Int32) + v2))))) la)) (ci := 7) (v := .ref (ad 11)) C fiX7 rfl 0 mC_obj 11 (by decide) q4_171 rfl dX7_again_79 ?_
      refine tt_iload_n (pc := 82) (k := 2) C dX7_again_82 rfl rfl ?_
      refine tt_aload_n (pc := 83) (k := 1) C dX7_again_83 rfl rfl ?_
      refine tt_bipush (pc := 84) (v := (40 : Int32)) C dX7_again_84 (by decide) ?_
      refine tt_iload_n (pc := 86) (k := 2) C dX7_again_86 rfl rfl ?_
      refine tt_iadd (pc := 87) C dX7_again_87 ?_
      refine tt_iaload (pc := 88) (ws := (mC cy ad sc (va_up (va_up (va_up (va_up ar 3 (upd (ar 3) (ix v2) ((ar 23) (ix ((24 : Int32) + v2))))) 4 (upd (ar 4) (ix v2) ((ar 23) (ix ((28 : Int32) + v2))))) 5 (upd (ar 5) (ix v2) ((ar 23) (ix ((32 : Int32) + v2))))) 10 (upd (ar 10) (ix v2) ((ar 23) (ix ((36 : Int32) + v2))))) la)) (n := 150) (f := (ar 23)) C 17 0 mC_get23 rfl hf dX7_again_88 (fun hf => ?_)
      refine tt_iastore (pc := 89) (ws := (mC cy ad sc (va_up (va_up (va_up (va_up ar 3 (upd (ar 3) (ix v2) ((ar 23) (ix ((24 : Int32) + v2))))) 4 (upd (ar 4) (ix v2) ((ar 23) (ix ((28 : Int32) + v2))))) 5 (upd (ar 5) (ix v2) ((ar 23) (ix ((32 : Int32) + v2))))) 10 (upd (ar 10) (ix v2) ((ar 23) (ix ((36 : Int32) + v2))))) la)) (n := 4) (f := (ar 11)) (ws' := (mC cy ad sc (va_up (va_up (va_up (va_up (va_up ar 3 (upd (ar 3) (ix v2) ((ar 23) (ix ((24 : Int32) + v2))))) 4 (upd (ar 4) (ix v2) ((ar 23) (ix ((28 : Int32) + v2))))) 5 (upd (ar 5) (ix v2) ((ar 23) (ix ((32 : Int32) + v2))))) 10 (upd (ar 10) (ix v2) ((ar 23) (ix ((36 : Int32) + v2))))) 11 (upd (ar 11) (ix v2) ((ar 23) (ix ((40 : Int32) + v2))))) la)) C rfl 8 0 mC_get11 rfl hf dX7_again_89 mC_set11 (fun hf => ?_)
      refine tt_aload_n (pc := 90) (k := 0) C dX7_again_90 rfl rfl ?_
      refine tt_get (pc := 91) (ws := (mC cy ad sc (va_up (va_up (va_up (va_up (va_up ar 3 (upd (ar 3) (ix v2) ((ar 23) (ix ((24 : Int32) + v2))))) 4 (upd (ar 4) (ix v2) ((ar 23) (ix ((28 : Int32) + v2))))) 5 (upd (ar 5) (ix v2) ((ar 23) (ix ((32 : Int32) + v2))))) 10 (upd (ar 10) (ix v2) ((ar 23) (ix ((36 : Int32) + v2))))) 11 (upd (ar 11) (ix v2) ((ar 23) (ix ((40 : Int32) + v2))))) la)) (ci := 7) (v := .ref (ad 12)) C fiX7 rfl 0 mC_obj 12 (by decide) q4_172 rfl dX7_again_91 ?_
      refine tt_iload_n (pc := 94) (k := 2) C dX7_again_94 rfl rfl ?_
      refine tt_aload_n (pc := 95) (k := 1) C dX7_again_95 rfl rfl ?_
      refine tt_bipush (pc := 96) (v := (44 : Int32)) C dX7_again_96 (by decide) ?_
      refine tt_iload_n (pc := 98) (k := 2) C dX7_again_98 rfl rfl ?_
      refine tt_iadd (pc := 99) C dX7_again_99 ?_
      refine tt_iaload (pc := 100) (ws := (mC cy ad sc (va_up (va_up (va_up (va_up (va_up ar 3 (upd (ar 3) (ix v2) ((ar 23) (ix ((24 : Int32) + v2))))) 4 (upd (ar 4) (ix v2) ((ar 23) (ix ((28 : Int32) + v2))))) 5 (upd (ar 5) (ix v2) ((ar 23) (ix ((32 : Int32) + v2))))) 10 (upd (ar 10) (ix v2) ((ar 23) (ix ((36 : Int32) + v2))))) 11 (upd (ar 11) (ix v2) ((ar 23) (ix ((40 : Int32) + v2))))) la)) (n := 150) (f := (ar 23)) C 17 0 mC_get23 rfl hf dX7_again_100 (fun hf => ?_)
      refine tt_iastore (pc := 101) (ws := (mC cy ad sc (va_up (va_up (va_up (va_up (va_up ar 3 (upd (ar 3) (ix v2) ((ar 23) (ix ((24 : Int32) + v2))))) 4 (upd (ar 4) (ix v2) ((ar 23) (ix ((28 : Int32) + v2))))) 5 (upd (ar 5) (ix v2) ((ar 23) (ix ((32 : Int32) + v2))))) 10 (upd (ar 10) (ix v2) ((ar 23) (ix ((36 : Int32) + v2))))) 11 (upd (ar 11) (ix v2) ((ar 23) (ix ((40 : Int32) + v2))))) la)) (n := 4) (f := (ar 12)) (ws' := (mC cy ad sc (va_up (va_up (va_up (va_up (va_up (va_up ar 3 (upd (ar 3) (ix v2) ((ar 23) (ix ((24 : Int32) + v2))))) 4 (upd (ar 4) (ix v2) ((ar 23) (ix ((28 : Int32) + v2))))) 5 (upd (ar 5) (ix v2) ((ar 23) (ix ((32 : Int32) + v2))))) 10 (upd (ar 10) (ix v2) ((ar 23) (ix ((36 : Int32) + v2))))) 11 (upd (ar 11) (ix v2) ((ar 23) (ix ((40 : Int32) + v2))))) 12 (upd (ar 12) (ix v2) ((ar 23) (ix ((44 : Int32) + v2))))) la)) C rfl 9 0 mC_get12 rfl hf dX7_again_101 mC_set12 (fun hf => ?_)
      refine tt_aload_n (pc := 102) (k := 0) C dX7_again_102 rfl rfl ?_
      refine tt_get (pc := 103) (ws := (mC cy ad sc (va_up (va_up (va_up (va_up (va_up (va_up ar 3 (upd (ar 3) (ix v2) ((ar 23) (ix ((24 : Int32) + v2))))) 4 (upd (ar 4) (ix v2) ((ar 23) (ix ((28 : Int32) + v2))))) 5 (upd (ar 5) (ix v2) ((ar 23) (ix ((32 : Int32) + v2))))) 10 (upd (ar 10) (ix v2) ((ar 23) (ix ((36 : Int32) + v2))))) 11 (upd (ar 11) (ix v2) ((ar 23) (ix ((40 : Int32) + v2))))) 12 (upd (ar 12) (ix v2) ((ar 23) (ix ((44 : Int32) + v2))))) la)) (ci := 7) (v := .ref (ad 13)) C fiX7 rfl 0 mC_obj 13 (by decide) q4_173 rfl dX7_again_103 ?_
      refine tt_iload_n (pc := 106) (k := 2) C dX7_again_106 rfl rfl ?_
      refine tt_aload_n (pc := 107) (k := 1) C dX7_again_107 rfl rfl ?_
      refine tt_bipush (pc := 108) (v := (48 : Int32)) C dX7_again_108 (by decide) ?_
      refine tt_iload_n (pc := 110) (k := 2) C dX7_again_110 rfl rfl ?_
      refine tt_iadd (pc := 111) C dX7_again_111 ?_
      refine tt_iaload (pc := 112) (ws := (mC cy ad sc (va_up (va_up (va_up (va_up (va_up (va_up ar 3 (upd (ar 3) (ix v2) ((ar 23) (ix ((24 : Int32) + v2))))) 4 (upd (ar 4) (ix v2) ((ar 23) (ix ((28 : Int32) + v2))))) 5 (upd (ar 5) (ix v2) ((ar 23) (ix ((32 : Int32) + v2))))) 10 (upd (ar 10) (ix v2) ((ar 23) (ix ((36 : Int32) + v2))))) 11 (upd (ar 11) (ix v2) ((ar 23) (ix ((40 : Int32) + v2))))) 12 (upd (ar 12) (ix v2) ((ar 23) (ix ((44 : Int32) + v2))))) la)) (n := 150) (f := (ar 23)) C 17 0 mC_get23 rfl hf dX7_again_112 (fun hf => ?_)
      refine tt_iastore (pc := 113) (ws := (mC cy ad sc (va_up (va_up (va_up (va_up (va_up (va_up ar 3 (upd (ar 3) (ix v2) ((ar 23) (ix ((24 : Int32) + v2))))) 4 (upd (ar 4) (ix v2) ((ar 23) (ix ((28 : Int32) + v2))))) 5 (upd (ar 5) (ix v2) ((ar 23) (ix ((32 : Int32) + v2))))) 10 (upd (ar 10) (ix v2) ((ar 23) (ix ((36 : Int32) + v2))))) 11 (upd (ar 11) (ix v2) ((ar 23) (ix ((40 : Int32) + v2))))) 12 (upd (ar 12) (ix v2) ((ar 23) (ix ((44 : Int32) + v2))))) la)) (n := 4) (f := (ar 13)) (ws' := (mC cy ad sc (va_up (va_up (va_up (va_up (va_up (va_up (va_up ar 3 (upd (ar 3) (ix v2) ((ar 23) (ix ((24 : Int32) + v2))))) 4 (upd (ar 4) (ix v2) ((ar 23) (ix ((28 : Int32) + v2))))) 5 (upd (ar 5) (ix v2) ((ar 23) (ix ((32 : Int32) + v2))))) 10 (upd (ar 10) (ix v2) ((ar 23) (ix ((36 : Int32) + v2))))) 11 (upd (ar 11) (ix v2) ((ar 23) (ix ((40 : Int32) + v2))))) 12 (upd (ar 12) (ix v2) ((ar 23) (ix ((44 : Int32) + v2))))) 13 (upd (ar 13) (ix v2) ((ar 23) (ix ((48 : Int32) + v2))))) la)) C rfl 10 0 mC_get13 rfl hf dX7_again_113 mC_set13 (fun hf => ?_)
      refine tt_iinc (pc := 114) (k := 2) (v := (v2 + 1)) (L' := [(2, .int (v2 + 1)), (0, .ref (ad 0)), (1, .ref (ad 23))]) C dX7_again_114 rfl rfl (by decide) rfl ?_
      refine tt_goto (pc := 117) (tgt := 25) C dX7_again_117 (by decide) ?_
      exact tt_locs [1, 2, 0] rfl (ih hf)
set_option maxHeartbeats 4000000 in
set_option maxRecDepth 100000 in
theorem l_X7_again_23_122 {p : Program} {l : Launch} {e : Env} {s : State} {m : MethodId} {args : Array Value} {below : List Frame} {meth : Method} {c : Code} {D : va_G} {cy : Nat → ClassId} {A : Nat → Prop} {Bd : Nat} {xa : Xa} {ad : Nat → Nat} {β : Type} {vO : Option Value} {wO : va_W} {N : Nat} {sc : Nat → Int32} {la : Nat → Nat → Int64} {kx : (Nat → Nat → Int32) → Option (β)} {out : β} (C : CC p s m args meth c cX7_again RX7 3 none D cy A false Bd xa) (hk : ∀ (ar1 : Nat → Nat → Int32), kx ar1 = some out → TT p l e { frames := 0, cells := 0, slots := 0, locals := 0 } s m args below meth c 3 D A false vO wO 157 [(0, .ref (ad 0)), (1, .ref (ad 23))] [] (mC cy ad sc ar1 la)) {n : Nat} {v2 : Int32} {ar : Nat → Nat → Int32} (hf : f_X7_again_23_L122 N sc kx n v2 ar = some out) : TT p l e { frames := 0, cells := 0, slots := 0, locals := 0 } s m args below meth c 3 D A false vO wO 122 [(0, .ref (ad 0)), (1, .ref (ad 23)), (2, .int v2)] [] (mC cy ad sc ar la) := by
  induction n generalizing v2 ar with
  | zero => cases hf
  | succ n ih =>
    rw [f_X7_again_23_L122] at hf
    refine tt_iload_n (pc := 122) (k := 2) C dX7_again_122 rfl rfl ?_
    refine tt_iconst (pc := 123) (v := (5 : Int32)) C dX7_again_123 (by decide) ?_
    refine tt_icmp_ge (pc := 124) (tgt := 157) C dX7_again_124 (by decide) hf (fun hf => ?_) (fun hf => ?_)
    · exact tt_locs [0, 1] rfl (hk _ hf)
    · refine tt_aload_n (pc := 127) (k := 0) C dX7_again_127 rfl rfl ?_
      refine tt_get (pc := 128) (ws := (mC cy ad sc ar la)) (ci := 7) (v := .ref (ad 7)) C fiX7 rfl 0 mC_obj 7 (by decide) q4_167 rfl dX7_again_128 ?_
      refine tt_iload_n (pc := 131) (k := 2) C dX7_again_131 rfl rfl ?_
      refine tt_aload_n (pc := 132) (k := 1) C dX7_again_132 rfl rfl ?_
      refine tt_bipush (pc := 133) (v := (52 : Int32)) C dX7_again_133 (by decide) ?_
      refine tt_iload_n (pc := 135) (k := 2) C dX7_again_135 rfl rfl ?_
      refine tt_iadd (pc := 136) C dX7_again_136 ?_
      refine tt_iaload (pc := 137) (ws := (mC cy ad sc ar la)) (n := 150) (f := (ar 23)) C 17 0 mC_get23 rfl hf dX7_again_137 (fun hf => ?_)
      refine tt_iastore (pc := 138) (ws := (mC cy ad sc ar la)) (n := 5) (f := (ar 7)) (ws' := (mC cy ad sc (va_up ar 7 (upd (ar 7) (ix v2) ((ar 23) (ix ((52 : Int32) + v2))))) la)) C rfl 5 0 mC_get7 rfl hf dX7_again_138 mC_set7 (fun hf => ?_)
      refine tt_aload_n (pc := 139) (k := 0) C dX7_again_139 rfl rfl ?_
      refine tt_get (pc := 140) (ws := (mC cy ad sc (va_up ar 7 (upd (ar 7) (ix v2) ((ar 23) (ix ((52 : Int32) + v2))))) la)) (ci := 7) (v := .ref (ad 8)) C fiX7 rfl 0 mC_obj 8 (by decide) q4_168 rfl dX7_again_140 ?_
      refine tt_iload_n (pc := 143) (k := 2) C dX7_again_143 rfl rfl ?_
      refine tt_aload_n (pc := 144) (k := 1) C dX7_again_144 rfl rfl ?_
      refine tt_bipush (pc := 145) (v := (57 : Int32)) C dX7_again_145 (by decide) ?_
      refine tt_iload_n (pc := 147) (k := 2) C dX7_again_147 rfl rfl ?_
      refine tt_iadd (pc := 148) C dX7_again_148 ?_
      refine tt_iaload (pc := 149) (ws := (mC cy ad sc (va_up ar 7 (upd (ar 7) (ix v2) ((ar 23) (ix ((52 : Int32) + v2))))) la)) (n := 150) (f := (ar 23)) C 17 0 mC_get23 rfl hf dX7_again_149 (fun hf => ?_)
      refine tt_iastore (pc := 150) (ws := (mC cy ad sc (va_up ar 7 (upd (ar 7) (ix v2) ((ar 23) (ix ((52 : Int32) + v2))))) la)) (n := 5) (f := (ar 8)) (ws' := (mC cy ad sc (va_up (va_up ar 7 (upd (ar 7) (ix v2) ((ar 23) (ix ((52 : Int32) + v2))))) 8 (upd (ar 8) (ix v2) ((ar 23) (ix ((57 : Int32) + v2))))) la)) C rfl 6 0 mC_get8 rfl hf dX7_again_150 mC_set8 (fun hf => ?_)
      refine tt_iinc (pc := 151) (k := 2) (v := (v2 + 1)) (L' := [(2, .int (v2 + 1)), (0, .ref (ad 0)), (1, .ref (ad 23))]) C dX7_again_151 rfl rfl (by decide) rfl ?_
      refine tt_goto (pc := 154) (tgt := 122) C dX7_again_154 (by decide) ?_
      exact tt_locs [1, 2, 0] rfl (ih hf)
set_option maxHeartbeats 4000000 in
set_option maxRecDepth 100000 in
theorem l_X7_again_23_159 {p : Program} {l : Launch} {e : Env} {s : State} {m : MethodId} {args : Array Value} {below : List Frame} {meth : Method} {c : Code} {D : va_G} {cy : Nat → ClassId} {A : Nat → Prop} {Bd : Nat} {xa : Xa} {ad : Nat → Nat} {β : Type} {vO : Option Value} {wO : va_W} {N : Nat} {sc : Nat → Int32} {la : Nat → Nat → Int64} {kx : (Nat → Nat → Int32) → Option (β)} {out : β} (C : CC p s m args meth c cX7_again RX7 3 none D cy A false Bd xa) (hk : ∀ (ar1 : Nat → Nat → Int32), kx ar1 = some out → TT p l e { frames := 0, cells := 0, slots := 0, locals := 0 } s m args below meth c 3 D A false vO wO 183 [(0, .ref (ad 0)), (1, .ref (ad 23))] [] (mC cy ad sc ar1 la)) {n : Nat} {v2 : Int32} {ar : Nat → Nat → Int32} (hf : f_X7_again_23_L159 N sc kx n v2 ar = some out) : TT p l e { frames := 0, cells := 0, slots := 0, locals := 0 } s m args below meth c 3 D A false vO wO 159 [(0, .ref (ad 0)), (1, .ref (ad 23)), (2, .int v2)] [] (mC cy ad sc ar la) := by
  induction n generalizing v2 ar with
  | zero => cases hf
  | succ n ih =>
    rw [f_X7_again_23_L159] at hf
    refine tt_iload_n (pc := 159) (k := 2) C dX7_again_159 rfl rfl ?_
    refine tt_bipush (pc := 160) (v := (56 : Int32)) C dX7_again_160 (by decide) ?_
    refine tt_icmp_ge (pc := 162) (tgt := 183) C dX7_again_162 (by decide) hf (fun hf => ?_) (fun hf => ?_)
    · exact tt_locs [0, 1] rfl (hk _ hf)
    · refine tt_aload_n (pc := 165) (k := 0) C dX7_again_165 rfl rfl ?_
      refine tt_get (pc := 166) (ws := (mC cy ad sc ar la)) (ci := 7) (v := .ref (ad 16)) C fiX7 rfl 0 mC_obj 16 (by decide) q4_176 rfl dX7_again_166 ?_
      refine tt_iload_n (pc := 169) (k := 2) C dX7_again_169 rfl rfl ?_
      refine tt_aload_n (pc := 170) (k := 1) C dX7_again_170 rfl rfl ?_
      refine tt_bipush (pc := 171) (v := (62 : Int32)) C dX7_again_171 (by decide) ?_
      refine tt_iload_n (pc := 173) (k := 2) C dX7_again_173 rfl rfl ?_
      refine tt_iadd (pc := 174) C dX7_again_174 ?_
      refine tt_iaload (pc := 175) (ws := (mC cy ad sc ar la)) (n := 150) (f := (ar 23)) C 17 0 mC_get23 rfl hf dX7_again_175 (fun hf => ?_)
      refine tt_iastore (pc := 176) (ws := (mC cy ad sc ar la)) (n := 56) (f := (ar 16)) (ws' := (mC cy ad sc (va_up ar 16 (upd (ar 16) (ix v2) ((ar 23) (ix ((62 : Int32) + v2))))) la)) C rfl 11 0 mC_get16 rfl hf dX7_again_176 mC_set16 (fun hf => ?_)
      refine tt_iinc (pc := 177) (k := 2) (v := (v2 + 1)) (L' := [(2, .int (v2 + 1)), (0, .ref (ad 0)), (1, .ref (ad 23))]) C dX7_again_177 rfl rfl (by decide) rfl ?_
      refine tt_goto (pc := 180) (tgt := 159) C dX7_again_180 (by decide) ?_
      exact tt_locs [1, 2, 0] rfl (ih hf)
set_option maxHeartbeats 4000000 in
set_option maxRecDepth 100000 in
theorem l_X7_again_23_185 {p : Program} {l : Launch} {e : Env} {s : State} {m : MethodId} {args : Array Value} {below : List Frame} {meth : Method} {c : Code} {D : va_G} {cy : Nat → ClassId} {A : Nat → Prop} {Bd : Nat} {xa : Xa} {ad : Nat → Nat} {β : Type} {vO : Option Value} {wO : va_W} {N : Nat} {sc : Nat → Int32} {la : Nat → Nat → Int64} {kx : (Nat → Nat → Int32) → Option (β)} {out : β} (C : CC p s m args meth c cX7_again RX7 3 none D cy A false Bd xa) (hk : ∀ (ar1 : Nat → Nat → Int32), kx ar1 = some out → TT p l e { frames := 0, cells := 0, slots := 0, locals := 0 } s m args below meth c 3 D A false vO wO 221 [(0, .ref (ad 0)), (1, .ref (ad 23))] [] (mC cy ad sc ar1 la)) {n : Nat} {v2 : Int32} {ar : Nat → Nat → Int32} (hf : f_X7_again_23_L185 N sc kx n v2 ar = some out) : TT p l e { frames := 0, cells := 0, slots := 0, locals := 0 } s m args below meth c 3 D A false vO wO 185 [(0, .ref (ad 0)), (1, .ref (ad 23)), (2, .int v2)] [] (mC cy ad sc ar la) := by
  induction n generalizing v2 ar with
  | zero => cases hf
  | succ n ih =>
    rw [f_X7_again_23_L185] at hf
    refine tt_iload_n (pc := 185) (k := 2) C dX7_again_185 rfl rfl ?_
    refine tt_bipush (pc := 186) (v := (8 : Int32)) C dX7_again_186 (by decide) ?_
    refine tt_icmp_ge (pc := 188) (tgt := 221) C dX7_again_188 (by decide) hf (fun hf => ?_) (fun hf => ?_)
    · exact tt_locs [0, 1] rfl (hk _ hf)
    · refine tt_aload_n (pc := 191) (k := 0) C dX7_again_191 rfl rfl ?_
      refine tt_get (pc := 192) (ws := (mC cy ad sc ar la)) (ci := 7) (v := .ref (ad 17)) C fiX7 rfl 0 mC_obj 17 (by decide) q4_177 rfl dX7_again_192 ?_
      refine tt_iload_n (pc := 195) (k := 2) C dX7_again_195 rfl rfl ?_
      refine tt_aload_n (pc := 196) (k := 1) C dX7_again_196 rfl rfl ?_
      refine tt_bipush (pc := 197) (v := (118 : Int32)) C dX7_again_197 (by decide) ?_
      refine tt_iload_n (pc := 199) (k := 2) C dX7_again_199 rfl rfl ?_
      refine tt_iadd (pc := 200) C dX7_again_200 ?_
      refine tt_iaload (pc := 201) (ws := (mC cy ad sc ar la)) (n := 150) (f := (ar 23)) C 17 0 mC_get23 rfl hf dX7_again_201 (fun hf => ?_)
      refine tt_iastore (pc := 202) (ws := (mC cy ad sc ar la)) (n := 8) (f := (ar 17)) (ws' := (mC cy ad sc (va_up ar 17 (upd (ar 17) (ix v2) ((ar 23) (ix ((118 : Int32) + v2))))) la)) C rfl 12 0 mC_get17 rfl hf dX7_again_202 mC_set17 (fun hf => ?_)
      refine tt_aload_n (pc := 203) (k := 0) C dX7_again_203 rfl rfl ?_
      refine tt_get (pc := 204) (ws := (mC cy ad sc (va_up ar 17 (upd (ar 17) (ix v2) ((ar 23) (ix ((118 : Int32) + v2))))) la)) (ci := 7) (v := .ref (ad 18)) C fiX7 rfl 0 mC_obj 18 (by decide) q4_178 rfl dX7_again_204 ?_
      refine tt_iload_n (pc := 207) (k := 2) C dX7_again_207 rfl rfl ?_
      refine tt_aload_n (pc := 208) (k := 1) C dX7_again_208 rfl rfl ?_
      refine tt_bipush (pc := 209) (v := (126 : Int32)) C dX7_again_209 (by decide) ?_
      refine tt_iload_n (pc := 211) (k := 2) C dX7_again_211 rfl rfl ?_
      refine tt_iadd (pc := 212) C dX7_again_212 ?_
      refine tt_iaload (pc := 213) (ws := (mC cy ad sc (va_up ar 17 (upd (ar 17) (ix v2) ((ar 23) (ix ((118 : Int32) + v2))))) la)) (n := 150) (f := (ar 23)) C 17 0 mC_get23 rfl hf dX7_again_213 (fun hf => ?_)
      refine tt_iastore (pc := 214) (ws := (mC cy ad sc (va_up ar 17 (upd (ar 17) (ix v2) ((ar 23) (ix ((118 : Int32) + v2))))) la)) (n := 8) (f := (ar 18)) (ws' := (mC cy ad sc (va_up (va_up ar 17 (upd (ar 17) (ix v2) ((ar 23) (ix ((118 : Int32) + v2))))) 18 (upd (ar 18) (ix v2) ((ar 23) (ix ((126 : Int32) + v2))))) la)) C rfl 13 0 mC_get18 rfl hf dX7_again_214 mC_set18 (fun hf => ?_)
      refine tt_iinc (pc := 215) (k := 2) (v := (v2 + 1)) (L' := [(2, .int (v2 + 1)), (0, .ref (ad 0)), (1, .ref (ad 23))]) C dX7_again_215 rfl rfl (by decide) rfl ?_
      refine tt_goto (pc := 218) (tgt := 185) C dX7_again_218 (by decide) ?_
      exact tt_locs [1, 2, 0] rfl (ih hf)
set_option maxHeartbeats 4000000 in
set_option maxRecDepth 100000 in
theorem k_X7_again_23 {l : Launch} {D : va_G} {cy : Nat → ClassId} {Bd : Nat} {xa : Xa} {ad : Nat → Nat} {N : Nat} {sc : Nat → Int32} {ar : Nat → Nat → Int32} {la : Nat → Nat → Int64} {out : (Nat → Int32) × (Nat → Nat → Int32)} (hf : f_X7_again_23 N sc ar = some out) : KC l yX7_again cX7_again 3 none 0 0 false D cy Bd xa [.ref (ad 0), .ref (ad 23)] (mC cy ad sc ar la) none (mC cy ad out.1 out.2 la) := by
  refine kc_start (own := RX7) (by decide +kernel) rfl (Nat.le_of_ble_eq_true rfl) ?_
  intro p e s m args below meth c A C
  unfold f_X7_again_23 at hf
  refine tt_locs (L' := [(0, .ref (ad 0)), (1, .ref (ad 23))]) [0, 1] rfl ?_
  refine tt_iconst (pc := 0) (v := (0 : Int32)) C dX7_again_0 (by decide) ?_
  refine tt_istore_n (pc := 1) (L' := [(2, .int (0 : Int32)), (0, .ref (ad 0)), (1, .ref (ad 23))]) C dX7_again_1 rfl (by decide) rfl ?_
  refine tt_locs (L' := [(0, .ref (ad 0)), (1, .ref (ad 23)), (2, .int (0 : Int32))]) [1, 2, 0] rfl (l_X7_again_23_2 C (fun t1 hf => ?_) hf)
  refine tt_iconst (pc := 23) (v := (0 : Int32)) C dX7_again_23 (by decide) ?_
  refine tt_istore_n (pc := 24) (L' := [(2, .int (0 : Int32)), (0, .ref (ad 0)), (1, .ref (ad 23))]) C dX7_again_24 rfl (by decide) rfl ?_
  refine tt_locs (L' := [(0, .ref (ad 0)), (1, .ref (ad 23)), (2, .int (0 : Int32))]) [1, 2, 0] rfl (l_X7_again_23_25 C (fun t2 hf => ?_) hf)
  refine tt_iconst (pc := 120) (v := (0 : Int32)) C dX7_again_120 (by decide) ?_
  refine tt_istore_n (pc := 121) (L' := [(2, .int (0 : Int32)), (0, .ref (ad 0)), (1, .ref (ad 23))]) C dX7_again_121 rfl (by decide) rfl ?_
  refine tt_locs (L' := [(0, .ref (ad 0)), (1, .ref (ad 23)), (2, .int (0 : Int32))]) [1, 2, 0] rfl (l_X7_again_23_122 C (fun t3 hf => ?_) hf)
  refine tt_iconst (pc := 157) (v := (0 : Int32)) C dX7_again_157 (by decide) ?_
  refine tt_istore_n (pc := 158) (L' := [(2, .int (0 : Int32)), (0, .ref (ad 0)), (1, .ref (ad 23))]) C dX7_again_158 rfl (by decide) rfl ?_
  refine tt_locs (L' := [(0, .ref (ad 0)), (1, .ref (ad 23)), (2, .int (0 : Int32))]) [1, 2, 0] rfl (l_X7_again_23_159 C (fun t4 hf => ?_) hf)
  refine tt_iconst (pc := 183) (v := (0 : Int32)) C dX7_again_183 (by decide) ?_
  refine tt_istore_n (pc := 184) (L' := [(2, .int (0 : Int32)), (0, .ref (ad 0)), (1, .ref (ad 23))]) C dX7_again_184 rfl (by decide) rfl ?_
  refine tt_locs (L' := [(0, .ref (ad 0)), (1, .ref (ad 23)), (2, .int (0 : Int32))]) [1, 2, 0] rfl (l_X7_again_23_185 C (fun t5 hf => ?_) hf)
  refine tt_aload_n (pc := 221) (k := 0) C dX7_again_221 rfl rfl ?_
  refine tt_aload_n (pc := 222) (k := 1) C dX7_again_222 rfl rfl ?_
  refine tt_sipush (pc := 223) (v := (134 : Int32)) C dX7_again_223 (by decide) ?_
  refine tt_iaload (pc := 226) (ws := (mC cy ad sc t5 la)) (n := 150) (f := (t5 23)) C 17 0 mC_get23 rfl hf dX7_again_226 (fun hf => ?_)
  refine tt_put (pc := 227) (ws := (mC cy ad sc t5 la)) (ci := 7) (ty := .int) (ws' := (mC cy ad (upd sc 0 ((t5 23) (ix (134 : Int32)))) t5 la)) C rfl fiX7 rfl 0 mC_obj 0 (by decide) q4_160 rfl rfl rfl rfl (Nat.le_of_ble_eq_true rfl) dX7_again_227 mC_put0 ?_
  refine tt_aload_n (pc := 230) (k := 0) C dX7_again_230 rfl rfl ?_
  refine tt_aload_n (pc := 231) (k := 1) C dX7_again_231 rfl rfl ?_
  refine tt_sipush (pc := 232) (v := (135 : Int32)) C dX7_again_232 (by decide) ?_
  refine tt_iaload (pc := 235) (ws := (mC cy ad (upd sc 0 ((t5 23) (ix (134 : Int32)))) t5 la)) (n := 150) (f := (t5 23)) C 17 0 mC_get23 rfl hf dX7_again_235 (fun hf => ?_)
  refine tt_put (pc := 236) (ws := (mC cy ad (upd sc 0 ((t5 23) (ix (134 : Int32)))) t5 la)) (ci := 7) (ty := .int) (ws' := (mC cy ad (upd (upd sc 0 ((t5 23) (ix (134 : Int32)))) 2 ((t5 23) (ix (135 : Int32)))) t5 la)) C rfl fiX7 rfl 0 mC_obj 2 (by decide) q4_162 rfl rfl rfl rfl (Nat.le_of_ble_eq_true rfl) dX7_again_236 mC_put2 ?_
  refine tt_aload_n (pc := 239) (k := 0) C dX7_again_239 rfl rfl ?_
  refine tt_aload_n (pc := 240) (k := 1) C dX7_again_240 rfl rfl ?_
  refine tt_sipush (pc := 241) (v := (136 : Int32)) C dX7_again_241 (by decide) ?_
  refine tt_iaload (pc := 244) (ws := (mC cy ad (upd (upd sc 0 ((t5 23) (ix (134 : Int32)))) 2 ((t5 23) (ix (135 : Int32)))) t5 la)) (n := 150) (f := (t5 23)) C 17 0 mC_get23 rfl hf dX7_again_244 (fun hf => ?_)
  refine tt_put (pc := 245) (ws := (mC cy ad (upd (upd sc 0 ((t5 23) (ix (134 : Int32)))) 2 ((t5 23) (ix (135 : Int32)))) t5 la)) (ci := 7) (ty := .int) (ws' := (mC cy ad (upd (upd (upd sc 0 ((t5 23) (ix (134 : Int32)))) 2 ((t5 23) (ix (135 : Int32)))) 6 ((t5 23) (ix (136 : Int32)))) t5 la)) C rfl fiX7 rfl 0 mC_obj 6 (by decide) q4_166 rfl rfl rfl rfl (Nat.le_of_ble_eq_true rfl) dX7_again_245 mC_put6 ?_
  refine tt_aload_n (pc := 248) (k := 0) C dX7_again_248 rfl rfl ?_
  refine tt_aload_n (pc := 249) (k := 1) C dX7_again_249 rfl rfl ?_
  refine tt_sipush (pc := 250) (v := (137 : Int32)) C dX7_again_250 (by decide) ?_
  refine tt_iaload (pc := 253) (ws := (mC cy ad (upd (upd (upd sc 0 ((t5 23) (ix (134 : Int32)))) 2 ((t5 23) (ix (135 : Int32)))) 6 ((t5 23) (ix (136 : Int32)))) t5 la)) (n := 150) (f := (t5 23)) C 17 0 mC_get23 rfl hf dX7_again_253 (fun hf => ?_)
  refine tt_put (pc := 254) (ws := (mC cy ad (upd (upd (upd sc 0 ((t5 23) (ix (134 : Int32)))) 2 ((t5 23) (ix (135 : Int32)))) 6 ((t5 23) (ix (136 : Int32)))) t5 la)) (ci := 7) (ty := .int) (ws' := (mC cy ad (upd (upd (upd (upd sc 0 ((t5 23) (ix (134 : Int32)))) 2 ((t5 23) (ix (135 : Int32)))) 6 ((t5 23) (ix (136 : Int32)))) 9 ((t5 23) (ix (137 : Int32)))) t5 la)) C rfl fiX7 rfl 0 mC_obj 9 (by decide) q4_169 rfl rfl rfl rfl (Nat.le_of_ble_eq_true rfl) dX7_again_254 mC_put9 ?_
  refine tt_aload_n (pc := 257) (k := 0) C dX7_again_257 rfl rfl ?_
  refine tt_aload_n (pc := 258) (k := 1) C dX7_again_258 rfl rfl ?_
  refine tt_sipush (pc := 259) (v := (138 : Int32)) C dX7_again_259 (by decide) ?_
  refine tt_iaload (pc := 262) (ws := (mC cy ad (upd (upd (upd (upd sc 0 ((t5 23) (ix (134 : Int32)))) 2 ((t5 23) (ix (135 : Int32)))) 6 ((t5 23) (ix (136 : Int32)))) 9 ((t5 23) (ix (137 : Int32)))) t5 la)) (n := 150) (f := (t5 23)) C 17 0 mC_get23 rfl hf dX7_again_262 (fun hf => ?_)
  refine tt_put (pc := 263) (ws := (mC cy ad (upd (upd (upd (upd sc 0 ((t5 23) (ix (134 : Int32)))) 2 ((t5 23) (ix (135 : Int32)))) 6 ((t5 23) (ix (136 : Int32)))) 9 ((t5 23) (ix (137 : Int32)))) t5 la)) (ci := 7) (ty := .int) (ws' := (mC cy ad (upd (upd (upd (upd (upd sc 0 ((t5 23) (ix (134 : Int32)))) 2 ((t5 23) (ix (135 : Int32)))) 6 ((t5 23) (ix (136 : Int32)))) 9 ((t5 23) (ix (137 : Int32)))) 14 ((t5 23) (ix (138 : Int32)))) t5 la)) C rfl fiX7 rfl 0 mC_obj 14 (by decide) q4_174 rfl rfl rfl rfl (Nat.le_of_ble_eq_true rfl) dX7_again_263 mC_put14 ?_
  refine tt_aload_n (pc := 266) (k := 0) C dX7_again_266 rfl rfl ?_
  refine tt_aload_n (pc := 267) (k := 1) C dX7_again_267 rfl rfl ?_
  refine tt_sipush (pc := 268) (v := (139 : Int32)) C dX7_again_268 (by decide) ?_
  refine tt_iaload (pc := 271) (ws := (mC cy ad (upd (upd (upd (upd (upd sc 0 ((t5 23) (ix (134 : Int32)))) 2 ((t5 23) (ix (135 : Int32)))) 6 ((t5 23) (ix (136 : Int32)))) 9 ((t5 23) (ix (137 : Int32)))) 14 ((t5 23) (ix (138 : Int32)))) t5 la)) (n := 150) (f := (t5 23)) C 17 0 mC_get23 rfl hf dX7_again_271 (fun hf => ?_)
  refine tt_put (pc := 272) (ws := (mC cy ad (upd (upd (upd (upd (upd sc 0 ((t5 23) (ix (134 : Int32)))) 2 ((t5 23) (ix (135 : Int32)))) 6 ((t5 23) (ix (136 : Int32)))) 9 ((t5 23) (ix (137 : Int32)))) 14 ((t5 23) (ix (138 : Int32)))) t5 la)) (ci := 7) (ty := .int) (ws' := (mC cy ad (upd (upd (upd (upd (upd (upd sc 0 ((t5 23) (ix (134 : Int32)))) 2 ((t5 23) (ix (135 : Int32)))) 6 ((t5 23) (ix (136 : Int32)))) 9 ((t5 23) (ix (137 : Int32)))) 14 ((t5 23) (ix (138 : Int32)))) 15 ((t5 23) (ix (139 : Int32)))) t5 la)) C rfl fiX7 rfl 0 mC_obj 15 (by decide) q4_175 rfl rfl rfl rfl (Nat.le_of_ble_eq_true rfl) dX7_again_272 mC_put15 ?_
  obtain rfl := Option.some.inj hf
  exact tt_vreturn (pc := 275) C rfl rfl rfl dX7_again_275
theorem dX7_far_0 : decode cX7_far 0 = .ok (.ldc2_w 96, 3) := by decide +kernel
theorem dX7_far_3 : decode cX7_far 3 = .ok (.aload_n 0, 1) := by decide +kernel
theorem dX7_far_4 : decode cX7_far 4 = .ok (.iload_n 1, 1) := by decide +kernel
theorem dX7_far_5 : decode cX7_far 5 = .ok (.invokevirtual 98, 3) := by decide +kernel
theorem dX7_far_8 : decode cX7_far 8 = .ok (.i2l, 1) := by decide +kernel
theorem dX7_far_9 : decode cX7_far 9 = .ok (.lsub, 1) := by decide +kernel
theorem dX7_far_10 : decode cX7_far 10 = .ok (.lreturn, 1) := by decide +kernel
set_option maxHeartbeats 4000000 in
set_option maxRecDepth 100000 in
theorem k_X7_far {l : Launch} {D : va_G} {cy : Nat → ClassId} {Bd : Nat} {xa : Xa} {ad : Nat → Nat} {N : Nat} {sc : Nat → Int32} {ar : Nat → Nat → Int32} {la : Nat → Nat → Int64} {a1 : Int32} {out : Int64 × (Nat → Nat → Int32)} (hf : f_X7_far N ar a1 = some out) : KC l yX7_far cX7_far 2 (some .long) 1 21 false D cy Bd xa [.ref (ad 0), .int a1] (mC cy ad sc ar la) (some (.long out.1)) (mC cy ad sc out.2 la) := by
  refine kc_start (own := RX7) (by decide +kernel) rfl (Nat.le_of_ble_eq_true rfl) ?_
  intro p e s m args below meth c A C
  unfold f_X7_far at hf
  refine tt_locs (L' := [(0, .ref (ad 0)), (1, .int a1)]) [0, 1] rfl ?_
  refine tt_ldc2 (pc := 0) (v := (4000000000000000000 : Int64)) C dX7_far_0 q5_231 ?_
  refine tt_aload_n (pc := 3) (k := 0) C dX7_far_3 rfl rfl ?_
  refine tt_iload_n (pc := 4) (k := 1) C dX7_far_4 rfl rfl ?_
  obtain ⟨r1, hr1, hf⟩ := bind_some hf
  refine tt_callM (pc := 5) (ws := (mC cy ad sc ar la)) (q0 := 0) (ci := 7) (rest := [.long (4000000000000000000 : Int64)]) (st' := [.int r1.1, .long (4000000000000000000 : Int64)]) C rfl (k_X7_no hr1) okX7_no q5_36 rfl mC_obj rfl rfl rfl (Nat.le_of_ble_eq_true rfl) ⟨Nat.le_of_ble_eq_true rfl, Nat.le_of_ble_eq_true rfl⟩ dX7_far_5 ?_
  refine tt_i2l (pc := 8) C dX7_far_8 ?_
  refine tt_lsub (pc := 9) C dX7_far_9 ?_
  obtain rfl := Option.some.inj hf
  exact tt_lreturn (pc := 10) C rfl rfl rfl dX7_far_10
theorem dX7_freed_0 : decode cX7_freed 0 = .ok (.aload_n 0, 1) := by decide +kernel
theorem dX7_freed_1 : decode cX7_freed 1 = .ok (.iload_n 1, 1) := by decide +kernel
theorem dX7_freed_2 : decode cX7_freed 2 = .ok (.invokevirtual 125, 3) := by decide +kernel
theorem dX7_freed_5 : decode cX7_freed 5 = .ok (.ifCond .ne 9, 3) := by decide +kernel
theorem dX7_freed_8 : decode cX7_freed 8 = .ok (.aload_n 0, 1) := by decide +kernel
theorem dX7_freed_9 : decode cX7_freed 9 = .ok (.iconst (-1), 1) := by decide +kernel
theorem dX7_freed_10 : decode cX7_freed 10 = .ok (.invokevirtual 214, 3) := by decide +kernel
theorem dX7_freed_13 : decode cX7_freed 13 = .ok (.lreturn, 1) := by decide +kernel
theorem dX7_freed_14 : decode cX7_freed 14 = .ok (.aload_n 0, 1) := by decide +kernel
theorem dX7_freed_15 : decode cX7_freed 15 = .ok (.invokevirtual 218, 3) := by decide +kernel
theorem dX7_freed_18 : decode cX7_freed 18 = .ok (.istore_n 2, 1) := by decide +kernel
theorem dX7_freed_19 : decode cX7_freed 19 = .ok (.aload_n 0, 1) := by decide +kernel
theorem dX7_freed_20 : decode cX7_freed 20 = .ok (.aload_n 0, 1) := by decide +kernel
theorem dX7_freed_21 : decode cX7_freed 21 = .ok (.getfield 65, 3) := by decide +kernel
theorem dX7_freed_24 : decode cX7_freed 24 = .ok (.invokevirtual 221, 3) := by decide +kernel
theorem dX7_freed_27 : decode cX7_freed 27 = .ok (.aload_n 0, 1) := by decide +kernel
theorem dX7_freed_28 : decode cX7_freed 28 = .ok (.iload_n 1, 1) := by decide +kernel
theorem dX7_freed_29 : decode cX7_freed 29 = .ok (.invokevirtual 225, 3) := by decide +kernel
theorem dX7_freed_32 : decode cX7_freed 32 = .ok (.pop, 1) := by decide +kernel
theorem dX7_freed_33 : decode cX7_freed 33 = .ok (.aload_n 0, 1) := by decide +kernel
theorem dX7_freed_34 : decode cX7_freed 34 = .ok (.invokevirtual 218, 3) := by decide +kernel
theorem dX7_freed_37 : decode cX7_freed 37 = .ok (.istore_n 3, 1) := by decide +kernel
theorem dX7_freed_38 : decode cX7_freed 38 = .ok (.aload_n 0, 1) := by decide +kernel
theorem dX7_freed_39 : decode cX7_freed 39 = .ok (.aload_n 0, 1) := by decide +kernel
theorem dX7_freed_40 : decode cX7_freed 40 = .ok (.getfield 65, 3) := by decide +kernel
theorem dX7_freed_43 : decode cX7_freed 43 = .ok (.invokevirtual 228, 3) := by decide +kernel
theorem dX7_freed_46 : decode cX7_freed 46 = .ok (.iload_n 3, 1) := by decide +kernel
theorem dX7_freed_47 : decode cX7_freed 47 = .ok (.iload_n 2, 1) := by decide +kernel
theorem dX7_freed_48 : decode cX7_freed 48 = .ok (.isub, 1) := by decide +kernel
theorem dX7_freed_49 : decode cX7_freed 49 = .ok (.i2l, 1) := by decide +kernel
theorem dX7_freed_50 : decode cX7_freed 50 = .ok (.lreturn, 1) := by decide +kernel
set_option maxHeartbeats 4000000 in
set_option maxRecDepth 100000 in
theorem k_X7_freed {l : Launch} {D : va_G} {cy : Nat → ClassId} {Bd : Nat} {xa : Xa} {ad : Nat → Nat} {N : Nat} {sc : Nat → Int32} {ar : Nat → Nat → Int32} {la : Nat → Nat → Int64} {a1 : Int32} {out : Int64 × (Nat → Int32) × (Nat → Nat → Int32)} (hf : f_X7_freed N sc ar a1 = some out) : KC l yX7_freed cX7_freed 4 (some .long) 7 171 false D cy Bd xa [.ref (ad 0), .int a1] (mC cy ad sc ar la) (some (.long out.1)) (mC cy ad out.2.1 out.2.2 la) := by
  refine kc_start (own := RX7) (by decide +kernel) rfl (Nat.le_of_ble_eq_true rfl) ?_
  intro p e s m args below meth c A C
  unfold f_X7_freed at hf
  refine tt_locs (L' := [(0, .ref (ad 0)), (1, .int a1)]) [0, 1] rfl ?_
  refine tt_aload_n (pc := 0) (k := 0) C dX7_freed_0 rfl rfl ?_
  refine tt_iload_n (pc := 1) (k := 1) C dX7_freed_1 rfl rfl ?_
  obtain ⟨r1, hr1, hf⟩ := bind_some hf
  refine tt_callR (pc := 2) (ws := (mC cy ad sc ar la)) (q0 := 0) (ci := 7) (rest := []) (st' := [.int r1]) C (k_X7_isBridge hr1) okX7_isBridge q5_63 rfl mC_obj (fun _ h => h) rfl rfl rfl (Nat.le_of_ble_eq_true rfl) ⟨Nat.le_of_ble_eq_true rfl, Nat.le_of_ble_eq_true rfl⟩ dX7_freed_2 ?_
  refine tt_if_ne (pc := 5) (tgt := 14) C dX7_freed_5 (by decide) hf (fun hf => ?_) (fun hf => ?_)
  · refine tt_aload_n (pc := 14) (k := 0) C dX7_freed_14 rfl rfl ?_
    obtain ⟨r2, hr2, hf⟩ := bind_some hf
    refine tt_callR (pc := 15) (ws := (mC cy ad sc ar la)) (q0 := 0) (ci := 7) (rest := []) (st' := [.int r2]) C (k_X7_keptMany hr2) okX7_keptMany q5_232 rfl mC_obj (fun _ h => h) rfl rfl rfl (Nat.le_of_ble_eq_true rfl) ⟨Nat.le_of_ble_eq_true rfl, Nat.le_of_ble_eq_true rfl⟩ dX7_freed_15 ?_
    refine tt_istore_n (pc := 18) (L' := [(2, .int r2), (0, .ref (ad 0)), (1, .int a1)]) C dX7_freed_18 rfl (by decide) rfl ?_
    refine tt_aload_n (pc := 19) (k := 1) C dX7_freed_19 rfl rfl ?_
    refine tt_aload_n (pc := 20) (k := 1) C dX7_freed_20 rfl rfl ?_
    refine tt_get (pc := 21) (ws := (mC cy ad sc ar la)) (ci := 7) (v := .ref (ad 23)) C fiX7 rfl 0 mC_obj 23 (by decide) q4_183 rfl dX7_freed_21 ?_
    obtain ⟨r3, hr3, hf⟩ := bind_some hf
    refine tt_callM (pc := 24) (ws := (mC cy ad sc ar la)) (q0 := 0) (ci := 7) (rest := []) (st' := []) C rfl (k_X7_keeps_23 hr3) okX7_keeps q5_236 rfl mC_obj rfl rfl rfl (Nat.le_of_ble_eq_true rfl) ⟨Nat.le_of_ble_eq_true rfl, Nat.le_of_ble_eq_true rfl⟩ dX7_freed_24 ?_
    refine tt_aload_n (pc := 27) (k := 1) C dX7_freed_27 rfl rfl ?_
    refine tt_iload_n (pc := 28) (k := 2) C dX7_freed_28 rfl rfl ?_
    obtain ⟨r4, hr4, hf⟩ := bind_some hf
    refine tt_callM (pc := 29) (ws := (mC cy ad sc r3 la)) (q0 := 0) (ci := 7) (rest := []) (st' := [.int r4.1]) C rfl (k_X7_fells hr4) okX7_fells q6_0 rfl mC_obj rfl rfl rfl (Nat.le_of_ble_eq_true rfl) ⟨Nat.le_of_ble_eq_true rfl, Nat.le_of_ble_eq_true rfl⟩ dX7_freed_29 ?_
    refine tt_pop (pc := 32) C dX7_freed_32 rfl ?_
    refine tt_aload_n (pc := 33) (k := 1) C dX7_freed_33 rfl rfl ?_
    obtain ⟨r5, hr5, hf⟩ := bind_some hf
    refine tt_callR (pc := 34) (ws := (mC cy ad r4.2.1 r4.2.2 la)) (q0 := 0) (ci := 7) (rest := []) (st' := [.int r5]) C (k_X7_keptMany hr5) okX7_keptMany q5_232 rfl mC_obj (fun _ h => h) rfl rfl rfl (Nat.le_of_ble_eq_true rfl) ⟨Nat.le_of_ble_eq_true rfl, Nat.le_of_ble_eq_true rfl⟩ dX7_freed_34 ?_
    refine tt_istore_n (pc := 37) (L' := [(3, .int r5), (2, .int r2), (0, .ref (ad 0)), (1, .int a1)]) C dX7_freed_37 rfl (by decide) rfl ?_
    refine tt_aload_n (pc := 38) (k := 2) C dX7_freed_38 rfl rfl ?_
    refine tt_aload_n (pc := 39) (k := 2) C dX7_freed_39 rfl rfl ?_
    refine tt_get (pc := 40) (ws := (mC cy ad r4.2.1 r4.2.2 la)) (ci := 7) (v := .ref (ad 23)) C fiX7 rfl 0 mC_obj 23 (by decide) q4_183 rfl dX7_freed_40 ?_
    obtain ⟨r6, hr6, hf⟩ := bind_some hf
    refine tt_callM (pc := 43) (ws := (mC cy ad r4.2.1 r4.2.2 la)) (q0 := 0) (ci := 7) (rest := []) (st' := []) C rfl (k_X7_again_23 hr6) okX7_again q6_1 rfl mC_obj rfl rfl rfl (Nat.le_of_ble_eq_true rfl) ⟨Nat.le_of_ble_eq_true rfl, Nat.le_of_ble_eq_true rfl⟩ dX7_freed_43 ?_
    refine tt_iload_n (pc := 46) (k := 0) C dX7_freed_46 rfl rfl ?_
    refine tt_iload_n (pc := 47) (k := 1) C dX7_freed_47 rfl rfl ?_
    refine tt_isub (pc := 48) C dX7_freed_48 ?_
    refine tt_i2l (pc := 49) C dX7_freed_49 ?_
    obtain rfl := Option.some.inj hf
    exact tt_lreturn (pc := 50) C rfl rfl rfl dX7_freed_50
  · refine tt_aload_n (pc := 8) (k := 0) C dX7_freed_8 rfl rfl ?_
    refine tt_iconst (pc := 9) (v := (-1 : Int32)) C dX7_freed_9 (by decide) ?_
    obtain ⟨r7, hr7, hf⟩ := bind_some hf
    refine tt_callM (pc := 10) (ws := (mC cy ad sc ar la)) (q0 := 0) (ci := 7) (rest := []) (st' := [.long r7.1]) C rfl (k_X7_far hr7) okX7_far q5_227 rfl mC_obj rfl rfl rfl (Nat.le_of_ble_eq_true rfl) ⟨Nat.le_of_ble_eq_true rfl, Nat.le_of_ble_eq_true rfl⟩ dX7_freed_10 ?_
    obtain rfl := Option.some.inj hf
    exact tt_lreturn (pc := 13) C rfl rfl rfl dX7_freed_13
theorem dX7_worst_0 : decode cX7_worst 0 = .ok (.bipush (-9), 2) := by decide +kernel
theorem dX7_worst_2 : decode cX7_worst 2 = .ok (.istore_n 1, 1) := by decide +kernel
theorem dX7_worst_3 : decode cX7_worst 3 = .ok (.iconst 0, 1) := by decide +kernel
theorem dX7_worst_4 : decode cX7_worst 4 = .ok (.istore_n 2, 1) := by decide +kernel
theorem dX7_worst_5 : decode cX7_worst 5 = .ok (.iconst 0, 1) := by decide +kernel
theorem dX7_worst_6 : decode cX7_worst 6 = .ok (.istore_n 3, 1) := by decide +kernel
theorem dX7_worst_7 : decode cX7_worst 7 = .ok (.iload_n 3, 1) := by decide +kernel
theorem dX7_worst_8 : decode cX7_worst 8 = .ok (.aload_n 0, 1) := by decide +kernel
theorem dX7_worst_9 : decode cX7_worst 9 = .ok (.getfield 109, 3) := by decide +kernel
theorem dX7_worst_12 : decode cX7_worst 12 = .ok (.if_icmp .ge 59, 3) := by decide +kernel
theorem dX7_worst_15 : decode cX7_worst 15 = .ok (.iconst 0, 1) := by decide +kernel
theorem dX7_worst_16 : decode cX7_worst 16 = .ok (.istore 4, 2) := by decide +kernel
theorem dX7_worst_18 : decode cX7_worst 18 = .ok (.iload 4, 2) := by decide +kernel
theorem dX7_worst_20 : decode cX7_worst 20 = .ok (.aload_n 0, 1) := by decide +kernel
theorem dX7_worst_21 : decode cX7_worst 21 = .ok (.getfield 112, 3) := by decide +kernel
theorem dX7_worst_24 : decode cX7_worst 24 = .ok (.if_icmp .ge 41, 3) := by decide +kernel
theorem dX7_worst_27 : decode cX7_worst 27 = .ok (.aload_n 0, 1) := by decide +kernel
theorem dX7_worst_28 : decode cX7_worst 28 = .ok (.iload 4, 2) := by decide +kernel
theorem dX7_worst_30 : decode cX7_worst 30 = .ok (.iload_n 3, 1) := by decide +kernel
theorem dX7_worst_31 : decode cX7_worst 31 = .ok (.invokevirtual 179, 3) := by decide +kernel
theorem dX7_worst_34 : decode cX7_worst 34 = .ok (.istore 5, 2) := by decide +kernel
theorem dX7_worst_36 : decode cX7_worst 36 = .ok (.iload_n 1, 1) := by decide +kernel
theorem dX7_worst_37 : decode cX7_worst 37 = .ok (.bipush (-9), 2) := by decide +kernel
theorem dX7_worst_39 : decode cX7_worst 39 = .ok (.if_icmp .eq 9, 3) := by decide +kernel
theorem dX7_worst_42 : decode cX7_worst 42 = .ok (.iload 5, 2) := by decide +kernel
theorem dX7_worst_44 : decode cX7_worst 44 = .ok (.iload_n 2, 1) := by decide +kernel
theorem dX7_worst_45 : decode cX7_worst 45 = .ok (.if_icmp .ge 14, 3) := by decide +kernel
theorem dX7_worst_48 : decode cX7_worst 48 = .ok (.bipush 10, 2) := by decide +kernel
theorem dX7_worst_50 : decode cX7_worst 50 = .ok (.iload_n 3, 1) := by decide +kernel
theorem dX7_worst_51 : decode cX7_worst 51 = .ok (.imul, 1) := by decide +kernel
theorem dX7_worst_52 : decode cX7_worst 52 = .ok (.iload 4, 2) := by decide +kernel
theorem dX7_worst_54 : decode cX7_worst 54 = .ok (.iadd, 1) := by decide +kernel
theorem dX7_worst_55 : decode cX7_worst 55 = .ok (.istore_n 1, 1) := by decide +kernel
theorem dX7_worst_56 : decode cX7_worst 56 = .ok (.iload 5, 2) := by decide +kernel
theorem dX7_worst_58 : decode cX7_worst 58 = .ok (.istore_n 2, 1) := by decide +kernel
theorem dX7_worst_59 : decode cX7_worst 59 = .ok (.iinc 4 1, 3) := by decide +kernel
theorem dX7_worst_62 : decode cX7_worst 62 = .ok (.goto (-44), 3) := by decide +kernel
theorem dX7_worst_65 : decode cX7_worst 65 = .ok (.iinc 3 1, 3) := by decide +kernel
theorem dX7_worst_68 : decode cX7_worst 68 = .ok (.goto (-61), 3) := by decide +kernel
theorem dX7_worst_71 : decode cX7_worst 71 = .ok (.iload_n 1, 1) := by decide +kernel
theorem dX7_worst_72 : decode cX7_worst 72 = .ok (.ireturn, 1) := by decide +kernel
set_option maxHeartbeats 4000000 in
set_option maxRecDepth 100000 in
theorem l_X7_worst_18 {p : Program} {l : Launch} {e : Env} {s : State} {m : MethodId} {args : Array Value} {below : List Frame} {meth : Method} {c : Code} {D : va_G} {cy : Nat → ClassId} {A : Nat → Prop} {Bd : Nat} {xa : Xa} {ad : Nat → Nat} {β : Type} {vO : Option Value} {wO : va_W} {N : Nat} {sc : Nat → Int32} {ar : Nat → Nat → Int32} {la : Nat → Nat → Int64} {v3 : Int32} {kx : Int32 → Int32 → Option (β)} {out : β} (C : CC p s m args meth c cX7_worst RX7 6 (some .int) D cy A true Bd xa) (hk : ∀ (x1 : Int32) (x2 : Int32), kx x1 x2 = some out → TT p l e { frames := 5, cells := 0, slots := 0, locals := 126 } s m args below meth c 6 D A true vO wO 65 [(0, .ref (ad 0)), (1, .int x1), (2, .int x2), (3, .int v3)] [] (mC cy ad sc ar la)) {n : Nat} {v1 : Int32} {v2 : Int32} {v4 : Int32} (hf : f_X7_worst_L18 N sc ar v3 kx n v1 v2 v4 = some out) : TT p l e { frames := 5, cells := 0, slots := 0, locals := 126 } s m args below meth c 6 D A true vO wO 18 [(0, .ref (ad 0)), (1, .int v1), (2, .int v2), (3, .int v3), (4, .int v4)] [] (mC cy ad sc ar la) := by
  induction n generalizing v1 v2 v4 with
  | zero => cases hf
  | succ n ih =>
    rw [f_X7_worst_L18] at hf
    refine tt_iload (pc := 18) (k := 4) C dX7_worst_18 rfl ?_
    refine tt_aload_n (pc := 20) (k := 0) C dX7_worst_20 rfl rfl ?_
    refine tt_get (pc := 21) (ws := (mC cy ad sc ar la)) (ci := 7) (v := .int (sc 9)) C fiX7 rfl 0 mC_obj 9 (by decide) q4_169 rfl dX7_worst_21 ?_
    refine tt_icmp_ge (pc := 24) (tgt := 65) C dX7_worst_24 (by decide) hf (fun hf => ?_) (fun hf => ?_)
    · exact tt_locs [0, 1, 2, 3] rfl (hk _ _ hf)
    · refine tt_aload_n (pc := 27) (k := 0) C dX7_worst_27 rfl rfl ?_
      refine tt_iload (pc := 28) (k := 4) C dX7_worst_28 rfl ?_
      refine tt_iload_n (pc := 30) (k := 3) C dX7_worst_30 rfl rfl ?_
      obtain ⟨r1, hr1, hf⟩ := bind_some hf
      refine tt_callR (pc := 31) (ws := (mC cy ad sc ar la)) (q0 := 0) (ci := 7) (rest := []) (st' := [.int r1]) C (k_X7_warnedOf hr1) okX7_warnedOf q5_171 rfl mC_obj (fun _ h => h) rfl rfl rfl (Nat.le_of_ble_eq_true rfl) ⟨Nat.le_of_ble_eq_true rfl, Nat.le_of_ble_eq_true rfl⟩ dX7_worst_31 ?_
      refine tt_istore (pc := 34) (L' := [(5, .int r1), (0, .ref (ad 0)), (1, .int v1), (2, .int v2), (3, .int v3), (4, .int v4)]) C dX7_worst_34 (by decide) rfl ?_
      refine tt_iload_n (pc := 36) (k := 2) C dX7_worst_36 rfl rfl ?_
      refine tt_bipush (pc := 37) (v := (-9 : Int32)) C dX7_worst_37 (by decide) ?_
      have k4 : TT p l e { frames := 5, cells := 0, slots := 0, locals := 126 } s m args below meth c 6 D A true vO wO 59 [(0, .ref (ad 0)), (1, .int (if v1 = (-9 : Int32) then (((10 : Int32) * v3) + v4) else (if v2 ≤ r1 then v1 else (((10 : Int32) * v3) + v4)))), (2, .int (if v1 = (-9 : Int32) then r1 else (if v2 ≤ r1 then v2 else r1))), (3, .int v3), (4, .int v4)] [] (mC cy ad sc ar la) := by
        refine tt_iinc (pc := 59) (k := 4) (v := (v4 + 1)) (L' := [(4, .int (v4 + 1)), (0, .ref (ad 0)), (1, .int (if v1 = (-9 : Int32) then (((10 : Int32) * v3) + v4) else (if v2 ≤ r1 then v1 else (((10 : Int32) * v3) + v4)))), (2, .int (if v1 = (-9 : Int32) then r1 else (if v2 ≤ r1 then v2 else r1))), (3, .int v3)]) C dX7_worst_59 rfl rfl (by decide) rfl ?_
        refine tt_goto (pc := 62) (tgt := 18) C dX7_worst_62 (by decide) ?_
        exact tt_locs [1, 2, 3, 4, 0] rfl (ih hf)
      refine tr_icmp_eq (pc := 39) (tgt := 48) C dX7_worst_39 (by decide) (fun c2 => ?_) (fun c2 => ?_)
      · refine tt_bipush (pc := 48) (v := (10 : Int32)) C dX7_worst_48 (by decide) ?_
        refine tt_iload_n (pc := 50) (k := 4) C dX7_worst_50 rfl rfl ?_
        refine tt_imul (pc := 51) C dX7_worst_51 ?_
        refine tt_iload (pc := 52) (k := 5) C dX7_worst_52 rfl ?_
        refine tt_iadd (pc := 54) C dX7_worst_54 ?_
        refine tt_istore_n (pc := 55) (L' := [(1, .int (((10 : Int32) * v3) + v4)), (5, .int r1), (0, .ref (ad 0)), (2, .int v2), (3, .int v3), (4, .int v4)]) C dX7_worst_55 rfl (by decide) rfl ?_
        refine tt_iload (pc := 56) (k := 1) C dX7_worst_56 rfl ?_
        refine tt_istore_n (pc := 58) (L' := [(2, .int r1), (1, .int (((10 : Int32) * v3) + v4)), (5, .int r1), (0, .ref (ad 0)), (3, .int v3), (4, .int v4)]) C dX7_worst_58 rfl (by decide) rfl ?_
        try simp only [if_pos c2] at k4 ⊢
        exact tt_locs [3, 1, 0, 4, 5] rfl k4
      · refine tt_iload (pc := 42) (k := 0) C dX7_worst_42 rfl ?_
        refine tt_iload_n (pc := 44) (k := 3) C dX7_worst_44 rfl rfl ?_
        refine tr_icmp_ge (pc := 45) (tgt := 59) C dX7_worst_45 (by decide) (fun c3 => ?_) (fun c3 => ?_)
        · try simp only [if_neg c2, if_pos c3] at k4 ⊢
          exact tt_locs [1, 2, 3, 4, 5] rfl k4
        · refine tt_bipush (pc := 48) (v := (10 : Int32)) C dX7_worst_48 (by decide) ?_
          refine tt_iload_n (pc := 50) (k := 4) C dX7_worst_50 rfl rfl ?_
          refine tt_imul (pc := 51) C dX7_worst_51 ?_
          refine tt_iload (pc := 52) (k := 5) C dX7_worst_52 rfl ?_
          refine tt_iadd (pc := 54) C dX7_worst_54 ?_
          refine tt_istore_n (pc := 55) (L' := [(1, .int (((10 : Int32) * v3) + v4)), (5, .int r1), (0, .ref (ad 0)), (2, .int v2), (3, .int v3), (4, .int v4)]) C dX7_worst_55 rfl (by decide) rfl ?_
          refine tt_iload (pc := 56) (k := 1) C dX7_worst_56 rfl ?_
          refine tt_istore_n (pc := 58) (L' := [(2, .int r1), (1, .int (((10 : Int32) * v3) + v4)), (5, .int r1), (0, .ref (ad 0)), (3, .int v3), (4, .int v4)]) C dX7_worst_58 rfl (by decide) rfl ?_
          try simp only [if_neg c2, if_neg c3] at k4 ⊢
          exact tt_locs [3, 1, 0, 4, 5] rfl k4
set_option maxHeartbeats 4000000 in
set_option maxRecDepth 100000 in
theorem l_X7_worst_7 {p : Program} {l : Launch} {e : Env} {s : State} {m : MethodId} {args : Array Value} {below : List Frame} {meth : Method} {c : Code} {D : va_G} {cy : Nat → ClassId} {A : Nat → Prop} {Bd : Nat} {xa : Xa} {ad : Nat → Nat} {β : Type} {vO : Option Value} {wO : va_W} {N : Nat} {sc : Nat → Int32} {ar : Nat → Nat → Int32} {la : Nat → Nat → Int64} {kx : Int32 → Option (β)} {out : β} (C : CC p s m args meth c cX7_worst RX7 6 (some .int) D cy A true Bd xa) (hk : ∀ (x1 : Int32), kx x1 = some out → TT p l e { frames := 5, cells := 0, slots := 0, locals := 126 } s m args below meth c 6 D A true vO wO 71 [(1, .int x1)] [] (mC cy ad sc ar la)) {n : Nat} {v1 : Int32} {v2 : Int32} {v3 : Int32} (hf : f_X7_worst_L7 N sc ar kx n v1 v2 v3 = some out) : TT p l e { frames := 5, cells := 0, slots := 0, locals := 126 } s m args below meth c 6 D A true vO wO 7 [(0, .ref (ad 0)), (1, .int v1), (2, .int v2), (3, .int v3)] [] (mC cy ad sc ar la) := by
  induction n generalizing v1 v2 v3 with
  | zero => cases hf
  | succ n ih =>
    rw [f_X7_worst_L7] at hf
    refine tt_iload_n (pc := 7) (k := 3) C dX7_worst_7 rfl rfl ?_
    refine tt_aload_n (pc := 8) (k := 0) C dX7_worst_8 rfl rfl ?_
    refine tt_get (pc := 9) (ws := (mC cy ad sc ar la)) (ci := 7) (v := .int (sc 6)) C fiX7 rfl 0 mC_obj 6 (by decide) q4_166 rfl dX7_worst_9 ?_
    refine tt_icmp_ge (pc := 12) (tgt := 71) C dX7_worst_12 (by decide) hf (fun hf => ?_) (fun hf => ?_)
    · exact tt_locs [1] rfl (hk _ hf)
    · refine tt_iconst (pc := 15) (v := (0 : Int32)) C dX7_worst_15 (by decide) ?_
      refine tt_istore (pc := 16) (L' := [(4, .int (0 : Int32)), (0, .ref (ad 0)), (1, .int v1), (2, .int v2), (3, .int v3)]) C dX7_worst_16 (by decide) rfl ?_
      refine tt_locs (L' := [(0, .ref (ad 0)), (1, .int v1), (2, .int v2), (3, .int v3), (4, .int (0 : Int32))]) [1, 2, 3, 4, 0] rfl (l_X7_worst_18 C (fun x1_5 x2_5 hf => ?_) hf)
      refine tt_iinc (pc := 65) (k := 3) (v := (v3 + 1)) (L' := [(3, .int (v3 + 1)), (0, .ref (ad 0)), (1, .int x1_5), (2, .int x2_5)]) C dX7_worst_65 rfl rfl (by decide) rfl ?_
      refine tt_goto (pc := 68) (tgt := 7) C dX7_worst_68 (by decide) ?_
      exact tt_locs [1, 2, 3, 0] rfl (ih hf)
set_option maxHeartbeats 4000000 in
set_option maxRecDepth 100000 in
theorem k_X7_worst {l : Launch} {D : va_G} {cy : Nat → ClassId} {Bd : Nat} {xa : Xa} {ad : Nat → Nat} {N : Nat} {sc : Nat → Int32} {ar : Nat → Nat → Int32} {la : Nat → Nat → Int64} {out : Int32} (hf : f_X7_worst N sc ar = some out) : KC l yX7_worst cX7_worst 6 (some .int) 5 126 true D cy Bd xa [.ref (ad 0)] (mC cy ad sc ar la) (some (.int out)) (mC cy ad sc ar la) := by
  refine kc_start (own := RX7) (by decide +kernel) rfl (Nat.le_of_ble_eq_true rfl) ?_
  intro p e s m args below meth c A C
  unfold f_X7_worst at hf
  refine tt_locs (L' := [(0, .ref (ad 0))]) [0] rfl ?_
  refine tt_bipush (pc := 0) (v := (-9 : Int32)) C dX7_worst_0 (by decide) ?_
  refine tt_istore_n (pc := 2) (L' := [(1, .int (-9 : Int32)), (0, .ref (ad 0))]) C dX7_worst_2 rfl (by decide) rfl ?_
  refine tt_iconst (pc := 3) (v := (0 : Int32)) C dX7_worst_3 (by decide) ?_
  refine tt_istore_n (pc := 4) (L' := [(2, .int (0 : Int32)), (1, .int (-9 : Int32)), (0, .ref (ad 0))]) C dX7_worst_4 rfl (by decide) rfl ?_
  refine tt_iconst (pc := 5) (v := (0 : Int32)) C dX7_worst_5 (by decide) ?_
  refine tt_istore_n (pc := 6) (L' := [(3, .int (0 : Int32)), (2, .int (0 : Int32)), (1, .int (-9 : Int32)), (0, .ref (ad 0))]) C dX7_worst_6 rfl (by decide) rfl ?_
  refine tt_locs (L' := [(0, .ref (ad 0)), (1, .int (-9 : Int32)), (2, .int (0 : Int32)), (3, .int (0 : Int32))]) [3, 2, 1, 0] rfl (l_X7_worst_7 C (fun x1_5 hf => ?_) hf)
  refine tt_iload_n (pc := 71) (k := 0) C dX7_worst_71 rfl rfl ?_
  obtain rfl := Option.some.inj hf
  exact tt_ireturn (pc := 72) C rfl rfl rfl dX7_worst_72
theorem dX7_slowest_0 : decode cX7_slowest 0 = .ok (.aload_n 0, 1) := by decide +kernel
theorem dX7_slowest_1 : decode cX7_slowest 1 = .ok (.iload_n 1, 1) := by decide +kernel
theorem dX7_slowest_2 : decode cX7_slowest 2 = .ok (.invokevirtual 138, 3) := by decide +kernel
theorem dX7_slowest_5 : decode cX7_slowest 5 = .ok (.ifCond .eq 11, 3) := by decide +kernel
theorem dX7_slowest_8 : decode cX7_slowest 8 = .ok (.aload_n 0, 1) := by decide +kernel
theorem dX7_slowest_9 : decode cX7_slowest 9 = .ok (.iload_n 2, 1) := by decide +kernel
theorem dX7_slowest_10 : decode cX7_slowest 10 = .ok (.invokevirtual 131, 3) := by decide +kernel
theorem dX7_slowest_13 : decode cX7_slowest 13 = .ok (.ifCond .ne 9, 3) := by decide +kernel
theorem dX7_slowest_16 : decode cX7_slowest 16 = .ok (.aload_n 0, 1) := by decide +kernel
theorem dX7_slowest_17 : decode cX7_slowest 17 = .ok (.iconst (-1), 1) := by decide +kernel
theorem dX7_slowest_18 : decode cX7_slowest 18 = .ok (.invokevirtual 98, 3) := by decide +kernel
theorem dX7_slowest_21 : decode cX7_slowest 21 = .ok (.ireturn, 1) := by decide +kernel
theorem dX7_slowest_22 : decode cX7_slowest 22 = .ok (.aload_n 0, 1) := by decide +kernel
theorem dX7_slowest_23 : decode cX7_slowest 23 = .ok (.getfield 38, 3) := by decide +kernel
theorem dX7_slowest_26 : decode cX7_slowest 26 = .ok (.iload_n 1, 1) := by decide +kernel
theorem dX7_slowest_27 : decode cX7_slowest 27 = .ok (.iaload, 1) := by decide +kernel
theorem dX7_slowest_28 : decode cX7_slowest 28 = .ok (.istore_n 3, 1) := by decide +kernel
theorem dX7_slowest_29 : decode cX7_slowest 29 = .ok (.bipush (-9), 2) := by decide +kernel
theorem dX7_slowest_31 : decode cX7_slowest 31 = .ok (.istore 4, 2) := by decide +kernel
theorem dX7_slowest_33 : decode cX7_slowest 33 = .ok (.bipush 9, 2) := by decide +kernel
theorem dX7_slowest_35 : decode cX7_slowest 35 = .ok (.istore 5, 2) := by decide +kernel
theorem dX7_slowest_37 : decode cX7_slowest 37 = .ok (.iload 5, 2) := by decide +kernel
theorem dX7_slowest_39 : decode cX7_slowest 39 = .ok (.ifCond .le 35, 3) := by decide +kernel
theorem dX7_slowest_42 : decode cX7_slowest 42 = .ok (.aload_n 0, 1) := by decide +kernel
theorem dX7_slowest_43 : decode cX7_slowest 43 = .ok (.getfield 38, 3) := by decide +kernel
theorem dX7_slowest_46 : decode cX7_slowest 46 = .ok (.iload_n 1, 1) := by decide +kernel
theorem dX7_slowest_47 : decode cX7_slowest 47 = .ok (.iload 5, 2) := by decide +kernel
theorem dX7_slowest_49 : decode cX7_slowest 49 = .ok (.iastore, 1) := by decide +kernel
theorem dX7_slowest_50 : decode cX7_slowest 50 = .ok (.aload_n 0, 1) := by decide +kernel
theorem dX7_slowest_51 : decode cX7_slowest 51 = .ok (.iload_n 1, 1) := by decide +kernel
theorem dX7_slowest_52 : decode cX7_slowest 52 = .ok (.iload_n 2, 1) := by decide +kernel
theorem dX7_slowest_53 : decode cX7_slowest 53 = .ok (.invokevirtual 182, 3) := by decide +kernel
theorem dX7_slowest_56 : decode cX7_slowest 56 = .ok (.ifCond .eq 8, 3) := by decide +kernel
theorem dX7_slowest_59 : decode cX7_slowest 59 = .ok (.iload 5, 2) := by decide +kernel
theorem dX7_slowest_61 : decode cX7_slowest 61 = .ok (.goto 5, 3) := by decide +kernel
theorem dX7_slowest_64 : decode cX7_slowest 64 = .ok (.iload 4, 2) := by decide +kernel
theorem dX7_slowest_66 : decode cX7_slowest 66 = .ok (.istore 4, 2) := by decide +kernel
theorem dX7_slowest_68 : decode cX7_slowest 68 = .ok (.iinc 5 (-1), 3) := by decide +kernel
theorem dX7_slowest_71 : decode cX7_slowest 71 = .ok (.goto (-34), 3) := by decide +kernel
theorem dX7_slowest_74 : decode cX7_slowest 74 = .ok (.aload_n 0, 1) := by decide +kernel
theorem dX7_slowest_75 : decode cX7_slowest 75 = .ok (.getfield 38, 3) := by decide +kernel
theorem dX7_slowest_78 : decode cX7_slowest 78 = .ok (.iload_n 1, 1) := by decide +kernel
theorem dX7_slowest_79 : decode cX7_slowest 79 = .ok (.iload_n 3, 1) := by decide +kernel
theorem dX7_slowest_80 : decode cX7_slowest 80 = .ok (.iastore, 1) := by decide +kernel
theorem dX7_slowest_81 : decode cX7_slowest 81 = .ok (.iload 4, 2) := by decide +kernel
theorem dX7_slowest_83 : decode cX7_slowest 83 = .ok (.ireturn, 1) := by decide +kernel
set_option maxHeartbeats 4000000 in
set_option maxRecDepth 100000 in
theorem l_X7_slowest_37 {p : Program} {l : Launch} {e : Env} {s : State} {m : MethodId} {args : Array Value} {below : List Frame} {meth : Method} {c : Code} {D : va_G} {cy : Nat → ClassId} {A : Nat → Prop} {Bd : Nat} {xa : Xa} {ad : Nat → Nat} {β : Type} {vO : Option Value} {wO : va_W} {N : Nat} {sc : Nat → Int32} {la : Nat → Nat → Int64} {v1 : Int32} {v2 : Int32} {v3 : Int32} {kx : Int32 → (Nat → Nat → Int32) → Option (β)} {out : β} (C : CC p s m args meth c cX7_slowest RX7 6 (some .int) D cy A false Bd xa) (hk : ∀ (x4 : Int32) (ar1 : Nat → Nat → Int32), kx x4 ar1 = some out → TT p l e { frames := 6, cells := 0, slots := 0, locals := 148 } s m args below meth c 6 D A false vO wO 74 [(0, .ref (ad 0)), (1, .int v1), (3, .int v3), (4, .int x4)] [] (mC cy ad sc ar1 la)) {n : Nat} {v4 : Int32} {v5 : Int32} {ar : Nat → Nat → Int32} (hf : f_X7_slowest_L37 N sc v1 v2 v3 kx n v4 v5 ar = some out) : TT p l e { frames := 6, cells := 0, slots := 0, locals := 148 } s m args below meth c 6 D A false vO wO 37 [(0, .ref (ad 0)), (1, .int v1), (2, .int v2), (3, .int v3), (4, .int v4), (5, .int v5)] [] (mC cy ad sc ar la) := by
  induction n generalizing v4 v5 ar with
  | zero => cases hf
  | succ n ih =>
    rw [f_X7_slowest_L37] at hf
    refine tt_iload (pc := 37) (k := 5) C dX7_slowest_37 rfl ?_
    refine tt_if_le (pc := 39) (tgt := 74) C dX7_slowest_39 (by decide) hf (fun hf => ?_) (fun hf => ?_)
    · exact tt_locs [0, 1, 3, 4] rfl (hk _ _ hf)
    · refine tt_aload_n (pc := 42) (k := 0) C dX7_slowest_42 rfl rfl ?_
      refine tt_get (pc := 43) (ws := (mC cy ad sc ar la)) (ci := 7) (v := .ref (ad 12)) C fiX7 rfl 0 mC_obj 12 (by decide) q4_172 rfl dX7_slowest_43 ?_
      refine tt_iload_n (pc := 46) (k := 1) C dX7_slowest_46 rfl rfl ?_
      refine tt_iload (pc := 47) (k := 5) C dX7_slowest_47 rfl ?_
      refine tt_iastore (pc := 49) (ws := (mC cy ad sc ar la)) (n := 4) (f := (ar 12)) (ws' := (mC cy ad sc (va_up ar 12 (upd (ar 12) (ix v1) v5)) la)) C rfl 9 0 mC_get12 rfl hf dX7_slowest_49 mC_set12 (fun hf => ?_)
      refine tt_aload_n (pc := 50) (k := 0) C dX7_slowest_50 rfl rfl ?_
      refine tt_iload_n (pc := 51) (k := 1) C dX7_slowest_51 rfl rfl ?_
      refine tt_iload_n (pc := 52) (k := 2) C dX7_slowest_52 rfl rfl ?_
      obtain ⟨r4, hr4, hf⟩ := bind_some hf
      refine tt_callR (pc := 53) (ws := (mC cy ad sc (va_up ar 12 (upd (ar 12) (ix v1) v5)) la)) (q0 := 0) (ci := 7) (rest := []) (st' := [.int r4]) C (k_X7_isKept hr4) okX7_isKept q5_187 rfl mC_obj (fun _ h => h) rfl rfl rfl (Nat.le_of_ble_eq_true rfl) ⟨Nat.le_of_ble_eq_true rfl, Nat.le_of_ble_eq_true rfl⟩ dX7_slowest_53 ?_
      have k6 : TT p l e { frames := 6, cells := 0, slots := 0, locals := 148 } s m args below meth c 6 D A false vO wO 66 [(0, .ref (ad 0)), (1, .int v1), (2, .int v2), (3, .int v3), (5, .int v5)] [.int (if r4 = 0 then v4 else v5)] (mC cy ad sc (va_up ar 12 (upd (ar 12) (ix v1) v5)) la) := by
        refine tt_istore (pc := 66) (L' := [(4, .int (if r4 = 0 then v4 else v5)), (0, .ref (ad 0)), (1, .int v1), (2, .int v2), (3, .int v3), (5, .int v5)]) C dX7_slowest_66 (by decide) rfl ?_
        refine tt_iinc (pc := 68) (k := 5) (v := (v5 + (-1))) (L' := [(5, .int (v5 + (-1))), (4, .int (if r4 = 0 then v4 else v5)), (0, .ref (ad 0)), (1, .int v1), (2, .int v2), (3, .int v3)]) C dX7_slowest_68 rfl rfl (by decide) rfl ?_
        refine tt_goto (pc := 71) (tgt := 37) C dX7_slowest_71 (by decide) ?_
        exact tt_locs [2, 3, 4, 5, 1, 0] rfl (ih hf)
      refine tr_if_eq (pc := 56) (tgt := 64) C dX7_slowest_56 (by decide) (fun c5 => ?_) (fun c5 => ?_)
      · refine tt_iload (pc := 64) (k := 4) C dX7_slowest_64 rfl ?_
        try simp only [if_pos c5] at k6 ⊢
        exact tt_locs [0, 1, 2, 3, 5] rfl k6
      · refine tt_iload (pc := 59) (k := 5) C dX7_slowest_59 rfl ?_
        refine tt_goto (pc := 61) (tgt := 66) C dX7_slowest_61 (by decide) ?_
        try simp only [if_neg c5] at k6 ⊢
        exact tt_locs [0, 1, 2, 3, 5] rfl k6
set_option maxHeartbeats 4000000 in
set_option maxRecDepth 100000 in
theorem k_X7_slowest {l : Launch} {D : va_G} {cy : Nat → ClassId} {Bd : Nat} {xa : Xa} {ad : Nat → Nat} {N : Nat} {sc : Nat → Int32} {ar : Nat → Nat → Int32} {la : Nat → Nat → Int64} {a1 : Int32} {a2 : Int32} {out : Int32 × (Nat → Nat → Int32)} (hf : f_X7_slowest N sc ar a1 a2 = some out) : KC l yX7_slowest cX7_slowest 6 (some .int) 6 148 false D cy Bd xa [.ref (ad 0), .int a1, .int a2] (mC cy ad sc ar la) (some (.int out.1)) (mC cy ad sc out.2 la) := by
  refine kc_start (own := RX7) (by decide +kernel) rfl (Nat.le_of_ble_eq_true rfl) ?_
  intro p e s m args below meth c A C
  unfold f_X7_slowest at hf
  refine tt_locs (L' := [(0, .ref (ad 0)), (1, .int a1), (2, .int a2)]) [0, 1, 2] rfl ?_
  refine tt_aload_n (pc := 0) (k := 0) C dX7_slowest_0 rfl rfl ?_
  refine tt_iload_n (pc := 1) (k := 1) C dX7_slowest_1 rfl rfl ?_
  obtain ⟨r1, hr1, hf⟩ := bind_some hf
  refine tt_callR (pc := 2) (ws := (mC cy ad sc ar la)) (q0 := 0) (ci := 7) (rest := []) (st' := [.int r1]) C (k_X7_isTrain hr1) okX7_isTrain q5_103 rfl mC_obj (fun _ h => h) rfl rfl rfl (Nat.le_of_ble_eq_true rfl) ⟨Nat.le_of_ble_eq_true rfl, Nat.le_of_ble_eq_true rfl⟩ dX7_slowest_2 ?_
  refine tt_if_eq (pc := 5) (tgt := 16) C dX7_slowest_5 (by decide) hf (fun hf => ?_) (fun hf => ?_)
  · refine tt_aload_n (pc := 16) (k := 0) C dX7_slowest_16 rfl rfl ?_
    refine tt_iconst (pc := 17) (v := (-1 : Int32)) C dX7_slowest_17 (by decide) ?_
    obtain ⟨r2, hr2, hf⟩ := bind_some hf
    refine tt_callM (pc := 18) (ws := (mC cy ad sc ar la)) (q0 := 0) (ci := 7) (rest := []) (st' := [.int r2.1]) C rfl (k_X7_no hr2) okX7_no q5_36 rfl mC_obj rfl rfl rfl (Nat.le_of_ble_eq_true rfl) ⟨Nat.le_of_ble_eq_true rfl, Nat.le_of_ble_eq_true rfl⟩ dX7_slowest_18 ?_
    obtain rfl := Option.some.inj hf
    exact tt_ireturn (pc := 21) C rfl rfl rfl dX7_slowest_21
  · refine tt_aload_n (pc := 8) (k := 0) C dX7_slowest_8 rfl rfl ?_
    refine tt_iload_n (pc := 9) (k := 2) C dX7_slowest_9 rfl rfl ?_
    obtain ⟨r3, hr3, hf⟩ := bind_some hf
    refine tt_callR (pc := 10) (ws := (mC cy ad sc ar la)) (q0 := 0) (ci := 7) (rest := []) (st' := [.int r3]) C (k_X7_isPost hr3) okX7_isPost q5_79 rfl mC_obj (fun _ h => h) rfl rfl rfl (Nat.le_of_ble_eq_true rfl) ⟨Nat.le_of_ble_eq_true rfl, Nat.le_of_ble_eq_true rfl⟩ dX7_slowest_10 ?_
    refine tt_if_ne (pc := 13) (tgt := 22) C dX7_slowest_13 (by decide) hf (fun hf => ?_) (fun hf => ?_)
    · refine tt_aload_n (pc := 22) (k := 0) C dX7_slowest_22 rfl rfl ?_
      refine tt_get (pc := 23) (ws := (mC cy ad sc ar la)) (ci := 7) (v := .ref (ad 12)) C fiX7 rfl 0 mC_obj 12 (by decide) q4_172 rfl dX7_slowest_23 ?_
      refine tt_iload_n (pc := 26) (k := 1) C dX7_slowest_26 rfl rfl ?_
      refine tt_iaload (pc := 27) (ws := (mC cy ad sc ar la)) (n := 4) (f := (ar 12)) C 9 0 mC_get12 rfl hf dX7_slowest_27 (fun hf => ?_)
      refine tt_istore_n (pc := 28) (L' := [(3, .int ((ar 12) (ix a1))), (0, .ref (ad 0)), (1, .int a1), (2, .int a2)]) C dX7_slowest_28 rfl (by decide) rfl ?_
      refine tt_bipush (pc := 29) (v := (-9 : Int32)) C dX7_slowest_29 (by decide) ?_
      refine tt_istore (pc := 31) (L' := [(4, .int (-9 : Int32)), (3, .int ((ar 12) (ix a1))), (0, .ref (ad 0)), (1, .int a1), (2, .int a2)]) C dX7_slowest_31 (by decide) rfl ?_
      refine tt_bipush (pc := 33) (v := (9 : Int32)) C dX7_slowest_33 (by decide) ?_
      refine tt_istore (pc := 35) (L' := [(5, .int (9 : Int32)), (4, .int (-9 : Int32)), (3, .int ((ar 12) (ix a1))), (0, .ref (ad 0)), (1, .int a1), (2, .int a2)]) C dX7_slowest_35 (by decide) rfl ?_
      refine tt_locs (L' := [(0, .ref (ad 0)), (1, .int a1), (2, .int a2), (3, .int ((ar 12) (ix a1))), (4, .int (-9 : Int32)), (5, .int (9 : Int32))]) [3, 4, 5, 2, 1, 0] rfl (l_X7_slowest_37 C (fun x4_7 t7 hf => ?_) hf)
      refine tt_aload_n (pc := 74) (k := 0) C dX7_slowest_74 rfl rfl ?_
      refine tt_get (pc := 75) (ws := (mC cy ad sc t7 la)) (ci := 7) (v := .ref (ad 12)) C fiX7 rfl 0 mC_obj 12 (by decide) q4_172 rfl dX7_slowest_75 ?_
      refine tt_iload_n (pc := 78) (k := 1) C dX7_slowest_78 rfl rfl ?_
      refine tt_iload_n (pc := 79) (k := 2) C dX7_slowest_79 rfl rfl ?_
      refine tt_iastore (pc := 80) (ws := (mC cy ad sc t7 la)) (n := 4) (f := (t7 12)) (ws' := (mC cy ad sc (va_up t7 12 (upd (t7 12) (ix a1) ((ar 12) (ix a1)))) la)) C rfl 9 0 mC_get12 rfl hf dX7_slowest_80 mC_set12 (fun hf => ?_)
      refine tt_iload (pc := 81) (k := 3) C dX7_slowest_81 rfl ?_
      obtain rfl := Option.some.inj hf
      exact tt_ireturn (pc := 83) C rfl rfl rfl dX7_slowest_83
    · refine tt_aload_n (pc := 16) (k := 0) C dX7_slowest_16 rfl rfl ?_
      refine tt_iconst (pc := 17) (v := (-1 : Int32)) C dX7_slowest_17 (by decide) ?_
      obtain ⟨r8, hr8, hf⟩ := bind_some hf
      refine tt_callM (pc := 18) (ws := (mC cy ad sc ar la)) (q0 := 0) (ci := 7) (rest := []) (st' := [.int r8.1]) C rfl (k_X7_no hr8) okX7_no q5_36 rfl mC_obj rfl rfl rfl (Nat.le_of_ble_eq_true rfl) ⟨Nat.le_of_ble_eq_true rfl, Nat.le_of_ble_eq_true rfl⟩ dX7_slowest_18 ?_
      obtain rfl := Option.some.inj hf
      exact tt_ireturn (pc := 21) C rfl rfl rfl dX7_slowest_21
theorem dX7_seenFrom_0 : decode cX7_seenFrom 0 = .ok (.iconst 0, 1) := by decide +kernel
theorem dX7_seenFrom_1 : decode cX7_seenFrom 1 = .ok (.istore_n 3, 1) := by decide +kernel
theorem dX7_seenFrom_2 : decode cX7_seenFrom 2 = .ok (.iconst 0, 1) := by decide +kernel
theorem dX7_seenFrom_3 : decode cX7_seenFrom 3 = .ok (.istore 4, 2) := by decide +kernel
theorem dX7_seenFrom_5 : decode cX7_seenFrom 5 = .ok (.iload 4, 2) := by decide +kernel
theorem dX7_seenFrom_7 : decode cX7_seenFrom 7 = .ok (.aload_n 0, 1) := by decide +kernel
theorem dX7_seenFrom_8 : decode cX7_seenFrom 8 = .ok (.getfield 109, 3) := by decide +kernel
theorem dX7_seenFrom_11 : decode cX7_seenFrom 11 = .ok (.if_icmp .ge 28, 3) := by decide +kernel
theorem dX7_seenFrom_14 : decode cX7_seenFrom 14 = .ok (.iload_n 3, 1) := by decide +kernel
theorem dX7_seenFrom_15 : decode cX7_seenFrom 15 = .ok (.aload_n 0, 1) := by decide +kernel
theorem dX7_seenFrom_16 : decode cX7_seenFrom 16 = .ok (.iload_n 1, 1) := by decide +kernel
theorem dX7_seenFrom_17 : decode cX7_seenFrom 17 = .ok (.iload 4, 2) := by decide +kernel
theorem dX7_seenFrom_19 : decode cX7_seenFrom 19 = .ok (.iload_n 2, 1) := by decide +kernel
theorem dX7_seenFrom_20 : decode cX7_seenFrom 20 = .ok (.invokevirtual 176, 3) := by decide +kernel
theorem dX7_seenFrom_23 : decode cX7_seenFrom 23 = .ok (.ifCond .eq 7, 3) := by decide +kernel
theorem dX7_seenFrom_26 : decode cX7_seenFrom 26 = .ok (.iconst 1, 1) := by decide +kernel
theorem dX7_seenFrom_27 : decode cX7_seenFrom 27 = .ok (.goto 4, 3) := by decide +kernel
theorem dX7_seenFrom_30 : decode cX7_seenFrom 30 = .ok (.iconst 0, 1) := by decide +kernel
theorem dX7_seenFrom_31 : decode cX7_seenFrom 31 = .ok (.iadd, 1) := by decide +kernel
theorem dX7_seenFrom_32 : decode cX7_seenFrom 32 = .ok (.istore_n 3, 1) := by decide +kernel
theorem dX7_seenFrom_33 : decode cX7_seenFrom 33 = .ok (.iinc 4 1, 3) := by decide +kernel
theorem dX7_seenFrom_36 : decode cX7_seenFrom 36 = .ok (.goto (-31), 3) := by decide +kernel
theorem dX7_seenFrom_39 : decode cX7_seenFrom 39 = .ok (.iload_n 3, 1) := by decide +kernel
theorem dX7_seenFrom_40 : decode cX7_seenFrom 40 = .ok (.ireturn, 1) := by decide +kernel
set_option maxHeartbeats 4000000 in
set_option maxRecDepth 100000 in
theorem l_X7_seenFrom_5 {p : Program} {l : Launch} {e : Env} {s : State} {m : MethodId} {args : Array Value} {below : List Frame} {meth : Method} {c : Code} {D : va_G} {cy : Nat → ClassId} {A : Nat → Prop} {Bd : Nat} {xa : Xa} {ad : Nat → Nat} {β : Type} {vO : Option Value} {wO : va_W} {N : Nat} {sc : Nat → Int32} {ar : Nat → Nat → Int32} {la : Nat → Nat → Int64} {v1 : Int32} {v2 : Int32} {kx : Int32 → Option (β)} {out : β} (C : CC p s m args meth c cX7_seenFrom RX7 5 (some .int) D cy A true Bd xa) (hk : ∀ (x3 : Int32), kx x3 = some out → TT p l e { frames := 4, cells := 0, slots := 0, locals := 101 } s m args below meth c 5 D A true vO wO 39 [(3, .int x3)] [] (mC cy ad sc ar la)) {n : Nat} {v3 : Int32} {v4 : Int32} (hf : f_X7_seenFrom_L5 N sc ar v1 v2 kx n v3 v4 = some out) : TT p l e { frames := 4, cells := 0, slots := 0, locals := 101 } s m args below meth c 5 D A true vO wO 5 [(0, .ref (ad 0)), (1, .int v1), (2, .int v2), (3, .int v3), (4, .int v4)] [] (mC cy ad sc ar la) := by
  induction n generalizing v3 v4 with
  | zero => cases hf
  | succ n ih =>
    rw [f_X7_seenFrom_L5] at hf
    refine tt_iload (pc := 5) (k := 4) C dX7_seenFrom_5 rfl ?_
    refine tt_aload_n (pc := 7) (k := 0) C dX7_seenFrom_7 rfl rfl ?_
    refine tt_get (pc := 8) (ws := (mC cy ad sc ar la)) (ci := 7) (v := .int (sc 6)) C fiX7 rfl 0 mC_obj 6 (by decide) q4_166 rfl dX7_seenFrom_8 ?_
    refine tt_icmp_ge (pc := 11) (tgt := 39) C dX7_seenFrom_11 (by decide) hf (fun hf => ?_) (fun hf => ?_)
    · exact tt_locs [3] rfl (hk _ hf)
    · refine tt_iload_n (pc := 14) (k := 3) C dX7_seenFrom_14 rfl rfl ?_
      refine tt_aload_n (pc := 15) (k := 0) C dX7_seenFrom_15 rfl rfl ?_
      refine tt_iload_n (pc := 16) (k := 1) C dX7_seenFrom_16 rfl rfl ?_
      refine tt_iload (pc := 17) (k := 4) C dX7_seenFrom_17 rfl ?_
      refine tt_iload_n (pc := 19) (k := 2) C dX7_seenFrom_19 rfl rfl ?_
      obtain ⟨r1, hr1, hf⟩ := bind_some hf
      refine tt_callR (pc := 20) (ws := (mC cy ad sc ar la)) (q0 := 0) (ci := 7) (rest := [.int v3]) (st' := [.int r1, .int v3]) C (k_X7_isSeen hr1) okX7_isSeen q5_155 rfl mC_obj (fun _ h => h) rfl rfl rfl (Nat.le_of_ble_eq_true rfl) ⟨Nat.le_of_ble_eq_true rfl, Nat.le_of_ble_eq_true rfl⟩ dX7_seenFrom_20 ?_
      have k3 : TT p l e { frames := 4, cells := 0, slots := 0, locals := 101 } s m args below meth c 5 D A true vO wO 31 [(0, .ref (ad 0)), (1, .int v1), (2, .int v2), (4, .int v4)] [.int (if r1 = 0 then (0 : Int32) else (1 : Int32)), .int v3] (mC cy ad sc ar la) := by
        refine tt_iadd (pc := 31) C dX7_seenFrom_31 ?_
        refine tt_istore_n (pc := 32) (L' := [(3, .int (v3 + (if r1 = 0 then (0 : Int32) else (1 : Int32)))), (0, .ref (ad 0)), (1, .int v1), (2, .int v2), (4, .int v4)]) C dX7_seenFrom_32 rfl (by decide) rfl ?_
        refine tt_iinc (pc := 33) (k := 4) (v := (v4 + 1)) (L' := [(4, .int (v4 + 1)), (3, .int (v3 + (if r1 = 0 then (0 : Int32) else (1 : Int32)))), (0, .ref (ad 0)), (1, .int v1), (2, .int v2)]) C dX7_seenFrom_33 rfl rfl (by decide) rfl ?_
        refine tt_goto (pc := 36) (tgt := 5) C dX7_seenFrom_36 (by decide) ?_
        exact tt_locs [2, 3, 4, 1, 0] rfl (ih hf)
      refine tr_if_eq (pc := 23) (tgt := 30) C dX7_seenFrom_23 (by decide) (fun c2 => ?_) (fun c2 => ?_)
      · refine tt_iconst (pc := 30) (v := (0 : Int32)) C dX7_seenFrom_30 (by decide) ?_
        try simp only [if_pos c2] at k3 ⊢
        exact tt_locs [0, 1, 2, 4] rfl k3
      · refine tt_iconst (pc := 26) (v := (1 : Int32)) C dX7_seenFrom_26 (by decide) ?_
        refine tt_goto (pc := 27) (tgt := 31) C dX7_seenFrom_27 (by decide) ?_
        try simp only [if_neg c2] at k3 ⊢
        exact tt_locs [0, 1, 2, 4] rfl k3
set_option maxHeartbeats 4000000 in
set_option maxRecDepth 100000 in
theorem k_X7_seenFrom {l : Launch} {D : va_G} {cy : Nat → ClassId} {Bd : Nat} {xa : Xa} {ad : Nat → Nat} {N : Nat} {sc : Nat → Int32} {ar : Nat → Nat → Int32} {la : Nat → Nat → Int64} {a1 : Int32} {a2 : Int32} {out : Int32} (hf : f_X7_seenFrom N sc ar a1 a2 = some out) : KC l yX7_seenFrom cX7_seenFrom 5 (some .int) 4 101 true D cy Bd xa [.ref (ad 0), .int a1, .int a2] (mC cy ad sc ar la) (some (.int out)) (mC cy ad sc ar la) := by
  refine kc_start (own := RX7) (by decide +kernel) rfl (Nat.le_of_ble_eq_true rfl) ?_
  intro p e s m args below meth c A C
  unfold f_X7_seenFrom at hf
  refine tt_locs (L' := [(0, .ref (ad 0)), (1, .int a1), (2, .int a2)]) [0, 1, 2] rfl ?_
  refine tt_iconst (pc := 0) (v := (0 : Int32)) C dX7_seenFrom_0 (by decide) ?_
  refine tt_istore_n (pc := 1) (L' := [(3, .int (0 : Int32)), (0, .ref (ad 0)), (1, .int a1), (2, .int a2)]) C dX7_seenFrom_1 rfl (by decide) rfl ?_
  refine tt_iconst (pc := 2) (v := (0 : Int32)) C dX7_seenFrom_2 (by decide) ?_
  refine tt_istore (pc := 3) (L' := [(4, .int (0 : Int32)), (3, .int (0 : Int32)), (0, .ref (ad 0)), (1, .int a1), (2, .int a2)]) C dX7_seenFrom_3 (by decide) rfl ?_
  refine tt_locs (L' := [(0, .ref (ad 0)), (1, .int a1), (2, .int a2), (3, .int (0 : Int32)), (4, .int (0 : Int32))]) [2, 3, 4, 1, 0] rfl (l_X7_seenFrom_5 C (fun x3_4 hf => ?_) hf)
  refine tt_iload_n (pc := 39) (k := 0) C dX7_seenFrom_39 rfl rfl ?_
  obtain rfl := Option.some.inj hf
  exact tt_ireturn (pc := 40) C rfl rfl rfl dX7_seenFrom_40
theorem dX7_atOnce_0 : decode cX7_atOnce 0 = .ok (.aload_n 0, 1) := by decide +kernel
theorem dX7_atOnce_1 : decode cX7_atOnce 1 = .ok (.iload_n 1, 1) := by decide +kernel
theorem dX7_atOnce_2 : decode cX7_atOnce 2 = .ok (.invokevirtual 138, 3) := by decide +kernel
theorem dX7_atOnce_5 : decode cX7_atOnce 5 = .ok (.ifCond .eq 20, 3) := by decide +kernel
theorem dX7_atOnce_8 : decode cX7_atOnce 8 = .ok (.aload_n 0, 1) := by decide +kernel
theorem dX7_atOnce_9 : decode cX7_atOnce 9 = .ok (.iload_n 2, 1) := by decide +kernel
theorem dX7_atOnce_10 : decode cX7_atOnce 10 = .ok (.invokevirtual 121, 3) := by decide +kernel
theorem dX7_atOnce_13 : decode cX7_atOnce 13 = .ok (.ifCond .eq 12, 3) := by decide +kernel
theorem dX7_atOnce_16 : decode cX7_atOnce 16 = .ok (.aload_n 0, 1) := by decide +kernel
theorem dX7_atOnce_17 : decode cX7_atOnce 17 = .ok (.iload_n 1, 1) := by decide +kernel
theorem dX7_atOnce_18 : decode cX7_atOnce 18 = .ok (.iload_n 2, 1) := by decide +kernel
theorem dX7_atOnce_19 : decode cX7_atOnce 19 = .ok (.invokevirtual 231, 3) := by decide +kernel
theorem dX7_atOnce_22 : decode cX7_atOnce 22 = .ok (.goto 8, 3) := by decide +kernel
theorem dX7_atOnce_25 : decode cX7_atOnce 25 = .ok (.aload_n 0, 1) := by decide +kernel
theorem dX7_atOnce_26 : decode cX7_atOnce 26 = .ok (.iconst (-1), 1) := by decide +kernel
theorem dX7_atOnce_27 : decode cX7_atOnce 27 = .ok (.invokevirtual 98, 3) := by decide +kernel
theorem dX7_atOnce_30 : decode cX7_atOnce 30 = .ok (.ireturn, 1) := by decide +kernel
set_option maxHeartbeats 4000000 in
set_option maxRecDepth 100000 in
theorem k_X7_atOnce {l : Launch} {D : va_G} {cy : Nat → ClassId} {Bd : Nat} {xa : Xa} {ad : Nat → Nat} {N : Nat} {sc : Nat → Int32} {ar : Nat → Nat → Int32} {la : Nat → Nat → Int64} {a1 : Int32} {a2 : Int32} {out : Int32 × (Nat → Nat → Int32)} (hf : f_X7_atOnce N sc ar a1 a2 = some out) : KC l yX7_atOnce cX7_atOnce 3 (some .int) 5 125 false D cy Bd xa [.ref (ad 0), .int a1, .int a2] (mC cy ad sc ar la) (some (.int out.1)) (mC cy ad sc out.2 la) := by
  refine kc_start (own := RX7) (by decide +kernel) rfl (Nat.le_of_ble_eq_true rfl) ?_
  intro p e s m args below meth c A C
  unfold f_X7_atOnce at hf
  refine tt_locs (L' := [(0, .ref (ad 0)), (1, .int a1), (2, .int a2)]) [0, 1, 2] rfl ?_
  refine tt_aload_n (pc := 0) (k := 0) C dX7_atOnce_0 rfl rfl ?_
  refine tt_iload_n (pc := 1) (k := 1) C dX7_atOnce_1 rfl rfl ?_
  obtain ⟨r1, hr1, hf⟩ := bind_some hf
  refine tt_callR (pc := 2) (ws := (mC cy ad sc ar la)) (q0 := 0) (ci := 7) (rest := []) (st' := [.int r1]) C (k_X7_isTrain hr1) okX7_isTrain q5_103 rfl mC_obj (fun _ h => h) rfl rfl rfl (Nat.le_of_ble_eq_true rfl) ⟨Nat.le_of_ble_eq_true rfl, Nat.le_of_ble_eq_true rfl⟩ dX7_atOnce_2 ?_
  obtain ⟨j2, hj2, hf⟩ := bind_some hf
  have k3 : TT p l e { frames := 5, cells := 0, slots := 0, locals := 125 } s m args below meth c 3 D A false (some (.int out.1)) (mC cy ad sc out.2 la) 30 [] [.int j2.1] (mC cy ad sc j2.2 la) := by
    obtain rfl := Option.some.inj hf
    exact tt_ireturn (pc := 30) C rfl rfl rfl dX7_atOnce_30
  refine tt_if_eq (pc := 5) (tgt := 25) C dX7_atOnce_5 (by decide) hj2 (fun hj2 => ?_) (fun hj2 => ?_)
  · refine tt_aload_n (pc := 25) (k := 0) C dX7_atOnce_25 rfl rfl ?_
    refine tt_iconst (pc := 26) (v := (-1 : Int32)) C dX7_atOnce_26 (by decide) ?_
    obtain ⟨r4, hr4, hj2⟩ := bind_some hj2
    refine tt_callM (pc := 27) (ws := (mC cy ad sc ar la)) (q0 := 0) (ci := 7) (rest := []) (st' := [.int r4.1]) C rfl (k_X7_no hr4) okX7_no q5_36 rfl mC_obj rfl rfl rfl (Nat.le_of_ble_eq_true rfl) ⟨Nat.le_of_ble_eq_true rfl, Nat.le_of_ble_eq_true rfl⟩ dX7_atOnce_27 ?_
    obtain rfl := Option.some.inj hj2
    exact tt_locs [] rfl k3
  · refine tt_aload_n (pc := 8) (k := 0) C dX7_atOnce_8 rfl rfl ?_
    refine tt_iload_n (pc := 9) (k := 2) C dX7_atOnce_9 rfl rfl ?_
    obtain ⟨r5, hr5, hj2⟩ := bind_some hj2
    refine tt_callR (pc := 10) (ws := (mC cy ad sc ar la)) (q0 := 0) (ci := 7) (rest := []) (st' := [.int r5]) C (k_X7_isCell hr5) okX7_isCell q5_48 rfl mC_obj (fun _ h => h) rfl rfl rfl (Nat.le_of_ble_eq_true rfl) ⟨Nat.le_of_ble_eq_true rfl, Nat.le_of_ble_eq_true rfl⟩ dX7_atOnce_10 ?_
    obtain ⟨j6, hj6, hj2⟩ := bind_some hj2
    have k7 : TT p l e { frames := 5, cells := 0, slots := 0, locals := 125 } s m args below meth c 3 D A false (some (.int out.1)) (mC cy ad sc out.2 la) 30 [] [.int j6.1] (mC cy ad sc j6.2 la) := by
      obtain rfl := Option.some.inj hj2
      exact tt_locs [] rfl k3
    refine tt_if_eq (pc := 13) (tgt := 25) C dX7_atOnce_13 (by decide) hj6 (fun hj6 => ?_) (fun hj6 => ?_)
    · refine tt_aload_n (pc := 25) (k := 0) C dX7_atOnce_25 rfl rfl ?_
      refine tt_iconst (pc := 26) (v := (-1 : Int32)) C dX7_atOnce_26 (by decide) ?_
      obtain ⟨r8, hr8, hj6⟩ := bind_some hj6
      refine tt_callM (pc := 27) (ws := (mC cy ad sc ar la)) (q0 := 0) (ci := 7) (rest := []) (st' := [.int r8.1]) C rfl (k_X7_no hr8) okX7_no q5_36 rfl mC_obj rfl rfl rfl (Nat.le_of_ble_eq_true rfl) ⟨Nat.le_of_ble_eq_true rfl, Nat.le_of_ble_eq_true rfl⟩ dX7_atOnce_27 ?_
      obtain rfl := Option.some.inj hj6
      exact tt_locs [] rfl k7
    · refine tt_aload_n (pc := 16) (k := 0) C dX7_atOnce_16 rfl rfl ?_
      refine tt_iload_n (pc := 17) (k := 1) C dX7_atOnce_17 rfl rfl ?_
      refine tt_iload_n (pc := 18) (k := 2) C dX7_atOnce_18 rfl rfl ?_
      obtain ⟨r9, hr9, hj6⟩ := bind_some hj6
      refine tt_callR (pc := 19) (ws := (mC cy ad sc ar la)) (q0 := 0) (ci := 7) (rest := []) (st' := [.int r9]) C (k_X7_seenFrom hr9) okX7_seenFrom q6_17 rfl mC_obj (fun _ h => h) rfl rfl rfl (Nat.le_of_ble_eq_true rfl) ⟨Nat.le_of_ble_eq_true rfl, Nat.le_of_ble_eq_true rfl⟩ dX7_atOnce_19 ?_
      refine tt_goto (pc := 22) (tgt := 30) C dX7_atOnce_22 (by decide) ?_
      obtain rfl := Option.some.inj hj6
      exact tt_locs [] rfl k7
theorem dX7_most_0 : decode cX7_most 0 = .ok (.aload_n 0, 1) := by decide +kernel
theorem dX7_most_1 : decode cX7_most 1 = .ok (.iload_n 1, 1) := by decide +kernel
theorem dX7_most_2 : decode cX7_most 2 = .ok (.invokevirtual 138, 3) := by decide +kernel
theorem dX7_most_5 : decode cX7_most 5 = .ok (.ifCond .ne 9, 3) := by decide +kernel
theorem dX7_most_8 : decode cX7_most 8 = .ok (.aload_n 0, 1) := by decide +kernel
theorem dX7_most_9 : decode cX7_most 9 = .ok (.iconst (-1), 1) := by decide +kernel
theorem dX7_most_10 : decode cX7_most 10 = .ok (.invokevirtual 98, 3) := by decide +kernel
theorem dX7_most_13 : decode cX7_most 13 = .ok (.ireturn, 1) := by decide +kernel
theorem dX7_most_14 : decode cX7_most 14 = .ok (.iload_n 2, 1) := by decide +kernel
theorem dX7_most_15 : decode cX7_most 15 = .ok (.iconst 0, 1) := by decide +kernel
theorem dX7_most_16 : decode cX7_most 16 = .ok (.iconst 1, 1) := by decide +kernel
theorem dX7_most_17 : decode cX7_most 17 = .ok (.invokestatic 102, 3) := by decide +kernel
theorem dX7_most_20 : decode cX7_most 20 = .ok (.ifCond .ne 10, 3) := by decide +kernel
theorem dX7_most_23 : decode cX7_most 23 = .ok (.aload_n 0, 1) := by decide +kernel
theorem dX7_most_24 : decode cX7_most 24 = .ok (.bipush (-2), 2) := by decide +kernel
theorem dX7_most_26 : decode cX7_most 26 = .ok (.invokevirtual 98, 3) := by decide +kernel
theorem dX7_most_29 : decode cX7_most 29 = .ok (.ireturn, 1) := by decide +kernel
theorem dX7_most_30 : decode cX7_most 30 = .ok (.iconst 0, 1) := by decide +kernel
theorem dX7_most_31 : decode cX7_most 31 = .ok (.istore_n 3, 1) := by decide +kernel
theorem dX7_most_32 : decode cX7_most 32 = .ok (.iconst 0, 1) := by decide +kernel
theorem dX7_most_33 : decode cX7_most 33 = .ok (.istore 4, 2) := by decide +kernel
theorem dX7_most_35 : decode cX7_most 35 = .ok (.iconst 0, 1) := by decide +kernel
theorem dX7_most_36 : decode cX7_most 36 = .ok (.istore 5, 2) := by decide +kernel
theorem dX7_most_38 : decode cX7_most 38 = .ok (.iload 5, 2) := by decide +kernel
theorem dX7_most_40 : decode cX7_most 40 = .ok (.aload_n 0, 1) := by decide +kernel
theorem dX7_most_41 : decode cX7_most 41 = .ok (.getfield 7, 3) := by decide +kernel
theorem dX7_most_44 : decode cX7_most 44 = .ok (.if_icmp .ge 55, 3) := by decide +kernel
theorem dX7_most_47 : decode cX7_most 47 = .ok (.aload_n 0, 1) := by decide +kernel
theorem dX7_most_48 : decode cX7_most 48 = .ok (.iload_n 1, 1) := by decide +kernel
theorem dX7_most_49 : decode cX7_most 49 = .ok (.iload 5, 2) := by decide +kernel
theorem dX7_most_51 : decode cX7_most 51 = .ok (.invokevirtual 231, 3) := by decide +kernel
theorem dX7_most_54 : decode cX7_most 54 = .ok (.aload_n 0, 1) := by decide +kernel
theorem dX7_most_55 : decode cX7_most 55 = .ok (.iload_n 1, 1) := by decide +kernel
theorem dX7_most_56 : decode cX7_most 56 = .ok (.iload_n 3, 1) := by decide +kernel
theorem dX7_most_57 : decode cX7_most 57 = .ok (.invokevirtual 231, 3) := by decide +kernel
theorem dX7_most_60 : decode cX7_most 60 = .ok (.if_icmp .le 8, 3) := by decide +kernel
theorem dX7_most_63 : decode cX7_most 63 = .ok (.iload 5, 2) := by decide +kernel
theorem dX7_most_65 : decode cX7_most 65 = .ok (.goto 4, 3) := by decide +kernel
theorem dX7_most_68 : decode cX7_most 68 = .ok (.iload_n 3, 1) := by decide +kernel
theorem dX7_most_69 : decode cX7_most 69 = .ok (.istore_n 3, 1) := by decide +kernel
theorem dX7_most_70 : decode cX7_most 70 = .ok (.iload 4, 2) := by decide +kernel
theorem dX7_most_72 : decode cX7_most 72 = .ok (.aload_n 0, 1) := by decide +kernel
theorem dX7_most_73 : decode cX7_most 73 = .ok (.iload_n 1, 1) := by decide +kernel
theorem dX7_most_74 : decode cX7_most 74 = .ok (.iload 5, 2) := by decide +kernel
theorem dX7_most_76 : decode cX7_most 76 = .ok (.invokevirtual 231, 3) := by decide +kernel
theorem dX7_most_79 : decode cX7_most 79 = .ok (.ifCond .ne 10, 3) := by decide +kernel
theorem dX7_most_82 : decode cX7_most 82 = .ok (.iconst 1, 1) := by decide +kernel
theorem dX7_most_83 : decode cX7_most 83 = .ok (.iload 5, 2) := by decide +kernel
theorem dX7_most_85 : decode cX7_most 85 = .ok (.ishl, 1) := by decide +kernel
theorem dX7_most_86 : decode cX7_most 86 = .ok (.goto 4, 3) := by decide +kernel
theorem dX7_most_89 : decode cX7_most 89 = .ok (.iconst 0, 1) := by decide +kernel
theorem dX7_most_90 : decode cX7_most 90 = .ok (.ior, 1) := by decide +kernel
theorem dX7_most_91 : decode cX7_most 91 = .ok (.istore 4, 2) := by decide +kernel
theorem dX7_most_93 : decode cX7_most 93 = .ok (.iinc 5 1, 3) := by decide +kernel
theorem dX7_most_96 : decode cX7_most 96 = .ok (.goto (-58), 3) := by decide +kernel
theorem dX7_most_99 : decode cX7_most 99 = .ok (.iload_n 2, 1) := by decide +kernel
theorem dX7_most_100 : decode cX7_most 100 = .ok (.ifCond .ne 7, 3) := by decide +kernel
theorem dX7_most_103 : decode cX7_most 103 = .ok (.iload_n 3, 1) := by decide +kernel
theorem dX7_most_104 : decode cX7_most 104 = .ok (.goto 5, 3) := by decide +kernel
theorem dX7_most_107 : decode cX7_most 107 = .ok (.iload 4, 2) := by decide +kernel
theorem dX7_most_109 : decode cX7_most 109 = .ok (.ireturn, 1) := by decide +kernel
set_option maxHeartbeats 4000000 in
set_option maxRecDepth 100000 in
theorem l_X7_most_38 {p : Program} {l : Launch} {e : Env} {s : State} {m : MethodId} {args : Array Value} {below : List Frame} {meth : Method} {c : Code} {D : va_G} {cy : Nat → ClassId} {A : Nat → Prop} {Bd : Nat} {xa : Xa} {ad : Nat → Nat} {β : Type} {vO : Option Value} {wO : va_W} {N : Nat} {sc : Nat → Int32} {ar : Nat → Nat → Int32} {la : Nat → Nat → Int64} {v1 : Int32} {v2 : Int32} {kx : Int32 → Int32 → Option (β)} {out : β} (C : CC p s m args meth c cX7_most RX7 6 (some .int) D cy A false Bd xa) (hk : ∀ (x3 : Int32) (x4 : Int32), kx x3 x4 = some out → TT p l e { frames := 5, cells := 0, slots := 0, locals := 125 } s m args below meth c 6 D A false vO wO 99 [(2, .int v2), (3, .int x3), (4, .int x4)] [] (mC cy ad sc ar la)) {n : Nat} {v3 : Int32} {v4 : Int32} {v5 : Int32} (hf : f_X7_most_L38 N sc ar v1 v2 kx n v3 v4 v5 = some out) : TT p l e { frames := 5, cells := 0, slots := 0, locals := 125 } s m args below meth c 6 D A false vO wO 38 [(0, .ref (ad 0)), (1, .int v1), (2, .int v2), (3, .int v3), (4, .int v4), (5, .int v5)] [] (mC cy ad sc ar la) := by
  induction n generalizing v3 v4 v5 with
  | zero => cases hf
  | succ n ih =>
    rw [f_X7_most_L38] at hf
    refine tt_iload (pc := 38) (k := 5) C dX7_most_38 rfl ?_
    refine tt_aload_n (pc := 40) (k := 0) C dX7_most_40 rfl rfl ?_
    refine tt_get (pc := 41) (ws := (mC cy ad sc ar la)) (ci := 7) (v := .int (sc 0)) C fiX7 rfl 0 mC_obj 0 (by decide) q4_160 rfl dX7_most_41 ?_
    refine tt_icmp_ge (pc := 44) (tgt := 99) C dX7_most_44 (by decide) hf (fun hf => ?_) (fun hf => ?_)
    · exact tt_locs [2, 3, 4] rfl (hk _ _ hf)
    · refine tt_aload_n (pc := 47) (k := 0) C dX7_most_47 rfl rfl ?_
      refine tt_iload_n (pc := 48) (k := 1) C dX7_most_48 rfl rfl ?_
      refine tt_iload (pc := 49) (k := 5) C dX7_most_49 rfl ?_
      obtain ⟨r3, hr3, hf⟩ := bind_some hf
      refine tt_callR (pc := 51) (ws := (mC cy ad sc ar la)) (q0 := 0) (ci := 7) (rest := []) (st' := [.int r3]) C (k_X7_seenFrom hr3) okX7_seenFrom q6_17 rfl mC_obj (fun _ h => h) rfl rfl rfl (Nat.le_of_ble_eq_true rfl) ⟨Nat.le_of_ble_eq_true rfl, Nat.le_of_ble_eq_true rfl⟩ dX7_most_51 ?_
      refine tt_aload_n (pc := 54) (k := 0) C dX7_most_54 rfl rfl ?_
      refine tt_iload_n (pc := 55) (k := 1) C dX7_most_55 rfl rfl ?_
      refine tt_iload_n (pc := 56) (k := 3) C dX7_most_56 rfl rfl ?_
      obtain ⟨r4, hr4, hf⟩ := bind_some hf
      refine tt_callR (pc := 57) (ws := (mC cy ad sc ar la)) (q0 := 0) (ci := 7) (rest := [.int r3]) (st' := [.int r4, .int r3]) C (k_X7_seenFrom hr4) okX7_seenFrom q6_17 rfl mC_obj (fun _ h => h) rfl rfl rfl (Nat.le_of_ble_eq_true rfl) ⟨Nat.le_of_ble_eq_true rfl, Nat.le_of_ble_eq_true rfl⟩ dX7_most_57 ?_
      have k6 : TT p l e { frames := 5, cells := 0, slots := 0, locals := 125 } s m args below meth c 6 D A false vO wO 69 [(0, .ref (ad 0)), (1, .int v1), (2, .int v2), (4, .int v4), (5, .int v5)] [.int (if r3 ≤ r4 then v3 else v5)] (mC cy ad sc ar la) := by
        refine tt_istore_n (pc := 69) (L' := [(3, .int (if r3 ≤ r4 then v3 else v5)), (0, .ref (ad 0)), (1, .int v1), (2, .int v2), (4, .int v4), (5, .int v5)]) C dX7_most_69 rfl (by decide) rfl ?_
        refine tt_iload (pc := 70) (k := 4) C dX7_most_70 rfl ?_
        refine tt_aload_n (pc := 72) (k := 1) C dX7_most_72 rfl rfl ?_
        refine tt_iload_n (pc := 73) (k := 2) C dX7_most_73 rfl rfl ?_
        refine tt_iload (pc := 74) (k := 5) C dX7_most_74 rfl ?_
        obtain ⟨r7, hr7, hf⟩ := bind_some hf
        refine tt_callR (pc := 76) (ws := (mC cy ad sc ar la)) (q0 := 0) (ci := 7) (rest := [.int v4]) (st' := [.int r7, .int v4]) C (k_X7_seenFrom hr7) okX7_seenFrom q6_17 rfl mC_obj (fun _ h => h) rfl rfl rfl (Nat.le_of_ble_eq_true rfl) ⟨Nat.le_of_ble_eq_true rfl, Nat.le_of_ble_eq_true rfl⟩ dX7_most_76 ?_
        have k9 : TT p l e { frames := 5, cells := 0, slots := 0, locals := 125 } s m args below meth c 6 D A false vO wO 90 [(0, .ref (ad 0)), (1, .int v1), (2, .int v2), (3, .int (if r3 ≤ r4 then v3 else v5)), (5, .int v5)] [.int (if r7 = 0 then ((1 : Int32) <<< (v5 &&& 31)) else (0 : Int32)), .int v4] (mC cy ad sc ar la) := by
          refine tt_ior (pc := 90) C dX7_most_90 ?_
          refine tt_istore (pc := 91) (L' := [(4, .int (v4 ||| (if r7 = 0 then ((1 : Int32) <<< (v5 &&& 31)) else (0 : Int32)))), (0, .ref (ad 0)), (1, .int v1), (2, .int v2), (3, .int (if r3 ≤ r4 then v3 else v5)), (5, .int v5)]) C dX7_most_91 (by decide) rfl ?_
          refine tt_iinc (pc := 93) (k := 5) (v := (v5 + 1)) (L' := [(5, .int (v5 + 1)), (4, .int (v4 ||| (if r7 = 0 then ((1 : Int32) <<< (v5 &&& 31)) else (0 : Int32)))), (0, .ref (ad 0)), (1, .int v1), (2, .int v2), (3, .int (if r3 ≤ r4 then v3 else v5))]) C dX7_most_93 rfl rfl (by decide) rfl ?_
          refine tt_goto (pc := 96) (tgt := 38) C dX7_most_96 (by decide) ?_
          exact tt_locs [2, 3, 4, 5, 1, 0] rfl (ih hf)
        refine tr_if_ne (pc := 79) (tgt := 89) C dX7_most_79 (by decide) (fun c8 => ?_) (fun c8 => ?_)
        · refine tt_iconst (pc := 89) (v := (0 : Int32)) C dX7_most_89 (by decide) ?_
          try simp only [if_neg c8] at k9 ⊢
          exact tt_locs [1, 2, 3, 0, 5] rfl k9
        · refine tt_iconst (pc := 82) (v := (1 : Int32)) C dX7_most_82 (by decide) ?_
          refine tt_iload (pc := 83) (k := 5) C dX7_most_83 rfl ?_
          refine tt_ishl (pc := 85) C dX7_most_85 ?_
          refine tt_goto (pc := 86) (tgt := 90) C dX7_most_86 (by decide) ?_
          try simp only [if_pos c8] at k9 ⊢
          exact tt_locs [1, 2, 3, 0, 5] rfl k9
      refine tr_icmp_le (pc := 60) (tgt := 68) C dX7_most_60 (by decide) (fun c5 => ?_) (fun c5 => ?_)
      · refine tt_iload_n (pc := 68) (k := 3) C dX7_most_68 rfl rfl ?_
        try simp only [if_pos c5] at k6 ⊢
        exact tt_locs [0, 1, 2, 4, 5] rfl k6
      · refine tt_iload (pc := 63) (k := 5) C dX7_most_63 rfl ?_
        refine tt_goto (pc := 65) (tgt := 69) C dX7_most_65 (by decide) ?_
        try simp only [if_neg c5] at k6 ⊢
        exact tt_locs [0, 1, 2, 4, 5] rfl k6
set_option maxHeartbeats 4000000 in
set_option maxRecDepth 100000 in
theorem k_X7_most {l : Launch} {D : va_G} {cy : Nat → ClassId} {Bd : Nat} {xa : Xa} {ad : Nat → Nat} {N : Nat} {sc : Nat → Int32} {ar : Nat → Nat → Int32} {la : Nat → Nat → Int64} {a1 : Int32} {a2 : Int32} {out : Int32 × (Nat → Nat → Int32)} (hf : f_X7_most N sc ar a1 a2 = some out) : KC l yX7_most cX7_most 6 (some .int) 5 125 false D cy Bd xa [.ref (ad 0), .int a1, .int a2] (mC cy ad sc ar la) (some (.int out.1)) (mC cy ad sc out.2 la) := by
  refine kc_start (own := RX7) (by decide +kernel) rfl (Nat.le_of_ble_eq_true rfl) ?_
  intro p e s m args below meth c A C
  unfold f_X7_most at hf
  refine tt_locs (L' := [(0, .ref (ad 0)), (1, .int a1), (2, .int a2)]) [0, 1, 2] rfl ?_
  refine tt_aload_n (pc := 0) (k := 0) C dX7_most_0 rfl rfl ?_
  refine tt_iload_n (pc := 1) (k := 1) C dX7_most_1 rfl rfl ?_
  obtain ⟨r1, hr1, hf⟩ := bind_some hf
  refine tt_callR (pc := 2) (ws := (mC cy ad sc ar la)) (q0 := 0) (ci := 7) (rest := []) (st' := [.int r1]) C (k_X7_isTrain hr1) okX7_isTrain q5_103 rfl mC_obj (fun _ h => h) rfl rfl rfl (Nat.le_of_ble_eq_true rfl) ⟨Nat.le_of_ble_eq_true rfl, Nat.le_of_ble_eq_true rfl⟩ dX7_most_2 ?_
  refine tt_if_ne (pc := 5) (tgt := 14) C dX7_most_5 (by decide) hf (fun hf => ?_) (fun hf => ?_)
  · refine tt_iload_n (pc := 14) (k := 2) C dX7_most_14 rfl rfl ?_
    refine tt_iconst (pc := 15) (v := (0 : Int32)) C dX7_most_15 (by decide) ?_
    refine tt_iconst (pc := 16) (v := (1 : Int32)) C dX7_most_16 (by decide) ?_
    obtain ⟨r2, hr2, hf⟩ := bind_some hf
    refine tt_callS (pc := 17) (ws := (mC cy ad sc ar la)) (rest := []) (st' := [.int r2]) C (k_X7_in hr2) okX7_in q5_52 (fun _ h => absurd h List.not_mem_nil) rfl rfl rfl (Nat.le_of_ble_eq_true rfl) ⟨Nat.le_of_ble_eq_true rfl, Nat.le_of_ble_eq_true rfl⟩ dX7_most_17 ?_
    refine tt_if_ne (pc := 20) (tgt := 30) C dX7_most_20 (by decide) hf (fun hf => ?_) (fun hf => ?_)
    · refine tt_iconst (pc := 30) (v := (0 : Int32)) C dX7_most_30 (by decide) ?_
      refine tt_istore_n (pc := 31) (L' := [(3, .int (0 : Int32)), (0, .ref (ad 0)), (1, .int a1), (2, .int a2)]) C dX7_most_31 rfl (by decide) rfl ?_
      refine tt_iconst (pc := 32) (v := (0 : Int32)) C dX7_most_32 (by decide) ?_
      refine tt_istore (pc := 33) (L' := [(4, .int (0 : Int32)), (3, .int (0 : Int32)), (0, .ref (ad 0)), (1, .int a1), (2, .int a2)]) C dX7_most_33 (by decide) rfl ?_
      refine tt_iconst (pc := 35) (v := (0 : Int32)) C dX7_most_35 (by decide) ?_
      refine tt_istore (pc := 36) (L' := [(5, .int (0 : Int32)), (4, .int (0 : Int32)), (3, .int (0 : Int32)), (0, .ref (ad 0)), (1, .int a1), (2, .int a2)]) C dX7_most_36 (by decide) rfl ?_
      refine tt_locs (L' := [(0, .ref (ad 0)), (1, .int a1), (2, .int a2), (3, .int (0 : Int32)), (4, .int (0 : Int32)), (5, .int (0 : Int32))]) [3, 4, 5, 2, 1, 0] rfl (l_X7_most_38 C (fun x3_10 x4_10 hf => ?_) hf)
      refine tt_iload_n (pc := 99) (k := 0) C dX7_most_99 rfl rfl ?_
      have k11 : TT p l e { frames := 5, cells := 0, slots := 0, locals := 125 } s m args below meth c 6 D A false (some (.int out.1)) (mC cy ad sc out.2 la) 109 [] [.int (if a2 = 0 then x3_10 else x4_10)] (mC cy ad sc ar la) := by
        obtain rfl := Option.some.inj hf
        exact tt_ireturn (pc := 109) C rfl rfl rfl dX7_most_109
      refine tr_if_ne (pc := 100) (tgt := 107) C dX7_most_100 (by decide) (fun c10 => ?_) (fun c10 => ?_)
      · refine tt_iload (pc := 107) (k := 2) C dX7_most_107 rfl ?_
        try simp only [if_neg c10] at k11 ⊢
        exact tt_locs [] rfl k11
      · refine tt_iload_n (pc := 103) (k := 1) C dX7_most_103 rfl rfl ?_
        refine tt_goto (pc := 104) (tgt := 109) C dX7_most_104 (by decide) ?_
        try simp only [if_pos c10] at k11 ⊢
        exact tt_locs [] rfl k11
    · refine tt_aload_n (pc := 23) (k := 0) C dX7_most_23 rfl rfl ?_
      refine tt_bipush (pc := 24) (v := (-2 : Int32)) C dX7_most_24 (by decide) ?_
      obtain ⟨r12, hr12, hf⟩ := bind_some hf
      refine tt_callM (pc := 26) (ws := (mC cy ad sc ar la)) (q0 := 0) (ci := 7) (rest := []) (st' := [.int r12.1]) C rfl (k_X7_no hr12) okX7_no q5_36 rfl mC_obj rfl rfl rfl (Nat.le_of_ble_eq_true rfl) ⟨Nat.le_of_ble_eq_true rfl, Nat.le_of_ble_eq_true rfl⟩ dX7_most_26 ?_
      obtain rfl := Option.some.inj hf
      exact tt_ireturn (pc := 29) C rfl rfl rfl dX7_most_29
  · refine tt_aload_n (pc := 8) (k := 0) C dX7_most_8 rfl rfl ?_
    refine tt_iconst (pc := 9) (v := (-1 : Int32)) C dX7_most_9 (by decide) ?_
    obtain ⟨r13, hr13, hf⟩ := bind_some hf
    refine tt_callM (pc := 10) (ws := (mC cy ad sc ar la)) (q0 := 0) (ci := 7) (rest := []) (st' := [.int r13.1]) C rfl (k_X7_no hr13) okX7_no q5_36 rfl mC_obj rfl rfl rfl (Nat.le_of_ble_eq_true rfl) ⟨Nat.le_of_ble_eq_true rfl, Nat.le_of_ble_eq_true rfl⟩ dX7_most_10 ?_
    obtain rfl := Option.some.inj hf
    exact tt_ireturn (pc := 13) C rfl rfl rfl dX7_most_13
theorem dX7_nearest_0 : decode cX7_nearest 0 = .ok (.aload_n 0, 1) := by decide +kernel
theorem dX7_nearest_1 : decode cX7_nearest 1 = .ok (.iload_n 1, 1) := by decide +kernel
theorem dX7_nearest_2 : decode cX7_nearest 2 = .ok (.invokevirtual 138, 3) := by decide +kernel
theorem dX7_nearest_5 : decode cX7_nearest 5 = .ok (.ifCond .eq 11, 3) := by decide +kernel
theorem dX7_nearest_8 : decode cX7_nearest 8 = .ok (.aload_n 0, 1) := by decide +kernel
theorem dX7_nearest_9 : decode cX7_nearest 9 = .ok (.iload_n 2, 1) := by decide +kernel
theorem dX7_nearest_10 : decode cX7_nearest 10 = .ok (.invokevirtual 121, 3) := by decide +kernel
theorem dX7_nearest_13 : decode cX7_nearest 13 = .ok (.ifCond .ne 9, 3) := by decide +kernel
theorem dX7_nearest_16 : decode cX7_nearest 16 = .ok (.aload_n 0, 1) := by decide +kernel
theorem dX7_nearest_17 : decode cX7_nearest 17 = .ok (.iconst (-1), 1) := by decide +kernel
theorem dX7_nearest_18 : decode cX7_nearest 18 = .ok (.invokevirtual 98, 3) := by decide +kernel
theorem dX7_nearest_21 : decode cX7_nearest 21 = .ok (.ireturn, 1) := by decide +kernel
theorem dX7_nearest_22 : decode cX7_nearest 22 = .ok (.bipush (-9), 2) := by decide +kernel
theorem dX7_nearest_24 : decode cX7_nearest 24 = .ok (.istore_n 3, 1) := by decide +kernel
theorem dX7_nearest_25 : decode cX7_nearest 25 = .ok (.iconst 0, 1) := by decide +kernel
theorem dX7_nearest_26 : decode cX7_nearest 26 = .ok (.istore 4, 2) := by decide +kernel
theorem dX7_nearest_28 : decode cX7_nearest 28 = .ok (.iload 4, 2) := by decide +kernel
theorem dX7_nearest_30 : decode cX7_nearest 30 = .ok (.aload_n 0, 1) := by decide +kernel
theorem dX7_nearest_31 : decode cX7_nearest 31 = .ok (.getfield 109, 3) := by decide +kernel
theorem dX7_nearest_34 : decode cX7_nearest 34 = .ok (.if_icmp .ge 55, 3) := by decide +kernel
theorem dX7_nearest_37 : decode cX7_nearest 37 = .ok (.aload_n 0, 1) := by decide +kernel
theorem dX7_nearest_38 : decode cX7_nearest 38 = .ok (.iload_n 1, 1) := by decide +kernel
theorem dX7_nearest_39 : decode cX7_nearest 39 = .ok (.iload 4, 2) := by decide +kernel
theorem dX7_nearest_41 : decode cX7_nearest 41 = .ok (.iload_n 2, 1) := by decide +kernel
theorem dX7_nearest_42 : decode cX7_nearest 42 = .ok (.invokevirtual 176, 3) := by decide +kernel
theorem dX7_nearest_45 : decode cX7_nearest 45 = .ok (.ifCond .eq 38, 3) := by decide +kernel
theorem dX7_nearest_48 : decode cX7_nearest 48 = .ok (.iload_n 3, 1) := by decide +kernel
theorem dX7_nearest_49 : decode cX7_nearest 49 = .ok (.bipush (-9), 2) := by decide +kernel
theorem dX7_nearest_51 : decode cX7_nearest 51 = .ok (.if_icmp .eq 29, 3) := by decide +kernel
theorem dX7_nearest_54 : decode cX7_nearest 54 = .ok (.aload_n 0, 1) := by decide +kernel
theorem dX7_nearest_55 : decode cX7_nearest 55 = .ok (.getfield 26, 3) := by decide +kernel
theorem dX7_nearest_58 : decode cX7_nearest 58 = .ok (.iload 4, 2) := by decide +kernel
theorem dX7_nearest_60 : decode cX7_nearest 60 = .ok (.iaload, 1) := by decide +kernel
theorem dX7_nearest_61 : decode cX7_nearest 61 = .ok (.iload_n 2, 1) := by decide +kernel
theorem dX7_nearest_62 : decode cX7_nearest 62 = .ok (.isub, 1) := by decide +kernel
theorem dX7_nearest_63 : decode cX7_nearest 63 = .ok (.invokestatic 159, 3) := by decide +kernel
theorem dX7_nearest_66 : decode cX7_nearest 66 = .ok (.aload_n 0, 1) := by decide +kernel
theorem dX7_nearest_67 : decode cX7_nearest 67 = .ok (.getfield 26, 3) := by decide +kernel
theorem dX7_nearest_70 : decode cX7_nearest 70 = .ok (.iload_n 3, 1) := by decide +kernel
theorem dX7_nearest_71 : decode cX7_nearest 71 = .ok (.iaload, 1) := by decide +kernel
theorem dX7_nearest_72 : decode cX7_nearest 72 = .ok (.iload_n 2, 1) := by decide +kernel
theorem dX7_nearest_73 : decode cX7_nearest 73 = .ok (.isub, 1) := by decide +kernel
theorem dX7_nearest_74 : decode cX7_nearest 74 = .ok (.invokestatic 159, 3) := by decide +kernel
theorem dX7_nearest_77 : decode cX7_nearest 77 = .ok (.if_icmp .ge 6, 3) := by decide +kernel
theorem dX7_nearest_80 : decode cX7_nearest 80 = .ok (.iload 4, 2) := by decide +kernel
theorem dX7_nearest_82 : decode cX7_nearest 82 = .ok (.istore_n 3, 1) := by decide +kernel
theorem dX7_nearest_83 : decode cX7_nearest 83 = .ok (.iinc 4 1, 3) := by decide +kernel
theorem dX7_nearest_86 : decode cX7_nearest 86 = .ok (.goto (-58), 3) := by decide +kernel
theorem dX7_nearest_89 : decode cX7_nearest 89 = .ok (.iload_n 3, 1) := by decide +kernel
theorem dX7_nearest_90 : decode cX7_nearest 90 = .ok (.ireturn, 1) := by decide +kernel
set_option maxHeartbeats 4000000 in
set_option maxRecDepth 100000 in
theorem l_X7_nearest_28 {p : Program} {l : Launch} {e : Env} {s : State} {m : MethodId} {args : Array Value} {below : List Frame} {meth : Method} {c : Code} {D : va_G} {cy : Nat → ClassId} {A : Nat → Prop} {Bd : Nat} {xa : Xa} {ad : Nat → Nat} {β : Type} {vO : Option Value} {wO : va_W} {N : Nat} {sc : Nat → Int32} {ar : Nat → Nat → Int32} {la : Nat → Nat → Int64} {v1 : Int32} {v2 : Int32} {kx : Int32 → Option (β)} {out : β} (C : CC p s m args meth c cX7_nearest RX7 5 (some .int) D cy A false Bd xa) (hk : ∀ (x3 : Int32), kx x3 = some out → TT p l e { frames := 4, cells := 0, slots := 0, locals := 101 } s m args below meth c 5 D A false vO wO 89 [(3, .int x3)] [] (mC cy ad sc ar la)) {n : Nat} {v3 : Int32} {v4 : Int32} (hf : f_X7_nearest_L28 N sc ar v1 v2 kx n v3 v4 = some out) : TT p l e { frames := 4, cells := 0, slots := 0, locals := 101 } s m args below meth c 5 D A false vO wO 28 [(0, .ref (ad 0)), (1, .int v1), (2, .int v2), (3, .int v3), (4, .int v4)] [] (mC cy ad sc ar la) := by
  induction n generalizing v3 v4 with
  | zero => cases hf
  | succ n ih =>
    rw [f_X7_nearest_L28] at hf
    refine tt_iload (pc := 28) (k := 4) C dX7_nearest_28 rfl ?_
    refine tt_aload_n (pc := 30) (k := 0) C dX7_nearest_30 rfl rfl ?_
    refine tt_get (pc := 31) (ws := (mC cy ad sc ar la)) (ci := 7) (v := .int (sc 6)) C fiX7 rfl 0 mC_obj 6 (by decide) q4_166 rfl dX7_nearest_31 ?_
    refine tt_icmp_ge (pc := 34) (tgt := 89) C dX7_nearest_34 (by decide) hf (fun hf => ?_) (fun hf => ?_)
    · exact tt_locs [3] rfl (hk _ hf)
    · refine tt_aload_n (pc := 37) (k := 0) C dX7_nearest_37 rfl rfl ?_
      refine tt_iload_n (pc := 38) (k := 1) C dX7_nearest_38 rfl rfl ?_
      refine tt_iload (pc := 39) (k := 4) C dX7_nearest_39 rfl ?_
      refine tt_iload_n (pc := 41) (k := 2) C dX7_nearest_41 rfl rfl ?_
      obtain ⟨r4, hr4, hf⟩ := bind_some hf
      refine tt_callR (pc := 42) (ws := (mC cy ad sc ar la)) (q0 := 0) (ci := 7) (rest := []) (st' := [.int r4]) C (k_X7_isSeen hr4) okX7_isSeen q5_155 rfl mC_obj (fun _ h => h) rfl rfl rfl (Nat.le_of_ble_eq_true rfl) ⟨Nat.le_of_ble_eq_true rfl, Nat.le_of_ble_eq_true rfl⟩ dX7_nearest_42 ?_
      obtain ⟨j5, hj5, hf⟩ := bind_some hf
      have k6 : TT p l e { frames := 4, cells := 0, slots := 0, locals := 101 } s m args below meth c 5 D A false vO wO 83 [(0, .ref (ad 0)), (1, .int v1), (2, .int v2), (3, .int j5), (4, .int v4)] [] (mC cy ad sc ar la) := by
        refine tt_iinc (pc := 83) (k := 4) (v := (v4 + 1)) (L' := [(4, .int (v4 + 1)), (0, .ref (ad 0)), (1, .int v1), (2, .int v2), (3, .int j5)]) C dX7_nearest_83 rfl rfl (by decide) rfl ?_
        refine tt_goto (pc := 86) (tgt := 28) C dX7_nearest_86 (by decide) ?_
        exact tt_locs [1, 2, 3, 4, 0] rfl (ih hf)
      refine tt_if_eq (pc := 45) (tgt := 83) C dX7_nearest_45 (by decide) hj5 (fun hj5 => ?_) (fun hj5 => ?_)
      · obtain rfl := Option.some.inj hj5
        exact tt_locs [0, 1, 2, 3, 4] rfl k6
      · refine tt_iload_n (pc := 48) (k := 3) C dX7_nearest_48 rfl rfl ?_
        refine tt_bipush (pc := 49) (v := (-9 : Int32)) C dX7_nearest_49 (by decide) ?_
        obtain ⟨j7, hj7, hj5⟩ := bind_some hj5
        have k8 : TT p l e { frames := 4, cells := 0, slots := 0, locals := 101 } s m args below meth c 5 D A false vO wO 83 [(0, .ref (ad 0)), (1, .int v1), (2, .int v2), (3, .int j7), (4, .int v4)] [] (mC cy ad sc ar la) := by
          obtain rfl := Option.some.inj hj5
          exact tt_locs [0, 1, 2, 3, 4] rfl k6
        refine tt_icmp_eq (pc := 51) (tgt := 80) C dX7_nearest_51 (by decide) hj7 (fun hj7 => ?_) (fun hj7 => ?_)
        · refine tt_iload (pc := 80) (k := 4) C dX7_nearest_80 rfl ?_
          refine tt_istore_n (pc := 82) (L' := [(3, .int v4), (0, .ref (ad 0)), (1, .int v1), (2, .int v2), (4, .int v4)]) C dX7_nearest_82 rfl (by decide) rfl ?_
          obtain rfl := Option.some.inj hj7
          exact tt_locs [1, 2, 3, 0, 4] rfl k8
        · refine tt_aload_n (pc := 54) (k := 0) C dX7_nearest_54 rfl rfl ?_
          refine tt_get (pc := 55) (ws := (mC cy ad sc ar la)) (ci := 7) (v := .ref (ad 7)) C fiX7 rfl 0 mC_obj 7 (by decide) q4_167 rfl dX7_nearest_55 ?_
          refine tt_iload (pc := 58) (k := 4) C dX7_nearest_58 rfl ?_
          refine tt_iaload (pc := 60) (ws := (mC cy ad sc ar la)) (n := 5) (f := (ar 7)) C 5 0 mC_get7 rfl hj7 dX7_nearest_60 (fun hj7 => ?_)
          refine tt_iload_n (pc := 61) (k := 2) C dX7_nearest_61 rfl rfl ?_
          refine tt_isub (pc := 62) C dX7_nearest_62 ?_
          refine tt_abs (pc := 63) C q5_143 q3_165 q1_14 q3_166 (Nat.le_of_ble_eq_true rfl) (Nat.le_of_ble_eq_true rfl) dX7_nearest_63 ?_
          refine tt_aload_n (pc := 66) (k := 0) C dX7_nearest_66 rfl rfl ?_
          refine tt_get (pc := 67) (ws := (mC cy ad sc ar la)) (ci := 7) (v := .ref (ad 7)) C fiX7 rfl 0 mC_obj 7 (by decide) q4_167 rfl dX7_nearest_67 ?_
          refine tt_iload_n (pc := 70) (k := 3) C dX7_nearest_70 rfl rfl ?_
          refine tt_iaload (pc := 71) (ws := (mC cy ad sc ar la)) (n := 5) (f := (ar 7)) C 5 0 mC_get7 rfl hj7 dX7_nearest_71 (fun hj7 => ?_)
          refine tt_iload_n (pc := 72) (k := 2) C dX7_nearest_72 rfl rfl ?_
          refine tt_isub (pc := 73) C dX7_nearest_73 ?_
          refine tt_abs (pc := 74) C q5_143 q3_165 q1_14 q3_166 (Nat.le_of_ble_eq_true rfl) (Nat.le_of_ble_eq_true rfl) dX7_nearest_74 ?_
          have k10 : TT p l e { frames := 4, cells := 0, slots := 0, locals := 101 } s m args below meth c 5 D A false vO wO 83 [(0, .ref (ad 0)), (1, .int v1), (2, .int v2), (3, .int (if (if 0 ≤ (((ar 7) (ix v3)) - v2) then (((ar 7) (ix v3)) - v2) else 0 - (((ar 7) (ix v3)) - v2)) ≤ (if 0 ≤ (((ar 7) (ix v4)) - v2) then (((ar 7) (ix v4)) - v2) else 0 - (((ar 7) (ix v4)) - v2)) then v3 else v4)), (4, .int v4)] [] (mC cy ad sc ar la) := by
            obtain rfl := Option.some.inj hj7
            exact tt_locs [0, 1, 2, 3, 4] rfl k8
          refine tr_icmp_ge (pc := 77) (tgt := 83) C dX7_nearest_77 (by decide) (fun c9 => ?_) (fun c9 => ?_)
          · try simp only [if_pos c9] at k10 ⊢
            exact tt_locs [0, 1, 2, 3, 4] rfl k10
          · refine tt_iload (pc := 80) (k := 4) C dX7_nearest_80 rfl ?_
            refine tt_istore_n (pc := 82) (L' := [(3, .int v4), (0, .ref (ad 0)), (1, .int v1), (2, .int v2), (4, .int v4)]) C dX7_nearest_82 rfl (by decide) rfl ?_
            try simp only [if_neg c9] at k10 ⊢
            exact tt_locs [1, 2, 3, 0, 4] rfl k10
set_option maxHeartbeats 4000000 in
set_option maxRecDepth 100000 in
theorem k_X7_nearest {l : Launch} {D : va_G} {cy : Nat → ClassId} {Bd : Nat} {xa : Xa} {ad : Nat → Nat} {N : Nat} {sc : Nat → Int32} {ar : Nat → Nat → Int32} {la : Nat → Nat → Int64} {a1 : Int32} {a2 : Int32} {out : Int32 × (Nat → Nat → Int32)} (hf : f_X7_nearest N sc ar a1 a2 = some out) : KC l yX7_nearest cX7_nearest 5 (some .int) 4 101 false D cy Bd xa [.ref (ad 0), .int a1, .int a2] (mC cy ad sc ar la) (some (.int out.1)) (mC cy ad sc out.2 la) := by
  refine kc_start (own := RX7) (by decide +kernel) rfl (Nat.le_of_ble_eq_true rfl) ?_
  intro p e s m args below meth c A C
  unfold f_X7_nearest at hf
  refine tt_locs (L' := [(0, .ref (ad 0)), (1, .int a1), (2, .int a2)]) [0, 1, 2] rfl ?_
  refine tt_aload_n (pc := 0) (k := 0) C dX7_nearest_0 rfl rfl ?_
  refine tt_iload_n (pc := 1) (k := 1) C dX7_nearest_1 rfl rfl ?_
  obtain ⟨r1, hr1, hf⟩ := bind_some hf
  refine tt_callR (pc := 2) (ws := (mC cy ad sc ar la)) (q0 := 0) (ci := 7) (rest := []) (st' := [.int r1]) C (k_X7_isTrain hr1) okX7_isTrain q5_103 rfl mC_obj (fun _ h => h) rfl rfl rfl (Nat.le_of_ble_eq_true rfl) ⟨Nat.le_of_ble_eq_true rfl, Nat.le_of_ble_eq_true rfl⟩ dX7_nearest_2 ?_
  refine tt_if_eq (pc := 5) (tgt := 16) C dX7_nearest_5 (by decide) hf (fun hf => ?_) (fun hf => ?_)
  · refine tt_aload_n (pc := 16) (k := 0) C dX7_nearest_16 rfl rfl ?_
    refine tt_iconst (pc := 17) (v := (-1 : Int32)) C dX7_nearest_17 (by decide) ?_
    obtain ⟨r2, hr2, hf⟩ := bind_some hf
    refine tt_callM (pc := 18) (ws := (mC cy ad sc ar la)) (q0 := 0) (ci := 7) (rest := []) (st' := [.int r2.1]) C rfl (k_X7_no hr2) okX7_no q5_36 rfl mC_obj rfl rfl rfl (Nat.le_of_ble_eq_true rfl) ⟨Nat.le_of_ble_eq_true rfl, Nat.le_of_ble_eq_true rfl⟩ dX7_nearest_18 ?_
    obtain rfl := Option.some.inj hf
    exact tt_ireturn (pc := 21) C rfl rfl rfl dX7_nearest_21
  · refine tt_aload_n (pc := 8) (k := 0) C dX7_nearest_8 rfl rfl ?_
    refine tt_iload_n (pc := 9) (k := 2) C dX7_nearest_9 rfl rfl ?_
    obtain ⟨r3, hr3, hf⟩ := bind_some hf
    refine tt_callR (pc := 10) (ws := (mC cy ad sc ar la)) (q0 := 0) (ci := 7) (rest := []) (st' := [.int r3]) C (k_X7_isCell hr3) okX7_isCell q5_48 rfl mC_obj (fun _ h => h) rfl rfl rfl (Nat.le_of_ble_eq_true rfl) ⟨Nat.le_of_ble_eq_true rfl, Nat.le_of_ble_eq_true rfl⟩ dX7_nearest_10 ?_
    refine tt_if_ne (pc := 13) (tgt := 22) C dX7_nearest_13 (by decide) hf (fun hf => ?_) (fun hf => ?_)
    · refine tt_bipush (pc := 22) (v := (-9 : Int32)) C dX7_nearest_22 (by decide) ?_
      refine tt_istore_n (pc := 24) (L' := [(3, .int (-9 : Int32)), (0, .ref (ad 0)), (1, .int a1), (2, .int a2)]) C dX7_nearest_24 rfl (by decide) rfl ?_
      refine tt_iconst (pc := 25) (v := (0 : Int32)) C dX7_nearest_25 (by decide) ?_
      refine tt_istore (pc := 26) (L' := [(4, .int (0 : Int32)), (3, .int (-9 : Int32)), (0, .ref (ad 0)), (1, .int a1), (2, .int a2)]) C dX7_nearest_26 (by decide) rfl ?_
      refine tt_locs (L' := [(0, .ref (ad 0)), (1, .int a1), (2, .int a2), (3, .int (-9 : Int32)), (4, .int (0 : Int32))]) [2, 3, 4, 1, 0] rfl (l_X7_nearest_28 C (fun x3_11 hf => ?_) hf)
      refine tt_iload_n (pc := 89) (k := 0) C dX7_nearest_89 rfl rfl ?_
      obtain rfl := Option.some.inj hf
      exact tt_ireturn (pc := 90) C rfl rfl rfl dX7_nearest_90
    · refine tt_aload_n (pc := 16) (k := 0) C dX7_nearest_16 rfl rfl ?_
      refine tt_iconst (pc := 17) (v := (-1 : Int32)) C dX7_nearest_17 (by decide) ?_
      obtain ⟨r11, hr11, hf⟩ := bind_some hf
      refine tt_callM (pc := 18) (ws := (mC cy ad sc ar la)) (q0 := 0) (ci := 7) (rest := []) (st' := [.int r11.1]) C rfl (k_X7_no hr11) okX7_no q5_36 rfl mC_obj rfl rfl rfl (Nat.le_of_ble_eq_true rfl) ⟨Nat.le_of_ble_eq_true rfl, Nat.le_of_ble_eq_true rfl⟩ dX7_nearest_18 ?_
      obtain rfl := Option.some.inj hf
      exact tt_ireturn (pc := 21) C rfl rfl rfl dX7_nearest_21
theorem dX7_shadow_0 : decode cX7_shadow 0 = .ok (.aload_n 0, 1) := by decide +kernel
theorem dX7_shadow_1 : decode cX7_shadow 1 = .ok (.iload_n 1, 1) := by decide +kernel
theorem dX7_shadow_2 : decode cX7_shadow 2 = .ok (.invokevirtual 125, 3) := by decide +kernel
theorem dX7_shadow_5 : decode cX7_shadow 5 = .ok (.ifCond .eq 19, 3) := by decide +kernel
theorem dX7_shadow_8 : decode cX7_shadow 8 = .ok (.aload_n 0, 1) := by decide +kernel
theorem dX7_shadow_9 : decode cX7_shadow 9 = .ok (.iload_n 2, 1) := by decide +kernel
theorem dX7_shadow_10 : decode cX7_shadow 10 = .ok (.invokevirtual 138, 3) := by decide +kernel
theorem dX7_shadow_13 : decode cX7_shadow 13 = .ok (.ifCond .eq 11, 3) := by decide +kernel
theorem dX7_shadow_16 : decode cX7_shadow 16 = .ok (.aload_n 0, 1) := by decide +kernel
theorem dX7_shadow_17 : decode cX7_shadow 17 = .ok (.iload_n 3, 1) := by decide +kernel
theorem dX7_shadow_18 : decode cX7_shadow 18 = .ok (.invokevirtual 131, 3) := by decide +kernel
theorem dX7_shadow_21 : decode cX7_shadow 21 = .ok (.ifCond .ne 9, 3) := by decide +kernel
theorem dX7_shadow_24 : decode cX7_shadow 24 = .ok (.aload_n 0, 1) := by decide +kernel
theorem dX7_shadow_25 : decode cX7_shadow 25 = .ok (.iconst (-1), 1) := by decide +kernel
theorem dX7_shadow_26 : decode cX7_shadow 26 = .ok (.invokevirtual 98, 3) := by decide +kernel
theorem dX7_shadow_29 : decode cX7_shadow 29 = .ok (.ireturn, 1) := by decide +kernel
theorem dX7_shadow_30 : decode cX7_shadow 30 = .ok (.iconst 0, 1) := by decide +kernel
theorem dX7_shadow_31 : decode cX7_shadow 31 = .ok (.istore 4, 2) := by decide +kernel
theorem dX7_shadow_33 : decode cX7_shadow 33 = .ok (.iconst 0, 1) := by decide +kernel
theorem dX7_shadow_34 : decode cX7_shadow 34 = .ok (.istore 5, 2) := by decide +kernel
theorem dX7_shadow_36 : decode cX7_shadow 36 = .ok (.iload 5, 2) := by decide +kernel
theorem dX7_shadow_38 : decode cX7_shadow 38 = .ok (.aload_n 0, 1) := by decide +kernel
theorem dX7_shadow_39 : decode cX7_shadow 39 = .ok (.getfield 7, 3) := by decide +kernel
theorem dX7_shadow_42 : decode cX7_shadow 42 = .ok (.if_icmp .ge 60, 3) := by decide +kernel
theorem dX7_shadow_45 : decode cX7_shadow 45 = .ok (.aload_n 0, 1) := by decide +kernel
theorem dX7_shadow_46 : decode cX7_shadow 46 = .ok (.iconst 1, 1) := by decide +kernel
theorem dX7_shadow_47 : decode cX7_shadow 47 = .ok (.iload_n 1, 1) := by decide +kernel
theorem dX7_shadow_48 : decode cX7_shadow 48 = .ok (.ishl, 1) := by decide +kernel
theorem dX7_shadow_49 : decode cX7_shadow 49 = .ok (.putfield 165, 3) := by decide +kernel
theorem dX7_shadow_52 : decode cX7_shadow 52 = .ok (.aload_n 0, 1) := by decide +kernel
theorem dX7_shadow_53 : decode cX7_shadow 53 = .ok (.iload_n 2, 1) := by decide +kernel
theorem dX7_shadow_54 : decode cX7_shadow 54 = .ok (.iload_n 3, 1) := by decide +kernel
theorem dX7_shadow_55 : decode cX7_shadow 55 = .ok (.iload 5, 2) := by decide +kernel
theorem dX7_shadow_57 : decode cX7_shadow 57 = .ok (.invokevirtual 176, 3) := by decide +kernel
theorem dX7_shadow_60 : decode cX7_shadow 60 = .ok (.istore 6, 2) := by decide +kernel
theorem dX7_shadow_62 : decode cX7_shadow 62 = .ok (.aload_n 0, 1) := by decide +kernel
theorem dX7_shadow_63 : decode cX7_shadow 63 = .ok (.iconst 0, 1) := by decide +kernel
theorem dX7_shadow_64 : decode cX7_shadow 64 = .ok (.putfield 165, 3) := by decide +kernel
theorem dX7_shadow_67 : decode cX7_shadow 67 = .ok (.iload 4, 2) := by decide +kernel
theorem dX7_shadow_69 : decode cX7_shadow 69 = .ok (.iload 6, 2) := by decide +kernel
theorem dX7_shadow_71 : decode cX7_shadow 71 = .ok (.ifCond .eq 21, 3) := by decide +kernel
theorem dX7_shadow_74 : decode cX7_shadow 74 = .ok (.aload_n 0, 1) := by decide +kernel
theorem dX7_shadow_75 : decode cX7_shadow 75 = .ok (.iload_n 2, 1) := by decide +kernel
theorem dX7_shadow_76 : decode cX7_shadow 76 = .ok (.iload_n 3, 1) := by decide +kernel
theorem dX7_shadow_77 : decode cX7_shadow 77 = .ok (.iload 5, 2) := by decide +kernel
theorem dX7_shadow_79 : decode cX7_shadow 79 = .ok (.invokevirtual 176, 3) := by decide +kernel
theorem dX7_shadow_82 : decode cX7_shadow 82 = .ok (.ifCond .ne 10, 3) := by decide +kernel
theorem dX7_shadow_85 : decode cX7_shadow 85 = .ok (.iconst 1, 1) := by decide +kernel
theorem dX7_shadow_86 : decode cX7_shadow 86 = .ok (.iload 5, 2) := by decide +kernel
theorem dX7_shadow_88 : decode cX7_shadow 88 = .ok (.ishl, 1) := by decide +kernel
theorem dX7_shadow_89 : decode cX7_shadow 89 = .ok (.goto 4, 3) := by decide +kernel
theorem dX7_shadow_92 : decode cX7_shadow 92 = .ok (.iconst 0, 1) := by decide +kernel
theorem dX7_shadow_93 : decode cX7_shadow 93 = .ok (.ior, 1) := by decide +kernel
theorem dX7_shadow_94 : decode cX7_shadow 94 = .ok (.istore 4, 2) := by decide +kernel
theorem dX7_shadow_96 : decode cX7_shadow 96 = .ok (.iinc 5 1, 3) := by decide +kernel
theorem dX7_shadow_99 : decode cX7_shadow 99 = .ok (.goto (-63), 3) := by decide +kernel
theorem dX7_shadow_102 : decode cX7_shadow 102 = .ok (.iload 4, 2) := by decide +kernel
theorem dX7_shadow_104 : decode cX7_shadow 104 = .ok (.ireturn, 1) := by decide +kernel
set_option maxHeartbeats 4000000 in
set_option maxRecDepth 100000 in
theorem l_X7_shadow_36 {p : Program} {l : Launch} {e : Env} {s : State} {m : MethodId} {args : Array Value} {below : List Frame} {meth : Method} {c : Code} {D : va_G} {cy : Nat → ClassId} {A : Nat → Prop} {Bd : Nat} {xa : Xa} {ad : Nat → Nat} {β : Type} {vO : Option Value} {wO : va_W} {N : Nat} {ar : Nat → Nat → Int32} {la : Nat → Nat → Int64} {v1 : Int32} {v2 : Int32} {v3 : Int32} {kx : Int32 → (Nat → Int32) → Option (β)} {out : β} (C : CC p s m args meth c cX7_shadow RX7 7 (some .int) D cy A false Bd xa) (hk : ∀ (x4 : Int32) (sc1 : Nat → Int32), kx x4 sc1 = some out → TT p l e { frames := 4, cells := 0, slots := 0, locals := 101 } s m args below meth c 7 D A false vO wO 102 [(4, .int x4)] [] (mC cy ad sc1 ar la)) {n : Nat} {v4 : Int32} {v5 : Int32} {sc : Nat → Int32} (hf : f_X7_shadow_L36 N ar v1 v2 v3 kx n v4 v5 sc = some out) : TT p l e { frames := 4, cells := 0, slots := 0, locals := 101 } s m args below meth c 7 D A false vO wO 36 [(0, .ref (ad 0)), (1, .int v1), (2, .int v2), (3, .int v3), (4, .int v4), (5, .int v5)] [] (mC cy ad sc ar la) := by
  induction n generalizing v4 v5 sc with
  | zero => cases hf
  | succ n ih =>
    rw [f_X7_shadow_L36] at hf
    refine tt_iload (pc := 36) (k := 5) C dX7_shadow_36 rfl ?_
    refine tt_aload_n (pc := 38) (k := 0) C dX7_shadow_38 rfl rfl ?_
    refine tt_get (pc := 39) (ws := (mC cy ad sc ar la)) (ci := 7) (v := .int (sc 0)) C fiX7 rfl 0 mC_obj 0 (by decide) q4_160 rfl dX7_shadow_39 ?_
    refine tt_icmp_ge (pc := 42) (tgt := 102) C dX7_shadow_42 (by decide) hf (fun hf => ?_) (fun hf => ?_)
    · exact tt_locs [4] rfl (hk _ _ hf)
    · refine tt_aload_n (pc := 45) (k := 0) C dX7_shadow_45 rfl rfl ?_
      refine tt_iconst (pc := 46) (v := (1 : Int32)) C dX7_shadow_46 (by decide) ?_
      refine tt_iload_n (pc := 47) (k := 1) C dX7_shadow_47 rfl rfl ?_
      refine tt_ishl (pc := 48) C dX7_shadow_48 ?_
      refine tt_put (pc := 49) (ws := (mC cy ad sc ar la)) (ci := 7) (ty := .int) (ws' := (mC cy ad (upd sc 25 ((1 : Int32) <<< (v1 &&& 31))) ar la)) C rfl fiX7 rfl 0 mC_obj 25 (by decide) q4_185 rfl rfl rfl rfl (Nat.le_of_ble_eq_true rfl) dX7_shadow_49 mC_put25 ?_
      refine tt_aload_n (pc := 52) (k := 0) C dX7_shadow_52 rfl rfl ?_
      refine tt_iload_n (pc := 53) (k := 2) C dX7_shadow_53 rfl rfl ?_
      refine tt_iload_n (pc := 54) (k := 3) C dX7_shadow_54 rfl rfl ?_
      refine tt_iload (pc := 55) (k := 5) C dX7_shadow_55 rfl ?_
      obtain ⟨r6, hr6, hf⟩ := bind_some hf
      refine tt_callR (pc := 57) (ws := (mC cy ad (upd sc 25 ((1 : Int32) <<< (v1 &&& 31))) ar la)) (q0 := 0) (ci := 7) (rest := []) (st' := [.int r6]) C (k_X7_isSeen hr6) okX7_isSeen q5_155 rfl mC_obj (fun _ h => h) rfl rfl rfl (Nat.le_of_ble_eq_true rfl) ⟨Nat.le_of_ble_eq_true rfl, Nat.le_of_ble_eq_true rfl⟩ dX7_shadow_57 ?_
      refine tt_istore (pc := 60) (L' := [(6, .int r6), (0, .ref (ad 0)), (1, .int v1), (2, .int v2), (3, .int v3), (4, .int v4), (5, .int v5)]) C dX7_shadow_60 (by decide) rfl ?_
      refine tt_aload_n (pc := 62) (k := 1) C dX7_shadow_62 rfl rfl ?_
      refine tt_iconst (pc := 63) (v := (0 : Int32)) C dX7_shadow_63 (by decide) ?_
      refine tt_put (pc := 64) (ws := (mC cy ad (upd sc 25 ((1 : Int32) <<< (v1 &&& 31))) ar la)) (ci := 7) (ty := .int) (ws' := (mC cy ad (upd (upd sc 25 ((1 : Int32) <<< (v1 &&& 31))) 25 (0 : Int32)) ar la)) C rfl fiX7 rfl 0 mC_obj 25 (by decide) q4_185 rfl rfl rfl rfl (Nat.le_of_ble_eq_true rfl) dX7_shadow_64 mC_put25 ?_
      refine tt_iload (pc := 67) (k := 5) C dX7_shadow_67 rfl ?_
      refine tt_iload (pc := 69) (k := 0) C dX7_shadow_69 rfl ?_
      obtain ⟨j7, hj7, hf⟩ := bind_some hf
      have k8 : TT p l e { frames := 4, cells := 0, slots := 0, locals := 101 } s m args below meth c 7 D A false vO wO 93 [(0, .ref (ad 0)), (1, .int v1), (2, .int v2), (3, .int v3), (5, .int v5)] [.int j7, .int v4] (mC cy ad (upd (upd sc 25 ((1 : Int32) <<< (v1 &&& 31))) 25 (0 : Int32)) ar la) := by
        refine tt_ior (pc := 93) C dX7_shadow_93 ?_
        refine tt_istore (pc := 94) (L' := [(4, .int (v4 ||| j7)), (0, .ref (ad 0)), (1, .int v1), (2, .int v2), (3, .int v3), (5, .int v5)]) C dX7_shadow_94 (by decide) rfl ?_
        refine tt_iinc (pc := 96) (k := 5) (v := (v5 + 1)) (L' := [(5, .int (v5 + 1)), (4, .int (v4 ||| j7)), (0, .ref (ad 0)), (1, .int v1), (2, .int v2), (3, .int v3)]) C dX7_shadow_96 rfl rfl (by decide) rfl ?_
        refine tt_goto (pc := 99) (tgt := 36) C dX7_shadow_99 (by decide) ?_
        exact tt_locs [2, 3, 4, 5, 1, 0] rfl (ih hf)
      refine tt_if_eq (pc := 71) (tgt := 92) C dX7_shadow_71 (by decide) hj7 (fun hj7 => ?_) (fun hj7 => ?_)
      · refine tt_iconst (pc := 92) (v := (0 : Int32)) C dX7_shadow_92 (by decide) ?_
        obtain rfl := Option.some.inj hj7
        exact tt_locs [1, 2, 3, 4, 6] rfl k8
      · refine tt_aload_n (pc := 74) (k := 1) C dX7_shadow_74 rfl rfl ?_
        refine tt_iload_n (pc := 75) (k := 3) C dX7_shadow_75 rfl rfl ?_
        refine tt_iload_n (pc := 76) (k := 4) C dX7_shadow_76 rfl rfl ?_
        refine tt_iload (pc := 77) (k := 6) C dX7_shadow_77 rfl ?_
        obtain ⟨r9, hr9, hj7⟩ := bind_some hj7
        refine tt_callR (pc := 79) (ws := (mC cy ad (upd (upd sc 25 ((1 : Int32) <<< (v1 &&& 31))) 25 (0 : Int32)) ar la)) (q0 := 0) (ci := 7) (rest := [.int v4]) (st' := [.int r9, .int v4]) C (k_X7_isSeen hr9) okX7_isSeen q5_155 rfl mC_obj (fun _ h => h) rfl rfl rfl (Nat.le_of_ble_eq_true rfl) ⟨Nat.le_of_ble_eq_true rfl, Nat.le_of_ble_eq_true rfl⟩ dX7_shadow_79 ?_
        have k11 : TT p l e { frames := 4, cells := 0, slots := 0, locals := 101 } s m args below meth c 7 D A false vO wO 93 [(0, .ref (ad 0)), (1, .int v1), (2, .int v2), (3, .int v3), (5, .int v5)] [.int (if r9 = 0 then ((1 : Int32) <<< (v5 &&& 31)) else (0 : Int32)), .int v4] (mC cy ad (upd (upd sc 25 ((1 : Int32) <<< (v1 &&& 31))) 25 (0 : Int32)) ar la) := by
          obtain rfl := Option.some.inj hj7
          exact tt_locs [0, 1, 2, 3, 4] rfl k8
        refine tr_if_ne (pc := 82) (tgt := 92) C dX7_shadow_82 (by decide) (fun c10 => ?_) (fun c10 => ?_)
        · refine tt_iconst (pc := 92) (v := (0 : Int32)) C dX7_shadow_92 (by decide) ?_
          try simp only [if_neg c10] at k11 ⊢
          exact tt_locs [1, 2, 3, 4, 6] rfl k11
        · refine tt_iconst (pc := 85) (v := (1 : Int32)) C dX7_shadow_85 (by decide) ?_
          refine tt_iload (pc := 86) (k := 6) C dX7_shadow_86 rfl ?_
          refine tt_ishl (pc := 88) C dX7_shadow_88 ?_
          refine tt_goto (pc := 89) (tgt := 93) C dX7_shadow_89 (by decide) ?_
          try simp only [if_pos c10] at k11 ⊢
          exact tt_locs [1, 2, 3, 4, 6] rfl k11
set_option maxHeartbeats 4000000 in
set_option maxRecDepth 100000 in
theorem k_X7_shadow {l : Launch} {D : va_G} {cy : Nat → ClassId} {Bd : Nat} {xa : Xa} {ad : Nat → Nat} {N : Nat} {sc : Nat → Int32} {ar : Nat → Nat → Int32} {la : Nat → Nat → Int64} {a1 : Int32} {a2 : Int32} {a3 : Int32} {out : Int32 × (Nat → Int32) × (Nat → Nat → Int32)} (hf : f_X7_shadow N sc ar a1 a2 a3 = some out) : KC l yX7_shadow cX7_shadow 7 (some .int) 4 101 false D cy Bd xa [.ref (ad 0), .int a1, .int a2, .int a3] (mC cy ad sc ar la) (some (.int out.1)) (mC cy ad out.2.1 out.2.2 la) := by
  refine kc_start (own := RX7) (by decide +kernel) rfl (Nat.le_of_ble_eq_true rfl) ?_
  intro p e s m args below meth c A C
  unfold f_X7_shadow at hf
  refine tt_locs (L' := [(0, .ref (ad 0)), (1, .int a1), (2, .int a2), (3, .int a3)]) [0, 1, 2, 3] rfl ?_
  refine tt_aload_n (pc := 0) (k := 0) C dX7_shadow_0 rfl rfl ?_
  refine tt_iload_n (pc := 1) (k := 1) C dX7_shadow_1 rfl rfl ?_
  obtain ⟨r1, hr1, hf⟩ := bind_some hf
  refine tt_callR (pc := 2) (ws := (mC cy ad sc ar la)) (q0 := 0) (ci := 7) (rest := []) (st' := [.int r1]) C (k_X7_isBridge hr1) okX7_isBridge q5_63 rfl mC_obj (fun _ h => h) rfl rfl rfl (Nat.le_of_ble_eq_true rfl) ⟨Nat.le_of_ble_eq_true rfl, Nat.le_of_ble_eq_true rfl⟩ dX7_shadow_2 ?_
  refine tt_if_eq (pc := 5) (tgt := 24) C dX7_shadow_5 (by decide) hf (fun hf => ?_) (fun hf => ?_)
  · refine tt_aload_n (pc := 24) (k := 0) C dX7_shadow_24 rfl rfl ?_
    refine tt_iconst (pc := 25) (v := (-1 : Int32)) C dX7_shadow_25 (by decide) ?_
    obtain ⟨r2, hr2, hf⟩ := bind_some hf
    refine tt_callM (pc := 26) (ws := (mC cy ad sc ar la)) (q0 := 0) (ci := 7) (rest := []) (st' := [.int r2.1]) C rfl (k_X7_no hr2) okX7_no q5_36 rfl mC_obj rfl rfl rfl (Nat.le_of_ble_eq_true rfl) ⟨Nat.le_of_ble_eq_true rfl, Nat.le_of_ble_eq_true rfl⟩ dX7_shadow_26 ?_
    obtain rfl := Option.some.inj hf
    exact tt_ireturn (pc := 29) C rfl rfl rfl dX7_shadow_29
  · refine tt_aload_n (pc := 8) (k := 0) C dX7_shadow_8 rfl rfl ?_
    refine tt_iload_n (pc := 9) (k := 2) C dX7_shadow_9 rfl rfl ?_
    obtain ⟨r3, hr3, hf⟩ := bind_some hf
    refine tt_callR (pc := 10) (ws := (mC cy ad sc ar la)) (q0 := 0) (ci := 7) (rest := []) (st' := [.int r3]) C (k_X7_isTrain hr3) okX7_isTrain q5_103 rfl mC_obj (fun _ h => h) rfl rfl rfl (Nat.le_of_ble_eq_true rfl) ⟨Nat.le_of_ble_eq_true rfl, Nat.le_of_ble_eq_true rfl⟩ dX7_shadow_10 ?_
    refine tt_if_eq (pc := 13) (tgt := 24) C dX7_shadow_13 (by decide) hf (fun hf => ?_) (fun hf => ?_)
    · refine tt_aload_n (pc := 24) (k := 0) C dX7_shadow_24 rfl rfl ?_
      refine tt_iconst (pc := 25) (v := (-1 : Int32)) C dX7_shadow_25 (by decide) ?_
      obtain ⟨r4, hr4, hf⟩ := bind_some hf
      refine tt_callM (pc := 26) (ws := (mC cy ad sc ar la)) (q0 := 0) (ci := 7) (rest := []) (st' := [.int r4.1]) C rfl (k_X7_no hr4) okX7_no q5_36 rfl mC_obj rfl rfl rfl (Nat.le_of_ble_eq_true rfl) ⟨Nat.le_of_ble_eq_true rfl, Nat.le_of_ble_eq_true rfl⟩ dX7_shadow_26 ?_
      obtain rfl := Option.some.inj hf
      exact tt_ireturn (pc := 29) C rfl rfl rfl dX7_shadow_29
    · refine tt_aload_n (pc := 16) (k := 0) C dX7_shadow_16 rfl rfl ?_
      refine tt_iload_n (pc := 17) (k := 3) C dX7_shadow_17 rfl rfl ?_
      obtain ⟨r5, hr5, hf⟩ := bind_some hf
      refine tt_callR (pc := 18) (ws := (mC cy ad sc ar la)) (q0 := 0) (ci := 7) (rest := []) (st' := [.int r5]) C (k_X7_isPost hr5) okX7_isPost q5_79 rfl mC_obj (fun _ h => h) rfl rfl rfl (Nat.le_of_ble_eq_true rfl) ⟨Nat.le_of_ble_eq_true rfl, Nat.le_of_ble_eq_true rfl⟩ dX7_shadow_18 ?_
      refine tt_if_ne (pc := 21) (tgt := 30) C dX7_shadow_21 (by decide) hf (fun hf => ?_) (fun hf => ?_)
      · refine tt_iconst (pc := 30) (v := (0 : Int32)) C dX7_shadow_30 (by decide) ?_
        refine tt_istore (pc := 31) (L' := [(4, .int (0 : Int32)), (0, .ref (ad 0)), (1, .int a1), (2, .int a2), (3, .int a3)]) C dX7_shadow_31 (by decide) rfl ?_
        refine tt_iconst (pc := 33) (v := (0 : Int32)) C dX7_shadow_33 (by decide) ?_
        refine tt_istore (pc := 34) (L' := [(5, .int (0 : Int32)), (4, .int (0 : Int32)), (0, .ref (ad 0)), (1, .int a1), (2, .int a2), (3, .int a3)]) C dX7_shadow_34 (by decide) rfl ?_
        refine tt_locs (L' := [(0, .ref (ad 0)), (1, .int a1), (2, .int a2), (3, .int a3), (4, .int (0 : Int32)), (5, .int (0 : Int32))]) [2, 3, 4, 5, 1, 0] rfl (l_X7_shadow_36 C (fun x4_12 t12 hf => ?_) hf)
        refine tt_iload (pc := 102) (k := 0) C dX7_shadow_102 rfl ?_
        obtain rfl := Option.some.inj hf
        exact tt_ireturn (pc := 104) C rfl rfl rfl dX7_shadow_104
      · refine tt_aload_n (pc := 24) (k := 0) C dX7_shadow_24 rfl rfl ?_
        refine tt_iconst (pc := 25) (v := (-1 : Int32)) C dX7_shadow_25 (by decide) ?_
        obtain ⟨r13, hr13, hf⟩ := bind_some hf
        refine tt_callM (pc := 26) (ws := (mC cy ad sc ar la)) (q0 := 0) (ci := 7) (rest := []) (st' := [.int r13.1]) C rfl (k_X7_no hr13) okX7_no q5_36 rfl mC_obj rfl rfl rfl (Nat.le_of_ble_eq_true rfl) ⟨Nat.le_of_ble_eq_true rfl, Nat.le_of_ble_eq_true rfl⟩ dX7_shadow_26 ?_
        obtain rfl := Option.some.inj hf
        exact tt_ireturn (pc := 29) C rfl rfl rfl dX7_shadow_29
theorem dX7_areAlike_0 : decode cX7_areAlike 0 = .ok (.iconst 0, 1) := by decide +kernel
theorem dX7_areAlike_1 : decode cX7_areAlike 1 = .ok (.istore 4, 2) := by decide +kernel
theorem dX7_areAlike_3 : decode cX7_areAlike 3 = .ok (.iload 4, 2) := by decide +kernel
theorem dX7_areAlike_5 : decode cX7_areAlike 5 = .ok (.iload_n 3, 1) := by decide +kernel
theorem dX7_areAlike_6 : decode cX7_areAlike 6 = .ok (.if_icmp .ge 65, 3) := by decide +kernel
theorem dX7_areAlike_9 : decode cX7_areAlike 9 = .ok (.aload_n 0, 1) := by decide +kernel
theorem dX7_areAlike_10 : decode cX7_areAlike 10 = .ok (.getfield 13, 3) := by decide +kernel
theorem dX7_areAlike_13 : decode cX7_areAlike 13 = .ok (.iload_n 1, 1) := by decide +kernel
theorem dX7_areAlike_14 : decode cX7_areAlike 14 = .ok (.iload 4, 2) := by decide +kernel
theorem dX7_areAlike_16 : decode cX7_areAlike 16 = .ok (.iadd, 1) := by decide +kernel
theorem dX7_areAlike_17 : decode cX7_areAlike 17 = .ok (.iaload, 1) := by decide +kernel
theorem dX7_areAlike_18 : decode cX7_areAlike 18 = .ok (.aload_n 0, 1) := by decide +kernel
theorem dX7_areAlike_19 : decode cX7_areAlike 19 = .ok (.getfield 13, 3) := by decide +kernel
theorem dX7_areAlike_22 : decode cX7_areAlike 22 = .ok (.iload_n 1, 1) := by decide +kernel
theorem dX7_areAlike_23 : decode cX7_areAlike 23 = .ok (.iaload, 1) := by decide +kernel
theorem dX7_areAlike_24 : decode cX7_areAlike 24 = .ok (.isub, 1) := by decide +kernel
theorem dX7_areAlike_25 : decode cX7_areAlike 25 = .ok (.aload_n 0, 1) := by decide +kernel
theorem dX7_areAlike_26 : decode cX7_areAlike 26 = .ok (.getfield 13, 3) := by decide +kernel
theorem dX7_areAlike_29 : decode cX7_areAlike 29 = .ok (.iload_n 2, 1) := by decide +kernel
theorem dX7_areAlike_30 : decode cX7_areAlike 30 = .ok (.iload 4, 2) := by decide +kernel
theorem dX7_areAlike_32 : decode cX7_areAlike 32 = .ok (.iadd, 1) := by decide +kernel
theorem dX7_areAlike_33 : decode cX7_areAlike 33 = .ok (.iaload, 1) := by decide +kernel
theorem dX7_areAlike_34 : decode cX7_areAlike 34 = .ok (.aload_n 0, 1) := by decide +kernel
theorem dX7_areAlike_35 : decode cX7_areAlike 35 = .ok (.getfield 13, 3) := by decide +kernel
theorem dX7_areAlike_38 : decode cX7_areAlike 38 = .ok (.iload_n 2, 1) := by decide +kernel
theorem dX7_areAlike_39 : decode cX7_areAlike 39 = .ok (.iaload, 1) := by decide +kernel
theorem dX7_areAlike_40 : decode cX7_areAlike 40 = .ok (.isub, 1) := by decide +kernel
theorem dX7_areAlike_41 : decode cX7_areAlike 41 = .ok (.if_icmp .ne 22, 3) := by decide +kernel
theorem dX7_areAlike_44 : decode cX7_areAlike 44 = .ok (.aload_n 0, 1) := by decide +kernel
theorem dX7_areAlike_45 : decode cX7_areAlike 45 = .ok (.iload_n 1, 1) := by decide +kernel
theorem dX7_areAlike_46 : decode cX7_areAlike 46 = .ok (.iload 4, 2) := by decide +kernel
theorem dX7_areAlike_48 : decode cX7_areAlike 48 = .ok (.iadd, 1) := by decide +kernel
theorem dX7_areAlike_49 : decode cX7_areAlike 49 = .ok (.invokevirtual 149, 3) := by decide +kernel
theorem dX7_areAlike_52 : decode cX7_areAlike 52 = .ok (.aload_n 0, 1) := by decide +kernel
theorem dX7_areAlike_53 : decode cX7_areAlike 53 = .ok (.iload_n 2, 1) := by decide +kernel
theorem dX7_areAlike_54 : decode cX7_areAlike 54 = .ok (.iload 4, 2) := by decide +kernel
theorem dX7_areAlike_56 : decode cX7_areAlike 56 = .ok (.iadd, 1) := by decide +kernel
theorem dX7_areAlike_57 : decode cX7_areAlike 57 = .ok (.invokevirtual 149, 3) := by decide +kernel
theorem dX7_areAlike_60 : decode cX7_areAlike 60 = .ok (.if_icmp .eq 5, 3) := by decide +kernel
theorem dX7_areAlike_63 : decode cX7_areAlike 63 = .ok (.iconst 0, 1) := by decide +kernel
theorem dX7_areAlike_64 : decode cX7_areAlike 64 = .ok (.ireturn, 1) := by decide +kernel
theorem dX7_areAlike_65 : decode cX7_areAlike 65 = .ok (.iinc 4 1, 3) := by decide +kernel
theorem dX7_areAlike_68 : decode cX7_areAlike 68 = .ok (.goto (-65), 3) := by decide +kernel
theorem dX7_areAlike_71 : decode cX7_areAlike 71 = .ok (.iconst 1, 1) := by decide +kernel
theorem dX7_areAlike_72 : decode cX7_areAlike 72 = .ok (.ireturn, 1) := by decide +kernel
set_option maxHeartbeats 4000000 in
set_option maxRecDepth 100000 in
theorem l_X7_areAlike_3 {p : Program} {l : Launch} {e : Env} {s : State} {m : MethodId} {args : Array Value} {below : List Frame} {meth : Method} {c : Code} {D : va_G} {cy : Nat → ClassId} {A : Nat → Prop} {Bd : Nat} {xa : Xa} {ad : Nat → Nat} {N : Nat} {sc : Nat → Int32} {ar : Nat → Nat → Int32} {la : Nat → Nat → Int64} {v1 : Int32} {v2 : Int32} {v3 : Int32} {kx : Unit → Option (Int32)} {out : Int32} (C : CC p s m args meth c cX7_areAlike RX7 5 (some .boolean) D cy A true Bd xa) (hk : ∀ (uu : Unit), kx uu = some out → TT p l e { frames := 1, cells := 0, slots := 0, locals := 23 } s m args below meth c 5 D A true (some (.int out)) (mC cy ad sc ar la) 71 [] [] (mC cy ad sc ar la)) {n : Nat} {v4 : Int32} (hf : f_X7_areAlike_L3 N sc ar v1 v2 v3 kx n v4 = some out) : TT p l e { frames := 1, cells := 0, slots := 0, locals := 23 } s m args below meth c 5 D A true (some (.int out)) (mC cy ad sc ar la) 3 [(0, .ref (ad 0)), (1, .int v1), (2, .int v2), (3, .int v3), (4, .int v4)] [] (mC cy ad sc ar la) := by
  induction n generalizing v4 with
  | zero => cases hf
  | succ n ih =>
    rw [f_X7_areAlike_L3] at hf
    refine tt_iload (pc := 3) (k := 4) C dX7_areAlike_3 rfl ?_
    refine tt_iload_n (pc := 5) (k := 3) C dX7_areAlike_5 rfl rfl ?_
    refine tt_icmp_ge (pc := 6) (tgt := 71) C dX7_areAlike_6 (by decide) hf (fun hf => ?_) (fun hf => ?_)
    · exact tt_locs [] rfl (hk () hf)
    · refine tt_aload_n (pc := 9) (k := 0) C dX7_areAlike_9 rfl rfl ?_
      refine tt_get (pc := 10) (ws := (mC cy ad sc ar la)) (ci := 7) (v := .ref (ad 1)) C fiX7 rfl 0 mC_obj 1 (by decide) q4_161 rfl dX7_areAlike_10 ?_
      refine tt_iload_n (pc := 13) (k := 1) C dX7_areAlike_13 rfl rfl ?_
      refine tt_iload (pc := 14) (k := 4) C dX7_areAlike_14 rfl ?_
      refine tt_iadd (pc := 16) C dX7_areAlike_16 ?_
      refine tt_iaload (pc := 17) (ws := (mC cy ad sc ar la)) (n := 24) (f := (ar 1)) C 1 0 mC_get1 rfl hf dX7_areAlike_17 (fun hf => ?_)
      refine tt_aload_n (pc := 18) (k := 0) C dX7_areAlike_18 rfl rfl ?_
      refine tt_get (pc := 19) (ws := (mC cy ad sc ar la)) (ci := 7) (v := .ref (ad 1)) C fiX7 rfl 0 mC_obj 1 (by decide) q4_161 rfl dX7_areAlike_19 ?_
      refine tt_iload_n (pc := 22) (k := 1) C dX7_areAlike_22 rfl rfl ?_
      refine tt_iaload (pc := 23) (ws := (mC cy ad sc ar la)) (n := 24) (f := (ar 1)) C 1 0 mC_get1 rfl hf dX7_areAlike_23 (fun hf => ?_)
      refine tt_isub (pc := 24) C dX7_areAlike_24 ?_
      refine tt_aload_n (pc := 25) (k := 0) C dX7_areAlike_25 rfl rfl ?_
      refine tt_get (pc := 26) (ws := (mC cy ad sc ar la)) (ci := 7) (v := .ref (ad 1)) C fiX7 rfl 0 mC_obj 1 (by decide) q4_161 rfl dX7_areAlike_26 ?_
      refine tt_iload_n (pc := 29) (k := 2) C dX7_areAlike_29 rfl rfl ?_
      refine tt_iload (pc := 30) (k := 4) C dX7_areAlike_30 rfl ?_
      refine tt_iadd (pc := 32) C dX7_areAlike_32 ?_
      refine tt_iaload (pc := 33) (ws := (mC cy ad sc ar la)) (n := 24) (f := (ar 1)) C 1 0 mC_get1 rfl hf dX7_areAlike_33 (fun hf => ?_)
      refine tt_aload_n (pc := 34) (k := 0) C dX7_areAlike_34 rfl rfl ?_
      refine tt_get (pc := 35) (ws := (mC cy ad sc ar la)) (ci := 7) (v := .ref (ad 1)) C fiX7 rfl 0 mC_obj 1 (by decide) q4_161 rfl dX7_areAlike_35 ?_
      refine tt_iload_n (pc := 38) (k := 2) C dX7_areAlike_38 rfl rfl ?_
      refine tt_iaload (pc := 39) (ws := (mC cy ad sc ar la)) (n := 24) (f := (ar 1)) C 1 0 mC_get1 rfl hf dX7_areAlike_39 (fun hf => ?_)
      refine tt_isub (pc := 40) C dX7_areAlike_40 ?_
      refine tt_icmp_ne (pc := 41) (tgt := 63) C dX7_areAlike_41 (by decide) hf (fun hf => ?_) (fun hf => ?_)
      · refine tt_iconst (pc := 63) (v := (0 : Int32)) C dX7_areAlike_63 (by decide) ?_
        obtain rfl := Option.some.inj hf
        exact tt_zreturn (pc := 64) C rfl rfl rfl rfl dX7_areAlike_64
      · refine tt_aload_n (pc := 44) (k := 0) C dX7_areAlike_44 rfl rfl ?_
        refine tt_iload_n (pc := 45) (k := 1) C dX7_areAlike_45 rfl rfl ?_
        refine tt_iload (pc := 46) (k := 4) C dX7_areAlike_46 rfl ?_
        refine tt_iadd (pc := 48) C dX7_areAlike_48 ?_
        obtain ⟨r1, hr1, hf⟩ := bind_some hf
        refine tt_callR (pc := 49) (ws := (mC cy ad sc ar la)) (q0 := 0) (ci := 7) (rest := []) (st' := [.int r1]) C (k_X7_isBridged hr1) okX7_isBridged q5_131 rfl mC_obj (fun _ h => h) rfl rfl rfl (Nat.le_of_ble_eq_true rfl) ⟨Nat.le_of_ble_eq_true rfl, Nat.le_of_ble_eq_true rfl⟩ dX7_areAlike_49 ?_
        refine tt_aload_n (pc := 52) (k := 0) C dX7_areAlike_52 rfl rfl ?_
        refine tt_iload_n (pc := 53) (k := 2) C dX7_areAlike_53 rfl rfl ?_
        refine tt_iload (pc := 54) (k := 4) C dX7_areAlike_54 rfl ?_
        refine tt_iadd (pc := 56) C dX7_areAlike_56 ?_
        obtain ⟨r2, hr2, hf⟩ := bind_some hf
        refine tt_callR (pc := 57) (ws := (mC cy ad sc ar la)) (q0 := 0) (ci := 7) (rest := [.int r1]) (st' := [.int r2, .int r1]) C (k_X7_isBridged hr2) okX7_isBridged q5_131 rfl mC_obj (fun _ h => h) rfl rfl rfl (Nat.le_of_ble_eq_true rfl) ⟨Nat.le_of_ble_eq_true rfl, Nat.le_of_ble_eq_true rfl⟩ dX7_areAlike_57 ?_
        refine tt_icmp_eq (pc := 60) (tgt := 65) C dX7_areAlike_60 (by decide) hf (fun hf => ?_) (fun hf => ?_)
        · refine tt_iinc (pc := 65) (k := 4) (v := (v4 + 1)) (L' := [(4, .int (v4 + 1)), (0, .ref (ad 0)), (1, .int v1), (2, .int v2), (3, .int v3)]) C dX7_areAlike_65 rfl rfl (by decide) rfl ?_
          refine tt_goto (pc := 68) (tgt := 3) C dX7_areAlike_68 (by decide) ?_
          exact tt_locs [1, 2, 3, 4, 0] rfl (ih hf)
        · refine tt_iconst (pc := 63) (v := (0 : Int32)) C dX7_areAlike_63 (by decide) ?_
          obtain rfl := Option.some.inj hf
          exact tt_zreturn (pc := 64) C rfl rfl rfl rfl dX7_areAlike_64
set_option maxHeartbeats 4000000 in
set_option maxRecDepth 100000 in
theorem k_X7_areAlike {l : Launch} {D : va_G} {cy : Nat → ClassId} {Bd : Nat} {xa : Xa} {ad : Nat → Nat} {N : Nat} {sc : Nat → Int32} {ar : Nat → Nat → Int32} {la : Nat → Nat → Int64} {a1 : Int32} {a2 : Int32} {a3 : Int32} {out : Int32} (hf : f_X7_areAlike N sc ar a1 a2 a3 = some out) : KC l yX7_areAlike cX7_areAlike 5 (some .boolean) 1 23 true D cy Bd xa [.ref (ad 0), .int a1, .int a2, .int a3] (mC cy ad sc ar la) (some (.int out)) (mC cy ad sc ar la) := by
  refine kc_start (own := RX7) (by decide +kernel) rfl (Nat.le_of_ble_eq_true rfl) ?_
  intro p e s m args below meth c A C
  unfold f_X7_areAlike at hf
  refine tt_locs (L' := [(0, .ref (ad 0)), (1, .int a1), (2, .int a2), (3, .int a3)]) [0, 1, 2, 3] rfl ?_
  refine tt_iconst (pc := 0) (v := (0 : Int32)) C dX7_areAlike_0 (by decide) ?_
  refine tt_istore (pc := 1) (L' := [(4, .int (0 : Int32)), (0, .ref (ad 0)), (1, .int a1), (2, .int a2), (3, .int a3)]) C dX7_areAlike_1 (by decide) rfl ?_
  refine tt_locs (L' := [(0, .ref (ad 0)), (1, .int a1), (2, .int a2), (3, .int a3), (4, .int (0 : Int32))]) [1, 2, 3, 4, 0] rfl (l_X7_areAlike_3 C (fun _ hf => ?_) hf)
  refine tt_iconst (pc := 71) (v := (1 : Int32)) C dX7_areAlike_71 (by decide) ?_
  obtain rfl := Option.some.inj hf
  exact tt_zreturn (pc := 72) C rfl rfl rfl rfl dX7_areAlike_72
theorem dX7_alike_0 : decode cX7_alike 0 = .ok (.iload_n 1, 1) := by decide +kernel
theorem dX7_alike_1 : decode cX7_alike 1 = .ok (.iconst 1, 1) := by decide +kernel
theorem dX7_alike_2 : decode cX7_alike 2 = .ok (.if_icmp .ge 10, 3) := by decide +kernel
theorem dX7_alike_5 : decode cX7_alike 5 = .ok (.aload_n 0, 1) := by decide +kernel
theorem dX7_alike_6 : decode cX7_alike 6 = .ok (.bipush (-4), 2) := by decide +kernel
theorem dX7_alike_8 : decode cX7_alike 8 = .ok (.invokevirtual 98, 3) := by decide +kernel
theorem dX7_alike_11 : decode cX7_alike 11 = .ok (.ireturn, 1) := by decide +kernel
theorem dX7_alike_12 : decode cX7_alike 12 = .ok (.iload_n 1, 1) := by decide +kernel
theorem dX7_alike_13 : decode cX7_alike 13 = .ok (.bipush 8, 2) := by decide +kernel
theorem dX7_alike_15 : decode cX7_alike 15 = .ok (.if_icmp .gt 11, 3) := by decide +kernel
theorem dX7_alike_18 : decode cX7_alike 18 = .ok (.iload_n 1, 1) := by decide +kernel
theorem dX7_alike_19 : decode cX7_alike 19 = .ok (.aload_n 0, 1) := by decide +kernel
theorem dX7_alike_20 : decode cX7_alike 20 = .ok (.getfield 7, 3) := by decide +kernel
theorem dX7_alike_23 : decode cX7_alike 23 = .ok (.if_icmp .le 10, 3) := by decide +kernel
theorem dX7_alike_26 : decode cX7_alike 26 = .ok (.aload_n 0, 1) := by decide +kernel
theorem dX7_alike_27 : decode cX7_alike 27 = .ok (.bipush (-6), 2) := by decide +kernel
theorem dX7_alike_29 : decode cX7_alike 29 = .ok (.invokevirtual 98, 3) := by decide +kernel
theorem dX7_alike_32 : decode cX7_alike 32 = .ok (.ireturn, 1) := by decide +kernel
theorem dX7_alike_33 : decode cX7_alike 33 = .ok (.iload_n 2, 1) := by decide +kernel
theorem dX7_alike_34 : decode cX7_alike 34 = .ok (.iconst 0, 1) := by decide +kernel
theorem dX7_alike_35 : decode cX7_alike 35 = .ok (.iconst 1, 1) := by decide +kernel
theorem dX7_alike_36 : decode cX7_alike 36 = .ok (.invokestatic 102, 3) := by decide +kernel
theorem dX7_alike_39 : decode cX7_alike 39 = .ok (.ifCond .ne 10, 3) := by decide +kernel
theorem dX7_alike_42 : decode cX7_alike 42 = .ok (.aload_n 0, 1) := by decide +kernel
theorem dX7_alike_43 : decode cX7_alike 43 = .ok (.bipush (-2), 2) := by decide +kernel
theorem dX7_alike_45 : decode cX7_alike 45 = .ok (.invokevirtual 98, 3) := by decide +kernel
theorem dX7_alike_48 : decode cX7_alike 48 = .ok (.ireturn, 1) := by decide +kernel
theorem dX7_alike_49 : decode cX7_alike 49 = .ok (.iconst 0, 1) := by decide +kernel
theorem dX7_alike_50 : decode cX7_alike 50 = .ok (.istore_n 3, 1) := by decide +kernel
theorem dX7_alike_51 : decode cX7_alike 51 = .ok (.bipush (-9), 2) := by decide +kernel
theorem dX7_alike_53 : decode cX7_alike 53 = .ok (.istore 4, 2) := by decide +kernel
theorem dX7_alike_55 : decode cX7_alike 55 = .ok (.iconst 0, 1) := by decide +kernel
theorem dX7_alike_56 : decode cX7_alike 56 = .ok (.istore 5, 2) := by decide +kernel
theorem dX7_alike_58 : decode cX7_alike 58 = .ok (.iload 5, 2) := by decide +kernel
theorem dX7_alike_60 : decode cX7_alike 60 = .ok (.iload_n 1, 1) := by decide +kernel
theorem dX7_alike_61 : decode cX7_alike 61 = .ok (.iadd, 1) := by decide +kernel
theorem dX7_alike_62 : decode cX7_alike 62 = .ok (.aload_n 0, 1) := by decide +kernel
theorem dX7_alike_63 : decode cX7_alike 63 = .ok (.getfield 7, 3) := by decide +kernel
theorem dX7_alike_66 : decode cX7_alike 66 = .ok (.if_icmp .gt 136, 3) := by decide +kernel
theorem dX7_alike_69 : decode cX7_alike 69 = .ok (.iconst 1, 1) := by decide +kernel
theorem dX7_alike_70 : decode cX7_alike 70 = .ok (.istore 6, 2) := by decide +kernel
theorem dX7_alike_72 : decode cX7_alike 72 = .ok (.iconst 0, 1) := by decide +kernel
theorem dX7_alike_73 : decode cX7_alike 73 = .ok (.istore 7, 2) := by decide +kernel
theorem dX7_alike_75 : decode cX7_alike 75 = .ok (.iconst 0, 1) := by decide +kernel
theorem dX7_alike_76 : decode cX7_alike 76 = .ok (.istore 8, 2) := by decide +kernel
theorem dX7_alike_78 : decode cX7_alike 78 = .ok (.iload 8, 2) := by decide +kernel
theorem dX7_alike_80 : decode cX7_alike 80 = .ok (.iload_n 1, 1) := by decide +kernel
theorem dX7_alike_81 : decode cX7_alike 81 = .ok (.iadd, 1) := by decide +kernel
theorem dX7_alike_82 : decode cX7_alike 82 = .ok (.aload_n 0, 1) := by decide +kernel
theorem dX7_alike_83 : decode cX7_alike 83 = .ok (.getfield 7, 3) := by decide +kernel
theorem dX7_alike_86 : decode cX7_alike 86 = .ok (.if_icmp .gt 76, 3) := by decide +kernel
theorem dX7_alike_89 : decode cX7_alike 89 = .ok (.iload 8, 2) := by decide +kernel
theorem dX7_alike_91 : decode cX7_alike 91 = .ok (.iload 5, 2) := by decide +kernel
theorem dX7_alike_93 : decode cX7_alike 93 = .ok (.if_icmp .eq 19, 3) := by decide +kernel
theorem dX7_alike_96 : decode cX7_alike 96 = .ok (.aload_n 0, 1) := by decide +kernel
theorem dX7_alike_97 : decode cX7_alike 97 = .ok (.iload 5, 2) := by decide +kernel
theorem dX7_alike_99 : decode cX7_alike 99 = .ok (.iload 8, 2) := by decide +kernel
theorem dX7_alike_101 : decode cX7_alike 101 = .ok (.iload_n 1, 1) := by decide +kernel
theorem dX7_alike_102 : decode cX7_alike 102 = .ok (.invokevirtual 234, 3) := by decide +kernel
theorem dX7_alike_105 : decode cX7_alike 105 = .ok (.ifCond .eq 7, 3) := by decide +kernel
theorem dX7_alike_108 : decode cX7_alike 108 = .ok (.iconst 1, 1) := by decide +kernel
theorem dX7_alike_109 : decode cX7_alike 109 = .ok (.goto 4, 3) := by decide +kernel
theorem dX7_alike_112 : decode cX7_alike 112 = .ok (.iconst 0, 1) := by decide +kernel
theorem dX7_alike_113 : decode cX7_alike 113 = .ok (.istore 9, 2) := by decide +kernel
theorem dX7_alike_115 : decode cX7_alike 115 = .ok (.iload 6, 2) := by decide +kernel
theorem dX7_alike_117 : decode cX7_alike 117 = .ok (.ifCond .eq 19, 3) := by decide +kernel
theorem dX7_alike_120 : decode cX7_alike 120 = .ok (.iload 9, 2) := by decide +kernel
theorem dX7_alike_122 : decode cX7_alike 122 = .ok (.ifCond .eq 10, 3) := by decide +kernel
theorem dX7_alike_125 : decode cX7_alike 125 = .ok (.iload 8, 2) := by decide +kernel
theorem dX7_alike_127 : decode cX7_alike 127 = .ok (.iload 5, 2) := by decide +kernel
theorem dX7_alike_129 : decode cX7_alike 129 = .ok (.if_icmp .lt 7, 3) := by decide +kernel
theorem dX7_alike_132 : decode cX7_alike 132 = .ok (.iconst 1, 1) := by decide +kernel
theorem dX7_alike_133 : decode cX7_alike 133 = .ok (.goto 4, 3) := by decide +kernel
theorem dX7_alike_136 : decode cX7_alike 136 = .ok (.iconst 0, 1) := by decide +kernel
theorem dX7_alike_137 : decode cX7_alike 137 = .ok (.istore 6, 2) := by decide +kernel
theorem dX7_alike_139 : decode cX7_alike 139 = .ok (.iload 7, 2) := by decide +kernel
theorem dX7_alike_141 : decode cX7_alike 141 = .ok (.ifCond .ne 8, 3) := by decide +kernel
theorem dX7_alike_144 : decode cX7_alike 144 = .ok (.iload 9, 2) := by decide +kernel
theorem dX7_alike_146 : decode cX7_alike 146 = .ok (.ifCond .eq 7, 3) := by decide +kernel
theorem dX7_alike_149 : decode cX7_alike 149 = .ok (.iconst 1, 1) := by decide +kernel
theorem dX7_alike_150 : decode cX7_alike 150 = .ok (.goto 4, 3) := by decide +kernel
theorem dX7_alike_153 : decode cX7_alike 153 = .ok (.iconst 0, 1) := by decide +kernel
theorem dX7_alike_154 : decode cX7_alike 154 = .ok (.istore 7, 2) := by decide +kernel
theorem dX7_alike_156 : decode cX7_alike 156 = .ok (.iinc 8 1, 3) := by decide +kernel
theorem dX7_alike_159 : decode cX7_alike 159 = .ok (.goto (-81), 3) := by decide +kernel
theorem dX7_alike_162 : decode cX7_alike 162 = .ok (.iload_n 3, 1) := by decide +kernel
theorem dX7_alike_163 : decode cX7_alike 163 = .ok (.iload 6, 2) := by decide +kernel
theorem dX7_alike_165 : decode cX7_alike 165 = .ok (.ifCond .eq 7, 3) := by decide +kernel
theorem dX7_alike_168 : decode cX7_alike 168 = .ok (.iconst 1, 1) := by decide +kernel
theorem dX7_alike_169 : decode cX7_alike 169 = .ok (.goto 4, 3) := by decide +kernel
theorem dX7_alike_172 : decode cX7_alike 172 = .ok (.iconst 0, 1) := by decide +kernel
theorem dX7_alike_173 : decode cX7_alike 173 = .ok (.iadd, 1) := by decide +kernel
theorem dX7_alike_174 : decode cX7_alike 174 = .ok (.istore_n 3, 1) := by decide +kernel
theorem dX7_alike_175 : decode cX7_alike 175 = .ok (.iload 4, 2) := by decide +kernel
theorem dX7_alike_177 : decode cX7_alike 177 = .ok (.bipush (-9), 2) := by decide +kernel
theorem dX7_alike_179 : decode cX7_alike 179 = .ok (.if_icmp .ne 13, 3) := by decide +kernel
theorem dX7_alike_182 : decode cX7_alike 182 = .ok (.iload 7, 2) := by decide +kernel
theorem dX7_alike_184 : decode cX7_alike 184 = .ok (.ifCond .eq 8, 3) := by decide +kernel
theorem dX7_alike_187 : decode cX7_alike 187 = .ok (.iload 5, 2) := by decide +kernel
theorem dX7_alike_189 : decode cX7_alike 189 = .ok (.goto 5, 3) := by decide +kernel
theorem dX7_alike_192 : decode cX7_alike 192 = .ok (.iload 4, 2) := by decide +kernel
theorem dX7_alike_194 : decode cX7_alike 194 = .ok (.istore 4, 2) := by decide +kernel
theorem dX7_alike_196 : decode cX7_alike 196 = .ok (.iinc 5 1, 3) := by decide +kernel
theorem dX7_alike_199 : decode cX7_alike 199 = .ok (.goto (-141), 3) := by decide +kernel
theorem dX7_alike_202 : decode cX7_alike 202 = .ok (.iload_n 2, 1) := by decide +kernel
theorem dX7_alike_203 : decode cX7_alike 203 = .ok (.ifCond .ne 7, 3) := by decide +kernel
theorem dX7_alike_206 : decode cX7_alike 206 = .ok (.iload_n 3, 1) := by decide +kernel
theorem dX7_alike_207 : decode cX7_alike 207 = .ok (.goto 5, 3) := by decide +kernel
theorem dX7_alike_210 : decode cX7_alike 210 = .ok (.iload 4, 2) := by decide +kernel
theorem dX7_alike_212 : decode cX7_alike 212 = .ok (.ireturn, 1) := by decide +kernel
set_option maxHeartbeats 4000000 in
set_option maxRecDepth 100000 in
theorem l_X7_alike_78 {p : Program} {l : Launch} {e : Env} {s : State} {m : MethodId} {args : Array Value} {below : List Frame} {meth : Method} {c : Code} {D : va_G} {cy : Nat → ClassId} {A : Nat → Prop} {Bd : Nat} {xa : Xa} {ad : Nat → Nat} {β : Type} {vO : Option Value} {wO : va_W} {N : Nat} {sc : Nat → Int32} {ar : Nat → Nat → Int32} {la : Nat → Nat → Int64} {v1 : Int32} {v2 : Int32} {v3 : Int32} {v4 : Int32} {v5 : Int32} {kx : Int32 → Int32 → Option (β)} {out : β} (C : CC p s m args meth c cX7_alike RX7 10 (some .int) D cy A false Bd xa) (hk : ∀ (x6 : Int32) (x7 : Int32), kx x6 x7 = some out → TT p l e { frames := 2, cells := 0, slots := 0, locals := 47 } s m args below meth c 10 D A false vO wO 162 [(0, .ref (ad 0)), (1, .int v1), (2, .int v2), (3, .int v3), (4, .int v4), (5, .int v5), (6, .int x6), (7, .int x7)] [] (mC cy ad sc ar la)) {n : Nat} {v6 : Int32} {v7 : Int32} {v8 : Int32} (hf : f_X7_alike_L78 N sc ar v1 v2 v3 v4 v5 kx n v6 v7 v8 = some out) : TT p l e { frames := 2, cells := 0, slots := 0, locals := 47 } s m args below meth c 10 D A false vO wO 78 [(0, .ref (ad 0)), (1, .int v1), (2, .int v2), (3, .int v3), (4, .int v4), (5, .int v5), (6, .int v6), (7, .int v7), (8, .int v8)] [] (mC cy ad sc ar la) := by
  induction n generalizing v6 v7 v8 with
  | zero => cases hf
  | succ n ih =>
    rw [f_X7_alike_L78] at hf
    refine tt_iload (pc := 78) (k := 8) C dX7_alike_78 rfl ?_
    refine tt_iload_n (pc := 80) (k := 1) C dX7_alike_80 rfl rfl ?_
    refine tt_iadd (pc := 81) C dX7_alike_81 ?_
    refine tt_aload_n (pc := 82) (k := 0) C dX7_alike_82 rfl rfl ?_
    refine tt_get (pc := 83) (ws := (mC cy ad sc ar la)) (ci := 7) (v := .int (sc 0)) C fiX7 rfl 0 mC_obj 0 (by decide) q4_160 rfl dX7_alike_83 ?_
    refine tt_icmp_gt (pc := 86) (tgt := 162) C dX7_alike_86 (by decide) hf (fun hf => ?_) (fun hf => ?_)
    · exact tt_locs [0, 1, 2, 3, 4, 5, 6, 7] rfl (hk _ _ hf)
    · refine tt_iload (pc := 89) (k := 8) C dX7_alike_89 rfl ?_
      refine tt_iload (pc := 91) (k := 5) C dX7_alike_91 rfl ?_
      obtain ⟨j3, hj3, hf⟩ := bind_some hf
      have k4 : TT p l e { frames := 2, cells := 0, slots := 0, locals := 47 } s m args below meth c 10 D A false vO wO 113 [(0, .ref (ad 0)), (1, .int v1), (2, .int v2), (3, .int v3), (4, .int v4), (5, .int v5), (6, .int v6), (7, .int v7), (8, .int v8)] [.int j3] (mC cy ad sc ar la) := by
        refine tt_istore (pc := 113) (L' := [(9, .int j3), (0, .ref (ad 0)), (1, .int v1), (2, .int v2), (3, .int v3), (4, .int v4), (5, .int v5), (6, .int v6), (7, .int v7), (8, .int v8)]) C dX7_alike_113 (by decide) rfl ?_
        refine tt_iload (pc := 115) (k := 7) C dX7_alike_115 rfl ?_
        have k11 : TT p l e { frames := 2, cells := 0, slots := 0, locals := 47 } s m args below meth c 10 D A false vO wO 137 [(0, .ref (ad 0)), (1, .int v1), (2, .int v2), (3, .int v3), (4, .int v4), (5, .int v5), (7, .int v7), (8, .int v8), (9, .int j3)] [.int (if v6 = 0 then (0 : Int32) else (if j3 = 0 then (1 : Int32) else (if v8 < v5 then (0 : Int32) else (1 : Int32))))] (mC cy ad sc ar la) := by
          refine tt_istore (pc := 137) (L' := [(6, .int (if v6 = 0 then (0 : Int32) else (if j3 = 0 then (1 : Int32) else (if v8 < v5 then (0 : Int32) else (1 : Int32))))), (0, .ref (ad 0)), (1, .int v1), (2, .int v2), (3, .int v3), (4, .int v4), (5, .int v5), (7, .int v7), (8, .int v8), (9, .int j3)]) C dX7_alike_137 (by decide) rfl ?_
          refine tt_iload (pc := 139) (k := 7) C dX7_alike_139 rfl ?_
          have k14 : TT p l e { frames := 2, cells := 0, slots := 0, locals := 47 } s m args below meth c 10 D A false vO wO 154 [(0, .ref (ad 0)), (1, .int v1), (2, .int v2), (3, .int v3), (4, .int v4), (5, .int v5), (6, .int (if v6 = 0 then (0 : Int32) else (if j3 = 0 then (1 : Int32) else (if v8 < v5 then (0 : Int32) else (1 : Int32))))), (8, .int v8)] [.int (if v7 = 0 then (if j3 = 0 then (0 : Int32) else (1 : Int32)) else (1 : Int32))] (mC cy ad sc ar la) := by
            refine tt_istore (pc := 154) (L' := [(7, .int (if v7 = 0 then (if j3 = 0 then (0 : Int32) else (1 : Int32)) else (1 : Int32))), (0, .ref (ad 0)), (1, .int v1), (2, .int v2), (3, .int v3), (4, .int v4), (5, .int v5), (6, .int (if v6 = 0 then (0 : Int32) else (if j3 = 0 then (1 : Int32) else (if v8 < v5 then (0 : Int32) else (1 : Int32))))), (8, .int v8)]) C dX7_alike_154 (by decide) rfl ?_
            refine tt_iinc (pc := 156) (k := 8) (v := (v8 + 1)) (L' := [(8, .int (v8 + 1)), (7, .int (if v7 = 0 then (if j3 = 0 then (0 : Int32) else (1 : Int32)) else (1 : Int32))), (0, .ref (ad 0)), (1, .int v1), (2, .int v2), (3, .int v3), (4, .int v4), (5, .int v5), (6, .int (if v6 = 0 then (0 : Int32) else (if j3 = 0 then (1 : Int32) else (if v8 < v5 then (0 : Int32) else (1 : Int32)))))]) C dX7_alike_156 rfl rfl (by decide) rfl ?_
            refine tt_goto (pc := 159) (tgt := 78) C dX7_alike_159 (by decide) ?_
            exact tt_locs [2, 3, 4, 5, 6, 7, 8, 1, 0] rfl (ih hf)
          refine tr_if_ne (pc := 141) (tgt := 149) C dX7_alike_141 (by decide) (fun c12 => ?_) (fun c12 => ?_)
          · refine tt_iconst (pc := 149) (v := (1 : Int32)) C dX7_alike_149 (by decide) ?_
            refine tt_goto (pc := 150) (tgt := 154) C dX7_alike_150 (by decide) ?_
            try simp only [if_neg c12] at k14 ⊢
            exact tt_locs [1, 2, 3, 4, 5, 6, 0, 8] rfl k14
          · refine tt_iload (pc := 144) (k := 9) C dX7_alike_144 rfl ?_
            refine tr_if_eq (pc := 146) (tgt := 153) C dX7_alike_146 (by decide) (fun c13 => ?_) (fun c13 => ?_)
            · refine tt_iconst (pc := 153) (v := (0 : Int32)) C dX7_alike_153 (by decide) ?_
              try simp only [if_pos c12, if_pos c13] at k14 ⊢
              exact tt_locs [1, 2, 3, 4, 5, 6, 0, 8] rfl k14
            · refine tt_iconst (pc := 149) (v := (1 : Int32)) C dX7_alike_149 (by decide) ?_
              refine tt_goto (pc := 150) (tgt := 154) C dX7_alike_150 (by decide) ?_
              try simp only [if_pos c12, if_neg c13] at k14 ⊢
              exact tt_locs [1, 2, 3, 4, 5, 6, 0, 8] rfl k14
        refine tr_if_eq (pc := 117) (tgt := 136) C dX7_alike_117 (by decide) (fun c8 => ?_) (fun c8 => ?_)
        · refine tt_iconst (pc := 136) (v := (0 : Int32)) C dX7_alike_136 (by decide) ?_
          try simp only [if_pos c8] at k11 ⊢
          exact tt_locs [1, 2, 3, 4, 5, 6, 8, 9, 0] rfl k11
        · refine tt_iload (pc := 120) (k := 0) C dX7_alike_120 rfl ?_
          refine tr_if_eq (pc := 122) (tgt := 132) C dX7_alike_122 (by decide) (fun c9 => ?_) (fun c9 => ?_)
          · refine tt_iconst (pc := 132) (v := (1 : Int32)) C dX7_alike_132 (by decide) ?_
            refine tt_goto (pc := 133) (tgt := 137) C dX7_alike_133 (by decide) ?_
            try simp only [if_neg c8, if_pos c9] at k11 ⊢
            exact tt_locs [1, 2, 3, 4, 5, 6, 8, 9, 0] rfl k11
          · refine tt_iload (pc := 125) (k := 9) C dX7_alike_125 rfl ?_
            refine tt_iload (pc := 127) (k := 6) C dX7_alike_127 rfl ?_
            refine tr_icmp_lt (pc := 129) (tgt := 136) C dX7_alike_129 (by decide) (fun c10 => ?_) (fun c10 => ?_)
            · refine tt_iconst (pc := 136) (v := (0 : Int32)) C dX7_alike_136 (by decide) ?_
              try simp only [if_neg c8, if_neg c9, if_pos c10] at k11 ⊢
              exact tt_locs [1, 2, 3, 4, 5, 6, 8, 9, 0] rfl k11
            · refine tt_iconst (pc := 132) (v := (1 : Int32)) C dX7_alike_132 (by decide) ?_
              refine tt_goto (pc := 133) (tgt := 137) C dX7_alike_133 (by decide) ?_
              try simp only [if_neg c8, if_neg c9, if_neg c10] at k11 ⊢
              exact tt_locs [1, 2, 3, 4, 5, 6, 8, 9, 0] rfl k11
      refine tt_icmp_eq (pc := 93) (tgt := 112) C dX7_alike_93 (by decide) hj3 (fun hj3 => ?_) (fun hj3 => ?_)
      · refine tt_iconst (pc := 112) (v := (0 : Int32)) C dX7_alike_112 (by decide) ?_
        obtain rfl := Option.some.inj hj3
        exact tt_locs [0, 1, 2, 3, 4, 5, 6, 7, 8] rfl k4
      · refine tt_aload_n (pc := 96) (k := 0) C dX7_alike_96 rfl rfl ?_
        refine tt_iload (pc := 97) (k := 5) C dX7_alike_97 rfl ?_
        refine tt_iload (pc := 99) (k := 8) C dX7_alike_99 rfl ?_
        refine tt_iload_n (pc := 101) (k := 1) C dX7_alike_101 rfl rfl ?_
        obtain ⟨r5, hr5, hj3⟩ := bind_some hj3
        refine tt_callR (pc := 102) (ws := (mC cy ad sc ar la)) (q0 := 0) (ci := 7) (rest := []) (st' := [.int r5]) C (k_X7_areAlike hr5) okX7_areAlike q6_37 rfl mC_obj (fun _ h => h) rfl rfl rfl (Nat.le_of_ble_eq_true rfl) ⟨Nat.le_of_ble_eq_true rfl, Nat.le_of_ble_eq_true rfl⟩ dX7_alike_102 ?_
        have k7 : TT p l e { frames := 2, cells := 0, slots := 0, locals := 47 } s m args below meth c 10 D A false vO wO 113 [(0, .ref (ad 0)), (1, .int v1), (2, .int v2), (3, .int v3), (4, .int v4), (5, .int v5), (6, .int v6), (7, .int v7), (8, .int v8)] [.int (if r5 = 0 then (0 : Int32) else (1 : Int32))] (mC cy ad sc ar la) := by
          obtain rfl := Option.some.inj hj3
          exact tt_locs [0, 1, 2, 3, 4, 5, 6, 7, 8] rfl k4
        refine tr_if_eq (pc := 105) (tgt := 112) C dX7_alike_105 (by decide) (fun c6 => ?_) (fun c6 => ?_)
        · refine tt_iconst (pc := 112) (v := (0 : Int32)) C dX7_alike_112 (by decide) ?_
          try simp only [if_pos c6] at k7 ⊢
          exact tt_locs [0, 1, 2, 3, 4, 5, 6, 7, 8] rfl k7
        · refine tt_iconst (pc := 108) (v := (1 : Int32)) C dX7_alike_108 (by decide) ?_
          refine tt_goto (pc := 109) (tgt := 113) C dX7_alike_109 (by decide) ?_
          try simp only [if_neg c6] at k7 ⊢
          exact tt_locs [0, 1, 2, 3, 4, 5, 6, 7, 8] rfl k7
set_option maxHeartbeats 4000000 in
set_option maxRecDepth 100000 in
theorem l_X7_alike_58 {p : Program} {l : Launch} {e : Env} {s : State} {m : MethodId} {args : Array Value} {below : List Frame} {meth : Method} {c : Code} {D : va_G} {cy : Nat → ClassId} {A : Nat → Prop} {Bd : Nat} {xa : Xa} {ad : Nat → Nat} {β : Type} {vO : Option Value} {wO : va_W} {N : Nat} {sc : Nat → Int32} {ar : Nat → Nat → Int32} {la : Nat → Nat → Int64} {v1 : Int32} {v2 : Int32} {kx : Int32 → Int32 → Option (β)} {out : β} (C : CC p s m args meth c cX7_alike RX7 10 (some .int) D cy A false Bd xa) (hk : ∀ (x3 : Int32) (x4 : Int32), kx x3 x4 = some out → TT p l e { frames := 2, cells := 0, slots := 0, locals := 47 } s m args below meth c 10 D A false vO wO 202 [(2, .int v2), (3, .int x3), (4, .int x4)] [] (mC cy ad sc ar la)) {n : Nat} {v3 : Int32} {v4 : Int32} {v5 : Int32} (hf : f_X7_alike_L58 N sc ar v1 v2 kx n v3 v4 v5 = some out) : TT p l e { frames := 2, cells := 0, slots := 0, locals := 47 } s m args below meth c 10 D A false vO wO 58 [(0, .ref (ad 0)), (1, .int v1), (2, .int v2), (3, .int v3), (4, .int v4), (5, .int v5)] [] (mC cy ad sc ar la) := by
  induction n generalizing v3 v4 v5 with
  | zero => cases hf
  | succ n ih =>
    rw [f_X7_alike_L58] at hf
    refine tt_iload (pc := 58) (k := 5) C dX7_alike_58 rfl ?_
    refine tt_iload_n (pc := 60) (k := 1) C dX7_alike_60 rfl rfl ?_
    refine tt_iadd (pc := 61) C dX7_alike_61 ?_
    refine tt_aload_n (pc := 62) (k := 0) C dX7_alike_62 rfl rfl ?_
    refine tt_get (pc := 63) (ws := (mC cy ad sc ar la)) (ci := 7) (v := .int (sc 0)) C fiX7 rfl 0 mC_obj 0 (by decide) q4_160 rfl dX7_alike_63 ?_
    refine tt_icmp_gt (pc := 66) (tgt := 202) C dX7_alike_66 (by decide) hf (fun hf => ?_) (fun hf => ?_)
    · exact tt_locs [2, 3, 4] rfl (hk _ _ hf)
    · refine tt_iconst (pc := 69) (v := (1 : Int32)) C dX7_alike_69 (by decide) ?_
      refine tt_istore (pc := 70) (L' := [(6, .int (1 : Int32)), (0, .ref (ad 0)), (1, .int v1), (2, .int v2), (3, .int v3), (4, .int v4), (5, .int v5)]) C dX7_alike_70 (by decide) rfl ?_
      refine tt_iconst (pc := 72) (v := (0 : Int32)) C dX7_alike_72 (by decide) ?_
      refine tt_istore (pc := 73) (L' := [(7, .int (0 : Int32)), (6, .int (1 : Int32)), (0, .ref (ad 0)), (1, .int v1), (2, .int v2), (3, .int v3), (4, .int v4), (5, .int v5)]) C dX7_alike_73 (by decide) rfl ?_
      refine tt_iconst (pc := 75) (v := (0 : Int32)) C dX7_alike_75 (by decide) ?_
      refine tt_istore (pc := 76) (L' := [(8, .int (0 : Int32)), (7, .int (0 : Int32)), (6, .int (1 : Int32)), (0, .ref (ad 0)), (1, .int v1), (2, .int v2), (3, .int v3), (4, .int v4), (5, .int v5)]) C dX7_alike_76 (by decide) rfl ?_
      refine tt_locs (L' := [(0, .ref (ad 0)), (1, .int v1), (2, .int v2), (3, .int v3), (4, .int v4), (5, .int v5), (6, .int (1 : Int32)), (7, .int (0 : Int32)), (8, .int (0 : Int32))]) [3, 4, 5, 6, 7, 8, 2, 1, 0] rfl (l_X7_alike_78 C (fun x6_15 x7_15 hf => ?_) hf)
      refine tt_iload_n (pc := 162) (k := 3) C dX7_alike_162 rfl rfl ?_
      refine tt_iload (pc := 163) (k := 6) C dX7_alike_163 rfl ?_
      have k16 : TT p l e { frames := 2, cells := 0, slots := 0, locals := 47 } s m args below meth c 10 D A false vO wO 173 [(0, .ref (ad 0)), (1, .int v1), (2, .int v2), (4, .int v4), (5, .int v5), (7, .int x7_15)] [.int (if x6_15 = 0 then (0 : Int32) else (1 : Int32)), .int v3] (mC cy ad sc ar la) := by
        refine tt_iadd (pc := 173) C dX7_alike_173 ?_
        refine tt_istore_n (pc := 174) (L' := [(3, .int (v3 + (if x6_15 = 0 then (0 : Int32) else (1 : Int32)))), (0, .ref (ad 0)), (1, .int v1), (2, .int v2), (4, .int v4), (5, .int v5), (7, .int x7_15)]) C dX7_alike_174 rfl (by decide) rfl ?_
        refine tt_iload (pc := 175) (k := 4) C dX7_alike_175 rfl ?_
        refine tt_bipush (pc := 177) (v := (-9 : Int32)) C dX7_alike_177 (by decide) ?_
        have k19 : TT p l e { frames := 2, cells := 0, slots := 0, locals := 47 } s m args below meth c 10 D A false vO wO 194 [(0, .ref (ad 0)), (1, .int v1), (2, .int v2), (3, .int (v3 + (if x6_15 = 0 then (0 : Int32) else (1 : Int32)))), (5, .int v5)] [.int (if v4 = (-9 : Int32) then (if x7_15 = 0 then v4 else v5) else v4)] (mC cy ad sc ar la) := by
          refine tt_istore (pc := 194) (L' := [(4, .int (if v4 = (-9 : Int32) then (if x7_15 = 0 then v4 else v5) else v4)), (0, .ref (ad 0)), (1, .int v1), (2, .int v2), (3, .int (v3 + (if x6_15 = 0 then (0 : Int32) else (1 : Int32)))), (5, .int v5)]) C dX7_alike_194 (by decide) rfl ?_
          refine tt_iinc (pc := 196) (k := 5) (v := (v5 + 1)) (L' := [(5, .int (v5 + 1)), (4, .int (if v4 = (-9 : Int32) then (if x7_15 = 0 then v4 else v5) else v4)), (0, .ref (ad 0)), (1, .int v1), (2, .int v2), (3, .int (v3 + (if x6_15 = 0 then (0 : Int32) else (1 : Int32))))]) C dX7_alike_196 rfl rfl (by decide) rfl ?_
          refine tt_goto (pc := 199) (tgt := 58) C dX7_alike_199 (by decide) ?_
          exact tt_locs [2, 3, 4, 5, 1, 0] rfl (ih hf)
        refine tr_icmp_ne (pc := 179) (tgt := 192) C dX7_alike_179 (by decide) (fun c17 => ?_) (fun c17 => ?_)
        · refine tt_iload (pc := 192) (k := 4) C dX7_alike_192 rfl ?_
          try simp only [if_neg c17] at k19 ⊢
          exact tt_locs [1, 2, 3, 0, 5] rfl k19
        · refine tt_iload (pc := 182) (k := 6) C dX7_alike_182 rfl ?_
          refine tr_if_eq (pc := 184) (tgt := 192) C dX7_alike_184 (by decide) (fun c18 => ?_) (fun c18 => ?_)
          · refine tt_iload (pc := 192) (k := 4) C dX7_alike_192 rfl ?_
            try simp only [if_pos c17, if_pos c18] at k19 ⊢
            exact tt_locs [1, 2, 3, 0, 5] rfl k19
          · refine tt_iload (pc := 187) (k := 5) C dX7_alike_187 rfl ?_
            refine tt_goto (pc := 189) (tgt := 194) C dX7_alike_189 (by decide) ?_
            try simp only [if_pos c17, if_neg c18] at k19 ⊢
            exact tt_locs [1, 2, 3, 0, 5] rfl k19
      refine tr_if_eq (pc := 165) (tgt := 172) C dX7_alike_165 (by decide) (fun c15 => ?_) (fun c15 => ?_)
      · refine tt_iconst (pc := 172) (v := (0 : Int32)) C dX7_alike_172 (by decide) ?_
        try simp only [if_pos c15] at k16 ⊢
        exact tt_locs [0, 1, 2, 4, 5, 7] rfl k16
      · refine tt_iconst (pc := 168) (v := (1 : Int32)) C dX7_alike_168 (by decide) ?_
        refine tt_goto (pc := 169) (tgt := 173) C dX7_alike_169 (by decide) ?_
        try simp only [if_neg c15] at k16 ⊢
        exact tt_locs [0, 1, 2, 4, 5, 7] rfl k16
set_option maxHeartbeats 4000000 in
set_option maxRecDepth 100000 in
theorem k_X7_alike {l : Launch} {D : va_G} {cy : Nat → ClassId} {Bd : Nat} {xa : Xa} {ad : Nat → Nat} {N : Nat} {sc : Nat → Int32} {ar : Nat → Nat → Int32} {la : Nat → Nat → Int64} {a1 : Int32} {a2 : Int32} {out : Int32 × (Nat → Nat → Int32)} (hf : f_X7_alike N sc ar a1 a2 = some out) : KC l yX7_alike cX7_alike 10 (some .int) 2 47 false D cy Bd xa [.ref (ad 0), .int a1, .int a2] (mC cy ad sc ar la) (some (.int out.1)) (mC cy ad sc out.2 la) := by
  refine kc_start (own := RX7) (by decide +kernel) rfl (Nat.le_of_ble_eq_true rfl) ?_
  intro p e s m args below meth c A C
  unfold f_X7_alike at hf
  refine tt_locs (L' := [(0, .ref (ad 0)), (1, .int a1), (2, .int a2)]) [0, 1, 2] rfl ?_
  refine tt_iload_n (pc := 0) (k := 1) C dX7_alike_0 rfl rfl ?_
  refine tt_iconst (pc := 1) (v := (1 : Int32)) C dX7_alike_1 (by decide) ?_
  refine tt_icmp_ge (pc := 2) (tgt := 12) C dX7_alike_2 (by decide) hf (fun hf => ?_) (fun hf => ?_)
  · refine tt_iload_n (pc := 12) (k := 1) C dX7_alike_12 rfl rfl ?_
    refine tt_bipush (pc := 13) (v := (8 : Int32)) C dX7_alike_13 (by decide) ?_
    refine tt_icmp_gt (pc := 15) (tgt := 26) C dX7_alike_15 (by decide) hf (fun hf => ?_) (fun hf => ?_)
    · refine tt_aload_n (pc := 26) (k := 0) C dX7_alike_26 rfl rfl ?_
      refine tt_bipush (pc := 27) (v := (-6 : Int32)) C dX7_alike_27 (by decide) ?_
      obtain ⟨r1, hr1, hf⟩ := bind_some hf
      refine tt_callM (pc := 29) (ws := (mC cy ad sc ar la)) (q0 := 0) (ci := 7) (rest := []) (st' := [.int r1.1]) C rfl (k_X7_no hr1) okX7_no q5_36 rfl mC_obj rfl rfl rfl (Nat.le_of_ble_eq_true rfl) ⟨Nat.le_of_ble_eq_true rfl, Nat.le_of_ble_eq_true rfl⟩ dX7_alike_29 ?_
      obtain rfl := Option.some.inj hf
      exact tt_ireturn (pc := 32) C rfl rfl rfl dX7_alike_32
    · refine tt_iload_n (pc := 18) (k := 1) C dX7_alike_18 rfl rfl ?_
      refine tt_aload_n (pc := 19) (k := 0) C dX7_alike_19 rfl rfl ?_
      refine tt_get (pc := 20) (ws := (mC cy ad sc ar la)) (ci := 7) (v := .int (sc 0)) C fiX7 rfl 0 mC_obj 0 (by decide) q4_160 rfl dX7_alike_20 ?_
      refine tt_icmp_le (pc := 23) (tgt := 33) C dX7_alike_23 (by decide) hf (fun hf => ?_) (fun hf => ?_)
      · refine tt_iload_n (pc := 33) (k := 2) C dX7_alike_33 rfl rfl ?_
        refine tt_iconst (pc := 34) (v := (0 : Int32)) C dX7_alike_34 (by decide) ?_
        refine tt_iconst (pc := 35) (v := (1 : Int32)) C dX7_alike_35 (by decide) ?_
        obtain ⟨r2, hr2, hf⟩ := bind_some hf
        refine tt_callS (pc := 36) (ws := (mC cy ad sc ar la)) (rest := []) (st' := [.int r2]) C (k_X7_in hr2) okX7_in q5_52 (fun _ h => absurd h List.not_mem_nil) rfl rfl rfl (Nat.le_of_ble_eq_true rfl) ⟨Nat.le_of_ble_eq_true rfl, Nat.le_of_ble_eq_true rfl⟩ dX7_alike_36 ?_
        refine tt_if_ne (pc := 39) (tgt := 49) C dX7_alike_39 (by decide) hf (fun hf => ?_) (fun hf => ?_)
        · refine tt_iconst (pc := 49) (v := (0 : Int32)) C dX7_alike_49 (by decide) ?_
          refine tt_istore_n (pc := 50) (L' := [(3, .int (0 : Int32)), (0, .ref (ad 0)), (1, .int a1), (2, .int a2)]) C dX7_alike_50 rfl (by decide) rfl ?_
          refine tt_bipush (pc := 51) (v := (-9 : Int32)) C dX7_alike_51 (by decide) ?_
          refine tt_istore (pc := 53) (L' := [(4, .int (-9 : Int32)), (3, .int (0 : Int32)), (0, .ref (ad 0)), (1, .int a1), (2, .int a2)]) C dX7_alike_53 (by decide) rfl ?_
          refine tt_iconst (pc := 55) (v := (0 : Int32)) C dX7_alike_55 (by decide) ?_
          refine tt_istore (pc := 56) (L' := [(5, .int (0 : Int32)), (4, .int (-9 : Int32)), (3, .int (0 : Int32)), (0, .ref (ad 0)), (1, .int a1), (2, .int a2)]) C dX7_alike_56 (by decide) rfl ?_
          refine tt_locs (L' := [(0, .ref (ad 0)), (1, .int a1), (2, .int a2), (3, .int (0 : Int32)), (4, .int (-9 : Int32)), (5, .int (0 : Int32))]) [3, 4, 5, 2, 1, 0] rfl (l_X7_alike_58 C (fun x3_20 x4_20 hf => ?_) hf)
          refine tt_iload_n (pc := 202) (k := 0) C dX7_alike_202 rfl rfl ?_
          have k21 : TT p l e { frames := 2, cells := 0, slots := 0, locals := 47 } s m args below meth c 10 D A false (some (.int out.1)) (mC cy ad sc out.2 la) 212 [] [.int (if a2 = 0 then x3_20 else x4_20)] (mC cy ad sc ar la) := by
            obtain rfl := Option.some.inj hf
            exact tt_ireturn (pc := 212) C rfl rfl rfl dX7_alike_212
          refine tr_if_ne (pc := 203) (tgt := 210) C dX7_alike_203 (by decide) (fun c20 => ?_) (fun c20 => ?_)
          · refine tt_iload (pc := 210) (k := 2) C dX7_alike_210 rfl ?_
            try simp only [if_neg c20] at k21 ⊢
            exact tt_locs [] rfl k21
          · refine tt_iload_n (pc := 206) (k := 1) C dX7_alike_206 rfl rfl ?_
            refine tt_goto (pc := 207) (tgt := 212) C dX7_alike_207 (by decide) ?_
            try simp only [if_pos c20] at k21 ⊢
            exact tt_locs [] rfl k21
        · refine tt_aload_n (pc := 42) (k := 0) C dX7_alike_42 rfl rfl ?_
          refine tt_bipush (pc := 43) (v := (-2 : Int32)) C dX7_alike_43 (by decide) ?_
          obtain ⟨r22, hr22, hf⟩ := bind_some hf
          refine tt_callM (pc := 45) (ws := (mC cy ad sc ar la)) (q0 := 0) (ci := 7) (rest := []) (st' := [.int r22.1]) C rfl (k_X7_no hr22) okX7_no q5_36 rfl mC_obj rfl rfl rfl (Nat.le_of_ble_eq_true rfl) ⟨Nat.le_of_ble_eq_true rfl, Nat.le_of_ble_eq_true rfl⟩ dX7_alike_45 ?_
          obtain rfl := Option.some.inj hf
          exact tt_ireturn (pc := 48) C rfl rfl rfl dX7_alike_48
      · refine tt_aload_n (pc := 26) (k := 0) C dX7_alike_26 rfl rfl ?_
        refine tt_bipush (pc := 27) (v := (-6 : Int32)) C dX7_alike_27 (by decide) ?_
        obtain ⟨r23, hr23, hf⟩ := bind_some hf
        refine tt_callM (pc := 29) (ws := (mC cy ad sc ar la)) (q0 := 0) (ci := 7) (rest := []) (st' := [.int r23.1]) C rfl (k_X7_no hr23) okX7_no q5_36 rfl mC_obj rfl rfl rfl (Nat.le_of_ble_eq_true rfl) ⟨Nat.le_of_ble_eq_true rfl, Nat.le_of_ble_eq_true rfl⟩ dX7_alike_29 ?_
        obtain rfl := Option.some.inj hf
        exact tt_ireturn (pc := 32) C rfl rfl rfl dX7_alike_32
  · refine tt_aload_n (pc := 5) (k := 0) C dX7_alike_5 rfl rfl ?_
    refine tt_bipush (pc := 6) (v := (-4 : Int32)) C dX7_alike_6 (by decide) ?_
    obtain ⟨r24, hr24, hf⟩ := bind_some hf
    refine tt_callM (pc := 8) (ws := (mC cy ad sc ar la)) (q0 := 0) (ci := 7) (rest := []) (st' := [.int r24.1]) C rfl (k_X7_no hr24) okX7_no q5_36 rfl mC_obj rfl rfl rfl (Nat.le_of_ble_eq_true rfl) ⟨Nat.le_of_ble_eq_true rfl, Nat.le_of_ble_eq_true rfl⟩ dX7_alike_8 ?_
    obtain rfl := Option.some.inj hf
    exact tt_ireturn (pc := 11) C rfl rfl rfl dX7_alike_11
theorem dX7_steepest_0 : decode cX7_steepest 0 = .ok (.iload_n 1, 1) := by decide +kernel
theorem dX7_steepest_1 : decode cX7_steepest 1 = .ok (.iconst 2, 1) := by decide +kernel
theorem dX7_steepest_2 : decode cX7_steepest 2 = .ok (.if_icmp .ge 10, 3) := by decide +kernel
theorem dX7_steepest_5 : decode cX7_steepest 5 = .ok (.aload_n 0, 1) := by decide +kernel
theorem dX7_steepest_6 : decode cX7_steepest 6 = .ok (.bipush (-4), 2) := by decide +kernel
theorem dX7_steepest_8 : decode cX7_steepest 8 = .ok (.invokevirtual 98, 3) := by decide +kernel
theorem dX7_steepest_11 : decode cX7_steepest 11 = .ok (.ireturn, 1) := by decide +kernel
theorem dX7_steepest_12 : decode cX7_steepest 12 = .ok (.iload_n 1, 1) := by decide +kernel
theorem dX7_steepest_13 : decode cX7_steepest 13 = .ok (.bipush 8, 2) := by decide +kernel
theorem dX7_steepest_15 : decode cX7_steepest 15 = .ok (.if_icmp .gt 11, 3) := by decide +kernel
theorem dX7_steepest_18 : decode cX7_steepest 18 = .ok (.iload_n 1, 1) := by decide +kernel
theorem dX7_steepest_19 : decode cX7_steepest 19 = .ok (.aload_n 0, 1) := by decide +kernel
theorem dX7_steepest_20 : decode cX7_steepest 20 = .ok (.getfield 7, 3) := by decide +kernel
theorem dX7_steepest_23 : decode cX7_steepest 23 = .ok (.if_icmp .le 10, 3) := by decide +kernel
theorem dX7_steepest_26 : decode cX7_steepest 26 = .ok (.aload_n 0, 1) := by decide +kernel
theorem dX7_steepest_27 : decode cX7_steepest 27 = .ok (.bipush (-6), 2) := by decide +kernel
theorem dX7_steepest_29 : decode cX7_steepest 29 = .ok (.invokevirtual 98, 3) := by decide +kernel
theorem dX7_steepest_32 : decode cX7_steepest 32 = .ok (.ireturn, 1) := by decide +kernel
theorem dX7_steepest_33 : decode cX7_steepest 33 = .ok (.iconst 0, 1) := by decide +kernel
theorem dX7_steepest_34 : decode cX7_steepest 34 = .ok (.istore_n 2, 1) := by decide +kernel
theorem dX7_steepest_35 : decode cX7_steepest 35 = .ok (.iconst (-1), 1) := by decide +kernel
theorem dX7_steepest_36 : decode cX7_steepest 36 = .ok (.istore_n 3, 1) := by decide +kernel
theorem dX7_steepest_37 : decode cX7_steepest 37 = .ok (.iconst 0, 1) := by decide +kernel
theorem dX7_steepest_38 : decode cX7_steepest 38 = .ok (.istore 4, 2) := by decide +kernel
theorem dX7_steepest_40 : decode cX7_steepest 40 = .ok (.iload 4, 2) := by decide +kernel
theorem dX7_steepest_42 : decode cX7_steepest 42 = .ok (.iload_n 1, 1) := by decide +kernel
theorem dX7_steepest_43 : decode cX7_steepest 43 = .ok (.iadd, 1) := by decide +kernel
theorem dX7_steepest_44 : decode cX7_steepest 44 = .ok (.aload_n 0, 1) := by decide +kernel
theorem dX7_steepest_45 : decode cX7_steepest 45 = .ok (.getfield 7, 3) := by decide +kernel
theorem dX7_steepest_48 : decode cX7_steepest 48 = .ok (.if_icmp .gt 53, 3) := by decide +kernel
theorem dX7_steepest_51 : decode cX7_steepest 51 = .ok (.aload_n 0, 1) := by decide +kernel
theorem dX7_steepest_52 : decode cX7_steepest 52 = .ok (.getfield 13, 3) := by decide +kernel
theorem dX7_steepest_55 : decode cX7_steepest 55 = .ok (.iload 4, 2) := by decide +kernel
theorem dX7_steepest_57 : decode cX7_steepest 57 = .ok (.iload_n 1, 1) := by decide +kernel
theorem dX7_steepest_58 : decode cX7_steepest 58 = .ok (.iadd, 1) := by decide +kernel
theorem dX7_steepest_59 : decode cX7_steepest 59 = .ok (.iconst 1, 1) := by decide +kernel
theorem dX7_steepest_60 : decode cX7_steepest 60 = .ok (.isub, 1) := by decide +kernel
theorem dX7_steepest_61 : decode cX7_steepest 61 = .ok (.iaload, 1) := by decide +kernel
theorem dX7_steepest_62 : decode cX7_steepest 62 = .ok (.aload_n 0, 1) := by decide +kernel
theorem dX7_steepest_63 : decode cX7_steepest 63 = .ok (.getfield 13, 3) := by decide +kernel
theorem dX7_steepest_66 : decode cX7_steepest 66 = .ok (.iload 4, 2) := by decide +kernel
theorem dX7_steepest_68 : decode cX7_steepest 68 = .ok (.iaload, 1) := by decide +kernel
theorem dX7_steepest_69 : decode cX7_steepest 69 = .ok (.isub, 1) := by decide +kernel
theorem dX7_steepest_70 : decode cX7_steepest 70 = .ok (.invokestatic 159, 3) := by decide +kernel
theorem dX7_steepest_73 : decode cX7_steepest 73 = .ok (.istore 5, 2) := by decide +kernel
theorem dX7_steepest_75 : decode cX7_steepest 75 = .ok (.iload 5, 2) := by decide +kernel
theorem dX7_steepest_77 : decode cX7_steepest 77 = .ok (.iload_n 3, 1) := by decide +kernel
theorem dX7_steepest_78 : decode cX7_steepest 78 = .ok (.if_icmp .le 8, 3) := by decide +kernel
theorem dX7_steepest_81 : decode cX7_steepest 81 = .ok (.iload 4, 2) := by decide +kernel
theorem dX7_steepest_83 : decode cX7_steepest 83 = .ok (.goto 4, 3) := by decide +kernel
theorem dX7_steepest_86 : decode cX7_steepest 86 = .ok (.iload_n 2, 1) := by decide +kernel
theorem dX7_steepest_87 : decode cX7_steepest 87 = .ok (.istore_n 2, 1) := by decide +kernel
theorem dX7_steepest_88 : decode cX7_steepest 88 = .ok (.iload_n 3, 1) := by decide +kernel
theorem dX7_steepest_89 : decode cX7_steepest 89 = .ok (.iload 5, 2) := by decide +kernel
theorem dX7_steepest_91 : decode cX7_steepest 91 = .ok (.invokestatic 144, 3) := by decide +kernel
theorem dX7_steepest_94 : decode cX7_steepest 94 = .ok (.istore_n 3, 1) := by decide +kernel
theorem dX7_steepest_95 : decode cX7_steepest 95 = .ok (.iinc 4 1, 3) := by decide +kernel
theorem dX7_steepest_98 : decode cX7_steepest 98 = .ok (.goto (-58), 3) := by decide +kernel
theorem dX7_steepest_101 : decode cX7_steepest 101 = .ok (.iload_n 2, 1) := by decide +kernel
theorem dX7_steepest_102 : decode cX7_steepest 102 = .ok (.ireturn, 1) := by decide +kernel
set_option maxHeartbeats 4000000 in
set_option maxRecDepth 100000 in
theorem l_X7_steepest_40 {p : Program} {l : Launch} {e : Env} {s : State} {m : MethodId} {args : Array Value} {below : List Frame} {meth : Method} {c : Code} {D : va_G} {cy : Nat → ClassId} {A : Nat → Prop} {Bd : Nat} {xa : Xa} {ad : Nat → Nat} {β : Type} {vO : Option Value} {wO : va_W} {N : Nat} {sc : Nat → Int32} {ar : Nat → Nat → Int32} {la : Nat → Nat → Int64} {v1 : Int32} {kx : Int32 → Option (β)} {out : β} (C : CC p s m args meth c cX7_steepest RX7 6 (some .int) D cy A false Bd xa) (hk : ∀ (x2 : Int32), kx x2 = some out → TT p l e { frames := 1, cells := 0, slots := 0, locals := 21 } s m args below meth c 6 D A false vO wO 101 [(2, .int x2)] [] (mC cy ad sc ar la)) {n : Nat} {v2 : Int32} {v3 : Int32} {v4 : Int32} (hf : f_X7_steepest_L40 N sc ar v1 kx n v2 v3 v4 = some out) : TT p l e { frames := 1, cells := 0, slots := 0, locals := 21 } s m args below meth c 6 D A false vO wO 40 [(0, .ref (ad 0)), (1, .int v1), (2, .int v2), (3, .int v3), (4, .int v4)] [] (mC cy ad sc ar la) := by
  induction n generalizing v2 v3 v4 with
  | zero => cases hf
  | succ n ih =>
    rw [f_X7_steepest_L40] at hf
    refine tt_iload (pc := 40) (k := 4) C dX7_steepest_40 rfl ?_
    refine tt_iload_n (pc := 42) (k := 1) C dX7_steepest_42 rfl rfl ?_
    refine tt_iadd (pc := 43) C dX7_steepest_43 ?_
    refine tt_aload_n (pc := 44) (k := 0) C dX7_steepest_44 rfl rfl ?_
    refine tt_get (pc := 45) (ws := (mC cy ad sc ar la)) (ci := 7) (v := .int (sc 0)) C fiX7 rfl 0 mC_obj 0 (by decide) q4_160 rfl dX7_steepest_45 ?_
    refine tt_icmp_gt (pc := 48) (tgt := 101) C dX7_steepest_48 (by decide) hf (fun hf => ?_) (fun hf => ?_)
    · exact tt_locs [2] rfl (hk _ hf)
    · refine tt_aload_n (pc := 51) (k := 0) C dX7_steepest_51 rfl rfl ?_
      refine tt_get (pc := 52) (ws := (mC cy ad sc ar la)) (ci := 7) (v := .ref (ad 1)) C fiX7 rfl 0 mC_obj 1 (by decide) q4_161 rfl dX7_steepest_52 ?_
      refine tt_iload (pc := 55) (k := 4) C dX7_steepest_55 rfl ?_
      refine tt_iload_n (pc := 57) (k := 1) C dX7_steepest_57 rfl rfl ?_
      refine tt_iadd (pc := 58) C dX7_steepest_58 ?_
      refine tt_iconst (pc := 59) (v := (1 : Int32)) C dX7_steepest_59 (by decide) ?_
      refine tt_isub (pc := 60) C dX7_steepest_60 ?_
      refine tt_iaload (pc := 61) (ws := (mC cy ad sc ar la)) (n := 24) (f := (ar 1)) C 1 0 mC_get1 rfl hf dX7_steepest_61 (fun hf => ?_)
      refine tt_aload_n (pc := 62) (k := 0) C dX7_steepest_62 rfl rfl ?_
      refine tt_get (pc := 63) (ws := (mC cy ad sc ar la)) (ci := 7) (v := .ref (ad 1)) C fiX7 rfl 0 mC_obj 1 (by decide) q4_161 rfl dX7_steepest_63 ?_
      refine tt_iload (pc := 66) (k := 4) C dX7_steepest_66 rfl ?_
      refine tt_iaload (pc := 68) (ws := (mC cy ad sc ar la)) (n := 24) (f := (ar 1)) C 1 0 mC_get1 rfl hf dX7_steepest_68 (fun hf => ?_)
      refine tt_isub (pc := 69) C dX7_steepest_69 ?_
      refine tt_abs (pc := 70) C q5_143 q3_165 q1_14 q3_166 (Nat.le_of_ble_eq_true rfl) (Nat.le_of_ble_eq_true rfl) dX7_steepest_70 ?_
      refine tt_istore (pc := 73) (L' := [(5, .int (if 0 ≤ (((ar 1) (ix ((v4 + v1) - (1 : Int32)))) - ((ar 1) (ix v4))) then (((ar 1) (ix ((v4 + v1) - (1 : Int32)))) - ((ar 1) (ix v4))) else 0 - (((ar 1) (ix ((v4 + v1) - (1 : Int32)))) - ((ar 1) (ix v4))))), (0, .ref (ad 0)), (1, .int v1), (2, .int v2), (3, .int v3), (4, .int v4)]) C dX7_steepest_73 (by decide) rfl ?_
      refine tt_iload (pc := 75) (k := 0) C dX7_steepest_75 rfl ?_
      refine tt_iload_n (pc := 77) (k := 4) C dX7_steepest_77 rfl rfl ?_
      have k3 : TT p l e { frames := 1, cells := 0, slots := 0, locals := 21 } s m args below meth c 6 D A false vO wO 87 [(0, .ref (ad 0)), (1, .int v1), (3, .int v3), (4, .int v4), (5, .int (if 0 ≤ (((ar 1) (ix ((v4 + v1) - (1 : Int32)))) - ((ar 1) (ix v4))) then (((ar 1) (ix ((v4 + v1) - (1 : Int32)))) - ((ar 1) (ix v4))) else 0 - (((ar 1) (ix ((v4 + v1) - (1 : Int32)))) - ((ar 1) (ix v4)))))] [.int (if (if 0 ≤ (((ar 1) (ix ((v4 + v1) - (1 : Int32)))) - ((ar 1) (ix v4))) then (((ar 1) (ix ((v4 + v1) - (1 : Int32)))) - ((ar 1) (ix v4))) else 0 - (((ar 1) (ix ((v4 + v1) - (1 : Int32)))) - ((ar 1) (ix v4)))) ≤ v3 then v2 else v4)] (mC cy ad sc ar la) := by
        refine tt_istore_n (pc := 87) (L' := [(2, .int (if (if 0 ≤ (((ar 1) (ix ((v4 + v1) - (1 : Int32)))) - ((ar 1) (ix v4))) then (((ar 1) (ix ((v4 + v1) - (1 : Int32)))) - ((ar 1) (ix v4))) else 0 - (((ar 1) (ix ((v4 + v1) - (1 : Int32)))) - ((ar 1) (ix v4)))) ≤ v3 then v2 else v4)), (0, .ref (ad 0)), (1, .int v1), (3, .int v3), (4, .int v4), (5, .int (if 0 ≤ (((ar 1) (ix ((v4 + v1) - (1 : Int32)))) - ((ar 1) (ix v4))) then (((ar 1) (ix ((v4 + v1) - (1 : Int32)))) - ((ar 1) (ix v4))) else 0 - (((ar 1) (ix ((v4 + v1) - (1 : Int32)))) - ((ar 1) (ix v4)))))]) C dX7_steepest_87 rfl (by decide) rfl ?_
        refine tt_iload_n (pc := 88) (k := 3) C dX7_steepest_88 rfl rfl ?_
        refine tt_iload (pc := 89) (k := 5) C dX7_steepest_89 rfl ?_
        refine tt_max (pc := 91) C q5_130 q3_73 q1_14 q3_74 (Nat.le_of_ble_eq_true rfl) (Nat.le_of_ble_eq_true rfl) dX7_steepest_91 ?_
        refine tt_istore_n (pc := 94) (L' := [(3, .int (if v3 < (if 0 ≤ (((ar 1) (ix ((v4 + v1) - (1 : Int32)))) - ((ar 1) (ix v4))) then (((ar 1) (ix ((v4 + v1) - (1 : Int32)))) - ((ar 1) (ix v4))) else 0 - (((ar 1) (ix ((v4 + v1) - (1 : Int32)))) - ((ar 1) (ix v4)))) then (if 0 ≤ (((ar 1) (ix ((v4 + v1) - (1 : Int32)))) - ((ar 1) (ix v4))) then (((ar 1) (ix ((v4 + v1) - (1 : Int32)))) - ((ar 1) (ix v4))) else 0 - (((ar 1) (ix ((v4 + v1) - (1 : Int32)))) - ((ar 1) (ix v4)))) else v3)), (2, .int (if (if 0 ≤ (((ar 1) (ix ((v4 + v1) - (1 : Int32)))) - ((ar 1) (ix v4))) then (((ar 1) (ix ((v4 + v1) - (1 : Int32)))) - ((ar 1) (ix v4))) else 0 - (((ar 1) (ix ((v4 + v1) - (1 : Int32)))) - ((ar 1) (ix v4)))) ≤ v3 then v2 else v4)), (0, .ref (ad 0)), (1, .int v1), (4, .int v4), (5, .int (if 0 ≤ (((ar 1) (ix ((v4 + v1) - (1 : Int32)))) - ((ar 1) (ix v4))) then (((ar 1) (ix ((v4 + v1) - (1 : Int32)))) - ((ar 1) (ix v4))) else 0 - (((ar 1) (ix ((v4 + v1) - (1 : Int32)))) - ((ar 1) (ix v4)))))]) C dX7_steepest_94 rfl (by decide) rfl ?_
        refine tt_iinc (pc := 95) (k := 4) (v := (v4 + 1)) (L' := [(4, .int (v4 + 1)), (3, .int (if v3 < (if 0 ≤ (((ar 1) (ix ((v4 + v1) - (1 : Int32)))) - ((ar 1) (ix v4))) then (((ar 1) (ix ((v4 + v1) - (1 : Int32)))) - ((ar 1) (ix v4))) else 0 - (((ar 1) (ix ((v4 + v1) - (1 : Int32)))) - ((ar 1) (ix v4)))) then (if 0 ≤ (((ar 1) (ix ((v4 + v1) - (1 : Int32)))) - ((ar 1) (ix v4))) then (((ar 1) (ix ((v4 + v1) - (1 : Int32)))) - ((ar 1) (ix v4))) else 0 - (((ar 1) (ix ((v4 + v1) - (1 : Int32)))) - ((ar 1) (ix v4)))) else v3)), (2, .int (if (if 0 ≤ (((ar 1) (ix ((v4 + v1) - (1 : Int32)))) - ((ar 1) (ix v4))) then (((ar 1) (ix ((v4 + v1) - (1 : Int32)))) - ((ar 1) (ix v4))) else 0 - (((ar 1) (ix ((v4 + v1) - (1 : Int32)))) - ((ar 1) (ix v4)))) ≤ v3 then v2 else v4)), (0, .ref (ad 0)), (1, .int v1), (5, .int (if 0 ≤ (((ar 1) (ix ((v4 + v1) - (1 : Int32)))) - ((ar 1) (ix v4))) then (((ar 1) (ix ((v4 + v1) - (1 : Int32)))) - ((ar 1) (ix v4))) else 0 - (((ar 1) (ix ((v4 + v1) - (1 : Int32)))) - ((ar 1) (ix v4)))))]) C dX7_steepest_95 rfl rfl (by decide) rfl ?_
        refine tt_goto (pc := 98) (tgt := 40) C dX7_steepest_98 (by decide) ?_
        exact tt_locs [3, 4, 2, 1, 0] rfl (ih hf)
      refine tr_icmp_le (pc := 78) (tgt := 86) C dX7_steepest_78 (by decide) (fun c2 => ?_) (fun c2 => ?_)
      · refine tt_iload_n (pc := 86) (k := 3) C dX7_steepest_86 rfl rfl ?_
        try simp only [if_pos c2] at k3 ⊢
        exact tt_locs [1, 2, 4, 5, 0] rfl k3
      · refine tt_iload (pc := 81) (k := 5) C dX7_steepest_81 rfl ?_
        refine tt_goto (pc := 83) (tgt := 87) C dX7_steepest_83 (by decide) ?_
        try simp only [if_neg c2] at k3 ⊢
        exact tt_locs [1, 2, 4, 5, 0] rfl k3
set_option maxHeartbeats 4000000 in
set_option maxRecDepth 100000 in
theorem k_X7_steepest {l : Launch} {D : va_G} {cy : Nat → ClassId} {Bd : Nat} {xa : Xa} {ad : Nat → Nat} {N : Nat} {sc : Nat → Int32} {ar : Nat → Nat → Int32} {la : Nat → Nat → Int64} {a1 : Int32} {out : Int32 × (Nat → Nat → Int32)} (hf : f_X7_steepest N sc ar a1 = some out) : KC l yX7_steepest cX7_steepest 6 (some .int) 1 21 false D cy Bd xa [.ref (ad 0), .int a1] (mC cy ad sc ar la) (some (.int out.1)) (mC cy ad sc out.2 la) := by
  refine kc_start (own := RX7) (by decide +kernel) rfl (Nat.le_of_ble_eq_true rfl) ?_
  intro p e s m args below meth c A C
  unfold f_X7_steepest at hf
  refine tt_locs (L' := [(0, .ref (ad 0)), (1, .int a1)]) [0, 1] rfl ?_
  refine tt_iload_n (pc := 0) (k := 1) C dX7_steepest_0 rfl rfl ?_
  refine tt_iconst (pc := 1) (v := (2 : Int32)) C dX7_steepest_1 (by decide) ?_
  refine tt_icmp_ge (pc := 2) (tgt := 12) C dX7_steepest_2 (by decide) hf (fun hf => ?_) (fun hf => ?_)
  · refine tt_iload_n (pc := 12) (k := 1) C dX7_steepest_12 rfl rfl ?_
    refine tt_bipush (pc := 13) (v := (8 : Int32)) C dX7_steepest_13 (by decide) ?_
    refine tt_icmp_gt (pc := 15) (tgt := 26) C dX7_steepest_15 (by decide) hf (fun hf => ?_) (fun hf => ?_)
    · refine tt_aload_n (pc := 26) (k := 0) C dX7_steepest_26 rfl rfl ?_
      refine tt_bipush (pc := 27) (v := (-6 : Int32)) C dX7_steepest_27 (by decide) ?_
      obtain ⟨r1, hr1, hf⟩ := bind_some hf
      refine tt_callM (pc := 29) (ws := (mC cy ad sc ar la)) (q0 := 0) (ci := 7) (rest := []) (st' := [.int r1.1]) C rfl (k_X7_no hr1) okX7_no q5_36 rfl mC_obj rfl rfl rfl (Nat.le_of_ble_eq_true rfl) ⟨Nat.le_of_ble_eq_true rfl, Nat.le_of_ble_eq_true rfl⟩ dX7_steepest_29 ?_
      obtain rfl := Option.some.inj hf
      exact tt_ireturn (pc := 32) C rfl rfl rfl dX7_steepest_32
    · refine tt_iload_n (pc := 18) (k := 1) C dX7_steepest_18 rfl rfl ?_
      refine tt_aload_n (pc := 19) (k := 0) C dX7_steepest_19 rfl rfl ?_
      refine tt_get (pc := 20) (ws := (mC cy ad sc ar la)) (ci := 7) (v := .int (sc 0)) C fiX7 rfl 0 mC_obj 0 (by decide) q4_160 rfl dX7_steepest_20 ?_
      refine tt_icmp_le (pc := 23) (tgt := 33) C dX7_steepest_23 (by decide) hf (fun hf => ?_) (fun hf => ?_)
      · refine tt_iconst (pc := 33) (v := (0 : Int32)) C dX7_steepest_33 (by decide) ?_
        refine tt_istore_n (pc := 34) (L' := [(2, .int (0 : Int32)), (0, .ref (ad 0)), (1, .int a1)]) C dX7_steepest_34 rfl (by decide) rfl ?_
        refine tt_iconst (pc := 35) (v := (-1 : Int32)) C dX7_steepest_35 (by decide) ?_
        refine tt_istore_n (pc := 36) (L' := [(3, .int (-1 : Int32)), (2, .int (0 : Int32)), (0, .ref (ad 0)), (1, .int a1)]) C dX7_steepest_36 rfl (by decide) rfl ?_
        refine tt_iconst (pc := 37) (v := (0 : Int32)) C dX7_steepest_37 (by decide) ?_
        refine tt_istore (pc := 38) (L' := [(4, .int (0 : Int32)), (3, .int (-1 : Int32)), (2, .int (0 : Int32)), (0, .ref (ad 0)), (1, .int a1)]) C dX7_steepest_38 (by decide) rfl ?_
        refine tt_locs (L' := [(0, .ref (ad 0)), (1, .int a1), (2, .int (0 : Int32)), (3, .int (-1 : Int32)), (4, .int (0 : Int32))]) [3, 4, 2, 1, 0] rfl (l_X7_steepest_40 C (fun x2_4 hf => ?_) hf)
        refine tt_iload_n (pc := 101) (k := 0) C dX7_steepest_101 rfl rfl ?_
        obtain rfl := Option.some.inj hf
        exact tt_ireturn (pc := 102) C rfl rfl rfl dX7_steepest_102
      · refine tt_aload_n (pc := 26) (k := 0) C dX7_steepest_26 rfl rfl ?_
        refine tt_bipush (pc := 27) (v := (-6 : Int32)) C dX7_steepest_27 (by decide) ?_
        obtain ⟨r4, hr4, hf⟩ := bind_some hf
        refine tt_callM (pc := 29) (ws := (mC cy ad sc ar la)) (q0 := 0) (ci := 7) (rest := []) (st' := [.int r4.1]) C rfl (k_X7_no hr4) okX7_no q5_36 rfl mC_obj rfl rfl rfl (Nat.le_of_ble_eq_true rfl) ⟨Nat.le_of_ble_eq_true rfl, Nat.le_of_ble_eq_true rfl⟩ dX7_steepest_29 ?_
        obtain rfl := Option.some.inj hf
        exact tt_ireturn (pc := 32) C rfl rfl rfl dX7_steepest_32
  · refine tt_aload_n (pc := 5) (k := 0) C dX7_steepest_5 rfl rfl ?_
    refine tt_bipush (pc := 6) (v := (-4 : Int32)) C dX7_steepest_6 (by decide) ?_
    obtain ⟨r5, hr5, hf⟩ := bind_some hf
    refine tt_callM (pc := 8) (ws := (mC cy ad sc ar la)) (q0 := 0) (ci := 7) (rest := []) (st' := [.int r5.1]) C rfl (k_X7_no hr5) okX7_no q5_36 rfl mC_obj rfl rfl rfl (Nat.le_of_ble_eq_true rfl) ⟨Nat.le_of_ble_eq_true rfl, Nat.le_of_ble_eq_true rfl⟩ dX7_steepest_8 ?_
    obtain rfl := Option.some.inj hf
    exact tt_ireturn (pc := 11) C rfl rfl rfl dX7_steepest_11
theorem dX7_divisor_0 : decode cX7_divisor 0 = .ok (.lload_n 0, 1) := by decide +kernel
theorem dX7_divisor_1 : decode cX7_divisor 1 = .ok (.lstore 4, 2) := by decide +kernel
theorem dX7_divisor_3 : decode cX7_divisor 3 = .ok (.lload_n 2, 1) := by decide +kernel
theorem dX7_divisor_4 : decode cX7_divisor 4 = .ok (.lstore 6, 2) := by decide +kernel
theorem dX7_divisor_6 : decode cX7_divisor 6 = .ok (.lload 6, 2) := by decide +kernel
theorem dX7_divisor_8 : decode cX7_divisor 8 = .ok (.lconst 0, 1) := by decide +kernel
theorem dX7_divisor_9 : decode cX7_divisor 9 = .ok (.lcmp, 1) := by decide +kernel
theorem dX7_divisor_10 : decode cX7_divisor 10 = .ok (.ifCond .eq 21, 3) := by decide +kernel
theorem dX7_divisor_13 : decode cX7_divisor 13 = .ok (.lload 4, 2) := by decide +kernel
theorem dX7_divisor_15 : decode cX7_divisor 15 = .ok (.lload 6, 2) := by decide +kernel
theorem dX7_divisor_17 : decode cX7_divisor 17 = .ok (.lrem, 1) := by decide +kernel
theorem dX7_divisor_18 : decode cX7_divisor 18 = .ok (.lstore 8, 2) := by decide +kernel
theorem dX7_divisor_20 : decode cX7_divisor 20 = .ok (.lload 6, 2) := by decide +kernel
theorem dX7_divisor_22 : decode cX7_divisor 22 = .ok (.lstore 4, 2) := by decide +kernel
theorem dX7_divisor_24 : decode cX7_divisor 24 = .ok (.lload 8, 2) := by decide +kernel
theorem dX7_divisor_26 : decode cX7_divisor 26 = .ok (.lstore 6, 2) := by decide +kernel
theorem dX7_divisor_28 : decode cX7_divisor 28 = .ok (.goto (-22), 3) := by decide +kernel
theorem dX7_divisor_31 : decode cX7_divisor 31 = .ok (.lload 4, 2) := by decide +kernel
theorem dX7_divisor_33 : decode cX7_divisor 33 = .ok (.lreturn, 1) := by decide +kernel
set_option maxHeartbeats 4000000 in
set_option maxRecDepth 100000 in
theorem l_X7_divisor_6 {p : Program} {l : Launch} {e : Env} {s : State} {m : MethodId} {args : Array Value} {below : List Frame} {meth : Method} {c : Code} {D : va_G} {cy : Nat → ClassId} {A : Nat → Prop} {Bd : Nat} {xa : Xa}  {β : Type} {vO : Option Value} {wO : va_W} {N : Nat}  {kx : Int64 → Option (β)} {out : β} (C : CC p s m args meth c cX7_divisor RX7 10 (some .long) D cy A true Bd xa) (hk : ∀ (x4 : Int64), kx x4 = some out → TT p l e { frames := 0, cells := 0, slots := 0, locals := 0 } s m args below meth c 10 D A true vO wO 31 [(4, .long x4)] [] []) {n : Nat} {v4 : Int64} {v6 : Int64} (hf : f_X7_divisor_L6 N kx n v4 v6 = some out) : TT p l e { frames := 0, cells := 0, slots := 0, locals := 0 } s m args below meth c 10 D A true vO wO 6 [(4, .long v4), (6, .long v6)] [] [] := by
  induction n generalizing v4 v6 with
  | zero => cases hf
  | succ n ih =>
    rw [f_X7_divisor_L6] at hf
    refine tt_lload (pc := 6) (k := 1) C dX7_divisor_6 rfl ?_
    refine tt_lconst (pc := 8) (v := (0 : Int64)) C dX7_divisor_8 rfl ?_
    refine tt_lcmp (pc := 9) C dX7_divisor_9 ?_
    refine tt_if_eq (pc := 10) (tgt := 31) C dX7_divisor_10 (by decide) hf (fun hf => ?_) (fun hf => ?_)
    · exact tt_locs [0] rfl (hk _ hf)
    · refine tt_lload (pc := 13) (k := 0) C dX7_divisor_13 rfl ?_
      refine tt_lload (pc := 15) (k := 1) C dX7_divisor_15 rfl ?_
      refine tt_lrem (pc := 17) C dX7_divisor_17 hf (fun hf => ?_)
      refine tt_lstore (pc := 18) (L' := [(8, .long (v4 - v4 / v6 * v6)), (4, .long v4), (6, .long v6)]) C dX7_divisor_18 (by decide) rfl ?_
      refine tt_lload (pc := 20) (k := 2) C dX7_divisor_20 rfl ?_
      refine tt_lstore (pc := 22) (L' := [(4, .long v6), (8, .long (v4 - v4 / v6 * v6)), (6, .long v6)]) C dX7_divisor_22 (by decide) rfl ?_
      refine tt_lload (pc := 24) (k := 1) C dX7_divisor_24 rfl ?_
      refine tt_lstore (pc := 26) (L' := [(6, .long (v4 - v4 / v6 * v6)), (4, .long v6), (8, .long (v4 - v4 / v6 * v6))]) C dX7_divisor_26 (by decide) rfl ?_
      refine tt_goto (pc := 28) (tgt := 6) C dX7_divisor_28 (by decide) ?_
      exact tt_locs [1, 0] rfl (ih hf)
set_option maxHeartbeats 4000000 in
set_option maxRecDepth 100000 in
theorem k_X7_divisor {l : Launch} {D : va_G} {cy : Nat → ClassId} {Bd : Nat} {xa : Xa}  {N : Nat} {a1 : Int64} {a2 : Int64} {out : Int64} (hf : f_X7_divisor N a1 a2 = some out) : KC l yX7_divisor cX7_divisor 10 (some .long) 0 0 true D cy Bd xa [.long a1, .long a2] [] (some (.long out)) [] := by
  refine kc_start (own := RX7) (by decide +kernel) rfl (Nat.le_of_ble_eq_true rfl) ?_
  intro p e s m args below meth c A C
  unfold f_X7_divisor at hf
  refine tt_locs (L' := [(0, .long a1), (2, .long a2)]) [0, 1] rfl ?_
  refine tt_lload_n (pc := 0) (k := 0) C dX7_divisor_0 rfl rfl ?_
  refine tt_lstore (pc := 1) (L' := [(4, .long a1), (0, .long a1), (2, .long a2)]) C dX7_divisor_1 (by decide) rfl ?_
  refine tt_lload_n (pc := 3) (k := 2) C dX7_divisor_3 rfl rfl ?_
  refine tt_lstore (pc := 4) (L' := [(6, .long a2), (4, .long a1), (0, .long a1), (2, .long a2)]) C dX7_divisor_4 (by decide) rfl ?_
  refine tt_locs (L' := [(4, .long a1), (6, .long a2)]) [1, 0] rfl (l_X7_divisor_6 C (fun x4_1 hf => ?_) hf)
  refine tt_lload (pc := 31) (k := 0) C dX7_divisor_31 rfl ?_
  obtain rfl := Option.some.inj hf
  exact tt_lreturn (pc := 33) C rfl rfl rfl dX7_divisor_33
theorem dX7_part_0 : decode cX7_part 0 = .ok (.iload 4, 2) := by decide +kernel
theorem dX7_part_2 : decode cX7_part 2 = .ok (.ifCond .ne 7, 3) := by decide +kernel
theorem dX7_part_5 : decode cX7_part 5 = .ok (.lload_n 0, 1) := by decide +kernel
theorem dX7_part_6 : decode cX7_part 6 = .ok (.goto 4, 3) := by decide +kernel
theorem dX7_part_9 : decode cX7_part 9 = .ok (.lload_n 2, 1) := by decide +kernel
theorem dX7_part_10 : decode cX7_part 10 = .ok (.lload_n 0, 1) := by decide +kernel
theorem dX7_part_11 : decode cX7_part 11 = .ok (.lload_n 2, 1) := by decide +kernel
theorem dX7_part_12 : decode cX7_part 12 = .ok (.invokestatic 237, 3) := by decide +kernel
theorem dX7_part_15 : decode cX7_part 15 = .ok (.ldiv, 1) := by decide +kernel
theorem dX7_part_16 : decode cX7_part 16 = .ok (.lreturn, 1) := by decide +kernel
set_option maxHeartbeats 4000000 in
set_option maxRecDepth 100000 in
theorem k_X7_part {l : Launch} {D : va_G} {cy : Nat → ClassId} {Bd : Nat} {xa : Xa}  {N : Nat} {a1 : Int64} {a2 : Int64} {a3 : Int32} {out : Int64} (hf : f_X7_part N a1 a2 a3 = some out) : KC l yX7_part cX7_part 5 (some .long) 1 29 true D cy Bd xa [.long a1, .long a2, .int a3] [] (some (.long out)) [] := by
  refine kc_start (own := RX7) (by decide +kernel) rfl (Nat.le_of_ble_eq_true rfl) ?_
  intro p e s m args below meth c A C
  unfold f_X7_part at hf
  refine tt_locs (L' := [(0, .long a1), (2, .long a2), (4, .int a3)]) [0, 1, 2] rfl ?_
  refine tt_iload (pc := 0) (k := 2) C dX7_part_0 rfl ?_
  have k2 : TT p l e { frames := 1, cells := 0, slots := 0, locals := 29 } s m args below meth c 5 D A true (some (.long out)) [] 10 [(0, .long a1), (2, .long a2)] [.long (if a3 = 0 then a1 else a2)] [] := by
    refine tt_lload_n (pc := 10) (k := 0) C dX7_part_10 rfl rfl ?_
    refine tt_lload_n (pc := 11) (k := 1) C dX7_part_11 rfl rfl ?_
    obtain ⟨r3, hr3, hf⟩ := bind_some hf
    refine tt_callS (pc := 12) (ws := []) (rest := [.long (if a3 = 0 then a1 else a2)]) (st' := [.long r3, .long (if a3 = 0 then a1 else a2)]) C (k_X7_divisor hr3) okX7_divisor q6_52 (fun _ h => absurd h List.not_mem_nil) rfl rfl rfl (Nat.le_of_ble_eq_true rfl) ⟨Nat.le_of_ble_eq_true rfl, Nat.le_of_ble_eq_true rfl⟩ dX7_part_12 ?_
    refine tt_ldiv (pc := 15) C dX7_part_15 hf (fun hf => ?_)
    obtain rfl := Option.some.inj hf
    exact tt_lreturn (pc := 16) C rfl rfl rfl dX7_part_16
  refine tr_if_ne (pc := 2) (tgt := 9) C dX7_part_2 (by decide) (fun c1 => ?_) (fun c1 => ?_)
  · refine tt_lload_n (pc := 9) (k := 1) C dX7_part_9 rfl rfl ?_
    try simp only [if_neg c1] at k2 ⊢
    exact tt_locs [0, 1] rfl k2
  · refine tt_lload_n (pc := 5) (k := 0) C dX7_part_5 rfl rfl ?_
    refine tt_goto (pc := 6) (tgt := 10) C dX7_part_6 (by decide) ?_
    try simp only [if_pos c1] at k2 ⊢
    exact tt_locs [0, 1] rfl k2
theorem dX7_down_0 : decode cX7_down 0 = .ok (.iload_n 1, 1) := by decide +kernel
theorem dX7_down_1 : decode cX7_down 1 = .ok (.iconst 2, 1) := by decide +kernel
theorem dX7_down_2 : decode cX7_down 2 = .ok (.if_icmp .ge 10, 3) := by decide +kernel
theorem dX7_down_5 : decode cX7_down 5 = .ok (.aload_n 0, 1) := by decide +kernel
theorem dX7_down_6 : decode cX7_down 6 = .ok (.bipush (-4), 2) := by decide +kernel
theorem dX7_down_8 : decode cX7_down 8 = .ok (.invokevirtual 214, 3) := by decide +kernel
theorem dX7_down_11 : decode cX7_down 11 = .ok (.lreturn, 1) := by decide +kernel
theorem dX7_down_12 : decode cX7_down 12 = .ok (.iload_n 1, 1) := by decide +kernel
theorem dX7_down_13 : decode cX7_down 13 = .ok (.bipush 20, 2) := by decide +kernel
theorem dX7_down_15 : decode cX7_down 15 = .ok (.if_icmp .le 10, 3) := by decide +kernel
theorem dX7_down_18 : decode cX7_down 18 = .ok (.aload_n 0, 1) := by decide +kernel
theorem dX7_down_19 : decode cX7_down 19 = .ok (.bipush (-6), 2) := by decide +kernel
theorem dX7_down_21 : decode cX7_down 21 = .ok (.invokevirtual 214, 3) := by decide +kernel
theorem dX7_down_24 : decode cX7_down 24 = .ok (.lreturn, 1) := by decide +kernel
theorem dX7_down_25 : decode cX7_down 25 = .ok (.iload_n 2, 1) := by decide +kernel
theorem dX7_down_26 : decode cX7_down 26 = .ok (.iconst 0, 1) := by decide +kernel
theorem dX7_down_27 : decode cX7_down 27 = .ok (.iconst 1, 1) := by decide +kernel
theorem dX7_down_28 : decode cX7_down 28 = .ok (.invokestatic 102, 3) := by decide +kernel
theorem dX7_down_31 : decode cX7_down 31 = .ok (.ifCond .ne 10, 3) := by decide +kernel
theorem dX7_down_34 : decode cX7_down 34 = .ok (.aload_n 0, 1) := by decide +kernel
theorem dX7_down_35 : decode cX7_down 35 = .ok (.bipush (-2), 2) := by decide +kernel
theorem dX7_down_37 : decode cX7_down 37 = .ok (.invokevirtual 214, 3) := by decide +kernel
theorem dX7_down_40 : decode cX7_down 40 = .ok (.lreturn, 1) := by decide +kernel
theorem dX7_down_41 : decode cX7_down 41 = .ok (.aload_n 0, 1) := by decide +kernel
theorem dX7_down_42 : decode cX7_down 42 = .ok (.aload_n 0, 1) := by decide +kernel
theorem dX7_down_43 : decode cX7_down 43 = .ok (.getfield 65, 3) := by decide +kernel
theorem dX7_down_46 : decode cX7_down 46 = .ok (.invokevirtual 221, 3) := by decide +kernel
theorem dX7_down_49 : decode cX7_down 49 = .ok (.aload_n 0, 1) := by decide +kernel
theorem dX7_down_50 : decode cX7_down 50 = .ok (.getfield 106, 3) := by decide +kernel
theorem dX7_down_53 : decode cX7_down 53 = .ok (.istore_n 3, 1) := by decide +kernel
theorem dX7_down_54 : decode cX7_down 54 = .ok (.lconst 0, 1) := by decide +kernel
theorem dX7_down_55 : decode cX7_down 55 = .ok (.lstore 4, 2) := by decide +kernel
theorem dX7_down_57 : decode cX7_down 57 = .ok (.lconst 1, 1) := by decide +kernel
theorem dX7_down_58 : decode cX7_down 58 = .ok (.lstore 6, 2) := by decide +kernel
theorem dX7_down_60 : decode cX7_down 60 = .ok (.iconst 0, 1) := by decide +kernel
theorem dX7_down_61 : decode cX7_down 61 = .ok (.istore 8, 2) := by decide +kernel
theorem dX7_down_63 : decode cX7_down 63 = .ok (.iload 8, 2) := by decide +kernel
theorem dX7_down_65 : decode cX7_down 65 = .ok (.iload_n 3, 1) := by decide +kernel
theorem dX7_down_66 : decode cX7_down 66 = .ok (.if_icmp .ge 16, 3) := by decide +kernel
theorem dX7_down_69 : decode cX7_down 69 = .ok (.lload 6, 2) := by decide +kernel
theorem dX7_down_71 : decode cX7_down 71 = .ok (.iload_n 1, 1) := by decide +kernel
theorem dX7_down_72 : decode cX7_down 72 = .ok (.i2l, 1) := by decide +kernel
theorem dX7_down_73 : decode cX7_down 73 = .ok (.lmul, 1) := by decide +kernel
theorem dX7_down_74 : decode cX7_down 74 = .ok (.lstore 6, 2) := by decide +kernel
theorem dX7_down_76 : decode cX7_down 76 = .ok (.iinc 8 1, 3) := by decide +kernel
theorem dX7_down_79 : decode cX7_down 79 = .ok (.goto (-16), 3) := by decide +kernel
theorem dX7_down_82 : decode cX7_down 82 = .ok (.iconst 0, 1) := by decide +kernel
theorem dX7_down_83 : decode cX7_down 83 = .ok (.istore 8, 2) := by decide +kernel
theorem dX7_down_85 : decode cX7_down 85 = .ok (.iload 8, 2) := by decide +kernel
theorem dX7_down_87 : decode cX7_down 87 = .ok (.iconst 1, 1) := by decide +kernel
theorem dX7_down_88 : decode cX7_down 88 = .ok (.iload_n 3, 1) := by decide +kernel
theorem dX7_down_89 : decode cX7_down 89 = .ok (.ishl, 1) := by decide +kernel
theorem dX7_down_90 : decode cX7_down 90 = .ok (.if_icmp .ge 94, 3) := by decide +kernel
theorem dX7_down_93 : decode cX7_down 93 = .ok (.lconst 1, 1) := by decide +kernel
theorem dX7_down_94 : decode cX7_down 94 = .ok (.lstore 9, 2) := by decide +kernel
theorem dX7_down_96 : decode cX7_down 96 = .ok (.iload_n 3, 1) := by decide +kernel
theorem dX7_down_97 : decode cX7_down 97 = .ok (.iconst 1, 1) := by decide +kernel
theorem dX7_down_98 : decode cX7_down 98 = .ok (.isub, 1) := by decide +kernel
theorem dX7_down_99 : decode cX7_down 99 = .ok (.istore 11, 2) := by decide +kernel
theorem dX7_down_101 : decode cX7_down 101 = .ok (.iload 11, 2) := by decide +kernel
theorem dX7_down_103 : decode cX7_down 103 = .ok (.ifCond .lt 49, 3) := by decide +kernel
theorem dX7_down_106 : decode cX7_down 106 = .ok (.lload 9, 2) := by decide +kernel
theorem dX7_down_108 : decode cX7_down 108 = .ok (.iload 8, 2) := by decide +kernel
theorem dX7_down_110 : decode cX7_down 110 = .ok (.iload 11, 2) := by decide +kernel
theorem dX7_down_112 : decode cX7_down 112 = .ok (.invokestatic 168, 3) := by decide +kernel
theorem dX7_down_115 : decode cX7_down 115 = .ok (.ifCond .eq 7, 3) := by decide +kernel
theorem dX7_down_118 : decode cX7_down 118 = .ok (.lconst 1, 1) := by decide +kernel
theorem dX7_down_119 : decode cX7_down 119 = .ok (.goto 7, 3) := by decide +kernel
theorem dX7_down_122 : decode cX7_down 122 = .ok (.iload_n 1, 1) := by decide +kernel
theorem dX7_down_123 : decode cX7_down 123 = .ok (.iconst 1, 1) := by decide +kernel
theorem dX7_down_124 : decode cX7_down 124 = .ok (.isub, 1) := by decide +kernel
theorem dX7_down_125 : decode cX7_down 125 = .ok (.i2l, 1) := by decide +kernel
theorem dX7_down_126 : decode cX7_down 126 = .ok (.lmul, 1) := by decide +kernel
theorem dX7_down_127 : decode cX7_down 127 = .ok (.lstore 9, 2) := by decide +kernel
theorem dX7_down_129 : decode cX7_down 129 = .ok (.iload 8, 2) := by decide +kernel
theorem dX7_down_131 : decode cX7_down 131 = .ok (.iload 11, 2) := by decide +kernel
theorem dX7_down_133 : decode cX7_down 133 = .ok (.invokestatic 168, 3) := by decide +kernel
theorem dX7_down_136 : decode cX7_down 136 = .ok (.ifCond .eq 10, 3) := by decide +kernel
theorem dX7_down_139 : decode cX7_down 139 = .ok (.aload_n 0, 1) := by decide +kernel
theorem dX7_down_140 : decode cX7_down 140 = .ok (.iload 11, 2) := by decide +kernel
theorem dX7_down_142 : decode cX7_down 142 = .ok (.invokevirtual 225, 3) := by decide +kernel
theorem dX7_down_145 : decode cX7_down 145 = .ok (.pop, 1) := by decide +kernel
theorem dX7_down_146 : decode cX7_down 146 = .ok (.iinc 11 (-1), 3) := by decide +kernel
theorem dX7_down_149 : decode cX7_down 149 = .ok (.goto (-48), 3) := by decide +kernel
theorem dX7_down_152 : decode cX7_down 152 = .ok (.lload 4, 2) := by decide +kernel
theorem dX7_down_154 : decode cX7_down 154 = .ok (.aload_n 0, 1) := by decide +kernel
theorem dX7_down_155 : decode cX7_down 155 = .ok (.invokevirtual 191, 3) := by decide +kernel
theorem dX7_down_158 : decode cX7_down 158 = .ok (.ifCond .eq 8, 3) := by decide +kernel
theorem dX7_down_161 : decode cX7_down 161 = .ok (.lload 9, 2) := by decide +kernel
theorem dX7_down_163 : decode cX7_down 163 = .ok (.goto 4, 3) := by decide +kernel
theorem dX7_down_166 : decode cX7_down 166 = .ok (.lconst 0, 1) := by decide +kernel
theorem dX7_down_167 : decode cX7_down 167 = .ok (.ladd, 1) := by decide +kernel
theorem dX7_down_168 : decode cX7_down 168 = .ok (.lstore 4, 2) := by decide +kernel
theorem dX7_down_170 : decode cX7_down 170 = .ok (.aload_n 0, 1) := by decide +kernel
theorem dX7_down_171 : decode cX7_down 171 = .ok (.aload_n 0, 1) := by decide +kernel
theorem dX7_down_172 : decode cX7_down 172 = .ok (.getfield 65, 3) := by decide +kernel
theorem dX7_down_175 : decode cX7_down 175 = .ok (.invokevirtual 228, 3) := by decide +kernel
theorem dX7_down_178 : decode cX7_down 178 = .ok (.iinc 8 1, 3) := by decide +kernel
theorem dX7_down_181 : decode cX7_down 181 = .ok (.goto (-96), 3) := by decide +kernel
theorem dX7_down_184 : decode cX7_down 184 = .ok (.lload 4, 2) := by decide +kernel
theorem dX7_down_186 : decode cX7_down 186 = .ok (.lload 6, 2) := by decide +kernel
theorem dX7_down_188 : decode cX7_down 188 = .ok (.iload_n 2, 1) := by decide +kernel
theorem dX7_down_189 : decode cX7_down 189 = .ok (.invokestatic 241, 3) := by decide +kernel
theorem dX7_down_192 : decode cX7_down 192 = .ok (.lreturn, 1) := by decide +kernel
set_option maxHeartbeats 4000000 in
set_option maxRecDepth 100000 in
theorem l_X7_down_63 {p : Program} {l : Launch} {e : Env} {s : State} {m : MethodId} {args : Array Value} {below : List Frame} {meth : Method} {c : Code} {D : va_G} {cy : Nat → ClassId} {A : Nat → Prop} {Bd : Nat} {xa : Xa} {ad : Nat → Nat} {β : Type} {vO : Option Value} {wO : va_W} {N : Nat} {sc : Nat → Int32} {ar : Nat → Nat → Int32} {la : Nat → Nat → Int64} {v1 : Int32} {v2 : Int32} {v3 : Int32} {v4 : Int64} {kx : Int64 → Option (β)} {out : β} (C : CC p s m args meth c cX7_down RX7 12 (some .long) D cy A false Bd xa) (hk : ∀ (x6 : Int64), kx x6 = some out → TT p l e { frames := 8, cells := 0, slots := 0, locals := 191 } s m args below meth c 12 D A false vO wO 82 [(0, .ref (ad 0)), (1, .int v1), (2, .int v2), (3, .int v3), (4, .long v4), (6, .long x6)] [] (mC cy ad sc ar la)) {n : Nat} {v6 : Int64} {v8 : Int32} (hf : f_X7_down_L63 N sc ar v1 v2 v3 v4 kx n v6 v8 = some out) : TT p l e { frames := 8, cells := 0, slots := 0, locals := 191 } s m args below meth c 12 D A false vO wO 63 [(0, .ref (ad 0)), (1, .int v1), (2, .int v2), (3, .int v3), (4, .long v4), (6, .long v6), (8, .int v8)] [] (mC cy ad sc ar la) := by
  induction n generalizing v6 v8 with
  | zero => cases hf
  | succ n ih =>
    rw [f_X7_down_L63] at hf
    refine tt_iload (pc := 63) (k := 6) C dX7_down_63 rfl ?_
    refine tt_iload_n (pc := 65) (k := 3) C dX7_down_65 rfl rfl ?_
    refine tt_icmp_ge (pc := 66) (tgt := 82) C dX7_down_66 (by decide) hf (fun hf => ?_) (fun hf => ?_)
    · exact tt_locs [0, 1, 2, 3, 4, 5] rfl (hk _ hf)
    · refine tt_lload (pc := 69) (k := 5) C dX7_down_69 rfl ?_
      refine tt_iload_n (pc := 71) (k := 1) C dX7_down_71 rfl rfl ?_
      refine tt_i2l (pc := 72) C dX7_down_72 ?_
      refine tt_lmul (pc := 73) C dX7_down_73 ?_
      refine tt_lstore (pc := 74) (L' := [(6, .long (v6 * (v1 : Int32).toInt64)), (0, .ref (ad 0)), (1, .int v1), (2, .int v2), (3, .int v3), (4, .long v4), (8, .int v8)]) C dX7_down_74 (by decide) rfl ?_
      refine tt_iinc (pc := 76) (k := 6) (v := (v8 + 1)) (L' := [(8, .int (v8 + 1)), (6, .long (v6 * (v1 : Int32).toInt64)), (0, .ref (ad 0)), (1, .int v1), (2, .int v2), (3, .int v3), (4, .long v4)]) C dX7_down_76 rfl rfl (by decide) rfl ?_
      refine tt_goto (pc := 79) (tgt := 63) C dX7_down_79 (by decide) ?_
      exact tt_locs [2, 3, 4, 5, 6, 1, 0] rfl (ih hf)
set_option maxHeartbeats 4000000 in
set_option maxRecDepth 100000 in
theorem l_X7_down_101 {p : Program} {l : Launch} {e : Env} {s : State} {m : MethodId} {args : Array Value} {below : List Frame} {meth : Method} {c : Code} {D : va_G} {cy : Nat → ClassId} {A : Nat → Prop} {Bd : Nat} {xa : Xa} {ad : Nat → Nat} {β : Type} {vO : Option Value} {wO : va_W} {N : Nat} {la : Nat → Nat → Int64} {v1 : Int32} {v2 : Int32} {v3 : Int32} {v4 : Int64} {v6 : Int64} {v8 : Int32} {kx : Int64 → (Nat → Int32) → (Nat → Nat → Int32) → Option (β)} {out : β} (C : CC p s m args meth c cX7_down RX7 12 (some .long) D cy A false Bd xa) (hk : ∀ (x9 : Int64) (sc1 : Nat → Int32) (ar1 : Nat → Nat → Int32), kx x9 sc1 ar1 = some out → TT p l e { frames := 8, cells := 0, slots := 0, locals := 191 } s m args below meth c 12 D A false vO wO 152 [(0, .ref (ad 0)), (1, .int v1), (2, .int v2), (3, .int v3), (4, .long v4), (6, .long v6), (8, .int v8), (9, .long x9)] [] (mC cy ad sc1 ar1 la)) {n : Nat} {v9 : Int64} {v11 : Int32} {sc : Nat → Int32} {ar : Nat → Nat → Int32} (hf : f_X7_down_L101 N v1 v2 v3 v4 v6 v8 kx n v9 v11 sc ar = some out) : TT p l e { frames := 8, cells := 0, slots := 0, locals := 191 } s m args below meth c 12 D A false vO wO 101 [(0, .ref (ad 0)), (1, .int v1), (2, .int v2), (3, .int v3), (4, .long v4), (6, .long v6), (8, .int v8), (9, .long v9), (11, .int v11)] [] (mC cy ad sc ar la) := by
  induction n generalizing v9 v11 sc ar with
  | zero => cases hf
  | succ n ih =>
    rw [f_X7_down_L101] at hf
    refine tt_iload (pc := 101) (k := 8) C dX7_down_101 rfl ?_
    refine tt_if_lt (pc := 103) (tgt := 152) C dX7_down_103 (by decide) hf (fun hf => ?_) (fun hf => ?_)
    · exact tt_locs [0, 1, 2, 3, 4, 5, 6, 7] rfl (hk _ _ _ hf)
    · refine tt_lload (pc := 106) (k := 7) C dX7_down_106 rfl ?_
      refine tt_iload (pc := 108) (k := 6) C dX7_down_108 rfl ?_
      refine tt_iload (pc := 110) (k := 8) C dX7_down_110 rfl ?_
      obtain ⟨r3, hr3, hf⟩ := bind_some hf
      refine tt_callS (pc := 112) (ws := (mC cy ad sc ar la)) (rest := [.long v9]) (st' := [.int r3, .long v9]) C (k_X7_has hr3) okX7_has q5_148 (fun _ h => absurd h List.not_mem_nil) rfl rfl rfl (Nat.le_of_ble_eq_true rfl) ⟨Nat.le_of_ble_eq_true rfl, Nat.le_of_ble_eq_true rfl⟩ dX7_down_112 ?_
      have k5 : TT p l e { frames := 8, cells := 0, slots := 0, locals := 191 } s m args below meth c 12 D A false vO wO 126 [(0, .ref (ad 0)), (1, .int v1), (2, .int v2), (3, .int v3), (4, .long v4), (6, .long v6), (8, .int v8), (11, .int v11)] [.long (if r3 = 0 then ((v1 - (1 : Int32)) : Int32).toInt64 else (1 : Int64)), .long v9] (mC cy ad sc ar la) := by
        refine tt_lmul (pc := 126) C dX7_down_126 ?_
        refine tt_lstore (pc := 127) (L' := [(9, .long (v9 * (if r3 = 0 then ((v1 - (1 : Int32)) : Int32).toInt64 else (1 : Int64)))), (0, .ref (ad 0)), (1, .int v1), (2, .int v2), (3, .int v3), (4, .long v4), (6, .long v6), (8, .int v8), (11, .int v11)]) C dX7_down_127 (by decide) rfl ?_
        refine tt_iload (pc := 129) (k := 7) C dX7_down_129 rfl ?_
        refine tt_iload (pc := 131) (k := 8) C dX7_down_131 rfl ?_
        obtain ⟨r6, hr6, hf⟩ := bind_some hf
        refine tt_callS (pc := 133) (ws := (mC cy ad sc ar la)) (rest := []) (st' := [.int r6]) C (k_X7_has hr6) okX7_has q5_148 (fun _ h => absurd h List.not_mem_nil) rfl rfl rfl (Nat.le_of_ble_eq_true rfl) ⟨Nat.le_of_ble_eq_true rfl, Nat.le_of_ble_eq_true rfl⟩ dX7_down_133 ?_
        obtain ⟨j7, hj7, hf⟩ := bind_some hf
        have k8 : TT p l e { frames := 8, cells := 0, slots := 0, locals := 191 } s m args below meth c 12 D A false vO wO 146 [(0, .ref (ad 0)), (1, .int v1), (2, .int v2), (3, .int v3), (4, .long v4), (6, .long v6), (8, .int v8), (9, .long (v9 * (if r3 = 0 then ((v1 - (1 : Int32)) : Int32).toInt64 else (1 : Int64)))), (11, .int v11)] [] (mC cy ad j7.1 j7.2 la) := by
          refine tt_iinc (pc := 146) (k := 8) (v := (v11 + (-1))) (L' := [(11, .int (v11 + (-1))), (0, .ref (ad 0)), (1, .int v1), (2, .int v2), (3, .int v3), (4, .long v4), (6, .long v6), (8, .int v8), (9, .long (v9 * (if r3 = 0 then ((v1 - (1 : Int32)) : Int32).toInt64 else (1 : Int64))))]) C dX7_down_146 rfl rfl (by decide) rfl ?_
          refine tt_goto (pc := 149) (tgt := 101) C dX7_down_149 (by decide) ?_
          exact tt_locs [1, 2, 3, 4, 5, 6, 7, 8, 0] rfl (ih hf)
        refine tt_if_eq (pc := 136) (tgt := 146) C dX7_down_136 (by decide) hj7 (fun hj7 => ?_) (fun hj7 => ?_)
        · obtain rfl := Option.some.inj hj7
          exact tt_locs [1, 2, 3, 4, 5, 6, 7, 0, 8] rfl k8
        · refine tt_aload_n (pc := 139) (k := 1) C dX7_down_139 rfl rfl ?_
          refine tt_iload (pc := 140) (k := 8) C dX7_down_140 rfl ?_
          obtain ⟨r9, hr9, hj7⟩ := bind_some hj7
          refine tt_callM (pc := 142) (ws := (mC cy ad sc ar la)) (q0 := 0) (ci := 7) (rest := []) (st' := [.int r9.1]) C rfl (k_X7_fells hr9) okX7_fells q6_0 rfl mC_obj rfl rfl rfl (Nat.le_of_ble_eq_true rfl) ⟨Nat.le_of_ble_eq_true rfl, Nat.le_of_ble_eq_true rfl⟩ dX7_down_142 ?_
          refine tt_pop (pc := 145) C dX7_down_145 rfl ?_
          obtain rfl := Option.some.inj hj7
          exact tt_locs [1, 2, 3, 4, 5, 6, 7, 0, 8] rfl k8
      refine tr_if_eq (pc := 115) (tgt := 122) C dX7_down_115 (by decide) (fun c4 => ?_) (fun c4 => ?_)
      · refine tt_iload_n (pc := 122) (k := 1) C dX7_down_122 rfl rfl ?_
        refine tt_iconst (pc := 123) (v := (1 : Int32)) C dX7_down_123 (by decide) ?_
        refine tt_isub (pc := 124) C dX7_down_124 ?_
        refine tt_i2l (pc := 125) C dX7_down_125 ?_
        try simp only [if_pos c4] at k5 ⊢
        exact tt_locs [0, 1, 2, 3, 4, 5, 6, 8] rfl k5
      · refine tt_lconst (pc := 118) (v := (1 : Int64)) C dX7_down_118 rfl ?_
        refine tt_goto (pc := 119) (tgt := 126) C dX7_down_119 (by decide) ?_
        try simp only [if_neg c4] at k5 ⊢
        exact tt_locs [0, 1, 2, 3, 4, 5, 6, 8] rfl k5
set_option maxHeartbeats 4000000 in
set_option maxRecDepth 100000 in
theorem l_X7_down_85 {p : Program} {l : Launch} {e : Env} {s : State} {m : MethodId} {args : Array Value} {below : List Frame} {meth : Method} {c : Code} {D : va_G} {cy : Nat → ClassId} {A : Nat → Prop} {Bd : Nat} {xa : Xa} {ad : Nat → Nat} {β : Type} {vO : Option Value} {wO : va_W} {N : Nat} {la : Nat → Nat → Int64} {v1 : Int32} {v2 : Int32} {v3 : Int32} {v6 : Int64} {kx : Int64 → (Nat → Int32) → (Nat → Nat → Int32) → Option (β)} {out : β} (C : CC p s m args meth c cX7_down RX7 12 (some .long) D cy A false Bd xa) (hk : ∀ (x4 : Int64) (sc1 : Nat → Int32) (ar1 : Nat → Nat → Int32), kx x4 sc1 ar1 = some out → TT p l e { frames := 8, cells := 0, slots := 0, locals := 191 } s m args below meth c 12 D A false vO wO 184 [(2, .int v2), (4, .long x4), (6, .long v6)] [] (mC cy ad sc1 ar1 la)) {n : Nat} {v4 : Int64} {v8 : Int32} {sc : Nat → Int32} {ar : Nat → Nat → Int32} (hf : f_X7_down_L85 N v1 v2 v3 v6 kx n v4 v8 sc ar = some out) : TT p l e { frames := 8, cells := 0, slots := 0, locals := 191 } s m args below meth c 12 D A false vO wO 85 [(0, .ref (ad 0)), (1, .int v1), (2, .int v2), (3, .int v3), (4, .long v4), (6, .long v6), (8, .int v8)] [] (mC cy ad sc ar la) := by
  induction n generalizing v4 v8 sc ar with
  | zero => cases hf
  | succ n ih =>
    rw [f_X7_down_L85] at hf
    refine tt_iload (pc := 85) (k := 6) C dX7_down_85 rfl ?_
    refine tt_iconst (pc := 87) (v := (1 : Int32)) C dX7_down_87 (by decide) ?_
    refine tt_iload_n (pc := 88) (k := 3) C dX7_down_88 rfl rfl ?_
    refine tt_ishl (pc := 89) C dX7_down_89 ?_
    refine tt_icmp_ge (pc := 90) (tgt := 184) C dX7_down_90 (by decide) hf (fun hf => ?_) (fun hf => ?_)
    · exact tt_locs [2, 4, 5] rfl (hk _ _ _ hf)
    · refine tt_lconst (pc := 93) (v := (1 : Int64)) C dX7_down_93 rfl ?_
      refine tt_lstore (pc := 94) (L' := [(9, .long (1 : Int64)), (0, .ref (ad 0)), (1, .int v1), (2, .int v2), (3, .int v3), (4, .long v4), (6, .long v6), (8, .int v8)]) C dX7_down_94 (by decide) rfl ?_
      refine tt_iload_n (pc := 96) (k := 4) C dX7_down_96 rfl rfl ?_
      refine tt_iconst (pc := 97) (v := (1 : Int32)) C dX7_down_97 (by decide) ?_
      refine tt_isub (pc := 98) C dX7_down_98 ?_
      refine tt_istore (pc := 99) (L' := [(11, .int (v3 - (1 : Int32))), (9, .long (1 : Int64)), (0, .ref (ad 0)), (1, .int v1), (2, .int v2), (3, .int v3), (4, .long v4), (6, .long v6), (8, .int v8)]) C dX7_down_99 (by decide) rfl ?_
      refine tt_locs (L' := [(0, .ref (ad 0)), (1, .int v1), (2, .int v2), (3, .int v3), (4, .long v4), (6, .long v6), (8, .int v8), (9, .long (1 : Int64)), (11, .int (v3 - (1 : Int32)))]) [2, 3, 4, 5, 6, 7, 8, 1, 0] rfl (l_X7_down_101 C (fun x9_10 t10 t11 hf => ?_) hf)
      refine tt_lload (pc := 152) (k := 4) C dX7_down_152 rfl ?_
      refine tt_aload_n (pc := 154) (k := 0) C dX7_down_154 rfl rfl ?_
      obtain ⟨r12, hr12, hf⟩ := bind_some hf
      refine tt_callR (pc := 155) (ws := (mC cy ad t10 t11 la)) (q0 := 0) (ci := 7) (rest := [.long v4]) (st' := [.int r12, .long v4]) C (k_X7_isSafe hr12) okX7_isSafe q5_179 rfl mC_obj (fun _ h => h) rfl rfl rfl (Nat.le_of_ble_eq_true rfl) ⟨Nat.le_of_ble_eq_true rfl, Nat.le_of_ble_eq_true rfl⟩ dX7_down_155 ?_
      have k14 : TT p l e { frames := 8, cells := 0, slots := 0, locals := 191 } s m args below meth c 12 D A false vO wO 167 [(0, .ref (ad 0)), (1, .int v1), (2, .int v2), (3, .int v3), (6, .long v6), (8, .int v8)] [.long (if r12 = 0 then (0 : Int64) else x9_10), .long v4] (mC cy ad t10 t11 la) := by
        refine tt_ladd (pc := 167) C dX7_down_167 ?_
        refine tt_lstore (pc := 168) (L' := [(4, .long (v4 + (if r12 = 0 then (0 : Int64) else x9_10))), (0, .ref (ad 0)), (1, .int v1), (2, .int v2), (3, .int v3), (6, .long v6), (8, .int v8)]) C dX7_down_168 (by decide) rfl ?_
        refine tt_aload_n (pc := 170) (k := 1) C dX7_down_170 rfl rfl ?_
        refine tt_aload_n (pc := 171) (k := 1) C dX7_down_171 rfl rfl ?_
        refine tt_get (pc := 172) (ws := (mC cy ad t10 t11 la)) (ci := 7) (v := .ref (ad 23)) C fiX7 rfl 0 mC_obj 23 (by decide) q4_183 rfl dX7_down_172 ?_
        obtain ⟨r15, hr15, hf⟩ := bind_some hf
        refine tt_callM (pc := 175) (ws := (mC cy ad t10 t11 la)) (q0 := 0) (ci := 7) (rest := []) (st' := []) C rfl (k_X7_again_23 hr15) okX7_again q6_1 rfl mC_obj rfl rfl rfl (Nat.le_of_ble_eq_true rfl) ⟨Nat.le_of_ble_eq_true rfl, Nat.le_of_ble_eq_true rfl⟩ dX7_down_175 ?_
        refine tt_iinc (pc := 178) (k := 6) (v := (v8 + 1)) (L' := [(8, .int (v8 + 1)), (4, .long (v4 + (if r12 = 0 then (0 : Int64) else x9_10))), (0, .ref (ad 0)), (1, .int v1), (2, .int v2), (3, .int v3), (6, .long v6)]) C dX7_down_178 rfl rfl (by decide) rfl ?_
        refine tt_goto (pc := 181) (tgt := 85) C dX7_down_181 (by decide) ?_
        exact tt_locs [2, 3, 4, 5, 1, 6, 0] rfl (ih hf)
      refine tr_if_eq (pc := 158) (tgt := 166) C dX7_down_158 (by decide) (fun c13 => ?_) (fun c13 => ?_)
      · refine tt_lconst (pc := 166) (v := (0 : Int64)) C dX7_down_166 rfl ?_
        try simp only [if_pos c13] at k14 ⊢
        exact tt_locs [0, 1, 2, 3, 5, 6] rfl k14
      · refine tt_lload (pc := 161) (k := 7) C dX7_down_161 rfl ?_
        refine tt_goto (pc := 163) (tgt := 167) C dX7_down_163 (by decide) ?_
        try simp only [if_neg c13] at k14 ⊢
        exact tt_locs [0, 1, 2, 3, 5, 6] rfl k14
set_option maxHeartbeats 4000000 in
set_option maxRecDepth 100000 in
theorem k_X7_down {l : Launch} {D : va_G} {cy : Nat → ClassId} {Bd : Nat} {xa : Xa} {ad : Nat → Nat} {N : Nat} {sc : Nat → Int32} {ar : Nat → Nat → Int32} {la : Nat → Nat → Int64} {a1 : Int32} {a2 : Int32} {out : Int64 × (Nat → Int32) × (Nat → Nat → Int32)} (hf : f_X7_down N sc ar a1 a2 = some out) : KC l yX7_down cX7_down 12 (some .long) 8 191 false D cy Bd xa [.ref (ad 0), .int a1, .int a2] (mC cy ad sc ar la) (some (.long out.1)) (mC cy ad out.2.1 out.2.2 la) := by
  refine kc_start (own := RX7) (by decide +kernel) rfl (Nat.le_of_ble_eq_true rfl) ?_
  intro p e s m args below meth c A C
  unfold f_X7_down at hf
  refine tt_locs (L' := [(0, .ref (ad 0)), (1, .int a1), (2, .int a2)]) [0, 1, 2] rfl ?_
  refine tt_iload_n (pc := 0) (k := 1) C dX7_down_0 rfl rfl ?_
  refine tt_iconst (pc := 1) (v := (2 : Int32)) C dX7_down_1 (by decide) ?_
  refine tt_icmp_ge (pc := 2) (tgt := 12) C dX7_down_2 (by decide) hf (fun hf => ?_) (fun hf => ?_)
  · refine tt_iload_n (pc := 12) (k := 1) C dX7_down_12 rfl rfl ?_
    refine tt_bipush (pc := 13) (v := (20 : Int32)) C dX7_down_13 (by decide) ?_
    refine tt_icmp_le (pc := 15) (tgt := 25) C dX7_down_15 (by decide) hf (fun hf => ?_) (fun hf => ?_)
    · refine tt_iload_n (pc := 25) (k := 2) C dX7_down_25 rfl rfl ?_
      refine tt_iconst (pc := 26) (v := (0 : Int32)) C dX7_down_26 (by decide) ?_
      refine tt_iconst (pc := 27) (v := (1 : Int32)) C dX7_down_27 (by decide) ?_
      obtain ⟨r1, hr1, hf⟩ := bind_some hf
      refine tt_callS (pc := 28) (ws := (mC cy ad sc ar la)) (rest := []) (st' := [.int r1]) C (k_X7_in hr1) okX7_in q5_52 (fun _ h => absurd h List.not_mem_nil) rfl rfl rfl (Nat.le_of_ble_eq_true rfl) ⟨Nat.le_of_ble_eq_true rfl, Nat.le_of_ble_eq_true rfl⟩ dX7_down_28 ?_
      refine tt_if_ne (pc := 31) (tgt := 41) C dX7_down_31 (by decide) hf (fun hf => ?_) (fun hf => ?_)
      · refine tt_aload_n (pc := 41) (k := 0) C dX7_down_41 rfl rfl ?_
        refine tt_aload_n (pc := 42) (k := 0) C dX7_down_42 rfl rfl ?_
        refine tt_get (pc := 43) (ws := (mC cy ad sc ar la)) (ci := 7) (v := .ref (ad 23)) C fiX7 rfl 0 mC_obj 23 (by decide) q4_183 rfl dX7_down_43 ?_
        obtain ⟨r2, hr2, hf⟩ := bind_some hf
        refine tt_callM (pc := 46) (ws := (mC cy ad sc ar la)) (q0 := 0) (ci := 7) (rest := []) (st' := []) C rfl (k_X7_keeps_23 hr2) okX7_keeps q5_236 rfl mC_obj rfl rfl rfl (Nat.le_of_ble_eq_true rfl) ⟨Nat.le_of_ble_eq_true rfl, Nat.le_of_ble_eq_true rfl⟩ dX7_down_46 ?_
        refine tt_aload_n (pc := 49) (k := 0) C dX7_down_49 rfl rfl ?_
        refine tt_get (pc := 50) (ws := (mC cy ad sc r2 la)) (ci := 7) (v := .int (sc 2)) C fiX7 rfl 0 mC_obj 2 (by decide) q4_162 rfl dX7_down_50 ?_
        refine tt_istore_n (pc := 53) (L' := [(3, .int (sc 2)), (0, .ref (ad 0)), (1, .int a1), (2, .int a2)]) C dX7_down_53 rfl (by decide) rfl ?_
        refine tt_lconst (pc := 54) (v := (0 : Int64)) C dX7_down_54 rfl ?_
        refine tt_lstore (pc := 55) (L' := [(4, .long (0 : Int64)), (3, .int (sc 2)), (0, .ref (ad 0)), (1, .int a1), (2, .int a2)]) C dX7_down_55 (by decide) rfl ?_
        refine tt_lconst (pc := 57) (v := (1 : Int64)) C dX7_down_57 rfl ?_
        refine tt_lstore (pc := 58) (L' := [(6, .long (1 : Int64)), (4, .long (0 : Int64)), (3, .int (sc 2)), (0, .ref (ad 0)), (1, .int a1), (2, .int a2)]) C dX7_down_58 (by decide) rfl ?_
        refine tt_iconst (pc := 60) (v := (0 : Int32)) C dX7_down_60 (by decide) ?_
        refine tt_istore (pc := 61) (L' := [(8, .int (0 : Int32)), (6, .long (1 : Int64)), (4, .long (0 : Int64)), (3, .int (sc 2)), (0, .ref (ad 0)), (1, .int a1), (2, .int a2)]) C dX7_down_61 (by decide) rfl ?_
        refine tt_locs (L' := [(0, .ref (ad 0)), (1, .int a1), (2, .int a2), (3, .int (sc 2)), (4, .long (0 : Int64)), (6, .long (1 : Int64)), (8, .int (0 : Int32))]) [4, 5, 6, 3, 2, 1, 0] rfl (l_X7_down_63 C (fun x6_3 hf => ?_) hf)
        refine tt_iconst (pc := 82) (v := (0 : Int32)) C dX7_down_82 (by decide) ?_
        refine tt_istore (pc := 83) (L' := [(8, .int (0 : Int32)), (0, .ref (ad 0)), (1, .int a1), (2, .int a2), (3, .int (sc 2)), (4, .long (0 : Int64)), (6, .long x6_3)]) C dX7_down_83 (by decide) rfl ?_
        refine tt_locs (L' := [(0, .ref (ad 0)), (1, .int a1), (2, .int a2), (3, .int (sc 2)), (4, .long (0 : Int64)), (6, .long x6_3), (8, .int (0 : Int32))]) [1, 2, 3, 4, 5, 6, 0] rfl (l_X7_down_85 C (fun x4_16 t16 t17 hf => ?_) hf)
        refine tt_lload (pc := 184) (k := 1) C dX7_down_184 rfl ?_
        refine tt_lload (pc := 186) (k := 2) C dX7_down_186 rfl ?_
        refine tt_iload_n (pc := 188) (k := 0) C dX7_down_188 rfl rfl ?_
        obtain ⟨r18, hr18, hf⟩ := bind_some hf
        refine tt_callS (pc := 189) (ws := (mC cy ad t16 t17 la)) (rest := []) (st' := [.long r18]) C (k_X7_part hr18) okX7_part q6_49 (fun _ h => absurd h List.not_mem_nil) rfl rfl rfl (Nat.le_of_ble_eq_true rfl) ⟨Nat.le_of_ble_eq_true rfl, Nat.le_of_ble_eq_true rfl⟩ dX7_down_189 ?_
        obtain rfl := Option.some.inj hf
        exact tt_lreturn (pc := 192) C rfl rfl rfl dX7_down_192
      · refine tt_aload_n (pc := 34) (k := 0) C dX7_down_34 rfl rfl ?_
        refine tt_bipush (pc := 35) (v := (-2 : Int32)) C dX7_down_35 (by decide) ?_
        obtain ⟨r19, hr19, hf⟩ := bind_some hf
        refine tt_callM (pc := 37) (ws := (mC cy ad sc ar la)) (q0 := 0) (ci := 7) (rest := []) (st' := [.long r19.1]) C rfl (k_X7_far hr19) okX7_far q5_227 rfl mC_obj rfl rfl rfl (Nat.le_of_ble_eq_true rfl) ⟨Nat.le_of_ble_eq_true rfl, Nat.le_of_ble_eq_true rfl⟩ dX7_down_37 ?_
        obtain rfl := Option.some.inj hf
        exact tt_lreturn (pc := 40) C rfl rfl rfl dX7_down_40
    · refine tt_aload_n (pc := 18) (k := 0) C dX7_down_18 rfl rfl ?_
      refine tt_bipush (pc := 19) (v := (-6 : Int32)) C dX7_down_19 (by decide) ?_
      obtain ⟨r20, hr20, hf⟩ := bind_some hf
      refine tt_callM (pc := 21) (ws := (mC cy ad sc ar la)) (q0 := 0) (ci := 7) (rest := []) (st' := [.long r20.1]) C rfl (k_X7_far hr20) okX7_far q5_227 rfl mC_obj rfl rfl rfl (Nat.le_of_ble_eq_true rfl) ⟨Nat.le_of_ble_eq_true rfl, Nat.le_of_ble_eq_true rfl⟩ dX7_down_21 ?_
      obtain rfl := Option.some.inj hf
      exact tt_lreturn (pc := 24) C rfl rfl rfl dX7_down_24
  · refine tt_aload_n (pc := 5) (k := 0) C dX7_down_5 rfl rfl ?_
    refine tt_bipush (pc := 6) (v := (-4 : Int32)) C dX7_down_6 (by decide) ?_
    obtain ⟨r21, hr21, hf⟩ := bind_some hf
    refine tt_callM (pc := 8) (ws := (mC cy ad sc ar la)) (q0 := 0) (ci := 7) (rest := []) (st' := [.long r21.1]) C rfl (k_X7_far hr21) okX7_far q5_227 rfl mC_obj rfl rfl rfl (Nat.le_of_ble_eq_true rfl) ⟨Nat.le_of_ble_eq_true rfl, Nat.le_of_ble_eq_true rfl⟩ dX7_down_8 ?_
    obtain rfl := Option.some.inj hf
    exact tt_lreturn (pc := 11) C rfl rfl rfl dX7_down_11
theorem dX7_warnedAll_0 : decode cX7_warnedAll 0 = .ok (.iconst 0, 1) := by decide +kernel
theorem dX7_warnedAll_1 : decode cX7_warnedAll 1 = .ok (.istore_n 1, 1) := by decide +kernel
theorem dX7_warnedAll_2 : decode cX7_warnedAll 2 = .ok (.iconst 0, 1) := by decide +kernel
theorem dX7_warnedAll_3 : decode cX7_warnedAll 3 = .ok (.istore_n 2, 1) := by decide +kernel
theorem dX7_warnedAll_4 : decode cX7_warnedAll 4 = .ok (.iload_n 2, 1) := by decide +kernel
theorem dX7_warnedAll_5 : decode cX7_warnedAll 5 = .ok (.aload_n 0, 1) := by decide +kernel
theorem dX7_warnedAll_6 : decode cX7_warnedAll 6 = .ok (.getfield 109, 3) := by decide +kernel
theorem dX7_warnedAll_9 : decode cX7_warnedAll 9 = .ok (.if_icmp .ge 34, 3) := by decide +kernel
theorem dX7_warnedAll_12 : decode cX7_warnedAll 12 = .ok (.iconst 0, 1) := by decide +kernel
theorem dX7_warnedAll_13 : decode cX7_warnedAll 13 = .ok (.istore_n 3, 1) := by decide +kernel
theorem dX7_warnedAll_14 : decode cX7_warnedAll 14 = .ok (.iload_n 3, 1) := by decide +kernel
theorem dX7_warnedAll_15 : decode cX7_warnedAll 15 = .ok (.aload_n 0, 1) := by decide +kernel
theorem dX7_warnedAll_16 : decode cX7_warnedAll 16 = .ok (.getfield 112, 3) := by decide +kernel
theorem dX7_warnedAll_19 : decode cX7_warnedAll 19 = .ok (.if_icmp .ge 18, 3) := by decide +kernel
theorem dX7_warnedAll_22 : decode cX7_warnedAll 22 = .ok (.iload_n 1, 1) := by decide +kernel
theorem dX7_warnedAll_23 : decode cX7_warnedAll 23 = .ok (.aload_n 0, 1) := by decide +kernel
theorem dX7_warnedAll_24 : decode cX7_warnedAll 24 = .ok (.iload_n 3, 1) := by decide +kernel
theorem dX7_warnedAll_25 : decode cX7_warnedAll 25 = .ok (.iload_n 2, 1) := by decide +kernel
theorem dX7_warnedAll_26 : decode cX7_warnedAll 26 = .ok (.invokevirtual 179, 3) := by decide +kernel
theorem dX7_warnedAll_29 : decode cX7_warnedAll 29 = .ok (.iadd, 1) := by decide +kernel
theorem dX7_warnedAll_30 : decode cX7_warnedAll 30 = .ok (.istore_n 1, 1) := by decide +kernel
theorem dX7_warnedAll_31 : decode cX7_warnedAll 31 = .ok (.iinc 3 1, 3) := by decide +kernel
theorem dX7_warnedAll_34 : decode cX7_warnedAll 34 = .ok (.goto (-20), 3) := by decide +kernel
theorem dX7_warnedAll_37 : decode cX7_warnedAll 37 = .ok (.iinc 2 1, 3) := by decide +kernel
theorem dX7_warnedAll_40 : decode cX7_warnedAll 40 = .ok (.goto (-36), 3) := by decide +kernel
theorem dX7_warnedAll_43 : decode cX7_warnedAll 43 = .ok (.iload_n 1, 1) := by decide +kernel
theorem dX7_warnedAll_44 : decode cX7_warnedAll 44 = .ok (.ireturn, 1) := by decide +kernel
set_option maxHeartbeats 4000000 in
set_option maxRecDepth 100000 in
theorem l_X7_warnedAll_14 {p : Program} {l : Launch} {e : Env} {s : State} {m : MethodId} {args : Array Value} {below : List Frame} {meth : Method} {c : Code} {D : va_G} {cy : Nat → ClassId} {A : Nat → Prop} {Bd : Nat} {xa : Xa} {ad : Nat → Nat} {β : Type} {vO : Option Value} {wO : va_W} {N : Nat} {sc : Nat → Int32} {ar : Nat → Nat → Int32} {la : Nat → Nat → Int64} {v2 : Int32} {kx : Int32 → Option (β)} {out : β} (C : CC p s m args meth c cX7_warnedAll RX7 4 (some .int) D cy A true Bd xa) (hk : ∀ (x1 : Int32), kx x1 = some out → TT p l e { frames := 5, cells := 0, slots := 0, locals := 126 } s m args below meth c 4 D A true vO wO 37 [(0, .ref (ad 0)), (1, .int x1), (2, .int v2)] [] (mC cy ad sc ar la)) {n : Nat} {v1 : Int32} {v3 : Int32} (hf : f_X7_warnedAll_L14 N sc ar v2 kx n v1 v3 = some out) : TT p l e { frames := 5, cells := 0, slots := 0, locals := 126 } s m args below meth c 4 D A true vO wO 14 [(0, .ref (ad 0)), (1, .int v1), (2, .int v2), (3, .int v3)] [] (mC cy ad sc ar la) := by
  induction n generalizing v1 v3 with
  | zero => cases hf
  | succ n ih =>
    rw [f_X7_warnedAll_L14] at hf
    refine tt_iload_n (pc := 14) (k := 3) C dX7_warnedAll_14 rfl rfl ?_
    refine tt_aload_n (pc := 15) (k := 0) C dX7_warnedAll_15 rfl rfl ?_
    refine tt_get (pc := 16) (ws := (mC cy ad sc ar la)) (ci := 7) (v := .int (sc 9)) C fiX7 rfl 0 mC_obj 9 (by decide) q4_169 rfl dX7_warnedAll_16 ?_
    refine tt_icmp_ge (pc := 19) (tgt := 37) C dX7_warnedAll_19 (by decide) hf (fun hf => ?_) (fun hf => ?_)
    · exact tt_locs [0, 1, 2] rfl (hk _ hf)
    · refine tt_iload_n (pc := 22) (k := 1) C dX7_warnedAll_22 rfl rfl ?_
      refine tt_aload_n (pc := 23) (k := 0) C dX7_warnedAll_23 rfl rfl ?_
      refine tt_iload_n (pc := 24) (k := 3) C dX7_warnedAll_24 rfl rfl ?_
      refine tt_iload_n (pc := 25) (k := 2) C dX7_warnedAll_25 rfl rfl ?_
      obtain ⟨r1, hr1, hf⟩ := bind_some hf
      refine tt_callR (pc := 26) (ws := (mC cy ad sc ar la)) (q0 := 0) (ci := 7) (rest := [.int v1]) (st' := [.int r1, .int v1]) C (k_X7_warnedOf hr1) okX7_warnedOf q5_171 rfl mC_obj (fun _ h => h) rfl rfl rfl (Nat.le_of_ble_eq_true rfl) ⟨Nat.le_of_ble_eq_true rfl, Nat.le_of_ble_eq_true rfl⟩ dX7_warnedAll_26 ?_
      refine tt_iadd (pc := 29) C dX7_warnedAll_29 ?_
      refine tt_istore_n (pc := 30) (L' := [(1, .int (v1 + r1)), (0, .ref (ad 0)), (2, .int v2), (3, .int v3)]) C dX7_warnedAll_30 rfl (by decide) rfl ?_
      refine tt_iinc (pc := 31) (k := 3) (v := (v3 + 1)) (L' := [(3, .int (v3 + 1)), (1, .int (v1 + r1)), (0, .ref (ad 0)), (2, .int v2)]) C dX7_warnedAll_31 rfl rfl (by decide) rfl ?_
      refine tt_goto (pc := 34) (tgt := 14) C dX7_warnedAll_34 (by decide) ?_
      exact tt_locs [2, 1, 3, 0] rfl (ih hf)
set_option maxHeartbeats 4000000 in
set_option maxRecDepth 100000 in
theorem l_X7_warnedAll_4 {p : Program} {l : Launch} {e : Env} {s : State} {m : MethodId} {args : Array Value} {below : List Frame} {meth : Method} {c : Code} {D : va_G} {cy : Nat → ClassId} {A : Nat → Prop} {Bd : Nat} {xa : Xa} {ad : Nat → Nat} {β : Type} {vO : Option Value} {wO : va_W} {N : Nat} {sc : Nat → Int32} {ar : Nat → Nat → Int32} {la : Nat → Nat → Int64} {kx : Int32 → Option (β)} {out : β} (C : CC p s m args meth c cX7_warnedAll RX7 4 (some .int) D cy A true Bd xa) (hk : ∀ (x1 : Int32), kx x1 = some out → TT p l e { frames := 5, cells := 0, slots := 0, locals := 126 } s m args below meth c 4 D A true vO wO 43 [(1, .int x1)] [] (mC cy ad sc ar la)) {n : Nat} {v1 : Int32} {v2 : Int32} (hf : f_X7_warnedAll_L4 N sc ar kx n v1 v2 = some out) : TT p l e { frames := 5, cells := 0, slots := 0, locals := 126 } s m args below meth c 4 D A true vO wO 4 [(0, .ref (ad 0)), (1, .int v1), (2, .int v2)] [] (mC cy ad sc ar la) := by
  induction n generalizing v1 v2 with
  | zero => cases hf
  | succ n ih =>
    rw [f_X7_warnedAll_L4] at hf
    refine tt_iload_n (pc := 4) (k := 2) C dX7_warnedAll_4 rfl rfl ?_
    refine tt_aload_n (pc := 5) (k := 0) C dX7_warnedAll_5 rfl rfl ?_
    refine tt_get (pc := 6) (ws := (mC cy ad sc ar la)) (ci := 7) (v := .int (sc 6)) C fiX7 rfl 0 mC_obj 6 (by decide) q4_166 rfl dX7_warnedAll_6 ?_
    refine tt_icmp_ge (pc := 9) (tgt := 43) C dX7_warnedAll_9 (by decide) hf (fun hf => ?_) (fun hf => ?_)
    · exact tt_locs [1] rfl (hk _ hf)
    · refine tt_iconst (pc := 12) (v := (0 : Int32)) C dX7_warnedAll_12 (by decide) ?_
      refine tt_istore_n (pc := 13) (L' := [(3, .int (0 : Int32)), (0, .ref (ad 0)), (1, .int v1), (2, .int v2)]) C dX7_warnedAll_13 rfl (by decide) rfl ?_
      refine tt_locs (L' := [(0, .ref (ad 0)), (1, .int v1), (2, .int v2), (3, .int (0 : Int32))]) [1, 2, 3, 0] rfl (l_X7_warnedAll_14 C (fun x1_2 hf => ?_) hf)
      refine tt_iinc (pc := 37) (k := 2) (v := (v2 + 1)) (L' := [(2, .int (v2 + 1)), (0, .ref (ad 0)), (1, .int x1_2)]) C dX7_warnedAll_37 rfl rfl (by decide) rfl ?_
      refine tt_goto (pc := 40) (tgt := 4) C dX7_warnedAll_40 (by decide) ?_
      exact tt_locs [1, 2, 0] rfl (ih hf)
set_option maxHeartbeats 4000000 in
set_option maxRecDepth 100000 in
theorem k_X7_warnedAll {l : Launch} {D : va_G} {cy : Nat → ClassId} {Bd : Nat} {xa : Xa} {ad : Nat → Nat} {N : Nat} {sc : Nat → Int32} {ar : Nat → Nat → Int32} {la : Nat → Nat → Int64} {out : Int32} (hf : f_X7_warnedAll N sc ar = some out) : KC l yX7_warnedAll cX7_warnedAll 4 (some .int) 5 126 true D cy Bd xa [.ref (ad 0)] (mC cy ad sc ar la) (some (.int out)) (mC cy ad sc ar la) := by
  refine kc_start (own := RX7) (by decide +kernel) rfl (Nat.le_of_ble_eq_true rfl) ?_
  intro p e s m args below meth c A C
  unfold f_X7_warnedAll at hf
  refine tt_locs (L' := [(0, .ref (ad 0))]) [0] rfl ?_
  refine tt_iconst (pc := 0) (v := (0 : Int32)) C dX7_warnedAll_0 (by decide) ?_
  refine tt_istore_n (pc := 1) (L' := [(1, .int (0 : Int32)), (0, .ref (ad 0))]) C dX7_warnedAll_1 rfl (by decide) rfl ?_
  refine tt_iconst (pc := 2) (v := (0 : Int32)) C dX7_warnedAll_2 (by decide) ?_
  refine tt_istore_n (pc := 3) (L' := [(2, .int (0 : Int32)), (1, .int (0 : Int32)), (0, .ref (ad 0))]) C dX7_warnedAll_3 rfl (by decide) rfl ?_
  refine tt_locs (L' := [(0, .ref (ad 0)), (1, .int (0 : Int32)), (2, .int (0 : Int32))]) [2, 1, 0] rfl (l_X7_warnedAll_4 C (fun x1_2 hf => ?_) hf)
  refine tt_iload_n (pc := 43) (k := 0) C dX7_warnedAll_43 rfl rfl ?_
  obtain rfl := Option.some.inj hf
  exact tt_ireturn (pc := 44) C rfl rfl rfl dX7_warnedAll_44
