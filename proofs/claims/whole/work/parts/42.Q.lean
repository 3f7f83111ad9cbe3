abbrev b_Q_member : ByteArray := prog_7_method_14_code
abbrev y_Q_member : MethodName := ⟨"MemberChooserModel", "member", "(IIIJZ)I"⟩
abbrev w_Q_member : List Cond := Cond.code y_Q_member b_Q_member 12 (some .int) :: zTb
theorem d_Q_member_0 : decode b_Q_member 0 = .ok (.aload_n 0, 1) := by decide +kernel
theorem d_Q_member_1 : decode b_Q_member 1 = .ok (.iload_n 1, 1) := by decide +kernel
theorem d_Q_member_2 : decode b_Q_member 2 = .ok (.invokevirtual 76, 3) := by decide +kernel
theorem d_Q_member_5 : decode b_Q_member 5 = .ok (.ifCond .eq 35, 3) := by decide +kernel
theorem d_Q_member_8 : decode b_Q_member 8 = .ok (.iload_n 2, 1) := by decide +kernel
theorem d_Q_member_9 : decode b_Q_member 9 = .ok (.ifCond .lt 31, 3) := by decide +kernel
theorem d_Q_member_12 : decode b_Q_member 12 = .ok (.iload_n 2, 1) := by decide +kernel
theorem d_Q_member_13 : decode b_Q_member 13 = .ok (.bipush 10, 2) := by decide +kernel
theorem d_Q_member_15 : decode b_Q_member 15 = .ok (.if_icmp .ge 25, 3) := by decide +kernel
theorem d_Q_member_18 : decode b_Q_member 18 = .ok (.iload_n 3, 1) := by decide +kernel
theorem d_Q_member_19 : decode b_Q_member 19 = .ok (.ifCond .lt 21, 3) := by decide +kernel
theorem d_Q_member_22 : decode b_Q_member 22 = .ok (.iload_n 3, 1) := by decide +kernel
theorem d_Q_member_23 : decode b_Q_member 23 = .ok (.iconst 5, 1) := by decide +kernel
theorem d_Q_member_24 : decode b_Q_member 24 = .ok (.if_icmp .ge 16, 3) := by decide +kernel
theorem d_Q_member_27 : decode b_Q_member 27 = .ok (.iload_n 3, 1) := by decide +kernel
theorem d_Q_member_28 : decode b_Q_member 28 = .ok (.ifCond .gt 8, 3) := by decide +kernel
theorem d_Q_member_31 : decode b_Q_member 31 = .ok (.iload 6, 2) := by decide +kernel
theorem d_Q_member_33 : decode b_Q_member 33 = .ok (.ifCond .ne 7, 3) := by decide +kernel
theorem d_Q_member_36 : decode b_Q_member 36 = .ok (.iconst 1, 1) := by decide +kernel
theorem d_Q_member_37 : decode b_Q_member 37 = .ok (.goto 4, 3) := by decide +kernel
theorem d_Q_member_40 : decode b_Q_member 40 = .ok (.iconst 0, 1) := by decide +kernel
theorem d_Q_member_41 : decode b_Q_member 41 = .ok (.istore 7, 2) := by decide +kernel
theorem d_Q_member_43 : decode b_Q_member 43 = .ok (.iconst 0, 1) := by decide +kernel
theorem d_Q_member_44 : decode b_Q_member 44 = .ok (.istore 8, 2) := by decide +kernel
theorem d_Q_member_46 : decode b_Q_member 46 = .ok (.iload 8, 2) := by decide +kernel
theorem d_Q_member_48 : decode b_Q_member 48 = .ok (.iload_n 3, 1) := by decide +kernel
theorem d_Q_member_49 : decode b_Q_member 49 = .ok (.if_icmp .ge 27, 3) := by decide +kernel
theorem d_Q_member_52 : decode b_Q_member 52 = .ok (.iload 7, 2) := by decide +kernel
theorem d_Q_member_54 : decode b_Q_member 54 = .ok (.ifCond .eq 22, 3) := by decide +kernel
theorem d_Q_member_57 : decode b_Q_member 57 = .ok (.aload_n 0, 1) := by decide +kernel
theorem d_Q_member_58 : decode b_Q_member 58 = .ok (.lload 4, 2) := by decide +kernel
theorem d_Q_member_60 : decode b_Q_member 60 = .ok (.iload 8, 2) := by decide +kernel
theorem d_Q_member_62 : decode b_Q_member 62 = .ok (.invokestatic 100, 3) := by decide +kernel
theorem d_Q_member_65 : decode b_Q_member 65 = .ok (.invokevirtual 88, 3) := by decide +kernel
theorem d_Q_member_68 : decode b_Q_member 68 = .ok (.istore 7, 2) := by decide +kernel
theorem d_Q_member_70 : decode b_Q_member 70 = .ok (.iinc 8 1, 3) := by decide +kernel
theorem d_Q_member_73 : decode b_Q_member 73 = .ok (.goto (-27), 3) := by decide +kernel
theorem d_Q_member_76 : decode b_Q_member 76 = .ok (.aload_n 0, 1) := by decide +kernel
theorem d_Q_member_77 : decode b_Q_member 77 = .ok (.iload 7, 2) := by decide +kernel
theorem d_Q_member_79 : decode b_Q_member 79 = .ok (.ifCond .eq 7, 3) := by decide +kernel
theorem d_Q_member_82 : decode b_Q_member 82 = .ok (.iconst 0, 1) := by decide +kernel
theorem d_Q_member_83 : decode b_Q_member 83 = .ok (.goto 4, 3) := by decide +kernel
theorem d_Q_member_86 : decode b_Q_member 86 = .ok (.iconst 1, 1) := by decide +kernel
theorem d_Q_member_87 : decode b_Q_member 87 = .ok (.putfield 73, 3) := by decide +kernel
theorem d_Q_member_90 : decode b_Q_member 90 = .ok (.aload_n 0, 1) := by decide +kernel
theorem d_Q_member_91 : decode b_Q_member 91 = .ok (.getfield 73, 3) := by decide +kernel
theorem d_Q_member_94 : decode b_Q_member 94 = .ok (.ifCond .le 5, 3) := by decide +kernel
theorem d_Q_member_97 : decode b_Q_member 97 = .ok (.iconst 0, 1) := by decide +kernel
theorem d_Q_member_98 : decode b_Q_member 98 = .ok (.ireturn, 1) := by decide +kernel
theorem d_Q_member_99 : decode b_Q_member 99 = .ok (.iconst 0, 1) := by decide +kernel
theorem d_Q_member_100 : decode b_Q_member 100 = .ok (.istore 8, 2) := by decide +kernel
theorem d_Q_member_102 : decode b_Q_member 102 = .ok (.iconst 0, 1) := by decide +kernel
theorem d_Q_member_103 : decode b_Q_member 103 = .ok (.istore 9, 2) := by decide +kernel
theorem d_Q_member_105 : decode b_Q_member 105 = .ok (.iload 9, 2) := by decide +kernel
theorem d_Q_member_107 : decode b_Q_member 107 = .ok (.aload_n 0, 1) := by decide +kernel
theorem d_Q_member_108 : decode b_Q_member 108 = .ok (.getfield 104, 3) := by decide +kernel
theorem d_Q_member_111 : decode b_Q_member 111 = .ok (.if_icmp .ge 115, 3) := by decide +kernel
theorem d_Q_member_114 : decode b_Q_member 114 = .ok (.aload_n 0, 1) := by decide +kernel
theorem d_Q_member_115 : decode b_Q_member 115 = .ok (.getfield 27, 3) := by decide +kernel
theorem d_Q_member_118 : decode b_Q_member 118 = .ok (.iload 9, 2) := by decide +kernel
theorem d_Q_member_120 : decode b_Q_member 120 = .ok (.iaload, 1) := by decide +kernel
theorem d_Q_member_121 : decode b_Q_member 121 = .ok (.iload_n 1, 1) := by decide +kernel
theorem d_Q_member_122 : decode b_Q_member 122 = .ok (.if_icmp .ne 29, 3) := by decide +kernel
theorem d_Q_member_125 : decode b_Q_member 125 = .ok (.aload_n 0, 1) := by decide +kernel
theorem d_Q_member_126 : decode b_Q_member 126 = .ok (.getfield 30, 3) := by decide +kernel
theorem d_Q_member_129 : decode b_Q_member 129 = .ok (.iload 9, 2) := by decide +kernel
theorem d_Q_member_131 : decode b_Q_member 131 = .ok (.iaload, 1) := by decide +kernel
theorem d_Q_member_132 : decode b_Q_member 132 = .ok (.iload_n 2, 1) := by decide +kernel
theorem d_Q_member_133 : decode b_Q_member 133 = .ok (.if_icmp .ne 18, 3) := by decide +kernel
theorem d_Q_member_136 : decode b_Q_member 136 = .ok (.aload_n 0, 1) := by decide +kernel
theorem d_Q_member_137 : decode b_Q_member 137 = .ok (.getfield 33, 3) := by decide +kernel
theorem d_Q_member_140 : decode b_Q_member 140 = .ok (.iload 9, 2) := by decide +kernel
theorem d_Q_member_142 : decode b_Q_member 142 = .ok (.iaload, 1) := by decide +kernel
theorem d_Q_member_143 : decode b_Q_member 143 = .ok (.iload_n 3, 1) := by decide +kernel
theorem d_Q_member_144 : decode b_Q_member 144 = .ok (.if_icmp .ne 7, 3) := by decide +kernel
theorem d_Q_member_147 : decode b_Q_member 147 = .ok (.iconst 1, 1) := by decide +kernel
theorem d_Q_member_148 : decode b_Q_member 148 = .ok (.goto 4, 3) := by decide +kernel
theorem d_Q_member_151 : decode b_Q_member 151 = .ok (.iconst 0, 1) := by decide +kernel
theorem d_Q_member_152 : decode b_Q_member 152 = .ok (.istore 10, 2) := by decide +kernel
theorem d_Q_member_154 : decode b_Q_member 154 = .ok (.iconst 0, 1) := by decide +kernel
theorem d_Q_member_155 : decode b_Q_member 155 = .ok (.istore 11, 2) := by decide +kernel
theorem d_Q_member_157 : decode b_Q_member 157 = .ok (.iload 11, 2) := by decide +kernel
theorem d_Q_member_159 : decode b_Q_member 159 = .ok (.iload_n 3, 1) := by decide +kernel
theorem d_Q_member_160 : decode b_Q_member 160 = .ok (.if_icmp .ge 43, 3) := by decide +kernel
theorem d_Q_member_163 : decode b_Q_member 163 = .ok (.iload 10, 2) := by decide +kernel
theorem d_Q_member_165 : decode b_Q_member 165 = .ok (.ifCond .eq 38, 3) := by decide +kernel
theorem d_Q_member_168 : decode b_Q_member 168 = .ok (.aload_n 0, 1) := by decide +kernel
theorem d_Q_member_169 : decode b_Q_member 169 = .ok (.getfield 36, 3) := by decide +kernel
theorem d_Q_member_172 : decode b_Q_member 172 = .ok (.iconst 4, 1) := by decide +kernel
theorem d_Q_member_173 : decode b_Q_member 173 = .ok (.iload 9, 2) := by decide +kernel
theorem d_Q_member_175 : decode b_Q_member 175 = .ok (.imul, 1) := by decide +kernel
theorem d_Q_member_176 : decode b_Q_member 176 = .ok (.iload 11, 2) := by decide +kernel
theorem d_Q_member_178 : decode b_Q_member 178 = .ok (.iadd, 1) := by decide +kernel
theorem d_Q_member_179 : decode b_Q_member 179 = .ok (.iaload, 1) := by decide +kernel
theorem d_Q_member_180 : decode b_Q_member 180 = .ok (.lload 4, 2) := by decide +kernel
theorem d_Q_member_182 : decode b_Q_member 182 = .ok (.iload 11, 2) := by decide +kernel
theorem d_Q_member_184 : decode b_Q_member 184 = .ok (.invokestatic 100, 3) := by decide +kernel
theorem d_Q_member_187 : decode b_Q_member 187 = .ok (.if_icmp .ne 7, 3) := by decide +kernel
theorem d_Q_member_190 : decode b_Q_member 190 = .ok (.iconst 1, 1) := by decide +kernel
theorem d_Q_member_191 : decode b_Q_member 191 = .ok (.goto 4, 3) := by decide +kernel
theorem d_Q_member_194 : decode b_Q_member 194 = .ok (.iconst 0, 1) := by decide +kernel
theorem d_Q_member_195 : decode b_Q_member 195 = .ok (.istore 10, 2) := by decide +kernel
theorem d_Q_member_197 : decode b_Q_member 197 = .ok (.iinc 11 1, 3) := by decide +kernel
theorem d_Q_member_200 : decode b_Q_member 200 = .ok (.goto (-43), 3) := by decide +kernel
theorem d_Q_member_203 : decode b_Q_member 203 = .ok (.iload 8, 2) := by decide +kernel
theorem d_Q_member_205 : decode b_Q_member 205 = .ok (.ifCond .ne 8, 3) := by decide +kernel
theorem d_Q_member_208 : decode b_Q_member 208 = .ok (.iload 10, 2) := by decide +kernel
theorem d_Q_member_210 : decode b_Q_member 210 = .ok (.ifCond .eq 7, 3) := by decide +kernel
theorem d_Q_member_213 : decode b_Q_member 213 = .ok (.iconst 1, 1) := by decide +kernel
theorem d_Q_member_214 : decode b_Q_member 214 = .ok (.goto 4, 3) := by decide +kernel
theorem d_Q_member_217 : decode b_Q_member 217 = .ok (.iconst 0, 1) := by decide +kernel
theorem d_Q_member_218 : decode b_Q_member 218 = .ok (.istore 8, 2) := by decide +kernel
theorem d_Q_member_220 : decode b_Q_member 220 = .ok (.iinc 9 1, 3) := by decide +kernel
theorem d_Q_member_223 : decode b_Q_member 223 = .ok (.goto (-118), 3) := by decide +kernel
theorem d_Q_member_226 : decode b_Q_member 226 = .ok (.aload_n 0, 1) := by decide +kernel
theorem d_Q_member_227 : decode b_Q_member 227 = .ok (.iload 8, 2) := by decide +kernel
theorem d_Q_member_229 : decode b_Q_member 229 = .ok (.ifCond .ne 12, 3) := by decide +kernel
theorem d_Q_member_232 : decode b_Q_member 232 = .ok (.aload_n 0, 1) := by decide +kernel
theorem d_Q_member_233 : decode b_Q_member 233 = .ok (.getfield 104, 3) := by decide +kernel
theorem d_Q_member_236 : decode b_Q_member 236 = .ok (.bipush 80, 2) := by decide +kernel
theorem d_Q_member_238 : decode b_Q_member 238 = .ok (.if_icmp .ne 7, 3) := by decide +kernel
theorem d_Q_member_241 : decode b_Q_member 241 = .ok (.iconst 2, 1) := by decide +kernel
theorem d_Q_member_242 : decode b_Q_member 242 = .ok (.goto 4, 3) := by decide +kernel
theorem d_Q_member_245 : decode b_Q_member 245 = .ok (.iconst 0, 1) := by decide +kernel
theorem d_Q_member_246 : decode b_Q_member 246 = .ok (.putfield 73, 3) := by decide +kernel
theorem d_Q_member_249 : decode b_Q_member 249 = .ok (.aload_n 0, 1) := by decide +kernel
theorem d_Q_member_250 : decode b_Q_member 250 = .ok (.getfield 73, 3) := by decide +kernel
theorem d_Q_member_253 : decode b_Q_member 253 = .ok (.ifCond .le 5, 3) := by decide +kernel
theorem d_Q_member_256 : decode b_Q_member 256 = .ok (.iconst 0, 1) := by decide +kernel
theorem d_Q_member_257 : decode b_Q_member 257 = .ok (.ireturn, 1) := by decide +kernel
theorem d_Q_member_258 : decode b_Q_member 258 = .ok (.aload_n 0, 1) := by decide +kernel
theorem d_Q_member_259 : decode b_Q_member 259 = .ok (.getfield 104, 3) := by decide +kernel
theorem d_Q_member_262 : decode b_Q_member 262 = .ok (.istore 9, 2) := by decide +kernel
theorem d_Q_member_264 : decode b_Q_member 264 = .ok (.aload_n 0, 1) := by decide +kernel
theorem d_Q_member_265 : decode b_Q_member 265 = .ok (.getfield 27, 3) := by decide +kernel
theorem d_Q_member_268 : decode b_Q_member 268 = .ok (.iload 9, 2) := by decide +kernel
theorem d_Q_member_270 : decode b_Q_member 270 = .ok (.iload_n 1, 1) := by decide +kernel
theorem d_Q_member_271 : decode b_Q_member 271 = .ok (.iastore, 1) := by decide +kernel
theorem d_Q_member_272 : decode b_Q_member 272 = .ok (.aload_n 0, 1) := by decide +kernel
theorem d_Q_member_273 : decode b_Q_member 273 = .ok (.getfield 30, 3) := by decide +kernel
theorem d_Q_member_276 : decode b_Q_member 276 = .ok (.iload 9, 2) := by decide +kernel
theorem d_Q_member_278 : decode b_Q_member 278 = .ok (.iload_n 2, 1) := by decide +kernel
theorem d_Q_member_279 : decode b_Q_member 279 = .ok (.iastore, 1) := by decide +kernel
theorem d_Q_member_280 : decode b_Q_member 280 = .ok (.aload_n 0, 1) := by decide +kernel
theorem d_Q_member_281 : decode b_Q_member 281 = .ok (.getfield 33, 3) := by decide +kernel
theorem d_Q_member_284 : decode b_Q_member 284 = .ok (.iload 9, 2) := by decide +kernel
theorem d_Q_member_286 : decode b_Q_member 286 = .ok (.iload_n 3, 1) := by decide +kernel
theorem d_Q_member_287 : decode b_Q_member 287 = .ok (.iastore, 1) := by decide +kernel
theorem d_Q_member_288 : decode b_Q_member 288 = .ok (.iconst 0, 1) := by decide +kernel
theorem d_Q_member_289 : decode b_Q_member 289 = .ok (.istore 10, 2) := by decide +kernel
theorem d_Q_member_291 : decode b_Q_member 291 = .ok (.iload 10, 2) := by decide +kernel
theorem d_Q_member_293 : decode b_Q_member 293 = .ok (.iload_n 3, 1) := by decide +kernel
theorem d_Q_member_294 : decode b_Q_member 294 = .ok (.if_icmp .ge 28, 3) := by decide +kernel
theorem d_Q_member_297 : decode b_Q_member 297 = .ok (.aload_n 0, 1) := by decide +kernel
theorem d_Q_member_298 : decode b_Q_member 298 = .ok (.getfield 36, 3) := by decide +kernel
theorem d_Q_member_301 : decode b_Q_member 301 = .ok (.iconst 4, 1) := by decide +kernel
theorem d_Q_member_302 : decode b_Q_member 302 = .ok (.iload 9, 2) := by decide +kernel
theorem d_Q_member_304 : decode b_Q_member 304 = .ok (.imul, 1) := by decide +kernel
theorem d_Q_member_305 : decode b_Q_member 305 = .ok (.iload 10, 2) := by decide +kernel
theorem d_Q_member_307 : decode b_Q_member 307 = .ok (.iadd, 1) := by decide +kernel
theorem d_Q_member_308 : decode b_Q_member 308 = .ok (.lload 4, 2) := by decide +kernel
theorem d_Q_member_310 : decode b_Q_member 310 = .ok (.iload 10, 2) := by decide +kernel
theorem d_Q_member_312 : decode b_Q_member 312 = .ok (.invokestatic 100, 3) := by decide +kernel
theorem d_Q_member_315 : decode b_Q_member 315 = .ok (.iastore, 1) := by decide +kernel
theorem d_Q_member_316 : decode b_Q_member 316 = .ok (.iinc 10 1, 3) := by decide +kernel
theorem d_Q_member_319 : decode b_Q_member 319 = .ok (.goto (-28), 3) := by decide +kernel
theorem d_Q_member_322 : decode b_Q_member 322 = .ok (.aload_n 0, 1) := by decide +kernel
theorem d_Q_member_323 : decode b_Q_member 323 = .ok (.getfield 39, 3) := by decide +kernel
theorem d_Q_member_326 : decode b_Q_member 326 = .ok (.iload 9, 2) := by decide +kernel
theorem d_Q_member_328 : decode b_Q_member 328 = .ok (.iload 6, 2) := by decide +kernel
theorem d_Q_member_330 : decode b_Q_member 330 = .ok (.bastore, 1) := by decide +kernel
theorem d_Q_member_331 : decode b_Q_member 331 = .ok (.aload_n 0, 1) := by decide +kernel
theorem d_Q_member_332 : decode b_Q_member 332 = .ok (.dup, 1) := by decide +kernel
theorem d_Q_member_333 : decode b_Q_member 333 = .ok (.getfield 104, 3) := by decide +kernel
theorem d_Q_member_336 : decode b_Q_member 336 = .ok (.iconst 1, 1) := by decide +kernel
theorem d_Q_member_337 : decode b_Q_member 337 = .ok (.iadd, 1) := by decide +kernel
theorem d_Q_member_338 : decode b_Q_member 338 = .ok (.putfield 104, 3) := by decide +kernel
theorem d_Q_member_341 : decode b_Q_member 341 = .ok (.aload_n 0, 1) := by decide +kernel
theorem d_Q_member_342 : decode b_Q_member 342 = .ok (.iload_n 2, 1) := by decide +kernel
theorem d_Q_member_343 : decode b_Q_member 343 = .ok (.invokevirtual 107, 3) := by decide +kernel
theorem d_Q_member_346 : decode b_Q_member 346 = .ok (.iload 9, 2) := by decide +kernel
theorem d_Q_member_348 : decode b_Q_member 348 = .ok (.ireturn, 1) := by decide +kernel
abbrev rm_Q_member : Room := { frames := 2, cells := 0, slots := 0, locals := 45 }
def st_Q_member_L46 (n : Nat) (v1 : Int32) (v2 : Int32) (v3 : Int32) (v4 : Int64) (v6 : Int32) (v7 : Int32) (v8 : Int32) (S : ZQ) : Option ((Int32 × Int32 × ZQ) ⊕ (Nat × Int32 × Int32 × ZQ)) :=
  (if v3 ≤ v8 then
  some (.inr (76, v7, v8, S))
  else
  (if v7 = 0 then
    some (.inr (76, v7, v8, S))
    else
    zbind1 (fx_Q_byteOf n v4 v8) (fun r_11 =>
      zbind (fx_Q_isType n S r_11) (fun r_12 S_12 =>
      some (.inl (r_12, (v8 + (1 : Int32)), S_12))))))

def fx_Q_member_L46 (n : Nat) (v1 : Int32) (v2 : Int32) (v3 : Int32) (v4 : Int64) (v6 : Int32) (v7 : Int32) (v8 : Int32) (S : ZQ) : Option (Nat × Int32 × Int32 × ZQ) := zloop (fun (st : Int32 × Int32 × ZQ) => st_Q_member_L46 n v1 v2 v3 v4 v6 st.1 st.2.1 st.2.2) n (v7, v8, S)

def st_Q_member_L157 (n : Nat) (v1 : Int32) (v2 : Int32) (v3 : Int32) (v4 : Int64) (v6 : Int32) (v8 : Int32) (v9 : Int32) (v10 : Int32) (v11 : Int32) (S : ZQ) : Option ((Int32 × Int32 × ZQ) ⊕ (Nat × Int32 × Int32 × ZQ)) :=
  (if v3 ≤ v11 then
  some (.inr (203, v10, v11, S))
  else
  (if v10 = 0 then
    some (.inr (203, v10, v11, S))
    else
    (if zoob (((4 : Int32) * v9) + v11) 320 then none else
      zbind1 (fx_Q_byteOf n v4 v11) (fun r_27 =>
      (if ((qPa S) (((4 : Int32) * v9) + v11).toNatClampNeg) = r_27 then
      some (.inl ((1 : Int32), (v11 + (1 : Int32)), S))
      else
      some (.inl ((0 : Int32), (v11 + (1 : Int32)), S)))))))

def fx_Q_member_L157 (n : Nat) (v1 : Int32) (v2 : Int32) (v3 : Int32) (v4 : Int64) (v6 : Int32) (v8 : Int32) (v9 : Int32) (v10 : Int32) (v11 : Int32) (S : ZQ) : Option (Nat × Int32 × Int32 × ZQ) := zloop (fun (st : Int32 × Int32 × ZQ) => st_Q_member_L157 n v1 v2 v3 v4 v6 v8 v9 st.1 st.2.1 st.2.2) n (v10, v11, S)

def jx_Q_member_L105_152 (n : Nat) (k0 : Int32) (v1 : Int32) (v2 : Int32) (v3 : Int32) (v4 : Int64) (v6 : Int32) (v8 : Int32) (v9 : Int32) (S : ZQ) : Option ((Int32 × Int32 × ZQ) ⊕ (Nat × Int32 × Int32 × ZQ)) :=
  zbL3 (fx_Q_member_L157 n v1 v2 v3 v4 v6 v8 v9 k0 (0 : Int32) S) (fun x_29 v10_29 v11_29 S_29 =>
    if x_29 = 203 then
    (if v8 = 0 then
    (if v10_29 = 0 then
      some (.inl ((0 : Int32), (v9 + (1 : Int32)), S_29))
      else
      some (.inl ((1 : Int32), (v9 + (1 : Int32)), S_29)))
    else
    some (.inl ((1 : Int32), (v9 + (1 : Int32)), S_29)))
    else none)

def jx_Q_member_L105_151 (n : Nat) (v1 : Int32) (v2 : Int32) (v3 : Int32) (v4 : Int64) (v6 : Int32) (v8 : Int32) (v9 : Int32) (S : ZQ) : Option ((Int32 × Int32 × ZQ) ⊕ (Nat × Int32 × Int32 × ZQ)) :=
  jx_Q_member_L105_152 n (0 : Int32) v1 v2 v3 v4 v6 v8 v9 S

def st_Q_member_L105 (n : Nat) (v1 : Int32) (v2 : Int32) (v3 : Int32) (v4 : Int64) (v6 : Int32) (v8 : Int32) (v9 : Int32) (S : ZQ) : Option ((Int32 × Int32 × ZQ) ⊕ (Nat × Int32 × Int32 × ZQ)) :=
  (if (qMe S) ≤ v9 then
  some (.inr (226, v8, v9, S))
  else
  (if zoob v9 80 then none else
    (if ((qOw S) v9.toNatClampNeg) = v1 then
    (if zoob v9 80 then none else
      (if ((qNa S) v9.toNatClampNeg) = v2 then
      (if zoob v9 80 then none else
        (if ((qMa S) v9.toNatClampNeg) = v3 then
        jx_Q_member_L105_152 n (1 : Int32) v1 v2 v3 v4 v6 v8 v9 S
        else
        jx_Q_member_L105_151 n v1 v2 v3 v4 v6 v8 v9 S))
      else
      jx_Q_member_L105_151 n v1 v2 v3 v4 v6 v8 v9 S))
    else
    jx_Q_member_L105_151 n v1 v2 v3 v4 v6 v8 v9 S)))

def fx_Q_member_L105 (n : Nat) (v1 : Int32) (v2 : Int32) (v3 : Int32) (v4 : Int64) (v6 : Int32) (v8 : Int32) (v9 : Int32) (S : ZQ) : Option (Nat × Int32 × Int32 × ZQ) := zloop (fun (st : Int32 × Int32 × ZQ) => st_Q_member_L105 n v1 v2 v3 v4 v6 st.1 st.2.1 st.2.2) n (v8, v9, S)

def st_Q_member_L291 (n : Nat) (v2 : Int32) (v3 : Int32) (v4 : Int64) (v6 : Int32) (v9 : Int32) (v10 : Int32) (S : ZQ) : Option ((Int32 × ZQ) ⊕ (Nat × Int32 × ZQ)) :=
  (if v3 ≤ v10 then
  some (.inr (322, v10, S))
  else
  zbind1 (fx_Q_byteOf n v4 v10) (fun r_44 =>
    (if zoob (((4 : Int32) * v9) + v10) 320 then none else
    zlet (qPa' S (upd (qPa S) (((4 : Int32) * v9) + v10).toNatClampNeg r_44)) (fun S_46 =>
    some (.inl ((v10 + (1 : Int32)), S_46))))))

def fx_Q_member_L291 (n : Nat) (v2 : Int32) (v3 : Int32) (v4 : Int64) (v6 : Int32) (v9 : Int32) (v10 : Int32) (S : ZQ) : Option (Nat × Int32 × ZQ) := zloop (fun (st : Int32 × ZQ) => st_Q_member_L291 n v2 v3 v4 v6 v9 st.1 st.2) n (v10, S)

def jx_Q_member_246 (n : Nat) (k0 : Int32) (v1 : Int32) (v2 : Int32) (v3 : Int32) (v4 : Int64) (v6 : Int32) (S : ZQ) : Option (Int32 × ZQ) :=
  zlet (qTh' S k0) (fun S_35 =>
    (if (qTh S_35) ≤ 0 then
    (if zoob (qMe S_35) 80 then none else
      zlet (qOw' S_35 (upd (qOw S_35) (qMe S_35).toNatClampNeg v1)) (fun S_38 =>
      (if zoob (qMe S_35) 80 then none else
      zlet (qNa' S_38 (upd (qNa S_38) (qMe S_35).toNatClampNeg v2)) (fun S_40 =>
      (if zoob (qMe S_35) 80 then none else
      zlet (qMa' S_40 (upd (qMa S_40) (qMe S_35).toNatClampNeg v3)) (fun S_42 =>
      zbL2 (fx_Q_member_L291 n v2 v3 v4 v6 (qMe S_35) (0 : Int32) S_42) (fun x_47 v10_47 S_47 =>
      if x_47 = 322 then
      (if zoob (qMe S_35) 80 then none else
      zlet (qVa' S_47 (upd (qVa S_47) (qMe S_35).toNatClampNeg (vp_nar .boolean v6))) (fun S_49 =>
      zlet (qMe' S_49 ((qMe S_49) + (1 : Int32))) (fun S_50 =>
      zbind1 (fx_Q_letGo n S_50 v2) (fun S_51 =>
      some ((qMe S_35), S_51)))))
      else none)))))))
    else
    some ((0 : Int32), S_35)))

def jx_Q_member_241 (n : Nat) (v1 : Int32) (v2 : Int32) (v3 : Int32) (v4 : Int64) (v6 : Int32) (S : ZQ) : Option (Int32 × ZQ) :=
  jx_Q_member_246 n (2 : Int32) v1 v2 v3 v4 v6 S

def jx_Q_member_87 (n : Nat) (k0 : Int32) (v1 : Int32) (v2 : Int32) (v3 : Int32) (v4 : Int64) (v6 : Int32) (S : ZQ) : Option (Int32 × ZQ) :=
  zlet (qTh' S k0) (fun S_15 =>
    (if (qTh S_15) ≤ 0 then
    zbL3 (fx_Q_member_L105 n v1 v2 v3 v4 v6 (0 : Int32) (0 : Int32) S_15) (fun x_32 v8_32 v9_32 S_32 =>
      if x_32 = 226 then
      (if v8_32 = 0 then
      (if (qMe S_32) = (80 : Int32) then
        jx_Q_member_241 n v1 v2 v3 v4 v6 S_32
        else
        jx_Q_member_246 n (0 : Int32) v1 v2 v3 v4 v6 S_32)
      else
      jx_Q_member_241 n v1 v2 v3 v4 v6 S_32)
      else none)
    else
    some ((0 : Int32), S_15)))

def jx_Q_member_41 (n : Nat) (k0 : Int32) (v1 : Int32) (v2 : Int32) (v3 : Int32) (v4 : Int64) (v6 : Int32) (S : ZQ) : Option (Int32 × ZQ) :=
  zbL3 (fx_Q_member_L46 n v1 v2 v3 v4 v6 k0 (0 : Int32) S) (fun x_13 v7_13 v8_13 S_13 =>
    if x_13 = 76 then
    (if v7_13 = 0 then
    jx_Q_member_87 n (1 : Int32) v1 v2 v3 v4 v6 S_13
    else
    jx_Q_member_87 n (0 : Int32) v1 v2 v3 v4 v6 S_13)
    else none)

def jx_Q_member_40 (n : Nat) (v1 : Int32) (v2 : Int32) (v3 : Int32) (v4 : Int64) (v6 : Int32) (S : ZQ) : Option (Int32 × ZQ) :=
  jx_Q_member_41 n (0 : Int32) v1 v2 v3 v4 v6 S

def jx_Q_member_36 (n : Nat) (v1 : Int32) (v2 : Int32) (v3 : Int32) (v4 : Int64) (v6 : Int32) (S : ZQ) : Option (Int32 × ZQ) :=
  jx_Q_member_41 n (1 : Int32) v1 v2 v3 v4 v6 S

def fx_Q_member (n : Nat) (S : ZQ) (a1 : Int32) (a2 : Int32) (a3 : Int32) (a4 : Int64) (a6 : Int32) : Option (Int32 × ZQ) :=
  zbind (fx_Q_isOwn n S a1) (fun r_1 S_1 =>
  (if r_1 = 0 then
  jx_Q_member_40 n a1 a2 a3 a4 a6 S_1
  else
  (if a2 < 0 then
    jx_Q_member_40 n a1 a2 a3 a4 a6 S_1
    else
    (if (10 : Int32) ≤ a2 then
      jx_Q_member_40 n a1 a2 a3 a4 a6 S_1
      else
      (if a3 < 0 then
        jx_Q_member_40 n a1 a2 a3 a4 a6 S_1
        else
        (if (5 : Int32) ≤ a3 then
          jx_Q_member_40 n a1 a2 a3 a4 a6 S_1
          else
          (if 0 < a3 then
            jx_Q_member_36 n a1 a2 a3 a4 a6 S_1
            else
            (if a6 = 0 then
              jx_Q_member_36 n a1 a2 a3 a4 a6 S_1
              else
              jx_Q_member_40 n a1 a2 a3 a4 a6 S_1))))))))

set_option maxRecDepth 100000 in
set_option maxHeartbeats 4000000 in
theorem lp_Q_member_L46 {z : zE} {B : Nat → Nat} {Rr : va_W} {p : Program} {l : Launch} {e : Env} {s : State} {m : MethodId} {args : Array Value} {below : List Frame} {meth : Method} {c : Code} {Q : State → Prop} {H0 : Heap} {A0 : Nat → Prop} (hM : zM z p s m args c b_Q_member 12 R_Q) (hA : ∀ q : Nat, H0.size ≤ q → A0 q) (n : Nat) (v1 : Int32) (v2 : Int32) (v3 : Int32) (v4 : Int64) (v6 : Int32) :
    ∀ (v7 : Int32) (v8 : Int32) (S : ZQ) (r : Nat × Int32 × Int32 × ZQ), fx_Q_member_L46 n v1 v2 v3 v4 v6 v7 v8 S = some r → (∀ (H : Heap) (locs : List Loc) (ls : Array Slot), va_P z.1 vwCl (qw z B r.2.2.2 ++ Rr) H → va_D A0 (qw z B r.2.2.2 ++ Rr) → va_S A0 H0 H locs → lv_has ls 12 [(0, .ref (B 0)), (1, .int v1), (2, .int v2), (3, .int v3), (4, .long v4), (6, .int v6), (7, .int r.2.1), (8, .int r.2.2.1)] → W p l e rm_Q_member s m args below meth c H locs 0 0 Q (F0 m r.1 ls [])) →
    ∀ (H : Heap) (locs : List Loc) (ls : Array Slot), va_P z.1 vwCl (qw z B S ++ Rr) H → va_D A0 (qw z B S ++ Rr) → va_S A0 H0 H locs → lv_has ls 12 [(0, .ref (B 0)), (1, .int v1), (2, .int v2), (3, .int v3), (4, .long v4), (6, .int v6), (7, .int v7), (8, .int v8)] → W p l e rm_Q_member s m args below meth c H locs 0 0 Q (F0 m 46 ls []) := by
  obtain ⟨hx, hb, hml, hown, hts, hK, hN⟩ := id hM
  intro v7 v8 S r h hE
  refine zz_loop (G := fun (st : Int32 × Int32 × ZQ) => ∀ (H : Heap) (locs : List Loc) (ls : Array Slot), va_P z.1 vwCl (qw z B st.2.2 ++ Rr) H → va_D A0 (qw z B st.2.2 ++ Rr) → va_S A0 H0 H locs → lv_has ls 12 [(0, .ref (B 0)), (1, .int v1), (2, .int v2), (3, .int v3), (4, .long v4), (6, .int v6), (7, .int st.1), (8, .int st.2.1)] → W p l e rm_Q_member s m args below meth c H locs 0 0 Q (F0 m 46 ls [])) (E := fun (r : Nat × Int32 × Int32 × ZQ) => ∀ (H : Heap) (locs : List Loc) (ls : Array Slot), va_P z.1 vwCl (qw z B r.2.2.2 ++ Rr) H → va_D A0 (qw z B r.2.2.2 ++ Rr) → va_S A0 H0 H locs → lv_has ls 12 [(0, .ref (B 0)), (1, .int v1), (2, .int v2), (3, .int v3), (4, .long v4), (6, .int v6), (7, .int r.2.1), (8, .int r.2.2.1)] → W p l e rm_Q_member s m args below meth c H locs 0 0 Q (F0 m r.1 ls [])) ?_ n (v7, v8, S) r h hE
  clear h hE r v7 v8 S
  rintro ⟨v7, v8, S⟩ o h hG hE H locs ls hP hD hS hl
  have h : st_Q_member_L46 n v1 v2 v3 v4 v6 v7 v8 S = some o := h
  have hl : lv_has ls 12 [(0, .ref (B 0)), (1, .int v1), (2, .int v2), (3, .int v3), (4, .long v4), (6, .int v6), (7, .int v7), (8, .int v8)] := hl
  have hP : va_P z.1 vwCl (qw z B S ++ Rr) H := hP
  have hD : va_D A0 (qw z B S ++ Rr) := hD
  unfold st_Q_member_L46 at h
  refine lv_iload hx hb d_Q_member_46 (lv_at hl 7 rfl) ?_
  refine lv_iload_n hx hb d_Q_member_48 rfl (lv_at hl 3 rfl) ?_
  refine lv_icmp_ge (tgt := 76) hx hb d_Q_member_49 (by decide) (fun c_9 => ?_) (fun c_9 => ?_)
  · replace h := zz_t c_9 h
    exact hE _ (Option.some.inj h).symm _ _ _ hP hD hS hl
  · replace h := zz_f c_9 h
    refine lv_iload hx hb d_Q_member_52 (lv_at hl 6 rfl) ?_
    refine lv_if_eq (tgt := 76) hx hb d_Q_member_54 (by decide) (fun c_10 => ?_) (fun c_10 => ?_)
    · replace h := zz_t c_10 h
      exact hE _ (Option.some.inj h).symm _ _ _ hP hD hS hl
    · replace h := zz_f c_10 h
      refine lv_aload_n hx hb d_Q_member_57 rfl (lv_at hl 0 rfl) ?_
      refine lv_lload hx hb d_Q_member_58 (lv_at hl 4 rfl) ?_
      refine lv_iload hx hb d_Q_member_60 (lv_at hl 7 rfl) ?_
      obtain ⟨r_11, e_11, h⟩ := zz_bind1 h
      refine zz_goI (zz_runS (As := [.long v4, .int v8]) (rest := [.ref (B 0)]) (k_Q_byteOf l z _ n _ _ _ e_11) ⟨hx, hb, hml, hown, hts⟩ (va_cwS 2 hts (zz_gS wq_680 wq_681 wq_6 wq_682) rfl rfl rfl (by decide +kernel) ⟨Nat.le_of_ble_eq_true rfl, Nat.le_of_ble_eq_true rfl⟩) hK hN hP hD rfl hl.1 rfl (Nat.le_of_ble_eq_true rfl) d_Q_member_62 ⟨Nat.le_of_ble_eq_true rfl, Nat.le_of_ble_eq_true rfl⟩) hD hS hA (fun H locs hP hD hS => ?_)
      obtain ⟨r_12, S_12, e_12, h⟩ := zz_bind h
      refine zz_goI (zz_runV (As := [.int r_11]) (rest := []) (k_Q_isType l z B Rr n _ _ _ _ e_12) ⟨hx, hb, hml, hown, hts⟩ (cwV 1 hts (zz_gV wq_660 wq_662 wp_20 wq_6 wq_663) rfl rfl rfl (by decide +kernel) ⟨Nat.le_of_ble_eq_true rfl, Nat.le_of_ble_eq_true rfl⟩) hK hN hP hD (va_recv hK hP (ci := 5) (q0 := 0) rfl rfl) rfl hl.1 rfl (Nat.le_of_ble_eq_true rfl) d_Q_member_65 ⟨Nat.le_of_ble_eq_true rfl, Nat.le_of_ble_eq_true rfl⟩) hD hS hA (fun H locs hP hD hS => ?_)
      refine lv_istore (lv' := [(7, .int r_12), (0, .ref (B 0)), (1, .int v1), (2, .int v2), (3, .int v3), (4, .long v4), (6, .int v6), (8, .int v8)]) hx hb d_Q_member_68 hl (by decide) rfl (fun ls hl => ?_)
      refine lv_iinc (v := (v8 + (1 : Int32))) (lv' := [(8, .int (v8 + (1 : Int32))), (7, .int r_12), (0, .ref (B 0)), (1, .int v1), (2, .int v2), (3, .int v3), (4, .long v4), (6, .int v6)]) hx hb d_Q_member_70 hl (k := 7) rfl rfl (by decide) rfl (fun ls hl => ?_)
      refine lv_goto (tgt := 46) hx hb d_Q_member_73 (by decide) ?_
      exact hG _ (Option.some.inj h).symm _ _ _ hP hD hS (lv_sub hl [2, 3, 4, 5, 6, 7, 1, 0] rfl)

set_option maxRecDepth 100000 in
set_option maxHeartbeats 4000000 in
theorem lp_Q_member_L157 {z : zE} {B : Nat → Nat} {Rr : va_W} {p : Program} {l : Launch} {e : Env} {s : State} {m : MethodId} {args : Array Value} {below : List Frame} {meth : Method} {c : Code} {Q : State → Prop} {H0 : Heap} {A0 : Nat → Prop} (hM : zM z p s m args c b_Q_member 12 R_Q) (hA : ∀ q : Nat, H0.size ≤ q → A0 q) (n : Nat) (v1 : Int32) (v2 : Int32) (v3 : Int32) (v4 : Int64) (v6 : Int32) (v8 : Int32) (v9 : Int32) :
    ∀ (v10 : Int32) (v11 : Int32) (S : ZQ) (r : Nat × Int32 × Int32 × ZQ), fx_Q_member_L157 n v1 v2 v3 v4 v6 v8 v9 v10 v11 S = some r → (∀ (H : Heap) (locs : List Loc) (ls : Array Slot), va_P z.1 vwCl (qw z B r.2.2.2 ++ Rr) H → va_D A0 (qw z B r.2.2.2 ++ Rr) → va_S A0 H0 H locs → lv_has ls 12 [(0, .ref (B 0)), (1, .int v1), (2, .int v2), (3, .int v3), (4, .long v4), (6, .int v6), (8, .int v8), (9, .int v9), (10, .int r.2.1), (11, .int r.2.2.1)] → W p l e rm_Q_member s m args below meth c H locs 0 0 Q (F0 m r.1 ls [])) →
    ∀ (H : Heap) (locs : List Loc) (ls : Array Slot), va_P z.1 vwCl (qw z B S ++ Rr) H → va_D A0 (qw z B S ++ Rr) → va_S A0 H0 H locs → lv_has ls 12 [(0, .ref (B 0)), (1, .int v1), (2, .int v2), (3, .int v3), (4, .long v4), (6, .int v6), (8, .int v8), (9, .int v9), (10, .int v10), (11, .int v11)] → W p l e rm_Q_member s m args below meth c H locs 0 0 Q (F0 m 157 ls []) := by
  obtain ⟨hx, hb, hml, hown, hts, hK, hN⟩ := id hM
  intro v10 v11 S r h hE
  refine zz_loop (G := fun (st : Int32 × Int32 × ZQ) => ∀ (H : Heap) (locs : List Loc) (ls : Array Slot), va_P z.1 vwCl (qw z B st.2.2 ++ Rr) H → va_D A0 (qw z B st.2.2 ++ Rr) → va_S A0 H0 H locs → lv_has ls 12 [(0, .ref (B 0)), (1, .int v1), (2, .int v2), (3, .int v3), (4, .long v4), (6, .int v6), (8, .int v8), (9, .int v9), (10, .int st.1), (11, .int st.2.1)] → W p l e rm_Q_member s m args below meth c H locs 0 0 Q (F0 m 157 ls [])) (E := fun (r : Nat × Int32 × Int32 × ZQ) => ∀ (H : Heap) (locs : List Loc) (ls : Array Slot), va_P z.1 vwCl (qw z B r.2.2.2 ++ Rr) H → va_D A0 (qw z B r.2.2.2 ++ Rr) → va_S A0 H0 H locs → lv_has ls 12 [(0, .ref (B 0)), (1, .int v1), (2, .int v2), (3, .int v3), (4, .long v4), (6, .int v6), (8, .int v8), (9, .int v9), (10, .int r.2.1), (11, .int r.2.2.1)] → W p l e rm_Q_member s m args below meth c H locs 0 0 Q (F0 m r.1 ls [])) ?_ n (v10, v11, S) r h hE
  clear h hE r v10 v11 S
  rintro ⟨v10, v11, S⟩ o h hG hE H locs ls hP hD hS hl
  have h : st_Q_member_L157 n v1 v2 v3 v4 v6 v8 v9 v10 v11 S = some o := h
  have hl : lv_has ls 12 [(0, .ref (B 0)), (1, .int v1), (2, .int v2), (3, .int v3), (4, .long v4), (6, .int v6), (8, .int v8), (9, .int v9), (10, .int v10), (11, .int v11)] := hl
  have hP : va_P z.1 vwCl (qw z B S ++ Rr) H := hP
  have hD : va_D A0 (qw z B S ++ Rr) := hD
  unfold st_Q_member_L157 at h
  refine lv_iload hx hb d_Q_member_157 (lv_at hl 9 rfl) ?_
  refine lv_iload_n hx hb d_Q_member_159 rfl (lv_at hl 3 rfl) ?_
  refine lv_icmp_ge (tgt := 203) hx hb d_Q_member_160 (by decide) (fun c_24 => ?_) (fun c_24 => ?_)
  · replace h := zz_t c_24 h
    exact hE _ (Option.some.inj h).symm _ _ _ hP hD hS hl
  · replace h := zz_f c_24 h
    refine lv_iload hx hb d_Q_member_163 (lv_at hl 8 rfl) ?_
    refine lv_if_eq (tgt := 203) hx hb d_Q_member_165 (by decide) (fun c_25 => ?_) (fun c_25 => ?_)
    · replace h := zz_t c_25 h
      exact hE _ (Option.some.inj h).symm _ _ _ hP hD hS hl
    · replace h := zz_f c_25 h
      refine lv_aload_n hx hb d_Q_member_168 rfl (lv_at hl 0 rfl) ?_
      refine va_get (D := z.1) (ci := 5) (v := .ref (B 8)) (C := R_Q) (T := F_Q) (N := 28) hx hb hts i_Q hown hK hP 0 rfl rfl 10 (by decide) (hts _ wq_561) (fun _ h9 => h9) rfl d_Q_member_169 ?_
      refine lv_iconst (v := 4) hx hb d_Q_member_172 (by decide) ?_
      refine lv_iload hx hb d_Q_member_173 (lv_at hl 7 rfl) ?_
      refine lv_imul hx hb d_Q_member_175 ?_
      refine lv_iload hx hb d_Q_member_176 (lv_at hl 9 rfl) ?_
      refine lv_iadd hx hb d_Q_member_178 ?_
      obtain ⟨c_26, h⟩ := zz_oob h
      refine va_iald hx hb hK hP 8 0 rfl rfl c_26 d_Q_member_179 ?_
      refine lv_lload hx hb d_Q_member_180 (lv_at hl 4 rfl) ?_
      refine lv_iload hx hb d_Q_member_182 (lv_at hl 9 rfl) ?_
      obtain ⟨r_27, e_27, h⟩ := zz_bind1 h
      refine zz_goI (zz_runS (As := [.long v4, .int v11]) (rest := [.int ((qPa S) (((4 : Int32) * v9) + v11).toNatClampNeg)]) (k_Q_byteOf l z _ n _ _ _ e_27) ⟨hx, hb, hml, hown, hts⟩ (va_cwS 2 hts (zz_gS wq_680 wq_681 wq_6 wq_682) rfl rfl rfl (by decide +kernel) ⟨Nat.le_of_ble_eq_true rfl, Nat.le_of_ble_eq_true rfl⟩) hK hN hP hD rfl hl.1 rfl (Nat.le_of_ble_eq_true rfl) d_Q_member_184 ⟨Nat.le_of_ble_eq_true rfl, Nat.le_of_ble_eq_true rfl⟩) hD hS hA (fun H locs hP hD hS => ?_)
      refine lv_icmp_ne (tgt := 194) hx hb d_Q_member_187 (by decide) (fun c_28 => ?_) (fun c_28 => ?_)
      · replace h := zz_f c_28 h
        refine lv_iconst (v := 0) hx hb d_Q_member_194 (by decide) ?_
        refine lv_istore (lv' := [(10, .int (0 : Int32)), (0, .ref (B 0)), (1, .int v1), (2, .int v2), (3, .int v3), (4, .long v4), (6, .int v6), (8, .int v8), (9, .int v9), (11, .int v11)]) hx hb d_Q_member_195 hl (by decide) rfl (fun ls hl => ?_)
        refine lv_iinc (v := (v11 + (1 : Int32))) (lv' := [(11, .int (v11 + (1 : Int32))), (10, .int (0 : Int32)), (0, .ref (B 0)), (1, .int v1), (2, .int v2), (3, .int v3), (4, .long v4), (6, .int v6), (8, .int v8), (9, .int v9)]) hx hb d_Q_member_197 hl (k := 9) rfl rfl (by decide) rfl (fun ls hl => ?_)
        refine lv_goto (tgt := 157) hx hb d_Q_member_200 (by decide) ?_
        exact hG _ (Option.some.inj h).symm _ _ _ hP hD hS (lv_sub hl [2, 3, 4, 5, 6, 7, 8, 9, 1, 0] rfl)
      · replace h := zz_t c_28 h
        refine lv_iconst (v := 1) hx hb d_Q_member_190 (by decide) ?_
        refine lv_goto (tgt := 195) hx hb d_Q_member_191 (by decide) ?_
        refine lv_istore (lv' := [(10, .int (1 : Int32)), (0, .ref (B 0)), (1, .int v1), (2, .int v2), (3, .int v3), (4, .long v4), (6, .int v6), (8, .int v8), (9, .int v9), (11, .int v11)]) hx hb d_Q_member_195 hl (by decide) rfl (fun ls hl => ?_)
        refine lv_iinc (v := (v11 + (1 : Int32))) (lv' := [(11, .int (v11 + (1 : Int32))), (10, .int (1 : Int32)), (0, .ref (B 0)), (1, .int v1), (2, .int v2), (3, .int v3), (4, .long v4), (6, .int v6), (8, .int v8), (9, .int v9)]) hx hb d_Q_member_197 hl (k := 9) rfl rfl (by decide) rfl (fun ls hl => ?_)
        refine lv_goto (tgt := 157) hx hb d_Q_member_200 (by decide) ?_
        exact hG _ (Option.some.inj h).symm _ _ _ hP hD hS (lv_sub hl [2, 3, 4, 5, 6, 7, 8, 9, 1, 0] rfl)

set_option maxRecDepth 100000 in
set_option maxHeartbeats 4000000 in
theorem lp_Q_member_L105 {z : zE} {B : Nat → Nat} {Rr : va_W} {p : Program} {l : Launch} {e : Env} {s : State} {m : MethodId} {args : Array Value} {below : List Frame} {meth : Method} {c : Code} {Q : State → Prop} {H0 : Heap} {A0 : Nat → Prop} (hM : zM z p s m args c b_Q_member 12 R_Q) (hA : ∀ q : Nat, H0.size ≤ q → A0 q) (n : Nat) (v1 : Int32) (v2 : Int32) (v3 : Int32) (v4 : Int64) (v6 : Int32) :
    ∀ (v8 : Int32) (v9 : Int32) (S : ZQ) (r : Nat × Int32 × Int32 × ZQ), fx_Q_member_L105 n v1 v2 v3 v4 v6 v8 v9 S = some r → (∀ (H : Heap) (locs : List Loc) (ls : Array Slot), va_P z.1 vwCl (qw z B r.2.2.2 ++ Rr) H → va_D A0 (qw z B r.2.2.2 ++ Rr) → va_S A0 H0 H locs → lv_has ls 12 [(0, .ref (B 0)), (1, .int v1), (2, .int v2), (3, .int v3), (4, .long v4), (6, .int v6), (8, .int r.2.1), (9, .int r.2.2.1)] → W p l e rm_Q_member s m args below meth c H locs 0 0 Q (F0 m r.1 ls [])) →
    ∀ (H : Heap) (locs : List Loc) (ls : Array Slot), va_P z.1 vwCl (qw z B S ++ Rr) H → va_D A0 (qw z B S ++ Rr) → va_S A0 H0 H locs → lv_has ls 12 [(0, .ref (B 0)), (1, .int v1), (2, .int v2), (3, .int v3), (4, .long v4), (6, .int v6), (8, .int v8), (9, .int v9)] → W p l e rm_Q_member s m args below meth c H locs 0 0 Q (F0 m 105 ls []) := by
  obtain ⟨hx, hb, hml, hown, hts, hK, hN⟩ := id hM
  intro v8 v9 S r h hE
  refine zz_loop (G := fun (st : Int32 × Int32 × ZQ) => ∀ (H : Heap) (locs : List Loc) (ls : Array Slot), va_P z.1 vwCl (qw z B st.2.2 ++ Rr) H → va_D A0 (qw z B st.2.2 ++ Rr) → va_S A0 H0 H locs → lv_has ls 12 [(0, .ref (B 0)), (1, .int v1), (2, .int v2), (3, .int v3), (4, .long v4), (6, .int v6), (8, .int st.1), (9, .int st.2.1)] → W p l e rm_Q_member s m args below meth c H locs 0 0 Q (F0 m 105 ls [])) (E := fun (r : Nat × Int32 × Int32 × ZQ) => ∀ (H : Heap) (locs : List Loc) (ls : Array Slot), va_P z.1 vwCl (qw z B r.2.2.2 ++ Rr) H → va_D A0 (qw z B r.2.2.2 ++ Rr) → va_S A0 H0 H locs → lv_has ls 12 [(0, .ref (B 0)), (1, .int v1), (2, .int v2), (3, .int v3), (4, .long v4), (6, .int v6), (8, .int r.2.1), (9, .int r.2.2.1)] → W p l e rm_Q_member s m args below meth c H locs 0 0 Q (F0 m r.1 ls [])) ?_ n (v8, v9, S) r h hE
  clear h hE r v8 v9 S
  rintro ⟨v8, v9, S⟩ o h hG hE H locs ls hP hD hS hl
  have h : st_Q_member_L105 n v1 v2 v3 v4 v6 v8 v9 S = some o := h
  have hl : lv_has ls 12 [(0, .ref (B 0)), (1, .int v1), (2, .int v2), (3, .int v3), (4, .long v4), (6, .int v6), (8, .int v8), (9, .int v9)] := hl
  have hP : va_P z.1 vwCl (qw z B S ++ Rr) H := hP
  have hD : va_D A0 (qw z B S ++ Rr) := hD
  have J152 : ∀ (k0 : Int32) (v8 : Int32) (v9 : Int32) (S : ZQ), jx_Q_member_L105_152 n k0 v1 v2 v3 v4 v6 v8 v9 S = some o → ∀ (H : Heap) (locs : List Loc) (ls : Array Slot), va_P z.1 vwCl (qw z B S ++ Rr) H → va_D A0 (qw z B S ++ Rr) → va_S A0 H0 H locs → lv_has ls 12 [(0, .ref (B 0)), (1, .int v1), (2, .int v2), (3, .int v3), (4, .long v4), (6, .int v6), (8, .int v8), (9, .int v9)] → W p l e rm_Q_member s m args below meth c H locs 0 0 Q (F0 m 152 ls [.int k0]) := by
    intro k0 v8 v9 S h H locs ls hP hD hS hl
    unfold jx_Q_member_L105_152 at h
    refine lv_istore (lv' := [(10, .int k0), (0, .ref (B 0)), (1, .int v1), (2, .int v2), (3, .int v3), (4, .long v4), (6, .int v6), (8, .int v8), (9, .int v9)]) hx hb d_Q_member_152 hl (by decide) rfl (fun ls hl => ?_)
    refine lv_iconst (v := 0) hx hb d_Q_member_154 (by decide) ?_
    refine lv_istore (lv' := [(11, .int (0 : Int32)), (10, .int k0), (0, .ref (B 0)), (1, .int v1), (2, .int v2), (3, .int v3), (4, .long v4), (6, .int v6), (8, .int v8), (9, .int v9)]) hx hb d_Q_member_155 hl (by decide) rfl (fun ls hl => ?_)
    replace h := zz_bL3 h
    obtain ⟨x_29, v10_29, v11_29, S_29, e_29, h⟩ := h
    refine lp_Q_member_L157 hM hA n v1 v2 v3 v4 v6 v8 v9 _ _ _ _ e_29 ?_ _ _ _ hP hD hS (lv_sub hl [2, 3, 4, 5, 6, 7, 8, 9, 1, 0] rfl)
    intro H locs ls hP hD hS hl
    have hl : lv_has ls 12 [(0, .ref (B 0)), (1, .int v1), (2, .int v2), (3, .int v3), (4, .long v4), (6, .int v6), (8, .int v8), (9, .int v9), (10, .int v10_29), (11, .int v11_29)] := hl
    have hP : va_P z.1 vwCl (qw z B S_29 ++ Rr) H := hP
    have hD : va_D A0 (qw z B S_29 ++ Rr) := hD
    replace h := zz_grd h
    obtain ⟨c_29, h⟩ := h
    subst c_29
    refine W.eq (g2 := F0 m 203 ls []) rfl ?_
    refine lv_iload hx hb d_Q_member_203 (lv_at hl 6 rfl) ?_
    refine lv_if_ne (tgt := 213) hx hb d_Q_member_205 (by decide) (fun c_30 => ?_) (fun c_30 => ?_)
    · replace h := zz_f c_30 h
      refine lv_iconst (v := 1) hx hb d_Q_member_213 (by decide) ?_
      refine lv_goto (tgt := 218) hx hb d_Q_member_214 (by decide) ?_
      refine lv_istore (lv' := [(8, .int (1 : Int32)), (0, .ref (B 0)), (1, .int v1), (2, .int v2), (3, .int v3), (4, .long v4), (6, .int v6), (9, .int v9), (10, .int v10_29), (11, .int v11_29)]) hx hb d_Q_member_218 hl (by decide) rfl (fun ls hl => ?_)
      refine lv_iinc (v := (v9 + (1 : Int32))) (lv' := [(9, .int (v9 + (1 : Int32))), (8, .int (1 : Int32)), (0, .ref (B 0)), (1, .int v1), (2, .int v2), (3, .int v3), (4, .long v4), (6, .int v6), (10, .int v10_29), (11, .int v11_29)]) hx hb d_Q_member_220 hl (k := 7) rfl rfl (by decide) rfl (fun ls hl => ?_)
      refine lv_goto (tgt := 105) hx hb d_Q_member_223 (by decide) ?_
      exact hG _ (Option.some.inj h).symm _ _ _ hP hD hS (lv_sub hl [2, 3, 4, 5, 6, 7, 1, 0] rfl)
    · replace h := zz_t c_30 h
      refine lv_iload hx hb d_Q_member_208 (lv_at hl 8 rfl) ?_
      refine lv_if_eq (tgt := 217) hx hb d_Q_member_210 (by decide) (fun c_31 => ?_) (fun c_31 => ?_)
      · replace h := zz_t c_31 h
        refine lv_iconst (v := 0) hx hb d_Q_member_217 (by decide) ?_
        refine lv_istore (lv' := [(8, .int (0 : Int32)), (0, .ref (B 0)), (1, .int v1), (2, .int v2), (3, .int v3), (4, .long v4), (6, .int v6), (9, .int v9), (10, .int v10_29), (11, .int v11_29)]) hx hb d_Q_member_218 hl (by decide) rfl (fun ls hl => ?_)
        refine lv_iinc (v := (v9 + (1 : Int32))) (lv' := [(9, .int (v9 + (1 : Int32))), (8, .int (0 : Int32)), (0, .ref (B 0)), (1, .int v1), (2, .int v2), (3, .int v3), (4, .long v4), (6, .int v6), (10, .int v10_29), (11, .int v11_29)]) hx hb d_Q_member_220 hl (k := 7) rfl rfl (by decide) rfl (fun ls hl => ?_)
        refine lv_goto (tgt := 105) hx hb d_Q_member_223 (by decide) ?_
        exact hG _ (Option.some.inj h).symm _ _ _ hP hD hS (lv_sub hl [2, 3, 4, 5, 6, 7, 1, 0] rfl)
      · replace h := zz_f c_31 h
        refine lv_iconst (v := 1) hx hb d_Q_member_213 (by decide) ?_
        refine lv_goto (tgt := 218) hx hb d_Q_member_214 (by decide) ?_
        refine lv_istore (lv' := [(8, .int (1 : Int32)), (0, .ref (B 0)), (1, .int v1), (2, .int v2), (3, .int v3), (4, .long v4), (6, .int v6), (9, .int v9), (10, .int v10_29), (11, .int v11_29)]) hx hb d_Q_member_218 hl (by decide) rfl (fun ls hl => ?_)
        refine lv_iinc (v := (v9 + (1 : Int32))) (lv' := [(9, .int (v9 + (1 : Int32))), (8, .int (1 : Int32)), (0, .ref (B 0)), (1, .int v1), (2, .int v2), (3, .int v3), (4, .long v4), (6, .int v6), (10, .int v10_29), (11, .int v11_29)]) hx hb d_Q_member_220 hl (k := 7) rfl rfl (by decide) rfl (fun ls hl => ?_)
        refine lv_goto (tgt := 105) hx hb d_Q_member_223 (by decide) ?_
        exact hG _ (Option.some.inj h).symm _ _ _ hP hD hS (lv_sub hl [2, 3, 4, 5, 6, 7, 1, 0] rfl)
  have J151 : ∀ (v8 : Int32) (v9 : Int32) (S : ZQ), jx_Q_member_L105_151 n v1 v2 v3 v4 v6 v8 v9 S = some o → ∀ (H : Heap) (locs : List Loc) (ls : Array Slot), va_P z.1 vwCl (qw z B S ++ Rr) H → va_D A0 (qw z B S ++ Rr) → va_S A0 H0 H locs → lv_has ls 12 [(0, .ref (B 0)), (1, .int v1), (2, .int v2), (3, .int v3), (4, .long v4), (6, .int v6), (8, .int v8), (9, .int v9)] → W p l e rm_Q_member s m args below meth c H locs 0 0 Q (F0 m 151 ls []) := by
    intro v8 v9 S h H locs ls hP hD hS hl
    unfold jx_Q_member_L105_151 at h
    refine lv_iconst (v := 0) hx hb d_Q_member_151 (by decide) ?_
    exact J152 _ _ _ _ h _ _ _ hP hD hS hl
  unfold st_Q_member_L105 at h
  refine lv_iload hx hb d_Q_member_105 (lv_at hl 7 rfl) ?_
  refine lv_aload_n hx hb d_Q_member_107 rfl (lv_at hl 0 rfl) ?_
  refine va_get (D := z.1) (ci := 5) (v := .int (qMe S)) (C := R_Q) (T := F_Q) (N := 28) hx hb hts i_Q hown hK hP 0 rfl rfl 6 (by decide) (hts _ wq_557) (fun _ h9 => h9) rfl d_Q_member_108 ?_
  refine lv_icmp_ge (tgt := 226) hx hb d_Q_member_111 (by decide) (fun c_17 => ?_) (fun c_17 => ?_)
  · replace h := zz_t c_17 h
    exact hE _ (Option.some.inj h).symm _ _ _ hP hD hS hl
  · replace h := zz_f c_17 h
    refine lv_aload_n hx hb d_Q_member_114 rfl (lv_at hl 0 rfl) ?_
    refine va_get (D := z.1) (ci := 5) (v := .ref (B 5)) (C := R_Q) (T := F_Q) (N := 28) hx hb hts i_Q hown hK hP 0 rfl rfl 7 (by decide) (hts _ wq_558) (fun _ h9 => h9) rfl d_Q_member_115 ?_
    refine lv_iload hx hb d_Q_member_118 (lv_at hl 7 rfl) ?_
    obtain ⟨c_18, h⟩ := zz_oob h
    refine va_iald hx hb hK hP 5 0 rfl rfl c_18 d_Q_member_120 ?_
    refine lv_iload_n hx hb d_Q_member_121 rfl (lv_at hl 1 rfl) ?_
    refine lv_icmp_ne (tgt := 151) hx hb d_Q_member_122 (by decide) (fun c_19 => ?_) (fun c_19 => ?_)
    · replace h := zz_f c_19 h
      exact J151 _ _ _ h _ _ _ hP hD hS hl
    · replace h := zz_t c_19 h
      refine lv_aload_n hx hb d_Q_member_125 rfl (lv_at hl 0 rfl) ?_
      refine va_get (D := z.1) (ci := 5) (v := .ref (B 6)) (C := R_Q) (T := F_Q) (N := 28) hx hb hts i_Q hown hK hP 0 rfl rfl 8 (by decide) (hts _ wq_559) (fun _ h9 => h9) rfl d_Q_member_126 ?_
      refine lv_iload hx hb d_Q_member_129 (lv_at hl 7 rfl) ?_
      obtain ⟨c_20, h⟩ := zz_oob h
      refine va_iald hx hb hK hP 6 0 rfl rfl c_20 d_Q_member_131 ?_
      refine lv_iload_n hx hb d_Q_member_132 rfl (lv_at hl 2 rfl) ?_
      refine lv_icmp_ne (tgt := 151) hx hb d_Q_member_133 (by decide) (fun c_21 => ?_) (fun c_21 => ?_)
      · replace h := zz_f c_21 h
        exact J151 _ _ _ h _ _ _ hP hD hS hl
      · replace h := zz_t c_21 h
        refine lv_aload_n hx hb d_Q_member_136 rfl (lv_at hl 0 rfl) ?_
        refine va_get (D := z.1) (ci := 5) (v := .ref (B 7)) (C := R_Q) (T := F_Q) (N := 28) hx hb hts i_Q hown hK hP 0 rfl rfl 9 (by decide) (hts _ wq_560) (fun _ h9 => h9) rfl d_Q_member_137 ?_
        refine lv_iload hx hb d_Q_member_140 (lv_at hl 7 rfl) ?_
        obtain ⟨c_22, h⟩ := zz_oob h
        refine va_iald hx hb hK hP 7 0 rfl rfl c_22 d_Q_member_142 ?_
        refine lv_iload_n hx hb d_Q_member_143 rfl (lv_at hl 3 rfl) ?_
        refine lv_icmp_ne (tgt := 151) hx hb d_Q_member_144 (by decide) (fun c_23 => ?_) (fun c_23 => ?_)
        · replace h := zz_f c_23 h
          exact J151 _ _ _ h _ _ _ hP hD hS hl
        · replace h := zz_t c_23 h
          refine lv_iconst (v := 1) hx hb d_Q_member_147 (by decide) ?_
          refine lv_goto (tgt := 152) hx hb d_Q_member_148 (by decide) ?_
          exact J152 _ _ _ _ h _ _ _ hP hD hS hl

set_option maxRecDepth 100000 in
set_option maxHeartbeats 4000000 in
theorem lp_Q_member_L291 {z : zE} {B : Nat → Nat} {Rr : va_W} {p : Program} {l : Launch} {e : Env} {s : State} {m : MethodId} {args : Array Value} {below : List Frame} {meth : Method} {c : Code} {Q : State → Prop} {H0 : Heap} {A0 : Nat → Prop} (hM : zM z p s m args c b_Q_member 12 R_Q) (hA : ∀ q : Nat, H0.size ≤ q → A0 q) (n : Nat) (v2 : Int32) (v3 : Int32) (v4 : Int64) (v6 : Int32) (v9 : Int32) :
    ∀ (v10 : Int32) (S : ZQ) (r : Nat × Int32 × ZQ), fx_Q_member_L291 n v2 v3 v4 v6 v9 v10 S = some r → (∀ (H : Heap) (locs : List Loc) (ls : Array Slot), va_P z.1 vwCl (qw z B r.2.2 ++ Rr) H → va_D A0 (qw z B r.2.2 ++ Rr) → va_S A0 H0 H locs → lv_has ls 12 [(0, .ref (B 0)), (2, .int v2), (3, .int v3), (4, .long v4), (6, .int v6), (9, .int v9), (10, .int r.2.1)] → W p l e rm_Q_member s m args below meth c H locs 0 0 Q (F0 m r.1 ls [])) →
    ∀ (H : Heap) (locs : List Loc) (ls : Array Slot), va_P z.1 vwCl (qw z B S ++ Rr) H → va_D A0 (qw z B S ++ Rr) → va_S A0 H0 H locs → lv_has ls 12 [(0, .ref (B 0)), (2, .int v2), (3, .int v3), (4, .long v4), (6, .int v6), (9, .int v9), (10, .int v10)] → W p l e rm_Q_member s m args below meth c H locs 0 0 Q (F0 m 291 ls []) := by
  obtain ⟨hx, hb, hml, hown, hts, hK, hN⟩ := id hM
  intro v10 S r h hE
  refine zz_loop (G := fun (st : Int32 × ZQ) => ∀ (H : Heap) (locs : List Loc) (ls : Array Slot), va_P z.1 vwCl (qw z B st.2 ++ Rr) H → va_D A0 (qw z B st.2 ++ Rr) → va_S A0 H0 H locs → lv_has ls 12 [(0, .ref (B 0)), (2, .int v2), (3, .int v3), (4, .long v4), (6, .int v6), (9, .int v9), (10, .int st.1)] → W p l e rm_Q_member s m args below meth c H locs 0 0 Q (F0 m 291 ls [])) (E := fun (r : Nat × Int32 × ZQ) => ∀ (H : Heap) (locs : List Loc) (ls : Array Slot), va_P z.1 vwCl (qw z B r.2.2 ++ Rr) H → va_D A0 (qw z B r.2.2 ++ Rr) → va_S A0 H0 H locs → lv_has ls 12 [(0, .ref (B 0)), (2, .int v2), (3, .int v3), (4, .long v4), (6, .int v6), (9, .int v9), (10, .int r.2.1)] → W p l e rm_Q_member s m args below meth c H locs 0 0 Q (F0 m r.1 ls [])) ?_ n (v10, S) r h hE
  clear h hE r v10 S
  rintro ⟨v10, S⟩ o h hG hE H locs ls hP hD hS hl
  have h : st_Q_member_L291 n v2 v3 v4 v6 v9 v10 S = some o := h
  have hl : lv_has ls 12 [(0, .ref (B 0)), (2, .int v2), (3, .int v3), (4, .long v4), (6, .int v6), (9, .int v9), (10, .int v10)] := hl
  have hP : va_P z.1 vwCl (qw z B S ++ Rr) H := hP
  have hD : va_D A0 (qw z B S ++ Rr) := hD
  unfold st_Q_member_L291 at h
  refine lv_iload hx hb d_Q_member_291 (lv_at hl 6 rfl) ?_
  refine lv_iload_n hx hb d_Q_member_293 rfl (lv_at hl 2 rfl) ?_
  refine lv_icmp_ge (tgt := 322) hx hb d_Q_member_294 (by decide) (fun c_43 => ?_) (fun c_43 => ?_)
  · replace h := zz_t c_43 h
    exact hE _ (Option.some.inj h).symm _ _ _ hP hD hS hl
  · replace h := zz_f c_43 h
    refine lv_aload_n hx hb d_Q_member_297 rfl (lv_at hl 0 rfl) ?_
    refine va_get (D := z.1) (ci := 5) (v := .ref (B 8)) (C := R_Q) (T := F_Q) (N := 28) hx hb hts i_Q hown hK hP 0 rfl rfl 10 (by decide) (hts _ wq_561) (fun _ h9 => h9) rfl d_Q_member_298 ?_
    refine lv_iconst (v := 4) hx hb d_Q_member_301 (by decide) ?_
    refine lv_iload hx hb d_Q_member_302 (lv_at hl 5 rfl) ?_
    refine lv_imul hx hb d_Q_member_304 ?_
    refine lv_iload hx hb d_Q_member_305 (lv_at hl 6 rfl) ?_
    refine lv_iadd hx hb d_Q_member_307 ?_
    refine lv_lload hx hb d_Q_member_308 (lv_at hl 3 rfl) ?_
    refine lv_iload hx hb d_Q_member_310 (lv_at hl 6 rfl) ?_
    obtain ⟨r_44, e_44, h⟩ := zz_bind1 h
    refine zz_goI (zz_runS (As := [.long v4, .int v10]) (rest := [.int (((4 : Int32) * v9) + v10), .ref (B 8)]) (k_Q_byteOf l z _ n _ _ _ e_44) ⟨hx, hb, hml, hown, hts⟩ (va_cwS 2 hts (zz_gS wq_680 wq_681 wq_6 wq_682) rfl rfl rfl (by decide +kernel) ⟨Nat.le_of_ble_eq_true rfl, Nat.le_of_ble_eq_true rfl⟩) hK hN hP hD rfl hl.1 rfl (Nat.le_of_ble_eq_true rfl) d_Q_member_312 ⟨Nat.le_of_ble_eq_true rfl, Nat.le_of_ble_eq_true rfl⟩) hD hS hA (fun H locs hP hD hS => ?_)
    obtain ⟨c_45, h⟩ := zz_oob h
    obtain ⟨S_46, e_46, h⟩ := zz_let h
    refine va_iast hx hb hK hP hD hS 8 0 rfl rfl c_45 d_Q_member_315 (fun H locs hP hD hS => ?_)
    have hP : va_P z.1 vwCl (qw z B S_46 ++ Rr) H := by rw [e_46]; exact hP
    have hD : va_D A0 (qw z B S_46 ++ Rr) := by rw [e_46]; exact hD
    refine lv_iinc (v := (v10 + (1 : Int32))) (lv' := [(10, .int (v10 + (1 : Int32))), (0, .ref (B 0)), (2, .int v2), (3, .int v3), (4, .long v4), (6, .int v6), (9, .int v9)]) hx hb d_Q_member_316 hl (k := 6) rfl rfl (by decide) rfl (fun ls hl => ?_)
    refine lv_goto (tgt := 291) hx hb d_Q_member_319 (by decide) ?_
    exact hG _ (Option.some.inj h).symm _ _ _ hP hD hS (lv_sub hl [1, 2, 3, 4, 5, 6, 0] rfl)

set_option maxRecDepth 100000 in
set_option maxHeartbeats 4000000 in
theorem k_Q_member (l : Launch) (z : zE) (B : Nat → Nat) (Rr : va_W) (n : Nat) (S : ZQ) (a1 : Int32) (a2 : Int32) (a3 : Int32) (a4 : Int64) (a6 : Int32) (r0 : Int32) (S' : ZQ) (h : fx_Q_member n S a1 a2 a3 a4 a6 = some (r0, S')) : zC z l y_Q_member w_Q_member rm_Q_member [.ref (B 0), .int a1, .int a2, .int a3, .long a4, .int a6] (qw z B S ++ Rr) (some (.int r0)) (qw z B S' ++ Rr) := by
  refine zz_of (by decide) (Nat.le_of_ble_eq_true rfl) ?_
  intro p e s m args below meth c A0 ls hM hr hlocks hA hP hD hl
  have hM : zM z p s m args c b_Q_member 12 R_Q := hM
  obtain ⟨hx, hb, hml, hown, hts, hK, hN⟩ := id hM
  have hS : va_S A0 s.heap s.heap [] := va_S.rf
  have hl : lv_has ls 12 [(0, .ref (B 0)), (1, .int a1), (2, .int a2), (3, .int a3), (4, .long a4), (6, .int a6)] := hl
  have J246 : ∀ (k0 : Int32) (v1 : Int32) (v2 : Int32) (v3 : Int32) (v4 : Int64) (v6 : Int32) (S : ZQ), jx_Q_member_246 n k0 v1 v2 v3 v4 v6 S = some (r0, S') → ∀ (H : Heap) (locs : List Loc) (ls : Array Slot), va_P z.1 vwCl (qw z B S ++ Rr) H → va_D A0 (qw z B S ++ Rr) → va_S A0 s.heap H locs → lv_has ls 12 [(0, .ref (B 0)), (1, .int v1), (2, .int v2), (3, .int v3), (4, .long v4), (6, .int v6)] → W p l e rm_Q_member s m args below meth c H locs 0 0 (zQ z below args s A0 (some (.int r0)) (qw z B S' ++ Rr)) (F0 m 246 ls [.int k0, .ref (B 0)]) := by
    intro k0 v1 v2 v3 v4 v6 S h H locs ls hP hD hS hl
    unfold jx_Q_member_246 at h
    obtain ⟨S_35, e_35, h⟩ := zz_let h
    refine va_put (D := z.1) (ci := 5) (v := .int k0) (ty := .int) (C := R_Q) (T := F_Q) (N := 28) hx hb hts i_Q ty_Q ty_Q_ok n_Q hown hK hP hD hS 0 rfl rfl 0 (by decide) (hts _ wq_551) (fun _ h9 => h9) rfl (by decide +kernel) rfl rfl (Nat.le_of_ble_eq_true rfl) d_Q_member_246 (fun H locs hP hD hS => ?_)
    have hP : va_P z.1 vwCl (qw z B S_35 ++ Rr) H := by rw [e_35]; exact hP
    have hD : va_D A0 (qw z B S_35 ++ Rr) := by rw [e_35]; exact hD
    refine lv_aload_n hx hb d_Q_member_249 rfl (lv_at hl 0 rfl) ?_
    refine va_get (D := z.1) (ci := 5) (v := .int (qTh S_35)) (C := R_Q) (T := F_Q) (N := 28) hx hb hts i_Q hown hK hP 0 rfl rfl 0 (by decide) (hts _ wq_551) (fun _ h9 => h9) rfl d_Q_member_250 ?_
    refine lv_if_le (tgt := 258) hx hb d_Q_member_253 (by decide) (fun c_36 => ?_) (fun c_36 => ?_)
    · replace h := zz_t c_36 h
      refine lv_aload_n hx hb d_Q_member_258 rfl (lv_at hl 0 rfl) ?_
      refine va_get (D := z.1) (ci := 5) (v := .int (qMe S_35)) (C := R_Q) (T := F_Q) (N := 28) hx hb hts i_Q hown hK hP 0 rfl rfl 6 (by decide) (hts _ wq_557) (fun _ h9 => h9) rfl d_Q_member_259 ?_
      refine lv_istore (lv' := [(9, .int (qMe S_35)), (0, .ref (B 0)), (1, .int v1), (2, .int v2), (3, .int v3), (4, .long v4), (6, .int v6)]) hx hb d_Q_member_262 hl (by decide) rfl (fun ls hl => ?_)
      refine lv_aload_n hx hb d_Q_member_264 rfl (lv_at hl 1 rfl) ?_
      refine va_get (D := z.1) (ci := 5) (v := .ref (B 5)) (C := R_Q) (T := F_Q) (N := 28) hx hb hts i_Q hown hK hP 0 rfl rfl 7 (by decide) (hts _ wq_558) (fun _ h9 => h9) rfl d_Q_member_265 ?_
      refine lv_iload hx hb d_Q_member_268 (lv_at hl 0 rfl) ?_
      refine lv_iload_n hx hb d_Q_member_270 rfl (lv_at hl 2 rfl) ?_
      obtain ⟨c_37, h⟩ := zz_oob h
      obtain ⟨S_38, e_38, h⟩ := zz_let h
      refine va_iast hx hb hK hP hD hS 5 0 rfl rfl c_37 d_Q_member_271 (fun H locs hP hD hS => ?_)
      have hP : va_P z.1 vwCl (qw z B S_38 ++ Rr) H := by rw [e_38]; exact hP
      have hD : va_D A0 (qw z B S_38 ++ Rr) := by rw [e_38]; exact hD
      refine lv_aload_n hx hb d_Q_member_272 rfl (lv_at hl 1 rfl) ?_
      refine va_get (D := z.1) (ci := 5) (v := .ref (B 6)) (C := R_Q) (T := F_Q) (N := 28) hx hb hts i_Q hown hK hP 0 rfl rfl 8 (by decide) (hts _ wq_559) (fun _ h9 => h9) rfl d_Q_member_273 ?_
      refine lv_iload hx hb d_Q_member_276 (lv_at hl 0 rfl) ?_
      refine lv_iload_n hx hb d_Q_member_278 rfl (lv_at hl 3 rfl) ?_
      obtain ⟨c_39, h⟩ := zz_oob h
      obtain ⟨S_40, e_40, h⟩ := zz_let h
      refine va_iast hx hb hK hP hD hS 6 0 rfl rfl c_39 d_Q_member_279 (fun H locs hP hD hS => ?_)
      have hP : va_P z.1 vwCl (qw z B S_40 ++ Rr) H := by rw [e_40]; exact hP
      have hD : va_D A0 (qw z B S_40 ++ Rr) := by rw [e_40]; exact hD
      refine lv_aload_n hx hb d_Q_member_280 rfl (lv_at hl 1 rfl) ?_
      refine va_get (D := z.1) (ci := 5) (v := .ref (B 7)) (C := R_Q) (T := F_Q) (N := 28) hx hb hts i_Q hown hK hP 0 rfl rfl 9 (by decide) (hts _ wq_560) (fun _ h9 => h9) rfl d_Q_member_281 ?_
      refine lv_iload hx hb d_Q_member_284 (lv_at hl 0 rfl) ?_
      refine lv_iload_n hx hb d_Q_member_286 rfl (lv_at hl 4 rfl) ?_
      obtain ⟨c_41, h⟩ := zz_oob h
      obtain ⟨S_42, e_42, h⟩ := zz_let h
      refine va_iast hx hb hK hP hD hS 7 0 rfl rfl c_41 d_Q_member_287 (fun H locs hP hD hS => ?_)
      have hP : va_P z.1 vwCl (qw z B S_42 ++ Rr) H := by rw [e_42]; exact hP
      have hD : va_D A0 (qw z B S_42 ++ Rr) := by rw [e_42]; exact hD
      refine lv_iconst (v := 0) hx hb d_Q_member_288 (by decide) ?_
      refine lv_istore (lv' := [(10, .int (0 : Int32)), (9, .int (qMe S_35)), (0, .ref (B 0)), (1, .int v1), (2, .int v2), (3, .int v3), (4, .long v4), (6, .int v6)]) hx hb d_Q_member_289 hl (by decide) rfl (fun ls hl => ?_)
      replace h := zz_bL2 h
      obtain ⟨x_47, v10_47, S_47, e_47, h⟩ := h
      refine lp_Q_member_L291 hM hA n v2 v3 v4 v6 (qMe S_35) _ _ _ e_47 ?_ _ _ _ hP hD hS (lv_sub hl [2, 4, 5, 6, 7, 1, 0] rfl)
      intro H locs ls hP hD hS hl
      have hl : lv_has ls 12 [(0, .ref (B 0)), (2, .int v2), (3, .int v3), (4, .long v4), (6, .int v6), (9, .int (qMe S_35)), (10, .int v10_47)] := hl
      have hP : va_P z.1 vwCl (qw z B S_47 ++ Rr) H := hP
      have hD : va_D A0 (qw z B S_47 ++ Rr) := hD
      replace h := zz_grd h
      obtain ⟨c_47, h⟩ := h
      subst c_47
      refine W.eq (g2 := F0 m 322 ls []) rfl ?_
      refine lv_aload_n hx hb d_Q_member_322 rfl (lv_at hl 0 rfl) ?_
      refine va_get (D := z.1) (ci := 5) (v := .ref (B 9)) (C := R_Q) (T := F_Q) (N := 28) hx hb hts i_Q hown hK hP 0 rfl rfl 11 (by decide) (hts _ wq_562) (fun _ h9 => h9) rfl d_Q_member_323 ?_
      refine lv_iload hx hb d_Q_member_326 (lv_at hl 5 rfl) ?_
      refine lv_iload hx hb d_Q_member_328 (lv_at hl 4 rfl) ?_
      obtain ⟨c_48, h⟩ := zz_oob h
      obtain ⟨S_49, e_49, h⟩ := zz_let h
      refine va_zast hx hb hK hP hD hS 9 1 rfl rfl c_48 d_Q_member_330 (fun H locs hP hD hS => ?_)
      have hP : va_P z.1 vwCl (qw z B S_49 ++ Rr) H := by rw [e_49]; exact hP
      have hD : va_D A0 (qw z B S_49 ++ Rr) := by rw [e_49]; exact hD
      refine lv_aload_n hx hb d_Q_member_331 rfl (lv_at hl 0 rfl) ?_
      refine lv_dup hx hb d_Q_member_332 rfl ?_
      refine va_get (D := z.1) (ci := 5) (v := .int (qMe S_49)) (C := R_Q) (T := F_Q) (N := 28) hx hb hts i_Q hown hK hP 0 rfl rfl 6 (by decide) (hts _ wq_557) (fun _ h9 => h9) rfl d_Q_member_333 ?_
      refine lv_iconst (v := 1) hx hb d_Q_member_336 (by decide) ?_
      refine lv_iadd hx hb d_Q_member_337 ?_
      obtain ⟨S_50, e_50, h⟩ := zz_let h
      refine va_put (D := z.1) (ci := 5) (v := .int ((qMe S_49) + (1 : Int32))) (ty := .int) (C := R_Q) (T := F_Q) (N := 28) hx hb hts i_Q ty_Q ty_Q_ok n_Q hown hK hP hD hS 0 rfl rfl 6 (by decide) (hts _ wq_557) (fun _ h9 => h9) rfl (by decide +kernel) rfl rfl (Nat.le_of_ble_eq_true rfl) d_Q_member_338 (fun H locs hP hD hS => ?_)
      have hP : va_P z.1 vwCl (qw z B S_50 ++ Rr) H := by rw [e_50]; exact hP
      have hD : va_D A0 (qw z B S_50 ++ Rr) := by rw [e_50]; exact hD
      refine lv_aload_n hx hb d_Q_member_341 rfl (lv_at hl 0 rfl) ?_
      refine lv_iload_n hx hb d_Q_member_342 rfl (lv_at hl 1 rfl) ?_
      obtain ⟨S_51, e_51, h⟩ := zz_bind1 h
      refine zz_goV (zz_runV (As := [.int v2]) (rest := []) (k_Q_letGo l z B Rr n _ _ _ e_51) ⟨hx, hb, hml, hown, hts⟩ (cwV 1 hts (zz_gV wq_684 wq_686 wp_23 wq_6 wq_687) rfl rfl rfl (by decide +kernel) ⟨Nat.le_of_ble_eq_true rfl, Nat.le_of_ble_eq_true rfl⟩) hK hN hP hD (va_recv hK hP (ci := 5) (q0 := 0) rfl rfl) rfl hl.1 rfl (Nat.le_of_ble_eq_true rfl) d_Q_member_343 ⟨Nat.le_of_ble_eq_true rfl, Nat.le_of_ble_eq_true rfl⟩) hD hS hA (fun H locs hP hD hS => ?_)
      refine lv_iload hx hb d_Q_member_346 (lv_at hl 5 rfl) ?_
      exact zz_iret (fun S => qw z B S ++ Rr) hx hb hr hlocks hP hD hS h d_Q_member_348
    · replace h := zz_f c_36 h
      refine lv_iconst (v := 0) hx hb d_Q_member_256 (by decide) ?_
      exact zz_iret (fun S => qw z B S ++ Rr) hx hb hr hlocks hP hD hS h d_Q_member_257
  have J241 : ∀ (v1 : Int32) (v2 : Int32) (v3 : Int32) (v4 : Int64) (v6 : Int32) (S : ZQ), jx_Q_member_241 n v1 v2 v3 v4 v6 S = some (r0, S') → ∀ (H : Heap) (locs : List Loc) (ls : Array Slot), va_P z.1 vwCl (qw z B S ++ Rr) H → va_D A0 (qw z B S ++ Rr) → va_S A0 s.heap H locs → lv_has ls 12 [(0, .ref (B 0)), (1, .int v1), (2, .int v2), (3, .int v3), (4, .long v4), (6, .int v6)] → W p l e rm_Q_member s m args below meth c H locs 0 0 (zQ z below args s A0 (some (.int r0)) (qw z B S' ++ Rr)) (F0 m 241 ls [.ref (B 0)]) := by
    intro v1 v2 v3 v4 v6 S h H locs ls hP hD hS hl
    unfold jx_Q_member_241 at h
    refine lv_iconst (v := 2) hx hb d_Q_member_241 (by decide) ?_
    refine lv_goto (tgt := 246) hx hb d_Q_member_242 (by decide) ?_
    exact J246 _ _ _ _ _ _ _ h _ _ _ hP hD hS hl
  have J87 : ∀ (k0 : Int32) (v1 : Int32) (v2 : Int32) (v3 : Int32) (v4 : Int64) (v6 : Int32) (S : ZQ), jx_Q_member_87 n k0 v1 v2 v3 v4 v6 S = some (r0, S') → ∀ (H : Heap) (locs : List Loc) (ls : Array Slot), va_P z.1 vwCl (qw z B S ++ Rr) H → va_D A0 (qw z B S ++ Rr) → va_S A0 s.heap H locs → lv_has ls 12 [(0, .ref (B 0)), (1, .int v1), (2, .int v2), (3, .int v3), (4, .long v4), (6, .int v6)] → W p l e rm_Q_member s m args below meth c H locs 0 0 (zQ z below args s A0 (some (.int r0)) (qw z B S' ++ Rr)) (F0 m 87 ls [.int k0, .ref (B 0)]) := by
    intro k0 v1 v2 v3 v4 v6 S h H locs ls hP hD hS hl
    unfold jx_Q_member_87 at h
    obtain ⟨S_15, e_15, h⟩ := zz_let h
    refine va_put (D := z.1) (ci := 5) (v := .int k0) (ty := .int) (C := R_Q) (T := F_Q) (N := 28) hx hb hts i_Q ty_Q ty_Q_ok n_Q hown hK hP hD hS 0 rfl rfl 0 (by decide) (hts _ wq_551) (fun _ h9 => h9) rfl (by decide +kernel) rfl rfl (Nat.le_of_ble_eq_true rfl) d_Q_member_87 (fun H locs hP hD hS => ?_)
    have hP : va_P z.1 vwCl (qw z B S_15 ++ Rr) H := by rw [e_15]; exact hP
    have hD : va_D A0 (qw z B S_15 ++ Rr) := by rw [e_15]; exact hD
    refine lv_aload_n hx hb d_Q_member_90 rfl (lv_at hl 0 rfl) ?_
    refine va_get (D := z.1) (ci := 5) (v := .int (qTh S_15)) (C := R_Q) (T := F_Q) (N := 28) hx hb hts i_Q hown hK hP 0 rfl rfl 0 (by decide) (hts _ wq_551) (fun _ h9 => h9) rfl d_Q_member_91 ?_
    refine lv_if_le (tgt := 99) hx hb d_Q_member_94 (by decide) (fun c_16 => ?_) (fun c_16 => ?_)
    · replace h := zz_t c_16 h
      refine lv_iconst (v := 0) hx hb d_Q_member_99 (by decide) ?_
      refine lv_istore (lv' := [(8, .int (0 : Int32)), (0, .ref (B 0)), (1, .int v1), (2, .int v2), (3, .int v3), (4, .long v4), (6, .int v6)]) hx hb d_Q_member_100 hl (by decide) rfl (fun ls hl => ?_)
      refine lv_iconst (v := 0) hx hb d_Q_member_102 (by decide) ?_
      refine lv_istore (lv' := [(9, .int (0 : Int32)), (8, .int (0 : Int32)), (0, .ref (B 0)), (1, .int v1), (2, .int v2), (3, .int v3), (4, .long v4), (6, .int v6)]) hx hb d_Q_member_103 hl (by decide) rfl (fun ls hl => ?_)
      replace h := zz_bL3 h
      obtain ⟨x_32, v8_32, v9_32, S_32, e_32, h⟩ := h
      refine lp_Q_member_L105 hM hA n v1 v2 v3 v4 v6 _ _ _ _ e_32 ?_ _ _ _ hP hD hS (lv_sub hl [2, 3, 4, 5, 6, 7, 1, 0] rfl)
      intro H locs ls hP hD hS hl
      have hl : lv_has ls 12 [(0, .ref (B 0)), (1, .int v1), (2, .int v2), (3, .int v3), (4, .long v4), (6, .int v6), (8, .int v8_32), (9, .int v9_32)] := hl
      have hP : va_P z.1 vwCl (qw z B S_32 ++ Rr) H := hP
      have hD : va_D A0 (qw z B S_32 ++ Rr) := hD
      replace h := zz_grd h
      obtain ⟨c_32, h⟩ := h
      subst c_32
      refine W.eq (g2 := F0 m 226 ls []) rfl ?_
      refine lv_aload_n hx hb d_Q_member_226 rfl (lv_at hl 0 rfl) ?_
      refine lv_iload hx hb d_Q_member_227 (lv_at hl 6 rfl) ?_
      refine lv_if_ne (tgt := 241) hx hb d_Q_member_229 (by decide) (fun c_33 => ?_) (fun c_33 => ?_)
      · replace h := zz_f c_33 h
        exact J241 _ _ _ _ _ _ h _ _ _ hP hD hS (lv_sub hl [0, 1, 2, 3, 4, 5] rfl)
      · replace h := zz_t c_33 h
        refine lv_aload_n hx hb d_Q_member_232 rfl (lv_at hl 0 rfl) ?_
        refine va_get (D := z.1) (ci := 5) (v := .int (qMe S_32)) (C := R_Q) (T := F_Q) (N := 28) hx hb hts i_Q hown hK hP 0 rfl rfl 6 (by decide) (hts _ wq_557) (fun _ h9 => h9) rfl d_Q_member_233 ?_
        refine lv_bipush (v := 80) hx hb d_Q_member_236 (by decide) ?_
        refine lv_icmp_ne (tgt := 245) hx hb d_Q_member_238 (by decide) (fun c_34 => ?_) (fun c_34 => ?_)
        · replace h := zz_f c_34 h
          refine lv_iconst (v := 0) hx hb d_Q_member_245 (by decide) ?_
          exact J246 _ _ _ _ _ _ _ h _ _ _ hP hD hS (lv_sub hl [0, 1, 2, 3, 4, 5] rfl)
        · replace h := zz_t c_34 h
          exact J241 _ _ _ _ _ _ h _ _ _ hP hD hS (lv_sub hl [0, 1, 2, 3, 4, 5] rfl)
    · replace h := zz_f c_16 h
      refine lv_iconst (v := 0) hx hb d_Q_member_97 (by decide) ?_
      exact zz_iret (fun S => qw z B S ++ Rr) hx hb hr hlocks hP hD hS h d_Q_member_98
  have J41 : ∀ (k0 : Int32) (v1 : Int32) (v2 : Int32) (v3 : Int32) (v4 : Int64) (v6 : Int32) (S : ZQ), jx_Q_member_41 n k0 v1 v2 v3 v4 v6 S = some (r0, S') → ∀ (H : Heap) (locs : List Loc) (ls : Array Slot), va_P z.1 vwCl (qw z B S ++ Rr) H → va_D A0 (qw z B S ++ Rr) → va_S A0 s.heap H locs → lv_has ls 12 [(0, .ref (B 0)), (1, .int v1), (2, .int v2), (3, .int v3), (4, .long v4), (6, .int v6)] → W p l e rm_Q_member s m args below meth c H locs 0 0 (zQ z below args s A0 (some (.int r0)) (qw z B S' ++ Rr)) (F0 m 41 ls [.int k0]) := by
    intro k0 v1 v2 v3 v4 v6 S h H locs ls hP hD hS hl
    unfold jx_Q_member_41 at h
    refine lv_istore (lv' := [(7, .int k0), (0, .ref (B 0)), (1, .int v1), (2, .int v2), (3, .int v3), (4, .long v4), (6, .int v6)]) hx hb d_Q_member_41 hl (by decide) rfl (fun ls hl => ?_)
    refine lv_iconst (v := 0) hx hb d_Q_member_43 (by decide) ?_
    refine lv_istore (lv' := [(8, .int (0 : Int32)), (7, .int k0), (0, .ref (B 0)), (1, .int v1), (2, .int v2), (3, .int v3), (4, .long v4), (6, .int v6)]) hx hb d_Q_member_44 hl (by decide) rfl (fun ls hl => ?_)
    replace h := zz_bL3 h
    obtain ⟨x_13, v7_13, v8_13, S_13, e_13, h⟩ := h
    refine lp_Q_member_L46 hM hA n v1 v2 v3 v4 v6 _ _ _ _ e_13 ?_ _ _ _ hP hD hS (lv_sub hl [2, 3, 4, 5, 6, 7, 1, 0] rfl)
    intro H locs ls hP hD hS hl
    have hl : lv_has ls 12 [(0, .ref (B 0)), (1, .int v1), (2, .int v2), (3, .int v3), (4, .long v4), (6, .int v6), (7, .int v7_13), (8, .int v8_13)] := hl
    have hP : va_P z.1 vwCl (qw z B S_13 ++ Rr) H := hP
    have hD : va_D A0 (qw z B S_13 ++ Rr) := hD
    replace h := zz_grd h
    obtain ⟨c_13, h⟩ := h
    subst c_13
    refine W.eq (g2 := F0 m 76 ls []) rfl ?_
    refine lv_aload_n hx hb d_Q_member_76 rfl (lv_at hl 0 rfl) ?_
    refine lv_iload hx hb d_Q_member_77 (lv_at hl 6 rfl) ?_
    refine lv_if_eq (tgt := 86) hx hb d_Q_member_79 (by decide) (fun c_14 => ?_) (fun c_14 => ?_)
    · replace h := zz_t c_14 h
      refine lv_iconst (v := 1) hx hb d_Q_member_86 (by decide) ?_
      exact J87 _ _ _ _ _ _ _ h _ _ _ hP hD hS (lv_sub hl [0, 1, 2, 3, 4, 5] rfl)
    · replace h := zz_f c_14 h
      refine lv_iconst (v := 0) hx hb d_Q_member_82 (by decide) ?_
      refine lv_goto (tgt := 87) hx hb d_Q_member_83 (by decide) ?_
      exact J87 _ _ _ _ _ _ _ h _ _ _ hP hD hS (lv_sub hl [0, 1, 2, 3, 4, 5] rfl)
  have J40 : ∀ (v1 : Int32) (v2 : Int32) (v3 : Int32) (v4 : Int64) (v6 : Int32) (S : ZQ), jx_Q_member_40 n v1 v2 v3 v4 v6 S = some (r0, S') → ∀ (H : Heap) (locs : List Loc) (ls : Array Slot), va_P z.1 vwCl (qw z B S ++ Rr) H → va_D A0 (qw z B S ++ Rr) → va_S A0 s.heap H locs → lv_has ls 12 [(0, .ref (B 0)), (1, .int v1), (2, .int v2), (3, .int v3), (4, .long v4), (6, .int v6)] → W p l e rm_Q_member s m args below meth c H locs 0 0 (zQ z below args s A0 (some (.int r0)) (qw z B S' ++ Rr)) (F0 m 40 ls []) := by
    intro v1 v2 v3 v4 v6 S h H locs ls hP hD hS hl
    unfold jx_Q_member_40 at h
    refine lv_iconst (v := 0) hx hb d_Q_member_40 (by decide) ?_
    exact J41 _ _ _ _ _ _ _ h _ _ _ hP hD hS hl
  have J36 : ∀ (v1 : Int32) (v2 : Int32) (v3 : Int32) (v4 : Int64) (v6 : Int32) (S : ZQ), jx_Q_member_36 n v1 v2 v3 v4 v6 S = some (r0, S') → ∀ (H : Heap) (locs : List Loc) (ls : Array Slot), va_P z.1 vwCl (qw z B S ++ Rr) H → va_D A0 (qw z B S ++ Rr) → va_S A0 s.heap H locs → lv_has ls 12 [(0, .ref (B 0)), (1, .int v1), (2, .int v2), (3, .int v3), (4, .long v4), (6, .int v6)] → W p l e rm_Q_member s m args below meth c H locs 0 0 (zQ z below args s A0 (some (.int r0)) (qw z B S' ++ Rr)) (F0 m 36 ls []) := by
    intro v1 v2 v3 v4 v6 S h H locs ls hP hD hS hl
    unfold jx_Q_member_36 at h
    refine lv_iconst (v := 1) hx hb d_Q_member_36 (by decide) ?_
    refine lv_goto (tgt := 41) hx hb d_Q_member_37 (by decide) ?_
    exact J41 _ _ _ _ _ _ _ h _ _ _ hP hD hS hl
  unfold fx_Q_member at h
  refine lv_aload_n hx hb d_Q_member_0 rfl (lv_at hl 0 rfl) ?_
  refine lv_iload_n hx hb d_Q_member_1 rfl (lv_at hl 1 rfl) ?_
  obtain ⟨r_1, S_1, e_1, h⟩ := zz_bind h
  refine zz_goI (zz_runV (As := [.int a1]) (rest := []) (k_Q_isOwn l z B Rr n _ _ _ _ e_1) ⟨hx, hb, hml, hown, hts⟩ (cwV 1 hts (zz_gV wq_644 wq_646 wp_18 wq_6 wq_647) rfl rfl rfl (by decide +kernel) ⟨Nat.le_of_ble_eq_true rfl, Nat.le_of_ble_eq_true rfl⟩) hK hN hP hD (va_recv hK hP (ci := 5) (q0 := 0) rfl rfl) rfl hl.1 rfl (Nat.le_of_ble_eq_true rfl) d_Q_member_2 ⟨Nat.le_of_ble_eq_true rfl, Nat.le_of_ble_eq_true rfl⟩) hD hS hA (fun H locs hP hD hS => ?_)
  refine lv_if_eq (tgt := 40) hx hb d_Q_member_5 (by decide) (fun c_2 => ?_) (fun c_2 => ?_)
  · replace h := zz_t c_2 h
    exact J40 _ _ _ _ _ _ h _ _ _ hP hD hS hl
  · replace h := zz_f c_2 h
    refine lv_iload_n hx hb d_Q_member_8 rfl (lv_at hl 2 rfl) ?_
    refine lv_if_lt (tgt := 40) hx hb d_Q_member_9 (by decide) (fun c_3 => ?_) (fun c_3 => ?_)
    · replace h := zz_t c_3 h
      exact J40 _ _ _ _ _ _ h _ _ _ hP hD hS hl
    · replace h := zz_f c_3 h
      refine lv_iload_n hx hb d_Q_member_12 rfl (lv_at hl 2 rfl) ?_
      refine lv_bipush (v := 10) hx hb d_Q_member_13 (by decide) ?_
      refine lv_icmp_ge (tgt := 40) hx hb d_Q_member_15 (by decide) (fun c_4 => ?_) (fun c_4 => ?_)
      · replace h := zz_t c_4 h
        exact J40 _ _ _ _ _ _ h _ _ _ hP hD hS hl
      · replace h := zz_f c_4 h
        refine lv_iload_n hx hb d_Q_member_18 rfl (lv_at hl 3 rfl) ?_
        refine lv_if_lt (tgt := 40) hx hb d_Q_member_19 (by decide) (fun c_5 => ?_) (fun c_5 => ?_)
        · replace h := zz_t c_5 h
          exact J40 _ _ _ _ _ _ h _ _ _ hP hD hS hl
        · replace h := zz_f c_5 h
          refine lv_iload_n hx hb d_Q_member_22 rfl (lv_at hl 3 rfl) ?_
          refine lv_iconst (v := 5) hx hb d_Q_member_23 (by decide) ?_
          refine lv_icmp_ge (tgt := 40) hx hb d_Q_member_24 (by decide) (fun c_6 => ?_) (fun c_6 => ?_)
          · replace h := zz_t c_6 h
            exact J40 _ _ _ _ _ _ h _ _ _ hP hD hS hl
          · replace h := zz_f c_6 h
            refine lv_iload_n hx hb d_Q_member_27 rfl (lv_at hl 3 rfl) ?_
            refine lv_if_gt (tgt := 36) hx hb d_Q_member_28 (by decide) (fun c_7 => ?_) (fun c_7 => ?_)
            · replace h := zz_t c_7 h
              exact J36 _ _ _ _ _ _ h _ _ _ hP hD hS hl
            · replace h := zz_f c_7 h
              refine lv_iload hx hb d_Q_member_31 (lv_at hl 5 rfl) ?_
              refine lv_if_ne (tgt := 40) hx hb d_Q_member_33 (by decide) (fun c_8 => ?_) (fun c_8 => ?_)
              · replace h := zz_f c_8 h
                exact J40 _ _ _ _ _ _ h _ _ _ hP hD hS hl
              · replace h := zz_t c_8 h
                exact J36 _ _ _ _ _ _ h _ _ _ hP hD hS hl

abbrev b_Q_stand : ByteArray := prog_7_method_17_code
abbrev y_Q_stand : MethodName := ⟨"MemberChooserModel", "stand", "(I)Z"⟩
abbrev w_Q_stand : List Cond := Cond.code y_Q_stand b_Q_stand 3 (some .boolean) :: zTb
theorem d_Q_stand_0 : decode b_Q_stand 0 = .ok (.iconst 0, 1) := by decide +kernel
theorem d_Q_stand_1 : decode b_Q_stand 1 = .ok (.istore_n 2, 1) := by decide +kernel
theorem d_Q_stand_2 : decode b_Q_stand 2 = .ok (.iload_n 2, 1) := by decide +kernel
theorem d_Q_stand_3 : decode b_Q_stand 3 = .ok (.aload_n 0, 1) := by decide +kernel
theorem d_Q_stand_4 : decode b_Q_stand 4 = .ok (.getfield 114, 3) := by decide +kernel
theorem d_Q_stand_7 : decode b_Q_stand 7 = .ok (.if_icmp .ge 21, 3) := by decide +kernel
theorem d_Q_stand_10 : decode b_Q_stand 10 = .ok (.aload_n 0, 1) := by decide +kernel
theorem d_Q_stand_11 : decode b_Q_stand 11 = .ok (.getfield 58, 3) := by decide +kernel
theorem d_Q_stand_14 : decode b_Q_stand 14 = .ok (.iload_n 2, 1) := by decide +kernel
theorem d_Q_stand_15 : decode b_Q_stand 15 = .ok (.iaload, 1) := by decide +kernel
theorem d_Q_stand_16 : decode b_Q_stand 16 = .ok (.iload_n 1, 1) := by decide +kernel
theorem d_Q_stand_17 : decode b_Q_stand 17 = .ok (.if_icmp .ne 5, 3) := by decide +kernel
theorem d_Q_stand_20 : decode b_Q_stand 20 = .ok (.iconst 0, 1) := by decide +kernel
theorem d_Q_stand_21 : decode b_Q_stand 21 = .ok (.ireturn, 1) := by decide +kernel
theorem d_Q_stand_22 : decode b_Q_stand 22 = .ok (.iinc 2 1, 3) := by decide +kernel
theorem d_Q_stand_25 : decode b_Q_stand 25 = .ok (.goto (-23), 3) := by decide +kernel
theorem d_Q_stand_28 : decode b_Q_stand 28 = .ok (.aload_n 0, 1) := by decide +kernel
theorem d_Q_stand_29 : decode b_Q_stand 29 = .ok (.getfield 58, 3) := by decide +kernel
theorem d_Q_stand_32 : decode b_Q_stand 32 = .ok (.aload_n 0, 1) := by decide +kernel
theorem d_Q_stand_33 : decode b_Q_stand 33 = .ok (.getfield 114, 3) := by decide +kernel
theorem d_Q_stand_36 : decode b_Q_stand 36 = .ok (.iload_n 1, 1) := by decide +kernel
theorem d_Q_stand_37 : decode b_Q_stand 37 = .ok (.iastore, 1) := by decide +kernel
theorem d_Q_stand_38 : decode b_Q_stand 38 = .ok (.aload_n 0, 1) := by decide +kernel
theorem d_Q_stand_39 : decode b_Q_stand 39 = .ok (.dup, 1) := by decide +kernel
theorem d_Q_stand_40 : decode b_Q_stand 40 = .ok (.getfield 114, 3) := by decide +kernel
theorem d_Q_stand_43 : decode b_Q_stand 43 = .ok (.iconst 1, 1) := by decide +kernel
theorem d_Q_stand_44 : decode b_Q_stand 44 = .ok (.iadd, 1) := by decide +kernel
theorem d_Q_stand_45 : decode b_Q_stand 45 = .ok (.putfield 114, 3) := by decide +kernel
theorem d_Q_stand_48 : decode b_Q_stand 48 = .ok (.iconst 1, 1) := by decide +kernel
theorem d_Q_stand_49 : decode b_Q_stand 49 = .ok (.ireturn, 1) := by decide +kernel
abbrev rm_Q_stand : Room := { frames := 0, cells := 0, slots := 0, locals := 0 }
def st_Q_stand_L2 (n : Nat) (v1 : Int32) (v2 : Int32) (S : ZQ) : Option ((Int32 × ZQ) ⊕ (Nat × Int32 × ZQ)) :=
  (if (qLm S) ≤ v2 then
  some (.inr (28, v2, S))
  else
  (if zoob v2 32 then none else
    (if ((qLi S) v2.toNatClampNeg) = v1 then
    some (.inr (20, v2, S))
    else
    some (.inl ((v2 + (1 : Int32)), S)))))

def fx_Q_stand_L2 (n : Nat) (v1 : Int32) (v2 : Int32) (S : ZQ) : Option (Nat × Int32 × ZQ) := zloop (fun (st : Int32 × ZQ) => st_Q_stand_L2 n v1 st.1 st.2) n (v2, S)

def fx_Q_stand (n : Nat) (S : ZQ) (a1 : Int32) : Option (Int32 × ZQ) :=
  zbL2 (fx_Q_stand_L2 n a1 (0 : Int32) S) (fun x_4 v2_4 S_4 =>
  if x_4 = 20 then
  some ((0 : Int32), S_4)
  else if x_4 = 28 then
  (if zoob (qLm S_4) 32 then none else
  zlet (qLi' S_4 (upd (qLi S_4) (qLm S_4).toNatClampNeg a1)) (fun S_6 =>
  zlet (qLm' S_6 ((qLm S_6) + (1 : Int32))) (fun S_7 =>
  some ((1 : Int32), S_7))))
  else none)

set_option maxRecDepth 100000 in
set_option maxHeartbeats 4000000 in
theorem lp_Q_stand_L2 {z : zE} {B : Nat → Nat} {Rr : va_W} {p : Program} {l : Launch} {e : Env} {s : State} {m : MethodId} {args : Array Value} {below : List Frame} {meth : Method} {c : Code} {Q : State → Prop} {H0 : Heap} {A0 : Nat → Prop} (hM : zM z p s m args c b_Q_stand 3 R_Q) (hA : ∀ q : Nat, H0.size ≤ q → A0 q) (n : Nat) (v1 : Int32) :
    ∀ (v2 : Int32) (S : ZQ) (r : Nat × Int32 × ZQ), fx_Q_stand_L2 n v1 v2 S = some r → (∀ (H : Heap) (locs : List Loc) (ls : Array Slot), va_P z.1 vwCl (qw z B r.2.2 ++ Rr) H → va_D A0 (qw z B r.2.2 ++ Rr) → va_S A0 H0 H locs → lv_has ls 3 [(0, .ref (B 0)), (1, .int v1), (2, .int r.2.1)] → W p l e rm_Q_stand s m args below meth c H locs 0 0 Q (F0 m r.1 ls [])) →
    ∀ (H : Heap) (locs : List Loc) (ls : Array Slot), va_P z.1 vwCl (qw z B S ++ Rr) H → va_D A0 (qw z B S ++ Rr) → va_S A0 H0 H locs → lv_has ls 3 [(0, .ref (B 0)), (1, .int v1), (2, .int v2)] → W p l e rm_Q_stand s m args below meth c H locs 0 0 Q (F0 m 2 ls []) := by
  obtain ⟨hx, hb, hml, hown, hts, hK, hN⟩ := id hM
  intro v2 S r h hE
  refine zz_loop (G := fun (st : Int32 × ZQ) => ∀ (H : Heap) (locs : List Loc) (ls : Array Slot), va_P z.1 vwCl (qw z B st.2 ++ Rr) H → va_D A0 (qw z B st.2 ++ Rr) → va_S A0 H0 H locs → lv_has ls 3 [(0, .ref (B 0)), (1, .int v1), (2, .int st.1)] → W p l e rm_Q_stand s m args below meth c H locs 0 0 Q (F0 m 2 ls [])) (E := fun (r : Nat × Int32 × ZQ) => ∀ (H : Heap) (locs : List Loc) (ls : Array Slot), va_P z.1 vwCl (qw z B r.2.2 ++ Rr) H → va_D A0 (qw z B r.2.2 ++ Rr) → va_S A0 H0 H locs → lv_has ls 3 [(0, .ref (B 0)), (1, .int v1), (2, .int r.2.1)] → W p l e rm_Q_stand s m args below meth c H locs 0 0 Q (F0 m r.1 ls [])) ?_ n (v2, S) r h hE
  clear h hE r v2 S
  rintro ⟨v2, S⟩ o h hG hE H locs ls hP hD hS hl
  have h : st_Q_stand_L2 n v1 v2 S = some o := h
  have hl : lv_has ls 3 [(0, .ref (B 0)), (1, .int v1), (2, .int v2)] := hl
  have hP : va_P z.1 vwCl (qw z B S ++ Rr) H := hP
  have hD : va_D A0 (qw z B S ++ Rr) := hD
  unfold st_Q_stand_L2 at h
  refine lv_iload_n hx hb d_Q_stand_2 rfl (lv_at hl 2 rfl) ?_
  refine lv_aload_n hx hb d_Q_stand_3 rfl (lv_at hl 0 rfl) ?_
  refine va_get (D := z.1) (ci := 5) (v := .int (qLm S)) (C := R_Q) (T := F_Q) (N := 28) hx hb hts i_Q hown hK hP 0 rfl rfl 22 (by decide) (hts _ wq_573) (fun _ h9 => h9) rfl d_Q_stand_4 ?_
  refine lv_icmp_ge (tgt := 28) hx hb d_Q_stand_7 (by decide) (fun c_1 => ?_) (fun c_1 => ?_)
  · replace h := zz_t c_1 h
    exact hE _ (Option.some.inj h).symm _ _ _ hP hD hS hl
  · replace h := zz_f c_1 h
    refine lv_aload_n hx hb d_Q_stand_10 rfl (lv_at hl 0 rfl) ?_
    refine va_get (D := z.1) (ci := 5) (v := .ref (B 15)) (C := R_Q) (T := F_Q) (N := 28) hx hb hts i_Q hown hK hP 0 rfl rfl 21 (by decide) (hts _ wq_572) (fun _ h9 => h9) rfl d_Q_stand_11 ?_
    refine lv_iload_n hx hb d_Q_stand_14 rfl (lv_at hl 2 rfl) ?_
    obtain ⟨c_2, h⟩ := zz_oob h
    refine va_iald hx hb hK hP 15 0 rfl rfl c_2 d_Q_stand_15 ?_
    refine lv_iload_n hx hb d_Q_stand_16 rfl (lv_at hl 1 rfl) ?_
    refine lv_icmp_ne (tgt := 22) hx hb d_Q_stand_17 (by decide) (fun c_3 => ?_) (fun c_3 => ?_)
    · replace h := zz_f c_3 h
      refine lv_iinc (v := (v2 + (1 : Int32))) (lv' := [(2, .int (v2 + (1 : Int32))), (0, .ref (B 0)), (1, .int v1)]) hx hb d_Q_stand_22 hl (k := 2) rfl rfl (by decide) rfl (fun ls hl => ?_)
      refine lv_goto (tgt := 2) hx hb d_Q_stand_25 (by decide) ?_
      exact hG _ (Option.some.inj h).symm _ _ _ hP hD hS (lv_sub hl [1, 2, 0] rfl)
    · replace h := zz_t c_3 h
      exact hE _ (Option.some.inj h).symm _ _ _ hP hD hS hl

set_option maxRecDepth 100000 in
set_option maxHeartbeats 4000000 in
theorem k_Q_stand (l : Launch) (z : zE) (B : Nat → Nat) (Rr : va_W) (n : Nat) (S : ZQ) (a1 : Int32) (r0 : Int32) (S' : ZQ) (h : fx_Q_stand n S a1 = some (r0, S')) : zC z l y_Q_stand w_Q_stand rm_Q_stand [.ref (B 0), .int a1] (qw z B S ++ Rr) (some (.int r0)) (qw z B S' ++ Rr) := by
  refine zz_of (by decide) (Nat.le_of_ble_eq_true rfl) ?_
  intro p e s m args below meth c A0 ls hM hr hlocks hA hP hD hl
  have hM : zM z p s m args c b_Q_stand 3 R_Q := hM
  obtain ⟨hx, hb, hml, hown, hts, hK, hN⟩ := id hM
  have hS : va_S A0 s.heap s.heap [] := va_S.rf
  have hl : lv_has ls 3 [(0, .ref (B 0)), (1, .int a1)] := hl
  unfold fx_Q_stand at h
  refine lv_iconst (v := 0) hx hb d_Q_stand_0 (by decide) ?_
  refine lv_istore_n (lv' := [(2, .int (0 : Int32)), (0, .ref (B 0)), (1, .int a1)]) hx hb d_Q_stand_1 rfl hl (by decide) rfl (fun ls hl => ?_)
  replace h := zz_bL2 h
  obtain ⟨x_4, v2_4, S_4, e_4, h⟩ := h
  refine lp_Q_stand_L2 hM hA n a1 _ _ _ e_4 ?_ _ _ _ hP hD hS (lv_sub hl [1, 2, 0] rfl)
  intro H locs ls hP hD hS hl
  have hl : lv_has ls 3 [(0, .ref (B 0)), (1, .int a1), (2, .int v2_4)] := hl
  have hP : va_P z.1 vwCl (qw z B S_4 ++ Rr) H := hP
  have hD : va_D A0 (qw z B S_4 ++ Rr) := hD
  by_cases c_4 : x_4 = 20
  · replace h := zz_t c_4 h
    subst c_4
    refine W.eq (g2 := F0 m 20 ls []) rfl ?_
    refine lv_iconst (v := 0) hx hb d_Q_stand_20 (by decide) ?_
    exact zz_zret (fun S => qw z B S ++ Rr) hx hb hr hlocks hP hD hS rfl h d_Q_stand_21
  replace h := zz_f c_4 h
  replace h := zz_grd h
  obtain ⟨c_4, h⟩ := h
  subst c_4
  refine W.eq (g2 := F0 m 28 ls []) rfl ?_
  refine lv_aload_n hx hb d_Q_stand_28 rfl (lv_at hl 0 rfl) ?_
  refine va_get (D := z.1) (ci := 5) (v := .ref (B 15)) (C := R_Q) (T := F_Q) (N := 28) hx hb hts i_Q hown hK hP 0 rfl rfl 21 (by decide) (hts _ wq_572) (fun _ h9 => h9) rfl d_Q_stand_29 ?_
  refine lv_aload_n hx hb d_Q_stand_32 rfl (lv_at hl 0 rfl) ?_
  refine va_get (D := z.1) (ci := 5) (v := .int (qLm S_4)) (C := R_Q) (T := F_Q) (N := 28) hx hb hts i_Q hown hK hP 0 rfl rfl 22 (by decide) (hts _ wq_573) (fun _ h9 => h9) rfl d_Q_stand_33 ?_
  refine lv_iload_n hx hb d_Q_stand_36 rfl (lv_at hl 1 rfl) ?_
  obtain ⟨c_5, h⟩ := zz_oob h
  obtain ⟨S_6, e_6, h⟩ := zz_let h
  refine va_iast hx hb hK hP hD hS 15 0 rfl rfl c_5 d_Q_stand_37 (fun H locs hP hD hS => ?_)
  have hP : va_P z.1 vwCl (qw z B S_6 ++ Rr) H := by rw [e_6]; exact hP
  have hD : va_D A0 (qw z B S_6 ++ Rr) := by rw [e_6]; exact hD
  refine lv_aload_n hx hb d_Q_stand_38 rfl (lv_at hl 0 rfl) ?_
  refine lv_dup hx hb d_Q_stand_39 rfl ?_
  refine va_get (D := z.1) (ci := 5) (v := .int (qLm S_6)) (C := R_Q) (T := F_Q) (N := 28) hx hb hts i_Q hown hK hP 0 rfl rfl 22 (by decide) (hts _ wq_573) (fun _ h9 => h9) rfl d_Q_stand_40 ?_
  refine lv_iconst (v := 1) hx hb d_Q_stand_43 (by decide) ?_
  refine lv_iadd hx hb d_Q_stand_44 ?_
  obtain ⟨S_7, e_7, h⟩ := zz_let h
  refine va_put (D := z.1) (ci := 5) (v := .int ((qLm S_6) + (1 : Int32))) (ty := .int) (C := R_Q) (T := F_Q) (N := 28) hx hb hts i_Q ty_Q ty_Q_ok n_Q hown hK hP hD hS 0 rfl rfl 22 (by decide) (hts _ wq_573) (fun _ h9 => h9) rfl (by decide +kernel) rfl rfl (Nat.le_of_ble_eq_true rfl) d_Q_stand_45 (fun H locs hP hD hS => ?_)
  have hP : va_P z.1 vwCl (qw z B S_7 ++ Rr) H := by rw [e_7]; exact hP
  have hD : va_D A0 (qw z B S_7 ++ Rr) := by rw [e_7]; exact hD
  refine lv_iconst (v := 1) hx hb d_Q_stand_48 (by decide) ?_
  exact zz_zret (fun S => qw z B S ++ Rr) hx hb hr hlocks hP hD hS rfl h d_Q_stand_49

