/-! Constructors, by their instructions. -/
theorem dX12_init_0 : decode cX12_init 0 = .ok (.aload_n 0, 1) := by decide +kernel
theorem dX12_init_1 : decode cX12_init 1 = .ok (.invokespecial 1, 3) := by decide +kernel
theorem dX12_init_4 : decode cX12_init 4 = .ok (.aload_n 0, 1) := by decide +kernel
theorem dX12_init_5 : decode cX12_init 5 = .ok (.sipush 620, 3) := by decide +kernel
theorem dX12_init_8 : decode cX12_init 8 = .ok (.newarray .long, 2) := by decide +kernel
theorem dX12_init_10 : decode cX12_init 10 = .ok (.putfield 7, 3) := by decide +kernel
theorem dX12_init_13 : decode cX12_init 13 = .ok (.aload_n 0, 1) := by decide +kernel
theorem dX12_init_14 : decode cX12_init 14 = .ok (.sipush 620, 3) := by decide +kernel
theorem dX12_init_17 : decode cX12_init 17 = .ok (.newarray .long, 2) := by decide +kernel
theorem dX12_init_19 : decode cX12_init 19 = .ok (.putfield 13, 3) := by decide +kernel
theorem dX12_init_22 : decode cX12_init 22 = .ok (.aload_n 0, 1) := by decide +kernel
theorem dX12_init_23 : decode cX12_init 23 = .ok (.sipush 620, 3) := by decide +kernel
theorem dX12_init_26 : decode cX12_init 26 = .ok (.newarray .long, 2) := by decide +kernel
theorem dX12_init_28 : decode cX12_init 28 = .ok (.putfield 16, 3) := by decide +kernel
theorem dX12_init_31 : decode cX12_init 31 = .ok (.aload_n 0, 1) := by decide +kernel
theorem dX12_init_32 : decode cX12_init 32 = .ok (.sipush 620, 3) := by decide +kernel
theorem dX12_init_35 : decode cX12_init 35 = .ok (.newarray .long, 2) := by decide +kernel
theorem dX12_init_37 : decode cX12_init 37 = .ok (.putfield 19, 3) := by decide +kernel
theorem dX12_init_40 : decode cX12_init 40 = .ok (.aload_n 0, 1) := by decide +kernel
theorem dX12_init_41 : decode cX12_init 41 = .ok (.sipush 620, 3) := by decide +kernel
theorem dX12_init_44 : decode cX12_init 44 = .ok (.newarray .long, 2) := by decide +kernel
theorem dX12_init_46 : decode cX12_init 46 = .ok (.putfield 22, 3) := by decide +kernel
theorem dX12_init_49 : decode cX12_init 49 = .ok (.aload_n 0, 1) := by decide +kernel
theorem dX12_init_50 : decode cX12_init 50 = .ok (.iconst 2, 1) := by decide +kernel
theorem dX12_init_51 : decode cX12_init 51 = .ok (.newarray .boolean, 2) := by decide +kernel
theorem dX12_init_53 : decode cX12_init 53 = .ok (.putfield 25, 3) := by decide +kernel
theorem dX12_init_56 : decode cX12_init 56 = .ok (.aload_n 0, 1) := by decide +kernel
theorem dX12_init_57 : decode cX12_init 57 = .ok (.sipush 130, 3) := by decide +kernel
theorem dX12_init_60 : decode cX12_init 60 = .ok (.newarray .long, 2) := by decide +kernel
theorem dX12_init_62 : decode cX12_init 62 = .ok (.putfield 29, 3) := by decide +kernel
theorem dX12_init_65 : decode cX12_init 65 = .ok (.aload_n 0, 1) := by decide +kernel
theorem dX12_init_66 : decode cX12_init 66 = .ok (.sipush 130, 3) := by decide +kernel
theorem dX12_init_69 : decode cX12_init 69 = .ok (.newarray .int, 2) := by decide +kernel
theorem dX12_init_71 : decode cX12_init 71 = .ok (.putfield 32, 3) := by decide +kernel
theorem dX12_init_74 : decode cX12_init 74 = .ok (.aload_n 0, 1) := by decide +kernel
theorem dX12_init_75 : decode cX12_init 75 = .ok (.bipush 12, 2) := by decide +kernel
theorem dX12_init_77 : decode cX12_init 77 = .ok (.newarray .boolean, 2) := by decide +kernel
theorem dX12_init_79 : decode cX12_init 79 = .ok (.putfield 36, 3) := by decide +kernel
theorem dX12_init_82 : decode cX12_init 82 = .ok (.aload_n 0, 1) := by decide +kernel
theorem dX12_init_83 : decode cX12_init 83 = .ok (.bipush 16, 2) := by decide +kernel
theorem dX12_init_85 : decode cX12_init 85 = .ok (.newarray .int, 2) := by decide +kernel
theorem dX12_init_87 : decode cX12_init 87 = .ok (.putfield 39, 3) := by decide +kernel
theorem dX12_init_90 : decode cX12_init 90 = .ok (.aload_n 0, 1) := by decide +kernel
theorem dX12_init_91 : decode cX12_init 91 = .ok (.bipush 16, 2) := by decide +kernel
theorem dX12_init_93 : decode cX12_init 93 = .ok (.newarray .int, 2) := by decide +kernel
theorem dX12_init_95 : decode cX12_init 95 = .ok (.putfield 42, 3) := by decide +kernel
theorem dX12_init_98 : decode cX12_init 98 = .ok (.aload_n 0, 1) := by decide +kernel
theorem dX12_init_99 : decode cX12_init 99 = .ok (.bipush 12, 2) := by decide +kernel
theorem dX12_init_101 : decode cX12_init 101 = .ok (.newarray .long, 2) := by decide +kernel
theorem dX12_init_103 : decode cX12_init 103 = .ok (.putfield 45, 3) := by decide +kernel
theorem dX12_init_106 : decode cX12_init 106 = .ok (.aload_n 0, 1) := by decide +kernel
theorem dX12_init_107 : decode cX12_init 107 = .ok (.bipush 12, 2) := by decide +kernel
theorem dX12_init_109 : decode cX12_init 109 = .ok (.newarray .long, 2) := by decide +kernel
theorem dX12_init_111 : decode cX12_init 111 = .ok (.putfield 48, 3) := by decide +kernel
theorem dX12_init_114 : decode cX12_init 114 = .ok (.aload_n 0, 1) := by decide +kernel
theorem dX12_init_115 : decode cX12_init 115 = .ok (.bipush 12, 2) := by decide +kernel
theorem dX12_init_117 : decode cX12_init 117 = .ok (.newarray .long, 2) := by decide +kernel
theorem dX12_init_119 : decode cX12_init 119 = .ok (.putfield 51, 3) := by decide +kernel
theorem dX12_init_122 : decode cX12_init 122 = .ok (.aload_n 0, 1) := by decide +kernel
theorem dX12_init_123 : decode cX12_init 123 = .ok (.bipush 16, 2) := by decide +kernel
theorem dX12_init_125 : decode cX12_init 125 = .ok (.newarray .boolean, 2) := by decide +kernel
theorem dX12_init_127 : decode cX12_init 127 = .ok (.putfield 54, 3) := by decide +kernel
theorem dX12_init_130 : decode cX12_init 130 = .ok (.aload_n 0, 1) := by decide +kernel
theorem dX12_init_131 : decode cX12_init 131 = .ok (.bipush 40, 2) := by decide +kernel
theorem dX12_init_133 : decode cX12_init 133 = .ok (.newarray .long, 2) := by decide +kernel
theorem dX12_init_135 : decode cX12_init 135 = .ok (.putfield 57, 3) := by decide +kernel
theorem dX12_init_138 : decode cX12_init 138 = .ok (.aload_n 0, 1) := by decide +kernel
theorem dX12_init_139 : decode cX12_init 139 = .ok (.sipush 9216, 3) := by decide +kernel
theorem dX12_init_142 : decode cX12_init 142 = .ok (.newarray .int, 2) := by decide +kernel
theorem dX12_init_144 : decode cX12_init 144 = .ok (.putfield 60, 3) := by decide +kernel
theorem dX12_init_147 : decode cX12_init 147 = .ok (.aload_n 0, 1) := by decide +kernel
theorem dX12_init_148 : decode cX12_init 148 = .ok (.sipush 9216, 3) := by decide +kernel
theorem dX12_init_151 : decode cX12_init 151 = .ok (.newarray .long, 2) := by decide +kernel
theorem dX12_init_153 : decode cX12_init 153 = .ok (.putfield 63, 3) := by decide +kernel
theorem dX12_init_156 : decode cX12_init 156 = .ok (.aload_n 0, 1) := by decide +kernel
theorem dX12_init_157 : decode cX12_init 157 = .ok (.bipush 16, 2) := by decide +kernel
theorem dX12_init_159 : decode cX12_init 159 = .ok (.newarray .int, 2) := by decide +kernel
theorem dX12_init_161 : decode cX12_init 161 = .ok (.putfield 66, 3) := by decide +kernel
theorem dX12_init_164 : decode cX12_init 164 = .ok (.aload_n 0, 1) := by decide +kernel
theorem dX12_init_165 : decode cX12_init 165 = .ok (.bipush 24, 2) := by decide +kernel
theorem dX12_init_167 : decode cX12_init 167 = .ok (.newarray .long, 2) := by decide +kernel
theorem dX12_init_169 : decode cX12_init 169 = .ok (.putfield 69, 3) := by decide +kernel
theorem dX12_init_172 : decode cX12_init 172 = .ok (.aload_n 0, 1) := by decide +kernel
theorem dX12_init_173 : decode cX12_init 173 = .ok (.bipush 24, 2) := by decide +kernel
theorem dX12_init_175 : decode cX12_init 175 = .ok (.newarray .long, 2) := by decide +kernel
theorem dX12_init_177 : decode cX12_init 177 = .ok (.putfield 72, 3) := by decide +kernel
theorem dX12_init_180 : decode cX12_init 180 = .ok (.aload_n 0, 1) := by decide +kernel
theorem dX12_init_181 : decode cX12_init 181 = .ok (.iconst 4, 1) := by decide +kernel
theorem dX12_init_182 : decode cX12_init 182 = .ok (.newarray .boolean, 2) := by decide +kernel
theorem dX12_init_184 : decode cX12_init 184 = .ok (.putfield 75, 3) := by decide +kernel
theorem dX12_init_187 : decode cX12_init 187 = .ok (.aload_n 0, 1) := by decide +kernel
theorem dX12_init_188 : decode cX12_init 188 = .ok (.iconst 4, 1) := by decide +kernel
theorem dX12_init_189 : decode cX12_init 189 = .ok (.newarray .int, 2) := by decide +kernel
theorem dX12_init_191 : decode cX12_init 191 = .ok (.putfield 78, 3) := by decide +kernel
theorem dX12_init_194 : decode cX12_init 194 = .ok (.aload_n 0, 1) := by decide +kernel
theorem dX12_init_195 : decode cX12_init 195 = .ok (.iconst 4, 1) := by decide +kernel
theorem dX12_init_196 : decode cX12_init 196 = .ok (.newarray .int, 2) := by decide +kernel
theorem dX12_init_198 : decode cX12_init 198 = .ok (.putfield 81, 3) := by decide +kernel
theorem dX12_init_201 : decode cX12_init 201 = .ok (.aload_n 0, 1) := by decide +kernel
theorem dX12_init_202 : decode cX12_init 202 = .ok (.iconst 4, 1) := by decide +kernel
theorem dX12_init_203 : decode cX12_init 203 = .ok (.newarray .int, 2) := by decide +kernel
theorem dX12_init_205 : decode cX12_init 205 = .ok (.putfield 84, 3) := by decide +kernel
theorem dX12_init_208 : decode cX12_init 208 = .ok (.aload_n 0, 1) := by decide +kernel
theorem dX12_init_209 : decode cX12_init 209 = .ok (.getfield 7, 3) := by decide +kernel
theorem dX12_init_212 : decode cX12_init 212 = .ok (.iconst 0, 1) := by decide +kernel
theorem dX12_init_213 : decode cX12_init 213 = .ok (.ldc2_w 87, 3) := by decide +kernel
theorem dX12_init_216 : decode cX12_init 216 = .ok (.lastore, 1) := by decide +kernel
theorem dX12_init_217 : decode cX12_init 217 = .ok (.aload_n 0, 1) := by decide +kernel
theorem dX12_init_218 : decode cX12_init 218 = .ok (.getfield 7, 3) := by decide +kernel
theorem dX12_init_221 : decode cX12_init 221 = .ok (.iconst 1, 1) := by decide +kernel
theorem dX12_init_222 : decode cX12_init 222 = .ok (.ldc2_w 89, 3) := by decide +kernel
theorem dX12_init_225 : decode cX12_init 225 = .ok (.lastore, 1) := by decide +kernel
theorem dX12_init_226 : decode cX12_init 226 = .ok (.aload_n 0, 1) := by decide +kernel
theorem dX12_init_227 : decode cX12_init 227 = .ok (.getfield 7, 3) := by decide +kernel
theorem dX12_init_230 : decode cX12_init 230 = .ok (.iconst 2, 1) := by decide +kernel
theorem dX12_init_231 : decode cX12_init 231 = .ok (.ldc2_w 87, 3) := by decide +kernel
theorem dX12_init_234 : decode cX12_init 234 = .ok (.lastore, 1) := by decide +kernel
theorem dX12_init_235 : decode cX12_init 235 = .ok (.aload_n 0, 1) := by decide +kernel
theorem dX12_init_236 : decode cX12_init 236 = .ok (.getfield 7, 3) := by decide +kernel
theorem dX12_init_239 : decode cX12_init 239 = .ok (.iconst 3, 1) := by decide +kernel
theorem dX12_init_240 : decode cX12_init 240 = .ok (.ldc2_w 91, 3) := by decide +kernel
theorem dX12_init_243 : decode cX12_init 243 = .ok (.lastore, 1) := by decide +kernel
theorem dX12_init_244 : decode cX12_init 244 = .ok (.aload_n 0, 1) := by decide +kernel
theorem dX12_init_245 : decode cX12_init 245 = .ok (.getfield 7, 3) := by decide +kernel
theorem dX12_init_248 : decode cX12_init 248 = .ok (.bipush 6, 2) := by decide +kernel
theorem dX12_init_250 : decode cX12_init 250 = .ok (.ldc2_w 93, 3) := by decide +kernel
theorem dX12_init_253 : decode cX12_init 253 = .ok (.lastore, 1) := by decide +kernel
theorem dX12_init_254 : decode cX12_init 254 = .ok (.aload_n 0, 1) := by decide +kernel
theorem dX12_init_255 : decode cX12_init 255 = .ok (.getfield 7, 3) := by decide +kernel
theorem dX12_init_258 : decode cX12_init 258 = .ok (.bipush 8, 2) := by decide +kernel
theorem dX12_init_260 : decode cX12_init 260 = .ok (.lconst 1, 1) := by decide +kernel
theorem dX12_init_261 : decode cX12_init 261 = .ok (.lastore, 1) := by decide +kernel
theorem dX12_init_262 : decode cX12_init 262 = .ok (.iconst 0, 1) := by decide +kernel
theorem dX12_init_263 : decode cX12_init 263 = .ok (.istore_n 1, 1) := by decide +kernel
theorem dX12_init_264 : decode cX12_init 264 = .ok (.iload_n 1, 1) := by decide +kernel
theorem dX12_init_265 : decode cX12_init 265 = .ok (.bipush 12, 2) := by decide +kernel
theorem dX12_init_267 : decode cX12_init 267 = .ok (.if_icmp .ge 21, 3) := by decide +kernel
theorem dX12_init_270 : decode cX12_init 270 = .ok (.aload_n 0, 1) := by decide +kernel
theorem dX12_init_271 : decode cX12_init 271 = .ok (.getfield 7, 3) := by decide +kernel
theorem dX12_init_274 : decode cX12_init 274 = .ok (.bipush 44, 2) := by decide +kernel
theorem dX12_init_276 : decode cX12_init 276 = .ok (.iload_n 1, 1) := by decide +kernel
theorem dX12_init_277 : decode cX12_init 277 = .ok (.iadd, 1) := by decide +kernel
theorem dX12_init_278 : decode cX12_init 278 = .ok (.ldc2_w 95, 3) := by decide +kernel
theorem dX12_init_281 : decode cX12_init 281 = .ok (.lastore, 1) := by decide +kernel
theorem dX12_init_282 : decode cX12_init 282 = .ok (.iinc 1 1, 3) := by decide +kernel
theorem dX12_init_285 : decode cX12_init 285 = .ok (.goto (-21), 3) := by decide +kernel
theorem dX12_init_288 : decode cX12_init 288 = .ok (.iconst 0, 1) := by decide +kernel
theorem dX12_init_289 : decode cX12_init 289 = .ok (.istore_n 1, 1) := by decide +kernel
theorem dX12_init_290 : decode cX12_init 290 = .ok (.iload_n 1, 1) := by decide +kernel
theorem dX12_init_291 : decode cX12_init 291 = .ok (.iconst 4, 1) := by decide +kernel
theorem dX12_init_292 : decode cX12_init 292 = .ok (.if_icmp .ge 21, 3) := by decide +kernel
theorem dX12_init_295 : decode cX12_init 295 = .ok (.aload_n 0, 1) := by decide +kernel
theorem dX12_init_296 : decode cX12_init 296 = .ok (.getfield 7, 3) := by decide +kernel
theorem dX12_init_299 : decode cX12_init 299 = .ok (.bipush 56, 2) := by decide +kernel
theorem dX12_init_301 : decode cX12_init 301 = .ok (.iload_n 1, 1) := by decide +kernel
theorem dX12_init_302 : decode cX12_init 302 = .ok (.iadd, 1) := by decide +kernel
theorem dX12_init_303 : decode cX12_init 303 = .ok (.ldc2_w 97, 3) := by decide +kernel
theorem dX12_init_306 : decode cX12_init 306 = .ok (.lastore, 1) := by decide +kernel
theorem dX12_init_307 : decode cX12_init 307 = .ok (.iinc 1 1, 3) := by decide +kernel
theorem dX12_init_310 : decode cX12_init 310 = .ok (.goto (-20), 3) := by decide +kernel
theorem dX12_init_313 : decode cX12_init 313 = .ok (.iconst 0, 1) := by decide +kernel
theorem dX12_init_314 : decode cX12_init 314 = .ok (.istore_n 1, 1) := by decide +kernel
theorem dX12_init_315 : decode cX12_init 315 = .ok (.iload_n 1, 1) := by decide +kernel
theorem dX12_init_316 : decode cX12_init 316 = .ok (.bipush 24, 2) := by decide +kernel
theorem dX12_init_318 : decode cX12_init 318 = .ok (.if_icmp .ge 21, 3) := by decide +kernel
theorem dX12_init_321 : decode cX12_init 321 = .ok (.aload_n 0, 1) := by decide +kernel
theorem dX12_init_322 : decode cX12_init 322 = .ok (.getfield 7, 3) := by decide +kernel
theorem dX12_init_325 : decode cX12_init 325 = .ok (.bipush 60, 2) := by decide +kernel
theorem dX12_init_327 : decode cX12_init 327 = .ok (.iload_n 1, 1) := by decide +kernel
theorem dX12_init_328 : decode cX12_init 328 = .ok (.iadd, 1) := by decide +kernel
theorem dX12_init_329 : decode cX12_init 329 = .ok (.ldc2_w 99, 3) := by decide +kernel
theorem dX12_init_332 : decode cX12_init 332 = .ok (.lastore, 1) := by decide +kernel
theorem dX12_init_333 : decode cX12_init 333 = .ok (.iinc 1 1, 3) := by decide +kernel
theorem dX12_init_336 : decode cX12_init 336 = .ok (.goto (-21), 3) := by decide +kernel
theorem dX12_init_339 : decode cX12_init 339 = .ok (.return_, 1) := by decide +kernel
theorem cd_X12 : ∀ j, j < 31 → defaultValue (tyX12 j) = vp_V [.null, .null, .null, .null, .null, .null, .null, .null, .int (Int32.ofInt 0), .int (Int32.ofInt 0), .null, .long (Int64.ofInt 0), .int (Int32.ofInt 0), .null, .null, .null, .null, .null, .null, .null, .int (Int32.ofInt 0), .int (Int32.ofInt 0), .null, .null, .null, .null, .null, .null, .null, .null, .null] j := by
  intro j hj
  match j, hj with
  | 0, _ => rfl
  | 1, _ => rfl
  | 2, _ => rfl
  | 3, _ => rfl
  | 4, _ => rfl
  | 5, _ => rfl
  | 6, _ => rfl
  | 7, _ => rfl
  | 8, _ => rfl
  | 9, _ => rfl
  | 10, _ => rfl
  | 11, _ => rfl
  | 12, _ => rfl
  | 13, _ => rfl
  | 14, _ => rfl
  | 15, _ => rfl
  | 16, _ => rfl
  | 17, _ => rfl
  | 18, _ => rfl
  | 19, _ => rfl
  | 20, _ => rfl
  | 21, _ => rfl
  | 22, _ => rfl
  | 23, _ => rfl
  | 24, _ => rfl
  | 25, _ => rfl
  | 26, _ => rfl
  | 27, _ => rfl
  | 28, _ => rfl
  | 29, _ => rfl
  | 30, _ => rfl
  | k + 31, h => exact absurd h (by omega)
set_option maxHeartbeats 4000000 in
set_option maxRecDepth 100000 in
theorem ct_X12 (l : Launch) (D : va_G) (G : pm_G) (a : Nat) : Met l yX12_init (Jvm.Cond.code yX12_init cX12_init 2 none :: pm_TB) ({ frames := 1, cells := 25, slots := 22010, locals := 33 }) (cs_Pc D G 12 [.null, .null, .null, .null, .null, .null, .null, .null, .int (Int32.ofInt 0), .int (Int32.ofInt 0), .null, .long (Int64.ofInt 0), .int (Int32.ofInt 0), .null, .null, .null, .null, .null, .null, .null, .int (Int32.ofInt 0), .int (Int32.ofInt 0), .null, .null, .null, .null, .null, .null, .null, .null, .null] a) (cs_Qc D 26 (cs_B 248 G a) a) (26 - 1) 22010 (cs_A a) := by
  refine Met.ofW (cc := cX12_init) (maxL := 2) (ret := none) (by decide) rfl ?_
  intro p e s m args below meth c s₁ B hml hv
  obtain ⟨rfl, hz, h0, hK, hNW⟩ := hv
  have hx := B.exec
  have hb := B.bytes
  have hr := B.returns
  have hts : ∀ w ∈ pm_TB, w.before #[Value.ref a] s = true := fun w hw => atoms_spec (ws := Jvm.Cond.code yX12_init cX12_init 2 none :: pm_TB) B.pre w (List.mem_cons_of_mem _ hw)
  have hown : s.vm.findClass RX12 = some m.cls := findClass_of_methodNamed B.named
  have hlocks := B.notSynchronized
  have hin : meth.name = "<init>" := (name_of_methodNamed B.named B.method).1
  have hP : cs_P D a 1 (fun _ => .inr (12, [.null, .null, .null, .null, .null, .null, .null, .null, .int (Int32.ofInt 0), .int (Int32.ofInt 0), .null, .long (Int64.ofInt 0), .int (Int32.ofInt 0), .null, .null, .null, .null, .null, .null, .null, .int (Int32.ofInt 0), .int (Int32.ofInt 0), .null, .null, .null, .null, .null, .null, .null, .null, .null])) s.heap := ⟨hz, fun i hi => by rw [show i = 0 by omega]; exact h0⟩
  have hS : va_S (cs_A a) s.heap s.heap [] := va_S.rf
  have hl := lv_entry ([.ref a]) (n := 2) (Nat.le_of_ble_eq_true rfl)
  rw [lg_entry_eq]
  generalize (lg_sl ([.ref a]) ++ List.replicate (2 - (lg_sl ([.ref a])).length) Slot.unset).toArray = ls at hl ⊢
  have hl : lv_has ls 2 [(0, .ref (a + 0))] := hl
  refine lv_aload_n hx hb dX12_init_0 rfl (lv_at hl 0 rfl) ?_
  refine W.objInit hx hb hown (hts _ (pm_TB_in (j := 1265) (by decide +kernel) rfl)) (hts _ (pm_TB_in (j := 105) (by decide +kernel) rfl)) (hts _ (pm_TB_in (j := 106) (by decide +kernel) rfl)) rfl (by rw [hml]; exact hl.1) rfl dX12_init_1 (Nat.le_of_ble_eq_true rfl) (Nat.le_of_ble_eq_true rfl) ?_
  refine W.eq (g2 := F0 m 4 ls []) rfl ?_
  refine lv_aload_n hx hb dX12_init_4 rfl (lv_at hl 0 rfl) ?_
  refine lv_sipush (v := Int32.ofInt 620) hx hb dX12_init_5 (by decide) ?_
  refine cs_newa (atype := .long) (N' := 620) (x := (620, .inr (.inl (fun _ => Int64.ofInt 0)))) hx hb (hts (Jvm.Cond.arrayClass .long) (pm_TB_in (j := 377) (by decide +kernel) rfl)) 1 rfl rfl hK hP hS (fun _ => rfl) (by decide) (by decide) (by decide) (Nat.le_of_ble_eq_true rfl) (Nat.le_of_ble_eq_true rfl) dX12_init_8 (fun H hP hS => ?_)
  refine cs_putF (D := D) (ci := 12) (fs := [.null, .null, .null, .null, .null, .null, .null, .null, .int (Int32.ofInt 0), .int (Int32.ofInt 0), .null, .long (Int64.ofInt 0), .int (Int32.ofInt 0), .null, .null, .null, .null, .null, .null, .null, .int (Int32.ofInt 0), .int (Int32.ofInt 0), .null, .null, .null, .null, .null, .null, .null, .null, .null]) (v := .ref (a + 1)) hx hb hts (pm_uwB (ci := 12) (r := (RX12, TX12, 31)) rfl) tyX12 tyX12_ok nmX12 hown hK hP hS 0 (Nat.le_of_ble_eq_true rfl) rfl rfl 0 (by decide) (hts _ (pm_TB_in (j := 1273) (by decide +kernel) rfl)) (fun _ h9 => h9) rfl hin rfl (ty := tyX12 0) (tyX12_ok 0 (by decide)) rfl rfl (Nat.le_of_ble_eq_true rfl) dX12_init_10 (fun H locs hP hS => ?_)
  refine lv_aload_n hx hb dX12_init_13 rfl (lv_at hl 0 rfl) ?_
  refine lv_sipush (v := Int32.ofInt 620) hx hb dX12_init_14 (by decide) ?_
  refine cs_newa (atype := .long) (N' := 620) (x := (620, .inr (.inl (fun _ => Int64.ofInt 0)))) hx hb (hts (Jvm.Cond.arrayClass .long) (pm_TB_in (j := 377) (by decide +kernel) rfl)) 1 rfl rfl hK hP hS (fun _ => rfl) (by decide) (by decide) (by decide) (Nat.le_of_ble_eq_true rfl) (Nat.le_of_ble_eq_true rfl) dX12_init_17 (fun H hP hS => ?_)
  refine cs_putF (D := D) (ci := 12) (fs := [.ref (a + 1), .null, .null, .null, .null, .null, .null, .null, .int (Int32.ofInt 0), .int (Int32.ofInt 0), .null, .long (Int64.ofInt 0), .int (Int32.ofInt 0), .null, .null, .null, .null, .null, .null, .null, .int (Int32.ofInt 0), .int (Int32.ofInt 0), .null, .null, .null, .null, .null, .null, .null, .null, .null]) (v := .ref (a + 2)) hx hb hts (pm_uwB (ci := 12) (r := (RX12, TX12, 31)) rfl) tyX12 tyX12_ok nmX12 hown hK hP hS 0 (Nat.le_of_ble_eq_true rfl) rfl rfl 1 (by decide) (hts _ (pm_TB_in (j := 1274) (by decide +kernel) rfl)) (fun _ h9 => h9) rfl hin rfl (ty := tyX12 1) (tyX12_ok 1 (by decide)) rfl rfl (Nat.le_of_ble_eq_true rfl) dX12_init_19 (fun H locs hP hS => ?_)
  refine lv_aload_n hx hb dX12_init_22 rfl (lv_at hl 0 rfl) ?_
  refine lv_sipush (v := Int32.ofInt 620) hx hb dX12_init_23 (by decide) ?_
  refine cs_newa (atype := .long) (N' := 620) (x := (620, .inr (.inl (fun _ => Int64.ofInt 0)))) hx hb (hts (Jvm.Cond.arrayClass .long) (pm_TB_in (j := 377) (by decide +kernel) rfl)) 1 rfl rfl hK hP hS (fun _ => rfl) (by decide) (by decide) (by decide) (Nat.le_of_ble_eq_true rfl) (Nat.le_of_ble_eq_true rfl) dX12_init_26 (fun H hP hS => ?_)
  refine cs_putF (D := D) (ci := 12) (fs := [.ref (a + 1), .ref (a + 2), .null, .null, .null, .null, .null, .null, .int (Int32.ofInt 0), .int (Int32.ofInt 0), .null, .long (Int64.ofInt 0), .int (Int32.ofInt 0), .null, .null, .null, .null, .null, .null, .null, .int (Int32.ofInt 0), .int (Int32.ofInt 0), .null, .null, .null, .null, .null, .null, .null, .null, .null]) (v := .ref (a + 3)) hx hb hts (pm_uwB (ci := 12) (r := (RX12, TX12, 31)) rfl) tyX12 tyX12_ok nmX12 hown hK hP hS 0 (Nat.le_of_ble_eq_true rfl) rfl rfl 2 (by decide) (hts _ (pm_TB_in (j := 1275) (by decide +kernel) rfl)) (fun _ h9 => h9) rfl hin rfl (ty := tyX12 2) (tyX12_ok 2 (by decide)) rfl rfl (Nat.le_of_ble_eq_true rfl) dX12_init_28 (fun H locs hP hS => ?_)
  refine lv_aload_n hx hb dX12_init_31 rfl (lv_at hl 0 rfl) ?_
  refine lv_sipush (v := Int32.ofInt 620) hx hb dX12_init_32 (by decide) ?_
  refine cs_newa (atype := .long) (N' := 620) (x := (620, .inr (.inl (fun _ => Int64.ofInt 0)))) hx hb (hts (Jvm.Cond.arrayClass .long) (pm_TB_in (j := 377) (by decide +kernel) rfl)) 1 rfl rfl hK hP hS (fun _ => rfl) (by decide) (by decide) (by decide) (Nat.le_of_ble_eq_true rfl) (Nat.le_of_ble_eq_true rfl) dX12_init_35 (fun H hP hS => ?_)
  refine cs_putF (D := D) (ci := 12) (fs := [.ref (a + 1), .ref (a + 2), .ref (a + 3), .null, .null, .null, .null, .null, .int (Int32.ofInt 0), .int (Int32.ofInt 0), .null, .long (Int64.ofInt 0), .int (Int32.ofInt 0), .null, .null, .null, .null, .null, .null, .null, .int (Int32.ofInt 0), .int (Int32.ofInt 0), .null, .null, .null, .null, .null, .null, .null, .null, .null]) (v := .ref (a + 4)) hx hb hts (pm_uwB (ci := 12) (r := (RX12, TX12, 31)) rfl) tyX12 tyX12_ok nmX12 hown hK hP hS 0 (Nat.le_of_ble_eq_true rfl) rfl rfl 3 (by decide) (hts _ (pm_TB_in (j := 1276) (by decide +kernel) rfl)) (fun _ h9 => h9) rfl hin rfl (ty := tyX12 3) (tyX12_ok 3 (by decide)) rfl rfl (Nat.le_of_ble_eq_true rfl) dX12_init_37 (fun H locs hP hS => ?_)
  refine lv_aload_n hx hb dX12_init_40 rfl (lv_at hl 0 rfl) ?_
  refine lv_sipush (v := Int32.ofInt 620) hx hb dX12_init_41 (by decide) ?_
  refine cs_newa (atype := .long) (N' := 620) (x := (620, .inr (.inl (fun _ => Int64.ofInt 0)))) hx hb (hts (Jvm.Cond.arrayClass .long) (pm_TB_in (j := 377) (by decide +kernel) rfl)) 1 rfl rfl hK hP hS (fun _ => rfl) (by decide) (by decide) (by decide) (Nat.le_of_ble_eq_true rfl) (Nat.le_of_ble_eq_true rfl) dX12_init_44 (fun H hP hS => ?_)
  refine cs_putF (D := D) (ci := 12) (fs := [.ref (a + 1), .ref (a + 2), .ref (a + 3), .ref (a + 4), .null, .null, .null, .null, .int (Int32.ofInt 0), .int (Int32.ofInt 0), .null, .long (Int64.ofInt 0), .int (Int32.ofInt 0), .null, .null, .null, .null, .null, .null, .null, .int (Int32.ofInt 0), .int (Int32.ofInt 0), .null, .null, .null, .null, .null, .null, .null, .null, .null]) (v := .ref (a + 5)) hx hb hts (pm_uwB (ci := 12) (r := (RX12, TX12, 31)) rfl) tyX12 tyX12_ok nmX12 hown hK hP hS 0 (Nat.le_of_ble_eq_true rfl) rfl rfl 4 (by decide) (hts _ (pm_TB_in (j := 1277) (by decide +kernel) rfl)) (fun _ h9 => h9) rfl hin rfl (ty := tyX12 4) (tyX12_ok 4 (by decide)) rfl rfl (Nat.le_of_ble_eq_true rfl) dX12_init_46 (fun H locs hP hS => ?_)
  refine lv_aload_n hx hb dX12_init_49 rfl (lv_at hl 0 rfl) ?_
  refine lv_iconst (v := Int32.ofInt 2) hx hb dX12_init_50 (by decide) ?_
  refine cs_newa (atype := .boolean) (N' := 2) (x := (2, .inl (fun _ => Int32.ofInt 0))) hx hb (hts (Jvm.Cond.arrayClass .boolean) (pm_TB_in (j := 468) (by decide +kernel) rfl)) 2 rfl rfl hK hP hS (fun _ => rfl) (by decide) (by decide) (by decide) (Nat.le_of_ble_eq_true rfl) (Nat.le_of_ble_eq_true rfl) dX12_init_51 (fun H hP hS => ?_)
  refine cs_putF (D := D) (ci := 12) (fs := [.ref (a + 1), .ref (a + 2), .ref (a + 3), .ref (a + 4), .ref (a + 5), .null, .null, .null, .int (Int32.ofInt 0), .int (Int32.ofInt 0), .null, .long (Int64.ofInt 0), .int (Int32.ofInt 0), .null, .null, .null, .null, .null, .null, .null, .int (Int32.ofInt 0), .int (Int32.ofInt 0), .null, .null, .null, .null, .null, .null, .null, .null, .null]) (v := .ref (a + 6)) hx hb hts (pm_uwB (ci := 12) (r := (RX12, TX12, 31)) rfl) tyX12 tyX12_ok nmX12 hown hK hP hS 0 (Nat.le_of_ble_eq_true rfl) rfl rfl 5 (by decide) (hts _ (pm_TB_in (j := 1278) (by decide +kernel) rfl)) (fun _ h9 => h9) rfl hin rfl (ty := tyX12 5) (tyX12_ok 5 (by decide)) rfl rfl (Nat.le_of_ble_eq_true rfl) dX12_init_53 (fun H locs hP hS => ?_)
  refine lv_aload_n hx hb dX12_init_56 rfl (lv_at hl 0 rfl) ?_
  refine lv_sipush (v := Int32.ofInt 130) hx hb dX12_init_57 (by decide) ?_
  refine cs_newa (atype := .long) (N' := 130) (x := (130, .inr (.inl (fun _ => Int64.ofInt 0)))) hx hb (hts (Jvm.Cond.arrayClass .long) (pm_TB_in (j := 377) (by decide +kernel) rfl)) 1 rfl rfl hK hP hS (fun _ => rfl) (by decide) (by decide) (by decide) (Nat.le_of_ble_eq_true rfl) (Nat.le_of_ble_eq_true rfl) dX12_init_60 (fun H hP hS => ?_)
  refine cs_putF (D := D) (ci := 12) (fs := [.ref (a + 1), .ref (a + 2), .ref (a + 3), .ref (a + 4), .ref (a + 5), .ref (a + 6), .null, .null, .int (Int32.ofInt 0), .int (Int32.ofInt 0), .null, .long (Int64.ofInt 0), .int (Int32.ofInt 0), .null, .null, .null, .null, .null, .null, .null, .int (Int32.ofInt 0), .int (Int32.ofInt 0), .null, .null, .null, .null, .null, .null, .null, .null, .null]) (v := .ref (a + 7)) hx hb hts (pm_uwB (ci := 12) (r := (RX12, TX12, 31)) rfl) tyX12 tyX12_ok nmX12 hown hK hP hS 0 (Nat.le_of_ble_eq_true rfl) rfl rfl 6 (by decide) (hts _ (pm_TB_in (j := 1279) (by decide +kernel) rfl)) (fun _ h9 => h9) rfl hin rfl (ty := tyX12 6) (tyX12_ok 6 (by decide)) rfl rfl (Nat.le_of_ble_eq_true rfl) dX12_init_62 (fun H locs hP hS => ?_)
  refine lv_aload_n hx hb dX12_init_65 rfl (lv_at hl 0 rfl) ?_
  refine lv_sipush (v := Int32.ofInt 130) hx hb dX12_init_66 (by decide) ?_
  refine cs_newa (atype := .int) (N' := 130) (x := (130, .inl (fun _ => Int32.ofInt 0))) hx hb (hts (Jvm.Cond.arrayClass .int) (pm_TB_in (j := 161) (by decide +kernel) rfl)) 0 rfl rfl hK hP hS (fun _ => rfl) (by decide) (by decide) (by decide) (Nat.le_of_ble_eq_true rfl) (Nat.le_of_ble_eq_true rfl) dX12_init_69 (fun H hP hS => ?_)
  refine cs_putF (D := D) (ci := 12) (fs := [.ref (a + 1), .ref (a + 2), .ref (a + 3), .ref (a + 4), .ref (a + 5), .ref (a + 6), .ref (a + 7), .null, .int (Int32.ofInt 0), .int (Int32.ofInt 0), .null, .long (Int64.ofInt 0), .int (Int32.ofInt 0), .null, .null, .null, .null, .null, .null, .null, .int (Int32.ofInt 0), .int (Int32.ofInt 0), .null, .null, .null, .null, .null, .null, .null, .null, .null]) (v := .ref (a + 8)) hx hb hts (pm_uwB (ci := 12) (r := (RX12, TX12, 31)) rfl) tyX12 tyX12_ok nmX12 hown hK hP hS 0 (Nat.le_of_ble_eq_true rfl) rfl rfl 7 (by decide) (hts _ (pm_TB_in (j := 1280) (by decide +kernel) rfl)) (fun _ h9 => h9) rfl hin rfl (ty := tyX12 7) (tyX12_ok 7 (by decide)) rfl rfl (Nat.le_of_ble_eq_true rfl) dX12_init_71 (fun H locs hP hS => ?_)
  refine lv_aload_n hx hb dX12_init_74 rfl (lv_at hl 0 rfl) ?_
  refine lv_bipush (v := Int32.ofInt 12) hx hb dX12_init_75 (by decide) ?_
  refine cs_newa (atype := .boolean) (N' := 12) (x := (12, .inl (fun _ => Int32.ofInt 0))) hx hb (hts (Jvm.Cond.arrayClass .boolean) (pm_TB_in (j := 468) (by decide +kernel) rfl)) 2 rfl rfl hK hP hS (fun _ => rfl) (by decide) (by decide) (by decide) (Nat.le_of_ble_eq_true rfl) (Nat.le_of_ble_eq_true rfl) dX12_init_77 (fun H hP hS => ?_)
  refine cs_putF (D := D) (ci := 12) (fs := [.ref (a + 1), .ref (a + 2), .ref (a + 3), .ref (a + 4), .ref (a + 5), .ref (a + 6), .ref (a + 7), .ref (a + 8), .int (Int32.ofInt 0), .int (Int32.ofInt 0), .null, .long (Int64.ofInt 0), .int (Int32.ofInt 0), .null, .null, .null, .null, .null, .null, .null, .int (Int32.ofInt 0), .int (Int32.ofInt 0), .null, .null, .null, .null, .null, .null, .null, .null, .null]) (v := .ref (a + 9)) hx hb hts (pm_uwB (ci := 12) (r := (RX12, TX12, 31)) rfl) tyX12 tyX12_ok nmX12 hown hK hP hS 0 (Nat.le_of_ble_eq_true rfl) rfl rfl 10 (by decide) (hts _ (pm_TB_in (j := 1283) (by decide +kernel) rfl)) (fun _ h9 => h9) rfl hin rfl (ty := tyX12 10) (tyX12_ok 10 (by decide)) rfl rfl (Nat.le_of_ble_eq_true rfl) dX12_init_79 (fun H locs hP hS => ?_)
  refine lv_aload_n hx hb dX12_init_82 rfl (lv_at hl 0 rfl) ?_
  refine lv_bipush (v := Int32.ofInt 16) hx hb dX12_init_83 (by decide) ?_
  refine cs_newa (atype := .int) (N' := 16) (x := (16, .inl (fun _ => Int32.ofInt 0))) hx hb (hts (Jvm.Cond.arrayClass .int) (pm_TB_in (j := 161) (by decide +kernel) rfl)) 0 rfl rfl hK hP hS (fun _ => rfl) (by decide) (by decide) (by decide) (Nat.le_of_ble_eq_true rfl) (Nat.le_of_ble_eq_true rfl) dX12_init_85 (fun H hP hS => ?_)
  refine cs_putF (D := D) (ci := 12) (fs := [.ref (a + 1), .ref (a + 2), .ref (a + 3), .ref (a + 4), .ref (a + 5), .ref (a + 6), .ref (a + 7), .ref (a + 8), .int (Int32.ofInt 0), .int (Int32.ofInt 0), .ref (a + 9), .long (Int64.ofInt 0), .int (Int32.ofInt 0), .null, .null, .null, .null, .null, .null, .null, .int (Int32.ofInt 0), .int (Int32.ofInt 0), .null, .null, .null, .null, .null, .null, .null, .null, .null]) (v := .ref (a + 10)) hx hb hts (pm_uwB (ci := 12) (r := (RX12, TX12, 31)) rfl) tyX12 tyX12_ok nmX12 hown hK hP hS 0 (Nat.le_of_ble_eq_true rfl) rfl rfl 13 (by decide) (hts _ (pm_TB_in (j := 1286) (by decide +kernel) rfl)) (fun _ h9 => h9) rfl hin rfl (ty := tyX12 13) (tyX12_ok 13 (by decide)) rfl rfl (Nat.le_of_ble_eq_true rfl) dX12_init_87 (fun H locs hP hS => ?_)
  refine lv_aload_n hx hb dX12_init_90 rfl (lv_at hl 0 rfl) ?_
  refine lv_bipush (v := Int32.ofInt 16) hx hb dX12_init_91 (by decide) ?_
  refine cs_newa (atype := .int) (N' := 16) (x := (16, .inl (fun _ => Int32.ofInt 0))) hx hb (hts (Jvm.Cond.arrayClass .int) (pm_TB_in (j := 161) (by decide +kernel) rfl)) 0 rfl rfl hK hP hS (fun _ => rfl) (by decide) (by decide) (by decide) (Nat.le_of_ble_eq_true rfl) (Nat.le_of_ble_eq_true rfl) dX12_init_93 (fun H hP hS => ?_)
  refine cs_putF (D := D) (ci := 12) (fs := [.ref (a + 1), .ref (a + 2), .ref (a + 3), .ref (a + 4), .ref (a + 5), .ref (a + 6), .ref (a + 7), .ref (a + 8), .int (Int32.ofInt 0), .int (Int32.ofInt 0), .ref (a + 9), .long (Int64.ofInt 0), .int (Int32.ofInt 0), .ref (a + 10), .null, .null, .null, .null, .null, .null, .int (Int32.ofInt 0), .int (Int32.ofInt 0), .null, .null, .null, .null, .null, .null, .null, .null, .null]) (v := .ref (a + 11)) hx hb hts (pm_uwB (ci := 12) (r := (RX12, TX12, 31)) rfl) tyX12 tyX12_ok nmX12 hown hK hP hS 0 (Nat.le_of_ble_eq_true rfl) rfl rfl 14 (by decide) (hts _ (pm_TB_in (j := 1287) (by decide +kernel) rfl)) (fun _ h9 => h9) rfl hin rfl (ty := tyX12 14) (tyX12_ok 14 (by decide)) rfl rfl (Nat.le_of_ble_eq_true rfl) dX12_init_95 (fun H locs hP hS => ?_)
  refine lv_aload_n hx hb dX12_init_98 rfl (lv_at hl 0 rfl) ?_
  refine lv_bipush (v := Int32.ofInt 12) hx hb dX12_init_99 (by decide) ?_
  refine cs_newa (atype := .long) (N' := 12) (x := (12, .inr (.inl (fun _ => Int64.ofInt 0)))) hx hb (hts (Jvm.Cond.arrayClass .long) (pm_TB_in (j := 377) (by decide +kernel) rfl)) 1 rfl rfl hK hP hS (fun _ => rfl) (by decide) (by decide) (by decide) (Nat.le_of_ble_eq_true rfl) (Nat.le_of_ble_eq_true rfl) dX12_init_101 (fun H hP hS => ?_)
  refine cs_putF (D := D) (ci := 12) (fs := [.ref (a + 1), .ref (a + 2), .ref (a + 3), .ref (a + 4), .ref (a + 5), .ref (a + 6), .ref (a + 7), .ref (a + 8), .int (Int32.ofInt 0), .int (Int32.ofInt 0), .ref (a + 9), .long (Int64.ofInt 0), .int (Int32.ofInt 0), .ref (a + 10), .ref (a + 11), .null, .null, .null, .null, .null, .int (Int32.ofInt 0), .int (Int32.ofInt 0), .null, .null, .null, .null, .null, .null, .null, .null, .null]) (v := .ref (a + 12)) hx hb hts (pm_uwB (ci := 12) (r := (RX12, TX12, 31)) rfl) tyX12 tyX12_ok nmX12 hown hK hP hS 0 (Nat.le_of_ble_eq_true rfl) rfl rfl 15 (by decide) (hts _ (pm_TB_in (j := 1288) (by decide +kernel) rfl)) (fun _ h9 => h9) rfl hin rfl (ty := tyX12 15) (tyX12_ok 15 (by decide)) rfl rfl (Nat.le_of_ble_eq_true rfl) dX12_init_103 (fun H locs hP hS => ?_)
  refine lv_aload_n hx hb dX12_init_106 rfl (lv_at hl 0 rfl) ?_
  refine lv_bipush (v := Int32.ofInt 12) hx hb dX12_init_107 (by decide) ?_
  refine cs_newa (atype := .long) (N' := 12) (x := (12, .inr (.inl (fun _ => Int64.ofInt 0)))) hx hb (hts (Jvm.Cond.arrayClass .long) (pm_TB_in (j := 377) (by decide +kernel) rfl)) 1 rfl rfl hK hP hS (fun _ => rfl) (by decide) (by decide) (by decide) (Nat.le_of_ble_eq_true rfl) (Nat.le_of_ble_eq_true rfl) dX12_init_109 (fun H hP hS => ?_)
  refine cs_putF (D := D) (ci := 12) (fs := [.ref (a + 1), .ref (a + 2), .ref (a + 3), .ref (a + 4), .ref (a + 5), .ref (a + 6), .ref (a + 7), .ref (a + 8), .int (Int32.ofInt 0), .int (Int32.ofInt 0), .ref (a + 9), .long (Int64.ofInt 0), .int (Int32.ofInt 0), .ref (a + 10), .ref (a + 11), .ref (a + 12), .null, .null, .null, .null, .int (Int32.ofInt 0), .int (Int32.ofInt 0), .null, .null, .null, .null, .null, .null, .null, .null, .null]) (v := .ref (a + 13)) hx hb hts (pm_uwB (ci := 12) (r := (RX12, TX12, 31)) rfl) tyX12 tyX12_ok nmX12 hown hK hP hS 0 (Nat.le_of_ble_eq_true rfl) rfl rfl 16 (by decide) (hts _ (pm_TB_in (j := 1289) (by decide +kernel) rfl)) (fun _ h9 => h9) rfl hin rfl (ty := tyX12 16) (tyX12_ok 16 (by decide)) rfl rfl (Nat.le_of_ble_eq_true rfl) dX12_init_111 (fun H locs hP hS => ?_)
  refine lv_aload_n hx hb dX12_init_114 rfl (lv_at hl 0 rfl) ?_
  refine lv_bipush (v := Int32.ofInt 12) hx hb dX12_init_115 (by decide) ?_
  refine cs_newa (atype := .long) (N' := 12) (x := (12, .inr (.inl (fun _ => Int64.ofInt 0)))) hx hb (hts (Jvm.Cond.arrayClass .long) (pm_TB_in (j := 377) (by decide +kernel) rfl)) 1 rfl rfl hK hP hS (fun _ => rfl) (by decide) (by decide) (by decide) (Nat.le_of_ble_eq_true rfl) (Nat.le_of_ble_eq_true rfl) dX12_init_117 (fun H hP hS => ?_)
  refine cs_putF (D := D) (ci := 12) (fs := [.ref (a + 1), .ref (a + 2), .ref (a + 3), .ref (a + 4), .ref (a + 5), .ref (a + 6), .ref (a + 7), .ref (a + 8), .int (Int32.ofInt 0), .int (Int32.ofInt 0), .ref (a + 9), .long (Int64.ofInt 0), .int (Int32.ofInt 0), .ref (a + 10), .ref (a + 11), .ref (a + 12), .ref (a + 13), .null, .null, .null, .int (Int32.ofInt 0), .int (Int32.ofInt 0), .null, .null, .null, .null, .null, .null, .null, .null, .null]) (v := .ref (a + 14)) hx hb hts (pm_uwB (ci := 12) (r := (RX12, TX12, 31)) rfl) tyX12 tyX12_ok nmX12 hown hK hP hS 0 (Nat.le_of_ble_eq_true rfl) rfl rfl 17 (by decide) (hts _ (pm_TB_in (j := 1290) (by decide +kernel) rfl)) (fun _ h9 => h9) rfl hin rfl (ty := tyX12 17) (tyX12_ok 17 (by decide)) rfl rfl (Nat.le_of_ble_eq_true rfl) dX12_init_119 (fun H locs hP hS => ?_)
  refine lv_aload_n hx hb dX12_init_122 rfl (lv_at hl 0 rfl) ?_
  refine lv_bipush (v := Int32.ofInt 16) hx hb dX12_init_123 (by decide) ?_
  refine cs_newa (atype := .boolean) (N' := 16) (x := (16, .inl (fun _ => Int32.ofInt 0))) hx hb (hts (Jvm.Cond.arrayClass .boolean) (pm_TB_in (j := 468) (by decide +kernel) rfl)) 2 rfl rfl hK hP hS (fun _ => rfl) (by decide) (by decide) (by decide) (Nat.le_of_ble_eq_true rfl) (Nat.le_of_ble_eq_true rfl) dX12_init_125 (fun H hP hS => ?_)
  refine cs_putF (D := D) (ci := 12) (fs := [.ref (a + 1), .ref (a + 2), .ref (a + 3), .ref (a + 4), .ref (a + 5), .ref (a + 6), .ref (a + 7), .ref (a + 8), .int (Int32.ofInt 0), .int (Int32.ofInt 0), .ref (a + 9), .long (Int64.ofInt 0), .int (Int32.ofInt 0), .ref (a + 10), .ref (a + 11), .ref (a + 12), .ref (a + 13), .ref (a + 14), .null, .null, .int (Int32.ofInt 0), .int (Int32.ofInt 0), .null, .null, .null, .null, .null, .null, .null, .null, .null]) (v := .ref (a + 15)) hx hb hts (pm_uwB (ci := 12) (r := (RX12, TX12, 31)) rfl) tyX12 tyX12_ok nmX12 hown hK hP hS 0 (Nat.le_of_ble_eq_true rfl) rfl rfl 18 (by decide) (hts _ (pm_TB_in (j := 1291) (by decide +kernel) rfl)) (fun _ h9 => h9) rfl hin rfl (ty := tyX12 18) (tyX12_ok 18 (by decide)) rfl rfl (Nat.le_of_ble_eq_true rfl) dX12_init_127 (fun H locs hP hS => ?_)
  refine lv_aload_n hx hb dX12_init_130 rfl (lv_at hl 0 rfl) ?_
  refine lv_bipush (v := Int32.ofInt 40) hx hb dX12_init_131 (by decide) ?_
  refine cs_newa (atype := .long) (N' := 40) (x := (40, .inr (.inl (fun _ => Int64.ofInt 0)))) hx hb (hts (Jvm.Cond.arrayClass .long) (pm_TB_in (j := 377) (by decide +kernel) rfl)) 1 rfl rfl hK hP hS (fun _ => rfl) (by decide) (by decide) (by decide) (Nat.le_of_ble_eq_true rfl) (Nat.le_of_ble_eq_true rfl) dX12_init_133 (fun H hP hS => ?_)
  refine cs_putF (D := D) (ci := 12) (fs := [.ref (a + 1), .ref (a + 2), .ref (a + 3), .ref (a + 4), .ref (a + 5), .ref (a + 6), .ref (a + 7), .ref (a + 8), .int (Int32.ofInt 0), .int (Int32.ofInt 0), .ref (a + 9), .long (Int64.ofInt 0), .int (Int32.ofInt 0), .ref (a + 10), .ref (a + 11), .ref (a + 12), .ref (a + 13), .ref (a + 14), .ref (a + 15), .null, .int (Int32.ofInt 0), .int (Int32.ofInt 0), .null, .null, .null, .null, .null, .null, .null, .null, .null]) (v := .ref (a + 16)) hx hb hts (pm_uwB (ci := 12) (r := (RX12, TX12, 31)) rfl) tyX12 tyX12_ok nmX12 hown hK hP hS 0 (Nat.le_of_ble_eq_true rfl) rfl rfl 19 (by decide) (hts _ (pm_TB_in (j := 1292) (by decide +kernel) rfl)) (fun _ h9 => h9) rfl hin rfl (ty := tyX12 19) (tyX12_ok 19 (by decide)) rfl rfl (Nat.le_of_ble_eq_true rfl) dX12_init_135 (fun H locs hP hS => ?_)
  refine lv_aload_n hx hb dX12_init_138 rfl (lv_at hl 0 rfl) ?_
  refine lv_sipush (v := Int32.ofInt 9216) hx hb dX12_init_139 (by decide) ?_
  refine cs_newa (atype := .int) (N' := 9216) (x := (9216, .inl (fun _ => Int32.ofInt 0))) hx hb (hts (Jvm.Cond.arrayClass .int) (pm_TB_in (j := 161) (by decide +kernel) rfl)) 0 rfl rfl hK hP hS (fun _ => rfl) (by decide) (by decide) (by decide) (Nat.le_of_ble_eq_true rfl) (Nat.le_of_ble_eq_true rfl) dX12_init_142 (fun H hP hS => ?_)
  refine cs_putF (D := D) (ci := 12) (fs := [.ref (a + 1), .ref (a + 2), .ref (a + 3), .ref (a + 4), .ref (a + 5), .ref (a + 6), .ref (a + 7), .ref (a + 8), .int (Int32.ofInt 0), .int (Int32.ofInt 0), .ref (a + 9), .long (Int64.ofInt 0), .int (Int32.ofInt 0), .ref (a + 10), .ref (a + 11), .ref (a + 12), .ref (a + 13), .ref (a + 14), .ref (a + 15), .ref (a + 16), .int (Int32.ofInt 0), .int (Int32.ofInt 0), .null, .null, .null, .null, .null, .null, .null, .null, .null]) (v := .ref (a + 17)) hx hb hts (pm_uwB (ci := 12) (r := (RX12, TX12, 31)) rfl) tyX12 tyX12_ok nmX12 hown hK hP hS 0 (Nat.le_of_ble_eq_true rfl) rfl rfl 22 (by decide) (hts _ (pm_TB_in (j := 1295) (by decide +kernel) rfl)) (fun _ h9 => h9) rfl hin rfl (ty := tyX12 22) (tyX12_ok 22 (by decide)) rfl rfl (Nat.le_of_ble_eq_true rfl) dX12_init_144 (fun H locs hP hS => ?_)
  refine lv_aload_n hx hb dX12_init_147 rfl (lv_at hl 0 rfl) ?_
  refine lv_sipush (v := Int32.ofInt 9216) hx hb dX12_init_148 (by decide) ?_
  refine cs_newa (atype := .long) (N' := 9216) (x := (9216, .inr (.inl (fun _ => Int64.ofInt 0)))) hx hb (hts (Jvm.Cond.arrayClass .long) (pm_TB_in (j := 377) (by decide +kernel) rfl)) 1 rfl rfl hK hP hS (fun _ => rfl) (by decide) (by decide) (by decide) (Nat.le_of_ble_eq_true rfl) (Nat.le_of_ble_eq_true rfl) dX12_init_151 (fun H hP hS => ?_)
  refine cs_putF (D := D) (ci := 12) (fs := [.ref (a + 1), .ref (a + 2), .ref (a + 3), .ref (a + 4), .ref (a + 5), .ref (a + 6), .ref (a + 7), .ref (a + 8), .int (Int32.ofInt 0), .int (Int32.ofInt 0), .ref (a + 9), .long (Int64.ofInt 0), .int (Int32.ofInt 0), .ref (a + 10), .ref (a + 11), .ref (a + 12), .ref (a + 13), .ref (a + 14), .ref (a + 15), .ref (a + 16), .int (Int32.ofInt 0), .int (Int32.ofInt 0), .ref (a + 17), .null, .null, .null, .null, .null, .null, .null, .null]) (v := .ref (a + 18)) hx hb hts (pm_uwB (ci := 12) (r := (RX12, TX12, 31)) rfl) tyX12 tyX12_ok nmX12 hown hK hP hS 0 (Nat.le_of_ble_eq_true rfl) rfl rfl 23 (by decide) (hts _ (pm_TB_in (j := 1296) (by decide +kernel) rfl)) (fun _ h9 => h9) rfl hin rfl (ty := tyX12 23) (tyX12_ok 23 (by decide)) rfl rfl (Nat.le_of_ble_eq_true rfl) dX12_init_153 (fun H locs hP hS => ?_)
  refine lv_aload_n hx hb dX12_init_156 rfl (lv_at hl 0 rfl) ?_
  refine lv_bipush (v := Int32.ofInt 16) hx hb dX12_init_157 (by decide) ?_
  refine cs_newa (atype := .int) (N' := 16) (x := (16, .inl (fun _ => Int32.ofInt 0))) hx hb (hts (Jvm.Cond.arrayClass .int) (pm_TB_in (j := 161) (by decide +kernel) rfl)) 0 rfl rfl hK hP hS (fun _ => rfl) (by decide) (by decide) (by decide) (Nat.le_of_ble_eq_true rfl) (Nat.le_of_ble_eq_true rfl) dX12_init_159 (fun H hP hS => ?_)
  refine cs_putF (D := D) (ci := 12) (fs := [.ref (a + 1), .ref (a + 2), .ref (a + 3), .ref (a + 4), .ref (a + 5), .ref (a + 6), .ref (a + 7), .ref (a + 8), .int (Int32.ofInt 0), .int (Int32.ofInt 0), .ref (a + 9), .long (Int64.ofInt 0), .int (Int32.ofInt 0), .ref (a + 10), .ref (a + 11), .ref (a + 12), .ref (a + 13), .ref (a + 14), .ref (a + 15), .ref (a + 16), .int (Int32.ofInt 0), .int (Int32.ofInt 0), .ref (a + 17), .ref (a + 18), .null, .null, .null, .null, .null, .null, .null]) (v := .ref (a + 19)) hx hb hts (pm_uwB (ci := 12) (r := (RX12, TX12, 31)) rfl) tyX12 tyX12_ok nmX12 hown hK hP hS 0 (Nat.le_of_ble_eq_true rfl) rfl rfl 24 (by decide) (hts _ (pm_TB_in (j := 1297) (by decide +kernel) rfl)) (fun _ h9 => h9) rfl hin rfl (ty := tyX12 24) (tyX12_ok 24 (by decide)) rfl rfl (Nat.le_of_ble_eq_true rfl) dX12_init_161 (fun H locs hP hS => ?_)
  refine lv_aload_n hx hb dX12_init_164 rfl (lv_at hl 0 rfl) ?_
  refine lv_bipush (v := Int32.ofInt 24) hx hb dX12_init_165 (by decide) ?_
  refine cs_newa (atype := .long) (N' := 24) (x := (24, .inr (.inl (fun _ => Int64.ofInt 0)))) hx hb (hts (Jvm.Cond.arrayClass .long) (pm_TB_in (j := 377) (by decide +kernel) rfl)) 1 rfl rfl hK hP hS (fun _ => rfl) (by decide) (by decide) (by decide) (Nat.le_of_ble_eq_true rfl) (Nat.le_of_ble_eq_true rfl) dX12_init_167 (fun H hP hS => ?_)
  refine cs_putF (D := D) (ci := 12) (fs := [.ref (a + 1), .ref (a + 2), .ref (a + 3), .ref (a + 4), .ref (a + 5), .ref (a + 6), .ref (a + 7), .ref (a + 8), .int (Int32.ofInt 0), .int (Int32.ofInt 0), .ref (a + 9), .long (Int64.ofInt 0), .int (Int32.ofInt 0), .ref (a + 10), .ref (a + 11), .ref (a + 12), .ref (a + 13), .ref (a + 14), .ref (a + 15), .ref (a + 16), .int (Int32.ofInt 0), .int (Int32.ofInt 0), .ref (a + 17), .ref (a + 18), .ref (a + 19), .null, .null, .null, .null, .null, .null]) (v := .ref (a + 20)) hx hb hts (pm_uwB (ci := 12) (r := (RX12, TX12, 31)) rfl) tyX12 tyX12_ok nmX12 hown hK hP hS 0 (Nat.le_of_ble_eq_true rfl) rfl rfl 25 (by decide) (hts _ (pm_TB_in (j := 1298) (by decide +kernel) rfl)) (fun _ h9 => h9) rfl hin rfl (ty := tyX12 25) (tyX12_ok 25 (by decide)) rfl rfl (Nat.le_of_ble_eq_true rfl) dX12_init_169 (fun H locs hP hS => ?_)
  refine lv_aload_n hx hb dX12_init_172 rfl (lv_at hl 0 rfl) ?_
  refine lv_bipush (v := Int32.ofInt 24) hx hb dX12_init_173 (by decide) ?_
  refine cs_newa (atype := .long) (N' := 24) (x := (24, .inr (.inl (fun _ => Int64.ofInt 0)))) hx hb (hts (Jvm.Cond.arrayClass .long) (pm_TB_in (j := 377) (by decide +kernel) rfl)) 1 rfl rfl hK hP hS (fun _ => rfl) (by decide) (by decide) (by decide) (Nat.le_of_ble_eq_true rfl) (Nat.le_of_ble_eq_true rfl) dX12_init_175 (fun H hP hS => ?_)
  refine cs_putF (D := D) (ci := 12) (fs := [.ref (a + 1), .ref (a + 2), .ref (a + 3), .ref (a + 4), .ref (a + 5), .ref (a + 6), .ref (a + 7), .ref (a + 8), .int (Int32.ofInt 0), .int (Int32.ofInt 0), .ref (a + 9), .long (Int64.ofInt 0), .int (Int32.ofInt 0), .ref (a + 10), .ref (a + 11), .ref (a + 12), .ref (a + 13), .ref (a + 14), .ref (a + 15), .ref (a + 16), .int (Int32.ofInt 0), .int (Int32.ofInt 0), .ref (a + 17), .ref (a + 18), .ref (a + 19), .ref (a + 20), .null, .null, .null, .null, .null]) (v := .ref (a + 21)) hx hb hts (pm_uwB (ci := 12) (r := (RX12, TX12, 31)) rfl) tyX12 tyX12_ok nmX12 hown hK hP hS 0 (Nat.le_of_ble_eq_true rfl) rfl rfl 26 (by decide) (hts _ (pm_TB_in (j := 1299) (by decide +kernel) rfl)) (fun _ h9 => h9) rfl hin rfl (ty := tyX12 26) (tyX12_ok 26 (by decide)) rfl rfl (Nat.le_of_ble_eq_true rfl) dX12_init_177 (fun H locs hP hS => ?_)
  refine lv_aload_n hx hb dX12_init_180 rfl (lv_at hl 0 rfl) ?_
  refine lv_iconst (v := Int32.ofInt 4) hx hb dX12_init_181 (by decide) ?_
  refine cs_newa (atype := .boolean) (N' := 4) (x := (4, .inl (fun _ => Int32.ofInt 0))) hx hb (hts (Jvm.Cond.arrayClass .boolean) (pm_TB_in (j := 468) (by decide +kernel) rfl)) 2 rfl rfl hK hP hS (fun _ => rfl) (by decide) (by decide) (by decide) (Nat.le_of_ble_eq_true rfl) (Nat.le_of_ble_eq_true rfl) dX12_init_182 (fun H hP hS => ?_)
  refine cs_putF (D := D) (ci := 12) (fs := [.ref (a + 1), .ref (a + 2), .ref (a + 3), .ref (a + 4), .ref (a + 5), .ref (a + 6), .ref (a + 7), .ref (a + 8), .int (Int32.ofInt 0), .int (Int32.ofInt 0), .ref (a + 9), .long (Int64.ofInt 0), .int (Int32.ofInt 0), .ref (a + 10), .ref (a + 11), .ref (a + 12), .ref (a + 13), .ref (a + 14), .ref (a + 15), .ref (a + 16), .int (Int32.ofInt 0), .int (Int32.ofInt 0), .ref (a + 17), .ref (a + 18), .ref (a + 19), .ref (a + 20), .ref (a + 21), .null, .null, .null, .null]) (v := .ref (a + 22)) hx hb hts (pm_uwB (ci := 12) (r := (RX12, TX12, 31)) rfl) tyX12 tyX12_ok nmX12 hown hK hP hS 0 (Nat.le_of_ble_eq_true rfl) rfl rfl 27 (by decide) (hts _ (pm_TB_in (j := 1300) (by decide +kernel) rfl)) (fun _ h9 => h9) rfl hin rfl (ty := tyX12 27) (tyX12_ok 27 (by decide)) rfl rfl (Nat.le_of_ble_eq_true rfl) dX12_init_184 (fun H locs hP hS => ?_)
  refine lv_aload_n hx hb dX12_init_187 rfl (lv_at hl 0 rfl) ?_
  refine lv_iconst (v := Int32.ofInt 4) hx hb dX12_init_188 (by decide) ?_
  refine cs_newa (atype := .int) (N' := 4) (x := (4, .inl (fun _ => Int32.ofInt 0))) hx hb (hts (Jvm.Cond.arrayClass .int) (pm_TB_in (j := 161) (by decide +kernel) rfl)) 0 rfl rfl hK hP hS (fun _ => rfl) (by decide) (by decide) (by decide) (Nat.le_of_ble_eq_true rfl) (Nat.le_of_ble_eq_true rfl) dX12_init_189 (fun H hP hS => ?_)
  refine cs_putF (D := D) (ci := 12) (fs := [.ref (a + 1), .ref (a + 2), .ref (a + 3), .ref (a + 4), .ref (a + 5), .ref (a + 6), .ref (a + 7), .ref (a + 8), .int (Int32.ofInt 0), .int (Int32.ofInt 0), .ref (a + 9), .long (Int64.ofInt 0), .int (Int32.ofInt 0), .ref (a + 10), .ref (a + 11), .ref (a + 12), .ref (a + 13), .ref (a + 14), .ref (a + 15), .ref (a + 16), .int (Int32.ofInt 0), .int (Int32.ofInt 0), .ref (a + 17), .ref (a + 18), .ref (a + 19), .ref (a + 20), .ref (a + 21), .ref (a + 22), .null, .null, .null]) (v := .ref (a + 23)) hx hb hts (pm_uwB (ci := 12) (r := (RX12, TX12, 31)) rfl) tyX12 tyX12_ok nmX12 hown hK hP hS 0 (Nat.le_of_ble_eq_true rfl) rfl rfl 28 (by decide) (hts _ (pm_TB_in (j := 1301) (by decide +kernel) rfl)) (fun _ h9 => h9) rfl hin rfl (ty := tyX12 28) (tyX12_ok 28 (by decide)) rfl rfl (Nat.le_of_ble_eq_true rfl) dX12_init_191 (fun H locs hP hS => ?_)
  refine lv_aload_n hx hb dX12_init_194 rfl (lv_at hl 0 rfl) ?_
  refine lv_iconst (v := Int32.ofInt 4) hx hb dX12_init_195 (by decide) ?_
  refine cs_newa (atype := .int) (N' := 4) (x := (4, .inl (fun _ => Int32.ofInt 0))) hx hb (hts (Jvm.Cond.arrayClass .int) (pm_TB_in (j := 161) (by decide +kernel) rfl)) 0 rfl rfl hK hP hS (fun _ => rfl) (by decide) (by decide) (by decide) (Nat.le_of_ble_eq_true rfl) (Nat.le_of_ble_eq_true rfl) dX12_init_196 (fun H hP hS => ?_)
  refine cs_putF (D := D) (ci := 12) (fs := [.ref (a + 1), .ref (a + 2), .ref (a + 3), .ref (a + 4), .ref (a + 5), .ref (a + 6), .ref (a + 7), .ref (a + 8), .int (Int32.ofInt 0), .int (Int32.ofInt 0), .ref (a + 9), .long (Int64.ofInt 0), .int (Int32.ofInt 0), .ref (a + 10), .ref (a + 11), .ref (a + 12), .ref (a + 13), .ref (a + 14), .ref (a + 15), .ref (a + 16), .int (Int32.ofInt 0), .int (Int32.ofInt 0), .ref (a + 17), .ref (a + 18), .ref (a + 19), .ref (a + 20), .ref (a + 21), .ref (a + 22), .ref (a + 23), .null, .null]) (v := .ref (a + 24)) hx hb hts (pm_uwB (ci := 12) (r := (RX12, TX12, 31)) rfl) tyX12 tyX12_ok nmX12 hown hK hP hS 0 (Nat.le_of_ble_eq_true rfl) rfl rfl 29 (by decide) (hts _ (pm_TB_in (j := 1302) (by decide +kernel) rfl)) (fun _ h9 => h9) rfl hin rfl (ty := tyX12 29) (tyX12_ok 29 (by decide)) rfl rfl (Nat.le_of_ble_eq_true rfl) dX12_init_198 (fun H locs hP hS => ?_)
  refine lv_aload_n hx hb dX12_init_201 rfl (lv_at hl 0 rfl) ?_
  refine lv_iconst (v := Int32.ofInt 4) hx hb dX12_init_202 (by decide) ?_
  refine cs_newa (atype := .int) (N' := 4) (x := (4, .inl (fun _ => Int32.ofInt 0))) hx hb (hts (Jvm.Cond.arrayClass .int) (pm_TB_in (j := 161) (by decide +kernel) rfl)) 0 rfl rfl hK hP hS (fun _ => rfl) (by decide) (by decide) (by decide) (Nat.le_of_ble_eq_true rfl) (Nat.le_of_ble_eq_true rfl) dX12_init_203 (fun H hP hS => ?_)
  refine cs_putF (D := D) (ci := 12) (fs := [.ref (a + 1), .ref (a + 2), .ref (a + 3), .ref (a + 4), .ref (a + 5), .ref (a + 6), .ref (a + 7), .ref (a + 8), .int (Int32.ofInt 0), .int (Int32.ofInt 0), .ref (a + 9), .long (Int64.ofInt 0), .int (Int32.ofInt 0), .ref (a + 10), .ref (a + 11), .ref (a + 12), .ref (a + 13), .ref (a + 14), .ref (a + 15), .ref (a + 16), .int (Int32.ofInt 0), .int (Int32.ofInt 0), .ref (a + 17), .ref (a + 18), .ref (a + 19), .ref (a + 20), .ref (a + 21), .ref (a + 22), .ref (a + 23), .ref (a + 24), .null]) (v := .ref (a + 25)) hx hb hts (pm_uwB (ci := 12) (r := (RX12, TX12, 31)) rfl) tyX12 tyX12_ok nmX12 hown hK hP hS 0 (Nat.le_of_ble_eq_true rfl) rfl rfl 30 (by decide) (hts _ (pm_TB_in (j := 1303) (by decide +kernel) rfl)) (fun _ h9 => h9) rfl hin rfl (ty := tyX12 30) (tyX12_ok 30 (by decide)) rfl rfl (Nat.le_of_ble_eq_true rfl) dX12_init_205 (fun H locs hP hS => ?_)
  refine lv_aload_n hx hb dX12_init_208 rfl (lv_at hl 0 rfl) ?_
  refine cs_get (D := D) (ci := 12) (fs := [.ref (a + 1), .ref (a + 2), .ref (a + 3), .ref (a + 4), .ref (a + 5), .ref (a + 6), .ref (a + 7), .ref (a + 8), .int (Int32.ofInt 0), .int (Int32.ofInt 0), .ref (a + 9), .long (Int64.ofInt 0), .int (Int32.ofInt 0), .ref (a + 10), .ref (a + 11), .ref (a + 12), .ref (a + 13), .ref (a + 14), .ref (a + 15), .ref (a + 16), .int (Int32.ofInt 0), .int (Int32.ofInt 0), .ref (a + 17), .ref (a + 18), .ref (a + 19), .ref (a + 20), .ref (a + 21), .ref (a + 22), .ref (a + 23), .ref (a + 24), .ref (a + 25)]) hx hb hts (pm_uwB (ci := 12) (r := (RX12, TX12, 31)) rfl) hown hK hP 0 (Nat.le_of_ble_eq_true rfl) rfl rfl 0 (by decide) (hts _ (pm_TB_in (j := 1273) (by decide +kernel) rfl)) (fun _ h9 => h9) rfl dX12_init_209 ?_
  refine lv_iconst (v := Int32.ofInt 0) hx hb dX12_init_212 (by decide) ?_
  refine lv_ldc2 (own := RX12) (v := Int64.ofInt 100) hx hb hown (hts _ (pm_TB_in (j := 1266) (by decide +kernel) rfl)) dX12_init_213 ?_
  refine cs_last hx hb hK hP hS 1 1 (Nat.le_of_ble_eq_true rfl) rfl rfl (j := Int32.ofInt 0) (vp_in_iff.mpr (by decide)) dX12_init_216 (fun H locs hP hS => ?_)
  refine lv_aload_n hx hb dX12_init_217 rfl (lv_at hl 0 rfl) ?_
  refine cs_get (D := D) (ci := 12) (fs := [.ref (a + 1), .ref (a + 2), .ref (a + 3), .ref (a + 4), .ref (a + 5), .ref (a + 6), .ref (a + 7), .ref (a + 8), .int (Int32.ofInt 0), .int (Int32.ofInt 0), .ref (a + 9), .long (Int64.ofInt 0), .int (Int32.ofInt 0), .ref (a + 10), .ref (a + 11), .ref (a + 12), .ref (a + 13), .ref (a + 14), .ref (a + 15), .ref (a + 16), .int (Int32.ofInt 0), .int (Int32.ofInt 0), .ref (a + 17), .ref (a + 18), .ref (a + 19), .ref (a + 20), .ref (a + 21), .ref (a + 22), .ref (a + 23), .ref (a + 24), .ref (a + 25)]) hx hb hts (pm_uwB (ci := 12) (r := (RX12, TX12, 31)) rfl) hown hK hP 0 (Nat.le_of_ble_eq_true rfl) rfl rfl 0 (by decide) (hts _ (pm_TB_in (j := 1273) (by decide +kernel) rfl)) (fun _ h9 => h9) rfl dX12_init_218 ?_
  refine lv_iconst (v := Int32.ofInt 1) hx hb dX12_init_221 (by decide) ?_
  refine lv_ldc2 (own := RX12) (v := Int64.ofInt 20) hx hb hown (hts _ (pm_TB_in (j := 1267) (by decide +kernel) rfl)) dX12_init_222 ?_
  refine cs_last hx hb hK hP hS 1 1 (Nat.le_of_ble_eq_true rfl) rfl rfl (j := Int32.ofInt 1) (vp_in_iff.mpr (by decide)) dX12_init_225 (fun H locs hP hS => ?_)
  refine lv_aload_n hx hb dX12_init_226 rfl (lv_at hl 0 rfl) ?_
  refine cs_get (D := D) (ci := 12) (fs := [.ref (a + 1), .ref (a + 2), .ref (a + 3), .ref (a + 4), .ref (a + 5), .ref (a + 6), .ref (a + 7), .ref (a + 8), .int (Int32.ofInt 0), .int (Int32.ofInt 0), .ref (a + 9), .long (Int64.ofInt 0), .int (Int32.ofInt 0), .ref (a + 10), .ref (a + 11), .ref (a + 12), .ref (a + 13), .ref (a + 14), .ref (a + 15), .ref (a + 16), .int (Int32.ofInt 0), .int (Int32.ofInt 0), .ref (a + 17), .ref (a + 18), .ref (a + 19), .ref (a + 20), .ref (a + 21), .ref (a + 22), .ref (a + 23), .ref (a + 24), .ref (a + 25)]) hx hb hts (pm_uwB (ci := 12) (r := (RX12, TX12, 31)) rfl) hown hK hP 0 (Nat.le_of_ble_eq_true rfl) rfl rfl 0 (by decide) (hts _ (pm_TB_in (j := 1273) (by decide +kernel) rfl)) (fun _ h9 => h9) rfl dX12_init_227 ?_
  refine lv_iconst (v := Int32.ofInt 2) hx hb dX12_init_230 (by decide) ?_
  refine lv_ldc2 (own := RX12) (v := Int64.ofInt 100) hx hb hown (hts _ (pm_TB_in (j := 1266) (by decide +kernel) rfl)) dX12_init_231 ?_
  refine cs_last hx hb hK hP hS 1 1 (Nat.le_of_ble_eq_true rfl) rfl rfl (j := Int32.ofInt 2) (vp_in_iff.mpr (by decide)) dX12_init_234 (fun H locs hP hS => ?_)
  refine lv_aload_n hx hb dX12_init_235 rfl (lv_at hl 0 rfl) ?_
  refine cs_get (D := D) (ci := 12) (fs := [.ref (a + 1), .ref (a + 2), .ref (a + 3), .ref (a + 4), .ref (a + 5), .ref (a + 6), .ref (a + 7), .ref (a + 8), .int (Int32.ofInt 0), .int (Int32.ofInt 0), .ref (a + 9), .long (Int64.ofInt 0), .int (Int32.ofInt 0), .ref (a + 10), .ref (a + 11), .ref (a + 12), .ref (a + 13), .ref (a + 14), .ref (a + 15), .ref (a + 16), .int (Int32.ofInt 0), .int (Int32.ofInt 0), .ref (a + 17), .ref (a + 18), .ref (a + 19), .ref (a + 20), .ref (a + 21), .ref (a + 22), .ref (a + 23), .ref (a + 24), .ref (a + 25)]) hx hb hts (pm_uwB (ci := 12) (r := (RX12, TX12, 31)) rfl) hown hK hP 0 (Nat.le_of_ble_eq_true rfl) rfl rfl 0 (by decide) (hts _ (pm_TB_in (j := 1273) (by decide +kernel) rfl)) (fun _ h9 => h9) rfl dX12_init_236 ?_
  refine lv_iconst (v := Int32.ofInt 3) hx hb dX12_init_239 (by decide) ?_
  refine lv_ldc2 (own := RX12) (v := Int64.ofInt 100000) hx hb hown (hts _ (pm_TB_in (j := 1268) (by decide +kernel) rfl)) dX12_init_240 ?_
  refine cs_last hx hb hK hP hS 1 1 (Nat.le_of_ble_eq_true rfl) rfl rfl (j := Int32.ofInt 3) (vp_in_iff.mpr (by decide)) dX12_init_243 (fun H locs hP hS => ?_)
  refine lv_aload_n hx hb dX12_init_244 rfl (lv_at hl 0 rfl) ?_
  refine cs_get (D := D) (ci := 12) (fs := [.ref (a + 1), .ref (a + 2), .ref (a + 3), .ref (a + 4), .ref (a + 5), .ref (a + 6), .ref (a + 7), .ref (a + 8), .int (Int32.ofInt 0), .int (Int32.ofInt 0), .ref (a + 9), .long (Int64.ofInt 0), .int (Int32.ofInt 0), .ref (a + 10), .ref (a + 11), .ref (a + 12), .ref (a + 13), .ref (a + 14), .ref (a + 15), .ref (a + 16), .int (Int32.ofInt 0), .int (Int32.ofInt 0), .ref (a + 17), .ref (a + 18), .ref (a + 19), .ref (a + 20), .ref (a + 21), .ref (a + 22), .ref (a + 23), .ref (a + 24), .ref (a + 25)]) hx hb hts (pm_uwB (ci := 12) (r := (RX12, TX12, 31)) rfl) hown hK hP 0 (Nat.le_of_ble_eq_true rfl) rfl rfl 0 (by decide) (hts _ (pm_TB_in (j := 1273) (by decide +kernel) rfl)) (fun _ h9 => h9) rfl dX12_init_245 ?_
  refine lv_bipush (v := Int32.ofInt 6) hx hb dX12_init_248 (by decide) ?_
  refine lv_ldc2 (own := RX12) (v := Int64.ofInt 50) hx hb hown (hts _ (pm_TB_in (j := 1269) (by decide +kernel) rfl)) dX12_init_250 ?_
  refine cs_last hx hb hK hP hS 1 1 (Nat.le_of_ble_eq_true rfl) rfl rfl (j := Int32.ofInt 6) (vp_in_iff.mpr (by decide)) dX12_init_253 (fun H locs hP hS => ?_)
  refine lv_aload_n hx hb dX12_init_254 rfl (lv_at hl 0 rfl) ?_
  refine cs_get (D := D) (ci := 12) (fs := [.ref (a + 1), .ref (a + 2), .ref (a + 3), .ref (a + 4), .ref (a + 5), .ref (a + 6), .ref (a + 7), .ref (a + 8), .int (Int32.ofInt 0), .int (Int32.ofInt 0), .ref (a + 9), .long (Int64.ofInt 0), .int (Int32.ofInt 0), .ref (a + 10), .ref (a + 11), .ref (a + 12), .ref (a + 13), .ref (a + 14), .ref (a + 15), .ref (a + 16), .int (Int32.ofInt 0), .int (Int32.ofInt 0), .ref (a + 17), .ref (a + 18), .ref (a + 19), .ref (a + 20), .ref (a + 21), .ref (a + 22), .ref (a + 23), .ref (a + 24), .ref (a + 25)]) hx hb hts (pm_uwB (ci := 12) (r := (RX12, TX12, 31)) rfl) hown hK hP 0 (Nat.le_of_ble_eq_true rfl) rfl rfl 0 (by decide) (hts _ (pm_TB_in (j := 1273) (by decide +kernel) rfl)) (fun _ h9 => h9) rfl dX12_init_255 ?_
  refine lv_bipush (v := Int32.ofInt 8) hx hb dX12_init_258 (by decide) ?_
  refine lv_lconst (v := Int64.ofInt 1) hx hb dX12_init_260 (by decide) ?_
  refine cs_last hx hb hK hP hS 1 1 (Nat.le_of_ble_eq_true rfl) rfl rfl (j := Int32.ofInt 8) (vp_in_iff.mpr (by decide)) dX12_init_261 (fun H locs hP hS => ?_)
  have loop3 : ∀ (k i : Nat), i + k = 24 → ∀ (H : Heap) (locs : List Loc), cs_P D a 26 (cs_x (cs_B 248 G a) 1 (.inl (G.2.1, 620, .inr (.inl (fun j => Int64.ofInt (zq 12 4 (i : Int) j)))))) H → va_S (cs_A a) s.heap H locs → ∀ ls : Array Slot, lv_has ls 2 [(1, .int (nI i)), (0, .ref (a + 0))] → W p l e ({ frames := 1, cells := 25, slots := 22010, locals := 33 } : Room) s m #[Value.ref a] below meth c H locs 25 22010 (MQ below (cs_Qc D 26 (cs_B 248 G a) a) #[Value.ref a] s (26 - 1) 22010 (cs_A a)) (F0 m 315 ls []) := by
    intro k
    induction k with
    | zero =>
      intro i hi H locs hP hS ls hl
      have hi : i = 24 := hi
      subst hi
      refine lv_iload_n hx hb dX12_init_315 rfl (lv_at hl 0 rfl) ?_
      refine lv_bipush (v := nI 24) hx hb dX12_init_316 (by decide) ?_
      refine lv_icmp_ge (tgt := 339) hx hb dX12_init_318 (by decide) (fun _ => ?_) (fun c9 => absurd (by decide) c9)
      refine W.vret hx hb hr (fun t ht hW => ⟨rfl, ?_, hS.F ht⟩) hS.2.2 dX12_init_339
      rw [ht]
      refine cs_cg (n := 26) hP (fun i hi => ?_)
      by_cases h1 : i = 1
      · subst h1
        rw [show (cs_x (cs_B 248 G a) 1 (.inl (G.2.1, 620, .inr (.inl (fun j => Int64.ofInt (zq 12 4 ((24 : Nat) : Int) j)))))) 1 = (.inl (G.2.1, 620, .inr (.inl (fun j => Int64.ofInt (zq 12 4 ((24 : Nat) : Int) j)))) : va_E) from if_pos rfl, zq_end]
        rfl
      · exact if_neg h1
    | succ k ih =>
      intro i hi H locs hP hS ls hl
      have hlt : i < 24 := by omega
      refine lv_iload_n hx hb dX12_init_315 rfl (lv_at hl 0 rfl) ?_
      refine lv_bipush (v := nI 24) hx hb dX12_init_316 (by decide) ?_
      refine lv_icmp_ge (tgt := 339) hx hb dX12_init_318 (by decide) (fun c9 => absurd c9 (nI_ge hlt (by decide))) (fun _ => ?_)
      refine lv_aload_n hx hb dX12_init_321 rfl (lv_at hl 1 rfl) ?_
      refine cs_get (D := D) (ci := 12) (fs := [.ref (a + 1), .ref (a + 2), .ref (a + 3), .ref (a + 4), .ref (a + 5), .ref (a + 6), .ref (a + 7), .ref (a + 8), .int (Int32.ofInt 0), .int (Int32.ofInt 0), .ref (a + 9), .long (Int64.ofInt 0), .int (Int32.ofInt 0), .ref (a + 10), .ref (a + 11), .ref (a + 12), .ref (a + 13), .ref (a + 14), .ref (a + 15), .ref (a + 16), .int (Int32.ofInt 0), .int (Int32.ofInt 0), .ref (a + 17), .ref (a + 18), .ref (a + 19), .ref (a + 20), .ref (a + 21), .ref (a + 22), .ref (a + 23), .ref (a + 24), .ref (a + 25)]) hx hb hts (pm_uwB (ci := 12) (r := (RX12, TX12, 31)) rfl) hown hK hP 0 (Nat.le_of_ble_eq_true rfl) (Eq.trans (b := cs_B 248 G a 0) rfl (cs_B12 G a)) rfl 0 (by decide) (hts _ (pm_TB_in (j := 1273) (by decide +kernel) rfl)) (fun _ h9 => h9) rfl dX12_init_322 ?_
      refine lv_bipush (v := nI 60) hx hb dX12_init_325 (by decide) ?_
      refine lv_iload_n hx hb dX12_init_327 rfl (lv_at hl 0 rfl) ?_
      refine lv_iadd hx hb dX12_init_328 ?_
      rw [nI_add]
      refine lv_ldc2 (own := RX12) (v := Int64.ofInt 10) hx hb hown (hts _ (pm_TB_in (j := 1272) (by decide +kernel) rfl)) dX12_init_329 ?_
      refine cs_last hx hb hK hP hS 1 1 (Nat.le_of_ble_eq_true rfl) rfl rfl (j := nI (60 + i)) (vp_in_nI (by omega) (by decide)) dX12_init_332 (fun H locs hP hS => ?_)
      refine lv_iinc (v := nI (i + 1)) (lv' := [(1, .int (nI (i + 1))), (0, .ref (a + 0))]) hx hb dX12_init_333 hl (k := 0) rfl (nI_1 i) (by decide) rfl (fun ls hl => ?_)
      refine lv_goto (tgt := 315) hx hb dX12_init_336 (by decide) ?_
      refine ih (i + 1) (by omega) H locs (cs_cg hP (fun u hu => ?_)) hS ls hl
      rw [zq_put3 hlt]
      exact cs_xx _ _ _ _ u
  have loop2 : ∀ (k i : Nat), i + k = 4 → ∀ (H : Heap) (locs : List Loc), cs_P D a 26 (cs_x (cs_B 248 G a) 1 (.inl (G.2.1, 620, .inr (.inl (fun j => Int64.ofInt (zq 12 (i : Int) 0 j)))))) H → va_S (cs_A a) s.heap H locs → ∀ ls : Array Slot, lv_has ls 2 [(1, .int (nI i)), (0, .ref (a + 0))] → W p l e ({ frames := 1, cells := 25, slots := 22010, locals := 33 } : Room) s m #[Value.ref a] below meth c H locs 25 22010 (MQ below (cs_Qc D 26 (cs_B 248 G a) a) #[Value.ref a] s (26 - 1) 22010 (cs_A a)) (F0 m 290 ls []) := by
    intro k
    induction k with
    | zero =>
      intro i hi H locs hP hS ls hl
      have hi : i = 4 := hi
      subst hi
      refine lv_iload_n hx hb dX12_init_290 rfl (lv_at hl 0 rfl) ?_
      refine lv_iconst (v := nI 4) hx hb dX12_init_291 (by decide) ?_
      refine lv_icmp_ge (tgt := 313) hx hb dX12_init_292 (by decide) (fun _ => ?_) (fun c9 => absurd (by decide) c9)
      refine lv_iconst (v := nI 0) hx hb dX12_init_313 (by decide) ?_
      refine lv_istore_n (lv' := [(1, .int (nI 0)), (0, .ref (a + 0))]) hx hb dX12_init_314 rfl hl (by decide) rfl (fun ls hl => ?_)
      exact loop3 24 0 (by omega) H locs hP hS ls hl
    | succ k ih =>
      intro i hi H locs hP hS ls hl
      have hlt : i < 4 := by omega
      refine lv_iload_n hx hb dX12_init_290 rfl (lv_at hl 0 rfl) ?_
      refine lv_iconst (v := nI 4) hx hb dX12_init_291 (by decide) ?_
      refine lv_icmp_ge (tgt := 313) hx hb dX12_init_292 (by decide) (fun c9 => absurd c9 (nI_ge hlt (by decide))) (fun _ => ?_)
      refine lv_aload_n hx hb dX12_init_295 rfl (lv_at hl 1 rfl) ?_
      refine cs_get (D := D) (ci := 12) (fs := [.ref (a + 1), .ref (a + 2), .ref (a + 3), .ref (a + 4), .ref (a + 5), .ref (a + 6), .ref (a + 7), .ref (a + 8), .int (Int32.ofInt 0), .int (Int32.ofInt 0), .ref (a + 9), .long (Int64.ofInt 0), .int (Int32.ofInt 0), .ref (a + 10), .ref (a + 11), .ref (a + 12), .ref (a + 13), .ref (a + 14), .ref (a + 15), .ref (a + 16), .int (Int32.ofInt 0), .int (Int32.ofInt 0), .ref (a + 17), .ref (a + 18), .ref (a + 19), .ref (a + 20), .ref (a + 21), .ref (a + 22), .ref (a + 23), .ref (a + 24), .ref (a + 25)]) hx hb hts (pm_uwB (ci := 12) (r := (RX12, TX12, 31)) rfl) hown hK hP 0 (Nat.le_of_ble_eq_true rfl) (Eq.trans (b := cs_B 248 G a 0) rfl (cs_B12 G a)) rfl 0 (by decide) (hts _ (pm_TB_in (j := 1273) (by decide +kernel) rfl)) (fun _ h9 => h9) rfl dX12_init_296 ?_
      refine lv_bipush (v := nI 56) hx hb dX12_init_299 (by decide) ?_
      refine lv_iload_n hx hb dX12_init_301 rfl (lv_at hl 0 rfl) ?_
      refine lv_iadd hx hb dX12_init_302 ?_
      rw [nI_add]
      refine lv_ldc2 (own := RX12) (v := Int64.ofInt 10000) hx hb hown (hts _ (pm_TB_in (j := 1271) (by decide +kernel) rfl)) dX12_init_303 ?_
      refine cs_last hx hb hK hP hS 1 1 (Nat.le_of_ble_eq_true rfl) rfl rfl (j := nI (56 + i)) (vp_in_nI (by omega) (by decide)) dX12_init_306 (fun H locs hP hS => ?_)
      refine lv_iinc (v := nI (i + 1)) (lv' := [(1, .int (nI (i + 1))), (0, .ref (a + 0))]) hx hb dX12_init_307 hl (k := 0) rfl (nI_1 i) (by decide) rfl (fun ls hl => ?_)
      refine lv_goto (tgt := 290) hx hb dX12_init_310 (by decide) ?_
      refine ih (i + 1) (by omega) H locs (cs_cg hP (fun u hu => ?_)) hS ls hl
      rw [zq_put2 hlt]
      exact cs_xx _ _ _ _ u
  have loop1 : ∀ (k i : Nat), i + k = 12 → ∀ (H : Heap) (locs : List Loc), cs_P D a 26 (cs_x (cs_B 248 G a) 1 (.inl (G.2.1, 620, .inr (.inl (fun j => Int64.ofInt (zq (i : Int) 0 0 j)))))) H → va_S (cs_A a) s.heap H locs → ∀ ls : Array Slot, lv_has ls 2 [(1, .int (nI i)), (0, .ref (a + 0))] → W p l e ({ frames := 1, cells := 25, slots := 22010, locals := 33 } : Room) s m #[Value.ref a] below meth c H locs 25 22010 (MQ below (cs_Qc D 26 (cs_B 248 G a) a) #[Value.ref a] s (26 - 1) 22010 (cs_A a)) (F0 m 264 ls []) := by
    intro k
    induction k with
    | zero =>
      intro i hi H locs hP hS ls hl
      have hi : i = 12 := hi
      subst hi
      refine lv_iload_n hx hb dX12_init_264 rfl (lv_at hl 0 rfl) ?_
      refine lv_bipush (v := nI 12) hx hb dX12_init_265 (by decide) ?_
      refine lv_icmp_ge (tgt := 288) hx hb dX12_init_267 (by decide) (fun _ => ?_) (fun c9 => absurd (by decide) c9)
      refine lv_iconst (v := nI 0) hx hb dX12_init_288 (by decide) ?_
      refine lv_istore_n (lv' := [(1, .int (nI 0)), (0, .ref (a + 0))]) hx hb dX12_init_289 rfl hl (by decide) rfl (fun ls hl => ?_)
      exact loop2 4 0 (by omega) H locs hP hS ls hl
    | succ k ih =>
      intro i hi H locs hP hS ls hl
      have hlt : i < 12 := by omega
      refine lv_iload_n hx hb dX12_init_264 rfl (lv_at hl 0 rfl) ?_
      refine lv_bipush (v := nI 12) hx hb dX12_init_265 (by decide) ?_
      refine lv_icmp_ge (tgt := 288) hx hb dX12_init_267 (by decide) (fun c9 => absurd c9 (nI_ge hlt (by decide))) (fun _ => ?_)
      refine lv_aload_n hx hb dX12_init_270 rfl (lv_at hl 1 rfl) ?_
      refine cs_get (D := D) (ci := 12) (fs := [.ref (a + 1), .ref (a + 2), .ref (a + 3), .ref (a + 4), .ref (a + 5), .ref (a + 6), .ref (a + 7), .ref (a + 8), .int (Int32.ofInt 0), .int (Int32.ofInt 0), .ref (a + 9), .long (Int64.ofInt 0), .int (Int32.ofInt 0), .ref (a + 10), .ref (a + 11), .ref (a + 12), .ref (a + 13), .ref (a + 14), .ref (a + 15), .ref (a + 16), .int (Int32.ofInt 0), .int (Int32.ofInt 0), .ref (a + 17), .ref (a + 18), .ref (a + 19), .ref (a + 20), .ref (a + 21), .ref (a + 22), .ref (a + 23), .ref (a + 24), .ref (a + 25)]) hx hb hts (pm_uwB (ci := 12) (r := (RX12, TX12, 31)) rfl) hown hK hP 0 (Nat.le_of_ble_eq_true rfl) (Eq.trans (b := cs_B 248 G a 0) rfl (cs_B12 G a)) rfl 0 (by decide) (hts _ (pm_TB_in (j := 1273) (by decide +kernel) rfl)) (fun _ h9 => h9) rfl dX12_init_271 ?_
      refine lv_bipush (v := nI 44) hx hb dX12_init_274 (by decide) ?_
      refine lv_iload_n hx hb dX12_init_276 rfl (lv_at hl 0 rfl) ?_
      refine lv_iadd hx hb dX12_init_277 ?_
      rw [nI_add]
      refine lv_ldc2 (own := RX12) (v := Int64.ofInt 200) hx hb hown (hts _ (pm_TB_in (j := 1270) (by decide +kernel) rfl)) dX12_init_278 ?_
      refine cs_last hx hb hK hP hS 1 1 (Nat.le_of_ble_eq_true rfl) rfl rfl (j := nI (44 + i)) (vp_in_nI (by omega) (by decide)) dX12_init_281 (fun H locs hP hS => ?_)
      refine lv_iinc (v := nI (i + 1)) (lv' := [(1, .int (nI (i + 1))), (0, .ref (a + 0))]) hx hb dX12_init_282 hl (k := 0) rfl (nI_1 i) (by decide) rfl (fun ls hl => ?_)
      refine lv_goto (tgt := 264) hx hb dX12_init_285 (by decide) ?_
      refine ih (i + 1) (by omega) H locs (cs_cg hP (fun u hu => ?_)) hS ls hl
      rw [zq_put1 hlt]
      exact cs_xx _ _ _ _ u
  refine W.widen (k := 25) (n := 22010) (Nat.le_of_ble_eq_true rfl) (Nat.le_of_ble_eq_true rfl) ?_
  have hP : cs_P D a 26 (cs_x (cs_B 248 G a) 1 (.inl (G.2.1, 620, .inr (.inl (fun j => Int64.ofInt (zq ((0 : Nat) : Int) 0 0 j)))))) H := by
    refine cs_cg (n := 26) hP (fun i hi => ?_)
    match i, hi with
    | 0, _ => exact Eq.trans (b := .inr (12, [.ref (a + 1), .ref (a + 2), .ref (a + 3), .ref (a + 4), .ref (a + 5), .ref (a + 6), .ref (a + 7), .ref (a + 8), .int (Int32.ofInt 0), .int (Int32.ofInt 0), .ref (a + 9), .long (Int64.ofInt 0), .int (Int32.ofInt 0), .ref (a + 10), .ref (a + 11), .ref (a + 12), .ref (a + 13), .ref (a + 14), .ref (a + 15), .ref (a + 16), .int (Int32.ofInt 0), .int (Int32.ofInt 0), .ref (a + 17), .ref (a + 18), .ref (a + 19), .ref (a + 20), .ref (a + 21), .ref (a + 22), .ref (a + 23), .ref (a + 24), .ref (a + 25)])) rfl (Eq.trans (cs_B12 G a).symm rfl)
    | 1, _ => exact Eq.trans (b := .inl (G.2.1, 620, .inr (.inl zq_s))) rfl (Eq.trans (congrArg (fun f => (.inl (G.2.1, 620, .inr (.inl f)) : va_E)) zq_0) rfl)
    | 2, _ => exact Eq.trans (b := .inl (G.2.1, 620, .inr (.inl (fun _ => Int64.ofInt 0)))) rfl rfl
    | 3, _ => exact Eq.trans (b := .inl (G.2.1, 620, .inr (.inl (fun _ => Int64.ofInt 0)))) rfl rfl
    | 4, _ => exact Eq.trans (b := .inl (G.2.1, 620, .inr (.inl (fun _ => Int64.ofInt 0)))) rfl rfl
    | 5, _ => exact Eq.trans (b := .inl (G.2.1, 620, .inr (.inl (fun _ => Int64.ofInt 0)))) rfl rfl
    | 6, _ => exact Eq.trans (b := .inl (G.2.2.1, 2, .inl (fun _ => Int32.ofInt 0))) rfl rfl
    | 7, _ => exact Eq.trans (b := .inl (G.2.1, 130, .inr (.inl (fun _ => Int64.ofInt 0)))) rfl rfl
    | 8, _ => exact Eq.trans (b := .inl (G.1, 130, .inl (fun _ => Int32.ofInt 0))) rfl rfl
    | 9, _ => exact Eq.trans (b := .inl (G.2.2.1, 12, .inl (fun _ => Int32.ofInt 0))) rfl rfl
    | 10, _ => exact Eq.trans (b := .inl (G.1, 16, .inl (fun _ => Int32.ofInt 0))) rfl rfl
    | 11, _ => exact Eq.trans (b := .inl (G.1, 16, .inl (fun _ => Int32.ofInt 0))) rfl rfl
    | 12, _ => exact Eq.trans (b := .inl (G.2.1, 12, .inr (.inl (fun _ => Int64.ofInt 0)))) rfl rfl
    | 13, _ => exact Eq.trans (b := .inl (G.2.1, 12, .inr (.inl (fun _ => Int64.ofInt 0)))) rfl rfl
    | 14, _ => exact Eq.trans (b := .inl (G.2.1, 12, .inr (.inl (fun _ => Int64.ofInt 0)))) rfl rfl
    | 15, _ => exact Eq.trans (b := .inl (G.2.2.1, 16, .inl (fun _ => Int32.ofInt 0))) rfl rfl
    | 16, _ => exact Eq.trans (b := .inl (G.2.1, 40, .inr (.inl (fun _ => Int64.ofInt 0)))) rfl rfl
    | 17, _ => exact Eq.trans (b := .inl (G.1, 9216, .inl (fun _ => Int32.ofInt 0))) rfl rfl
    | 18, _ => exact Eq.trans (b := .inl (G.2.1, 9216, .inr (.inl (fun _ => Int64.ofInt 0)))) rfl rfl
    | 19, _ => exact Eq.trans (b := .inl (G.1, 16, .inl (fun _ => Int32.ofInt 0))) rfl rfl
    | 20, _ => exact Eq.trans (b := .inl (G.2.1, 24, .inr (.inl (fun _ => Int64.ofInt 0)))) rfl rfl
    | 21, _ => exact Eq.trans (b := .inl (G.2.1, 24, .inr (.inl (fun _ => Int64.ofInt 0)))) rfl rfl
    | 22, _ => exact Eq.trans (b := .inl (G.2.2.1, 4, .inl (fun _ => Int32.ofInt 0))) rfl rfl
    | 23, _ => exact Eq.trans (b := .inl (G.1, 4, .inl (fun _ => Int32.ofInt 0))) rfl rfl
    | 24, _ => exact Eq.trans (b := .inl (G.1, 4, .inl (fun _ => Int32.ofInt 0))) rfl rfl
    | 25, _ => exact Eq.trans (b := .inl (G.1, 4, .inl (fun _ => Int32.ofInt 0))) rfl rfl
    | k + 26, h => exact absurd h (by omega)
  refine lv_iconst (v := nI 0) hx hb dX12_init_262 (by decide) ?_
  refine lv_istore_n (lv' := [(1, .int (nI 0)), (0, .ref (a + 0))]) hx hb dX12_init_263 rfl hl (by decide) rfl (fun ls hl => ?_)
  exact loop1 12 0 (by omega) H locs hP hS ls hl
