def mm_Mo_doTransfer : MzT := (⟨"ParcelLineModel", "doTransfer", "(II)V"⟩, prog_14_method_53_code, 7, (Option.none : Option Jvm.ClassFile.FieldType))
theorem cs_Mo_doTransfer {mm : MzT} : mzCall mm mm_Mo_doTransfer 2 := ⟨wn_Mo, wco_Mo_doTransfer, by decide +kernel, by decide⟩
theorem d_Mo_doTransfer_0 : decode mm_Mo_doTransfer.2.1 0 = .ok (.iload_n 1, 1) := by decide +kernel
theorem d_Mo_doTransfer_1 : decode mm_Mo_doTransfer.2.1 1 = .ok (.bipush 12, 2) := by decide +kernel
theorem d_Mo_doTransfer_3 : decode mm_Mo_doTransfer.2.1 3 = .ok (.if_icmp .ne 9, 3) := by decide +kernel
theorem d_Mo_doTransfer_6 : decode mm_Mo_doTransfer.2.1 6 = .ok (.aload_n 0, 1) := by decide +kernel
theorem d_Mo_doTransfer_7 : decode mm_Mo_doTransfer.2.1 7 = .ok (.iload_n 2, 1) := by decide +kernel
theorem d_Mo_doTransfer_8 : decode mm_Mo_doTransfer.2.1 8 = .ok (.invokevirtual 304, 3) := by decide +kernel
theorem d_Mo_doTransfer_11 : decode mm_Mo_doTransfer.2.1 11 = .ok (.return_, 1) := by decide +kernel
theorem d_Mo_doTransfer_12 : decode mm_Mo_doTransfer.2.1 12 = .ok (.aload_n 0, 1) := by decide +kernel
theorem d_Mo_doTransfer_13 : decode mm_Mo_doTransfer.2.1 13 = .ok (.getfield 249, 3) := by decide +kernel
theorem d_Mo_doTransfer_16 : decode mm_Mo_doTransfer.2.1 16 = .ok (.ifCond .ge 7, 3) := by decide +kernel
theorem d_Mo_doTransfer_19 : decode mm_Mo_doTransfer.2.1 19 = .ok (.iconst 0, 1) := by decide +kernel
theorem d_Mo_doTransfer_20 : decode mm_Mo_doTransfer.2.1 20 = .ok (.goto 12, 3) := by decide +kernel
theorem d_Mo_doTransfer_23 : decode mm_Mo_doTransfer.2.1 23 = .ok (.aload_n 0, 1) := by decide +kernel
theorem d_Mo_doTransfer_24 : decode mm_Mo_doTransfer.2.1 24 = .ok (.getfield 47, 3) := by decide +kernel
theorem d_Mo_doTransfer_27 : decode mm_Mo_doTransfer.2.1 27 = .ok (.aload_n 0, 1) := by decide +kernel
theorem d_Mo_doTransfer_28 : decode mm_Mo_doTransfer.2.1 28 = .ok (.getfield 249, 3) := by decide +kernel
theorem d_Mo_doTransfer_31 : decode mm_Mo_doTransfer.2.1 31 = .ok (.iaload, 1) := by decide +kernel
theorem d_Mo_doTransfer_32 : decode mm_Mo_doTransfer.2.1 32 = .ok (.istore_n 3, 1) := by decide +kernel
theorem d_Mo_doTransfer_33 : decode mm_Mo_doTransfer.2.1 33 = .ok (.iload_n 1, 1) := by decide +kernel
theorem d_Mo_doTransfer_34 : decode mm_Mo_doTransfer.2.1 34 = .ok (.bipush 14, 2) := by decide +kernel
theorem d_Mo_doTransfer_36 : decode mm_Mo_doTransfer.2.1 36 = .ok (.if_icmp .ne 7, 3) := by decide +kernel
theorem d_Mo_doTransfer_39 : decode mm_Mo_doTransfer.2.1 39 = .ok (.iload_n 3, 1) := by decide +kernel
theorem d_Mo_doTransfer_40 : decode mm_Mo_doTransfer.2.1 40 = .ok (.goto 4, 3) := by decide +kernel
theorem d_Mo_doTransfer_43 : decode mm_Mo_doTransfer.2.1 43 = .ok (.iload_n 2, 1) := by decide +kernel
theorem d_Mo_doTransfer_44 : decode mm_Mo_doTransfer.2.1 44 = .ok (.istore 4, 2) := by decide +kernel
theorem d_Mo_doTransfer_46 : decode mm_Mo_doTransfer.2.1 46 = .ok (.aload_n 0, 1) := by decide +kernel
theorem d_Mo_doTransfer_47 : decode mm_Mo_doTransfer.2.1 47 = .ok (.getfield 249, 3) := by decide +kernel
theorem d_Mo_doTransfer_50 : decode mm_Mo_doTransfer.2.1 50 = .ok (.ifCond .ge 10, 3) := by decide +kernel
theorem d_Mo_doTransfer_53 : decode mm_Mo_doTransfer.2.1 53 = .ok (.aload_n 0, 1) := by decide +kernel
theorem d_Mo_doTransfer_54 : decode mm_Mo_doTransfer.2.1 54 = .ok (.invokevirtual 273, 3) := by decide +kernel
theorem d_Mo_doTransfer_57 : decode mm_Mo_doTransfer.2.1 57 = .ok (.goto 7, 3) := by decide +kernel
theorem d_Mo_doTransfer_60 : decode mm_Mo_doTransfer.2.1 60 = .ok (.aload_n 0, 1) := by decide +kernel
theorem d_Mo_doTransfer_61 : decode mm_Mo_doTransfer.2.1 61 = .ok (.getfield 249, 3) := by decide +kernel
theorem d_Mo_doTransfer_64 : decode mm_Mo_doTransfer.2.1 64 = .ok (.istore 5, 2) := by decide +kernel
theorem d_Mo_doTransfer_66 : decode mm_Mo_doTransfer.2.1 66 = .ok (.iconst 0, 1) := by decide +kernel
theorem d_Mo_doTransfer_67 : decode mm_Mo_doTransfer.2.1 67 = .ok (.istore 6, 2) := by decide +kernel
theorem d_Mo_doTransfer_69 : decode mm_Mo_doTransfer.2.1 69 = .ok (.aload_n 0, 1) := by decide +kernel
theorem d_Mo_doTransfer_70 : decode mm_Mo_doTransfer.2.1 70 = .ok (.getfield 249, 3) := by decide +kernel
theorem d_Mo_doTransfer_73 : decode mm_Mo_doTransfer.2.1 73 = .ok (.ifCond .lt 18, 3) := by decide +kernel
theorem d_Mo_doTransfer_76 : decode mm_Mo_doTransfer.2.1 76 = .ok (.aload_n 0, 1) := by decide +kernel
theorem d_Mo_doTransfer_77 : decode mm_Mo_doTransfer.2.1 77 = .ok (.getfield 38, 3) := by decide +kernel
theorem d_Mo_doTransfer_80 : decode mm_Mo_doTransfer.2.1 80 = .ok (.aload_n 0, 1) := by decide +kernel
theorem d_Mo_doTransfer_81 : decode mm_Mo_doTransfer.2.1 81 = .ok (.getfield 249, 3) := by decide +kernel
theorem d_Mo_doTransfer_84 : decode mm_Mo_doTransfer.2.1 84 = .ok (.baload, 1) := by decide +kernel
theorem d_Mo_doTransfer_85 : decode mm_Mo_doTransfer.2.1 85 = .ok (.ifCond .ne 21, 3) := by decide +kernel
theorem d_Mo_doTransfer_88 : decode mm_Mo_doTransfer.2.1 88 = .ok (.goto 10, 3) := by decide +kernel
theorem d_Mo_doTransfer_91 : decode mm_Mo_doTransfer.2.1 91 = .ok (.aload_n 0, 1) := by decide +kernel
theorem d_Mo_doTransfer_92 : decode mm_Mo_doTransfer.2.1 92 = .ok (.getfield 252, 3) := by decide +kernel
theorem d_Mo_doTransfer_95 : decode mm_Mo_doTransfer.2.1 95 = .ok (.ifCond .ge 11, 3) := by decide +kernel
theorem d_Mo_doTransfer_98 : decode mm_Mo_doTransfer.2.1 98 = .ok (.sipush 550, 3) := by decide +kernel
theorem d_Mo_doTransfer_101 : decode mm_Mo_doTransfer.2.1 101 = .ok (.istore 6, 2) := by decide +kernel
theorem d_Mo_doTransfer_103 : decode mm_Mo_doTransfer.2.1 103 = .ok (.goto 73, 3) := by decide +kernel
theorem d_Mo_doTransfer_106 : decode mm_Mo_doTransfer.2.1 106 = .ok (.aload_n 0, 1) := by decide +kernel
theorem d_Mo_doTransfer_107 : decode mm_Mo_doTransfer.2.1 107 = .ok (.getfield 249, 3) := by decide +kernel
theorem d_Mo_doTransfer_110 : decode mm_Mo_doTransfer.2.1 110 = .ok (.ifCond .lt 22, 3) := by decide +kernel
theorem d_Mo_doTransfer_113 : decode mm_Mo_doTransfer.2.1 113 = .ok (.aload_n 0, 1) := by decide +kernel
theorem d_Mo_doTransfer_114 : decode mm_Mo_doTransfer.2.1 114 = .ok (.aload_n 0, 1) := by decide +kernel
theorem d_Mo_doTransfer_115 : decode mm_Mo_doTransfer.2.1 115 = .ok (.getfield 249, 3) := by decide +kernel
theorem d_Mo_doTransfer_118 : decode mm_Mo_doTransfer.2.1 118 = .ok (.invokevirtual 267, 3) := by decide +kernel
theorem d_Mo_doTransfer_121 : decode mm_Mo_doTransfer.2.1 121 = .ok (.ifCond .eq 11, 3) := by decide +kernel
theorem d_Mo_doTransfer_124 : decode mm_Mo_doTransfer.2.1 124 = .ok (.sipush 450, 3) := by decide +kernel
theorem d_Mo_doTransfer_127 : decode mm_Mo_doTransfer.2.1 127 = .ok (.istore 6, 2) := by decide +kernel
theorem d_Mo_doTransfer_129 : decode mm_Mo_doTransfer.2.1 129 = .ok (.goto 47, 3) := by decide +kernel
theorem d_Mo_doTransfer_132 : decode mm_Mo_doTransfer.2.1 132 = .ok (.aload_n 0, 1) := by decide +kernel
theorem d_Mo_doTransfer_133 : decode mm_Mo_doTransfer.2.1 133 = .ok (.getfield 95, 3) := by decide +kernel
theorem d_Mo_doTransfer_136 : decode mm_Mo_doTransfer.2.1 136 = .ok (.aload_n 0, 1) := by decide +kernel
theorem d_Mo_doTransfer_137 : decode mm_Mo_doTransfer.2.1 137 = .ok (.getfield 137, 3) := by decide +kernel
theorem d_Mo_doTransfer_140 : decode mm_Mo_doTransfer.2.1 140 = .ok (.baload, 1) := by decide +kernel
theorem d_Mo_doTransfer_141 : decode mm_Mo_doTransfer.2.1 141 = .ok (.ifCond .ne 11, 3) := by decide +kernel
theorem d_Mo_doTransfer_144 : decode mm_Mo_doTransfer.2.1 144 = .ok (.sipush 425, 3) := by decide +kernel
theorem d_Mo_doTransfer_147 : decode mm_Mo_doTransfer.2.1 147 = .ok (.istore 6, 2) := by decide +kernel
theorem d_Mo_doTransfer_149 : decode mm_Mo_doTransfer.2.1 149 = .ok (.goto 27, 3) := by decide +kernel
theorem d_Mo_doTransfer_152 : decode mm_Mo_doTransfer.2.1 152 = .ok (.iload 4, 2) := by decide +kernel
theorem d_Mo_doTransfer_154 : decode mm_Mo_doTransfer.2.1 154 = .ok (.iload_n 3, 1) := by decide +kernel
theorem d_Mo_doTransfer_155 : decode mm_Mo_doTransfer.2.1 155 = .ok (.if_icmp .le 11, 3) := by decide +kernel
theorem d_Mo_doTransfer_158 : decode mm_Mo_doTransfer.2.1 158 = .ok (.sipush 554, 3) := by decide +kernel
theorem d_Mo_doTransfer_161 : decode mm_Mo_doTransfer.2.1 161 = .ok (.istore 6, 2) := by decide +kernel
theorem d_Mo_doTransfer_163 : decode mm_Mo_doTransfer.2.1 163 = .ok (.goto 13, 3) := by decide +kernel
theorem d_Mo_doTransfer_166 : decode mm_Mo_doTransfer.2.1 166 = .ok (.iload 5, 2) := by decide +kernel
theorem d_Mo_doTransfer_168 : decode mm_Mo_doTransfer.2.1 168 = .ok (.ifCond .ge 8, 3) := by decide +kernel
theorem d_Mo_doTransfer_171 : decode mm_Mo_doTransfer.2.1 171 = .ok (.sipush 552, 3) := by decide +kernel
theorem d_Mo_doTransfer_174 : decode mm_Mo_doTransfer.2.1 174 = .ok (.istore 6, 2) := by decide +kernel
theorem d_Mo_doTransfer_176 : decode mm_Mo_doTransfer.2.1 176 = .ok (.iload 6, 2) := by decide +kernel
theorem d_Mo_doTransfer_178 : decode mm_Mo_doTransfer.2.1 178 = .ok (.ifCond .le 10, 3) := by decide +kernel
theorem d_Mo_doTransfer_181 : decode mm_Mo_doTransfer.2.1 181 = .ok (.aload_n 0, 1) := by decide +kernel
theorem d_Mo_doTransfer_182 : decode mm_Mo_doTransfer.2.1 182 = .ok (.iload 6, 2) := by decide +kernel
theorem d_Mo_doTransfer_184 : decode mm_Mo_doTransfer.2.1 184 = .ok (.invokevirtual 218, 3) := by decide +kernel
theorem d_Mo_doTransfer_187 : decode mm_Mo_doTransfer.2.1 187 = .ok (.return_, 1) := by decide +kernel
theorem d_Mo_doTransfer_188 : decode mm_Mo_doTransfer.2.1 188 = .ok (.aload_n 0, 1) := by decide +kernel
theorem d_Mo_doTransfer_189 : decode mm_Mo_doTransfer.2.1 189 = .ok (.getfield 249, 3) := by decide +kernel
theorem d_Mo_doTransfer_192 : decode mm_Mo_doTransfer.2.1 192 = .ok (.ifCond .ge 10, 3) := by decide +kernel
theorem d_Mo_doTransfer_195 : decode mm_Mo_doTransfer.2.1 195 = .ok (.aload_n 0, 1) := by decide +kernel
theorem d_Mo_doTransfer_196 : decode mm_Mo_doTransfer.2.1 196 = .ok (.iload 5, 2) := by decide +kernel
theorem d_Mo_doTransfer_198 : decode mm_Mo_doTransfer.2.1 198 = .ok (.iconst 1, 1) := by decide +kernel
theorem d_Mo_doTransfer_199 : decode mm_Mo_doTransfer.2.1 199 = .ok (.invokevirtual 282, 3) := by decide +kernel
theorem d_Mo_doTransfer_202 : decode mm_Mo_doTransfer.2.1 202 = .ok (.aload_n 0, 1) := by decide +kernel
theorem d_Mo_doTransfer_203 : decode mm_Mo_doTransfer.2.1 203 = .ok (.getfield 47, 3) := by decide +kernel
theorem d_Mo_doTransfer_206 : decode mm_Mo_doTransfer.2.1 206 = .ok (.iload 5, 2) := by decide +kernel
theorem d_Mo_doTransfer_208 : decode mm_Mo_doTransfer.2.1 208 = .ok (.iload 4, 2) := by decide +kernel
theorem d_Mo_doTransfer_210 : decode mm_Mo_doTransfer.2.1 210 = .ok (.iastore, 1) := by decide +kernel
theorem d_Mo_doTransfer_211 : decode mm_Mo_doTransfer.2.1 211 = .ok (.aload_n 0, 1) := by decide +kernel
theorem d_Mo_doTransfer_212 : decode mm_Mo_doTransfer.2.1 212 = .ok (.getfield 50, 3) := by decide +kernel
theorem d_Mo_doTransfer_215 : decode mm_Mo_doTransfer.2.1 215 = .ok (.iload 5, 2) := by decide +kernel
theorem d_Mo_doTransfer_217 : decode mm_Mo_doTransfer.2.1 217 = .ok (.iconst 0, 1) := by decide +kernel
theorem d_Mo_doTransfer_218 : decode mm_Mo_doTransfer.2.1 218 = .ok (.bastore, 1) := by decide +kernel
theorem d_Mo_doTransfer_219 : decode mm_Mo_doTransfer.2.1 219 = .ok (.aload_n 0, 1) := by decide +kernel
theorem d_Mo_doTransfer_220 : decode mm_Mo_doTransfer.2.1 220 = .ok (.getfield 98, 3) := by decide +kernel
theorem d_Mo_doTransfer_223 : decode mm_Mo_doTransfer.2.1 223 = .ok (.aload_n 0, 1) := by decide +kernel
theorem d_Mo_doTransfer_224 : decode mm_Mo_doTransfer.2.1 224 = .ok (.getfield 137, 3) := by decide +kernel
theorem d_Mo_doTransfer_227 : decode mm_Mo_doTransfer.2.1 227 = .ok (.iconst 2, 1) := by decide +kernel
theorem d_Mo_doTransfer_228 : decode mm_Mo_doTransfer.2.1 228 = .ok (.iastore, 1) := by decide +kernel
theorem d_Mo_doTransfer_229 : decode mm_Mo_doTransfer.2.1 229 = .ok (.aload_n 0, 1) := by decide +kernel
theorem d_Mo_doTransfer_230 : decode mm_Mo_doTransfer.2.1 230 = .ok (.getfield 101, 3) := by decide +kernel
theorem d_Mo_doTransfer_233 : decode mm_Mo_doTransfer.2.1 233 = .ok (.aload_n 0, 1) := by decide +kernel
theorem d_Mo_doTransfer_234 : decode mm_Mo_doTransfer.2.1 234 = .ok (.getfield 137, 3) := by decide +kernel
theorem d_Mo_doTransfer_237 : decode mm_Mo_doTransfer.2.1 237 = .ok (.iload 5, 2) := by decide +kernel
theorem d_Mo_doTransfer_239 : decode mm_Mo_doTransfer.2.1 239 = .ok (.iastore, 1) := by decide +kernel
theorem d_Mo_doTransfer_240 : decode mm_Mo_doTransfer.2.1 240 = .ok (.aload_n 0, 1) := by decide +kernel
theorem d_Mo_doTransfer_241 : decode mm_Mo_doTransfer.2.1 241 = .ok (.getfield 104, 3) := by decide +kernel
theorem d_Mo_doTransfer_244 : decode mm_Mo_doTransfer.2.1 244 = .ok (.aload_n 0, 1) := by decide +kernel
theorem d_Mo_doTransfer_245 : decode mm_Mo_doTransfer.2.1 245 = .ok (.getfield 137, 3) := by decide +kernel
theorem d_Mo_doTransfer_248 : decode mm_Mo_doTransfer.2.1 248 = .ok (.iconst 0, 1) := by decide +kernel
theorem d_Mo_doTransfer_249 : decode mm_Mo_doTransfer.2.1 249 = .ok (.bastore, 1) := by decide +kernel
theorem d_Mo_doTransfer_250 : decode mm_Mo_doTransfer.2.1 250 = .ok (.aload_n 0, 1) := by decide +kernel
theorem d_Mo_doTransfer_251 : decode mm_Mo_doTransfer.2.1 251 = .ok (.sipush 150, 3) := by decide +kernel
theorem d_Mo_doTransfer_254 : decode mm_Mo_doTransfer.2.1 254 = .ok (.invokevirtual 218, 3) := by decide +kernel
theorem d_Mo_doTransfer_257 : decode mm_Mo_doTransfer.2.1 257 = .ok (.return_, 1) := by decide +kernel
def wp_Mo_doTransfer_202   (K : MzM → Prop) (y4 : Int32) (y5 : Int32) (M : MzM) : Prop := (∃ j47 : Nat, y5.toInt = (j47 : Int) ∧ j47 < 16 ∧ ∀ M44 : MzM, M44 = mz_si M (36, 0) j47 y4 → (∃ j53 : Nat, y5.toInt = (j53 : Int) ∧ j53 < 16 ∧ ∀ M50 : MzM, M50 = mz_si M44 (37, 0) j53 (0 : Int32) → (∃ j59 : Nat, (mz_i M50 (30, 0) 29).toInt = (j59 : Int) ∧ j59 < 2 ∧ ∀ M56 : MzM, M56 = mz_si M50 (53, 0) j59 (2 : Int32) → (∃ j65 : Nat, (mz_i M56 (30, 0) 29).toInt = (j65 : Int) ∧ j65 < 2 ∧ ∀ M62 : MzM, M62 = mz_si M56 (54, 0) j65 y5 → (∃ j71 : Nat, (mz_i M62 (30, 0) 29).toInt = (j71 : Int) ∧ j71 < 2 ∧ ∀ M68 : MzM, M68 = mz_si M62 (55, 0) j71 (0 : Int32) → wp_Mo_answer  (150 : Int32) M68 (fun M74 => K M74))))))
def wp_Mo_doTransfer_176   (K : MzM → Prop) (y4 : Int32) (y5 : Int32) (y6 : Int32) (M : MzM) : Prop := ((y6 ≤ 0 → ((0 ≤ (mz_i M (30, 0) 33) → wp_Mo_doTransfer_202   K y4 y5 M) ∧ (¬ 0 ≤ (mz_i M (30, 0) 33) → wp_Mo_create  y5 (1 : Int32) M (fun M36 => wp_Mo_doTransfer_202   K y4 y5 M36)))) ∧ (¬ y6 ≤ 0 → wp_Mo_answer  y6 M (fun M40 => K M40)))
def wp_Mo_doTransfer_98   (K : MzM → Prop) (y4 : Int32) (y5 : Int32) (M : MzM) : Prop := wp_Mo_doTransfer_176   K y4 y5 (550 : Int32) M
def wp_Mo_doTransfer_132   (K : MzM → Prop) (y3 : Int32) (y4 : Int32) (y5 : Int32) (y6 : Int32) (M : MzM) : Prop := (∃ j29 : Nat, (mz_i M (30, 0) 29).toInt = (j29 : Int) ∧ j29 < 2 ∧ ((¬ (mz_i M (52, 0) j29) = 0 → ((y4 ≤ y3 → ((0 ≤ y5 → wp_Mo_doTransfer_176   K y4 y5 y6 M) ∧ (¬ 0 ≤ y5 → wp_Mo_doTransfer_176   K y4 y5 (552 : Int32) M))) ∧ (¬ y4 ≤ y3 → wp_Mo_doTransfer_176   K y4 y5 (554 : Int32) M))) ∧ ((mz_i M (52, 0) j29) = 0 → wp_Mo_doTransfer_176   K y4 y5 (425 : Int32) M)))
def wp_Mo_doTransfer_106   (K : MzM → Prop) (y3 : Int32) (y4 : Int32) (y5 : Int32) (y6 : Int32) (M : MzM) : Prop := (((mz_i M (30, 0) 33) < 0 → wp_Mo_doTransfer_132   K y3 y4 y5 y6 M) ∧ (¬ (mz_i M (30, 0) 33) < 0 → wp_Mo_moved  (mz_i M (30, 0) 33) M (fun v26 M23 => ((v26 = 0 → wp_Mo_doTransfer_132   K y3 y4 y5 y6 M23) ∧ (¬ v26 = 0 → wp_Mo_doTransfer_176   K y4 y5 (450 : Int32) M23)))))
def wp_Mo_doTransfer_64   (K : MzM → Prop) (y3 : Int32) (y4 : Int32) (ys0 : Int32) (M : MzM) : Prop := (((mz_i M (30, 0) 33) < 0 → ((0 ≤ (mz_i M (30, 0) 34) → wp_Mo_doTransfer_106   K y3 y4 ys0 (0 : Int32) M) ∧ (¬ 0 ≤ (mz_i M (30, 0) 34) → wp_Mo_doTransfer_98   K y4 ys0 M))) ∧ (¬ (mz_i M (30, 0) 33) < 0 → (∃ j17 : Nat, (mz_i M (30, 0) 33).toInt = (j17 : Int) ∧ j17 < 16 ∧ ((¬ (mz_i M (33, 0) j17) = 0 → wp_Mo_doTransfer_106   K y3 y4 ys0 (0 : Int32) M) ∧ ((mz_i M (33, 0) j17) = 0 → wp_Mo_doTransfer_98   K y4 ys0 M)))))
def wp_Mo_doTransfer_44   (K : MzM → Prop) (y3 : Int32) (ys0 : Int32) (M : MzM) : Prop := ((0 ≤ (mz_i M (30, 0) 33) → wp_Mo_doTransfer_64   K y3 ys0 (mz_i M (30, 0) 33) M) ∧ (¬ 0 ≤ (mz_i M (30, 0) 33) → wp_Mo_freeNode   M (fun v14 M11 => wp_Mo_doTransfer_64   K y3 ys0 v14 M11)))
def wp_Mo_doTransfer_32   (K : MzM → Prop) (y1 : Int32) (y2 : Int32) (ys0 : Int32) (M : MzM) : Prop := ((¬ y1 = (14 : Int32) → wp_Mo_doTransfer_44   K ys0 y2 M) ∧ (y1 = (14 : Int32) → wp_Mo_doTransfer_44   K ys0 ys0 M))
def wp_Mo_doTransfer  (a1 : Int32) (a2 : Int32) (M : MzM) (K : MzM → Prop) : Prop := ((¬ a1 = (12 : Int32) → ((0 ≤ (mz_i M (30, 0) 33) → (∃ j1 : Nat, (mz_i M (30, 0) 33).toInt = (j1 : Int) ∧ j1 < 16 ∧ wp_Mo_doTransfer_32   K a1 a2 (mz_i M (36, 0) j1) M)) ∧ (¬ 0 ≤ (mz_i M (30, 0) 33) → wp_Mo_doTransfer_32   K a1 a2 (0 : Int32) M))) ∧ (a1 = (12 : Int32) → wp_Mo_retrieve  a2 M (fun M6 => K M6)))
theorem tm_Mo_doTransfer_202 {G : MzG} {B : MzB} {d : Nat} {K : MzM → Prop} (hF : mzLive true B)     (y4 : Int32) (y5 : Int32) (M : MzM) (hL : mzLnk true M) (h : wp_Mo_doTransfer_202   K y4 y5 M) : MzS G B (d + 6) mm_Mo_doTransfer M (0, 0) (mzK0 true B K) 202 [(0, .ref (mz_ad B (30, 0))), (4, .int y4), (5, .int y5)] [] := by
  unfold wp_Mo_doTransfer_202 at h
  exact (mz_aload_n d_Mo_doTransfer_202 rfl (mz_getR (k := 6) (a := (36, 0)) cl_10 d_Mo_doTransfer_203 (by decide) wf_Mo_47 rfl (hF 30 0 rfl (by decide)) rfl (hL (30, 0) 6 (36, 0) rfl rfl (by decide)) (mz_iload d_Mo_doTransfer_206 rfl (mz_iload d_Mo_doTransfer_208 rfl (match h with | ⟨j47, h48, h49, h46⟩ => mz_iast j47 d_Mo_doTransfer_210 (hF 36 0 rfl (by decide)) rfl h48 h49 (let M44 : MzM := mz_si M (36, 0) j47 y4; (mz_aload_n d_Mo_doTransfer_211 rfl (mz_getR (k := 7) (a := (37, 0)) cl_10 d_Mo_doTransfer_212 (by decide) wf_Mo_50 rfl (hF 30 0 rfl (by decide)) rfl (hL (30, 0) 7 (37, 0) rfl rfl (by decide)) (mz_iload d_Mo_doTransfer_215 rfl (mz_iconst (0 : Int32) d_Mo_doTransfer_217 (by decide) (match (h46 M44 rfl) with | ⟨j53, h54, h55, h52⟩ => mz_zast j53 d_Mo_doTransfer_218 (hF 37 0 rfl (by decide)) rfl h54 h55 (by decide) (let M50 : MzM := mz_si M44 (37, 0) j53 (0 : Int32); (mz_aload_n d_Mo_doTransfer_219 rfl (mz_getR (k := 23) (a := (53, 0)) cl_10 d_Mo_doTransfer_220 (by decide) wf_Mo_98 rfl (hF 30 0 rfl (by decide)) rfl (hL (30, 0) 23 (53, 0) rfl rfl (by decide)) (mz_aload_n d_Mo_doTransfer_223 rfl (mz_getI (k := 29) cl_10 d_Mo_doTransfer_224 (by decide) wf_Mo_137 rfl (hF 30 0 rfl (by decide)) rfl (mz_iconst (2 : Int32) d_Mo_doTransfer_227 (by decide) (match (h52 M50 rfl) with | ⟨j59, h60, h61, h58⟩ => mz_iast j59 d_Mo_doTransfer_228 (hF 53 0 rfl (by decide)) rfl h60 h61 (let M56 : MzM := mz_si M50 (53, 0) j59 (2 : Int32); (mz_aload_n d_Mo_doTransfer_229 rfl (mz_getR (k := 24) (a := (54, 0)) cl_10 d_Mo_doTransfer_230 (by decide) wf_Mo_101 rfl (hF 30 0 rfl (by decide)) rfl (hL (30, 0) 24 (54, 0) rfl rfl (by decide)) (mz_aload_n d_Mo_doTransfer_233 rfl (mz_getI (k := 29) cl_10 d_Mo_doTransfer_234 (by decide) wf_Mo_137 rfl (hF 30 0 rfl (by decide)) rfl (mz_iload d_Mo_doTransfer_237 rfl (match (h58 M56 rfl) with | ⟨j65, h66, h67, h64⟩ => mz_iast j65 d_Mo_doTransfer_239 (hF 54 0 rfl (by decide)) rfl h66 h67 (let M62 : MzM := mz_si M56 (54, 0) j65 y5; (mz_aload_n d_Mo_doTransfer_240 rfl (mz_getR (k := 25) (a := (55, 0)) cl_10 d_Mo_doTransfer_241 (by decide) wf_Mo_104 rfl (hF 30 0 rfl (by decide)) rfl (hL (30, 0) 25 (55, 0) rfl rfl (by decide)) (mz_aload_n d_Mo_doTransfer_244 rfl (mz_getI (k := 29) cl_10 d_Mo_doTransfer_245 (by decide) wf_Mo_137 rfl (hF 30 0 rfl (by decide)) rfl (mz_iconst (0 : Int32) d_Mo_doTransfer_248 (by decide) (match (h64 M62 rfl) with | ⟨j71, h72, h73, h70⟩ => mz_zast j71 d_Mo_doTransfer_249 (hF 55 0 rfl (by decide)) rfl h72 h73 (by decide) (let M68 : MzM := mz_si M62 (55, 0) j71 (0 : Int32); (mz_aload_n d_Mo_doTransfer_250 rfl (mz_sipush (150 : Int32) d_Mo_doTransfer_251 (by decide) (mz_callV (As := [.int (150 : Int32)]) (st := []) (hF 30 0 rfl (by decide)) rfl (mzClOf cl_10) 0 0 d_Mo_doTransfer_254 cs_Mo_answer wl_Mo_218 wi_Mo_answer wse_Mo_answer (Nat.le_of_ble_eq_true rfl) (Nat.zero_le _) (Nat.zero_le _) (MzC.mono (tm_Mo_answer (d := (d + 3)) hF  hL (h70 M68 rfl)) (fun r9 B9 M74 hq76 => by obtain ⟨rfl, hL75, rfl, hq76⟩ := hq76; exact ⟨none, rfl, (mz_vret d_Mo_doTransfer_257 rfl ⟨rfl, hL75, rfl, hq76⟩)⟩))))))))))))))))))))))))))))))))))))))
theorem tm_Mo_doTransfer_176 {G : MzG} {B : MzB} {d : Nat} {K : MzM → Prop} (hF : mzLive true B)     (y4 : Int32) (y5 : Int32) (y6 : Int32) (M : MzM) (hL : mzLnk true M) (h : wp_Mo_doTransfer_176   K y4 y5 y6 M) : MzS G B (d + 6) mm_Mo_doTransfer M (0, 0) (mzK0 true B K) 176 [(0, .ref (mz_ad B (30, 0))), (4, .int y4), (5, .int y5), (6, .int y6)] [] := by
  unfold wp_Mo_doTransfer_176 at h
  exact (mz_iload d_Mo_doTransfer_176 rfl (mz_if_le 188 d_Mo_doTransfer_178 rfl (fun hc43 => (mz_aload_n d_Mo_doTransfer_188 rfl (mz_getI (k := 33) cl_10 d_Mo_doTransfer_189 (by decide) wf_Mo_249 rfl (hF 30 0 rfl (by decide)) rfl (mz_if_ge 202 d_Mo_doTransfer_192 rfl (fun hc39 => (MzS.loc [(0, .ref (mz_ad B (30, 0))), (4, .int y4), (5, .int y5)] ⟨rfl, rfl, rfl, trivial⟩ (tm_Mo_doTransfer_202 hF   y4 y5 M hL ((h.1 hc43).1 hc39)))) (fun hc39 => (mz_aload_n d_Mo_doTransfer_195 rfl (mz_iload d_Mo_doTransfer_196 rfl (mz_iconst (1 : Int32) d_Mo_doTransfer_198 (by decide) (mz_callV (As := [.int y5, .int (1 : Int32)]) (st := []) (hF 30 0 rfl (by decide)) rfl (mzClOf cl_10) 0 0 d_Mo_doTransfer_199 cs_Mo_create wl_Mo_282 wi_Mo_create wse_Mo_create (Nat.le_of_ble_eq_true rfl) (Nat.zero_le _) (Nat.zero_le _) (MzC.mono (tm_Mo_create (d := (d + 5)) hF  hL ((h.1 hc43).2 hc39)) (fun r9 B9 M36 hq38 => by obtain ⟨rfl, hL37, rfl, hq38⟩ := hq38; exact ⟨none, rfl, (MzS.loc [(0, .ref (mz_ad B (30, 0))), (4, .int y4), (5, .int y5)] ⟨rfl, rfl, rfl, trivial⟩ (tm_Mo_doTransfer_202 hF   y4 y5 M36 hL37 hq38))⟩))))))))))) (fun hc43 => (mz_aload_n d_Mo_doTransfer_181 rfl (mz_iload d_Mo_doTransfer_182 rfl (mz_callV (As := [.int y6]) (st := []) (hF 30 0 rfl (by decide)) rfl (mzClOf cl_10) 0 0 d_Mo_doTransfer_184 cs_Mo_answer wl_Mo_218 wi_Mo_answer wse_Mo_answer (Nat.le_of_ble_eq_true rfl) (Nat.zero_le _) (Nat.zero_le _) (MzC.mono (tm_Mo_answer (d := (d + 3)) hF  hL (h.2 hc43)) (fun r9 B9 M40 hq42 => by obtain ⟨rfl, hL41, rfl, hq42⟩ := hq42; exact ⟨none, rfl, (mz_vret d_Mo_doTransfer_187 rfl ⟨rfl, hL41, rfl, hq42⟩)⟩))))))))
theorem tm_Mo_doTransfer_98 {G : MzG} {B : MzB} {d : Nat} {K : MzM → Prop} (hF : mzLive true B)     (y4 : Int32) (y5 : Int32) (M : MzM) (hL : mzLnk true M) (h : wp_Mo_doTransfer_98   K y4 y5 M) : MzS G B (d + 6) mm_Mo_doTransfer M (0, 0) (mzK0 true B K) 98 [(0, .ref (mz_ad B (30, 0))), (4, .int y4), (5, .int y5)] [] := by
  unfold wp_Mo_doTransfer_98 at h
  exact (mz_sipush (550 : Int32) d_Mo_doTransfer_98 (by decide) (mz_istore d_Mo_doTransfer_101 (by decide) (mz_goto 176 d_Mo_doTransfer_103 rfl (MzS.loc [(0, .ref (mz_ad B (30, 0))), (4, .int y4), (5, .int y5), (6, .int (550 : Int32))] ⟨rfl, rfl, rfl, rfl, trivial⟩ (tm_Mo_doTransfer_176 hF   y4 y5 (550 : Int32) M hL h)))))
theorem tm_Mo_doTransfer_132 {G : MzG} {B : MzB} {d : Nat} {K : MzM → Prop} (hF : mzLive true B)     (y3 : Int32) (y4 : Int32) (y5 : Int32) (y6 : Int32) (M : MzM) (hL : mzLnk true M) (h : wp_Mo_doTransfer_132   K y3 y4 y5 y6 M) : MzS G B (d + 6) mm_Mo_doTransfer M (0, 0) (mzK0 true B K) 132 [(0, .ref (mz_ad B (30, 0))), (3, .int y3), (4, .int y4), (5, .int y5), (6, .int y6)] [] := by
  unfold wp_Mo_doTransfer_132 at h
  exact (mz_aload_n d_Mo_doTransfer_132 rfl (mz_getR (k := 22) (a := (52, 0)) cl_10 d_Mo_doTransfer_133 (by decide) wf_Mo_95 rfl (hF 30 0 rfl (by decide)) rfl (hL (30, 0) 22 (52, 0) rfl rfl (by decide)) (mz_aload_n d_Mo_doTransfer_136 rfl (mz_getI (k := 29) cl_10 d_Mo_doTransfer_137 (by decide) wf_Mo_137 rfl (hF 30 0 rfl (by decide)) rfl (match h with | ⟨j29, h30, h31, h32⟩ => mz_zald j29 d_Mo_doTransfer_140 (hF 52 0 rfl (by decide)) rfl h30 h31 (mz_if_ne 152 d_Mo_doTransfer_141 rfl (fun hc35 => (mz_iload d_Mo_doTransfer_152 rfl (mz_iload_n d_Mo_doTransfer_154 rfl (mz_icmp_le 166 d_Mo_doTransfer_155 rfl (fun hc34 => (mz_iload d_Mo_doTransfer_166 rfl (mz_if_ge 176 d_Mo_doTransfer_168 rfl (fun hc33 => (MzS.loc [(0, .ref (mz_ad B (30, 0))), (4, .int y4), (5, .int y5), (6, .int y6)] ⟨rfl, rfl, rfl, rfl, trivial⟩ (tm_Mo_doTransfer_176 hF   y4 y5 y6 M hL (((h32.1 hc35).1 hc34).1 hc33)))) (fun hc33 => (mz_sipush (552 : Int32) d_Mo_doTransfer_171 (by decide) (mz_istore d_Mo_doTransfer_174 (by decide) (MzS.loc [(0, .ref (mz_ad B (30, 0))), (4, .int y4), (5, .int y5), (6, .int (552 : Int32))] ⟨rfl, rfl, rfl, rfl, trivial⟩ (tm_Mo_doTransfer_176 hF   y4 y5 (552 : Int32) M hL (((h32.1 hc35).1 hc34).2 hc33))))))))) (fun hc34 => (mz_sipush (554 : Int32) d_Mo_doTransfer_158 (by decide) (mz_istore d_Mo_doTransfer_161 (by decide) (mz_goto 176 d_Mo_doTransfer_163 rfl (MzS.loc [(0, .ref (mz_ad B (30, 0))), (4, .int y4), (5, .int y5), (6, .int (554 : Int32))] ⟨rfl, rfl, rfl, rfl, trivial⟩ (tm_Mo_doTransfer_176 hF   y4 y5 (554 : Int32) M hL ((h32.1 hc35).2 hc34))))))))))) (fun hc35 => (mz_sipush (425 : Int32) d_Mo_doTransfer_144 (by decide) (mz_istore d_Mo_doTransfer_147 (by decide) (mz_goto 176 d_Mo_doTransfer_149 rfl (MzS.loc [(0, .ref (mz_ad B (30, 0))), (4, .int y4), (5, .int y5), (6, .int (425 : Int32))] ⟨rfl, rfl, rfl, rfl, trivial⟩ (tm_Mo_doTransfer_176 hF   y4 y5 (425 : Int32) M hL (h32.2 hc35)))))))))))))
theorem tm_Mo_doTransfer_106 {G : MzG} {B : MzB} {d : Nat} {K : MzM → Prop} (hF : mzLive true B)     (y3 : Int32) (y4 : Int32) (y5 : Int32) (y6 : Int32) (M : MzM) (hL : mzLnk true M) (h : wp_Mo_doTransfer_106   K y3 y4 y5 y6 M) : MzS G B (d + 6) mm_Mo_doTransfer M (0, 0) (mzK0 true B K) 106 [(0, .ref (mz_ad B (30, 0))), (3, .int y3), (4, .int y4), (5, .int y5), (6, .int y6)] [] := by
  unfold wp_Mo_doTransfer_106 at h
  exact (mz_aload_n d_Mo_doTransfer_106 rfl (mz_getI (k := 33) cl_10 d_Mo_doTransfer_107 (by decide) wf_Mo_249 rfl (hF 30 0 rfl (by decide)) rfl (mz_if_lt 132 d_Mo_doTransfer_110 rfl (fun hc28 => (MzS.loc [(0, .ref (mz_ad B (30, 0))), (3, .int y3), (4, .int y4), (5, .int y5), (6, .int y6)] ⟨rfl, rfl, rfl, rfl, rfl, trivial⟩ (tm_Mo_doTransfer_132 hF   y3 y4 y5 y6 M hL (h.1 hc28)))) (fun hc28 => (mz_aload_n d_Mo_doTransfer_113 rfl (mz_aload_n d_Mo_doTransfer_114 rfl (mz_getI (k := 33) cl_10 d_Mo_doTransfer_115 (by decide) wf_Mo_249 rfl (hF 30 0 rfl (by decide)) rfl (mz_callV (As := [.int (mz_i M (30, 0) 33)]) (st := []) (hF 30 0 rfl (by decide)) rfl (mzClOf cl_10) 0 0 d_Mo_doTransfer_118 cs_Mo_moved wl_Mo_267 wi_Mo_moved wse_Mo_moved (Nat.le_of_ble_eq_true rfl) (Nat.zero_le _) (Nat.zero_le _) (MzC.mono (tm_Mo_moved (d := (d + 5)) hF  hL (h.2 hc28)) (fun r9 B9 M23 hq25 => by obtain ⟨rfl, hL24, v26, rfl, hq25⟩ := hq25; exact ⟨_, rfl, (mz_if_eq 132 d_Mo_doTransfer_121 rfl (fun hc27 => (MzS.loc [(0, .ref (mz_ad B (30, 0))), (3, .int y3), (4, .int y4), (5, .int y5), (6, .int y6)] ⟨rfl, rfl, rfl, rfl, rfl, trivial⟩ (tm_Mo_doTransfer_132 hF   y3 y4 y5 y6 M23 hL24 (hq25.1 hc27)))) (fun hc27 => (mz_sipush (450 : Int32) d_Mo_doTransfer_124 (by decide) (mz_istore d_Mo_doTransfer_127 (by decide) (mz_goto 176 d_Mo_doTransfer_129 rfl (MzS.loc [(0, .ref (mz_ad B (30, 0))), (4, .int y4), (5, .int y5), (6, .int (450 : Int32))] ⟨rfl, rfl, rfl, rfl, trivial⟩ (tm_Mo_doTransfer_176 hF   y4 y5 (450 : Int32) M23 hL24 (hq25.2 hc27))))))))⟩))))))))))
theorem tm_Mo_doTransfer_64 {G : MzG} {B : MzB} {d : Nat} {K : MzM → Prop} (hF : mzLive true B)     (y3 : Int32) (y4 : Int32) (ys0 : Int32) (M : MzM) (hL : mzLnk true M) (h : wp_Mo_doTransfer_64   K y3 y4 ys0 M) : MzS G B (d + 6) mm_Mo_doTransfer M (0, 0) (mzK0 true B K) 64 [(0, .ref (mz_ad B (30, 0))), (3, .int y3), (4, .int y4)] [.int ys0] := by
  unfold wp_Mo_doTransfer_64 at h
  exact (mz_istore d_Mo_doTransfer_64 (by decide) (mz_iconst (0 : Int32) d_Mo_doTransfer_66 (by decide) (mz_istore d_Mo_doTransfer_67 (by decide) (mz_aload_n d_Mo_doTransfer_69 rfl (mz_getI (k := 33) cl_10 d_Mo_doTransfer_70 (by decide) wf_Mo_249 rfl (hF 30 0 rfl (by decide)) rfl (mz_if_lt 91 d_Mo_doTransfer_73 rfl (fun hc22 => (mz_aload_n d_Mo_doTransfer_91 rfl (mz_getI (k := 34) cl_10 d_Mo_doTransfer_92 (by decide) wf_Mo_252 rfl (hF 30 0 rfl (by decide)) rfl (mz_if_ge 106 d_Mo_doTransfer_95 rfl (fun hc16 => (MzS.loc [(0, .ref (mz_ad B (30, 0))), (3, .int y3), (4, .int y4), (5, .int ys0), (6, .int (0 : Int32))] ⟨rfl, rfl, rfl, rfl, rfl, trivial⟩ (tm_Mo_doTransfer_106 hF   y3 y4 ys0 (0 : Int32) M hL ((h.1 hc22).1 hc16)))) (fun hc16 => (MzS.loc [(0, .ref (mz_ad B (30, 0))), (4, .int y4), (5, .int ys0)] ⟨rfl, rfl, rfl, trivial⟩ (tm_Mo_doTransfer_98 hF   y4 ys0 M hL ((h.1 hc22).2 hc16)))))))) (fun hc22 => (mz_aload_n d_Mo_doTransfer_76 rfl (mz_getR (k := 3) (a := (33, 0)) cl_10 d_Mo_doTransfer_77 (by decide) wf_Mo_38 rfl (hF 30 0 rfl (by decide)) rfl (hL (30, 0) 3 (33, 0) rfl rfl (by decide)) (mz_aload_n d_Mo_doTransfer_80 rfl (mz_getI (k := 33) cl_10 d_Mo_doTransfer_81 (by decide) wf_Mo_249 rfl (hF 30 0 rfl (by decide)) rfl (match (h.2 hc22) with | ⟨j17, h18, h19, h20⟩ => mz_zald j17 d_Mo_doTransfer_84 (hF 33 0 rfl (by decide)) rfl h18 h19 (mz_if_ne 106 d_Mo_doTransfer_85 rfl (fun hc21 => (MzS.loc [(0, .ref (mz_ad B (30, 0))), (3, .int y3), (4, .int y4), (5, .int ys0), (6, .int (0 : Int32))] ⟨rfl, rfl, rfl, rfl, rfl, trivial⟩ (tm_Mo_doTransfer_106 hF   y3 y4 ys0 (0 : Int32) M hL (h20.1 hc21)))) (fun hc21 => (mz_goto 98 d_Mo_doTransfer_88 rfl (MzS.loc [(0, .ref (mz_ad B (30, 0))), (4, .int y4), (5, .int ys0)] ⟨rfl, rfl, rfl, trivial⟩ (tm_Mo_doTransfer_98 hF   y4 ys0 M hL (h20.2 hc21))))))))))))))))))
theorem tm_Mo_doTransfer_44 {G : MzG} {B : MzB} {d : Nat} {K : MzM → Prop} (hF : mzLive true B)     (y3 : Int32) (ys0 : Int32) (M : MzM) (hL : mzLnk true M) (h : wp_Mo_doTransfer_44   K y3 ys0 M) : MzS G B (d + 6) mm_Mo_doTransfer M (0, 0) (mzK0 true B K) 44 [(0, .ref (mz_ad B (30, 0))), (3, .int y3)] [.int ys0] := by
  unfold wp_Mo_doTransfer_44 at h
  exact (mz_istore d_Mo_doTransfer_44 (by decide) (mz_aload_n d_Mo_doTransfer_46 rfl (mz_getI (k := 33) cl_10 d_Mo_doTransfer_47 (by decide) wf_Mo_249 rfl (hF 30 0 rfl (by decide)) rfl (mz_if_ge 60 d_Mo_doTransfer_50 rfl (fun hc15 => (mz_aload_n d_Mo_doTransfer_60 rfl (mz_getI (k := 33) cl_10 d_Mo_doTransfer_61 (by decide) wf_Mo_249 rfl (hF 30 0 rfl (by decide)) rfl (MzS.loc [(0, .ref (mz_ad B (30, 0))), (3, .int y3), (4, .int ys0)] ⟨rfl, rfl, rfl, trivial⟩ (tm_Mo_doTransfer_64 hF   y3 ys0 (mz_i M (30, 0) 33) M hL (h.1 hc15)))))) (fun hc15 => (mz_aload_n d_Mo_doTransfer_53 rfl (mz_callV (As := []) (st := []) (hF 30 0 rfl (by decide)) rfl (mzClOf cl_10) 0 0 d_Mo_doTransfer_54 cs_Mo_freeNode wl_Mo_273 wi_Mo_freeNode wse_Mo_freeNode (Nat.le_of_ble_eq_true rfl) (Nat.zero_le _) (Nat.zero_le _) (MzC.mono (tm_Mo_freeNode (d := (d + 5)) hF  hL (h.2 hc15)) (fun r9 B9 M11 hq13 => by obtain ⟨rfl, hL12, v14, rfl, hq13⟩ := hq13; exact ⟨_, rfl, (mz_goto 64 d_Mo_doTransfer_57 rfl (MzS.loc [(0, .ref (mz_ad B (30, 0))), (3, .int y3), (4, .int ys0)] ⟨rfl, rfl, rfl, trivial⟩ (tm_Mo_doTransfer_64 hF   y3 ys0 v14 M11 hL12 hq13)))⟩)))))))))
theorem tm_Mo_doTransfer_32 {G : MzG} {B : MzB} {d : Nat} {K : MzM → Prop} (hF : mzLive true B)     (y1 : Int32) (y2 : Int32) (ys0 : Int32) (M : MzM) (hL : mzLnk true M) (h : wp_Mo_doTransfer_32   K y1 y2 ys0 M) : MzS G B (d + 6) mm_Mo_doTransfer M (0, 0) (mzK0 true B K) 32 [(0, .ref (mz_ad B (30, 0))), (1, .int y1), (2, .int y2)] [.int ys0] := by
  unfold wp_Mo_doTransfer_32 at h
  exact (mz_istore_n d_Mo_doTransfer_32 (by decide) (mz_iload_n d_Mo_doTransfer_33 rfl (mz_bipush (14 : Int32) d_Mo_doTransfer_34 (by decide) (mz_icmp_ne 43 d_Mo_doTransfer_36 rfl (fun hc10 => (mz_iload_n d_Mo_doTransfer_43 rfl (MzS.loc [(0, .ref (mz_ad B (30, 0))), (3, .int ys0)] ⟨rfl, rfl, trivial⟩ (tm_Mo_doTransfer_44 hF   ys0 y2 M hL (h.1 hc10))))) (fun hc10 => (mz_iload_n d_Mo_doTransfer_39 rfl (mz_goto 44 d_Mo_doTransfer_40 rfl (MzS.loc [(0, .ref (mz_ad B (30, 0))), (3, .int ys0)] ⟨rfl, rfl, trivial⟩ (tm_Mo_doTransfer_44 hF   ys0 ys0 M hL (h.2 hc10))))))))))
theorem tm_Mo_doTransfer {G : MzG} {B : MzB} {d : Nat} {K : MzM → Prop} (hF : mzLive true B)   {a1 : Int32} {a2 : Int32} {M : MzM} (hL : mzLnk true M) (h : wp_Mo_doTransfer  a1 a2 M K) : MzC G B (d + 6) mm_Mo_doTransfer [.ref (mz_ad B (30, 0)), .int a1, .int a2] M (0, 0) (mzK0 true B K) := by
  unfold wp_Mo_doTransfer at h
  exact MzC.of rfl (Nat.le_of_ble_eq_true rfl) (show MzS G B (d + 6) mm_Mo_doTransfer M (0, 0) (mzK0 true B K) 0 [(0, .ref (mz_ad B (30, 0))), (1, .int a1), (2, .int a2)] [] from (mz_iload_n d_Mo_doTransfer_0 rfl (mz_bipush (12 : Int32) d_Mo_doTransfer_1 (by decide) (mz_icmp_ne 12 d_Mo_doTransfer_3 rfl (fun hc9 => (mz_aload_n d_Mo_doTransfer_12 rfl (mz_getI (k := 33) cl_10 d_Mo_doTransfer_13 (by decide) wf_Mo_249 rfl (hF 30 0 rfl (by decide)) rfl (mz_if_ge 23 d_Mo_doTransfer_16 rfl (fun hc5 => (mz_aload_n d_Mo_doTransfer_23 rfl (mz_getR (k := 6) (a := (36, 0)) cl_10 d_Mo_doTransfer_24 (by decide) wf_Mo_47 rfl (hF 30 0 rfl (by decide)) rfl (hL (30, 0) 6 (36, 0) rfl rfl (by decide)) (mz_aload_n d_Mo_doTransfer_27 rfl (mz_getI (k := 33) cl_10 d_Mo_doTransfer_28 (by decide) wf_Mo_249 rfl (hF 30 0 rfl (by decide)) rfl (match ((h.1 hc9).1 hc5) with | ⟨j1, h2, h3, h4⟩ => mz_iald j1 d_Mo_doTransfer_31 (hF 36 0 rfl (by decide)) rfl h2 h3 (MzS.loc [(0, .ref (mz_ad B (30, 0))), (1, .int a1), (2, .int a2)] ⟨rfl, rfl, rfl, trivial⟩ (tm_Mo_doTransfer_32 hF   a1 a2 (mz_i M (36, 0) j1) M hL h4)))))))) (fun hc5 => (mz_iconst (0 : Int32) d_Mo_doTransfer_19 (by decide) (mz_goto 32 d_Mo_doTransfer_20 rfl (MzS.loc [(0, .ref (mz_ad B (30, 0))), (1, .int a1), (2, .int a2)] ⟨rfl, rfl, rfl, trivial⟩ (tm_Mo_doTransfer_32 hF   a1 a2 (0 : Int32) M hL ((h.1 hc9).2 hc5)))))))))) (fun hc9 => (mz_aload_n d_Mo_doTransfer_6 rfl (mz_iload_n d_Mo_doTransfer_7 rfl (mz_callV (As := [.int a2]) (st := []) (hF 30 0 rfl (by decide)) rfl (mzClOf cl_10) 0 0 d_Mo_doTransfer_8 cs_Mo_retrieve wl_Mo_304 wi_Mo_retrieve wse_Mo_retrieve (Nat.le_of_ble_eq_true rfl) (Nat.zero_le _) (Nat.zero_le _) (MzC.mono (tm_Mo_retrieve (d := d) hF  hL (h.2 hc9)) (fun r9 B9 M6 hq8 => by obtain ⟨rfl, hL7, rfl, hq8⟩ := hq8; exact ⟨none, rfl, (mz_vret d_Mo_doTransfer_11 rfl ⟨rfl, hL7, rfl, hq8⟩)⟩))))))))))
def mm_Mo_deleteFile : MzT := (⟨"ParcelLineModel", "deleteFile", "()I"⟩, prog_14_method_47_code, 1, (Option.some Jvm.ClassFile.FieldType.int))
theorem cs_Mo_deleteFile {mm : MzT} : mzCall mm mm_Mo_deleteFile 0 := ⟨wn_Mo, wco_Mo_deleteFile, by decide +kernel, by decide⟩
theorem d_Mo_deleteFile_0 : decode mm_Mo_deleteFile.2.1 0 = .ok (.aload_n 0, 1) := by decide +kernel
theorem d_Mo_deleteFile_1 : decode mm_Mo_deleteFile.2.1 1 = .ok (.getfield 249, 3) := by decide +kernel
theorem d_Mo_deleteFile_4 : decode mm_Mo_deleteFile.2.1 4 = .ok (.ifCond .lt 15, 3) := by decide +kernel
theorem d_Mo_deleteFile_7 : decode mm_Mo_deleteFile.2.1 7 = .ok (.aload_n 0, 1) := by decide +kernel
theorem d_Mo_deleteFile_8 : decode mm_Mo_deleteFile.2.1 8 = .ok (.getfield 38, 3) := by decide +kernel
theorem d_Mo_deleteFile_11 : decode mm_Mo_deleteFile.2.1 11 = .ok (.aload_n 0, 1) := by decide +kernel
theorem d_Mo_deleteFile_12 : decode mm_Mo_deleteFile.2.1 12 = .ok (.getfield 249, 3) := by decide +kernel
theorem d_Mo_deleteFile_15 : decode mm_Mo_deleteFile.2.1 15 = .ok (.baload, 1) := by decide +kernel
theorem d_Mo_deleteFile_16 : decode mm_Mo_deleteFile.2.1 16 = .ok (.ifCond .ne 7, 3) := by decide +kernel
theorem d_Mo_deleteFile_19 : decode mm_Mo_deleteFile.2.1 19 = .ok (.sipush 550, 3) := by decide +kernel
theorem d_Mo_deleteFile_22 : decode mm_Mo_deleteFile.2.1 22 = .ok (.ireturn, 1) := by decide +kernel
theorem d_Mo_deleteFile_23 : decode mm_Mo_deleteFile.2.1 23 = .ok (.aload_n 0, 1) := by decide +kernel
theorem d_Mo_deleteFile_24 : decode mm_Mo_deleteFile.2.1 24 = .ok (.aload_n 0, 1) := by decide +kernel
theorem d_Mo_deleteFile_25 : decode mm_Mo_deleteFile.2.1 25 = .ok (.getfield 249, 3) := by decide +kernel
theorem d_Mo_deleteFile_28 : decode mm_Mo_deleteFile.2.1 28 = .ok (.invokevirtual 267, 3) := by decide +kernel
theorem d_Mo_deleteFile_31 : decode mm_Mo_deleteFile.2.1 31 = .ok (.ifCond .eq 7, 3) := by decide +kernel
theorem d_Mo_deleteFile_34 : decode mm_Mo_deleteFile.2.1 34 = .ok (.sipush 450, 3) := by decide +kernel
theorem d_Mo_deleteFile_37 : decode mm_Mo_deleteFile.2.1 37 = .ok (.ireturn, 1) := by decide +kernel
theorem d_Mo_deleteFile_38 : decode mm_Mo_deleteFile.2.1 38 = .ok (.aload_n 0, 1) := by decide +kernel
theorem d_Mo_deleteFile_39 : decode mm_Mo_deleteFile.2.1 39 = .ok (.getfield 34, 3) := by decide +kernel
theorem d_Mo_deleteFile_42 : decode mm_Mo_deleteFile.2.1 42 = .ok (.aload_n 0, 1) := by decide +kernel
theorem d_Mo_deleteFile_43 : decode mm_Mo_deleteFile.2.1 43 = .ok (.getfield 249, 3) := by decide +kernel
theorem d_Mo_deleteFile_46 : decode mm_Mo_deleteFile.2.1 46 = .ok (.iconst 0, 1) := by decide +kernel
theorem d_Mo_deleteFile_47 : decode mm_Mo_deleteFile.2.1 47 = .ok (.bastore, 1) := by decide +kernel
theorem d_Mo_deleteFile_48 : decode mm_Mo_deleteFile.2.1 48 = .ok (.sipush 250, 3) := by decide +kernel
theorem d_Mo_deleteFile_51 : decode mm_Mo_deleteFile.2.1 51 = .ok (.ireturn, 1) := by decide +kernel
def wp_Mo_deleteFile   (M : MzM) (K : Int32 → MzM → Prop) : Prop := (((mz_i M (30, 0) 33) < 0 → K (550 : Int32) M) ∧ (¬ (mz_i M (30, 0) 33) < 0 → (∃ j1 : Nat, (mz_i M (30, 0) 33).toInt = (j1 : Int) ∧ j1 < 16 ∧ ((¬ (mz_i M (33, 0) j1) = 0 → wp_Mo_moved  (mz_i M (30, 0) 33) M (fun v8 M5 => ((v8 = 0 → (∃ j12 : Nat, (mz_i M5 (30, 0) 33).toInt = (j12 : Int) ∧ j12 < 16 ∧ ∀ M9 : MzM, M9 = mz_si M5 (32, 0) j12 (0 : Int32) → K (250 : Int32) M9)) ∧ (¬ v8 = 0 → K (450 : Int32) M5)))) ∧ ((mz_i M (33, 0) j1) = 0 → K (550 : Int32) M)))))
theorem tm_Mo_deleteFile {G : MzG} {B : MzB} {d : Nat} {K : Int32 → MzM → Prop} (hF : mzLive true B)    {M : MzM} (hL : mzLnk true M) (h : wp_Mo_deleteFile   M K) : MzC G B (d + 1) mm_Mo_deleteFile [.ref (mz_ad B (30, 0))] M (0, 0) (mzK1 true B K) := by
  unfold wp_Mo_deleteFile at h
  exact MzC.of rfl (Nat.le_of_ble_eq_true rfl) (show MzS G B (d + 1) mm_Mo_deleteFile M (0, 0) (mzK1 true B K) 0 [(0, .ref (mz_ad B (30, 0)))] [] from (mz_aload_n d_Mo_deleteFile_0 rfl (mz_getI (k := 33) cl_10 d_Mo_deleteFile_1 (by decide) wf_Mo_249 rfl (hF 30 0 rfl (by decide)) rfl (mz_if_lt 19 d_Mo_deleteFile_4 rfl (fun hc17 => (mz_sipush (550 : Int32) d_Mo_deleteFile_19 (by decide) (mz_iret .int d_Mo_deleteFile_22 rfl rfl ⟨rfl, hL, _, rfl, (h.1 hc17)⟩))) (fun hc17 => (mz_aload_n d_Mo_deleteFile_7 rfl (mz_getR (k := 3) (a := (33, 0)) cl_10 d_Mo_deleteFile_8 (by decide) wf_Mo_38 rfl (hF 30 0 rfl (by decide)) rfl (hL (30, 0) 3 (33, 0) rfl rfl (by decide)) (mz_aload_n d_Mo_deleteFile_11 rfl (mz_getI (k := 33) cl_10 d_Mo_deleteFile_12 (by decide) wf_Mo_249 rfl (hF 30 0 rfl (by decide)) rfl (match (h.2 hc17) with | ⟨j1, h2, h3, h4⟩ => mz_zald j1 d_Mo_deleteFile_15 (hF 33 0 rfl (by decide)) rfl h2 h3 (mz_if_ne 23 d_Mo_deleteFile_16 rfl (fun hc16 => (mz_aload_n d_Mo_deleteFile_23 rfl (mz_aload_n d_Mo_deleteFile_24 rfl (mz_getI (k := 33) cl_10 d_Mo_deleteFile_25 (by decide) wf_Mo_249 rfl (hF 30 0 rfl (by decide)) rfl (mz_callV (As := [.int (mz_i M (30, 0) 33)]) (st := []) (hF 30 0 rfl (by decide)) rfl (mzClOf cl_10) 0 0 d_Mo_deleteFile_28 cs_Mo_moved wl_Mo_267 wi_Mo_moved wse_Mo_moved (Nat.le_of_ble_eq_true rfl) (Nat.zero_le _) (Nat.zero_le _) (MzC.mono (tm_Mo_moved (d := d) hF  hL (h4.1 hc16)) (fun r9 B9 M5 hq7 => by obtain ⟨rfl, hL6, v8, rfl, hq7⟩ := hq7; exact ⟨_, rfl, (mz_if_eq 38 d_Mo_deleteFile_31 rfl (fun hc15 => (mz_aload_n d_Mo_deleteFile_38 rfl (mz_getR (k := 2) (a := (32, 0)) cl_10 d_Mo_deleteFile_39 (by decide) wf_Mo_34 rfl (hF 30 0 rfl (by decide)) rfl (hL6 (30, 0) 2 (32, 0) rfl rfl (by decide)) (mz_aload_n d_Mo_deleteFile_42 rfl (mz_getI (k := 33) cl_10 d_Mo_deleteFile_43 (by decide) wf_Mo_249 rfl (hF 30 0 rfl (by decide)) rfl (mz_iconst (0 : Int32) d_Mo_deleteFile_46 (by decide) (match (hq7.1 hc15) with | ⟨j12, h13, h14, h11⟩ => mz_zast j12 d_Mo_deleteFile_47 (hF 32 0 rfl (by decide)) rfl h13 h14 (by decide) (let M9 : MzM := mz_si M5 (32, 0) j12 (0 : Int32); (mz_sipush (250 : Int32) d_Mo_deleteFile_48 (by decide) (mz_iret .int d_Mo_deleteFile_51 rfl rfl ⟨rfl, hL6, _, rfl, (h11 M9 rfl)⟩)))))))))) (fun hc15 => (mz_sipush (450 : Int32) d_Mo_deleteFile_34 (by decide) (mz_iret .int d_Mo_deleteFile_37 rfl rfl ⟨rfl, hL6, _, rfl, (hq7.2 hc15)⟩))))⟩))))))) (fun hc16 => (mz_sipush (550 : Int32) d_Mo_deleteFile_19 (by decide) (mz_iret .int d_Mo_deleteFile_22 rfl rfl ⟨rfl, hL, _, rfl, (h4.2 hc16)⟩))))))))))))))
def mm_Mo_inside : MzT := (⟨"ParcelLineModel", "inside", "(I)I"⟩, prog_14_method_42_code, 4, (Option.some Jvm.ClassFile.FieldType.int))
theorem cs_Mo_inside {mm : MzT} : mzCall mm mm_Mo_inside 1 := ⟨wn_Mo, wco_Mo_inside, by decide +kernel, by decide⟩
theorem d_Mo_inside_0 : decode mm_Mo_inside.2.1 0 = .ok (.iconst 0, 1) := by decide +kernel
theorem d_Mo_inside_1 : decode mm_Mo_inside.2.1 1 = .ok (.istore_n 2, 1) := by decide +kernel
theorem d_Mo_inside_2 : decode mm_Mo_inside.2.1 2 = .ok (.iconst 1, 1) := by decide +kernel
theorem d_Mo_inside_3 : decode mm_Mo_inside.2.1 3 = .ok (.istore_n 3, 1) := by decide +kernel
theorem d_Mo_inside_4 : decode mm_Mo_inside.2.1 4 = .ok (.iload_n 3, 1) := by decide +kernel
theorem d_Mo_inside_5 : decode mm_Mo_inside.2.1 5 = .ok (.bipush 16, 2) := by decide +kernel
theorem d_Mo_inside_7 : decode mm_Mo_inside.2.1 7 = .ok (.if_icmp .ge 31, 3) := by decide +kernel
theorem d_Mo_inside_10 : decode mm_Mo_inside.2.1 10 = .ok (.aload_n 0, 1) := by decide +kernel
theorem d_Mo_inside_11 : decode mm_Mo_inside.2.1 11 = .ok (.getfield 34, 3) := by decide +kernel
theorem d_Mo_inside_14 : decode mm_Mo_inside.2.1 14 = .ok (.iload_n 3, 1) := by decide +kernel
theorem d_Mo_inside_15 : decode mm_Mo_inside.2.1 15 = .ok (.baload, 1) := by decide +kernel
theorem d_Mo_inside_16 : decode mm_Mo_inside.2.1 16 = .ok (.ifCond .eq 16, 3) := by decide +kernel
theorem d_Mo_inside_19 : decode mm_Mo_inside.2.1 19 = .ok (.aload_n 0, 1) := by decide +kernel
theorem d_Mo_inside_20 : decode mm_Mo_inside.2.1 20 = .ok (.getfield 41, 3) := by decide +kernel
theorem d_Mo_inside_23 : decode mm_Mo_inside.2.1 23 = .ok (.iload_n 3, 1) := by decide +kernel
theorem d_Mo_inside_24 : decode mm_Mo_inside.2.1 24 = .ok (.iaload, 1) := by decide +kernel
theorem d_Mo_inside_25 : decode mm_Mo_inside.2.1 25 = .ok (.iload_n 1, 1) := by decide +kernel
theorem d_Mo_inside_26 : decode mm_Mo_inside.2.1 26 = .ok (.if_icmp .ne 6, 3) := by decide +kernel
theorem d_Mo_inside_29 : decode mm_Mo_inside.2.1 29 = .ok (.iinc 2 1, 3) := by decide +kernel
theorem d_Mo_inside_32 : decode mm_Mo_inside.2.1 32 = .ok (.iinc 3 1, 3) := by decide +kernel
theorem d_Mo_inside_35 : decode mm_Mo_inside.2.1 35 = .ok (.goto (-31), 3) := by decide +kernel
theorem d_Mo_inside_38 : decode mm_Mo_inside.2.1 38 = .ok (.iload_n 2, 1) := by decide +kernel
theorem d_Mo_inside_39 : decode mm_Mo_inside.2.1 39 = .ok (.ireturn, 1) := by decide +kernel
def wp_Mo_inside_32  (H4 : Int32 → Int32 → Int32 → MzM → Prop) (K : Int32 → MzM → Prop) (y1 : Int32) (y2 : Int32) (y3 : Int32) (M : MzM) : Prop := H4 y1 y2 (y3 + (1 : Int32)) M
def wp_Mo_inside_4   (K : Int32 → MzM → Prop) : Nat → Int32 → Int32 → Int32 → MzM → Prop
  | 0, _, _, _, _ => False
  | r0 + 1, y1, y2, y3, M => (((16 : Int32) ≤ y3 → K y2 M) ∧ (¬ (16 : Int32) ≤ y3 → (∃ j3 : Nat, y3.toInt = (j3 : Int) ∧ j3 < 16 ∧ (((mz_i M (32, 0) j3) = 0 → wp_Mo_inside_32  (wp_Mo_inside_4   K r0) K y1 y2 y3 M) ∧ (¬ (mz_i M (32, 0) j3) = 0 → (∃ j7 : Nat, y3.toInt = (j7 : Int) ∧ j7 < 16 ∧ ((¬ (mz_i M (34, 0) j7) = y1 → wp_Mo_inside_32  (wp_Mo_inside_4   K r0) K y1 y2 y3 M) ∧ ((mz_i M (34, 0) j7) = y1 → wp_Mo_inside_32  (wp_Mo_inside_4   K r0) K y1 (y2 + (1 : Int32)) y3 M))))))))
def wp_Mo_inside  (a1 : Int32) (M : MzM) (K : Int32 → MzM → Prop) : Prop := (∃ r1 : Nat, wp_Mo_inside_4   K r1 a1 (0 : Int32) (1 : Int32) M)
theorem tm_Mo_inside_32 {G : MzG} {B : MzB} {d : Nat} {K : Int32 → MzM → Prop} (hF : mzLive true B)   {H4 : Int32 → Int32 → Int32 → MzM → Prop} (hH4 : ∀ (y1 : Int32) (y2 : Int32) (y3 : Int32) (M : MzM), mzLnk true M → H4 y1 y2 y3 M → MzS G B d mm_Mo_inside M (0, 0) (mzK1 true B K) 4 [(0, .ref (mz_ad B (30, 0))), (1, .int y1), (2, .int y2), (3, .int y3)] []) (y1 : Int32) (y2 : Int32) (y3 : Int32) (M : MzM) (hL : mzLnk true M) (h : wp_Mo_inside_32  H4 K y1 y2 y3 M) : MzS G B d mm_Mo_inside M (0, 0) (mzK1 true B K) 32 [(0, .ref (mz_ad B (30, 0))), (1, .int y1), (2, .int y2), (3, .int y3)] [] := by
  unfold wp_Mo_inside_32 at h
  exact (mz_iinc (y3 + (1 : Int32)) d_Mo_inside_32 rfl (by decide) rfl (mz_goto 4 d_Mo_inside_35 rfl (MzS.loc [(0, .ref (mz_ad B (30, 0))), (1, .int y1), (2, .int y2), (3, .int (y3 + (1 : Int32)))] ⟨rfl, rfl, rfl, rfl, trivial⟩ (hH4 y1 y2 (y3 + (1 : Int32)) M hL h))))
theorem tm_Mo_inside_4 {G : MzG} {B : MzB} {d : Nat} {K : Int32 → MzM → Prop} (hF : mzLive true B)     : ∀ (r0 : Nat) (y1 : Int32) (y2 : Int32) (y3 : Int32) (M : MzM), mzLnk true M → wp_Mo_inside_4   K r0 y1 y2 y3 M → MzS G B d mm_Mo_inside M (0, 0) (mzK1 true B K) 4 [(0, .ref (mz_ad B (30, 0))), (1, .int y1), (2, .int y2), (3, .int y3)] [] := by
  intro r0
  induction r0 with
  | zero => intro y1 y2 y3 M hL h; exact False.elim h
  | succ r0 hH4 =>
    intro y1 y2 y3 M hL h
    unfold wp_Mo_inside_4 at h
    exact (mz_iload_n d_Mo_inside_4 rfl (mz_bipush (16 : Int32) d_Mo_inside_5 (by decide) (mz_icmp_ge 38 d_Mo_inside_7 rfl (fun hc13 => (mz_iload_n d_Mo_inside_38 rfl (mz_iret .int d_Mo_inside_39 rfl rfl ⟨rfl, hL, _, rfl, (h.1 hc13)⟩))) (fun hc13 => (mz_aload_n d_Mo_inside_10 rfl (mz_getR (k := 2) (a := (32, 0)) cl_10 d_Mo_inside_11 (by decide) wf_Mo_34 rfl (hF 30 0 rfl (by decide)) rfl (hL (30, 0) 2 (32, 0) rfl rfl (by decide)) (mz_iload_n d_Mo_inside_14 rfl (match (h.2 hc13) with | ⟨j3, h4, h5, h6⟩ => mz_zald j3 d_Mo_inside_15 (hF 32 0 rfl (by decide)) rfl h4 h5 (mz_if_eq 32 d_Mo_inside_16 rfl (fun hc12 => (MzS.loc [(0, .ref (mz_ad B (30, 0))), (1, .int y1), (2, .int y2), (3, .int y3)] ⟨rfl, rfl, rfl, rfl, trivial⟩ (tm_Mo_inside_32 hF  hH4 y1 y2 y3 M hL (h6.1 hc12)))) (fun hc12 => (mz_aload_n d_Mo_inside_19 rfl (mz_getR (k := 4) (a := (34, 0)) cl_10 d_Mo_inside_20 (by decide) wf_Mo_41 rfl (hF 30 0 rfl (by decide)) rfl (hL (30, 0) 4 (34, 0) rfl rfl (by decide)) (mz_iload_n d_Mo_inside_23 rfl (match (h6.2 hc12) with | ⟨j7, h8, h9, h10⟩ => mz_iald j7 d_Mo_inside_24 (hF 34 0 rfl (by decide)) rfl h8 h9 (mz_iload_n d_Mo_inside_25 rfl (mz_icmp_ne 32 d_Mo_inside_26 rfl (fun hc11 => (MzS.loc [(0, .ref (mz_ad B (30, 0))), (1, .int y1), (2, .int y2), (3, .int y3)] ⟨rfl, rfl, rfl, rfl, trivial⟩ (tm_Mo_inside_32 hF  hH4 y1 y2 y3 M hL (h10.1 hc11)))) (fun hc11 => (mz_iinc (y2 + (1 : Int32)) d_Mo_inside_29 rfl (by decide) rfl (MzS.loc [(0, .ref (mz_ad B (30, 0))), (1, .int y1), (2, .int (y2 + (1 : Int32))), (3, .int y3)] ⟨rfl, rfl, rfl, rfl, trivial⟩ (tm_Mo_inside_32 hF  hH4 y1 (y2 + (1 : Int32)) y3 M hL (h10.2 hc11)))))))))))))))))))))
theorem tm_Mo_inside {G : MzG} {B : MzB} {d : Nat} {K : Int32 → MzM → Prop} (hF : mzLive true B)   {a1 : Int32} {M : MzM} (hL : mzLnk true M) (h : wp_Mo_inside  a1 M K) : MzC G B d mm_Mo_inside [.ref (mz_ad B (30, 0)), .int a1] M (0, 0) (mzK1 true B K) := by
  unfold wp_Mo_inside at h
  exact MzC.of rfl (Nat.le_of_ble_eq_true rfl) (show MzS G B d mm_Mo_inside M (0, 0) (mzK1 true B K) 0 [(0, .ref (mz_ad B (30, 0))), (1, .int a1)] [] from (mz_iconst (0 : Int32) d_Mo_inside_0 (by decide) (mz_istore_n d_Mo_inside_1 (by decide) (mz_iconst (1 : Int32) d_Mo_inside_2 (by decide) (mz_istore_n d_Mo_inside_3 (by decide) (MzS.loc [(0, .ref (mz_ad B (30, 0))), (1, .int a1), (2, .int (0 : Int32)), (3, .int (1 : Int32))] ⟨rfl, rfl, rfl, rfl, trivial⟩ (match h with | ⟨r1, h2⟩ => tm_Mo_inside_4 hF   r1 a1 (0 : Int32) (1 : Int32) M hL h2)))))))
def mm_Mo_removeDirectory : MzT := (⟨"ParcelLineModel", "removeDirectory", "()I"⟩, prog_14_method_46_code, 1, (Option.some Jvm.ClassFile.FieldType.int))
theorem cs_Mo_removeDirectory {mm : MzT} : mzCall mm mm_Mo_removeDirectory 0 := ⟨wn_Mo, wco_Mo_removeDirectory, by decide +kernel, by decide⟩
theorem d_Mo_removeDirectory_0 : decode mm_Mo_removeDirectory.2.1 0 = .ok (.aload_n 0, 1) := by decide +kernel
theorem d_Mo_removeDirectory_1 : decode mm_Mo_removeDirectory.2.1 1 = .ok (.getfield 249, 3) := by decide +kernel
theorem d_Mo_removeDirectory_4 : decode mm_Mo_removeDirectory.2.1 4 = .ok (.iconst 1, 1) := by decide +kernel
theorem d_Mo_removeDirectory_5 : decode mm_Mo_removeDirectory.2.1 5 = .ok (.if_icmp .lt 52, 3) := by decide +kernel
theorem d_Mo_removeDirectory_8 : decode mm_Mo_removeDirectory.2.1 8 = .ok (.aload_n 0, 1) := by decide +kernel
theorem d_Mo_removeDirectory_9 : decode mm_Mo_removeDirectory.2.1 9 = .ok (.getfield 38, 3) := by decide +kernel
theorem d_Mo_removeDirectory_12 : decode mm_Mo_removeDirectory.2.1 12 = .ok (.aload_n 0, 1) := by decide +kernel
theorem d_Mo_removeDirectory_13 : decode mm_Mo_removeDirectory.2.1 13 = .ok (.getfield 249, 3) := by decide +kernel
theorem d_Mo_removeDirectory_16 : decode mm_Mo_removeDirectory.2.1 16 = .ok (.baload, 1) := by decide +kernel
theorem d_Mo_removeDirectory_17 : decode mm_Mo_removeDirectory.2.1 17 = .ok (.ifCond .ne 40, 3) := by decide +kernel
theorem d_Mo_removeDirectory_20 : decode mm_Mo_removeDirectory.2.1 20 = .ok (.aload_n 0, 1) := by decide +kernel
theorem d_Mo_removeDirectory_21 : decode mm_Mo_removeDirectory.2.1 21 = .ok (.aload_n 0, 1) := by decide +kernel
theorem d_Mo_removeDirectory_22 : decode mm_Mo_removeDirectory.2.1 22 = .ok (.getfield 249, 3) := by decide +kernel
theorem d_Mo_removeDirectory_25 : decode mm_Mo_removeDirectory.2.1 25 = .ok (.invokevirtual 270, 3) := by decide +kernel
theorem d_Mo_removeDirectory_28 : decode mm_Mo_removeDirectory.2.1 28 = .ok (.ifCond .gt 29, 3) := by decide +kernel
theorem d_Mo_removeDirectory_31 : decode mm_Mo_removeDirectory.2.1 31 = .ok (.aload_n 0, 1) := by decide +kernel
theorem d_Mo_removeDirectory_32 : decode mm_Mo_removeDirectory.2.1 32 = .ok (.getfield 89, 3) := by decide +kernel
theorem d_Mo_removeDirectory_35 : decode mm_Mo_removeDirectory.2.1 35 = .ok (.iconst 0, 1) := by decide +kernel
theorem d_Mo_removeDirectory_36 : decode mm_Mo_removeDirectory.2.1 36 = .ok (.iaload, 1) := by decide +kernel
theorem d_Mo_removeDirectory_37 : decode mm_Mo_removeDirectory.2.1 37 = .ok (.aload_n 0, 1) := by decide +kernel
theorem d_Mo_removeDirectory_38 : decode mm_Mo_removeDirectory.2.1 38 = .ok (.getfield 249, 3) := by decide +kernel
theorem d_Mo_removeDirectory_41 : decode mm_Mo_removeDirectory.2.1 41 = .ok (.if_icmp .eq 16, 3) := by decide +kernel
theorem d_Mo_removeDirectory_44 : decode mm_Mo_removeDirectory.2.1 44 = .ok (.aload_n 0, 1) := by decide +kernel
theorem d_Mo_removeDirectory_45 : decode mm_Mo_removeDirectory.2.1 45 = .ok (.getfield 89, 3) := by decide +kernel
theorem d_Mo_removeDirectory_48 : decode mm_Mo_removeDirectory.2.1 48 = .ok (.iconst 1, 1) := by decide +kernel
theorem d_Mo_removeDirectory_49 : decode mm_Mo_removeDirectory.2.1 49 = .ok (.iaload, 1) := by decide +kernel
theorem d_Mo_removeDirectory_50 : decode mm_Mo_removeDirectory.2.1 50 = .ok (.aload_n 0, 1) := by decide +kernel
theorem d_Mo_removeDirectory_51 : decode mm_Mo_removeDirectory.2.1 51 = .ok (.getfield 249, 3) := by decide +kernel
theorem d_Mo_removeDirectory_54 : decode mm_Mo_removeDirectory.2.1 54 = .ok (.if_icmp .ne 7, 3) := by decide +kernel
theorem d_Mo_removeDirectory_57 : decode mm_Mo_removeDirectory.2.1 57 = .ok (.sipush 550, 3) := by decide +kernel
theorem d_Mo_removeDirectory_60 : decode mm_Mo_removeDirectory.2.1 60 = .ok (.ireturn, 1) := by decide +kernel
theorem d_Mo_removeDirectory_61 : decode mm_Mo_removeDirectory.2.1 61 = .ok (.aload_n 0, 1) := by decide +kernel
theorem d_Mo_removeDirectory_62 : decode mm_Mo_removeDirectory.2.1 62 = .ok (.getfield 34, 3) := by decide +kernel
theorem d_Mo_removeDirectory_65 : decode mm_Mo_removeDirectory.2.1 65 = .ok (.aload_n 0, 1) := by decide +kernel
theorem d_Mo_removeDirectory_66 : decode mm_Mo_removeDirectory.2.1 66 = .ok (.getfield 249, 3) := by decide +kernel
theorem d_Mo_removeDirectory_69 : decode mm_Mo_removeDirectory.2.1 69 = .ok (.iconst 0, 1) := by decide +kernel
theorem d_Mo_removeDirectory_70 : decode mm_Mo_removeDirectory.2.1 70 = .ok (.bastore, 1) := by decide +kernel
theorem d_Mo_removeDirectory_71 : decode mm_Mo_removeDirectory.2.1 71 = .ok (.sipush 250, 3) := by decide +kernel
theorem d_Mo_removeDirectory_74 : decode mm_Mo_removeDirectory.2.1 74 = .ok (.ireturn, 1) := by decide +kernel
def wp_Mo_removeDirectory   (M : MzM) (K : Int32 → MzM → Prop) : Prop := (((mz_i M (30, 0) 33) < (1 : Int32) → K (550 : Int32) M) ∧ (¬ (mz_i M (30, 0) 33) < (1 : Int32) → (∃ j1 : Nat, (mz_i M (30, 0) 33).toInt = (j1 : Int) ∧ j1 < 16 ∧ ((¬ (mz_i M (33, 0) j1) = 0 → K (550 : Int32) M) ∧ ((mz_i M (33, 0) j1) = 0 → wp_Mo_inside  (mz_i M (30, 0) 33) M (fun v8 M5 => ((0 < v8 → K (550 : Int32) M5) ∧ (¬ 0 < v8 → (((mz_i M5 (50, 0) 0) = (mz_i M5 (30, 0) 33) → K (550 : Int32) M5) ∧ (¬ (mz_i M5 (50, 0) 0) = (mz_i M5 (30, 0) 33) → ((¬ (mz_i M5 (50, 0) 1) = (mz_i M5 (30, 0) 33) → (∃ j12 : Nat, (mz_i M5 (30, 0) 33).toInt = (j12 : Int) ∧ j12 < 16 ∧ ∀ M9 : MzM, M9 = mz_si M5 (32, 0) j12 (0 : Int32) → K (250 : Int32) M9)) ∧ ((mz_i M5 (50, 0) 1) = (mz_i M5 (30, 0) 33) → K (550 : Int32) M5))))))))))))
theorem tm_Mo_removeDirectory {G : MzG} {B : MzB} {d : Nat} {K : Int32 → MzM → Prop} (hF : mzLive true B)    {M : MzM} (hL : mzLnk true M) (h : wp_Mo_removeDirectory   M K) : MzC G B (d + 1) mm_Mo_removeDirectory [.ref (mz_ad B (30, 0))] M (0, 0) (mzK1 true B K) := by
  unfold wp_Mo_removeDirectory at h
  exact MzC.of rfl (Nat.le_of_ble_eq_true rfl) (show MzS G B (d + 1) mm_Mo_removeDirectory M (0, 0) (mzK1 true B K) 0 [(0, .ref (mz_ad B (30, 0)))] [] from (mz_aload_n d_Mo_removeDirectory_0 rfl (mz_getI (k := 33) cl_10 d_Mo_removeDirectory_1 (by decide) wf_Mo_249 rfl (hF 30 0 rfl (by decide)) rfl (mz_iconst (1 : Int32) d_Mo_removeDirectory_4 (by decide) (mz_icmp_lt 57 d_Mo_removeDirectory_5 rfl (fun hc19 => (mz_sipush (550 : Int32) d_Mo_removeDirectory_57 (by decide) (mz_iret .int d_Mo_removeDirectory_60 rfl rfl ⟨rfl, hL, _, rfl, (h.1 hc19)⟩))) (fun hc19 => (mz_aload_n d_Mo_removeDirectory_8 rfl (mz_getR (k := 3) (a := (33, 0)) cl_10 d_Mo_removeDirectory_9 (by decide) wf_Mo_38 rfl (hF 30 0 rfl (by decide)) rfl (hL (30, 0) 3 (33, 0) rfl rfl (by decide)) (mz_aload_n d_Mo_removeDirectory_12 rfl (mz_getI (k := 33) cl_10 d_Mo_removeDirectory_13 (by decide) wf_Mo_249 rfl (hF 30 0 rfl (by decide)) rfl (match (h.2 hc19) with | ⟨j1, h2, h3, h4⟩ => mz_zald j1 d_Mo_removeDirectory_16 (hF 33 0 rfl (by decide)) rfl h2 h3 (mz_if_ne 57 d_Mo_removeDirectory_17 rfl (fun hc18 => (mz_sipush (550 : Int32) d_Mo_removeDirectory_57 (by decide) (mz_iret .int d_Mo_removeDirectory_60 rfl rfl ⟨rfl, hL, _, rfl, (h4.1 hc18)⟩))) (fun hc18 => (mz_aload_n d_Mo_removeDirectory_20 rfl (mz_aload_n d_Mo_removeDirectory_21 rfl (mz_getI (k := 33) cl_10 d_Mo_removeDirectory_22 (by decide) wf_Mo_249 rfl (hF 30 0 rfl (by decide)) rfl (mz_callV (As := [.int (mz_i M (30, 0) 33)]) (st := []) (hF 30 0 rfl (by decide)) rfl (mzClOf cl_10) 0 0 d_Mo_removeDirectory_25 cs_Mo_inside wl_Mo_270 wi_Mo_inside wse_Mo_inside (Nat.le_of_ble_eq_true rfl) (Nat.zero_le _) (Nat.zero_le _) (MzC.mono (tm_Mo_inside (d := d) hF  hL (h4.2 hc18)) (fun r9 B9 M5 hq7 => by obtain ⟨rfl, hL6, v8, rfl, hq7⟩ := hq7; exact ⟨_, rfl, (mz_if_gt 57 d_Mo_removeDirectory_28 rfl (fun hc17 => (mz_sipush (550 : Int32) d_Mo_removeDirectory_57 (by decide) (mz_iret .int d_Mo_removeDirectory_60 rfl rfl ⟨rfl, hL6, _, rfl, (hq7.1 hc17)⟩))) (fun hc17 => (mz_aload_n d_Mo_removeDirectory_31 rfl (mz_getR (k := 20) (a := (50, 0)) cl_10 d_Mo_removeDirectory_32 (by decide) wf_Mo_89 rfl (hF 30 0 rfl (by decide)) rfl (hL6 (30, 0) 20 (50, 0) rfl rfl (by decide)) (mz_iconst (0 : Int32) d_Mo_removeDirectory_35 (by decide) (mz_iald 0 d_Mo_removeDirectory_36 (hF 50 0 rfl (by decide)) rfl (by decide) (by decide) (mz_aload_n d_Mo_removeDirectory_37 rfl (mz_getI (k := 33) cl_10 d_Mo_removeDirectory_38 (by decide) wf_Mo_249 rfl (hF 30 0 rfl (by decide)) rfl (mz_icmp_eq 57 d_Mo_removeDirectory_41 rfl (fun hc16 => (mz_sipush (550 : Int32) d_Mo_removeDirectory_57 (by decide) (mz_iret .int d_Mo_removeDirectory_60 rfl rfl ⟨rfl, hL6, _, rfl, ((hq7.2 hc17).1 hc16)⟩))) (fun hc16 => (mz_aload_n d_Mo_removeDirectory_44 rfl (mz_getR (k := 20) (a := (50, 0)) cl_10 d_Mo_removeDirectory_45 (by decide) wf_Mo_89 rfl (hF 30 0 rfl (by decide)) rfl (hL6 (30, 0) 20 (50, 0) rfl rfl (by decide)) (mz_iconst (1 : Int32) d_Mo_removeDirectory_48 (by decide) (mz_iald 1 d_Mo_removeDirectory_49 (hF 50 0 rfl (by decide)) rfl (by decide) (by decide) (mz_aload_n d_Mo_removeDirectory_50 rfl (mz_getI (k := 33) cl_10 d_Mo_removeDirectory_51 (by decide) wf_Mo_249 rfl (hF 30 0 rfl (by decide)) rfl (mz_icmp_ne 61 d_Mo_removeDirectory_54 rfl (fun hc15 => (mz_aload_n d_Mo_removeDirectory_61 rfl (mz_getR (k := 2) (a := (32, 0)) cl_10 d_Mo_removeDirectory_62 (by decide) wf_Mo_34 rfl (hF 30 0 rfl (by decide)) rfl (hL6 (30, 0) 2 (32, 0) rfl rfl (by decide)) (mz_aload_n d_Mo_removeDirectory_65 rfl (mz_getI (k := 33) cl_10 d_Mo_removeDirectory_66 (by decide) wf_Mo_249 rfl (hF 30 0 rfl (by decide)) rfl (mz_iconst (0 : Int32) d_Mo_removeDirectory_69 (by decide) (match (((hq7.2 hc17).2 hc16).1 hc15) with | ⟨j12, h13, h14, h11⟩ => mz_zast j12 d_Mo_removeDirectory_70 (hF 32 0 rfl (by decide)) rfl h13 h14 (by decide) (let M9 : MzM := mz_si M5 (32, 0) j12 (0 : Int32); (mz_sipush (250 : Int32) d_Mo_removeDirectory_71 (by decide) (mz_iret .int d_Mo_removeDirectory_74 rfl rfl ⟨rfl, hL6, _, rfl, (h11 M9 rfl)⟩)))))))))) (fun hc15 => (mz_sipush (550 : Int32) d_Mo_removeDirectory_57 (by decide) (mz_iret .int d_Mo_removeDirectory_60 rfl rfl ⟨rfl, hL6, _, rfl, (((hq7.2 hc17).2 hc16).2 hc15)⟩))))))))))))))))))))⟩)))))))))))))))))))
def mm_Mo_isBelow : MzT := (⟨"ParcelLineModel", "isBelow", "(II)Z"⟩, prog_14_method_44_code, 4, (Option.some Jvm.ClassFile.FieldType.boolean))
theorem cs_Mo_isBelow {mm : MzT} : mzCall mm mm_Mo_isBelow 2 := ⟨wn_Mo, wco_Mo_isBelow, by decide +kernel, by decide⟩
theorem d_Mo_isBelow_0 : decode mm_Mo_isBelow.2.1 0 = .ok (.iload_n 1, 1) := by decide +kernel
theorem d_Mo_isBelow_1 : decode mm_Mo_isBelow.2.1 1 = .ok (.istore_n 3, 1) := by decide +kernel
theorem d_Mo_isBelow_2 : decode mm_Mo_isBelow.2.1 2 = .ok (.iload_n 3, 1) := by decide +kernel
theorem d_Mo_isBelow_3 : decode mm_Mo_isBelow.2.1 3 = .ok (.ifCond .lt 18, 3) := by decide +kernel
theorem d_Mo_isBelow_6 : decode mm_Mo_isBelow.2.1 6 = .ok (.iload_n 3, 1) := by decide +kernel
theorem d_Mo_isBelow_7 : decode mm_Mo_isBelow.2.1 7 = .ok (.iload_n 2, 1) := by decide +kernel
theorem d_Mo_isBelow_8 : decode mm_Mo_isBelow.2.1 8 = .ok (.if_icmp .eq 13, 3) := by decide +kernel
theorem d_Mo_isBelow_11 : decode mm_Mo_isBelow.2.1 11 = .ok (.aload_n 0, 1) := by decide +kernel
theorem d_Mo_isBelow_12 : decode mm_Mo_isBelow.2.1 12 = .ok (.getfield 41, 3) := by decide +kernel
theorem d_Mo_isBelow_15 : decode mm_Mo_isBelow.2.1 15 = .ok (.iload_n 3, 1) := by decide +kernel
theorem d_Mo_isBelow_16 : decode mm_Mo_isBelow.2.1 16 = .ok (.iaload, 1) := by decide +kernel
theorem d_Mo_isBelow_17 : decode mm_Mo_isBelow.2.1 17 = .ok (.istore_n 3, 1) := by decide +kernel
theorem d_Mo_isBelow_18 : decode mm_Mo_isBelow.2.1 18 = .ok (.goto (-16), 3) := by decide +kernel
theorem d_Mo_isBelow_21 : decode mm_Mo_isBelow.2.1 21 = .ok (.iload_n 3, 1) := by decide +kernel
theorem d_Mo_isBelow_22 : decode mm_Mo_isBelow.2.1 22 = .ok (.iload_n 2, 1) := by decide +kernel
theorem d_Mo_isBelow_23 : decode mm_Mo_isBelow.2.1 23 = .ok (.if_icmp .ne 7, 3) := by decide +kernel
theorem d_Mo_isBelow_26 : decode mm_Mo_isBelow.2.1 26 = .ok (.iconst 1, 1) := by decide +kernel
theorem d_Mo_isBelow_27 : decode mm_Mo_isBelow.2.1 27 = .ok (.goto 4, 3) := by decide +kernel
theorem d_Mo_isBelow_30 : decode mm_Mo_isBelow.2.1 30 = .ok (.iconst 0, 1) := by decide +kernel
theorem d_Mo_isBelow_31 : decode mm_Mo_isBelow.2.1 31 = .ok (.ireturn, 1) := by decide +kernel
def wp_Mo_isBelow_2   (K : Int32 → MzM → Prop) : Nat → Int32 → Int32 → MzM → Prop
  | 0, _, _, _ => False
  | r0 + 1, y2, y3, M => ((y3 < 0 → ((¬ y3 = y2 → K (0 : Int32) M) ∧ (y3 = y2 → K (1 : Int32) M))) ∧ (¬ y3 < 0 → ((y3 = y2 → ((¬ y3 = y2 → K (0 : Int32) M) ∧ (y3 = y2 → K (1 : Int32) M))) ∧ (¬ y3 = y2 → (∃ j5 : Nat, y3.toInt = (j5 : Int) ∧ j5 < 16 ∧ (wp_Mo_isBelow_2   K r0) y2 (mz_i M (34, 0) j5) M)))))
def wp_Mo_isBelow  (a1 : Int32) (a2 : Int32) (M : MzM) (K : Int32 → MzM → Prop) : Prop := (∃ r1 : Nat, wp_Mo_isBelow_2   K r1 a2 a1 M)
theorem tm_Mo_isBelow_2 {G : MzG} {B : MzB} {d : Nat} {K : Int32 → MzM → Prop} (hF : mzLive true B)     : ∀ (r0 : Nat) (y2 : Int32) (y3 : Int32) (M : MzM), mzLnk true M → wp_Mo_isBelow_2   K r0 y2 y3 M → MzS G B d mm_Mo_isBelow M (0, 0) (mzK1 true B K) 2 [(0, .ref (mz_ad B (30, 0))), (2, .int y2), (3, .int y3)] [] := by
  intro r0
  induction r0 with
  | zero => intro y2 y3 M hL h; exact False.elim h
  | succ r0 hH2 =>
    intro y2 y3 M hL h
    unfold wp_Mo_isBelow_2 at h
    exact (mz_iload_n d_Mo_isBelow_2 rfl (mz_if_lt 21 d_Mo_isBelow_3 rfl (fun hc10 => (mz_iload_n d_Mo_isBelow_21 rfl (mz_iload_n d_Mo_isBelow_22 rfl (mz_icmp_ne 30 d_Mo_isBelow_23 rfl (fun hc3 => (mz_iconst (0 : Int32) d_Mo_isBelow_30 (by decide) (mz_iret .boolean d_Mo_isBelow_31 rfl rfl ⟨rfl, hL, _, rfl, ((h.1 hc10).1 hc3)⟩))) (fun hc3 => (mz_iconst (1 : Int32) d_Mo_isBelow_26 (by decide) (mz_goto 31 d_Mo_isBelow_27 rfl (mz_iret .boolean d_Mo_isBelow_31 rfl rfl ⟨rfl, hL, _, rfl, ((h.1 hc10).2 hc3)⟩)))))))) (fun hc10 => (mz_iload_n d_Mo_isBelow_6 rfl (mz_iload_n d_Mo_isBelow_7 rfl (mz_icmp_eq 21 d_Mo_isBelow_8 rfl (fun hc9 => (mz_iload_n d_Mo_isBelow_21 rfl (mz_iload_n d_Mo_isBelow_22 rfl (mz_icmp_ne 30 d_Mo_isBelow_23 rfl (fun hc4 => (mz_iconst (0 : Int32) d_Mo_isBelow_30 (by decide) (mz_iret .boolean d_Mo_isBelow_31 rfl rfl ⟨rfl, hL, _, rfl, (((h.2 hc10).1 hc9).1 hc4)⟩))) (fun hc4 => (mz_iconst (1 : Int32) d_Mo_isBelow_26 (by decide) (mz_goto 31 d_Mo_isBelow_27 rfl (mz_iret .boolean d_Mo_isBelow_31 rfl rfl ⟨rfl, hL, _, rfl, (((h.2 hc10).1 hc9).2 hc4)⟩)))))))) (fun hc9 => (mz_aload_n d_Mo_isBelow_11 rfl (mz_getR (k := 4) (a := (34, 0)) cl_10 d_Mo_isBelow_12 (by decide) wf_Mo_41 rfl (hF 30 0 rfl (by decide)) rfl (hL (30, 0) 4 (34, 0) rfl rfl (by decide)) (mz_iload_n d_Mo_isBelow_15 rfl (match ((h.2 hc10).2 hc9) with | ⟨j5, h6, h7, h8⟩ => mz_iald j5 d_Mo_isBelow_16 (hF 34 0 rfl (by decide)) rfl h6 h7 (mz_istore_n d_Mo_isBelow_17 (by decide) (mz_goto 2 d_Mo_isBelow_18 rfl (MzS.loc [(0, .ref (mz_ad B (30, 0))), (2, .int y2), (3, .int (mz_i M (34, 0) j5))] ⟨rfl, rfl, rfl, trivial⟩ (hH2 y2 (mz_i M (34, 0) j5) M hL h8)))))))))))))))
theorem tm_Mo_isBelow {G : MzG} {B : MzB} {d : Nat} {K : Int32 → MzM → Prop} (hF : mzLive true B)   {a1 : Int32} {a2 : Int32} {M : MzM} (hL : mzLnk true M) (h : wp_Mo_isBelow  a1 a2 M K) : MzC G B d mm_Mo_isBelow [.ref (mz_ad B (30, 0)), .int a1, .int a2] M (0, 0) (mzK1 true B K) := by
  unfold wp_Mo_isBelow at h
  exact MzC.of rfl (Nat.le_of_ble_eq_true rfl) (show MzS G B d mm_Mo_isBelow M (0, 0) (mzK1 true B K) 0 [(0, .ref (mz_ad B (30, 0))), (1, .int a1), (2, .int a2)] [] from (mz_iload_n d_Mo_isBelow_0 rfl (mz_istore_n d_Mo_isBelow_1 (by decide) (MzS.loc [(0, .ref (mz_ad B (30, 0))), (2, .int a2), (3, .int a1)] ⟨rfl, rfl, rfl, trivial⟩ (match h with | ⟨r1, h2⟩ => tm_Mo_isBelow_2 hF   r1 a2 a1 M hL h2)))))
