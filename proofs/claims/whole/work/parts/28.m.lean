def mm_Mo_follow : MzT := (⟨"ParcelLineModel", "follow", "()V"⟩, prog_14_method_38_code, 6, (Option.none : Option Jvm.ClassFile.FieldType))
theorem cs_Mo_follow {mm : MzT} : mzCall mm mm_Mo_follow 0 := ⟨wn_Mo, wco_Mo_follow, by decide +kernel, by decide⟩
theorem d_Mo_follow_0 : decode mm_Mo_follow.2.1 0 = .ok (.aload_n 0, 1) := by decide +kernel
theorem d_Mo_follow_1 : decode mm_Mo_follow.2.1 1 = .ok (.aload_n 0, 1) := by decide +kernel
theorem d_Mo_follow_2 : decode mm_Mo_follow.2.1 2 = .ok (.getfield 192, 3) := by decide +kernel
theorem d_Mo_follow_5 : decode mm_Mo_follow.2.1 5 = .ok (.invokevirtual 189, 3) := by decide +kernel
theorem d_Mo_follow_8 : decode mm_Mo_follow.2.1 8 = .ok (.bipush 47, 2) := by decide +kernel
theorem d_Mo_follow_10 : decode mm_Mo_follow.2.1 10 = .ok (.if_icmp .ne 7, 3) := by decide +kernel
theorem d_Mo_follow_13 : decode mm_Mo_follow.2.1 13 = .ok (.iconst 1, 1) := by decide +kernel
theorem d_Mo_follow_14 : decode mm_Mo_follow.2.1 14 = .ok (.goto 4, 3) := by decide +kernel
theorem d_Mo_follow_17 : decode mm_Mo_follow.2.1 17 = .ok (.iconst 0, 1) := by decide +kernel
theorem d_Mo_follow_18 : decode mm_Mo_follow.2.1 18 = .ok (.istore_n 1, 1) := by decide +kernel
theorem d_Mo_follow_19 : decode mm_Mo_follow.2.1 19 = .ok (.iload_n 1, 1) := by decide +kernel
theorem d_Mo_follow_20 : decode mm_Mo_follow.2.1 20 = .ok (.ifCond .eq 12, 3) := by decide +kernel
theorem d_Mo_follow_23 : decode mm_Mo_follow.2.1 23 = .ok (.aload_n 0, 1) := by decide +kernel
theorem d_Mo_follow_24 : decode mm_Mo_follow.2.1 24 = .ok (.getfield 192, 3) := by decide +kernel
theorem d_Mo_follow_27 : decode mm_Mo_follow.2.1 27 = .ok (.iconst 1, 1) := by decide +kernel
theorem d_Mo_follow_28 : decode mm_Mo_follow.2.1 28 = .ok (.iadd, 1) := by decide +kernel
theorem d_Mo_follow_29 : decode mm_Mo_follow.2.1 29 = .ok (.goto 7, 3) := by decide +kernel
theorem d_Mo_follow_32 : decode mm_Mo_follow.2.1 32 = .ok (.aload_n 0, 1) := by decide +kernel
theorem d_Mo_follow_33 : decode mm_Mo_follow.2.1 33 = .ok (.getfield 192, 3) := by decide +kernel
theorem d_Mo_follow_36 : decode mm_Mo_follow.2.1 36 = .ok (.istore_n 2, 1) := by decide +kernel
theorem d_Mo_follow_37 : decode mm_Mo_follow.2.1 37 = .ok (.aload_n 0, 1) := by decide +kernel
theorem d_Mo_follow_38 : decode mm_Mo_follow.2.1 38 = .ok (.iload_n 1, 1) := by decide +kernel
theorem d_Mo_follow_39 : decode mm_Mo_follow.2.1 39 = .ok (.ifCond .eq 7, 3) := by decide +kernel
theorem d_Mo_follow_42 : decode mm_Mo_follow.2.1 42 = .ok (.iconst 0, 1) := by decide +kernel
theorem d_Mo_follow_43 : decode mm_Mo_follow.2.1 43 = .ok (.goto 12, 3) := by decide +kernel
theorem d_Mo_follow_46 : decode mm_Mo_follow.2.1 46 = .ok (.aload_n 0, 1) := by decide +kernel
theorem d_Mo_follow_47 : decode mm_Mo_follow.2.1 47 = .ok (.getfield 89, 3) := by decide +kernel
theorem d_Mo_follow_50 : decode mm_Mo_follow.2.1 50 = .ok (.aload_n 0, 1) := by decide +kernel
theorem d_Mo_follow_51 : decode mm_Mo_follow.2.1 51 = .ok (.getfield 137, 3) := by decide +kernel
theorem d_Mo_follow_54 : decode mm_Mo_follow.2.1 54 = .ok (.iaload, 1) := by decide +kernel
theorem d_Mo_follow_55 : decode mm_Mo_follow.2.1 55 = .ok (.putfield 249, 3) := by decide +kernel
theorem d_Mo_follow_58 : decode mm_Mo_follow.2.1 58 = .ok (.aload_n 0, 1) := by decide +kernel
theorem d_Mo_follow_59 : decode mm_Mo_follow.2.1 59 = .ok (.iconst (-1), 1) := by decide +kernel
theorem d_Mo_follow_60 : decode mm_Mo_follow.2.1 60 = .ok (.putfield 252, 3) := by decide +kernel
theorem d_Mo_follow_63 : decode mm_Mo_follow.2.1 63 = .ok (.iload_n 2, 1) := by decide +kernel
theorem d_Mo_follow_64 : decode mm_Mo_follow.2.1 64 = .ok (.aload_n 0, 1) := by decide +kernel
theorem d_Mo_follow_65 : decode mm_Mo_follow.2.1 65 = .ok (.getfield 62, 3) := by decide +kernel
theorem d_Mo_follow_68 : decode mm_Mo_follow.2.1 68 = .ok (.aload_n 0, 1) := by decide +kernel
theorem d_Mo_follow_69 : decode mm_Mo_follow.2.1 69 = .ok (.getfield 137, 3) := by decide +kernel
theorem d_Mo_follow_72 : decode mm_Mo_follow.2.1 72 = .ok (.iaload, 1) := by decide +kernel
theorem d_Mo_follow_73 : decode mm_Mo_follow.2.1 73 = .ok (.if_icmp .ge 142, 3) := by decide +kernel
theorem d_Mo_follow_76 : decode mm_Mo_follow.2.1 76 = .ok (.aload_n 0, 1) := by decide +kernel
theorem d_Mo_follow_77 : decode mm_Mo_follow.2.1 77 = .ok (.getfield 249, 3) := by decide +kernel
theorem d_Mo_follow_80 : decode mm_Mo_follow.2.1 80 = .ok (.ifCond .lt 135, 3) := by decide +kernel
theorem d_Mo_follow_83 : decode mm_Mo_follow.2.1 83 = .ok (.aload_n 0, 1) := by decide +kernel
theorem d_Mo_follow_84 : decode mm_Mo_follow.2.1 84 = .ok (.iload_n 2, 1) := by decide +kernel
theorem d_Mo_follow_85 : decode mm_Mo_follow.2.1 85 = .ok (.invokevirtual 198, 3) := by decide +kernel
theorem d_Mo_follow_88 : decode mm_Mo_follow.2.1 88 = .ok (.istore_n 3, 1) := by decide +kernel
theorem d_Mo_follow_89 : decode mm_Mo_follow.2.1 89 = .ok (.aload_n 0, 1) := by decide +kernel
theorem d_Mo_follow_90 : decode mm_Mo_follow.2.1 90 = .ok (.getfield 249, 3) := by decide +kernel
theorem d_Mo_follow_93 : decode mm_Mo_follow.2.1 93 = .ok (.istore 4, 2) := by decide +kernel
theorem d_Mo_follow_95 : decode mm_Mo_follow.2.1 95 = .ok (.aload_n 0, 1) := by decide +kernel
theorem d_Mo_follow_96 : decode mm_Mo_follow.2.1 96 = .ok (.iload_n 2, 1) := by decide +kernel
theorem d_Mo_follow_97 : decode mm_Mo_follow.2.1 97 = .ok (.invokevirtual 189, 3) := by decide +kernel
theorem d_Mo_follow_100 : decode mm_Mo_follow.2.1 100 = .ok (.bipush 46, 2) := by decide +kernel
theorem d_Mo_follow_102 : decode mm_Mo_follow.2.1 102 = .ok (.if_icmp .ne 7, 3) := by decide +kernel
theorem d_Mo_follow_105 : decode mm_Mo_follow.2.1 105 = .ok (.iconst 1, 1) := by decide +kernel
theorem d_Mo_follow_106 : decode mm_Mo_follow.2.1 106 = .ok (.goto 4, 3) := by decide +kernel
theorem d_Mo_follow_109 : decode mm_Mo_follow.2.1 109 = .ok (.iconst 0, 1) := by decide +kernel
theorem d_Mo_follow_110 : decode mm_Mo_follow.2.1 110 = .ok (.istore 5, 2) := by decide +kernel
theorem d_Mo_follow_112 : decode mm_Mo_follow.2.1 112 = .ok (.aload_n 0, 1) := by decide +kernel
theorem d_Mo_follow_113 : decode mm_Mo_follow.2.1 113 = .ok (.getfield 38, 3) := by decide +kernel
theorem d_Mo_follow_116 : decode mm_Mo_follow.2.1 116 = .ok (.iload 4, 2) := by decide +kernel
theorem d_Mo_follow_118 : decode mm_Mo_follow.2.1 118 = .ok (.baload, 1) := by decide +kernel
theorem d_Mo_follow_119 : decode mm_Mo_follow.2.1 119 = .ok (.ifCond .eq 11, 3) := by decide +kernel
theorem d_Mo_follow_122 : decode mm_Mo_follow.2.1 122 = .ok (.aload_n 0, 1) := by decide +kernel
theorem d_Mo_follow_123 : decode mm_Mo_follow.2.1 123 = .ok (.iconst (-1), 1) := by decide +kernel
theorem d_Mo_follow_124 : decode mm_Mo_follow.2.1 124 = .ok (.putfield 249, 3) := by decide +kernel
theorem d_Mo_follow_127 : decode mm_Mo_follow.2.1 127 = .ok (.goto 81, 3) := by decide +kernel
theorem d_Mo_follow_130 : decode mm_Mo_follow.2.1 130 = .ok (.iload 5, 2) := by decide +kernel
theorem d_Mo_follow_132 : decode mm_Mo_follow.2.1 132 = .ok (.ifCond .eq 26, 3) := by decide +kernel
theorem d_Mo_follow_135 : decode mm_Mo_follow.2.1 135 = .ok (.aload_n 0, 1) := by decide +kernel
theorem d_Mo_follow_136 : decode mm_Mo_follow.2.1 136 = .ok (.iload 4, 2) := by decide +kernel
theorem d_Mo_follow_138 : decode mm_Mo_follow.2.1 138 = .ok (.ifCond .ne 7, 3) := by decide +kernel
theorem d_Mo_follow_141 : decode mm_Mo_follow.2.1 141 = .ok (.iconst 0, 1) := by decide +kernel
theorem d_Mo_follow_142 : decode mm_Mo_follow.2.1 142 = .ok (.goto 10, 3) := by decide +kernel
theorem d_Mo_follow_145 : decode mm_Mo_follow.2.1 145 = .ok (.aload_n 0, 1) := by decide +kernel
theorem d_Mo_follow_146 : decode mm_Mo_follow.2.1 146 = .ok (.getfield 41, 3) := by decide +kernel
theorem d_Mo_follow_149 : decode mm_Mo_follow.2.1 149 = .ok (.iload 4, 2) := by decide +kernel
theorem d_Mo_follow_151 : decode mm_Mo_follow.2.1 151 = .ok (.iaload, 1) := by decide +kernel
theorem d_Mo_follow_152 : decode mm_Mo_follow.2.1 152 = .ok (.putfield 249, 3) := by decide +kernel
theorem d_Mo_follow_155 : decode mm_Mo_follow.2.1 155 = .ok (.goto 53, 3) := by decide +kernel
theorem d_Mo_follow_158 : decode mm_Mo_follow.2.1 158 = .ok (.aload_n 0, 1) := by decide +kernel
theorem d_Mo_follow_159 : decode mm_Mo_follow.2.1 159 = .ok (.aload_n 0, 1) := by decide +kernel
theorem d_Mo_follow_160 : decode mm_Mo_follow.2.1 160 = .ok (.iload_n 2, 1) := by decide +kernel
theorem d_Mo_follow_161 : decode mm_Mo_follow.2.1 161 = .ok (.iload_n 3, 1) := by decide +kernel
theorem d_Mo_follow_162 : decode mm_Mo_follow.2.1 162 = .ok (.invokevirtual 255, 3) := by decide +kernel
theorem d_Mo_follow_165 : decode mm_Mo_follow.2.1 165 = .ok (.putfield 258, 3) := by decide +kernel
theorem d_Mo_follow_168 : decode mm_Mo_follow.2.1 168 = .ok (.aload_n 0, 1) := by decide +kernel
theorem d_Mo_follow_169 : decode mm_Mo_follow.2.1 169 = .ok (.aload_n 0, 1) := by decide +kernel
theorem d_Mo_follow_170 : decode mm_Mo_follow.2.1 170 = .ok (.iload 4, 2) := by decide +kernel
theorem d_Mo_follow_172 : decode mm_Mo_follow.2.1 172 = .ok (.aload_n 0, 1) := by decide +kernel
theorem d_Mo_follow_173 : decode mm_Mo_follow.2.1 173 = .ok (.getfield 258, 3) := by decide +kernel
theorem d_Mo_follow_176 : decode mm_Mo_follow.2.1 176 = .ok (.invokevirtual 261, 3) := by decide +kernel
theorem d_Mo_follow_179 : decode mm_Mo_follow.2.1 179 = .ok (.putfield 249, 3) := by decide +kernel
theorem d_Mo_follow_182 : decode mm_Mo_follow.2.1 182 = .ok (.aload_n 0, 1) := by decide +kernel
theorem d_Mo_follow_183 : decode mm_Mo_follow.2.1 183 = .ok (.getfield 249, 3) := by decide +kernel
theorem d_Mo_follow_186 : decode mm_Mo_follow.2.1 186 = .ok (.ifCond .ge 22, 3) := by decide +kernel
theorem d_Mo_follow_189 : decode mm_Mo_follow.2.1 189 = .ok (.iload_n 3, 1) := by decide +kernel
theorem d_Mo_follow_190 : decode mm_Mo_follow.2.1 190 = .ok (.aload_n 0, 1) := by decide +kernel
theorem d_Mo_follow_191 : decode mm_Mo_follow.2.1 191 = .ok (.getfield 62, 3) := by decide +kernel
theorem d_Mo_follow_194 : decode mm_Mo_follow.2.1 194 = .ok (.aload_n 0, 1) := by decide +kernel
theorem d_Mo_follow_195 : decode mm_Mo_follow.2.1 195 = .ok (.getfield 137, 3) := by decide +kernel
theorem d_Mo_follow_198 : decode mm_Mo_follow.2.1 198 = .ok (.iaload, 1) := by decide +kernel
theorem d_Mo_follow_199 : decode mm_Mo_follow.2.1 199 = .ok (.if_icmp .ne 9, 3) := by decide +kernel
theorem d_Mo_follow_202 : decode mm_Mo_follow.2.1 202 = .ok (.aload_n 0, 1) := by decide +kernel
theorem d_Mo_follow_203 : decode mm_Mo_follow.2.1 203 = .ok (.iload 4, 2) := by decide +kernel
theorem d_Mo_follow_205 : decode mm_Mo_follow.2.1 205 = .ok (.putfield 252, 3) := by decide +kernel
theorem d_Mo_follow_208 : decode mm_Mo_follow.2.1 208 = .ok (.iload_n 3, 1) := by decide +kernel
theorem d_Mo_follow_209 : decode mm_Mo_follow.2.1 209 = .ok (.iconst 1, 1) := by decide +kernel
theorem d_Mo_follow_210 : decode mm_Mo_follow.2.1 210 = .ok (.iadd, 1) := by decide +kernel
theorem d_Mo_follow_211 : decode mm_Mo_follow.2.1 211 = .ok (.istore_n 2, 1) := by decide +kernel
theorem d_Mo_follow_212 : decode mm_Mo_follow.2.1 212 = .ok (.goto (-149), 3) := by decide +kernel
theorem d_Mo_follow_215 : decode mm_Mo_follow.2.1 215 = .ok (.return_, 1) := by decide +kernel
def wp_Mo_follow_208  (H63 : Int32 → MzM → Prop) (K : MzM → Prop) (y3 : Int32) (M : MzM) : Prop := H63 (y3 + (1 : Int32)) M
def wp_Mo_follow_152  (H63 : Int32 → MzM → Prop) (K : MzM → Prop) (y3 : Int32) (ys0 : Int32) (M : MzM) : Prop := (∀ M60 : MzM, M60 = mz_si M (30, 0) 33 ys0 → wp_Mo_follow_208  H63 K y3 M60)
def wp_Mo_follow_110  (H63 : Int32 → MzM → Prop) (K : MzM → Prop) (y2 : Int32) (y3 : Int32) (y4 : Int32) (ys0 : Int32) (M : MzM) : Prop := (∃ j31 : Nat, y4.toInt = (j31 : Int) ∧ j31 < 16 ∧ (((mz_i M (33, 0) j31) = 0 → ((ys0 = 0 → wp_Mo_nameAt  y2 y3 M (fun v38 M35 => (∀ M39 : MzM, M39 = mz_si M35 (30, 0) 35 v38 → wp_Mo_child  y4 (mz_i M39 (30, 0) 35) M39 (fun v43 M40 => (∀ M44 : MzM, M44 = mz_si M40 (30, 0) 33 v43 → ((0 ≤ (mz_i M44 (30, 0) 33) → wp_Mo_follow_208  H63 K y3 M44) ∧ (¬ 0 ≤ (mz_i M44 (30, 0) 33) → (∃ j45 : Nat, (mz_i M44 (30, 0) 29).toInt = (j45 : Int) ∧ j45 < 2 ∧ ((¬ y3 = (mz_i M44 (41, 0) j45) → wp_Mo_follow_208  H63 K y3 M44) ∧ (y3 = (mz_i M44 (41, 0) j45) → (∀ M49 : MzM, M49 = mz_si M44 (30, 0) 34 y4 → wp_Mo_follow_208  H63 K y3 M49))))))))))) ∧ (¬ ys0 = 0 → ((¬ y4 = 0 → (∃ j52 : Nat, y4.toInt = (j52 : Int) ∧ j52 < 16 ∧ wp_Mo_follow_152  H63 K y3 (mz_i M (34, 0) j52) M)) ∧ (y4 = 0 → wp_Mo_follow_152  H63 K y3 (0 : Int32) M))))) ∧ (¬ (mz_i M (33, 0) j31) = 0 → (∀ M58 : MzM, M58 = mz_si M (30, 0) 33 (-1 : Int32) → wp_Mo_follow_208  H63 K y3 M58))))
def wp_Mo_follow_63   (K : MzM → Prop) : Nat → Int32 → MzM → Prop
  | 0, _, _ => False
  | r0 + 1, y2, M => (∃ j16 : Nat, (mz_i M (30, 0) 29).toInt = (j16 : Int) ∧ j16 < 2 ∧ (((mz_i M (41, 0) j16) ≤ y2 → K M) ∧ (¬ (mz_i M (41, 0) j16) ≤ y2 → (((mz_i M (30, 0) 33) < 0 → K M) ∧ (¬ (mz_i M (30, 0) 33) < 0 → wp_Mo_stepEnd  y2 M (fun v23 M20 => wp_Mo_ch  y2 M20 (fun v27 M24 => ((¬ v27 = (46 : Int32) → wp_Mo_follow_110  (wp_Mo_follow_63   K r0) K y2 v23 (mz_i M20 (30, 0) 33) (0 : Int32) M24) ∧ (v27 = (46 : Int32) → wp_Mo_follow_110  (wp_Mo_follow_63   K r0) K y2 v23 (mz_i M20 (30, 0) 33) (1 : Int32) M24)))))))))
def wp_Mo_follow_55   (K : MzM → Prop) (y2 : Int32) (ys0 : Int32) (M : MzM) : Prop := (∀ M12 : MzM, M12 = mz_si M (30, 0) 33 ys0 → (∀ M13 : MzM, M13 = mz_si M12 (30, 0) 34 (-1 : Int32) → (∃ r14 : Nat, wp_Mo_follow_63   K r14 y2 M13)))
def wp_Mo_follow_36   (K : MzM → Prop) (y1 : Int32) (ys0 : Int32) (M : MzM) : Prop := ((y1 = 0 → (∃ j7 : Nat, (mz_i M (30, 0) 29).toInt = (j7 : Int) ∧ j7 < 2 ∧ wp_Mo_follow_55   K ys0 (mz_i M (50, 0) j7) M)) ∧ (¬ y1 = 0 → wp_Mo_follow_55   K ys0 (0 : Int32) M))
def wp_Mo_follow_18   (K : MzM → Prop) (ys0 : Int32) (M : MzM) : Prop := ((ys0 = 0 → wp_Mo_follow_36   K ys0 (mz_i M (30, 0) 32) M) ∧ (¬ ys0 = 0 → wp_Mo_follow_36   K ys0 ((mz_i M (30, 0) 32) + (1 : Int32)) M))
def wp_Mo_follow   (M : MzM) (K : MzM → Prop) : Prop := wp_Mo_ch  (mz_i M (30, 0) 32) M (fun v4 M1 => ((¬ v4 = (47 : Int32) → wp_Mo_follow_18   K (0 : Int32) M1) ∧ (v4 = (47 : Int32) → wp_Mo_follow_18   K (1 : Int32) M1)))
theorem tm_Mo_follow_208 {G : MzG} {B : MzB} {d : Nat} {K : MzM → Prop} (hF : mzLive true B)   {H63 : Int32 → MzM → Prop} (hH63 : ∀ (y2 : Int32) (M : MzM), mzLnk true M → H63 y2 M → MzS G B (d + 2) mm_Mo_follow M (0, 0) (mzK0 true B K) 63 [(0, .ref (mz_ad B (30, 0))), (2, .int y2)] []) (y3 : Int32) (M : MzM) (hL : mzLnk true M) (h : wp_Mo_follow_208  H63 K y3 M) : MzS G B (d + 2) mm_Mo_follow M (0, 0) (mzK0 true B K) 208 [(0, .ref (mz_ad B (30, 0))), (3, .int y3)] [] := by
  unfold wp_Mo_follow_208 at h
  exact (mz_iload_n d_Mo_follow_208 rfl (mz_iconst (1 : Int32) d_Mo_follow_209 (by decide) (mz_iadd d_Mo_follow_210 (mz_istore_n d_Mo_follow_211 (by decide) (mz_goto 63 d_Mo_follow_212 rfl (MzS.loc [(0, .ref (mz_ad B (30, 0))), (2, .int (y3 + (1 : Int32)))] ⟨rfl, rfl, trivial⟩ (hH63 (y3 + (1 : Int32)) M hL h)))))))
theorem tm_Mo_follow_152 {G : MzG} {B : MzB} {d : Nat} {K : MzM → Prop} (hF : mzLive true B)   {H63 : Int32 → MzM → Prop} (hH63 : ∀ (y2 : Int32) (M : MzM), mzLnk true M → H63 y2 M → MzS G B (d + 2) mm_Mo_follow M (0, 0) (mzK0 true B K) 63 [(0, .ref (mz_ad B (30, 0))), (2, .int y2)] []) (y3 : Int32) (ys0 : Int32) (M : MzM) (hL : mzLnk true M) (h : wp_Mo_follow_152  H63 K y3 ys0 M) : MzS G B (d + 2) mm_Mo_follow M (0, 0) (mzK0 true B K) 152 [(0, .ref (mz_ad B (30, 0))), (3, .int y3)] [.int ys0, .ref (mz_ad B (30, 0))] := by
  unfold wp_Mo_follow_152 at h
  exact (mz_putI (k := 33) cl_10 d_Mo_follow_152 (by decide) wf_Mo_249 rfl rfl rfl rfl (hF 30 0 rfl (by decide)) rfl (let M60 : MzM := mz_si M (30, 0) 33 ys0; (mz_goto 208 d_Mo_follow_155 rfl (MzS.loc [(0, .ref (mz_ad B (30, 0))), (3, .int y3)] ⟨rfl, rfl, trivial⟩ (tm_Mo_follow_208 hF  hH63 y3 M60 hL (h M60 rfl))))))
theorem tm_Mo_follow_110 {G : MzG} {B : MzB} {d : Nat} {K : MzM → Prop} (hF : mzLive true B)   {H63 : Int32 → MzM → Prop} (hH63 : ∀ (y2 : Int32) (M : MzM), mzLnk true M → H63 y2 M → MzS G B (d + 2) mm_Mo_follow M (0, 0) (mzK0 true B K) 63 [(0, .ref (mz_ad B (30, 0))), (2, .int y2)] []) (y2 : Int32) (y3 : Int32) (y4 : Int32) (ys0 : Int32) (M : MzM) (hL : mzLnk true M) (h : wp_Mo_follow_110  H63 K y2 y3 y4 ys0 M) : MzS G B (d + 2) mm_Mo_follow M (0, 0) (mzK0 true B K) 110 [(0, .ref (mz_ad B (30, 0))), (2, .int y2), (3, .int y3), (4, .int y4)] [.int ys0] := by
  unfold wp_Mo_follow_110 at h
  exact (mz_istore d_Mo_follow_110 (by decide) (mz_aload_n d_Mo_follow_112 rfl (mz_getR (k := 3) (a := (33, 0)) cl_10 d_Mo_follow_113 (by decide) wf_Mo_38 rfl (hF 30 0 rfl (by decide)) rfl (hL (30, 0) 3 (33, 0) rfl rfl (by decide)) (mz_iload d_Mo_follow_116 rfl (match h with | ⟨j31, h32, h33, h34⟩ => mz_zald j31 d_Mo_follow_118 (hF 33 0 rfl (by decide)) rfl h32 h33 (mz_if_eq 130 d_Mo_follow_119 rfl (fun hc59 => (mz_iload d_Mo_follow_130 rfl (mz_if_eq 158 d_Mo_follow_132 rfl (fun hc57 => (mz_aload_n d_Mo_follow_158 rfl (mz_aload_n d_Mo_follow_159 rfl (mz_iload_n d_Mo_follow_160 rfl (mz_iload_n d_Mo_follow_161 rfl (mz_callV (As := [.int y2, .int y3]) (st := [.ref (mz_ad B (30, 0))]) (hF 30 0 rfl (by decide)) rfl (mzClOf cl_10) 0 0 d_Mo_follow_162 cs_Mo_nameAt wl_Mo_255 wi_Mo_nameAt wse_Mo_nameAt (Nat.le_of_ble_eq_true rfl) (Nat.zero_le _) (Nat.zero_le _) (MzC.mono (tm_Mo_nameAt (d := d) hF  hL ((h34.1 hc59).1 hc57)) (fun r9 B9 M35 hq37 => by obtain ⟨rfl, hL36, v38, rfl, hq37⟩ := hq37; exact ⟨_, rfl, (mz_putI (k := 35) cl_10 d_Mo_follow_165 (by decide) wf_Mo_258 rfl rfl rfl rfl (hF 30 0 rfl (by decide)) rfl (let M39 : MzM := mz_si M35 (30, 0) 35 v38; (mz_aload_n d_Mo_follow_168 rfl (mz_aload_n d_Mo_follow_169 rfl (mz_iload d_Mo_follow_170 rfl (mz_aload_n d_Mo_follow_172 rfl (mz_getI (k := 35) cl_10 d_Mo_follow_173 (by decide) wf_Mo_258 rfl (hF 30 0 rfl (by decide)) rfl (mz_callV (As := [.int y4, .int (mz_i M39 (30, 0) 35)]) (st := [.ref (mz_ad B (30, 0))]) (hF 30 0 rfl (by decide)) rfl (mzClOf cl_10) 0 0 d_Mo_follow_176 cs_Mo_child wl_Mo_261 wi_Mo_child wse_Mo_child (Nat.le_of_ble_eq_true rfl) (Nat.zero_le _) (Nat.zero_le _) (MzC.mono (tm_Mo_child (d := (d + 1)) hF  hL36 (hq37 M39 rfl)) (fun r9 B9 M40 hq42 => by obtain ⟨rfl, hL41, v43, rfl, hq42⟩ := hq42; exact ⟨_, rfl, (mz_putI (k := 33) cl_10 d_Mo_follow_179 (by decide) wf_Mo_249 rfl rfl rfl rfl (hF 30 0 rfl (by decide)) rfl (let M44 : MzM := mz_si M40 (30, 0) 33 v43; (mz_aload_n d_Mo_follow_182 rfl (mz_getI (k := 33) cl_10 d_Mo_follow_183 (by decide) wf_Mo_249 rfl (hF 30 0 rfl (by decide)) rfl (mz_if_ge 208 d_Mo_follow_186 rfl (fun hc51 => (MzS.loc [(0, .ref (mz_ad B (30, 0))), (3, .int y3)] ⟨rfl, rfl, trivial⟩ (tm_Mo_follow_208 hF  hH63 y3 M44 hL41 ((hq42 M44 rfl).1 hc51)))) (fun hc51 => (mz_iload_n d_Mo_follow_189 rfl (mz_aload_n d_Mo_follow_190 rfl (mz_getR (k := 11) (a := (41, 0)) cl_10 d_Mo_follow_191 (by decide) wf_Mo_62 rfl (hF 30 0 rfl (by decide)) rfl (hL41 (30, 0) 11 (41, 0) rfl rfl (by decide)) (mz_aload_n d_Mo_follow_194 rfl (mz_getI (k := 29) cl_10 d_Mo_follow_195 (by decide) wf_Mo_137 rfl (hF 30 0 rfl (by decide)) rfl (match ((hq42 M44 rfl).2 hc51) with | ⟨j45, h46, h47, h48⟩ => mz_iald j45 d_Mo_follow_198 (hF 41 0 rfl (by decide)) rfl h46 h47 (mz_icmp_ne 208 d_Mo_follow_199 rfl (fun hc50 => (MzS.loc [(0, .ref (mz_ad B (30, 0))), (3, .int y3)] ⟨rfl, rfl, trivial⟩ (tm_Mo_follow_208 hF  hH63 y3 M44 hL41 (h48.1 hc50)))) (fun hc50 => (mz_aload_n d_Mo_follow_202 rfl (mz_iload d_Mo_follow_203 rfl (mz_putI (k := 34) cl_10 d_Mo_follow_205 (by decide) wf_Mo_252 rfl rfl rfl rfl (hF 30 0 rfl (by decide)) rfl (let M49 : MzM := mz_si M44 (30, 0) 34 y4; (MzS.loc [(0, .ref (mz_ad B (30, 0))), (3, .int y3)] ⟨rfl, rfl, trivial⟩ (tm_Mo_follow_208 hF  hH63 y3 M49 hL41 ((h48.2 hc50) M49 rfl)))))))))))))))))))))⟩))))))))))⟩)))))))) (fun hc57 => (mz_aload_n d_Mo_follow_135 rfl (mz_iload d_Mo_follow_136 rfl (mz_if_ne 145 d_Mo_follow_138 rfl (fun hc56 => (mz_aload_n d_Mo_follow_145 rfl (mz_getR (k := 4) (a := (34, 0)) cl_10 d_Mo_follow_146 (by decide) wf_Mo_41 rfl (hF 30 0 rfl (by decide)) rfl (hL (30, 0) 4 (34, 0) rfl rfl (by decide)) (mz_iload d_Mo_follow_149 rfl (match (((h34.1 hc59).2 hc57).1 hc56) with | ⟨j52, h53, h54, h55⟩ => mz_iald j52 d_Mo_follow_151 (hF 34 0 rfl (by decide)) rfl h53 h54 (MzS.loc [(0, .ref (mz_ad B (30, 0))), (3, .int y3)] ⟨rfl, rfl, trivial⟩ (tm_Mo_follow_152 hF  hH63 y3 (mz_i M (34, 0) j52) M hL h55))))))) (fun hc56 => (mz_iconst (0 : Int32) d_Mo_follow_141 (by decide) (mz_goto 152 d_Mo_follow_142 rfl (MzS.loc [(0, .ref (mz_ad B (30, 0))), (3, .int y3)] ⟨rfl, rfl, trivial⟩ (tm_Mo_follow_152 hF  hH63 y3 (0 : Int32) M hL (((h34.1 hc59).2 hc57).2 hc56))))))))))))) (fun hc59 => (mz_aload_n d_Mo_follow_122 rfl (mz_iconst (-1 : Int32) d_Mo_follow_123 (by decide) (mz_putI (k := 33) cl_10 d_Mo_follow_124 (by decide) wf_Mo_249 rfl rfl rfl rfl (hF 30 0 rfl (by decide)) rfl (let M58 : MzM := mz_si M (30, 0) 33 (-1 : Int32); (mz_goto 208 d_Mo_follow_127 rfl (MzS.loc [(0, .ref (mz_ad B (30, 0))), (3, .int y3)] ⟨rfl, rfl, trivial⟩ (tm_Mo_follow_208 hF  hH63 y3 M58 hL ((h34.2 hc59) M58 rfl)))))))))))))))
theorem tm_Mo_follow_63 {G : MzG} {B : MzB} {d : Nat} {K : MzM → Prop} (hF : mzLive true B)     : ∀ (r0 : Nat) (y2 : Int32) (M : MzM), mzLnk true M → wp_Mo_follow_63   K r0 y2 M → MzS G B (d + 2) mm_Mo_follow M (0, 0) (mzK0 true B K) 63 [(0, .ref (mz_ad B (30, 0))), (2, .int y2)] [] := by
  intro r0
  induction r0 with
  | zero => intro y2 M hL h; exact False.elim h
  | succ r0 hH63 =>
    intro y2 M hL h
    unfold wp_Mo_follow_63 at h
    exact (mz_iload_n d_Mo_follow_63 rfl (mz_aload_n d_Mo_follow_64 rfl (mz_getR (k := 11) (a := (41, 0)) cl_10 d_Mo_follow_65 (by decide) wf_Mo_62 rfl (hF 30 0 rfl (by decide)) rfl (hL (30, 0) 11 (41, 0) rfl rfl (by decide)) (mz_aload_n d_Mo_follow_68 rfl (mz_getI (k := 29) cl_10 d_Mo_follow_69 (by decide) wf_Mo_137 rfl (hF 30 0 rfl (by decide)) rfl (match h with | ⟨j16, h17, h18, h19⟩ => mz_iald j16 d_Mo_follow_72 (hF 41 0 rfl (by decide)) rfl h17 h18 (mz_icmp_ge 215 d_Mo_follow_73 rfl (fun hc30 => (mz_vret d_Mo_follow_215 rfl ⟨rfl, hL, rfl, (h19.1 hc30)⟩)) (fun hc30 => (mz_aload_n d_Mo_follow_76 rfl (mz_getI (k := 33) cl_10 d_Mo_follow_77 (by decide) wf_Mo_249 rfl (hF 30 0 rfl (by decide)) rfl (mz_if_lt 215 d_Mo_follow_80 rfl (fun hc29 => (mz_vret d_Mo_follow_215 rfl ⟨rfl, hL, rfl, ((h19.2 hc30).1 hc29)⟩)) (fun hc29 => (mz_aload_n d_Mo_follow_83 rfl (mz_iload_n d_Mo_follow_84 rfl (mz_callV (As := [.int y2]) (st := []) (hF 30 0 rfl (by decide)) rfl (mzClOf cl_10) 0 0 d_Mo_follow_85 cs_Mo_stepEnd wl_Mo_198 wi_Mo_stepEnd wse_Mo_stepEnd (Nat.le_of_ble_eq_true rfl) (Nat.zero_le _) (Nat.zero_le _) (MzC.mono (tm_Mo_stepEnd (d := d) hF  hL ((h19.2 hc30).2 hc29)) (fun r9 B9 M20 hq22 => by obtain ⟨rfl, hL21, v23, rfl, hq22⟩ := hq22; exact ⟨_, rfl, (mz_istore_n d_Mo_follow_88 (by decide) (mz_aload_n d_Mo_follow_89 rfl (mz_getI (k := 33) cl_10 d_Mo_follow_90 (by decide) wf_Mo_249 rfl (hF 30 0 rfl (by decide)) rfl (mz_istore d_Mo_follow_93 (by decide) (mz_aload_n d_Mo_follow_95 rfl (mz_iload_n d_Mo_follow_96 rfl (mz_callV (As := [.int y2]) (st := []) (hF 30 0 rfl (by decide)) rfl (mzClOf cl_10) 0 0 d_Mo_follow_97 cs_Mo_ch wl_Mo_189 wi_Mo_ch wse_Mo_ch (Nat.le_of_ble_eq_true rfl) (Nat.zero_le _) (Nat.zero_le _) (MzC.mono (tm_Mo_ch (d := (d + 1)) hF  hL21 hq22) (fun r9 B9 M24 hq26 => by obtain ⟨rfl, hL25, v27, rfl, hq26⟩ := hq26; exact ⟨_, rfl, (mz_bipush (46 : Int32) d_Mo_follow_100 (by decide) (mz_icmp_ne 109 d_Mo_follow_102 rfl (fun hc28 => (mz_iconst (0 : Int32) d_Mo_follow_109 (by decide) (MzS.loc [(0, .ref (mz_ad B (30, 0))), (2, .int y2), (3, .int v23), (4, .int (mz_i M20 (30, 0) 33))] ⟨rfl, rfl, rfl, rfl, trivial⟩ (tm_Mo_follow_110 hF  hH63 y2 v23 (mz_i M20 (30, 0) 33) (0 : Int32) M24 hL25 (hq26.1 hc28))))) (fun hc28 => (mz_iconst (1 : Int32) d_Mo_follow_105 (by decide) (mz_goto 110 d_Mo_follow_106 rfl (MzS.loc [(0, .ref (mz_ad B (30, 0))), (2, .int y2), (3, .int v23), (4, .int (mz_i M20 (30, 0) 33))] ⟨rfl, rfl, rfl, rfl, trivial⟩ (tm_Mo_follow_110 hF  hH63 y2 v23 (mz_i M20 (30, 0) 33) (1 : Int32) M24 hL25 (hq26.2 hc28))))))))⟩)))))))))⟩)))))))))))))))))
theorem tm_Mo_follow_55 {G : MzG} {B : MzB} {d : Nat} {K : MzM → Prop} (hF : mzLive true B)     (y2 : Int32) (ys0 : Int32) (M : MzM) (hL : mzLnk true M) (h : wp_Mo_follow_55   K y2 ys0 M) : MzS G B (d + 2) mm_Mo_follow M (0, 0) (mzK0 true B K) 55 [(0, .ref (mz_ad B (30, 0))), (2, .int y2)] [.int ys0, .ref (mz_ad B (30, 0))] := by
  unfold wp_Mo_follow_55 at h
  exact (mz_putI (k := 33) cl_10 d_Mo_follow_55 (by decide) wf_Mo_249 rfl rfl rfl rfl (hF 30 0 rfl (by decide)) rfl (let M12 : MzM := mz_si M (30, 0) 33 ys0; (mz_aload_n d_Mo_follow_58 rfl (mz_iconst (-1 : Int32) d_Mo_follow_59 (by decide) (mz_putI (k := 34) cl_10 d_Mo_follow_60 (by decide) wf_Mo_252 rfl rfl rfl rfl (hF 30 0 rfl (by decide)) rfl (let M13 : MzM := mz_si M12 (30, 0) 34 (-1 : Int32); (MzS.loc [(0, .ref (mz_ad B (30, 0))), (2, .int y2)] ⟨rfl, rfl, trivial⟩ (match ((h M12 rfl) M13 rfl) with | ⟨r14, h15⟩ => tm_Mo_follow_63 hF   r14 y2 M13 hL h15))))))))
theorem tm_Mo_follow_36 {G : MzG} {B : MzB} {d : Nat} {K : MzM → Prop} (hF : mzLive true B)     (y1 : Int32) (ys0 : Int32) (M : MzM) (hL : mzLnk true M) (h : wp_Mo_follow_36   K y1 ys0 M) : MzS G B (d + 2) mm_Mo_follow M (0, 0) (mzK0 true B K) 36 [(0, .ref (mz_ad B (30, 0))), (1, .int y1)] [.int ys0] := by
  unfold wp_Mo_follow_36 at h
  exact (mz_istore_n d_Mo_follow_36 (by decide) (mz_aload_n d_Mo_follow_37 rfl (mz_iload_n d_Mo_follow_38 rfl (mz_if_eq 46 d_Mo_follow_39 rfl (fun hc11 => (mz_aload_n d_Mo_follow_46 rfl (mz_getR (k := 20) (a := (50, 0)) cl_10 d_Mo_follow_47 (by decide) wf_Mo_89 rfl (hF 30 0 rfl (by decide)) rfl (hL (30, 0) 20 (50, 0) rfl rfl (by decide)) (mz_aload_n d_Mo_follow_50 rfl (mz_getI (k := 29) cl_10 d_Mo_follow_51 (by decide) wf_Mo_137 rfl (hF 30 0 rfl (by decide)) rfl (match (h.1 hc11) with | ⟨j7, h8, h9, h10⟩ => mz_iald j7 d_Mo_follow_54 (hF 50 0 rfl (by decide)) rfl h8 h9 (MzS.loc [(0, .ref (mz_ad B (30, 0))), (2, .int ys0)] ⟨rfl, rfl, trivial⟩ (tm_Mo_follow_55 hF   ys0 (mz_i M (50, 0) j7) M hL h10)))))))) (fun hc11 => (mz_iconst (0 : Int32) d_Mo_follow_42 (by decide) (mz_goto 55 d_Mo_follow_43 rfl (MzS.loc [(0, .ref (mz_ad B (30, 0))), (2, .int ys0)] ⟨rfl, rfl, trivial⟩ (tm_Mo_follow_55 hF   ys0 (0 : Int32) M hL (h.2 hc11))))))))))
theorem tm_Mo_follow_18 {G : MzG} {B : MzB} {d : Nat} {K : MzM → Prop} (hF : mzLive true B)     (ys0 : Int32) (M : MzM) (hL : mzLnk true M) (h : wp_Mo_follow_18   K ys0 M) : MzS G B (d + 2) mm_Mo_follow M (0, 0) (mzK0 true B K) 18 [(0, .ref (mz_ad B (30, 0)))] [.int ys0] := by
  unfold wp_Mo_follow_18 at h
  exact (mz_istore_n d_Mo_follow_18 (by decide) (mz_iload_n d_Mo_follow_19 rfl (mz_if_eq 32 d_Mo_follow_20 rfl (fun hc6 => (mz_aload_n d_Mo_follow_32 rfl (mz_getI (k := 32) cl_10 d_Mo_follow_33 (by decide) wf_Mo_192 rfl (hF 30 0 rfl (by decide)) rfl (MzS.loc [(0, .ref (mz_ad B (30, 0))), (1, .int ys0)] ⟨rfl, rfl, trivial⟩ (tm_Mo_follow_36 hF   ys0 (mz_i M (30, 0) 32) M hL (h.1 hc6)))))) (fun hc6 => (mz_aload_n d_Mo_follow_23 rfl (mz_getI (k := 32) cl_10 d_Mo_follow_24 (by decide) wf_Mo_192 rfl (hF 30 0 rfl (by decide)) rfl (mz_iconst (1 : Int32) d_Mo_follow_27 (by decide) (mz_iadd d_Mo_follow_28 (mz_goto 36 d_Mo_follow_29 rfl (MzS.loc [(0, .ref (mz_ad B (30, 0))), (1, .int ys0)] ⟨rfl, rfl, trivial⟩ (tm_Mo_follow_36 hF   ys0 ((mz_i M (30, 0) 32) + (1 : Int32)) M hL (h.2 hc6))))))))))))
theorem tm_Mo_follow {G : MzG} {B : MzB} {d : Nat} {K : MzM → Prop} (hF : mzLive true B)    {M : MzM} (hL : mzLnk true M) (h : wp_Mo_follow   M K) : MzC G B (d + 2) mm_Mo_follow [.ref (mz_ad B (30, 0))] M (0, 0) (mzK0 true B K) := by
  unfold wp_Mo_follow at h
  exact MzC.of rfl (Nat.le_of_ble_eq_true rfl) (show MzS G B (d + 2) mm_Mo_follow M (0, 0) (mzK0 true B K) 0 [(0, .ref (mz_ad B (30, 0)))] [] from (mz_aload_n d_Mo_follow_0 rfl (mz_aload_n d_Mo_follow_1 rfl (mz_getI (k := 32) cl_10 d_Mo_follow_2 (by decide) wf_Mo_192 rfl (hF 30 0 rfl (by decide)) rfl (mz_callV (As := [.int (mz_i M (30, 0) 32)]) (st := []) (hF 30 0 rfl (by decide)) rfl (mzClOf cl_10) 0 0 d_Mo_follow_5 cs_Mo_ch wl_Mo_189 wi_Mo_ch wse_Mo_ch (Nat.le_of_ble_eq_true rfl) (Nat.zero_le _) (Nat.zero_le _) (MzC.mono (tm_Mo_ch (d := (d + 1)) hF  hL h) (fun r9 B9 M1 hq3 => by obtain ⟨rfl, hL2, v4, rfl, hq3⟩ := hq3; exact ⟨_, rfl, (mz_bipush (47 : Int32) d_Mo_follow_8 (by decide) (mz_icmp_ne 17 d_Mo_follow_10 rfl (fun hc5 => (mz_iconst (0 : Int32) d_Mo_follow_17 (by decide) (MzS.loc [(0, .ref (mz_ad B (30, 0)))] ⟨rfl, trivial⟩ (tm_Mo_follow_18 hF   (0 : Int32) M1 hL2 (hq3.1 hc5))))) (fun hc5 => (mz_iconst (1 : Int32) d_Mo_follow_13 (by decide) (mz_goto 18 d_Mo_follow_14 rfl (MzS.loc [(0, .ref (mz_ad B (30, 0)))] ⟨rfl, trivial⟩ (tm_Mo_follow_18 hF   (1 : Int32) M1 hL2 (hq3.2 hc5))))))))⟩)))))))
def mm_Mo_written : MzT := (⟨"ParcelLineModel", "written", "(I)Z"⟩, prog_14_method_40_code, 2, (Option.some Jvm.ClassFile.FieldType.boolean))
theorem cs_Mo_written {mm : MzT} : mzCall mm mm_Mo_written 1 := ⟨wn_Mo, wco_Mo_written, by decide +kernel, by decide⟩
theorem d_Mo_written_0 : decode mm_Mo_written.2.1 0 = .ok (.aload_n 0, 1) := by decide +kernel
theorem d_Mo_written_1 : decode mm_Mo_written.2.1 1 = .ok (.getfield 98, 3) := by decide +kernel
theorem d_Mo_written_4 : decode mm_Mo_written.2.1 4 = .ok (.iconst 0, 1) := by decide +kernel
theorem d_Mo_written_5 : decode mm_Mo_written.2.1 5 = .ok (.iaload, 1) := by decide +kernel
theorem d_Mo_written_6 : decode mm_Mo_written.2.1 6 = .ok (.iconst 2, 1) := by decide +kernel
theorem d_Mo_written_7 : decode mm_Mo_written.2.1 7 = .ok (.if_icmp .ne 13, 3) := by decide +kernel
theorem d_Mo_written_10 : decode mm_Mo_written.2.1 10 = .ok (.aload_n 0, 1) := by decide +kernel
theorem d_Mo_written_11 : decode mm_Mo_written.2.1 11 = .ok (.getfield 101, 3) := by decide +kernel
theorem d_Mo_written_14 : decode mm_Mo_written.2.1 14 = .ok (.iconst 0, 1) := by decide +kernel
theorem d_Mo_written_15 : decode mm_Mo_written.2.1 15 = .ok (.iaload, 1) := by decide +kernel
theorem d_Mo_written_16 : decode mm_Mo_written.2.1 16 = .ok (.iload_n 1, 1) := by decide +kernel
theorem d_Mo_written_17 : decode mm_Mo_written.2.1 17 = .ok (.if_icmp .eq 23, 3) := by decide +kernel
theorem d_Mo_written_20 : decode mm_Mo_written.2.1 20 = .ok (.aload_n 0, 1) := by decide +kernel
theorem d_Mo_written_21 : decode mm_Mo_written.2.1 21 = .ok (.getfield 98, 3) := by decide +kernel
theorem d_Mo_written_24 : decode mm_Mo_written.2.1 24 = .ok (.iconst 1, 1) := by decide +kernel
theorem d_Mo_written_25 : decode mm_Mo_written.2.1 25 = .ok (.iaload, 1) := by decide +kernel
theorem d_Mo_written_26 : decode mm_Mo_written.2.1 26 = .ok (.iconst 2, 1) := by decide +kernel
theorem d_Mo_written_27 : decode mm_Mo_written.2.1 27 = .ok (.if_icmp .ne 17, 3) := by decide +kernel
theorem d_Mo_written_30 : decode mm_Mo_written.2.1 30 = .ok (.aload_n 0, 1) := by decide +kernel
theorem d_Mo_written_31 : decode mm_Mo_written.2.1 31 = .ok (.getfield 101, 3) := by decide +kernel
theorem d_Mo_written_34 : decode mm_Mo_written.2.1 34 = .ok (.iconst 1, 1) := by decide +kernel
theorem d_Mo_written_35 : decode mm_Mo_written.2.1 35 = .ok (.iaload, 1) := by decide +kernel
theorem d_Mo_written_36 : decode mm_Mo_written.2.1 36 = .ok (.iload_n 1, 1) := by decide +kernel
theorem d_Mo_written_37 : decode mm_Mo_written.2.1 37 = .ok (.if_icmp .ne 7, 3) := by decide +kernel
theorem d_Mo_written_40 : decode mm_Mo_written.2.1 40 = .ok (.iconst 1, 1) := by decide +kernel
theorem d_Mo_written_41 : decode mm_Mo_written.2.1 41 = .ok (.goto 4, 3) := by decide +kernel
theorem d_Mo_written_44 : decode mm_Mo_written.2.1 44 = .ok (.iconst 0, 1) := by decide +kernel
theorem d_Mo_written_45 : decode mm_Mo_written.2.1 45 = .ok (.ireturn, 1) := by decide +kernel
def wp_Mo_written_20   (K : Int32 → MzM → Prop) (y1 : Int32) (M : MzM) : Prop := ((¬ (mz_i M (53, 0) 1) = (2 : Int32) → K (0 : Int32) M) ∧ ((mz_i M (53, 0) 1) = (2 : Int32) → ((¬ (mz_i M (54, 0) 1) = y1 → K (0 : Int32) M) ∧ ((mz_i M (54, 0) 1) = y1 → K (1 : Int32) M))))
def wp_Mo_written  (a1 : Int32) (M : MzM) (K : Int32 → MzM → Prop) : Prop := ((¬ (mz_i M (53, 0) 0) = (2 : Int32) → wp_Mo_written_20   K a1 M) ∧ ((mz_i M (53, 0) 0) = (2 : Int32) → (((mz_i M (54, 0) 0) = a1 → K (1 : Int32) M) ∧ (¬ (mz_i M (54, 0) 0) = a1 → wp_Mo_written_20   K a1 M))))
theorem tm_Mo_written_20 {G : MzG} {B : MzB} {d : Nat} {K : Int32 → MzM → Prop} (hF : mzLive true B)     (y1 : Int32) (M : MzM) (hL : mzLnk true M) (h : wp_Mo_written_20   K y1 M) : MzS G B d mm_Mo_written M (0, 0) (mzK1 true B K) 20 [(0, .ref (mz_ad B (30, 0))), (1, .int y1)] [] := by
  unfold wp_Mo_written_20 at h
  exact (mz_aload_n d_Mo_written_20 rfl (mz_getR (k := 23) (a := (53, 0)) cl_10 d_Mo_written_21 (by decide) wf_Mo_98 rfl (hF 30 0 rfl (by decide)) rfl (hL (30, 0) 23 (53, 0) rfl rfl (by decide)) (mz_iconst (1 : Int32) d_Mo_written_24 (by decide) (mz_iald 1 d_Mo_written_25 (hF 53 0 rfl (by decide)) rfl (by decide) (by decide) (mz_iconst (2 : Int32) d_Mo_written_26 (by decide) (mz_icmp_ne 44 d_Mo_written_27 rfl (fun hc4 => (mz_iconst (0 : Int32) d_Mo_written_44 (by decide) (mz_iret .boolean d_Mo_written_45 rfl rfl ⟨rfl, hL, _, rfl, (h.1 hc4)⟩))) (fun hc4 => (mz_aload_n d_Mo_written_30 rfl (mz_getR (k := 24) (a := (54, 0)) cl_10 d_Mo_written_31 (by decide) wf_Mo_101 rfl (hF 30 0 rfl (by decide)) rfl (hL (30, 0) 24 (54, 0) rfl rfl (by decide)) (mz_iconst (1 : Int32) d_Mo_written_34 (by decide) (mz_iald 1 d_Mo_written_35 (hF 54 0 rfl (by decide)) rfl (by decide) (by decide) (mz_iload_n d_Mo_written_36 rfl (mz_icmp_ne 44 d_Mo_written_37 rfl (fun hc3 => (mz_iconst (0 : Int32) d_Mo_written_44 (by decide) (mz_iret .boolean d_Mo_written_45 rfl rfl ⟨rfl, hL, _, rfl, ((h.2 hc4).1 hc3)⟩))) (fun hc3 => (mz_iconst (1 : Int32) d_Mo_written_40 (by decide) (mz_goto 45 d_Mo_written_41 rfl (mz_iret .boolean d_Mo_written_45 rfl rfl ⟨rfl, hL, _, rfl, ((h.2 hc4).2 hc3)⟩)))))))))))))))))
theorem tm_Mo_written {G : MzG} {B : MzB} {d : Nat} {K : Int32 → MzM → Prop} (hF : mzLive true B)   {a1 : Int32} {M : MzM} (hL : mzLnk true M) (h : wp_Mo_written  a1 M K) : MzC G B d mm_Mo_written [.ref (mz_ad B (30, 0)), .int a1] M (0, 0) (mzK1 true B K) := by
  unfold wp_Mo_written at h
  exact MzC.of rfl (Nat.le_of_ble_eq_true rfl) (show MzS G B d mm_Mo_written M (0, 0) (mzK1 true B K) 0 [(0, .ref (mz_ad B (30, 0))), (1, .int a1)] [] from (mz_aload_n d_Mo_written_0 rfl (mz_getR (k := 23) (a := (53, 0)) cl_10 d_Mo_written_1 (by decide) wf_Mo_98 rfl (hF 30 0 rfl (by decide)) rfl (hL (30, 0) 23 (53, 0) rfl rfl (by decide)) (mz_iconst (0 : Int32) d_Mo_written_4 (by decide) (mz_iald 0 d_Mo_written_5 (hF 53 0 rfl (by decide)) rfl (by decide) (by decide) (mz_iconst (2 : Int32) d_Mo_written_6 (by decide) (mz_icmp_ne 20 d_Mo_written_7 rfl (fun hc2 => (MzS.loc [(0, .ref (mz_ad B (30, 0))), (1, .int a1)] ⟨rfl, rfl, trivial⟩ (tm_Mo_written_20 hF   a1 M hL (h.1 hc2)))) (fun hc2 => (mz_aload_n d_Mo_written_10 rfl (mz_getR (k := 24) (a := (54, 0)) cl_10 d_Mo_written_11 (by decide) wf_Mo_101 rfl (hF 30 0 rfl (by decide)) rfl (hL (30, 0) 24 (54, 0) rfl rfl (by decide)) (mz_iconst (0 : Int32) d_Mo_written_14 (by decide) (mz_iald 0 d_Mo_written_15 (hF 54 0 rfl (by decide)) rfl (by decide) (by decide) (mz_iload_n d_Mo_written_16 rfl (mz_icmp_eq 40 d_Mo_written_17 rfl (fun hc1 => (mz_iconst (1 : Int32) d_Mo_written_40 (by decide) (mz_goto 45 d_Mo_written_41 rfl (mz_iret .boolean d_Mo_written_45 rfl rfl ⟨rfl, hL, _, rfl, ((h.2 hc2).1 hc1)⟩)))) (fun hc1 => (MzS.loc [(0, .ref (mz_ad B (30, 0))), (1, .int a1)] ⟨rfl, rfl, trivial⟩ (tm_Mo_written_20 hF   a1 M hL ((h.2 hc2).2 hc1))))))))))))))))))
def mm_Mo_addOut : MzT := (⟨"ParcelLineModel", "addOut", "(I)V"⟩, prog_14_method_49_code, 2, (Option.none : Option Jvm.ClassFile.FieldType))
theorem cs_Mo_addOut {mm : MzT} : mzCall mm mm_Mo_addOut 1 := ⟨wn_Mo, wco_Mo_addOut, by decide +kernel, by decide⟩
theorem d_Mo_addOut_0 : decode mm_Mo_addOut.2.1 0 = .ok (.aload_n 0, 1) := by decide +kernel
theorem d_Mo_addOut_1 : decode mm_Mo_addOut.2.1 1 = .ok (.getfield 113, 3) := by decide +kernel
theorem d_Mo_addOut_4 : decode mm_Mo_addOut.2.1 4 = .ok (.bipush 96, 2) := by decide +kernel
theorem d_Mo_addOut_6 : decode mm_Mo_addOut.2.1 6 = .ok (.aload_n 0, 1) := by decide +kernel
theorem d_Mo_addOut_7 : decode mm_Mo_addOut.2.1 7 = .ok (.getfield 137, 3) := by decide +kernel
theorem d_Mo_addOut_10 : decode mm_Mo_addOut.2.1 10 = .ok (.imul, 1) := by decide +kernel
theorem d_Mo_addOut_11 : decode mm_Mo_addOut.2.1 11 = .ok (.aload_n 0, 1) := by decide +kernel
theorem d_Mo_addOut_12 : decode mm_Mo_addOut.2.1 12 = .ok (.getfield 107, 3) := by decide +kernel
theorem d_Mo_addOut_15 : decode mm_Mo_addOut.2.1 15 = .ok (.aload_n 0, 1) := by decide +kernel
theorem d_Mo_addOut_16 : decode mm_Mo_addOut.2.1 16 = .ok (.getfield 137, 3) := by decide +kernel
theorem d_Mo_addOut_19 : decode mm_Mo_addOut.2.1 19 = .ok (.iaload, 1) := by decide +kernel
theorem d_Mo_addOut_20 : decode mm_Mo_addOut.2.1 20 = .ok (.iadd, 1) := by decide +kernel
theorem d_Mo_addOut_21 : decode mm_Mo_addOut.2.1 21 = .ok (.iload_n 1, 1) := by decide +kernel
theorem d_Mo_addOut_22 : decode mm_Mo_addOut.2.1 22 = .ok (.iastore, 1) := by decide +kernel
theorem d_Mo_addOut_23 : decode mm_Mo_addOut.2.1 23 = .ok (.aload_n 0, 1) := by decide +kernel
theorem d_Mo_addOut_24 : decode mm_Mo_addOut.2.1 24 = .ok (.getfield 107, 3) := by decide +kernel
theorem d_Mo_addOut_27 : decode mm_Mo_addOut.2.1 27 = .ok (.aload_n 0, 1) := by decide +kernel
theorem d_Mo_addOut_28 : decode mm_Mo_addOut.2.1 28 = .ok (.getfield 137, 3) := by decide +kernel
theorem d_Mo_addOut_31 : decode mm_Mo_addOut.2.1 31 = .ok (.dup2, 1) := by decide +kernel
theorem d_Mo_addOut_32 : decode mm_Mo_addOut.2.1 32 = .ok (.iaload, 1) := by decide +kernel
theorem d_Mo_addOut_33 : decode mm_Mo_addOut.2.1 33 = .ok (.iconst 1, 1) := by decide +kernel
theorem d_Mo_addOut_34 : decode mm_Mo_addOut.2.1 34 = .ok (.iadd, 1) := by decide +kernel
theorem d_Mo_addOut_35 : decode mm_Mo_addOut.2.1 35 = .ok (.iastore, 1) := by decide +kernel
theorem d_Mo_addOut_36 : decode mm_Mo_addOut.2.1 36 = .ok (.return_, 1) := by decide +kernel
def wp_Mo_addOut  (a1 : Int32) (M : MzM) (K : MzM → Prop) : Prop := (∃ j1 : Nat, (mz_i M (30, 0) 29).toInt = (j1 : Int) ∧ j1 < 2 ∧ (∃ j8 : Nat, (((96 : Int32) * (mz_i M (30, 0) 29)) + (mz_i M (56, 0) j1)).toInt = (j8 : Int) ∧ j8 < 192 ∧ ∀ M5 : MzM, M5 = mz_si M (58, 0) j8 a1 → (∃ j11 : Nat, (mz_i M5 (30, 0) 29).toInt = (j11 : Int) ∧ j11 < 2 ∧ (∃ j18 : Nat, (mz_i M5 (30, 0) 29).toInt = (j18 : Int) ∧ j18 < 2 ∧ ∀ M15 : MzM, M15 = mz_si M5 (56, 0) j18 ((mz_i M5 (56, 0) j11) + (1 : Int32)) → K M15))))
theorem tm_Mo_addOut {G : MzG} {B : MzB} {d : Nat} {K : MzM → Prop} (hF : mzLive true B)   {a1 : Int32} {M : MzM} (hL : mzLnk true M) (h : wp_Mo_addOut  a1 M K) : MzC G B d mm_Mo_addOut [.ref (mz_ad B (30, 0)), .int a1] M (0, 0) (mzK0 true B K) := by
  unfold wp_Mo_addOut at h
  exact MzC.of rfl (Nat.le_of_ble_eq_true rfl) (show MzS G B d mm_Mo_addOut M (0, 0) (mzK0 true B K) 0 [(0, .ref (mz_ad B (30, 0))), (1, .int a1)] [] from (mz_aload_n d_Mo_addOut_0 rfl (mz_getR (k := 28) (a := (58, 0)) cl_10 d_Mo_addOut_1 (by decide) wf_Mo_113 rfl (hF 30 0 rfl (by decide)) rfl (hL (30, 0) 28 (58, 0) rfl rfl (by decide)) (mz_bipush (96 : Int32) d_Mo_addOut_4 (by decide) (mz_aload_n d_Mo_addOut_6 rfl (mz_getI (k := 29) cl_10 d_Mo_addOut_7 (by decide) wf_Mo_137 rfl (hF 30 0 rfl (by decide)) rfl (mz_imul d_Mo_addOut_10 (mz_aload_n d_Mo_addOut_11 rfl (mz_getR (k := 26) (a := (56, 0)) cl_10 d_Mo_addOut_12 (by decide) wf_Mo_107 rfl (hF 30 0 rfl (by decide)) rfl (hL (30, 0) 26 (56, 0) rfl rfl (by decide)) (mz_aload_n d_Mo_addOut_15 rfl (mz_getI (k := 29) cl_10 d_Mo_addOut_16 (by decide) wf_Mo_137 rfl (hF 30 0 rfl (by decide)) rfl (match h with | ⟨j1, h2, h3, h4⟩ => mz_iald j1 d_Mo_addOut_19 (hF 56 0 rfl (by decide)) rfl h2 h3 (mz_iadd d_Mo_addOut_20 (mz_iload_n d_Mo_addOut_21 rfl (match h4 with | ⟨j8, h9, h10, h7⟩ => mz_iast j8 d_Mo_addOut_22 (hF 58 0 rfl (by decide)) rfl h9 h10 (let M5 : MzM := mz_si M (58, 0) j8 a1; (mz_aload_n d_Mo_addOut_23 rfl (mz_getR (k := 26) (a := (56, 0)) cl_10 d_Mo_addOut_24 (by decide) wf_Mo_107 rfl (hF 30 0 rfl (by decide)) rfl (hL (30, 0) 26 (56, 0) rfl rfl (by decide)) (mz_aload_n d_Mo_addOut_27 rfl (mz_getI (k := 29) cl_10 d_Mo_addOut_28 (by decide) wf_Mo_137 rfl (hF 30 0 rfl (by decide)) rfl (mz_dup2 d_Mo_addOut_31 rfl rfl (match (h7 M5 rfl) with | ⟨j11, h12, h13, h14⟩ => mz_iald j11 d_Mo_addOut_32 (hF 56 0 rfl (by decide)) rfl h12 h13 (mz_iconst (1 : Int32) d_Mo_addOut_33 (by decide) (mz_iadd d_Mo_addOut_34 (match h14 with | ⟨j18, h19, h20, h17⟩ => mz_iast j18 d_Mo_addOut_35 (hF 56 0 rfl (by decide)) rfl h19 h20 (let M15 : MzM := mz_si M5 (56, 0) j18 ((mz_i M5 (56, 0) j11) + (1 : Int32)); (mz_vret d_Mo_addOut_36 rfl ⟨rfl, hL, rfl, (h17 M15 rfl)⟩)))))))))))))))))))))))))))
def mm_Mo_finish : MzT := (⟨"ParcelLineModel", "finish", "(I)V"⟩, prog_14_method_54_code, 3, (Option.none : Option Jvm.ClassFile.FieldType))
theorem cs_Mo_finish {mm : MzT} : mzCall mm mm_Mo_finish 1 := ⟨wn_Mo, wco_Mo_finish, by decide +kernel, by decide⟩
theorem d_Mo_finish_0 : decode mm_Mo_finish.2.1 0 = .ok (.aload_n 0, 1) := by decide +kernel
theorem d_Mo_finish_1 : decode mm_Mo_finish.2.1 1 = .ok (.getfield 98, 3) := by decide +kernel
theorem d_Mo_finish_4 : decode mm_Mo_finish.2.1 4 = .ok (.iload_n 1, 1) := by decide +kernel
theorem d_Mo_finish_5 : decode mm_Mo_finish.2.1 5 = .ok (.iaload, 1) := by decide +kernel
theorem d_Mo_finish_6 : decode mm_Mo_finish.2.1 6 = .ok (.iconst 2, 1) := by decide +kernel
theorem d_Mo_finish_7 : decode mm_Mo_finish.2.1 7 = .ok (.if_icmp .ne 12, 3) := by decide +kernel
theorem d_Mo_finish_10 : decode mm_Mo_finish.2.1 10 = .ok (.aload_n 0, 1) := by decide +kernel
theorem d_Mo_finish_11 : decode mm_Mo_finish.2.1 11 = .ok (.getfield 101, 3) := by decide +kernel
theorem d_Mo_finish_14 : decode mm_Mo_finish.2.1 14 = .ok (.iload_n 1, 1) := by decide +kernel
theorem d_Mo_finish_15 : decode mm_Mo_finish.2.1 15 = .ok (.iaload, 1) := by decide +kernel
theorem d_Mo_finish_16 : decode mm_Mo_finish.2.1 16 = .ok (.goto 4, 3) := by decide +kernel
theorem d_Mo_finish_19 : decode mm_Mo_finish.2.1 19 = .ok (.iconst (-1), 1) := by decide +kernel
theorem d_Mo_finish_20 : decode mm_Mo_finish.2.1 20 = .ok (.istore_n 2, 1) := by decide +kernel
theorem d_Mo_finish_21 : decode mm_Mo_finish.2.1 21 = .ok (.aload_n 0, 1) := by decide +kernel
theorem d_Mo_finish_22 : decode mm_Mo_finish.2.1 22 = .ok (.iload_n 1, 1) := by decide +kernel
theorem d_Mo_finish_23 : decode mm_Mo_finish.2.1 23 = .ok (.invokevirtual 130, 3) := by decide +kernel
theorem d_Mo_finish_26 : decode mm_Mo_finish.2.1 26 = .ok (.iload_n 2, 1) := by decide +kernel
theorem d_Mo_finish_27 : decode mm_Mo_finish.2.1 27 = .ok (.ifCond .lt 10, 3) := by decide +kernel
theorem d_Mo_finish_30 : decode mm_Mo_finish.2.1 30 = .ok (.aload_n 0, 1) := by decide +kernel
theorem d_Mo_finish_31 : decode mm_Mo_finish.2.1 31 = .ok (.getfield 50, 3) := by decide +kernel
theorem d_Mo_finish_34 : decode mm_Mo_finish.2.1 34 = .ok (.iload_n 2, 1) := by decide +kernel
theorem d_Mo_finish_35 : decode mm_Mo_finish.2.1 35 = .ok (.iconst 1, 1) := by decide +kernel
theorem d_Mo_finish_36 : decode mm_Mo_finish.2.1 36 = .ok (.bastore, 1) := by decide +kernel
theorem d_Mo_finish_37 : decode mm_Mo_finish.2.1 37 = .ok (.aload_n 0, 1) := by decide +kernel
theorem d_Mo_finish_38 : decode mm_Mo_finish.2.1 38 = .ok (.iload_n 1, 1) := by decide +kernel
theorem d_Mo_finish_39 : decode mm_Mo_finish.2.1 39 = .ok (.putfield 137, 3) := by decide +kernel
theorem d_Mo_finish_42 : decode mm_Mo_finish.2.1 42 = .ok (.aload_n 0, 1) := by decide +kernel
theorem d_Mo_finish_43 : decode mm_Mo_finish.2.1 43 = .ok (.sipush 226, 3) := by decide +kernel
theorem d_Mo_finish_46 : decode mm_Mo_finish.2.1 46 = .ok (.invokevirtual 218, 3) := by decide +kernel
theorem d_Mo_finish_49 : decode mm_Mo_finish.2.1 49 = .ok (.return_, 1) := by decide +kernel
def wp_Mo_finish_20   (K : MzM → Prop) (y1 : Int32) (ys0 : Int32) (M : MzM) : Prop := wp_Mo_endTransfer  y1 M (fun M10 => ((ys0 < 0 → (∀ M13 : MzM, M13 = mz_si M10 (30, 0) 29 y1 → wp_Mo_answer  (226 : Int32) M13 (fun M14 => K M14))) ∧ (¬ ys0 < 0 → (∃ j20 : Nat, ys0.toInt = (j20 : Int) ∧ j20 < 16 ∧ ∀ M17 : MzM, M17 = mz_si M10 (37, 0) j20 (1 : Int32) → (∀ M23 : MzM, M23 = mz_si M17 (30, 0) 29 y1 → wp_Mo_answer  (226 : Int32) M23 (fun M24 => K M24))))))
def wp_Mo_finish  (a1 : Int32) (M : MzM) (K : MzM → Prop) : Prop := (∃ j1 : Nat, a1.toInt = (j1 : Int) ∧ j1 < 2 ∧ ((¬ (mz_i M (53, 0) j1) = (2 : Int32) → wp_Mo_finish_20   K a1 (-1 : Int32) M) ∧ ((mz_i M (53, 0) j1) = (2 : Int32) → (∃ j5 : Nat, a1.toInt = (j5 : Int) ∧ j5 < 2 ∧ wp_Mo_finish_20   K a1 (mz_i M (54, 0) j5) M))))
theorem tm_Mo_finish_20 {G : MzG} {B : MzB} {d : Nat} {K : MzM → Prop} (hF : mzLive true B)     (y1 : Int32) (ys0 : Int32) (M : MzM) (hL : mzLnk true M) (h : wp_Mo_finish_20   K y1 ys0 M) : MzS G B (d + 3) mm_Mo_finish M (0, 0) (mzK0 true B K) 20 [(0, .ref (mz_ad B (30, 0))), (1, .int y1)] [.int ys0] := by
  unfold wp_Mo_finish_20 at h
  exact (mz_istore_n d_Mo_finish_20 (by decide) (mz_aload_n d_Mo_finish_21 rfl (mz_iload_n d_Mo_finish_22 rfl (mz_callV (As := [.int y1]) (st := []) (hF 30 0 rfl (by decide)) rfl (mzClOf cl_10) 0 0 d_Mo_finish_23 cs_Mo_endTransfer wl_Mo_130 wi_Mo_endTransfer wse_Mo_endTransfer (Nat.le_of_ble_eq_true rfl) (Nat.zero_le _) (Nat.zero_le _) (MzC.mono (tm_Mo_endTransfer (d := (d + 1)) hF  hL h) (fun r9 B9 M10 hq12 => by obtain ⟨rfl, hL11, rfl, hq12⟩ := hq12; exact ⟨none, rfl, (mz_iload_n d_Mo_finish_26 rfl (mz_if_lt 37 d_Mo_finish_27 rfl (fun hc27 => (mz_aload_n d_Mo_finish_37 rfl (mz_iload_n d_Mo_finish_38 rfl (mz_putI (k := 29) cl_10 d_Mo_finish_39 (by decide) wf_Mo_137 rfl rfl rfl rfl (hF 30 0 rfl (by decide)) rfl (let M13 : MzM := mz_si M10 (30, 0) 29 y1; (mz_aload_n d_Mo_finish_42 rfl (mz_sipush (226 : Int32) d_Mo_finish_43 (by decide) (mz_callV (As := [.int (226 : Int32)]) (st := []) (hF 30 0 rfl (by decide)) rfl (mzClOf cl_10) 0 0 d_Mo_finish_46 cs_Mo_answer wl_Mo_218 wi_Mo_answer wse_Mo_answer (Nat.le_of_ble_eq_true rfl) (Nat.zero_le _) (Nat.zero_le _) (MzC.mono (tm_Mo_answer (d := d) hF  hL11 ((hq12.1 hc27) M13 rfl)) (fun r9 B9 M14 hq16 => by obtain ⟨rfl, hL15, rfl, hq16⟩ := hq16; exact ⟨none, rfl, (mz_vret d_Mo_finish_49 rfl ⟨rfl, hL15, rfl, hq16⟩)⟩)))))))))) (fun hc27 => (mz_aload_n d_Mo_finish_30 rfl (mz_getR (k := 7) (a := (37, 0)) cl_10 d_Mo_finish_31 (by decide) wf_Mo_50 rfl (hF 30 0 rfl (by decide)) rfl (hL11 (30, 0) 7 (37, 0) rfl rfl (by decide)) (mz_iload_n d_Mo_finish_34 rfl (mz_iconst (1 : Int32) d_Mo_finish_35 (by decide) (match (hq12.2 hc27) with | ⟨j20, h21, h22, h19⟩ => mz_zast j20 d_Mo_finish_36 (hF 37 0 rfl (by decide)) rfl h21 h22 (by decide) (let M17 : MzM := mz_si M10 (37, 0) j20 (1 : Int32); (mz_aload_n d_Mo_finish_37 rfl (mz_iload_n d_Mo_finish_38 rfl (mz_putI (k := 29) cl_10 d_Mo_finish_39 (by decide) wf_Mo_137 rfl rfl rfl rfl (hF 30 0 rfl (by decide)) rfl (let M23 : MzM := mz_si M17 (30, 0) 29 y1; (mz_aload_n d_Mo_finish_42 rfl (mz_sipush (226 : Int32) d_Mo_finish_43 (by decide) (mz_callV (As := [.int (226 : Int32)]) (st := []) (hF 30 0 rfl (by decide)) rfl (mzClOf cl_10) 0 0 d_Mo_finish_46 cs_Mo_answer wl_Mo_218 wi_Mo_answer wse_Mo_answer (Nat.le_of_ble_eq_true rfl) (Nat.zero_le _) (Nat.zero_le _) (MzC.mono (tm_Mo_answer (d := d) hF  hL11 ((h19 M17 rfl) M23 rfl)) (fun r9 B9 M24 hq26 => by obtain ⟨rfl, hL25, rfl, hq26⟩ := hq26; exact ⟨none, rfl, (mz_vret d_Mo_finish_49 rfl ⟨rfl, hL25, rfl, hq26⟩)⟩))))))))))))))))))⟩))))))
theorem tm_Mo_finish {G : MzG} {B : MzB} {d : Nat} {K : MzM → Prop} (hF : mzLive true B)   {a1 : Int32} {M : MzM} (hL : mzLnk true M) (h : wp_Mo_finish  a1 M K) : MzC G B (d + 3) mm_Mo_finish [.ref (mz_ad B (30, 0)), .int a1] M (0, 0) (mzK0 true B K) := by
  unfold wp_Mo_finish at h
  exact MzC.of rfl (Nat.le_of_ble_eq_true rfl) (show MzS G B (d + 3) mm_Mo_finish M (0, 0) (mzK0 true B K) 0 [(0, .ref (mz_ad B (30, 0))), (1, .int a1)] [] from (mz_aload_n d_Mo_finish_0 rfl (mz_getR (k := 23) (a := (53, 0)) cl_10 d_Mo_finish_1 (by decide) wf_Mo_98 rfl (hF 30 0 rfl (by decide)) rfl (hL (30, 0) 23 (53, 0) rfl rfl (by decide)) (mz_iload_n d_Mo_finish_4 rfl (match h with | ⟨j1, h2, h3, h4⟩ => mz_iald j1 d_Mo_finish_5 (hF 53 0 rfl (by decide)) rfl h2 h3 (mz_iconst (2 : Int32) d_Mo_finish_6 (by decide) (mz_icmp_ne 19 d_Mo_finish_7 rfl (fun hc9 => (mz_iconst (-1 : Int32) d_Mo_finish_19 (by decide) (MzS.loc [(0, .ref (mz_ad B (30, 0))), (1, .int a1)] ⟨rfl, rfl, trivial⟩ (tm_Mo_finish_20 hF   a1 (-1 : Int32) M hL (h4.1 hc9))))) (fun hc9 => (mz_aload_n d_Mo_finish_10 rfl (mz_getR (k := 24) (a := (54, 0)) cl_10 d_Mo_finish_11 (by decide) wf_Mo_101 rfl (hF 30 0 rfl (by decide)) rfl (hL (30, 0) 24 (54, 0) rfl rfl (by decide)) (mz_iload_n d_Mo_finish_14 rfl (match (h4.2 hc9) with | ⟨j5, h6, h7, h8⟩ => mz_iald j5 d_Mo_finish_15 (hF 54 0 rfl (by decide)) rfl h6 h7 (mz_goto 20 d_Mo_finish_16 rfl (MzS.loc [(0, .ref (mz_ad B (30, 0))), (1, .int a1)] ⟨rfl, rfl, trivial⟩ (tm_Mo_finish_20 hF   a1 (mz_i M (54, 0) j5) M hL h8)))))))))))))))
def mm_Mo_beginSending : MzT := (⟨"ParcelLineModel", "beginSending", "(I)V"⟩, prog_14_method_50_code, 2, (Option.none : Option Jvm.ClassFile.FieldType))
theorem cs_Mo_beginSending {mm : MzT} : mzCall mm mm_Mo_beginSending 1 := ⟨wn_Mo, wco_Mo_beginSending, by decide +kernel, by decide⟩
theorem d_Mo_beginSending_0 : decode mm_Mo_beginSending.2.1 0 = .ok (.aload_n 0, 1) := by decide +kernel
theorem d_Mo_beginSending_1 : decode mm_Mo_beginSending.2.1 1 = .ok (.getfield 98, 3) := by decide +kernel
theorem d_Mo_beginSending_4 : decode mm_Mo_beginSending.2.1 4 = .ok (.aload_n 0, 1) := by decide +kernel
theorem d_Mo_beginSending_5 : decode mm_Mo_beginSending.2.1 5 = .ok (.getfield 137, 3) := by decide +kernel
theorem d_Mo_beginSending_8 : decode mm_Mo_beginSending.2.1 8 = .ok (.iconst 1, 1) := by decide +kernel
theorem d_Mo_beginSending_9 : decode mm_Mo_beginSending.2.1 9 = .ok (.iastore, 1) := by decide +kernel
theorem d_Mo_beginSending_10 : decode mm_Mo_beginSending.2.1 10 = .ok (.aload_n 0, 1) := by decide +kernel
theorem d_Mo_beginSending_11 : decode mm_Mo_beginSending.2.1 11 = .ok (.getfield 101, 3) := by decide +kernel
theorem d_Mo_beginSending_14 : decode mm_Mo_beginSending.2.1 14 = .ok (.aload_n 0, 1) := by decide +kernel
theorem d_Mo_beginSending_15 : decode mm_Mo_beginSending.2.1 15 = .ok (.getfield 137, 3) := by decide +kernel
theorem d_Mo_beginSending_18 : decode mm_Mo_beginSending.2.1 18 = .ok (.iload_n 1, 1) := by decide +kernel
theorem d_Mo_beginSending_19 : decode mm_Mo_beginSending.2.1 19 = .ok (.iastore, 1) := by decide +kernel
theorem d_Mo_beginSending_20 : decode mm_Mo_beginSending.2.1 20 = .ok (.aload_n 0, 1) := by decide +kernel
theorem d_Mo_beginSending_21 : decode mm_Mo_beginSending.2.1 21 = .ok (.getfield 110, 3) := by decide +kernel
theorem d_Mo_beginSending_24 : decode mm_Mo_beginSending.2.1 24 = .ok (.aload_n 0, 1) := by decide +kernel
theorem d_Mo_beginSending_25 : decode mm_Mo_beginSending.2.1 25 = .ok (.getfield 137, 3) := by decide +kernel
theorem d_Mo_beginSending_28 : decode mm_Mo_beginSending.2.1 28 = .ok (.iconst 0, 1) := by decide +kernel
theorem d_Mo_beginSending_29 : decode mm_Mo_beginSending.2.1 29 = .ok (.iastore, 1) := by decide +kernel
theorem d_Mo_beginSending_30 : decode mm_Mo_beginSending.2.1 30 = .ok (.aload_n 0, 1) := by decide +kernel
theorem d_Mo_beginSending_31 : decode mm_Mo_beginSending.2.1 31 = .ok (.sipush 150, 3) := by decide +kernel
theorem d_Mo_beginSending_34 : decode mm_Mo_beginSending.2.1 34 = .ok (.invokevirtual 218, 3) := by decide +kernel
theorem d_Mo_beginSending_37 : decode mm_Mo_beginSending.2.1 37 = .ok (.aload_n 0, 1) := by decide +kernel
theorem d_Mo_beginSending_38 : decode mm_Mo_beginSending.2.1 38 = .ok (.getfield 107, 3) := by decide +kernel
theorem d_Mo_beginSending_41 : decode mm_Mo_beginSending.2.1 41 = .ok (.aload_n 0, 1) := by decide +kernel
theorem d_Mo_beginSending_42 : decode mm_Mo_beginSending.2.1 42 = .ok (.getfield 137, 3) := by decide +kernel
theorem d_Mo_beginSending_45 : decode mm_Mo_beginSending.2.1 45 = .ok (.iaload, 1) := by decide +kernel
theorem d_Mo_beginSending_46 : decode mm_Mo_beginSending.2.1 46 = .ok (.ifCond .ne 11, 3) := by decide +kernel
theorem d_Mo_beginSending_49 : decode mm_Mo_beginSending.2.1 49 = .ok (.aload_n 0, 1) := by decide +kernel
theorem d_Mo_beginSending_50 : decode mm_Mo_beginSending.2.1 50 = .ok (.aload_n 0, 1) := by decide +kernel
theorem d_Mo_beginSending_51 : decode mm_Mo_beginSending.2.1 51 = .ok (.getfield 137, 3) := by decide +kernel
theorem d_Mo_beginSending_54 : decode mm_Mo_beginSending.2.1 54 = .ok (.invokevirtual 292, 3) := by decide +kernel
theorem d_Mo_beginSending_57 : decode mm_Mo_beginSending.2.1 57 = .ok (.return_, 1) := by decide +kernel
def wp_Mo_beginSending  (a1 : Int32) (M : MzM) (K : MzM → Prop) : Prop := (∃ j4 : Nat, (mz_i M (30, 0) 29).toInt = (j4 : Int) ∧ j4 < 2 ∧ ∀ M1 : MzM, M1 = mz_si M (53, 0) j4 (1 : Int32) → (∃ j10 : Nat, (mz_i M1 (30, 0) 29).toInt = (j10 : Int) ∧ j10 < 2 ∧ ∀ M7 : MzM, M7 = mz_si M1 (54, 0) j10 a1 → (∃ j16 : Nat, (mz_i M7 (30, 0) 29).toInt = (j16 : Int) ∧ j16 < 2 ∧ ∀ M13 : MzM, M13 = mz_si M7 (57, 0) j16 (0 : Int32) → wp_Mo_answer  (150 : Int32) M13 (fun M19 => (∃ j22 : Nat, (mz_i M19 (30, 0) 29).toInt = (j22 : Int) ∧ j22 < 2 ∧ ((¬ (mz_i M19 (56, 0) j22) = 0 → K M19) ∧ ((mz_i M19 (56, 0) j22) = 0 → wp_Mo_finish  (mz_i M19 (30, 0) 29) M19 (fun M26 => K M26))))))))
theorem tm_Mo_beginSending {G : MzG} {B : MzB} {d : Nat} {K : MzM → Prop} (hF : mzLive true B)   {a1 : Int32} {M : MzM} (hL : mzLnk true M) (h : wp_Mo_beginSending  a1 M K) : MzC G B (d + 4) mm_Mo_beginSending [.ref (mz_ad B (30, 0)), .int a1] M (0, 0) (mzK0 true B K) := by
  unfold wp_Mo_beginSending at h
  exact MzC.of rfl (Nat.le_of_ble_eq_true rfl) (show MzS G B (d + 4) mm_Mo_beginSending M (0, 0) (mzK0 true B K) 0 [(0, .ref (mz_ad B (30, 0))), (1, .int a1)] [] from (mz_aload_n d_Mo_beginSending_0 rfl (mz_getR (k := 23) (a := (53, 0)) cl_10 d_Mo_beginSending_1 (by decide) wf_Mo_98 rfl (hF 30 0 rfl (by decide)) rfl (hL (30, 0) 23 (53, 0) rfl rfl (by decide)) (mz_aload_n d_Mo_beginSending_4 rfl (mz_getI (k := 29) cl_10 d_Mo_beginSending_5 (by decide) wf_Mo_137 rfl (hF 30 0 rfl (by decide)) rfl (mz_iconst (1 : Int32) d_Mo_beginSending_8 (by decide) (match h with | ⟨j4, h5, h6, h3⟩ => mz_iast j4 d_Mo_beginSending_9 (hF 53 0 rfl (by decide)) rfl h5 h6 (let M1 : MzM := mz_si M (53, 0) j4 (1 : Int32); (mz_aload_n d_Mo_beginSending_10 rfl (mz_getR (k := 24) (a := (54, 0)) cl_10 d_Mo_beginSending_11 (by decide) wf_Mo_101 rfl (hF 30 0 rfl (by decide)) rfl (hL (30, 0) 24 (54, 0) rfl rfl (by decide)) (mz_aload_n d_Mo_beginSending_14 rfl (mz_getI (k := 29) cl_10 d_Mo_beginSending_15 (by decide) wf_Mo_137 rfl (hF 30 0 rfl (by decide)) rfl (mz_iload_n d_Mo_beginSending_18 rfl (match (h3 M1 rfl) with | ⟨j10, h11, h12, h9⟩ => mz_iast j10 d_Mo_beginSending_19 (hF 54 0 rfl (by decide)) rfl h11 h12 (let M7 : MzM := mz_si M1 (54, 0) j10 a1; (mz_aload_n d_Mo_beginSending_20 rfl (mz_getR (k := 27) (a := (57, 0)) cl_10 d_Mo_beginSending_21 (by decide) wf_Mo_110 rfl (hF 30 0 rfl (by decide)) rfl (hL (30, 0) 27 (57, 0) rfl rfl (by decide)) (mz_aload_n d_Mo_beginSending_24 rfl (mz_getI (k := 29) cl_10 d_Mo_beginSending_25 (by decide) wf_Mo_137 rfl (hF 30 0 rfl (by decide)) rfl (mz_iconst (0 : Int32) d_Mo_beginSending_28 (by decide) (match (h9 M7 rfl) with | ⟨j16, h17, h18, h15⟩ => mz_iast j16 d_Mo_beginSending_29 (hF 57 0 rfl (by decide)) rfl h17 h18 (let M13 : MzM := mz_si M7 (57, 0) j16 (0 : Int32); (mz_aload_n d_Mo_beginSending_30 rfl (mz_sipush (150 : Int32) d_Mo_beginSending_31 (by decide) (mz_callV (As := [.int (150 : Int32)]) (st := []) (hF 30 0 rfl (by decide)) rfl (mzClOf cl_10) 0 0 d_Mo_beginSending_34 cs_Mo_answer wl_Mo_218 wi_Mo_answer wse_Mo_answer (Nat.le_of_ble_eq_true rfl) (Nat.zero_le _) (Nat.zero_le _) (MzC.mono (tm_Mo_answer (d := (d + 1)) hF  hL (h15 M13 rfl)) (fun r9 B9 M19 hq21 => by obtain ⟨rfl, hL20, rfl, hq21⟩ := hq21; exact ⟨none, rfl, (mz_aload_n d_Mo_beginSending_37 rfl (mz_getR (k := 26) (a := (56, 0)) cl_10 d_Mo_beginSending_38 (by decide) wf_Mo_107 rfl (hF 30 0 rfl (by decide)) rfl (hL20 (30, 0) 26 (56, 0) rfl rfl (by decide)) (mz_aload_n d_Mo_beginSending_41 rfl (mz_getI (k := 29) cl_10 d_Mo_beginSending_42 (by decide) wf_Mo_137 rfl (hF 30 0 rfl (by decide)) rfl (match hq21 with | ⟨j22, h23, h24, h25⟩ => mz_iald j22 d_Mo_beginSending_45 (hF 56 0 rfl (by decide)) rfl h23 h24 (mz_if_ne 57 d_Mo_beginSending_46 rfl (fun hc29 => (mz_vret d_Mo_beginSending_57 rfl ⟨rfl, hL20, rfl, (h25.1 hc29)⟩)) (fun hc29 => (mz_aload_n d_Mo_beginSending_49 rfl (mz_aload_n d_Mo_beginSending_50 rfl (mz_getI (k := 29) cl_10 d_Mo_beginSending_51 (by decide) wf_Mo_137 rfl (hF 30 0 rfl (by decide)) rfl (mz_callV (As := [.int (mz_i M19 (30, 0) 29)]) (st := []) (hF 30 0 rfl (by decide)) rfl (mzClOf cl_10) 0 0 d_Mo_beginSending_54 cs_Mo_finish wl_Mo_292 wi_Mo_finish wse_Mo_finish (Nat.le_of_ble_eq_true rfl) (Nat.zero_le _) (Nat.zero_le _) (MzC.mono (tm_Mo_finish (d := d) hF  hL20 (h25.2 hc29)) (fun r9 B9 M26 hq28 => by obtain ⟨rfl, hL27, rfl, hq28⟩ := hq28; exact ⟨none, rfl, (mz_vret d_Mo_beginSending_57 rfl ⟨rfl, hL27, rfl, hq28⟩)⟩)))))))))))))⟩)))))))))))))))))))))))))))
