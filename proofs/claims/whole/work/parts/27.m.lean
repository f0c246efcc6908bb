def mm_Mo_doEarly : MzT := (⟨"ParcelLineModel", "doEarly", "(II)V"⟩, prog_14_method_34_code, 4, (Option.none : Option Jvm.ClassFile.FieldType))
theorem cs_Mo_doEarly {mm : MzT} : mzCall mm mm_Mo_doEarly 2 := ⟨wn_Mo, wco_Mo_doEarly, by decide +kernel, by decide⟩
theorem d_Mo_doEarly_0 : decode mm_Mo_doEarly.2.1 0 = .ok (.iload_n 1, 1) := by decide +kernel
theorem d_Mo_doEarly_1 : decode mm_Mo_doEarly.2.1 1 = .ok (.iconst 1, 1) := by decide +kernel
theorem d_Mo_doEarly_2 : decode mm_Mo_doEarly.2.1 2 = .ok (.if_icmp .ne 77, 3) := by decide +kernel
theorem d_Mo_doEarly_5 : decode mm_Mo_doEarly.2.1 5 = .ok (.aload_n 0, 1) := by decide +kernel
theorem d_Mo_doEarly_6 : decode mm_Mo_doEarly.2.1 6 = .ok (.getfield 77, 3) := by decide +kernel
theorem d_Mo_doEarly_9 : decode mm_Mo_doEarly.2.1 9 = .ok (.aload_n 0, 1) := by decide +kernel
theorem d_Mo_doEarly_10 : decode mm_Mo_doEarly.2.1 10 = .ok (.getfield 137, 3) := by decide +kernel
theorem d_Mo_doEarly_13 : decode mm_Mo_doEarly.2.1 13 = .ok (.iconst 0, 1) := by decide +kernel
theorem d_Mo_doEarly_14 : decode mm_Mo_doEarly.2.1 14 = .ok (.iastore, 1) := by decide +kernel
theorem d_Mo_doEarly_15 : decode mm_Mo_doEarly.2.1 15 = .ok (.aload_n 0, 1) := by decide +kernel
theorem d_Mo_doEarly_16 : decode mm_Mo_doEarly.2.1 16 = .ok (.getfield 89, 3) := by decide +kernel
theorem d_Mo_doEarly_19 : decode mm_Mo_doEarly.2.1 19 = .ok (.aload_n 0, 1) := by decide +kernel
theorem d_Mo_doEarly_20 : decode mm_Mo_doEarly.2.1 20 = .ok (.getfield 137, 3) := by decide +kernel
theorem d_Mo_doEarly_23 : decode mm_Mo_doEarly.2.1 23 = .ok (.iconst (-1), 1) := by decide +kernel
theorem d_Mo_doEarly_24 : decode mm_Mo_doEarly.2.1 24 = .ok (.iastore, 1) := by decide +kernel
theorem d_Mo_doEarly_25 : decode mm_Mo_doEarly.2.1 25 = .ok (.aload_n 0, 1) := by decide +kernel
theorem d_Mo_doEarly_26 : decode mm_Mo_doEarly.2.1 26 = .ok (.getfield 80, 3) := by decide +kernel
theorem d_Mo_doEarly_29 : decode mm_Mo_doEarly.2.1 29 = .ok (.aload_n 0, 1) := by decide +kernel
theorem d_Mo_doEarly_30 : decode mm_Mo_doEarly.2.1 30 = .ok (.getfield 137, 3) := by decide +kernel
theorem d_Mo_doEarly_33 : decode mm_Mo_doEarly.2.1 33 = .ok (.aload_n 0, 1) := by decide +kernel
theorem d_Mo_doEarly_34 : decode mm_Mo_doEarly.2.1 34 = .ok (.bipush 97, 2) := by decide +kernel
theorem d_Mo_doEarly_36 : decode mm_Mo_doEarly.2.1 36 = .ok (.bipush 110, 2) := by decide +kernel
theorem d_Mo_doEarly_38 : decode mm_Mo_doEarly.2.1 38 = .ok (.bipush 121, 2) := by decide +kernel
theorem d_Mo_doEarly_40 : decode mm_Mo_doEarly.2.1 40 = .ok (.invokevirtual 239, 3) := by decide +kernel
theorem d_Mo_doEarly_43 : decode mm_Mo_doEarly.2.1 43 = .ok (.ifCond .eq 7, 3) := by decide +kernel
theorem d_Mo_doEarly_46 : decode mm_Mo_doEarly.2.1 46 = .ok (.iconst 1, 1) := by decide +kernel
theorem d_Mo_doEarly_47 : decode mm_Mo_doEarly.2.1 47 = .ok (.goto 21, 3) := by decide +kernel
theorem d_Mo_doEarly_50 : decode mm_Mo_doEarly.2.1 50 = .ok (.aload_n 0, 1) := by decide +kernel
theorem d_Mo_doEarly_51 : decode mm_Mo_doEarly.2.1 51 = .ok (.bipush 97, 2) := by decide +kernel
theorem d_Mo_doEarly_53 : decode mm_Mo_doEarly.2.1 53 = .ok (.bipush 100, 2) := by decide +kernel
theorem d_Mo_doEarly_55 : decode mm_Mo_doEarly.2.1 55 = .ok (.bipush 109, 2) := by decide +kernel
theorem d_Mo_doEarly_57 : decode mm_Mo_doEarly.2.1 57 = .ok (.invokevirtual 239, 3) := by decide +kernel
theorem d_Mo_doEarly_60 : decode mm_Mo_doEarly.2.1 60 = .ok (.ifCond .eq 7, 3) := by decide +kernel
theorem d_Mo_doEarly_63 : decode mm_Mo_doEarly.2.1 63 = .ok (.iconst 2, 1) := by decide +kernel
theorem d_Mo_doEarly_64 : decode mm_Mo_doEarly.2.1 64 = .ok (.goto 4, 3) := by decide +kernel
theorem d_Mo_doEarly_67 : decode mm_Mo_doEarly.2.1 67 = .ok (.iconst 3, 1) := by decide +kernel
theorem d_Mo_doEarly_68 : decode mm_Mo_doEarly.2.1 68 = .ok (.iastore, 1) := by decide +kernel
theorem d_Mo_doEarly_69 : decode mm_Mo_doEarly.2.1 69 = .ok (.aload_n 0, 1) := by decide +kernel
theorem d_Mo_doEarly_70 : decode mm_Mo_doEarly.2.1 70 = .ok (.sipush 331, 3) := by decide +kernel
theorem d_Mo_doEarly_73 : decode mm_Mo_doEarly.2.1 73 = .ok (.invokevirtual 218, 3) := by decide +kernel
theorem d_Mo_doEarly_76 : decode mm_Mo_doEarly.2.1 76 = .ok (.goto 131, 3) := by decide +kernel
theorem d_Mo_doEarly_79 : decode mm_Mo_doEarly.2.1 79 = .ok (.iload_n 1, 1) := by decide +kernel
theorem d_Mo_doEarly_80 : decode mm_Mo_doEarly.2.1 80 = .ok (.iconst 2, 1) := by decide +kernel
theorem d_Mo_doEarly_81 : decode mm_Mo_doEarly.2.1 81 = .ok (.if_icmp .ne 96, 3) := by decide +kernel
theorem d_Mo_doEarly_84 : decode mm_Mo_doEarly.2.1 84 = .ok (.iload_n 2, 1) := by decide +kernel
theorem d_Mo_doEarly_85 : decode mm_Mo_doEarly.2.1 85 = .ok (.iconst 1, 1) := by decide +kernel
theorem d_Mo_doEarly_86 : decode mm_Mo_doEarly.2.1 86 = .ok (.if_icmp .eq 21, 3) := by decide +kernel
theorem d_Mo_doEarly_89 : decode mm_Mo_doEarly.2.1 89 = .ok (.iload_n 2, 1) := by decide +kernel
theorem d_Mo_doEarly_90 : decode mm_Mo_doEarly.2.1 90 = .ok (.iconst 2, 1) := by decide +kernel
theorem d_Mo_doEarly_91 : decode mm_Mo_doEarly.2.1 91 = .ok (.if_icmp .ne 20, 3) := by decide +kernel
theorem d_Mo_doEarly_94 : decode mm_Mo_doEarly.2.1 94 = .ok (.aload_n 0, 1) := by decide +kernel
theorem d_Mo_doEarly_95 : decode mm_Mo_doEarly.2.1 95 = .ok (.bipush 107, 2) := by decide +kernel
theorem d_Mo_doEarly_97 : decode mm_Mo_doEarly.2.1 97 = .ok (.bipush 101, 2) := by decide +kernel
theorem d_Mo_doEarly_99 : decode mm_Mo_doEarly.2.1 99 = .ok (.bipush 121, 2) := by decide +kernel
theorem d_Mo_doEarly_101 : decode mm_Mo_doEarly.2.1 101 = .ok (.invokevirtual 239, 3) := by decide +kernel
theorem d_Mo_doEarly_104 : decode mm_Mo_doEarly.2.1 104 = .ok (.ifCond .eq 7, 3) := by decide +kernel
theorem d_Mo_doEarly_107 : decode mm_Mo_doEarly.2.1 107 = .ok (.iconst 1, 1) := by decide +kernel
theorem d_Mo_doEarly_108 : decode mm_Mo_doEarly.2.1 108 = .ok (.goto 4, 3) := by decide +kernel
theorem d_Mo_doEarly_111 : decode mm_Mo_doEarly.2.1 111 = .ok (.iconst 0, 1) := by decide +kernel
theorem d_Mo_doEarly_112 : decode mm_Mo_doEarly.2.1 112 = .ok (.istore_n 3, 1) := by decide +kernel
theorem d_Mo_doEarly_113 : decode mm_Mo_doEarly.2.1 113 = .ok (.iload_n 3, 1) := by decide +kernel
theorem d_Mo_doEarly_114 : decode mm_Mo_doEarly.2.1 114 = .ok (.ifCond .eq 33, 3) := by decide +kernel
theorem d_Mo_doEarly_117 : decode mm_Mo_doEarly.2.1 117 = .ok (.aload_n 0, 1) := by decide +kernel
theorem d_Mo_doEarly_118 : decode mm_Mo_doEarly.2.1 118 = .ok (.getfield 77, 3) := by decide +kernel
theorem d_Mo_doEarly_121 : decode mm_Mo_doEarly.2.1 121 = .ok (.aload_n 0, 1) := by decide +kernel
theorem d_Mo_doEarly_122 : decode mm_Mo_doEarly.2.1 122 = .ok (.getfield 137, 3) := by decide +kernel
theorem d_Mo_doEarly_125 : decode mm_Mo_doEarly.2.1 125 = .ok (.iload_n 2, 1) := by decide +kernel
theorem d_Mo_doEarly_126 : decode mm_Mo_doEarly.2.1 126 = .ok (.iastore, 1) := by decide +kernel
theorem d_Mo_doEarly_127 : decode mm_Mo_doEarly.2.1 127 = .ok (.aload_n 0, 1) := by decide +kernel
theorem d_Mo_doEarly_128 : decode mm_Mo_doEarly.2.1 128 = .ok (.getfield 89, 3) := by decide +kernel
theorem d_Mo_doEarly_131 : decode mm_Mo_doEarly.2.1 131 = .ok (.aload_n 0, 1) := by decide +kernel
theorem d_Mo_doEarly_132 : decode mm_Mo_doEarly.2.1 132 = .ok (.getfield 137, 3) := by decide +kernel
theorem d_Mo_doEarly_135 : decode mm_Mo_doEarly.2.1 135 = .ok (.iconst 0, 1) := by decide +kernel
theorem d_Mo_doEarly_136 : decode mm_Mo_doEarly.2.1 136 = .ok (.iastore, 1) := by decide +kernel
theorem d_Mo_doEarly_137 : decode mm_Mo_doEarly.2.1 137 = .ok (.aload_n 0, 1) := by decide +kernel
theorem d_Mo_doEarly_138 : decode mm_Mo_doEarly.2.1 138 = .ok (.getfield 92, 3) := by decide +kernel
theorem d_Mo_doEarly_141 : decode mm_Mo_doEarly.2.1 141 = .ok (.aload_n 0, 1) := by decide +kernel
theorem d_Mo_doEarly_142 : decode mm_Mo_doEarly.2.1 142 = .ok (.getfield 137, 3) := by decide +kernel
theorem d_Mo_doEarly_145 : decode mm_Mo_doEarly.2.1 145 = .ok (.iconst 0, 1) := by decide +kernel
theorem d_Mo_doEarly_146 : decode mm_Mo_doEarly.2.1 146 = .ok (.bastore, 1) := by decide +kernel
theorem d_Mo_doEarly_147 : decode mm_Mo_doEarly.2.1 147 = .ok (.aload_n 0, 1) := by decide +kernel
theorem d_Mo_doEarly_148 : decode mm_Mo_doEarly.2.1 148 = .ok (.iload_n 2, 1) := by decide +kernel
theorem d_Mo_doEarly_149 : decode mm_Mo_doEarly.2.1 149 = .ok (.ifCond .ne 9, 3) := by decide +kernel
theorem d_Mo_doEarly_152 : decode mm_Mo_doEarly.2.1 152 = .ok (.sipush 503, 3) := by decide +kernel
theorem d_Mo_doEarly_155 : decode mm_Mo_doEarly.2.1 155 = .ok (.goto 16, 3) := by decide +kernel
theorem d_Mo_doEarly_158 : decode mm_Mo_doEarly.2.1 158 = .ok (.iload_n 3, 1) := by decide +kernel
theorem d_Mo_doEarly_159 : decode mm_Mo_doEarly.2.1 159 = .ok (.ifCond .eq 9, 3) := by decide +kernel
theorem d_Mo_doEarly_162 : decode mm_Mo_doEarly.2.1 162 = .ok (.sipush 230, 3) := by decide +kernel
theorem d_Mo_doEarly_165 : decode mm_Mo_doEarly.2.1 165 = .ok (.goto 6, 3) := by decide +kernel
theorem d_Mo_doEarly_168 : decode mm_Mo_doEarly.2.1 168 = .ok (.sipush 530, 3) := by decide +kernel
theorem d_Mo_doEarly_171 : decode mm_Mo_doEarly.2.1 171 = .ok (.invokevirtual 218, 3) := by decide +kernel
theorem d_Mo_doEarly_174 : decode mm_Mo_doEarly.2.1 174 = .ok (.goto 33, 3) := by decide +kernel
theorem d_Mo_doEarly_177 : decode mm_Mo_doEarly.2.1 177 = .ok (.iload_n 1, 1) := by decide +kernel
theorem d_Mo_doEarly_178 : decode mm_Mo_doEarly.2.1 178 = .ok (.iconst 3, 1) := by decide +kernel
theorem d_Mo_doEarly_179 : decode mm_Mo_doEarly.2.1 179 = .ok (.if_icmp .ne 21, 3) := by decide +kernel
theorem d_Mo_doEarly_182 : decode mm_Mo_doEarly.2.1 182 = .ok (.aload_n 0, 1) := by decide +kernel
theorem d_Mo_doEarly_183 : decode mm_Mo_doEarly.2.1 183 = .ok (.aload_n 0, 1) := by decide +kernel
theorem d_Mo_doEarly_184 : decode mm_Mo_doEarly.2.1 184 = .ok (.getfield 137, 3) := by decide +kernel
theorem d_Mo_doEarly_187 : decode mm_Mo_doEarly.2.1 187 = .ok (.invokevirtual 122, 3) := by decide +kernel
theorem d_Mo_doEarly_190 : decode mm_Mo_doEarly.2.1 190 = .ok (.aload_n 0, 1) := by decide +kernel
theorem d_Mo_doEarly_191 : decode mm_Mo_doEarly.2.1 191 = .ok (.sipush 221, 3) := by decide +kernel
theorem d_Mo_doEarly_194 : decode mm_Mo_doEarly.2.1 194 = .ok (.invokevirtual 218, 3) := by decide +kernel
theorem d_Mo_doEarly_197 : decode mm_Mo_doEarly.2.1 197 = .ok (.goto 10, 3) := by decide +kernel
theorem d_Mo_doEarly_200 : decode mm_Mo_doEarly.2.1 200 = .ok (.aload_n 0, 1) := by decide +kernel
theorem d_Mo_doEarly_201 : decode mm_Mo_doEarly.2.1 201 = .ok (.sipush 200, 3) := by decide +kernel
theorem d_Mo_doEarly_204 : decode mm_Mo_doEarly.2.1 204 = .ok (.invokevirtual 218, 3) := by decide +kernel
theorem d_Mo_doEarly_207 : decode mm_Mo_doEarly.2.1 207 = .ok (.return_, 1) := by decide +kernel
def wp_Mo_doEarly_147   (K : MzM → Prop) (y2 : Int32) (y3 : Int32) (M : MzM) : Prop := ((¬ y2 = 0 → ((y3 = 0 → wp_Mo_answer  (530 : Int32) M (fun M88 => K M88)) ∧ (¬ y3 = 0 → wp_Mo_answer  (230 : Int32) M (fun M91 => K M91)))) ∧ (y2 = 0 → wp_Mo_answer  (503 : Int32) M (fun M95 => K M95)))
def wp_Mo_doEarly_112   (K : MzM → Prop) (y2 : Int32) (ys0 : Int32) (M : MzM) : Prop := ((ys0 = 0 → wp_Mo_doEarly_147   K y2 ys0 M) ∧ (¬ ys0 = 0 → (∃ j72 : Nat, (mz_i M (30, 0) 29).toInt = (j72 : Int) ∧ j72 < 2 ∧ ∀ M69 : MzM, M69 = mz_si M (46, 0) j72 y2 → (∃ j78 : Nat, (mz_i M69 (30, 0) 29).toInt = (j78 : Int) ∧ j78 < 2 ∧ ∀ M75 : MzM, M75 = mz_si M69 (50, 0) j78 (0 : Int32) → (∃ j84 : Nat, (mz_i M75 (30, 0) 29).toInt = (j84 : Int) ∧ j84 < 2 ∧ ∀ M81 : MzM, M81 = mz_si M75 (51, 0) j84 (0 : Int32) → wp_Mo_doEarly_147   K y2 ys0 M81)))))
def wp_Mo_doEarly_107   (K : MzM → Prop) (y2 : Int32) (M : MzM) : Prop := wp_Mo_doEarly_112   K y2 (1 : Int32) M
def wp_Mo_doEarly_111   (K : MzM → Prop) (y2 : Int32) (M : MzM) : Prop := wp_Mo_doEarly_112   K y2 (0 : Int32) M
def wp_Mo_doEarly  (a1 : Int32) (a2 : Int32) (M : MzM) (K : MzM → Prop) : Prop := ((¬ a1 = (1 : Int32) → ((¬ a1 = (2 : Int32) → ((¬ a1 = (3 : Int32) → wp_Mo_answer  (200 : Int32) M (fun M1 => K M1)) ∧ (a1 = (3 : Int32) → wp_Mo_beginSession  (mz_i M (30, 0) 29) M (fun M4 => wp_Mo_answer  (221 : Int32) M4 (fun M7 => K M7))))) ∧ (a1 = (2 : Int32) → ((a2 = (1 : Int32) → wp_Mo_doEarly_107   K a2 M) ∧ (¬ a2 = (1 : Int32) → ((¬ a2 = (2 : Int32) → wp_Mo_doEarly_111   K a2 M) ∧ (a2 = (2 : Int32) → wp_Mo_says  (107 : Int32) (101 : Int32) (121 : Int32) M (fun v14 M11 => ((v14 = 0 → wp_Mo_doEarly_111   K a2 M11) ∧ (¬ v14 = 0 → wp_Mo_doEarly_107   K a2 M11)))))))))) ∧ (a1 = (1 : Int32) → (∃ j22 : Nat, (mz_i M (30, 0) 29).toInt = (j22 : Int) ∧ j22 < 2 ∧ ∀ M19 : MzM, M19 = mz_si M (46, 0) j22 (0 : Int32) → (∃ j28 : Nat, (mz_i M19 (30, 0) 29).toInt = (j28 : Int) ∧ j28 < 2 ∧ ∀ M25 : MzM, M25 = mz_si M19 (50, 0) j28 (-1 : Int32) → wp_Mo_says  (97 : Int32) (110 : Int32) (121 : Int32) M25 (fun v34 M31 => ((v34 = 0 → wp_Mo_says  (97 : Int32) (100 : Int32) (109 : Int32) M31 (fun v38 M35 => ((v38 = 0 → (∃ j42 : Nat, (mz_i M25 (30, 0) 29).toInt = (j42 : Int) ∧ j42 < 2 ∧ ∀ M39 : MzM, M39 = mz_si M35 (47, 0) j42 (3 : Int32) → wp_Mo_answer  (331 : Int32) M39 (fun M45 => K M45))) ∧ (¬ v38 = 0 → (∃ j51 : Nat, (mz_i M25 (30, 0) 29).toInt = (j51 : Int) ∧ j51 < 2 ∧ ∀ M48 : MzM, M48 = mz_si M35 (47, 0) j51 (2 : Int32) → wp_Mo_answer  (331 : Int32) M48 (fun M54 => K M54)))))) ∧ (¬ v34 = 0 → (∃ j61 : Nat, (mz_i M25 (30, 0) 29).toInt = (j61 : Int) ∧ j61 < 2 ∧ ∀ M58 : MzM, M58 = mz_si M31 (47, 0) j61 (1 : Int32) → wp_Mo_answer  (331 : Int32) M58 (fun M64 => K M64)))))))))
theorem tm_Mo_doEarly_147 {G : MzG} {B : MzB} {d : Nat} {K : MzM → Prop} (hF : mzLive true B)     (y2 : Int32) (y3 : Int32) (M : MzM) (hL : mzLnk true M) (h : wp_Mo_doEarly_147   K y2 y3 M) : MzS G B (d + 3) mm_Mo_doEarly M (0, 0) (mzK0 true B K) 147 [(0, .ref (mz_ad B (30, 0))), (2, .int y2), (3, .int y3)] [] := by
  unfold wp_Mo_doEarly_147 at h
  exact (mz_aload_n d_Mo_doEarly_147 rfl (mz_iload_n d_Mo_doEarly_148 rfl (mz_if_ne 158 d_Mo_doEarly_149 rfl (fun hc98 => (mz_iload_n d_Mo_doEarly_158 rfl (mz_if_eq 168 d_Mo_doEarly_159 rfl (fun hc94 => (mz_sipush (530 : Int32) d_Mo_doEarly_168 (by decide) (mz_callV (As := [.int (530 : Int32)]) (st := []) (hF 30 0 rfl (by decide)) rfl (mzClOf cl_10) 0 0 d_Mo_doEarly_171 cs_Mo_answer wl_Mo_218 wi_Mo_answer wse_Mo_answer (Nat.le_of_ble_eq_true rfl) (Nat.zero_le _) (Nat.zero_le _) (MzC.mono (tm_Mo_answer (d := d) hF  hL ((h.1 hc98).1 hc94)) (fun r9 B9 M88 hq90 => by obtain ⟨rfl, hL89, rfl, hq90⟩ := hq90; exact ⟨none, rfl, (mz_goto 207 d_Mo_doEarly_174 rfl (mz_vret d_Mo_doEarly_207 rfl ⟨rfl, hL89, rfl, hq90⟩))⟩))))) (fun hc94 => (mz_sipush (230 : Int32) d_Mo_doEarly_162 (by decide) (mz_goto 171 d_Mo_doEarly_165 rfl (mz_callV (As := [.int (230 : Int32)]) (st := []) (hF 30 0 rfl (by decide)) rfl (mzClOf cl_10) 0 0 d_Mo_doEarly_171 cs_Mo_answer wl_Mo_218 wi_Mo_answer wse_Mo_answer (Nat.le_of_ble_eq_true rfl) (Nat.zero_le _) (Nat.zero_le _) (MzC.mono (tm_Mo_answer (d := d) hF  hL ((h.1 hc98).2 hc94)) (fun r9 B9 M91 hq93 => by obtain ⟨rfl, hL92, rfl, hq93⟩ := hq93; exact ⟨none, rfl, (mz_goto 207 d_Mo_doEarly_174 rfl (mz_vret d_Mo_doEarly_207 rfl ⟨rfl, hL92, rfl, hq93⟩))⟩))))))))) (fun hc98 => (mz_sipush (503 : Int32) d_Mo_doEarly_152 (by decide) (mz_goto 171 d_Mo_doEarly_155 rfl (mz_callV (As := [.int (503 : Int32)]) (st := []) (hF 30 0 rfl (by decide)) rfl (mzClOf cl_10) 0 0 d_Mo_doEarly_171 cs_Mo_answer wl_Mo_218 wi_Mo_answer wse_Mo_answer (Nat.le_of_ble_eq_true rfl) (Nat.zero_le _) (Nat.zero_le _) (MzC.mono (tm_Mo_answer (d := d) hF  hL (h.2 hc98)) (fun r9 B9 M95 hq97 => by obtain ⟨rfl, hL96, rfl, hq97⟩ := hq97; exact ⟨none, rfl, (mz_goto 207 d_Mo_doEarly_174 rfl (mz_vret d_Mo_doEarly_207 rfl ⟨rfl, hL96, rfl, hq97⟩))⟩)))))))))
theorem tm_Mo_doEarly_112 {G : MzG} {B : MzB} {d : Nat} {K : MzM → Prop} (hF : mzLive true B)     (y2 : Int32) (ys0 : Int32) (M : MzM) (hL : mzLnk true M) (h : wp_Mo_doEarly_112   K y2 ys0 M) : MzS G B (d + 3) mm_Mo_doEarly M (0, 0) (mzK0 true B K) 112 [(0, .ref (mz_ad B (30, 0))), (2, .int y2)] [.int ys0] := by
  unfold wp_Mo_doEarly_112 at h
  exact (mz_istore_n d_Mo_doEarly_112 (by decide) (mz_iload_n d_Mo_doEarly_113 rfl (mz_if_eq 147 d_Mo_doEarly_114 rfl (fun hc87 => (MzS.loc [(0, .ref (mz_ad B (30, 0))), (2, .int y2), (3, .int ys0)] ⟨rfl, rfl, rfl, trivial⟩ (tm_Mo_doEarly_147 hF   y2 ys0 M hL (h.1 hc87)))) (fun hc87 => (mz_aload_n d_Mo_doEarly_117 rfl (mz_getR (k := 16) (a := (46, 0)) cl_10 d_Mo_doEarly_118 (by decide) wf_Mo_77 rfl (hF 30 0 rfl (by decide)) rfl (hL (30, 0) 16 (46, 0) rfl rfl (by decide)) (mz_aload_n d_Mo_doEarly_121 rfl (mz_getI (k := 29) cl_10 d_Mo_doEarly_122 (by decide) wf_Mo_137 rfl (hF 30 0 rfl (by decide)) rfl (mz_iload_n d_Mo_doEarly_125 rfl (match (h.2 hc87) with | ⟨j72, h73, h74, h71⟩ => mz_iast j72 d_Mo_doEarly_126 (hF 46 0 rfl (by decide)) rfl h73 h74 (let M69 : MzM := mz_si M (46, 0) j72 y2; (mz_aload_n d_Mo_doEarly_127 rfl (mz_getR (k := 20) (a := (50, 0)) cl_10 d_Mo_doEarly_128 (by decide) wf_Mo_89 rfl (hF 30 0 rfl (by decide)) rfl (hL (30, 0) 20 (50, 0) rfl rfl (by decide)) (mz_aload_n d_Mo_doEarly_131 rfl (mz_getI (k := 29) cl_10 d_Mo_doEarly_132 (by decide) wf_Mo_137 rfl (hF 30 0 rfl (by decide)) rfl (mz_iconst (0 : Int32) d_Mo_doEarly_135 (by decide) (match (h71 M69 rfl) with | ⟨j78, h79, h80, h77⟩ => mz_iast j78 d_Mo_doEarly_136 (hF 50 0 rfl (by decide)) rfl h79 h80 (let M75 : MzM := mz_si M69 (50, 0) j78 (0 : Int32); (mz_aload_n d_Mo_doEarly_137 rfl (mz_getR (k := 21) (a := (51, 0)) cl_10 d_Mo_doEarly_138 (by decide) wf_Mo_92 rfl (hF 30 0 rfl (by decide)) rfl (hL (30, 0) 21 (51, 0) rfl rfl (by decide)) (mz_aload_n d_Mo_doEarly_141 rfl (mz_getI (k := 29) cl_10 d_Mo_doEarly_142 (by decide) wf_Mo_137 rfl (hF 30 0 rfl (by decide)) rfl (mz_iconst (0 : Int32) d_Mo_doEarly_145 (by decide) (match (h77 M75 rfl) with | ⟨j84, h85, h86, h83⟩ => mz_zast j84 d_Mo_doEarly_146 (hF 51 0 rfl (by decide)) rfl h85 h86 (by decide) (let M81 : MzM := mz_si M75 (51, 0) j84 (0 : Int32); (MzS.loc [(0, .ref (mz_ad B (30, 0))), (2, .int y2), (3, .int ys0)] ⟨rfl, rfl, rfl, trivial⟩ (tm_Mo_doEarly_147 hF   y2 ys0 M81 hL (h83 M81 rfl))))))))))))))))))))))))))))
theorem tm_Mo_doEarly_107 {G : MzG} {B : MzB} {d : Nat} {K : MzM → Prop} (hF : mzLive true B)     (y2 : Int32) (M : MzM) (hL : mzLnk true M) (h : wp_Mo_doEarly_107   K y2 M) : MzS G B (d + 3) mm_Mo_doEarly M (0, 0) (mzK0 true B K) 107 [(0, .ref (mz_ad B (30, 0))), (2, .int y2)] [] := by
  unfold wp_Mo_doEarly_107 at h
  exact (mz_iconst (1 : Int32) d_Mo_doEarly_107 (by decide) (mz_goto 112 d_Mo_doEarly_108 rfl (MzS.loc [(0, .ref (mz_ad B (30, 0))), (2, .int y2)] ⟨rfl, rfl, trivial⟩ (tm_Mo_doEarly_112 hF   y2 (1 : Int32) M hL h))))
theorem tm_Mo_doEarly_111 {G : MzG} {B : MzB} {d : Nat} {K : MzM → Prop} (hF : mzLive true B)     (y2 : Int32) (M : MzM) (hL : mzLnk true M) (h : wp_Mo_doEarly_111   K y2 M) : MzS G B (d + 3) mm_Mo_doEarly M (0, 0) (mzK0 true B K) 111 [(0, .ref (mz_ad B (30, 0))), (2, .int y2)] [] := by
  unfold wp_Mo_doEarly_111 at h
  exact (mz_iconst (0 : Int32) d_Mo_doEarly_111 (by decide) (MzS.loc [(0, .ref (mz_ad B (30, 0))), (2, .int y2)] ⟨rfl, rfl, trivial⟩ (tm_Mo_doEarly_112 hF   y2 (0 : Int32) M hL h)))
theorem tm_Mo_doEarly {G : MzG} {B : MzB} {d : Nat} {K : MzM → Prop} (hF : mzLive true B)   {a1 : Int32} {a2 : Int32} {M : MzM} (hL : mzLnk true M) (h : wp_Mo_doEarly  a1 a2 M K) : MzC G B (d + 3) mm_Mo_doEarly [.ref (mz_ad B (30, 0)), .int a1, .int a2] M (0, 0) (mzK0 true B K) := by
  unfold wp_Mo_doEarly at h
  exact MzC.of rfl (Nat.le_of_ble_eq_true rfl) (show MzS G B (d + 3) mm_Mo_doEarly M (0, 0) (mzK0 true B K) 0 [(0, .ref (mz_ad B (30, 0))), (1, .int a1), (2, .int a2)] [] from (mz_iload_n d_Mo_doEarly_0 rfl (mz_iconst (1 : Int32) d_Mo_doEarly_1 (by decide) (mz_icmp_ne 79 d_Mo_doEarly_2 rfl (fun hc68 => (mz_iload_n d_Mo_doEarly_79 rfl (mz_iconst (2 : Int32) d_Mo_doEarly_80 (by decide) (mz_icmp_ne 177 d_Mo_doEarly_81 rfl (fun hc18 => (mz_iload_n d_Mo_doEarly_177 rfl (mz_iconst (3 : Int32) d_Mo_doEarly_178 (by decide) (mz_icmp_ne 200 d_Mo_doEarly_179 rfl (fun hc10 => (mz_aload_n d_Mo_doEarly_200 rfl (mz_sipush (200 : Int32) d_Mo_doEarly_201 (by decide) (mz_callV (As := [.int (200 : Int32)]) (st := []) (hF 30 0 rfl (by decide)) rfl (mzClOf cl_10) 0 0 d_Mo_doEarly_204 cs_Mo_answer wl_Mo_218 wi_Mo_answer wse_Mo_answer (Nat.le_of_ble_eq_true rfl) (Nat.zero_le _) (Nat.zero_le _) (MzC.mono (tm_Mo_answer (d := d) hF  hL (((h.1 hc68).1 hc18).1 hc10)) (fun r9 B9 M1 hq3 => by obtain ⟨rfl, hL2, rfl, hq3⟩ := hq3; exact ⟨none, rfl, (mz_vret d_Mo_doEarly_207 rfl ⟨rfl, hL2, rfl, hq3⟩)⟩)))))) (fun hc10 => (mz_aload_n d_Mo_doEarly_182 rfl (mz_aload_n d_Mo_doEarly_183 rfl (mz_getI (k := 29) cl_10 d_Mo_doEarly_184 (by decide) wf_Mo_137 rfl (hF 30 0 rfl (by decide)) rfl (mz_callV (As := [.int (mz_i M (30, 0) 29)]) (st := []) (hF 30 0 rfl (by decide)) rfl (mzClOf cl_10) 0 0 d_Mo_doEarly_187 cs_Mo_beginSession wl_Mo_122 wi_Mo_beginSession wse_Mo_beginSession (Nat.le_of_ble_eq_true rfl) (Nat.zero_le _) (Nat.zero_le _) (MzC.mono (tm_Mo_beginSession (d := d) hF  hL (((h.1 hc68).1 hc18).2 hc10)) (fun r9 B9 M4 hq6 => by obtain ⟨rfl, hL5, rfl, hq6⟩ := hq6; exact ⟨none, rfl, (mz_aload_n d_Mo_doEarly_190 rfl (mz_sipush (221 : Int32) d_Mo_doEarly_191 (by decide) (mz_callV (As := [.int (221 : Int32)]) (st := []) (hF 30 0 rfl (by decide)) rfl (mzClOf cl_10) 0 0 d_Mo_doEarly_194 cs_Mo_answer wl_Mo_218 wi_Mo_answer wse_Mo_answer (Nat.le_of_ble_eq_true rfl) (Nat.zero_le _) (Nat.zero_le _) (MzC.mono (tm_Mo_answer (d := d) hF  hL5 hq6) (fun r9 B9 M7 hq9 => by obtain ⟨rfl, hL8, rfl, hq9⟩ := hq9; exact ⟨none, rfl, (mz_goto 207 d_Mo_doEarly_197 rfl (mz_vret d_Mo_doEarly_207 rfl ⟨rfl, hL8, rfl, hq9⟩))⟩)))))⟩))))))))))) (fun hc18 => (mz_iload_n d_Mo_doEarly_84 rfl (mz_iconst (1 : Int32) d_Mo_doEarly_85 (by decide) (mz_icmp_eq 107 d_Mo_doEarly_86 rfl (fun hc17 => (MzS.loc [(0, .ref (mz_ad B (30, 0))), (2, .int a2)] ⟨rfl, rfl, trivial⟩ (tm_Mo_doEarly_107 hF   a2 M hL (((h.1 hc68).2 hc18).1 hc17)))) (fun hc17 => (mz_iload_n d_Mo_doEarly_89 rfl (mz_iconst (2 : Int32) d_Mo_doEarly_90 (by decide) (mz_icmp_ne 111 d_Mo_doEarly_91 rfl (fun hc16 => (MzS.loc [(0, .ref (mz_ad B (30, 0))), (2, .int a2)] ⟨rfl, rfl, trivial⟩ (tm_Mo_doEarly_111 hF   a2 M hL ((((h.1 hc68).2 hc18).2 hc17).1 hc16)))) (fun hc16 => (mz_aload_n d_Mo_doEarly_94 rfl (mz_bipush (107 : Int32) d_Mo_doEarly_95 (by decide) (mz_bipush (101 : Int32) d_Mo_doEarly_97 (by decide) (mz_bipush (121 : Int32) d_Mo_doEarly_99 (by decide) (mz_callV (As := [.int (107 : Int32), .int (101 : Int32), .int (121 : Int32)]) (st := []) (hF 30 0 rfl (by decide)) rfl (mzClOf cl_10) 0 0 d_Mo_doEarly_101 cs_Mo_says wl_Mo_239 wi_Mo_says wse_Mo_says (Nat.le_of_ble_eq_true rfl) (Nat.zero_le _) (Nat.zero_le _) (MzC.mono (tm_Mo_says (d := (d + 1)) hF  hL ((((h.1 hc68).2 hc18).2 hc17).2 hc16)) (fun r9 B9 M11 hq13 => by obtain ⟨rfl, hL12, v14, rfl, hq13⟩ := hq13; exact ⟨_, rfl, (mz_if_eq 111 d_Mo_doEarly_104 rfl (fun hc15 => (MzS.loc [(0, .ref (mz_ad B (30, 0))), (2, .int a2)] ⟨rfl, rfl, trivial⟩ (tm_Mo_doEarly_111 hF   a2 M11 hL12 (hq13.1 hc15)))) (fun hc15 => (MzS.loc [(0, .ref (mz_ad B (30, 0))), (2, .int a2)] ⟨rfl, rfl, trivial⟩ (tm_Mo_doEarly_107 hF   a2 M11 hL12 (hq13.2 hc15)))))⟩)))))))))))))))))))) (fun hc68 => (mz_aload_n d_Mo_doEarly_5 rfl (mz_getR (k := 16) (a := (46, 0)) cl_10 d_Mo_doEarly_6 (by decide) wf_Mo_77 rfl (hF 30 0 rfl (by decide)) rfl (hL (30, 0) 16 (46, 0) rfl rfl (by decide)) (mz_aload_n d_Mo_doEarly_9 rfl (mz_getI (k := 29) cl_10 d_Mo_doEarly_10 (by decide) wf_Mo_137 rfl (hF 30 0 rfl (by decide)) rfl (mz_iconst (0 : Int32) d_Mo_doEarly_13 (by decide) (match (h.2 hc68) with | ⟨j22, h23, h24, h21⟩ => mz_iast j22 d_Mo_doEarly_14 (hF 46 0 rfl (by decide)) rfl h23 h24 (let M19 : MzM := mz_si M (46, 0) j22 (0 : Int32); (mz_aload_n d_Mo_doEarly_15 rfl (mz_getR (k := 20) (a := (50, 0)) cl_10 d_Mo_doEarly_16 (by decide) wf_Mo_89 rfl (hF 30 0 rfl (by decide)) rfl (hL (30, 0) 20 (50, 0) rfl rfl (by decide)) (mz_aload_n d_Mo_doEarly_19 rfl (mz_getI (k := 29) cl_10 d_Mo_doEarly_20 (by decide) wf_Mo_137 rfl (hF 30 0 rfl (by decide)) rfl (mz_iconst (-1 : Int32) d_Mo_doEarly_23 (by decide) (match (h21 M19 rfl) with | ⟨j28, h29, h30, h27⟩ => mz_iast j28 d_Mo_doEarly_24 (hF 50 0 rfl (by decide)) rfl h29 h30 (let M25 : MzM := mz_si M19 (50, 0) j28 (-1 : Int32); (mz_aload_n d_Mo_doEarly_25 rfl (mz_getR (k := 17) (a := (47, 0)) cl_10 d_Mo_doEarly_26 (by decide) wf_Mo_80 rfl (hF 30 0 rfl (by decide)) rfl (hL (30, 0) 17 (47, 0) rfl rfl (by decide)) (mz_aload_n d_Mo_doEarly_29 rfl (mz_getI (k := 29) cl_10 d_Mo_doEarly_30 (by decide) wf_Mo_137 rfl (hF 30 0 rfl (by decide)) rfl (mz_aload_n d_Mo_doEarly_33 rfl (mz_bipush (97 : Int32) d_Mo_doEarly_34 (by decide) (mz_bipush (110 : Int32) d_Mo_doEarly_36 (by decide) (mz_bipush (121 : Int32) d_Mo_doEarly_38 (by decide) (mz_callV (As := [.int (97 : Int32), .int (110 : Int32), .int (121 : Int32)]) (st := [.int (mz_i M25 (30, 0) 29), .ref (mz_ad B (47, 0))]) (hF 30 0 rfl (by decide)) rfl (mzClOf cl_10) 0 0 d_Mo_doEarly_40 cs_Mo_says wl_Mo_239 wi_Mo_says wse_Mo_says (Nat.le_of_ble_eq_true rfl) (Nat.zero_le _) (Nat.zero_le _) (MzC.mono (tm_Mo_says (d := (d + 1)) hF  hL (h27 M25 rfl)) (fun r9 B9 M31 hq33 => by obtain ⟨rfl, hL32, v34, rfl, hq33⟩ := hq33; exact ⟨_, rfl, (mz_if_eq 50 d_Mo_doEarly_43 rfl (fun hc67 => (mz_aload_n d_Mo_doEarly_50 rfl (mz_bipush (97 : Int32) d_Mo_doEarly_51 (by decide) (mz_bipush (100 : Int32) d_Mo_doEarly_53 (by decide) (mz_bipush (109 : Int32) d_Mo_doEarly_55 (by decide) (mz_callV (As := [.int (97 : Int32), .int (100 : Int32), .int (109 : Int32)]) (st := [.int (mz_i M25 (30, 0) 29), .ref (mz_ad B (47, 0))]) (hF 30 0 rfl (by decide)) rfl (mzClOf cl_10) 0 0 d_Mo_doEarly_57 cs_Mo_says wl_Mo_239 wi_Mo_says wse_Mo_says (Nat.le_of_ble_eq_true rfl) (Nat.zero_le _) (Nat.zero_le _) (MzC.mono (tm_Mo_says (d := (d + 1)) hF  hL32 (hq33.1 hc67)) (fun r9 B9 M35 hq37 => by obtain ⟨rfl, hL36, v38, rfl, hq37⟩ := hq37; exact ⟨_, rfl, (mz_if_eq 67 d_Mo_doEarly_60 rfl (fun hc57 => (mz_iconst (3 : Int32) d_Mo_doEarly_67 (by decide) (match (hq37.1 hc57) with | ⟨j42, h43, h44, h41⟩ => mz_iast j42 d_Mo_doEarly_68 (hF 47 0 rfl (by decide)) rfl h43 h44 (let M39 : MzM := mz_si M35 (47, 0) j42 (3 : Int32); (mz_aload_n d_Mo_doEarly_69 rfl (mz_sipush (331 : Int32) d_Mo_doEarly_70 (by decide) (mz_callV (As := [.int (331 : Int32)]) (st := []) (hF 30 0 rfl (by decide)) rfl (mzClOf cl_10) 0 0 d_Mo_doEarly_73 cs_Mo_answer wl_Mo_218 wi_Mo_answer wse_Mo_answer (Nat.le_of_ble_eq_true rfl) (Nat.zero_le _) (Nat.zero_le _) (MzC.mono (tm_Mo_answer (d := d) hF  hL36 (h41 M39 rfl)) (fun r9 B9 M45 hq47 => by obtain ⟨rfl, hL46, rfl, hq47⟩ := hq47; exact ⟨none, rfl, (mz_goto 207 d_Mo_doEarly_76 rfl (mz_vret d_Mo_doEarly_207 rfl ⟨rfl, hL46, rfl, hq47⟩))⟩))))))))) (fun hc57 => (mz_iconst (2 : Int32) d_Mo_doEarly_63 (by decide) (mz_goto 68 d_Mo_doEarly_64 rfl (match (hq37.2 hc57) with | ⟨j51, h52, h53, h50⟩ => mz_iast j51 d_Mo_doEarly_68 (hF 47 0 rfl (by decide)) rfl h52 h53 (let M48 : MzM := mz_si M35 (47, 0) j51 (2 : Int32); (mz_aload_n d_Mo_doEarly_69 rfl (mz_sipush (331 : Int32) d_Mo_doEarly_70 (by decide) (mz_callV (As := [.int (331 : Int32)]) (st := []) (hF 30 0 rfl (by decide)) rfl (mzClOf cl_10) 0 0 d_Mo_doEarly_73 cs_Mo_answer wl_Mo_218 wi_Mo_answer wse_Mo_answer (Nat.le_of_ble_eq_true rfl) (Nat.zero_le _) (Nat.zero_le _) (MzC.mono (tm_Mo_answer (d := d) hF  hL36 (h50 M48 rfl)) (fun r9 B9 M54 hq56 => by obtain ⟨rfl, hL55, rfl, hq56⟩ := hq56; exact ⟨none, rfl, (mz_goto 207 d_Mo_doEarly_76 rfl (mz_vret d_Mo_doEarly_207 rfl ⟨rfl, hL55, rfl, hq56⟩))⟩)))))))))))⟩)))))))) (fun hc67 => (mz_iconst (1 : Int32) d_Mo_doEarly_46 (by decide) (mz_goto 68 d_Mo_doEarly_47 rfl (match (hq33.2 hc67) with | ⟨j61, h62, h63, h60⟩ => mz_iast j61 d_Mo_doEarly_68 (hF 47 0 rfl (by decide)) rfl h62 h63 (let M58 : MzM := mz_si M31 (47, 0) j61 (1 : Int32); (mz_aload_n d_Mo_doEarly_69 rfl (mz_sipush (331 : Int32) d_Mo_doEarly_70 (by decide) (mz_callV (As := [.int (331 : Int32)]) (st := []) (hF 30 0 rfl (by decide)) rfl (mzClOf cl_10) 0 0 d_Mo_doEarly_73 cs_Mo_answer wl_Mo_218 wi_Mo_answer wse_Mo_answer (Nat.le_of_ble_eq_true rfl) (Nat.zero_le _) (Nat.zero_le _) (MzC.mono (tm_Mo_answer (d := d) hF  hL32 (h60 M58 rfl)) (fun r9 B9 M64 hq66 => by obtain ⟨rfl, hL65, rfl, hq66⟩ := hq66; exact ⟨none, rfl, (mz_goto 207 d_Mo_doEarly_76 rfl (mz_vret d_Mo_doEarly_207 rfl ⟨rfl, hL65, rfl, hq66⟩))⟩)))))))))))⟩))))))))))))))))))))))))))))))
def mm_Mo_nameAt : MzT := (⟨"ParcelLineModel", "nameAt", "(II)I"⟩, prog_14_method_37_code, 5, (Option.some Jvm.ClassFile.FieldType.int))
theorem cs_Mo_nameAt {mm : MzT} : mzCall mm mm_Mo_nameAt 2 := ⟨wn_Mo, wco_Mo_nameAt, by decide +kernel, by decide⟩
theorem d_Mo_nameAt_0 : decode mm_Mo_nameAt.2.1 0 = .ok (.iconst 0, 1) := by decide +kernel
theorem d_Mo_nameAt_1 : decode mm_Mo_nameAt.2.1 1 = .ok (.istore_n 3, 1) := by decide +kernel
theorem d_Mo_nameAt_2 : decode mm_Mo_nameAt.2.1 2 = .ok (.iload_n 2, 1) := by decide +kernel
theorem d_Mo_nameAt_3 : decode mm_Mo_nameAt.2.1 3 = .ok (.iconst 1, 1) := by decide +kernel
theorem d_Mo_nameAt_4 : decode mm_Mo_nameAt.2.1 4 = .ok (.isub, 1) := by decide +kernel
theorem d_Mo_nameAt_5 : decode mm_Mo_nameAt.2.1 5 = .ok (.istore 4, 2) := by decide +kernel
theorem d_Mo_nameAt_7 : decode mm_Mo_nameAt.2.1 7 = .ok (.iload 4, 2) := by decide +kernel
theorem d_Mo_nameAt_9 : decode mm_Mo_nameAt.2.1 9 = .ok (.iload_n 1, 1) := by decide +kernel
theorem d_Mo_nameAt_10 : decode mm_Mo_nameAt.2.1 10 = .ok (.if_icmp .lt 22, 3) := by decide +kernel
theorem d_Mo_nameAt_13 : decode mm_Mo_nameAt.2.1 13 = .ok (.sipush 128, 3) := by decide +kernel
theorem d_Mo_nameAt_16 : decode mm_Mo_nameAt.2.1 16 = .ok (.iload_n 3, 1) := by decide +kernel
theorem d_Mo_nameAt_17 : decode mm_Mo_nameAt.2.1 17 = .ok (.imul, 1) := by decide +kernel
theorem d_Mo_nameAt_18 : decode mm_Mo_nameAt.2.1 18 = .ok (.aload_n 0, 1) := by decide +kernel
theorem d_Mo_nameAt_19 : decode mm_Mo_nameAt.2.1 19 = .ok (.iload 4, 2) := by decide +kernel
theorem d_Mo_nameAt_21 : decode mm_Mo_nameAt.2.1 21 = .ok (.invokevirtual 189, 3) := by decide +kernel
theorem d_Mo_nameAt_24 : decode mm_Mo_nameAt.2.1 24 = .ok (.iadd, 1) := by decide +kernel
theorem d_Mo_nameAt_25 : decode mm_Mo_nameAt.2.1 25 = .ok (.istore_n 3, 1) := by decide +kernel
theorem d_Mo_nameAt_26 : decode mm_Mo_nameAt.2.1 26 = .ok (.iinc 4 (-1), 3) := by decide +kernel
theorem d_Mo_nameAt_29 : decode mm_Mo_nameAt.2.1 29 = .ok (.goto (-22), 3) := by decide +kernel
theorem d_Mo_nameAt_32 : decode mm_Mo_nameAt.2.1 32 = .ok (.iload_n 3, 1) := by decide +kernel
theorem d_Mo_nameAt_33 : decode mm_Mo_nameAt.2.1 33 = .ok (.ireturn, 1) := by decide +kernel
def wp_Mo_nameAt_7   (K : Int32 → MzM → Prop) : Nat → Int32 → Int32 → Int32 → MzM → Prop
  | 0, _, _, _, _ => False
  | r0 + 1, y1, y3, y4, M => ((y4 < y1 → K y3 M) ∧ (¬ y4 < y1 → wp_Mo_ch  y4 M (fun v6 M3 => (wp_Mo_nameAt_7   K r0) y1 (((128 : Int32) * y3) + v6) (y4 + (-1 : Int32)) M3)))
def wp_Mo_nameAt  (a1 : Int32) (a2 : Int32) (M : MzM) (K : Int32 → MzM → Prop) : Prop := (∃ r1 : Nat, wp_Mo_nameAt_7   K r1 a1 (0 : Int32) (a2 - (1 : Int32)) M)
theorem tm_Mo_nameAt_7 {G : MzG} {B : MzB} {d : Nat} {K : Int32 → MzM → Prop} (hF : mzLive true B)     : ∀ (r0 : Nat) (y1 : Int32) (y3 : Int32) (y4 : Int32) (M : MzM), mzLnk true M → wp_Mo_nameAt_7   K r0 y1 y3 y4 M → MzS G B (d + 1) mm_Mo_nameAt M (0, 0) (mzK1 true B K) 7 [(0, .ref (mz_ad B (30, 0))), (1, .int y1), (3, .int y3), (4, .int y4)] [] := by
  intro r0
  induction r0 with
  | zero => intro y1 y3 y4 M hL h; exact False.elim h
  | succ r0 hH7 =>
    intro y1 y3 y4 M hL h
    unfold wp_Mo_nameAt_7 at h
    exact (mz_iload d_Mo_nameAt_7 rfl (mz_iload_n d_Mo_nameAt_9 rfl (mz_icmp_lt 32 d_Mo_nameAt_10 rfl (fun hc7 => (mz_iload_n d_Mo_nameAt_32 rfl (mz_iret .int d_Mo_nameAt_33 rfl rfl ⟨rfl, hL, _, rfl, (h.1 hc7)⟩))) (fun hc7 => (mz_sipush (128 : Int32) d_Mo_nameAt_13 (by decide) (mz_iload_n d_Mo_nameAt_16 rfl (mz_imul d_Mo_nameAt_17 (mz_aload_n d_Mo_nameAt_18 rfl (mz_iload d_Mo_nameAt_19 rfl (mz_callV (As := [.int y4]) (st := [.int ((128 : Int32) * y3)]) (hF 30 0 rfl (by decide)) rfl (mzClOf cl_10) 0 0 d_Mo_nameAt_21 cs_Mo_ch wl_Mo_189 wi_Mo_ch wse_Mo_ch (Nat.le_of_ble_eq_true rfl) (Nat.zero_le _) (Nat.zero_le _) (MzC.mono (tm_Mo_ch (d := d) hF  hL (h.2 hc7)) (fun r9 B9 M3 hq5 => by obtain ⟨rfl, hL4, v6, rfl, hq5⟩ := hq5; exact ⟨_, rfl, (mz_iadd d_Mo_nameAt_24 (mz_istore_n d_Mo_nameAt_25 (by decide) (mz_iinc (y4 + (-1 : Int32)) d_Mo_nameAt_26 rfl (by decide) rfl (mz_goto 7 d_Mo_nameAt_29 rfl (MzS.loc [(0, .ref (mz_ad B (30, 0))), (1, .int y1), (3, .int (((128 : Int32) * y3) + v6)), (4, .int (y4 + (-1 : Int32)))] ⟨rfl, rfl, rfl, rfl, trivial⟩ (hH7 y1 (((128 : Int32) * y3) + v6) (y4 + (-1 : Int32)) M3 hL4 hq5))))))⟩))))))))))))
theorem tm_Mo_nameAt {G : MzG} {B : MzB} {d : Nat} {K : Int32 → MzM → Prop} (hF : mzLive true B)   {a1 : Int32} {a2 : Int32} {M : MzM} (hL : mzLnk true M) (h : wp_Mo_nameAt  a1 a2 M K) : MzC G B (d + 1) mm_Mo_nameAt [.ref (mz_ad B (30, 0)), .int a1, .int a2] M (0, 0) (mzK1 true B K) := by
  unfold wp_Mo_nameAt at h
  exact MzC.of rfl (Nat.le_of_ble_eq_true rfl) (show MzS G B (d + 1) mm_Mo_nameAt M (0, 0) (mzK1 true B K) 0 [(0, .ref (mz_ad B (30, 0))), (1, .int a1), (2, .int a2)] [] from (mz_iconst (0 : Int32) d_Mo_nameAt_0 (by decide) (mz_istore_n d_Mo_nameAt_1 (by decide) (mz_iload_n d_Mo_nameAt_2 rfl (mz_iconst (1 : Int32) d_Mo_nameAt_3 (by decide) (mz_isub d_Mo_nameAt_4 (mz_istore d_Mo_nameAt_5 (by decide) (MzS.loc [(0, .ref (mz_ad B (30, 0))), (1, .int a1), (3, .int (0 : Int32)), (4, .int (a2 - (1 : Int32)))] ⟨rfl, rfl, rfl, rfl, trivial⟩ (match h with | ⟨r1, h2⟩ => tm_Mo_nameAt_7 hF   r1 a1 (0 : Int32) (a2 - (1 : Int32)) M hL h2)))))))))
def mm_Mo_child : MzT := (⟨"ParcelLineModel", "child", "(II)I"⟩, prog_14_method_36_code, 4, (Option.some Jvm.ClassFile.FieldType.int))
theorem cs_Mo_child {mm : MzT} : mzCall mm mm_Mo_child 2 := ⟨wn_Mo, wco_Mo_child, by decide +kernel, by decide⟩
theorem d_Mo_child_0 : decode mm_Mo_child.2.1 0 = .ok (.iconst 1, 1) := by decide +kernel
theorem d_Mo_child_1 : decode mm_Mo_child.2.1 1 = .ok (.istore_n 3, 1) := by decide +kernel
theorem d_Mo_child_2 : decode mm_Mo_child.2.1 2 = .ok (.iload_n 3, 1) := by decide +kernel
theorem d_Mo_child_3 : decode mm_Mo_child.2.1 3 = .ok (.bipush 16, 2) := by decide +kernel
theorem d_Mo_child_5 : decode mm_Mo_child.2.1 5 = .ok (.if_icmp .ge 40, 3) := by decide +kernel
theorem d_Mo_child_8 : decode mm_Mo_child.2.1 8 = .ok (.aload_n 0, 1) := by decide +kernel
theorem d_Mo_child_9 : decode mm_Mo_child.2.1 9 = .ok (.getfield 34, 3) := by decide +kernel
theorem d_Mo_child_12 : decode mm_Mo_child.2.1 12 = .ok (.iload_n 3, 1) := by decide +kernel
theorem d_Mo_child_13 : decode mm_Mo_child.2.1 13 = .ok (.baload, 1) := by decide +kernel
theorem d_Mo_child_14 : decode mm_Mo_child.2.1 14 = .ok (.ifCond .eq 25, 3) := by decide +kernel
theorem d_Mo_child_17 : decode mm_Mo_child.2.1 17 = .ok (.aload_n 0, 1) := by decide +kernel
theorem d_Mo_child_18 : decode mm_Mo_child.2.1 18 = .ok (.getfield 41, 3) := by decide +kernel
theorem d_Mo_child_21 : decode mm_Mo_child.2.1 21 = .ok (.iload_n 3, 1) := by decide +kernel
theorem d_Mo_child_22 : decode mm_Mo_child.2.1 22 = .ok (.iaload, 1) := by decide +kernel
theorem d_Mo_child_23 : decode mm_Mo_child.2.1 23 = .ok (.iload_n 1, 1) := by decide +kernel
theorem d_Mo_child_24 : decode mm_Mo_child.2.1 24 = .ok (.if_icmp .ne 15, 3) := by decide +kernel
theorem d_Mo_child_27 : decode mm_Mo_child.2.1 27 = .ok (.aload_n 0, 1) := by decide +kernel
theorem d_Mo_child_28 : decode mm_Mo_child.2.1 28 = .ok (.getfield 44, 3) := by decide +kernel
theorem d_Mo_child_31 : decode mm_Mo_child.2.1 31 = .ok (.iload_n 3, 1) := by decide +kernel
theorem d_Mo_child_32 : decode mm_Mo_child.2.1 32 = .ok (.iaload, 1) := by decide +kernel
theorem d_Mo_child_33 : decode mm_Mo_child.2.1 33 = .ok (.iload_n 2, 1) := by decide +kernel
theorem d_Mo_child_34 : decode mm_Mo_child.2.1 34 = .ok (.if_icmp .ne 5, 3) := by decide +kernel
theorem d_Mo_child_37 : decode mm_Mo_child.2.1 37 = .ok (.iload_n 3, 1) := by decide +kernel
theorem d_Mo_child_38 : decode mm_Mo_child.2.1 38 = .ok (.ireturn, 1) := by decide +kernel
theorem d_Mo_child_39 : decode mm_Mo_child.2.1 39 = .ok (.iinc 3 1, 3) := by decide +kernel
theorem d_Mo_child_42 : decode mm_Mo_child.2.1 42 = .ok (.goto (-40), 3) := by decide +kernel
theorem d_Mo_child_45 : decode mm_Mo_child.2.1 45 = .ok (.iconst (-1), 1) := by decide +kernel
theorem d_Mo_child_46 : decode mm_Mo_child.2.1 46 = .ok (.ireturn, 1) := by decide +kernel
def wp_Mo_child_39  (H2 : Int32 → Int32 → Int32 → MzM → Prop) (K : Int32 → MzM → Prop) (y1 : Int32) (y2 : Int32) (y3 : Int32) (M : MzM) : Prop := H2 y1 y2 (y3 + (1 : Int32)) M
def wp_Mo_child_2   (K : Int32 → MzM → Prop) : Nat → Int32 → Int32 → Int32 → MzM → Prop
  | 0, _, _, _, _ => False
  | r0 + 1, y1, y2, y3, M => (((16 : Int32) ≤ y3 → K (-1 : Int32) M) ∧ (¬ (16 : Int32) ≤ y3 → (∃ j3 : Nat, y3.toInt = (j3 : Int) ∧ j3 < 16 ∧ (((mz_i M (32, 0) j3) = 0 → wp_Mo_child_39  (wp_Mo_child_2   K r0) K y1 y2 y3 M) ∧ (¬ (mz_i M (32, 0) j3) = 0 → (∃ j7 : Nat, y3.toInt = (j7 : Int) ∧ j7 < 16 ∧ ((¬ (mz_i M (34, 0) j7) = y1 → wp_Mo_child_39  (wp_Mo_child_2   K r0) K y1 y2 y3 M) ∧ ((mz_i M (34, 0) j7) = y1 → (∃ j11 : Nat, y3.toInt = (j11 : Int) ∧ j11 < 16 ∧ ((¬ (mz_i M (35, 0) j11) = y2 → wp_Mo_child_39  (wp_Mo_child_2   K r0) K y1 y2 y3 M) ∧ ((mz_i M (35, 0) j11) = y2 → K y3 M)))))))))))
def wp_Mo_child  (a1 : Int32) (a2 : Int32) (M : MzM) (K : Int32 → MzM → Prop) : Prop := (∃ r1 : Nat, wp_Mo_child_2   K r1 a1 a2 (1 : Int32) M)
theorem tm_Mo_child_39 {G : MzG} {B : MzB} {d : Nat} {K : Int32 → MzM → Prop} (hF : mzLive true B)   {H2 : Int32 → Int32 → Int32 → MzM → Prop} (hH2 : ∀ (y1 : Int32) (y2 : Int32) (y3 : Int32) (M : MzM), mzLnk true M → H2 y1 y2 y3 M → MzS G B d mm_Mo_child M (0, 0) (mzK1 true B K) 2 [(0, .ref (mz_ad B (30, 0))), (1, .int y1), (2, .int y2), (3, .int y3)] []) (y1 : Int32) (y2 : Int32) (y3 : Int32) (M : MzM) (hL : mzLnk true M) (h : wp_Mo_child_39  H2 K y1 y2 y3 M) : MzS G B d mm_Mo_child M (0, 0) (mzK1 true B K) 39 [(0, .ref (mz_ad B (30, 0))), (1, .int y1), (2, .int y2), (3, .int y3)] [] := by
  unfold wp_Mo_child_39 at h
  exact (mz_iinc (y3 + (1 : Int32)) d_Mo_child_39 rfl (by decide) rfl (mz_goto 2 d_Mo_child_42 rfl (MzS.loc [(0, .ref (mz_ad B (30, 0))), (1, .int y1), (2, .int y2), (3, .int (y3 + (1 : Int32)))] ⟨rfl, rfl, rfl, rfl, trivial⟩ (hH2 y1 y2 (y3 + (1 : Int32)) M hL h))))
theorem tm_Mo_child_2 {G : MzG} {B : MzB} {d : Nat} {K : Int32 → MzM → Prop} (hF : mzLive true B)     : ∀ (r0 : Nat) (y1 : Int32) (y2 : Int32) (y3 : Int32) (M : MzM), mzLnk true M → wp_Mo_child_2   K r0 y1 y2 y3 M → MzS G B d mm_Mo_child M (0, 0) (mzK1 true B K) 2 [(0, .ref (mz_ad B (30, 0))), (1, .int y1), (2, .int y2), (3, .int y3)] [] := by
  intro r0
  induction r0 with
  | zero => intro y1 y2 y3 M hL h; exact False.elim h
  | succ r0 hH2 =>
    intro y1 y2 y3 M hL h
    unfold wp_Mo_child_2 at h
    exact (mz_iload_n d_Mo_child_2 rfl (mz_bipush (16 : Int32) d_Mo_child_3 (by decide) (mz_icmp_ge 45 d_Mo_child_5 rfl (fun hc18 => (mz_iconst (-1 : Int32) d_Mo_child_45 (by decide) (mz_iret .int d_Mo_child_46 rfl rfl ⟨rfl, hL, _, rfl, (h.1 hc18)⟩))) (fun hc18 => (mz_aload_n d_Mo_child_8 rfl (mz_getR (k := 2) (a := (32, 0)) cl_10 d_Mo_child_9 (by decide) wf_Mo_34 rfl (hF 30 0 rfl (by decide)) rfl (hL (30, 0) 2 (32, 0) rfl rfl (by decide)) (mz_iload_n d_Mo_child_12 rfl (match (h.2 hc18) with | ⟨j3, h4, h5, h6⟩ => mz_zald j3 d_Mo_child_13 (hF 32 0 rfl (by decide)) rfl h4 h5 (mz_if_eq 39 d_Mo_child_14 rfl (fun hc17 => (MzS.loc [(0, .ref (mz_ad B (30, 0))), (1, .int y1), (2, .int y2), (3, .int y3)] ⟨rfl, rfl, rfl, rfl, trivial⟩ (tm_Mo_child_39 hF  hH2 y1 y2 y3 M hL (h6.1 hc17)))) (fun hc17 => (mz_aload_n d_Mo_child_17 rfl (mz_getR (k := 4) (a := (34, 0)) cl_10 d_Mo_child_18 (by decide) wf_Mo_41 rfl (hF 30 0 rfl (by decide)) rfl (hL (30, 0) 4 (34, 0) rfl rfl (by decide)) (mz_iload_n d_Mo_child_21 rfl (match (h6.2 hc17) with | ⟨j7, h8, h9, h10⟩ => mz_iald j7 d_Mo_child_22 (hF 34 0 rfl (by decide)) rfl h8 h9 (mz_iload_n d_Mo_child_23 rfl (mz_icmp_ne 39 d_Mo_child_24 rfl (fun hc16 => (MzS.loc [(0, .ref (mz_ad B (30, 0))), (1, .int y1), (2, .int y2), (3, .int y3)] ⟨rfl, rfl, rfl, rfl, trivial⟩ (tm_Mo_child_39 hF  hH2 y1 y2 y3 M hL (h10.1 hc16)))) (fun hc16 => (mz_aload_n d_Mo_child_27 rfl (mz_getR (k := 5) (a := (35, 0)) cl_10 d_Mo_child_28 (by decide) wf_Mo_44 rfl (hF 30 0 rfl (by decide)) rfl (hL (30, 0) 5 (35, 0) rfl rfl (by decide)) (mz_iload_n d_Mo_child_31 rfl (match (h10.2 hc16) with | ⟨j11, h12, h13, h14⟩ => mz_iald j11 d_Mo_child_32 (hF 35 0 rfl (by decide)) rfl h12 h13 (mz_iload_n d_Mo_child_33 rfl (mz_icmp_ne 39 d_Mo_child_34 rfl (fun hc15 => (MzS.loc [(0, .ref (mz_ad B (30, 0))), (1, .int y1), (2, .int y2), (3, .int y3)] ⟨rfl, rfl, rfl, rfl, trivial⟩ (tm_Mo_child_39 hF  hH2 y1 y2 y3 M hL (h14.1 hc15)))) (fun hc15 => (mz_iload_n d_Mo_child_37 rfl (mz_iret .int d_Mo_child_38 rfl rfl ⟨rfl, hL, _, rfl, (h14.2 hc15)⟩))))))))))))))))))))))))))
theorem tm_Mo_child {G : MzG} {B : MzB} {d : Nat} {K : Int32 → MzM → Prop} (hF : mzLive true B)   {a1 : Int32} {a2 : Int32} {M : MzM} (hL : mzLnk true M) (h : wp_Mo_child  a1 a2 M K) : MzC G B d mm_Mo_child [.ref (mz_ad B (30, 0)), .int a1, .int a2] M (0, 0) (mzK1 true B K) := by
  unfold wp_Mo_child at h
  exact MzC.of rfl (Nat.le_of_ble_eq_true rfl) (show MzS G B d mm_Mo_child M (0, 0) (mzK1 true B K) 0 [(0, .ref (mz_ad B (30, 0))), (1, .int a1), (2, .int a2)] [] from (mz_iconst (1 : Int32) d_Mo_child_0 (by decide) (mz_istore_n d_Mo_child_1 (by decide) (MzS.loc [(0, .ref (mz_ad B (30, 0))), (1, .int a1), (2, .int a2), (3, .int (1 : Int32))] ⟨rfl, rfl, rfl, rfl, trivial⟩ (match h with | ⟨r1, h2⟩ => tm_Mo_child_2 hF   r1 a1 a2 (1 : Int32) M hL h2)))))
