def mm_Mo_doEarly : MzT := (⟨"ParcelLineModel", "doEarly", "(II)V"⟩, prog_14_method_34_code, 4, (Option.none : Option Jvm.ClassFile.FieldType))
theorem cs_Mo_doEarly {mm : MzT} : mzCall mm mm_Mo_doEarly 2 := ⟨wn_Mo, wco_Mo_doEarly, by decide +kernel, by decide⟩
theorem d_Mo_doEarly_0 : decode mm_Mo_doEarly.2.1 0 = .ok (.iload_n 1, 1) := by decide +kernel
theorem d_Mo_doEarly_1 : decode mm_Mo_doEarly.2.1 1 = .ok (.iconst 1, 1) := by decide +kernel
theorem d_Mo_doEarly_2 : decode mm_Mo_doEarly.2.1 2 = .ok (.if_icmp .ne 77, 3) := by decide +kernel
theorem d_Mo_doEarly_5 : decode mm_Mo_doEarly.2.1 5 = .ok (.aload_n 0, 1) := by decide +kernel
theorem d_Mo_doEarly_6 : decode mm_Mo_doEarly.2.1 6 = .ok (.getfield 77, 3) := by decide +kernel
theorem d_Mo_doEarly_9 : decode mm_Mo_doEarly.2.1 9 = .ok (.aload_n 0, 1) := by decide +kernel
theorem d_Mo_doEarly_10 : decode mm_Mo_doEarly.2.1 10 = .ok (.getfield 137, 3) := by decide +kernel
theorem d_Mo_doEarly_13 : decode mm_Mo_doEarly.2.1 13 = .ok (.iconst 0, 1) := by decide +kernel
theorem d_Mo_doEarly_14 : decode mm_Mo_doEarly.2.1 14 = .ok (.iastore, 1) := by decide +kernel
theorem d_Mo_doEarly_15 : decode mm_Mo_doEarly.2.1 15 = .ok (.aload_n 0, 1) := by decide +kernel
theorem d_Mo_doEarly_16 : decode mm_Mo_doEarly.2.1 16 = .ok (.getfield 89, 3) := by decide +kernel
theorem d_Mo_doEarly_19 : decode mm_Mo_doEarly.2.1 19 = .ok (.aload_n 0, 1) := by decide +kernel
theorem d_Mo_doEarly_20 : decode mm_Mo_doEarly.2.1 20 = .ok (.getfield 137, 3) := by decide +kernel
theorem d_Mo_doEarly_23 : decode mm_Mo_doEarly.2.1 23 = .ok (.iconst (-1), 1) := by decide +kernel
theorem d_Mo_doEarly_24 : decode mm_Mo_doEarly.2.1 24 = .ok (.iastore, 1) := by decide +kernel
theorem d_Mo_doEarly_25 : decode mm_Mo_doEarly.2.1 25 = .ok (.aload_n 0, 1) := by decide +kernel
theorem d_Mo_doEarly_26 : decode mm_Mo_doEarly.2.1 26 = .ok (.getfield 80, 3) := by decide +kernel
theorem d_Mo_doEarly_29 : decode mm_Mo_doEarly.2.1 29 = .ok (.aload_n 0, 1) := by decide +kernel
theorem d_Mo_doEarly_30 : decode mm_Mo_doEarly.2.1 30 = .ok (.getfield 137, 3) := by decide +kernel
theorem d_Mo_doEarly_33 : decode mm_Mo_doEarly.2.1 33 = .ok (.aload_n 0, 1) := by decide +kernel
theorem d_Mo_doEarly_34 : decode mm_Mo_doEarly.2.1 34 = .ok (.bipush 97, 2) := by decide +kernel
theorem d_Mo_doEarly_36 : decode mm_Mo_doEarly.2.1 36 = .ok (.bipush 110, 2) := by decide +kernel
theorem d_Mo_doEarly_38 : decode mm_Mo_doEarly.2.1 38 = .ok (.bipush 121, 2) := by decide +kernel
theorem d_Mo_doEarly_40 : decode mm_Mo_doEarly.2.1 40 = .ok (.invokevirtual 239, 3) := by decide +kernel
theorem d_Mo_doEarly_43 : decode mm_Mo_doEarly.2.1 43 = .ok (.ifCond .eq 7, 3) := by decide +kernel
theorem d_Mo_doEarly_46 : decode mm_Mo_doEarly.2.1 46 = .ok (.iconst 1, 1) := by decide +kernel
theorem d_Mo_doEarly_47 : decode mm_Mo_doEarly.2.1 47 = .ok (.goto 21, 3) := by decide +kernel
theorem d_Mo_doEarly_50 : decode mm_Mo_doEarly.2.1 50 = .ok (.aload_n 0, 1) := by decide +kernel
theorem d_Mo_doEarly_51 : decode mm_Mo_doEarly.2.1 51 = .ok (.bipush 97, 2) := by decide +kernel
theorem d_Mo_doEarly_53 : decode mm_Mo_doEarly.2.1 53 = .ok (.bipush 100, 2) := by decide +kernel
theorem d_Mo_doEarly_55 : decode mm_Mo_doEarly.2.1 55 = .ok (.bipush 109, 2) := by decide +kernel
theorem d_Mo_doEarly_57 : decode mm_Mo_doEarly.2.1 57 = .ok (.invokevirtual 239, 3) := by decide +kernel
theorem d_Mo_doEarly_60 : decode mm_Mo_doEarly.2.1 60 = .ok (.ifCond .eq 7, 3) := by decide +kernel
theorem d_Mo_doEarly_63 : decode mm_Mo_doEarly.2.1 63 = .ok (.iconst 2, 1) := by decide +kernel
theorem d_Mo_doEarly_64 : decode mm_Mo_doEarly.2.1 64 = .ok (.goto 4, 3) := by decide +kernel
theorem d_Mo_doEarly_67 : decode mm_Mo_doEarly.2.1 67 = .ok (.iconst 3, 1) := by decide +kernel
theorem d_Mo_doEarly_68 : decode mm_Mo_doEarly.2.1 68 = .ok (.iastore, 1) := by decide +kernel
theorem d_Mo_doEarly_69 : decode mm_Mo_doEarly.2.1 69 = .ok (.aload_n 0, 1) := by decide +kernel
theorem d_Mo_doEarly_70 : decode mm_Mo_doEarly.2.1 70 = .ok (.sipush 331, 3) := by decide +kernel
theorem d_Mo_doEarly_73 : decode mm_Mo_doEarly.2.1 73 = .ok (.invokevirtual 218, 3) := by decide +kernel
theorem d_Mo_doEarly_76 : decode mm_Mo_doEarly.2.1 76 = .ok (.goto 131, 3) := by decide +kernel
theorem d_Mo_doEarly_79 : decode mm_Mo_doEarly.2.1 79 = .ok (.iload_n 1, 1) := by decide +kernel
theorem d_Mo_doEarly_80 : decode mm_Mo_doEarly.2.1 80 = .ok (.iconst 2, 1) := by decide +kernel
theorem d_Mo_doEarly_81 : decode mm_Mo_doEarly.2.1 81 = .ok (.if_icmp .ne 96, 3) := by decide +kernel
theorem d_Mo_doEarly_84 : decode mm_Mo_doEarly.2.1 84 = .ok (.iload_n 2, 1) := by decide +kernel
theorem d_Mo_doEarly_85 : decode mm_Mo_doEarly.2.1 85 = .ok (.iconst 1, 1) := by decide +kernel
theorem d_Mo_doEarly_86 : decode mm_Mo_doEarly.2.1 86 = .ok (.if_icmp .eq 21, 3) := by decide +kernel
theorem d_Mo_doEarly_89 : decode mm_Mo_doEarly.2.1 89 = .ok (.iload_n 2, 1) := by decide +kernel
theorem d_Mo_doEarly_90 : decode mm_Mo_doEarly.2.1 90 = .ok (.iconst 2, 1) := by decide +kernel
theorem d_Mo_doEarly_91 : decode mm_Mo_doEarly.2.1 91 = .ok (.if_icmp .ne 20, 3) := by decide +kernel
theorem d_Mo_doEarly_94 : decode mm_Mo_doEarly.2.1 94 = .ok (.aload_n 0, 1) := by decide +kernel
theorem d_Mo_doEarly_95 : decode mm_Mo_doEarly.2.1 95 = .ok (.bipush 107, 2) := by decide +kernel
theorem d_Mo_doEarly_97 : decode mm_Mo_doEarly.2.1 97 = .ok (.bipush 101, 2) := by decide +kernel
theorem d_Mo_doEarly_99 : decode mm_Mo_doEarly.2.1 99 = .ok (.bipush 121, 2) := by decide +kernel
theorem d_Mo_doEarly_101 : decode mm_Mo_doEarly.2.1 101 = .ok (.invokevirtual 239, 3) := by decide +kernel
theorem d_Mo_doEarly_104 : decode mm_Mo_doEarly.2.1 104 = .ok (.ifCond .eq 7, 3) := by decide +kernel
theorem d_Mo_doEarly_107 : decode mm_Mo_doEarly.2.1 107 = .ok (.iconst 1, 1) := by decide +kernel
theorem d_Mo_doEarly_108 : decode mm_Mo_doEarly.2.1 108 = .ok (.goto 4, 3) := by decide +kernel
theorem d_Mo_doEarly_111 : decode mm_Mo_doEarly.2.1 111 = .ok (.iconst 0, 1) := by decide +kernel
theorem d_Mo_doEarly_112 : decode mm_Mo_doEarly.2.1 112 = .ok (.istore_n 3, 1) := by decide +kernel
theorem d_Mo_doEarly_113 : decode mm_Mo_doEarly.2.1 113 = .ok (.iload_n 3, 1) := by decide +kernel
theorem d_Mo_doEarly_114 : decode mm_Mo_doEarly.2.1 114 = .ok (.ifCond .eq 33, 3) := by decide +kernel
theorem d_Mo_doEarly_117 : decode mm_Mo_doEarly.2.1 117 = .ok (.aload_n 0, 1) := by decide +kernel
theorem d_Mo_doEarly_118 : decode mm_Mo_doEarly.2.1 118 = .ok (.getfield 77, 3) := by decide +kernel
theorem d_Mo_doEarly_121 : decode mm_Mo_doEarly.2.1 121 = .ok (.aload_n 0, 1) := by decide +kernel
theorem d_Mo_doEarly_122 : decode mm_Mo_doEarly.2.1 122 = .ok (.getfield 137, 3) := by decide +kernel
theorem d_Mo_doEarly_125 : decode mm_Mo_doEarly.2.1 125 = .ok (.iload_n 2, 1) := by decide +kernel
theorem d_Mo_doEarly_126 : decode mm_Mo_doEarly.2.1 126 = .ok (.iastore, 1) := by decide +kernel
theorem d_Mo_doEarly_127 : decode mm_Mo_doEarly.2.1 127 = .ok (.aload_n 0, 1) := by decide +kernel
theorem d_Mo_doEarly_128 : decode mm_Mo_doEarly.2.1 128 = .ok (.getfield 89, 3) := by decide +kernel
theorem d_Mo_doEarly_131 : decode mm_Mo_doEarly.2.1 131 = .ok (.aload_n 0, 1) := by decide +kernel
theorem d_Mo_doEarly_132 : decode mm_Mo_doEarly.2.1 132 = .ok (.getfield 137, 3) := by decide +kernel
theorem d_Mo_doEarly_135 : decode mm_Mo_doEarly.2.1 135 = .ok (.iconst 0, 1) := by decide +kernel
theorem d_Mo_doEarly_136 : decode mm_Mo_doEarly.2.1 136 = .ok (.iastore, 1) := by decide +kernel
theorem d_Mo_doEarly_137 : decode mm_Mo_doEarly.2.1 137 = .ok (.aload_n 0, 1) := by decide +kernel
theorem d_Mo_doEarly_138 : decode mm_Mo_doEarly.2.1 138 = .ok (.getfield 92, 3) := by decide +kernel
theorem d_Mo_doEarly_141 : decode mm_Mo_doEarly.2.1 141 = .ok (.aload_n 0, 1) := by decide +kernel
theorem d_Mo_doEarly_142 : decode mm_Mo_doEarly.2.1 142 = .ok (.getfield 137, 3) := by decide +kernel
theorem d_Mo_doEarly_145 : decode mm_Mo_doEarly.2.1 145 = .ok (.iconst 0, 1) := by decide +kernel
theorem d_Mo_doEarly_146 : decode mm_Mo_doEarly.2.1 146 = .ok (.bastore, 1) := by decide +kernel
theorem d_Mo_doEarly_147 : decode mm_Mo_doEarly.2.1 147 = .ok (.aload_n 0, 1) := by decide +kernel
theorem d_Mo_doEarly_148 : decode mm_Mo_doEarly.2.1 148 = .ok (.iload_n 2, 1) := by decide +kernel
theorem d_Mo_doEarly_149 : decode mm_Mo_doEarly.2.1 149 = .ok (.ifCond .ne 9, 3) := by decide +kernel
theorem d_Mo_doEarly_152 : decode mm_Mo_doEarly.2.1 152 = .ok (.sipush 503, 3) := by decide +kernel
theorem d_Mo_doEarly_155 : decode mm_Mo_doEarly.2.1 155 = .ok (.goto 16, 3) := by decide +kernel
theorem d_Mo_doEarly_158 : decode mm_Mo_doEarly.2.1 158 = .ok (.iload_n 3, 1) := by decide +kernel
theorem d_Mo_doEarly_159 : decode mm_Mo_doEarly.2.1 159 = .ok (.ifCond .eq 9, 3) := by decide +kernel
theorem d_Mo_doEarly_162 : decode mm_Mo_doEarly.2.1 162 = .ok (.sipush 230, 3) := by decide +kernel
theorem d_Mo_doEarly_165 : decode mm_Mo_doEarly.2.1 165 = .ok (.goto 6, 3) := by decide +kernel
theorem d_Mo_doEarly_168 : decode mm_Mo_doEarly.2.1 168 = .ok (.sipush 530, 3) := by decide +kernel
theorem d_Mo_doEarly_171 : decode mm_Mo_doEarly.2.1 171 = .ok (.invokevirtual 218, 3) := by decide +kernel
theorem d_Mo_doEarly_174 : decode mm_Mo_doEarly.2.1 174 = .ok (.goto 33, 3) := by decide +kernel
theorem d_Mo_doEarly_177 : decode mm_Mo_doEarly.2.1 177 = .ok (.iload_n 1, 1) := by decide +kernel
theorem d_Mo_doEarly_178 : decode mm_Mo_doEarly.2.1 178 = .ok (.iconst 3, 1) := by decide +kernel
theorem d_Mo_doEarly_179 : decode mm_Mo_doEarly.2.1 179 = .ok (.if_icmp .ne 21, 3) := by decide +kernel
theorem d_Mo_doEarly_182 : decode mm_Mo_doEarly.2.1 182 = .ok (.aload_n 0, 1) := by decide +kernel
theorem d_Mo_doEarly_183 : decode mm_Mo_doEarly.2.1 183 = .ok (.aload_n 0, 1) := by decide +kernel
theorem d_Mo_doEarly_184 : decode mm_Mo_doEarly.2.1 184 = .ok (.getfield 137, 3) := by decide +kernel
theorem d_Mo_doEarly_187 : decode mm_Mo_doEarly.2.1 187 = .ok (.invokevirtual 122, 3) := by decide +kernel
theorem d_Mo_doEarly_190 : decode mm_Mo_doEarly.2.1 190 = .ok (.aload_n 0, 1) := by decide +kernel
theorem d_Mo_doEarly_191 : decode mm_Mo_doEarly.2.1 191 = .ok (.sipush 221, 3) := by decide +kernel
theorem d_Mo_doEarly_194 : decode mm_Mo_doEarly.2.1 194 = .ok (.invokevirtual 218, 3) := by decide +kernel
theorem d_Mo_doEarly_197 : decode mm_Mo_doEarly.2.1 197 = .ok (.goto 10, 3) := by decide +kernel
theorem d_Mo_doEarly_200 : decode mm_Mo_doEarly.2.1 200 = .ok (.aload_n 0, 1) := by decide +kernel
theorem d_Mo_doEarly_201 : decode mm_Mo_doEarly.2.1 201 = .ok (.sipush 200, 3) := by decide +kernel
theorem d_Mo_doEarly_204 : decode mm_Mo_doEarly.2.1 204 = .ok (.invokevirtual 218, 3) := by decide +kernel
theorem d_Mo_doEarly_207 : decode mm_Mo_doEarly.2.1 207 = .ok (.return_, 1) := by decide +kernel
def wp_Mo_doEarly_147   (K : MzM → Prop) (y2 : Int32) (y3 : Int32) (M : MzM) : Prop := ((¬ y2 = 0 → ((y3 = 0 → wp_Mo_answer  (530 : Int32) M (fun M88 => K M88)) ∧ (¬ y3 = 0 → wp_Mo_answer  (230 : Int32) M (fun M91 => K M91)))) ∧ (y2 = 0 → wp_Mo_answer  (503 : Int32) M (fun M95 => K M95)))
def wp_Mo_doEarly_112   (K : MzM → Prop) (y2 : Int32) (ys0 : Int32) (M : MzM) : Prop := ((ys0 = 0 → wp_Mo_doEarly_147   K y2 ys0 M) ∧ (¬ ys0 = 0 → (∃ j72 : Nat, (mz_i M (30, 0) 29).toInt = (j72 : Int) ∧ j72 < 2 ∧ ∀ M69 : MzM, M69 = mz_si M (46, 0) j72 y2 → (∃ j78 : Nat, (mz_i M69 (30, 0) 29).toInt = (j78 : Int) ∧ j78 < 2 ∧ ∀ M75 : MzM, M75 = mz_si M69 (50, 0) j78 (0 : Int32) → (∃ j84 : Nat, (mz_i M75 (30, 0) 29).toInt = (j84 : Int) ∧ j84 < 2 ∧ ∀ M81 : MzM, M81 = mz_si M75 (51, 0) j84 (0 : Int32) → wp_Mo_doEarly_147   K y2 ys0 M81)))))
def wp_Mo_doEarly_107   (K : MzM → Prop) (y2 : Int32) (M : MzM) : Prop := wp_Mo_doEarly_112   K y2 (1 : Int32) M
def wp_Mo_doEarly_111   (K : MzM → Prop) (y2 : Int32) (M : MzM) : Prop := wp_Mo_doEarly_112   K y2 (0 : Int32) M
def wp_Mo_doEarly  (a1 : Int32) (a2 : Int32) (M : MzM) (K : MzM → Prop) : Prop := ((¬ a1 = (1 : Int32) → ((¬ a1 = (2 : Int32) → ((¬ a1 = (3 : Int32) → wp_Mo_answer  (200 : Int32) M (fun M1 => K M1)) ∧ (a1 = (3 : Int32) → wp_Mo_beginSession  (mz_i M (30, 0) 29) M (fun M4 => wp_Mo_answer  (221 : Int32) M4 (fun M7 => K M7))))) ∧ (a1 = (2 : Int32) → ((a2 = (1 : Int32) → wp_Mo_doEarly_107   K a2 M) ∧ (¬ a2 = (1 : Int32) → ((¬ a2 = (2 : Int32) → wp_Mo_doEarly_111   K a2 M) ∧ (a2 = (2 : Int32) → wp_Mo_says  (107 : Int32) (101 : Int32) (121 : Int32) M (fun v14 M11 => ((v14 = 0 → wp_Mo_doEarly_111   K a2 M11) ∧ (¬ v14 = 0 → wp_Mo_doEarly_107   K a2 M11)))))))))) ∧ (a1 = (1 : Int32) → (∃ j22 : Nat, (mz_i M (30, 0) 29).toInt = (j22 : Int) ∧ j22 < 2 ∧ ∀ M19 : MzM, M19 = mz_si M (46, 0) j22 (0 : Int32) → (∃ j28 : Nat, (mz_i M19 (30, 0) 29).toInt = (j28 : Int) ∧ j28 < 2 ∧ ∀ M25 : MzM, M25 = mz_si M19 (50, 0) j28 (-1 : Int32) → wp_Mo_says  (97 : Int32) (110 : Int32) (121 : Int32) M25 (fun v34 M31 => ((v34 = 0 → wp_Mo_says  (97 : Int32) (100 : Int32) (109 : Int32) M31 (fun v38 M35 => ((v38 = 0 → (∃ j42 : Nat, (mz_i M25 (30, 0) 29).toInt = (j42 : Int) ∧ j42 < 2 ∧ ∀ M39 : MzM, M39 = mz_si M35 (47, 0) j42 (3 : Int32) → wp_Mo_answer  (331 : Int32) M39 (fun M45 => K M45))) ∧ (¬ v38 = 0 → (∃ j51 : Nat, (mz_i M25 (30, 0) 29).toInt = (j51 : Int) ∧ j51 < 2 ∧ ∀ M48 : MzM, M48 = mz_si M35 (47, 0) j51 (2 : Int32) → wp_Mo_answer  (331 : Int32) M48 (fun M54 => K M54)))))) ∧ (¬ v34 = 0 → (∃ j61 : Nat, (mz_i M25 (30, 0) 29).toInt = (j61 : Int) ∧ j61 < 2 ∧ ∀ M58 : MzM, M58 = mz_si M31 (47, 0) j61 (1 : Int32) → wp_Mo_answer  (331 : Int32) M58 (fun M64 => K M64)))))))))
theorem tm_Mo_doEarly_147 {G : MzG} {B : MzB} {d : Nat} {K : MzM → Prop} (hF : mzLive B)     (y2 : Int32) (y3 : Int32) (M : MzM) (hL : mzLnk M) (h : wp_Mo_doEarly_147   K y2 y3 M) : MzS G B (d + 3) mm_Mo_doEarly M (0, 0) (mzK0 B K) 147 [(0, .ref (mz_ad B (30, 0))), (2, .int y2), (3, .int y3)] [] := by
  unfold wp_Mo_doEarly_147 at h
  exact (mz_aload_n d_Mo_doEarly_147 rfl (mz_iload_n d_Mo_doEarly_148 rfl (mz_if_ne 158 d_Mo_doEarly_149 rfl (fun hc98 => (mz_iload_n d_Mo_doEarly_158 rfl (mz_if_eq 168 d_Mo_doEarly_159 rfl (fun hc94 => (mz_sipush (530 : Int32) d_Mo_doEarly_168 (by decide) (mz_callV (As := [.int (530 : Int32)]) (st := []) (hF 30 0 (by decide)) rfl (mzClOf cl_10) 0 0 d_Mo_doEarly_171 cs_Mo_answer wl_Mo_218 wi_Mo_answer wse_Mo_answer (Nat.le_of_ble_eq_true rfl) (Nat.le_refl _) (Nat.le_refl _) (MzC.mono (tm_Mo_answer (d := d) hF  hL ((h.1 hc98).1 hc94)) (fun r9 B9 M88 hq90 => by obtain ⟨rfl, hL89, rfl, hq90⟩ := hq90; exact ⟨none, rfl, (mz_goto 207 d_Mo_doEarly_174 rfl (mz_vret d_Mo_doEarly_207 rfl ⟨rfl, hL89, rfl, hq90⟩))⟩))))) (fun hc94 => (mz_sipush (230 : Int32) d_Mo_doEarly_162 (by decide) (mz_goto 171 d_Mo_doEarly_165 rfl (mz_callV (As := [.int (230 : Int32)]) (st := []) (hF 30 0 (by decide)) rfl (mzClOf cl_10) 0 0 d_Mo_doEarly_171 cs_Mo_answer wl_Mo_218 wi_Mo_answer wse_Mo_answer (Nat.le_of_ble_eq_true rfl) (Nat.le_refl _) (Nat.le_refl _) (MzC.mono (tm_Mo_answer (d := d) hF  hL ((h.1 hc98).2 hc94)) (fun r9 B9 M91 hq93 => by obtain ⟨rfl, hL92, rfl, hq93⟩ := hq93; exact ⟨none, rfl, (mz_goto 207 d_Mo_doEarly_174 rfl (mz_vret d_Mo_doEarly_207 rfl ⟨rfl, hL92, rfl, hq93⟩))⟩))))))))) (fun hc98 => (mz_sipush (503 : Int32) d_Mo_doEarly_152 (by decide) (mz_goto 171 d_Mo_doEarly_155 rfl (mz_callV (As := [.int (503 : Int32)]) (st := []) (hF 30 0 (by decide)) rfl (mzClOf cl_10) 0 0 d_Mo_doEarly_171 cs_Mo_answer wl_Mo_218 wi_Mo_answer wse_Mo_answer (Nat.le_of_ble_eq_true rfl) (Nat.le_refl _) (Nat.le_refl _) (MzC.mono (tm_Mo_answer (d := d) hF  hL (h.2 hc98)) (fun r9 B9 M95 hq97 => by obtain ⟨rfl, hL96, rfl, hq97⟩ := hq97; exact ⟨none, rfl, (mz_goto 207 d_Mo_doEarly_174 rfl (mz_vret d_Mo_doEarly_207 rfl ⟨rfl, hL96, rfl, hq97⟩))⟩)))))))))
theorem tm_Mo_doEarly_112 {G : MzG} {B : MzB} {d : Nat} {K : MzM → Prop} (hF : mzLive B)     (y2 : Int32) (ys0 : Int32) (M : MzM) (hL : mzLnk M) (h : wp_Mo_doEarly_112   K y2 ys0 M) : MzS G B (d + 3) mm_Mo_doEarly M (0, 0) (mzK0 B K) 112 [(0, .ref (mz_ad B (30, 0))), (2, .int y2)] [.int ys0] := by
  unfold wp_Mo_doEarly_112 at h
  exact (mz_istore_n d_Mo_doEarly_112 (by decide) (mz_iload_n d_Mo_doEarly_113 rfl (mz_if_eq 147 d_Mo_doEarly_114 rfl (fun hc87 => (MzS.loc [(0, .ref (mz_ad B (30, 0))), (2, .int y2), (3, .int ys0)] ⟨rfl, rfl, rfl, trivial⟩ (tm_Mo_doEarly_147 hF   y2 ys0 M hL (h.1 hc87)))) (fun hc87 => (mz_aload_n d_Mo_doEarly_117 rfl (mz_getR (k := 16) (a := (46, 0)) cl_10 d_Mo_doEarly_118 (by decide) wf_Mo_77 rfl (hF 30 0 (by decide)) rfl (hL (30, 0) 16 (46, 0) rfl (by decide)) (mz_aload_n d_Mo_doEarly_121 rfl (mz_getI (k := 29) cl_10 d_Mo_doEarly_122 (by decide) wf_Mo_137 rfl (hF 30 0 (by decide)) rfl (mz_iload_n d_Mo_doEarly_125 rfl (match (h.2 hc87) with | ⟨j72, h73, h74, h71⟩ => mz_iast j72 d_Mo_doEarly_126 (hF 46 0 (by decide)) rfl h73 h74 (let M69 : MzM := mz_si M (46, 0) j72 y2; (mz_aload_n d_Mo_doEarly_127 rfl (mz_getR (k := 20) (a := (50, 0)) cl_10 d_Mo_doEarly_128 (by decide) wf_Mo_89 rfl (hF 30 0 (by decide)) rfl (hL (30, 0) 20 (50, 0) rfl (by decide)) (mz_aload_n d_Mo_doEarly_131 rfl (mz_getI (k := 29) cl_10 d_Mo_doEarly_132 (by decide) wf_Mo_137 rfl (hF 30 0 (by decide)) rfl (mz_iconst (0 : Int32) d_Mo_doEarly_135 (by decide) (match (h71 M69 rfl) with | ⟨j78, h79, h80, h77⟩ => mz_iast j78 d_Mo_doEarly_136 (hF 50 0 (by decide)) rfl h79 h80 (let M75 : MzM := mz_si M69 (50, 0) j78 (0 : Int32); (mz_aload_n d_Mo_doEarly_137 rfl (mz_getR (k := 21) (a := (51, 0)) cl_10 d_Mo_doEarly_138 (by decide) wf_Mo_92 rfl (hF 30 0 (by decide)) rfl (hL (30, 0) 21 (51, 0) rfl (by decide)) (mz_aload_n d_Mo_doEarly_141 rfl (mz_getI (k := 29) cl_10 d_Mo_doEarly_142 (by decide) wf_Mo_137 rfl (hF 30 0 (by decide)) rfl (mz_iconst (0 : Int32) d_Mo_doEarly_145 (by decide) (match (h77 M75 rfl) with | ⟨j84, h85, h86, h83⟩ => mz_zast j84 d_Mo_doEarly_146 (hF 51 0 (by decide)) rfl h85 h86 (by decide) (let M81 : MzM := mz_si M75 (51, 0) j84 (0 : Int32); (MzS.loc [(0, .ref (mz_ad B (30, 0))), (2, .int y2), (3, .int ys0)] ⟨rfl, rfl, rfl, trivial⟩ (tm_Mo_doEarly_147 hF   y2 ys0 M81 hL (h83 M81 rfl))))))))))))))))))))))))))))
theorem tm_Mo_doEarly_107 {G : MzG} {B : MzB} {d : Nat} {K : MzM → Prop} (hF : mzLive B)     (y2 : Int32) (M : MzM) (hL : mzLnk M) (h : wp_Mo_doEarly_107   K y2 M) : MzS G B (d + 3) mm_Mo_doEarly M (0, 0) (mzK0 B K) 107 [(0, .ref (mz_ad B (30, 0))), (2, .int y2)] [] := by
  unfold wp_Mo_doEarly_107 at h
  exact (mz_iconst (1 : Int32) d_Mo_doEarly_107 (by decide) (mz_goto 112 d_Mo_doEarly_108 rfl (MzS.loc [(0, .ref (mz_ad B (30, 0))), (2, .int y2)] ⟨rfl, rfl, trivial⟩ (tm_Mo_doEarly_112 hF   y2 (1 : Int32) M hL h))))
theorem tm_Mo_doEarly_111 {G : MzG} {B : MzB} {d : Nat} {K : MzM → Prop} (hF : mzLive B)     (y2 : Int32) (M : MzM) (hL : mzLnk M) (h : wp_Mo_doEarly_111   K y2 M) : MzS G B (d + 3) mm_Mo_doEarly M (0, 0) (mzK0 B K) 111 [(0, .ref (mz_ad B (30, 0))), (2, .int y2)] [] := by
  unfold wp_Mo_doEarly_111 at h
  exact (mz_iconst (0 : Int32) d_Mo_doEarly_111 (by decide) (MzS.loc [(0, .ref (mz_ad B (30, 0))), (2, .int y2)] ⟨rfl, rfl, trivial⟩ (tm_Mo_doEarly_112 hF   y2 (0 : Int32) M hL h)))
theorem tm_Mo_doEarly {G : MzG} {B : MzB} {d : Nat} {K : MzM → Prop} (hF : mzLive B)   {a1 : Int32} {a2 : Int32} {M : MzM} (hL : mzLnk M) (h : wp_Mo_doEarly  a1 a2 M K) : MzC G B (d + 3) mm_Mo_doEarly [.ref (mz_ad B (30, 0)), .int a1, .int a2] M (0, 0) (mzK0 B K) := by
  unfold wp_Mo_doEarly at h
  exact MzC.of rfl (Nat.le_of_ble_eq_true rfl) (show MzS G B (d + 3) mm_Mo_doEarly M (0, 0) (mzK0 B K) 0 [(0, .ref (mz_ad B (30, 0))), (1, .int a1), (2, .int a2)] [] from (mz_iload_n d_Mo_doEarly_0 rfl (mz_iconst (1 : Int32) d_Mo_doEarly_1 (by decide) (mz_icmp_ne 79 d_Mo_doEarly_2 rfl (fun hc68 => (mz_iload_n d_Mo_doEarly_79 rfl (mz_iconst (2 : Int32) d_Mo_doEarly_80 (by decide) (mz_icmp_ne 177 d_Mo_doEarly_81 rfl (fun hc18 => (mz_iload_n d_Mo_doEarly_177 rfl (mz_iconst (3 : Int32) d_Mo_doEarly_178 (by decide) (mz_icmp_ne 200 d_Mo_doEarly_179 rfl (fun hc10 => (mz_aload_n d_Mo_doEarly_200 rfl (mz_sipush (200 : Int32) d_Mo_doEarly_201 (by decide) (mz_callV (As := [.int (200 : Int32)]) (st := []) (hF 30 0 (by decide)) rfl (mzClOf cl_10) 0 0 d_Mo_doEarly_204 cs_Mo_answer wl_Mo_218 wi_Mo_answer wse_Mo_answer (Nat.le_of_ble_eq_true rfl) (Nat.le_refl _) (Nat.le_refl _) (MzC.mono (tm_Mo_answer (d := d) hF  hL (((h.1 hc68).1 hc18).1 hc10)) (fun r9 B9 M1 hq3 => by obtain ⟨rfl, hL2, rfl, hq3⟩ := hq3; exact ⟨none, rfl, (mz_vret d_Mo_doEarly_207 rfl ⟨rfl, hL2, rfl, hq3⟩)⟩)))))) (fun hc10 => (mz_aload_n d_Mo_doEarly_182 rfl (mz_aload_n d_Mo_doEarly_183 rfl (mz_getI (k := 29) cl_10 d_Mo_doEarly_184 (by decide) wf_Mo_137 rfl (hF 30 0 (by decide)) rfl (mz_callV (As := [.int (mz_i M (30, 0) 29)]) (st := []) (hF 30 0 (by decide)) rfl (mzClOf cl_10) 0 0 d_Mo_doEarly_187 cs_Mo_beginSession wl_Mo_122 wi_Mo_beginSession wse_Mo_beginSession (Nat.le_of_ble_eq_true rfl) (Nat.le_refl _) (Nat.le_refl _) (MzC.mono (tm_Mo_beginSession (d := d) hF  hL (((h.1 hc68).1 hc18).2 hc10)) (fun r9 B9 M4 hq6 => by obtain ⟨rfl, hL5, rfl, hq6⟩ := hq6; exact ⟨none, rfl, (mz_aload_n d_Mo_doEarly_190 rfl (mz_sipush (221 : Int32) d_Mo_doEarly_191 (by decide) (mz_callV (As := [.int (221 : Int32)]) (st := []) (hF 30 0 (by decide)) rfl (mzClOf cl_10) 0 0 d_Mo_doEarly_194 cs_Mo_answer wl_Mo_218 wi_Mo_answer wse_Mo_answer (Nat.le_of_ble_eq_true rfl) (Nat.le_refl _) (Nat.le_refl _) (MzC.mono (tm_Mo_answer (d := d) hF  hL5 hq6) (fun r9 B9 M7 hq9 => by obtain ⟨rfl, hL8, rfl, hq9⟩ := hq9; exact ⟨none, rfl, (mz_goto 207 d_Mo_doEarly_197 rfl (mz_vret d_Mo_doEarly_207 rfl ⟨rfl, hL8, rfl, hq9⟩))⟩)))))⟩))))))))))) (fun hc18 => (mz_iload_n d_Mo_doEarly_84 rfl (mz_iconst (1 : Int32) d_Mo_doEarly_85 (by decide) (mz_icmp_eq 107 d_Mo_doEarly_86 rfl (fun hc17 => (MzS.loc [(0, .ref (mz_ad B (30, 0))), (2, .int a2)] ⟨rfl, rfl, trivial⟩ (tm_Mo_doEarly_107 hF   a2 M hL (((h.1 hc68).2 hc18).1 hc17)))) (fun hc17 => (mz_iload_n d_Mo_doEarly_89 rfl (mz_iconst (2 : Int32) d_Mo_doEarly_90 (by decide) (mz_icmp_ne 111 d_Mo_doEarly_91 rfl (fun hc16 => (MzS.loc [(0, .ref (mz_ad B (30, 0))), (2, .int a2)] ⟨rfl, rfl, trivial⟩ (tm_Mo_doEarly_111 hF   a2 M hL ((((h.1 hc68).2 hc18).2 hc17).1 hc16)))) (fun hc16 => (mz_aload_n d_Mo_doEarly_94 rfl (mz_bipush (107 : Int32) d_Mo_doEarly_95 (by decide) (mz_bipush (101 : Int32) d_Mo_doEarly_97 (by decide) (mz_bipush (121 : Int32) d_Mo_doEarly_99 (by decide) (mz_callV (As := [.int (107 : Int32), .int (101 : Int32), .int (121 : Int32)]) (st := []) (hF 30 0 (by decide)) rfl (mzClOf cl_10) 0 0 d_Mo_doEarly_101 cs_Mo_says wl_Mo_239 wi_Mo_says wse_Mo_says (Nat.le_of_ble_eq_true rfl) (Nat.le_refl _) (Nat.le_refl _) (MzC.mono (tm_Mo_says (d := (d + 1)) hF  hL ((((h.1 hc68).2 hc18).2 hc17).2 hc16)) (fun r9 B9 M11 hq13 => by obtain ⟨rfl, hL12, v14, rfl, hq13⟩ := hq13; exact ⟨_, rfl, (mz_if_eq 111 d_Mo_doEarly_104 rfl (fun hc15 => (MzS.loc [(0, .ref (mz_ad B (30, 0))), (2, .int a2)] ⟨rfl, rfl, trivial⟩ (tm_Mo_doEarly_111 hF   a2 M11 hL12 (hq13.1 hc15)))) (fun hc15 => (MzS.loc [(0, .ref (mz_ad B (30, 0))), (2, .int a2)] ⟨rfl, rfl, trivial⟩ (tm_Mo_doEarly_107 hF   a2 M11 hL12 (hq13.2 hc15)))))⟩)))))))))))))))))))) (fun hc68 => (mz_aload_n d_Mo_doEarly_5 rfl (mz_getR (k := 16) (a := (46, 0)) cl_10 d_Mo_doEarly_6 (by decide) wf_Mo_77 rfl (hF 30 0 (by decide)) rfl (hL (30, 0) 16 (46, 0) rfl (by decide)) (mz_aload_n d_Mo_doEarly_9 rfl (mz_getI (k := 29) cl_10 d_Mo_doEarly_10 (by decide) wf_Mo_137 rfl (hF 30 0 (by decide)) rfl (mz_iconst (0 : Int32) d_Mo_doEarly_13 (by decide) (match (h.2 hc68) with | ⟨j22, h23, h24, h21⟩ => mz_iast j22 d_Mo_doEarly_14 (hF 46 0 (by decide)) rfl h23 h24 (let M19 : MzM := mz_si M (46, 0) j22 (0 : Int32); (mz_aload_n d_Mo_doEarly_15 rfl (mz_getR (k := 20) (a := (50, 0)) cl_10 d_Mo_doEarly_16 (by decide) wf_Mo_89 rfl (hF 30 0 (by decide)) rfl (hL (30, 0) 20 (50, 0) rfl (by decide)) (mz_aload_n d_Mo_doEarly_19 rfl (mz_getI (k := 29) cl_10 d_Mo_doEarly_20 (by decide) wf_Mo_137 rfl (hF 30 0 (by decide)) rfl (mz_iconst (-1 : Int32) d_Mo_doEarly_23 (by decide) (match (h21 M19 rfl) with | ⟨j28, h29, h30, h27⟩ => mz_iast j28 d_Mo_doEarly_24 (hF 50 0 (by decide)) rfl h29 h30 (let M25 : MzM := mz_si M19 (50, 0) j28 (-1 : Int32); (mz_aload_n d_Mo_doEarly_25 rfl (mz_getR (k := 17) (a := (47, 0)) cl_10 d_Mo_doEarly_26 (by decide) wf_Mo_80 rfl (hF 30 0 (by decide)) rfl (hL (30, 0) 17 (47, 0) rfl (by decide)) (mz_aload_n d_Mo_doEarly_29 rfl (mz_getI (k := 29) cl_10 d_Mo_doEarly_30 (by decide) wf_Mo_137 rfl (hF 30 0 (by decide)) rfl (mz_aload_n d_Mo_doEarly_33 rfl (mz_bipush (97 : Int32) d_Mo_doEarly_34 (by decide) (mz_bipush (110 : Int32) d_Mo_doEarly_36 (by decide) (mz_bipush (121 : Int32) d_Mo_doEarly_38 (by decide) (mz_callV (As := [.int (97 : Int32), .int (110 : Int32), .int (121 : Int32)]) (st := [.int (mz_i M25 (30, 0) 29), .ref (mz_ad B (47, 0))]) (hF 30 0 (by decide)) rfl (mzClOf cl_10) 0 0 d_Mo_doEarly_40 cs_Mo_says wl_Mo_239 wi_Mo_says wse_Mo_says (Nat.le_of_ble_eq_true rfl) (Nat.le_refl _) (Nat.le_refl _) (MzC.mono (tm_Mo_says (d := (d + 1)) hF  hL (h27 M25 rfl)) (fun r9 B9 M31 hq33 => by obtain ⟨rfl, hL32, v34, rfl, hq33⟩ := hq33; exact ⟨_, rfl, (mz_if_eq 50 d_Mo_doEarly_43 rfl (fun hc67 => (mz_aload_n d_Mo_doEarly_50 rfl (mz_bipush (97 : Int32) d_Mo_doEarly_51 (by decide) (mz_bipush (100 : Int32) d_Mo_doEarly_53 (by decide) (mz_bipush (109 : Int32) d_Mo_doEarly_55 (by decide) (mz_callV (As := [.int (97 : Int32), .int (100 : Int32), .int (109 : Int32)]) (st := [.int (mz_i M25 (30, 0) 29), .ref (mz_ad B (47, 0))]) (hF 30 0 (by decide)) rfl (mzClOf cl_10) 0 0 d_Mo_doEarly_57 cs_Mo_says wl_Mo_239 wi_Mo_says wse_Mo_says (Nat.le_of_ble_eq_true rfl) (Nat.le_refl _) (Nat.le_refl _) (MzC.mono (tm_Mo_says (d := (d + 1)) hF  hL32 (hq33.1 hc67)) (fun r9 B9 M35 hq37 => by obtain ⟨rfl, hL36, v38, rfl, hq37⟩ := hq37; exact ⟨_, rfl, (mz_if_eq 67 d_Mo_doEarly_60 rfl (fun hc57 => (mz_iconst (3 : Int32) d_Mo_doEarly_67 (by decide) (match (hq37.1 hc57) with | ⟨j42, h43, h44, h41⟩ => mz_iast j42 d_Mo_doEarly_68 (hF 47 0 (by decide)) rfl h43 h44 (let M39 : MzM := mz_si M35 (47, 0) j42 (3 : Int32); (mz_aload_n d_Mo_doEarly_69 rfl (mz_sipush (331 : Int32) d_Mo_doEarly_70 (by decide) (mz_callV (As := [.int (331 : Int32)]) (st := []) (hF 30 0 (by decide)) rfl (mzClOf cl_10) 0 0 d_Mo_doEarly_73 cs_Mo_answer wl_Mo_218 wi_Mo_answer wse_Mo_answer (Nat.le_of_ble_eq_true rfl) (Nat.le_refl _) (Nat.le_refl _) (MzC.mono (tm_Mo_answer (d := d) hF  hL36 (h41 M39 rfl)) (fun r9 B9 M45 hq47 => by obtain ⟨rfl, hL46, rfl, hq47⟩ := hq47; exact ⟨none, rfl, (mz_goto 207 d_Mo_doEarly_76 rfl (mz_vret d_Mo_doEarly_207 rfl ⟨rfl, hL46, rfl, hq47⟩))⟩))))))))) (fun hc57 => (mz_iconst (2 : Int32) d_Mo_doEarly_63 (by decide) (mz_goto 68 d_Mo_doEarly_64 rfl (match (hq37.2 hc57) with | ⟨j51, h52, h53, h50⟩ => mz_iast j51 d_Mo_doEarly_68 (hF 47 0 (by decide)) rfl h52 h53 (let M48 : MzM := mz_si M35 (47, 0) j51 (2 : Int32); (mz_aload_n d_Mo_doEarly_69 rfl (mz_sipush (331 : Int32) d_Mo_doEarly_70 (by decide) (mz_callV (As := [.int (331 : Int32)]) (st := []) (hF 30 0 (by decide)) rfl (mzClOf cl_10) 0 0 d_Mo_doEarly_73 cs_Mo_answer wl_Mo_218 wi_Mo_answer wse_Mo_answer (Nat.le_of_ble_eq_true rfl) (Nat.le_refl _) (Nat.le_refl _) (MzC.mono (tm_Mo_answer (d := d) hF  hL36 (h50 M48 rfl)) (fun r9 B9 M54 hq56 => by obtain ⟨rfl, hL55, rfl, hq56⟩ := hq56; exact ⟨none, rfl, (mz_goto 207 d_Mo_doEarly_76 rfl (mz_vret d_Mo_doEarly_207 rfl ⟨rfl, hL55, rfl, hq56⟩))⟩)))))))))))⟩)))))))) (fun hc67 => (mz_iconst (1 : Int32) d_Mo_doEarly_46 (by decide) (mz_goto 68 d_Mo_doEarly_47 rfl (match (hq33.2 hc67) with | ⟨j61, h62, h63, h60⟩ => mz_iast j61 d_Mo_doEarly_68 (hF 47 0 (by decide)) rfl h62 h63 (let M58 : MzM := mz_si M31 (47, 0) j61 (1 : Int32); (mz_aload_n d_Mo_doEarly_69 rfl (mz_sipush (331 : Int32) d_Mo_doEarly_70 (by decide) (mz_callV (As := [.int (331 : Int32)]) (st := []) (hF 30 0 (by decide)) rfl (mzClOf cl_10) 0 0 d_Mo_doEarly_73 cs_Mo_answer wl_Mo_218 wi_Mo_answer wse_Mo_answer (Nat.le_of_ble_eq_true rfl) (Nat.le_refl _) (Nat.le_refl _) (MzC.mono (tm_Mo_answer (d := d) hF  hL32 (h60 M58 rfl)) (fun r9 B9 M64 hq66 => by obtain ⟨rfl, hL65, rfl, hq66⟩ := hq66; exact ⟨none, rfl, (mz_goto 207 d_Mo_doEarly_76 rfl (mz_vret d_Mo_doEarly_207 rfl ⟨rfl, hL65, rfl, hq66⟩))⟩)))))))))))⟩))))))))))))))))))))))))))))))
def mm_Mo_nameAt : MzT := (⟨"ParcelLineModel", "nameAt", "(II)I"⟩, prog_14_method_37_code, 5, (Option.some Jvm.ClassFile.FieldType.int))
theorem cs_Mo_nameAt {mm : MzT} : mzCall mm mm_Mo_nameAt 2 := ⟨wn_Mo, wco_Mo_nameAt, by decide +kernel, by decide⟩
theorem d_Mo_nameAt_0 : decode mm_Mo_nameAt.2.1 0 = .ok (.iconst 0, 1) := by decide +kernel
theorem d_Mo_nameAt_1 : decode mm_Mo_nameAt.2.1 1 = .ok (.istore_n 3, 1) := by decide +kernel
theorem d_Mo_nameAt_2 : decode mm_Mo_nameAt.2.1 2 = .ok (.iload_n 2, 1) := by decide +kernel
theorem d_Mo_nameAt_3 : decode mm_Mo_nameAt.2.1 3 = .ok (.iconst 1, 1) := by decide +kernel
theorem d_Mo_nameAt_4 : decode mm_Mo_nameAt.2.1 4 = .ok (.isub, 1) := by decide +kernel
theorem d_Mo_nameAt_5 : decode mm_Mo_nameAt.2.1 5 = .ok (.istore 4, 2) := by decide +kernel
theorem d_Mo_nameAt_7 : decode mm_Mo_nameAt.2.1 7 = .ok (.iload 4, 2) := by decide +kernel
theorem d_Mo_nameAt_9 : decode mm_Mo_nameAt.2.1 9 = .ok (.iload_n 1, 1) := by decide +kernel
theorem d_Mo_nameAt_10 : decode mm_Mo_nameAt.2.1 10 = .ok (.if_icmp .lt 22, 3) := by decide +kernel
theorem d_Mo_nameAt_13 : decode mm_Mo_nameAt.2.1 13 = .ok (.sipush 128, 3) := by decide +kernel
theorem d_Mo_nameAt_16 : decode mm_Mo_nameAt.2.1 16 = .ok (.iload_n 3, 1) := by decide +kernel
theorem d_Mo_nameAt_17 : decode mm_Mo_nameAt.2.1 17 = .ok (.imul, 1) := by decide +kernel
theorem d_Mo_nameAt_18 : decode mm_Mo_nameAt.2.1 18 = .ok (.aload_n 0, 1) := by decide +kernel
theorem d_Mo_nameAt_19 : decode mm_Mo_nameAt.2.1 19 = .ok (.iload 4, 2) := by decide +kernel
theorem d_Mo_nameAt_21 : decode mm_Mo_nameAt.2.1 21 = .ok (.invokevirtual 189, 3) := by decide +kernel
theorem d_Mo_nameAt_24 : decode mm_Mo_nameAt.2.1 24 = .ok (.iadd, 1) := by decide +kernel
theorem d_Mo_nameAt_25 : decode mm_Mo_nameAt.2.1 25 = .ok (.istore_n 3, 1) := by decide +kernel
theorem d_Mo_nameAt_26 : decode mm_Mo_nameAt.2.1 26 = .ok (.iinc 4 (-1), 3) := by decide +kernel
theorem d_Mo_nameAt_29 : decode mm_Mo_nameAt.2.1 29 = .ok (.goto (-22), 3) := by decide +kernel
theorem d_Mo_nameAt_32 : decode mm_Mo_nameAt.2.1 32 = .ok (.iload_n 3, 1) := by decide +kernel
theorem d_Mo_nameAt_33 : decode mm_Mo_nameAt.2.1 33 = .ok (.ireturn, 1) := by decide +kernel
def wp_Mo_nameAt_7   (K : Int32 → MzM → Prop) : Nat → Int32 → Int32 → Int32 → MzM → Prop
  | 0, _, _, _, _ => False
  | r0 + 1, y1, y3, y4, M => ((y4 < y1 → K y3 M) ∧ (¬ y4 < y1 → wp_Mo_ch  y4 M (fun v6 M3 => (wp_Mo_nameAt_7   K r0) y1 (((128 : Int32) * y3) + v6) (y4 + (-1 : Int32)) M3)))
def wp_Mo_nameAt  (a1 : Int32) (a2 : Int32) (M : MzM) (K : Int32 → MzM → Prop) : Prop := (∃ r1 : Nat, wp_Mo_nameAt_7   K r1 a1 (0 : Int32) (a2 - (1 : Int32)) M)
theorem tm_Mo_nameAt_7 {G : MzG} {B : MzB} {d : Nat} {K : Int32 → MzM → Prop} (hF : mzLive B)     : ∀ (r0 : Nat) (y1 : Int32) (y3 : Int32) (y4 : Int32) (M : MzM), mzLnk M → wp_Mo_nameAt_7   K r0 y1 y3 y4 M → MzS G B (d + 1) mm_Mo_nameAt M (0, 0) (mzK1 B K) 7 [(0, .ref (mz_ad B (30, 0))), (1, .int y1), (3, .int y3), (4, .int y4)] [] := by
  intro r0
  induction r0 with
  | zero => intro y1 y3 y4 M hL h; exact False.elim h
  | succ r0 hH7 =>
    intro y1 y3 y4 M hL h
    unfold wp_Mo_nameAt_7 at h
    exact (mz_iload d_Mo_nameAt_7 rfl (mz_iload_n d_Mo_nameAt_9 rfl (mz_icmp_lt 32 d_Mo_nameAt_10 rfl (fun hc7 => (mz_iload_n d_Mo_nameAt_32 rfl (mz_iret .int d_Mo_nameAt_33 rfl rfl ⟨rfl, hL, _, rfl, (h.1 hc7)⟩))) (fun hc7 => (mz_sipush (128 : Int32) d_Mo_nameAt_13 (by decide) (mz_iload_n d_Mo_nameAt_16 rfl (mz_imul d_Mo_nameAt_17 (mz_aload_n d_Mo_nameAt_18 rfl (mz_iload d_Mo_nameAt_19 rfl (mz_callV (As := [.int y4]) (st := [.int ((128 : Int32) * y3)]) (hF 30 0 (by decide)) rfl (mzClOf cl_10) 0 0 d_Mo_nameAt_21 cs_Mo_ch wl_Mo_189 wi_Mo_ch wse_Mo_ch (Nat.le_of_ble_eq_true rfl) (Nat.le_refl _) (Nat.le_refl _) (MzC.mono (tm_Mo_ch (d := d) hF  hL (h.2 hc7)) (fun r9 B9 M3 hq5 => by obtain ⟨rfl, hL4, v6, rfl, hq5⟩ := hq5; exact ⟨_, rfl, (mz_iadd d_Mo_nameAt_24 (mz_istore_n d_Mo_nameAt_25 (by decide) (mz_iinc (y4 + (-1 : Int32)) d_Mo_nameAt_26 rfl (by decide) rfl (mz_goto 7 d_Mo_nameAt_29 rfl (MzS.loc [(0, .ref (mz_ad B (30, 0))), (1, .int y1), (3, .int (((128 : Int32) * y3) + v6)), (4, .int (y4 + (-1 : Int32)))] ⟨rfl, rfl, rfl, rfl, trivial⟩ (hH7 y1 (((128 : Int32) * y3) + v6) (y4 + (-1 : Int32)) M3 hL4 hq5))))))⟩))))))))))))
theorem tm_Mo_nameAt {G : MzG} {B : MzB} {d : Nat} {K : Int32 → MzM → Prop} (hF : mzLive B)   {a1 : Int32} {a2 : Int32} {M : MzM} (hL : mzLnk M) (h : wp_Mo_nameAt  a1 a2 M K) : MzC G B (d + 1) mm_Mo_nameAt [.ref (mz_ad B (30, 0)), .int a1, .int a2] M (0, 0) (mzK1 B K) := by
  unfold wp_Mo_nameAt at h
  exact MzC.of rfl (Nat.le_of_ble_eq_true rfl) (show MzS G B (d + 1) mm_Mo_nameAt M (0, 0) (mzK1 B K) 0 [(0, .ref (mz_ad B (30, 0))), (1, .int a1), (2, .int a2)] [] from (mz_iconst (0 : Int32) d_Mo_nameAt_0 (by decide) (mz_istore_n d_Mo_nameAt_1 (by decide) (mz_iload_n d_Mo_nameAt_2 rfl (mz_iconst (1 : Int32) d_Mo_nameAt_3 (by decide) (mz_isub d_Mo_nameAt_4 (mz_istore d_Mo_nameAt_5 (by decide) (MzS.loc [(0, .ref (mz_ad B (30, 0))), (1, .int a1), (3, .int (0 : Int32)), (4, .int (a2 - (1 : Int32)))] ⟨rfl, rfl, rfl, rfl, trivial⟩ (match h with | ⟨r1, h2⟩ => tm_Mo_nameAt_7 hF   r1 a1 (0 : Int32) (a2 - (1 : Int32)) M hL h2)))))))))
def mm_Mo_child : MzT := (⟨"ParcelLineModel", "child", "(II)I"⟩, prog_14_method_36_code, 4, (Option.some Jvm.ClassFile.FieldType.int))
theorem cs_Mo_child {mm : MzT} : mzCall mm mm_Mo_child 2 := ⟨wn_Mo, wco_Mo_child, by decide +kernel, by decide⟩
theorem d_Mo_child_0 : decode mm_Mo_child.2.1 0 = .ok (.iconst 1, 1) := by decide +kernel
theorem d_Mo_child_1 : decode mm_Mo_child.2.1 1 = .ok (.istore_n 3, 1) := by decide +kernel
theorem d_Mo_child_2 : decode mm_Mo_child.2.1 2 = .ok (.iload_n 3, 1) := by decide +kernel
theorem d_Mo_child_3 : decode mm_Mo_child.2.1 3 = .ok (.bipush 16, 2) := by decide +kernel
theorem d_Mo_child_5 : decode mm_Mo_child.2.1 5 = .ok (.if_icmp .ge 40, 3) := by decide +kernel
theorem d_Mo_child_8 : decode mm_Mo_child.2.1 8 = .ok (.aload_n 0, 1) := by decide +kernel
theorem d_Mo_child_9 : decode mm_Mo_child.2.1 9 = .ok (.getfield 34, 3) := by decide +kernel
theorem d_Mo_child_12 : decode mm_Mo_child.2.1 12 = .ok (.iload_n 3, 1) := by decide +kernel
theorem d_Mo_child_13 : decode mm_Mo_child.2.1 13 = .ok (.baload, 1) := by decide +kernel
theorem d_Mo_child_14 : decode mm_Mo_child.2.1 14 = .ok (.ifCond .eq 25, 3) := by decide +kernel
theorem d_Mo_child_17 : decode mm_Mo_child.2.1 17 = .ok (.aload_n 0, 1) := by decide +kernel
theorem d_Mo_child_18 : decode mm_Mo_child.2.1 18 = .ok (.getfield 41, 3) := by decide +kernel
theorem d_Mo_child_21 : decode mm_Mo_child.2.1 21 = .ok (.iload_n 3, 1) := by decide +kernel
theorem d_Mo_child_22 : decode mm_Mo_child.2.1 22 = .ok (.iaload, 1) := by decide +kernel
theorem d_Mo_child_23 : decode mm_Mo_child.2.1 23 = .ok (.iload_n 1, 1) := by decide +kernel
theorem d_Mo_child_24 : decode mm_Mo_child.2.1 24 = .ok (.if_icmp .ne 15, 3) := by decide +kernel
theorem d_Mo_child_27 : decode mm_Mo_child.2.1 27 = .ok (.aload_n 0, 1) := by decide +kernel
theorem d_Mo_child_28 : decode mm_Mo_child.2.1 28 = .ok (.getfield 44, 3) := by decide +kernel
theorem d_Mo_child_31 : decode mm_Mo_child.2.1 31 = .ok (.iload_n 3, 1) := by decide +kernel
theorem d_Mo_child_32 : decode mm_Mo_child.2.1 32 = .ok (.iaload, 1) := by decide +kernel
theorem d_Mo_child_33 : decode mm_Mo_child.2.1 33 = .ok (.iload_n 2, 1) := by decide +kernel
theorem d_Mo_child_34 : decode mm_Mo_child.2.1 34 = .ok (.if_icmp .ne 5, 3) := by decide +kernel
theorem d_Mo_child_37 : decode mm_Mo_child.2.1 37 = .ok (.iload_n 3, 1) := by decide +kernel
theorem d_Mo_child_38 : decode mm_Mo_child.2.1 38 = .ok (.ireturn, 1) := by decide +kernel
theorem d_Mo_child_39 : decode mm_Mo_child.2.1 39 = .ok (.iinc 3 1, 3) := by decide +kernel
theorem d_Mo_child_42 : decode mm_Mo_child.2.1 42 = .ok (.goto (-40), 3) := by decide +kernel
theorem d_Mo_child_45 : decode mm_Mo_child.2.1 45 = .ok (.iconst (-1), 1) := by decide +kernel
theorem d_Mo_child_46 : decode mm_Mo_child.2.1 46 = .ok (.ireturn, 1) := by decide +kernel
def wp_Mo_child_39  (H2 : Int32 → Int32 → Int32 → MzM → Prop) (K : Int32 → MzM → Prop) (y1 : Int32) (y2 : Int32) (y3 : Int32) (M : MzM) : Prop := H2 y1 y2 (y3 + (1 : Int32)) M
def wp_Mo_child_2   (K : Int32 → MzM → Prop) : Nat → Int32 → Int32 → Int32 → MzM → Prop
  | 0, _, _, _, _ => False
  | r0 + 1, y1, y2, y3, M => (((16 : Int32) ≤ y3 → K (-1 : Int32) M) ∧ (¬ (16 : Int32) ≤ y3 → (∃ j3 : Nat, y3.toInt = (j3 : Int) ∧ j3 < 16 ∧ (((mz_i M (32, 0) j3) = 0 → wp_Mo_child_39  (wp_Mo_child_2   K r0) K y1 y2 y3 M) ∧ (¬ (mz_i M (32, 0) j3) = 0 → (∃ j7 : Nat, y3.toInt = (j7 : Int) ∧ j7 < 16 ∧ ((¬ (mz_i M (34, 0) j7) = y1 → wp_Mo_child_39  (wp_Mo_child_2   K r0) K y1 y2 y3 M) ∧ ((mz_i M (34, 0) j7) = y1 → (∃ j11 : Nat, y3.toInt = (j11 : Int) ∧ j11 < 16 ∧ ((¬ (mz_i M (35, 0) j11) = y2 → wp_Mo_child_39  (wp_Mo_child_2   K r0) K y1 y2 y3 M) ∧ ((mz_i M (35, 0) j11) = y2 → K y3 M)))))))))))
def wp_Mo_child  (a1 : Int32) (a2 : Int32) (M : MzM) (K : Int32 → MzM → Prop) : Prop := (∃ r1 : Nat, wp_Mo_child_2   K r1 a1 a2 (1 : Int32) M)
theorem tm_Mo_child_39 {G : MzG} {B : MzB} {d : Nat} {K : Int32 → MzM → Prop} (hF : mzLive B)   {H2 : Int32 → Int32 → Int32 → MzM → Prop} (hH2 : ∀ (y1 : Int32) (y2 : Int32) (y3 : Int32) (M : MzM), mzLnk M → H2 y1 y2 y3 M → MzS G B d mm_Mo_child M (0, 0) (mzK1 B K) 2 [(0, .ref (mz_ad B (30, 0))), (1, .int y1), (2, .int y2), (3, .int y3)] []) (y1 : Int32) (y2 : Int32) (y3 : Int32) (M : MzM) (hL : mzLnk M) (h : wp_Mo_child_39  H2 K y1 y2 y3 M) : MzS G B d mm_Mo_child M (0, 0) (mzK1 B K) 39 [(0, .ref (mz_ad B (30, 0))), (1, .int y1), (2, .int y2), (3, .int y3)] [] := by
  unfold wp_Mo_child_39 at h
  exact (mz_iinc (y3 + (1 : Int32)) d_Mo_child_39 rfl (by decide) rfl (mz_goto 2 d_Mo_child_42 rfl (MzS.loc [(0, .ref (mz_ad B (30, 0))), (1, .int y1), (2, .int y2), (3, .int (y3 + (1 : Int32)))] ⟨rfl, rfl, rfl, rfl, trivial⟩ (hH2 y1 y2 (y3 + (1 : Int32)) M hL h))))
theorem tm_Mo_child_2 {G : MzG} {B : MzB} {d : Nat} {K : Int32 → MzM → Prop} (hF : mzLive B)     : ∀ (r0 : Nat) (y1 : Int32) (y2 : Int32) (y3 : Int32) (M : MzM), mzLnk M → wp_Mo_child_2   K r0 y1 y2 y3 M → MzS G B d mm_Mo_child M (0, 0) (mzK1 B K) 2 [(0, .ref (mz_ad B (30, 0))), (1, .int y1), (2, .int y2), (3, .int y3)] [] := by
  intro r0
  induction r0 with
  | zero => intro y1 y2 y3 M hL h; exact False.elim h
  | succ r0 hH2 =>
    intro y1 y2 y3 M hL h
    unfold wp_Mo_child_2 at h
    exact (mz_iload_n d_Mo_child_2 rfl (mz_bipush (16 : Int32) d_Mo_child_3 (by decide) (mz_icmp_ge 45 d_Mo_child_5 rfl (fun hc18 => (mz_iconst (-1 : Int32) d_Mo_child_45 (by decide) (mz_iret .int d_Mo_child_46 rfl rfl ⟨rfl, hL, _, rfl, (h.1 hc18)⟩))) (fun hc18 => (mz_aload_n d_Mo_child_8 rfl (mz_getR (k := 2) (a := (32, 0)) cl_10 d_Mo_child_9 (by decide) wf_Mo_34 rfl (hF 30 0 (by decide)) rfl (hL (30, 0) 2 (32, 0) rfl (by decide)) (mz_iload_n d_Mo_child_12 rfl (match (h.2 hc18) with | ⟨j3, h4, h5, h6⟩ => mz_zald j3 d_Mo_child_13 (hF 32 0 (by decide)) rfl h4 h5 (mz_if_eq 39 d_Mo_child_14 rfl (fun hc17 => (MzS.loc [(0, .ref (mz_ad B (30, 0))), (1, .int y1), (2, .int y2), (3, .int y3)] ⟨rfl, rfl, rfl, rfl, trivial⟩ (tm_Mo_child_39 hF  hH2 y1 y2 y3 M hL (h6.1 hc17)))) (fun hc17 => (mz_aload_n d_Mo_child_17 rfl (mz_getR (k := 4) (a := (34, 0)) cl_10 d_Mo_child_18 (by decide) wf_Mo_41 rfl (hF 30 0 (by decide)) rfl (hL (30, 0) 4 (34, 0) rfl (by decide)) (mz_iload_n d_Mo_child_21 rfl (match (h6.2 hc17) with | ⟨j7, h8, h9, h10⟩ => mz_iald j7 d_Mo_child_22 (hF 34 0 (by decide)) rfl h8 h9 (mz_iload_n d_Mo_child_23 rfl (mz_icmp_ne 39 d_Mo_child_24 rfl (fun hc16 => (MzS.loc [(0, .ref (mz_ad B (30, 0))), (1, .int y1), (2, .int y2), (3, .int y3)] ⟨rfl, rfl, rfl, rfl, trivial⟩ (tm_Mo_child_39 hF  hH2 y1 y2 y3 M hL (h10.1 hc16)))) (fun hc16 => (mz_aload_n d_Mo_child_27 rfl (mz_getR (k := 5) (a := (35, 0)) cl_10 d_Mo_child_28 (by decide) wf_Mo_44 rfl (hF 30 0 (by decide)) rfl (hL (30, 0) 5 (35, 0) rfl (by decide)) (mz_iload_n d_Mo_child_31 rfl (match (h10.2 hc16) with | ⟨j11, h12, h13, h14⟩ => mz_iald j11 d_Mo_child_32 (hF 35 0 (by decide)) rfl h12 h13 (mz_iload_n d_Mo_child_33 rfl (mz_icmp_ne 39 d_Mo_child_34 rfl (fun hc15 => (MzS.loc [(0, .ref (mz_ad B (30, 0))), (1, .int y1), (2, .int y2), (3, .int y3)] ⟨rfl, rfl, rfl, rfl, trivial⟩ (tm_Mo_child_39 hF  hH2 y1 y2 y3 M hL (h14.1 hc15)))) (fun hc15 => (mz_iload_n d_Mo_child_37 rfl (mz_iret .int d_Mo_child_38 rfl rfl ⟨rfl, hL, _, rfl, (h14.2 hc15)⟩))))))))))))))))))))))))))
theorem tm_Mo_child {G : MzG} {B : MzB} {d : Nat} {K : Int32 → MzM → Prop} (hF : mzLive B)   {a1 : Int32} {a2 : Int32} {M : MzM} (hL : mzLnk M) (h : wp_Mo_child  a1 a2 M K) : MzC G B d mm_Mo_child [.ref (mz_ad B (30, 0)), .int a1, .int a2] M (0, 0) (mzK1 B K) := by
  unfold wp_Mo_child at h
  exact MzC.of rfl (Nat.le_of_ble_eq_true rfl) (show MzS G B d mm_Mo_child M (0, 0) (mzK1 B K) 0 [(0, .ref (mz_ad B (30, 0))), (1, .int a1), (2, .int a2)] [] from (mz_iconst (1 : Int32) d_Mo_child_0 (by decide) (mz_istore_n d_Mo_child_1 (by decide) (MzS.loc [(0, .ref (mz_ad B (30, 0))), (1, .int a1), (2, .int a2), (3, .int (1 : Int32))] ⟨rfl, rfl, rfl, rfl, trivial⟩ (match h with | ⟨r1, h2⟩ => tm_Mo_child_2 hF   r1 a1 a2 (1 : Int32) M hL h2)))))
def mm_Mo_follow : MzT := (⟨"ParcelLineModel", "follow", "()V"⟩, prog_14_method_38_code, 6, (Option.none : Option Jvm.ClassFile.FieldType))
theorem cs_Mo_follow {mm : MzT} : mzCall mm mm_Mo_follow 0 := ⟨wn_Mo, wco_Mo_follow, by decide +kernel, by decide⟩
theorem d_Mo_follow_0 : decode mm_Mo_follow.2.1 0 = .ok (.aload_n 0, 1) := by decide +kernel
theorem d_Mo_follow_1 : decode mm_Mo_follow.2.1 1 = .ok (.aload_n 0, 1) := by decide +kernel
theorem d_Mo_follow_2 : decode mm_Mo_follow.2.1 2 = .ok (.getfield 192, 3) := by decide +kernel
theorem d_Mo_follow_5 : decode mm_Mo_follow.2.1 5 = .ok (.invokevirtual 189, 3) := by decide +kernel
theorem d_Mo_follow_8 : decode mm_Mo_follow.2.1 8 = .ok (.bipush 47, 2) := by decide +kernel
theorem d_Mo_follow_10 : decode mm_Mo_follow.2.1 10 = .ok (.if_icmp .ne 7, 3) := by decide +kernel
theorem d_Mo_follow_13 : decode mm_Mo_follow.2.1 13 = .ok (.iconst 1, 1) := by decide +kernel
theorem d_Mo_follow_14 : decode mm_Mo_follow.2.1 14 = .ok (.goto 4, 3) := by decide +kernel
theorem d_Mo_follow_17 : decode mm_Mo_follow.2.1 17 = .ok (.iconst 0, 1) := by decide +kernel
theorem d_Mo_follow_18 : decode mm_Mo_follow.2.1 18 = .ok (.istore_n 1, 1) := by decide +kernel
theorem d_Mo_follow_19 : decode mm_Mo_follow.2.1 19 = .ok (.iload_n 1, 1) := by decide +kernel
theorem d_Mo_follow_20 : decode mm_Mo_follow.2.1 20 = .ok (.ifCond .eq 12, 3) := by decide +kernel
theorem d_Mo_follow_23 : decode mm_Mo_follow.2.1 23 = .ok (.aload_n 0, 1) := by decide +kernel
theorem d_Mo_follow_24 : decode mm_Mo_follow.2.1 24 = .ok (.getfield 192, 3) := by decide +kernel
theorem d_Mo_follow_27 : decode mm_Mo_follow.2.1 27 = .ok (.iconst 1, 1) := by decide +kernel
theorem d_Mo_follow_28 : decode mm_Mo_follow.2.1 28 = .ok (.iadd, 1) := by decide +kernel
theorem d_Mo_follow_29 : decode mm_Mo_follow.2.1 29 = .ok (.goto 7, 3) := by decide +kernel
theorem d_Mo_follow_32 : decode mm_Mo_follow.2.1 32 = .ok (.aload_n 0, 1) := by decide +kernel
theorem d_Mo_follow_33 : decode mm_Mo_follow.2.1 33 = .ok (.getfield 192, 3) := by decide +kernel
theorem d_Mo_follow_36 : decode mm_Mo_follow.2.1 36 = .ok (.istore_n 2, 1) := by decide +kernel
theorem d_Mo_follow_37 : decode mm_Mo_follow.2.1 37 = .ok (.aload_n 0, 1) := by decide +kernel
theorem d_Mo_follow_38 : decode mm_Mo_follow.2.1 38 = .ok (.iload_n 1, 1) := by decide +kernel
theorem d_Mo_follow_39 : decode mm_Mo_follow.2.1 39 = .ok (.ifCond .eq 7, 3) := by decide +kernel
theorem d_Mo_follow_42 : decode mm_Mo_follow.2.1 42 = .ok (.iconst 0, 1) := by decide +kernel
theorem d_Mo_follow_43 : decode mm_Mo_follow.2.1 43 = .ok (.goto 12, 3) := by decide +kernel
theorem d_Mo_follow_46 : decode mm_Mo_follow.2.1 46 = .ok (.aload_n 0, 1) := by decide +kernel
theorem d_Mo_follow_47 : decode mm_Mo_follow.2.1 47 = .ok (.getfield 89, 3) := by decide +kernel
theorem d_Mo_follow_50 : decode mm_Mo_follow.2.1 50 = .ok (.aload_n 0, 1) := by decide +kernel
theorem d_Mo_follow_51 : decode mm_Mo_follow.2.1 51 = .ok (.getfield 137, 3) := by decide +kernel
theorem d_Mo_follow_54 : decode mm_Mo_follow.2.1 54 = .ok (.iaload, 1) := by decide +kernel
theorem d_Mo_follow_55 : decode mm_Mo_follow.2.1 55 = .ok (.putfield 249, 3) := by decide +kernel
theorem d_Mo_follow_58 : decode mm_Mo_follow.2.1 58 = .ok (.aload_n 0, 1) := by decide +kernel
theorem d_Mo_follow_59 : decode mm_Mo_follow.2.1 59 = .ok (.iconst (-1), 1) := by decide +kernel
theorem d_Mo_follow_60 : decode mm_Mo_follow.2.1 60 = .ok (.putfield 252, 3) := by decide +kernel
theorem d_Mo_follow_63 : decode mm_Mo_follow.2.1 63 = .ok (.iload_n 2, 1) := by decide +kernel
theorem d_Mo_follow_64 : decode mm_Mo_follow.2.1 64 = .ok (.aload_n 0, 1) := by decide +kernel
theorem d_Mo_follow_65 : decode mm_Mo_follow.2.1 65 = .ok (.getfield 62, 3) := by decide +kernel
theorem d_Mo_follow_68 : decode mm_Mo_follow.2.1 68 = .ok (.aload_n 0, 1) := by decide +kernel
theorem d_Mo_follow_69 : decode mm_Mo_follow.2.1 69 = .ok (.getfield 137, 3) := by decide +kernel
theorem d_Mo_follow_72 : decode mm_Mo_follow.2.1 72 = .ok (.iaload, 1) := by decide +kernel
theorem d_Mo_follow_73 : decode mm_Mo_follow.2.1 73 = .ok (.if_icmp .ge 142, 3) := by decide +kernel
theorem d_Mo_follow_76 : decode mm_Mo_follow.2.1 76 = .ok (.aload_n 0, 1) := by decide +kernel
theorem d_Mo_follow_77 : decode mm_Mo_follow.2.1 77 = .ok (.getfield 249, 3) := by decide +kernel
theorem d_Mo_follow_80 : decode mm_Mo_follow.2.1 80 = .ok (.ifCond .lt 135, 3) := by decide +kernel
theorem d_Mo_follow_83 : decode mm_Mo_follow.2.1 83 = .ok (.aload_n 0, 1) := by decide +kernel
theorem d_Mo_follow_84 : decode mm_Mo_follow.2.1 84 = .ok (.iload_n 2, 1) := by decide +kernel
theorem d_Mo_follow_85 : decode mm_Mo_follow.2.1 85 = .ok (.invokevirtual 198, 3) := by decide +kernel
theorem d_Mo_follow_88 : decode mm_Mo_follow.2.1 88 = .ok (.istore_n 3, 1) := by decide +kernel
theorem d_Mo_follow_89 : decode mm_Mo_follow.2.1 89 = .ok (.aload_n 0, 1) := by decide +kernel
theorem d_Mo_follow_90 : decode mm_Mo_follow.2.1 90 = .ok (.getfield 249, 3) := by decide +kernel
theorem d_Mo_follow_93 : decode mm_Mo_follow.2.1 93 = .ok (.istore 4, 2) := by decide +kernel
theorem d_Mo_follow_95 : decode mm_Mo_follow.2.1 95 = .ok (.aload_n 0, 1) := by decide +kernel
theorem d_Mo_follow_96 : decode mm_Mo_follow.2.1 96 = .ok (.iload_n 2, 1) := by decide +kernel
theorem d_Mo_follow_97 : decode mm_Mo_follow.2.1 97 = .ok (.invokevirtual 189, 3) := by decide +kernel
theorem d_Mo_follow_100 : decode mm_Mo_follow.2.1 100 = .ok (.bipush 46, 2) := by decide +kernel
theorem d_Mo_follow_102 : decode mm_Mo_follow.2.1 102 = .ok (.if_icmp .ne 7, 3) := by decide +kernel
theorem d_Mo_follow_105 : decode mm_Mo_follow.2.1 105 = .ok (.iconst 1, 1) := by decide +kernel
theorem d_Mo_follow_106 : decode mm_Mo_follow.2.1 106 = .ok (.goto 4, 3) := by decide +kernel
theorem d_Mo_follow_109 : decode mm_Mo_follow.2.1 109 = .ok (.iconst 0, 1) := by decide +kernel
theorem d_Mo_follow_110 : decode mm_Mo_follow.2.1 110 = .ok (.istore 5, 2) := by decide +kernel
theorem d_Mo_follow_112 : decode mm_Mo_follow.2.1 112 = .ok (.aload_n 0, 1) := by decide +kernel
theorem d_Mo_follow_113 : decode mm_Mo_follow.2.1 113 = .ok (.getfield 38, 3) := by decide +kernel
theorem d_Mo_follow_116 : decode mm_Mo_follow.2.1 116 = .ok (.iload 4, 2) := by decide +kernel
theorem d_Mo_follow_118 : decode mm_Mo_follow.2.1 118 = .ok (.baload, 1) := by decide +kernel
theorem d_Mo_follow_119 : decode mm_Mo_follow.2.1 119 = .ok (.ifCond .eq 11, 3) := by decide +kernel
theorem d_Mo_follow_122 : decode mm_Mo_follow.2.1 122 = .ok (.aload_n 0, 1) := by decide +kernel
theorem d_Mo_follow_123 : decode mm_Mo_follow.2.1 123 = .ok (.iconst (-1), 1) := by decide +kernel
theorem d_Mo_follow_124 : decode mm_Mo_follow.2.1 124 = .ok (.putfield 249, 3) := by decide +kernel
theorem d_Mo_follow_127 : decode mm_Mo_follow.2.1 127 = .ok (.goto 81, 3) := by decide +kernel
theorem d_Mo_follow_130 : decode mm_Mo_follow.2.1 130 = .ok (.iload 5, 2) := by decide +kernel
theorem d_Mo_follow_132 : decode mm_Mo_follow.2.1 132 = .ok (.ifCond .eq 26, 3) := by decide +kernel
theorem d_Mo_follow_135 : decode mm_Mo_follow.2.1 135 = .ok (.aload_n 0, 1) := by decide +kernel
theorem d_Mo_follow_136 : decode mm_Mo_follow.2.1 136 = .ok (.iload 4, 2) := by decide +kernel
theorem d_Mo_follow_138 : decode mm_Mo_follow.2.1 138 = .ok (.ifCond .ne 7, 3) := by decide +kernel
theorem d_Mo_follow_141 : decode mm_Mo_follow.2.1 141 = .ok (.iconst 0, 1) := by decide +kernel
theorem d_Mo_follow_142 : decode mm_Mo_follow.2.1 142 = .ok (.goto 10, 3) := by decide +kernel
theorem d_Mo_follow_145 : decode mm_Mo_follow.2.1 145 = .ok (.aload_n 0, 1) := by decide +kernel
theorem d_Mo_follow_146 : decode mm_Mo_follow.2.1 146 = .ok (.getfield 41, 3) := by decide +kernel
theorem d_Mo_follow_149 : decode mm_Mo_follow.2.1 149 = .ok (.iload 4, 2) := by decide +kernel
theorem d_Mo_follow_151 : decode mm_Mo_follow.2.1 151 = .ok (.iaload, 1) := by decide +kernel
theorem d_Mo_follow_152 : decode mm_Mo_follow.2.1 152 = .ok (.putfield 249, 3) := by decide +kernel
theorem d_Mo_follow_155 : decode mm_Mo_follow.2.1 155 = .ok (.goto 53, 3) := by decide +kernel
theorem d_Mo_follow_158 : decode mm_Mo_follow.2.1 158 = .ok (.aload_n 0, 1) := by decide +kernel
theorem d_Mo_follow_159 : decode mm_Mo_follow.2.1 159 = .ok (.aload_n 0, 1) := by decide +kernel
theorem d_Mo_follow_160 : decode mm_Mo_follow.2.1 160 = .ok (.iload_n 2, 1) := by decide +kernel
theorem d_Mo_follow_161 : decode mm_Mo_follow.2.1 161 = .ok (.iload_n 3, 1) := by decide +kernel
theorem d_Mo_follow_162 : decode mm_Mo_follow.2.1 162 = .ok (.invokevirtual 255, 3) := by decide +kernel
theorem d_Mo_follow_165 : decode mm_Mo_follow.2.1 165 = .ok (.putfield 258, 3) := by decide +kernel
theorem d_Mo_follow_168 : decode mm_Mo_follow.2.1 168 = .ok (.aload_n 0, 1) := by decide +kernel
theorem d_Mo_follow_169 : decode mm_Mo_follow.2.1 169 = .ok (.aload_n 0, 1) := by decide +kernel
theorem d_Mo_follow_170 : decode mm_Mo_follow.2.1 170 = .ok (.iload 4, 2) := by decide +kernel
theorem d_Mo_follow_172 : decode mm_Mo_follow.2.1 172 = .ok (.aload_n 0, 1) := by decide +kernel
theorem d_Mo_follow_173 : decode mm_Mo_follow.2.1 173 = .ok (.getfield 258, 3) := by decide +kernel
theorem d_Mo_follow_176 : decode mm_Mo_follow.2.1 176 = .ok (.invokevirtual 261, 3) := by decide +kernel
theorem d_Mo_follow_179 : decode mm_Mo_follow.2.1 179 = .ok (.putfield 249, 3) := by decide +kernel
theorem d_Mo_follow_182 : decode mm_Mo_follow.2.1 182 = .ok (.aload_n 0, 1) := by decide +kernel
theorem d_Mo_follow_183 : decode mm_Mo_follow.2.1 183 = .ok (.getfield 249, 3) := by decide +kernel
theorem d_Mo_follow_186 : decode mm_Mo_follow.2.1 186 = .ok (.ifCond .ge 22, 3) := by decide +kernel
theorem d_Mo_follow_189 : decode mm_Mo_follow.2.1 189 = .ok (.iload_n 3, 1) := by decide +kernel
theorem d_Mo_follow_190 : decode mm_Mo_follow.2.1 190 = .ok (.aload_n 0, 1) := by decide +kernel
theorem d_Mo_follow_191 : decode mm_Mo_follow.2.1 191 = .ok (.getfield 62, 3) := by decide +kernel
theorem d_Mo_follow_194 : decode mm_Mo_follow.2.1 194 = .ok (.aload_n 0, 1) := by decide +kernel
theorem d_Mo_follow_195 : decode mm_Mo_follow.2.1 195 = .ok (.getfield 137, 3) := by decide +kernel
theorem d_Mo_follow_198 : decode mm_Mo_follow.2.1 198 = .ok (.iaload, 1) := by decide +kernel
theorem d_Mo_follow_199 : decode mm_Mo_follow.2.1 199 = .ok (.if_icmp .ne 9, 3) := by decide +kernel
theorem d_Mo_follow_202 : decode mm_Mo_follow.2.1 202 = .ok (.aload_n 0, 1) := by decide +kernel
theorem d_Mo_follow_203 : decode mm_Mo_follow.2.1 203 = .ok (.iload 4, 2) := by decide +kernel
theorem d_Mo_follow_205 : decode mm_Mo_follow.2.1 205 = .ok (.putfield 252, 3) := by decide +kernel
theorem d_Mo_follow_208 : decode mm_Mo_follow.2.1 208 = .ok (.iload_n 3, 1) := by decide +kernel
theorem d_Mo_follow_209 : decode mm_Mo_follow.2.1 209 = .ok (.iconst 1, 1) := by decide +kernel
theorem d_Mo_follow_210 : decode mm_Mo_follow.2.1 210 = .ok (.iadd, 1) := by decide +kernel
theorem d_Mo_follow_211 : decode mm_Mo_follow.2.1 211 = .ok (.istore_n 2, 1) := by decide +kernel
theorem d_Mo_follow_212 : decode mm_Mo_follow.2.1 212 = .ok (.goto (-149), 3) := by decide +kernel
theorem d_Mo_follow_215 : decode mm_Mo_follow.2.1 215 = .ok (.return_, 1) := by decide +kernel
def wp_Mo_follow_208  (H63 : Int32 → MzM → Prop) (K : MzM → Prop) (y3 : Int32) (M : MzM) : Prop := H63 (y3 + (1 : Int32)) M
def wp_Mo_follow_152  (H63 : Int32 → MzM → Prop) (K : MzM → Prop) (y3 : Int32) (ys0 : Int32) (M : MzM) : Prop := (∀ M60 : MzM, M60 = mz_si M (30, 0) 33 ys0 → wp_Mo_follow_208  H63 K y3 M60)
def wp_Mo_follow_110  (H63 : Int32 → MzM → Prop) (K : MzM → Prop) (y2 : Int32) (y3 : Int32) (y4 : Int32) (ys0 : Int32) (M : MzM) : Prop := (∃ j31 : Nat, y4.toInt = (j31 : Int) ∧ j31 < 16 ∧ (((mz_i M (33, 0) j31) = 0 → ((ys0 = 0 → wp_Mo_nameAt  y2 y3 M (fun v38 M35 => (∀ M39 : MzM, M39 = mz_si M35 (30, 0) 35 v38 → wp_Mo_child  y4 (mz_i M39 (30, 0) 35) M39 (fun v43 M40 => (∀ M44 : MzM, M44 = mz_si M40 (30, 0) 33 v43 → ((0 ≤ (mz_i M44 (30, 0) 33) → wp_Mo_follow_208  H63 K y3 M44) ∧ (¬ 0 ≤ (mz_i M44 (30, 0) 33) → (∃ j45 : Nat, (mz_i M44 (30, 0) 29).toInt = (j45 : Int) ∧ j45 < 2 ∧ ((¬ y3 = (mz_i M44 (41, 0) j45) → wp_Mo_follow_208  H63 K y3 M44) ∧ (y3 = (mz_i M44 (41, 0) j45) → (∀ M49 : MzM, M49 = mz_si M44 (30, 0) 34 y4 → wp_Mo_follow_208  H63 K y3 M49))))))))))) ∧ (¬ ys0 = 0 → ((¬ y4 = 0 → (∃ j52 : Nat, y4.toInt = (j52 : Int) ∧ j52 < 16 ∧ wp_Mo_follow_152  H63 K y3 (mz_i M (34, 0) j52) M)) ∧ (y4 = 0 → wp_Mo_follow_152  H63 K y3 (0 : Int32) M))))) ∧ (¬ (mz_i M (33, 0) j31) = 0 → (∀ M58 : MzM, M58 = mz_si M (30, 0) 33 (-1 : Int32) → wp_Mo_follow_208  H63 K y3 M58))))
def wp_Mo_follow_63   (K : MzM → Prop) : Nat → Int32 → MzM → Prop
  | 0, _, _ => False
  | r0 + 1, y2, M => (∃ j16 : Nat, (mz_i M (30, 0) 29).toInt = (j16 : Int) ∧ j16 < 2 ∧ (((mz_i M (41, 0) j16) ≤ y2 → K M) ∧ (¬ (mz_i M (41, 0) j16) ≤ y2 → (((mz_i M (30, 0) 33) < 0 → K M) ∧ (¬ (mz_i M (30, 0) 33) < 0 → wp_Mo_stepEnd  y2 M (fun v23 M20 => wp_Mo_ch  y2 M20 (fun v27 M24 => ((¬ v27 = (46 : Int32) → wp_Mo_follow_110  (wp_Mo_follow_63   K r0) K y2 v23 (mz_i M20 (30, 0) 33) (0 : Int32) M24) ∧ (v27 = (46 : Int32) → wp_Mo_follow_110  (wp_Mo_follow_63   K r0) K y2 v23 (mz_i M20 (30, 0) 33) (1 : Int32) M24)))))))))
def wp_Mo_follow_55   (K : MzM → Prop) (y2 : Int32) (ys0 : Int32) (M : MzM) : Prop := (∀ M12 : MzM, M12 = mz_si M (30, 0) 33 ys0 → (∀ M13 : MzM, M13 = mz_si M12 (30, 0) 34 (-1 : Int32) → (∃ r14 : Nat, wp_Mo_follow_63   K r14 y2 M13)))
def wp_Mo_follow_36   (K : MzM → Prop) (y1 : Int32) (ys0 : Int32) (M : MzM) : Prop := ((y1 = 0 → (∃ j7 : Nat, (mz_i M (30, 0) 29).toInt = (j7 : Int) ∧ j7 < 2 ∧ wp_Mo_follow_55   K ys0 (mz_i M (50, 0) j7) M)) ∧ (¬ y1 = 0 → wp_Mo_follow_55   K ys0 (0 : Int32) M))
def wp_Mo_follow_18   (K : MzM → Prop) (ys0 : Int32) (M : MzM) : Prop := ((ys0 = 0 → wp_Mo_follow_36   K ys0 (mz_i M (30, 0) 32) M) ∧ (¬ ys0 = 0 → wp_Mo_follow_36   K ys0 ((mz_i M (30, 0) 32) + (1 : Int32)) M))
def wp_Mo_follow   (M : MzM) (K : MzM → Prop) : Prop := wp_Mo_ch  (mz_i M (30, 0) 32) M (fun v4 M1 => ((¬ v4 = (47 : Int32) → wp_Mo_follow_18   K (0 : Int32) M1) ∧ (v4 = (47 : Int32) → wp_Mo_follow_18   K (1 : Int32) M1)))
theorem tm_Mo_follow_208 {G : MzG} {B : MzB} {d : Nat} {K : MzM → Prop} (hF : mzLive B)   {H63 : Int32 → MzM → Prop} (hH63 : ∀ (y2 : Int32) (M : MzM), mzLnk M → H63 y2 M → MzS G B (d + 2) mm_Mo_follow M (0, 0) (mzK0 B K) 63 [(0, .ref (mz_ad B (30, 0))), (2, .int y2)] []) (y3 : Int32) (M : MzM) (hL : mzLnk M) (h : wp_Mo_follow_208  H63 K y3 M) : MzS G B (d + 2) mm_Mo_follow M (0, 0) (mzK0 B K) 208 [(0, .ref (mz_ad B (30, 0))), (3, .int y3)] [] := by
  unfold wp_Mo_follow_208 at h
  exact (mz_iload_n d_Mo_follow_208 rfl (mz_iconst (1 : Int32) d_Mo_follow_209 (by decide) (mz_iadd d_Mo_follow_210 (mz_istore_n d_Mo_follow_211 (by decide) (mz_goto 63 d_Mo_follow_212 rfl (MzS.loc [(0, .ref (mz_ad B (30, 0))), (2, .int (y3 + (1 : Int32)))] ⟨rfl, rfl, trivial⟩ (hH63 (y3 + (1 : Int32)) M hL h)))))))
theorem tm_Mo_follow_152 {G : MzG} {B : MzB} {d : Nat} {K : MzM → Prop} (hF : mzLive B)   {H63 : Int32 → MzM → Prop} (hH63 : ∀ (y2 : Int32) (M : MzM), mzLnk M → H63 y2 M → MzS G B (d + 2) mm_Mo_follow M (0, 0) (mzK0 B K) 63 [(0, .ref (mz_ad B (30, 0))), (2, .int y2)] []) (y3 : Int32) (ys0 : Int32) (M : MzM) (hL : mzLnk M) (h : wp_Mo_follow_152  H63 K y3 ys0 M) : MzS G B (d + 2) mm_Mo_follow M (0, 0) (mzK0 B K) 152 [(0, .ref (mz_ad B (30, 0))), (3, .int y3)] [.int ys0, .ref (mz_ad B (30, 0))] := by
  unfold wp_Mo_follow_152 at h
  exact (mz_putI (k := 33) cl_10 d_Mo_follow_152 (by decide) wf_Mo_249 rfl rfl rfl rfl (hF 30 0 (by decide)) rfl (let M60 : MzM := mz_si M (30, 0) 33 ys0; (mz_goto 208 d_Mo_follow_155 rfl (MzS.loc [(0, .ref (mz_ad B (30, 0))), (3, .int y3)] ⟨rfl, rfl, trivial⟩ (tm_Mo_follow_208 hF  hH63 y3 M60 hL (h M60 rfl))))))
theorem tm_Mo_follow_110 {G : MzG} {B : MzB} {d : Nat} {K : MzM → Prop} (hF : mzLive B)   {H63 : Int32 → MzM → Prop} (hH63 : ∀ (y2 : Int32) (M : MzM), mzLnk M → H63 y2 M → MzS G B (d + 2) mm_Mo_follow M (0, 0) (mzK0 B K) 63 [(0, .ref (mz_ad B (30, 0))), (2, .int y2)] []) (y2 : Int32) (y3 : Int32) (y4 : Int32) (ys0 : Int32) (M : MzM) (hL : mzLnk M) (h : wp_Mo_follow_110  H63 K y2 y3 y4 ys0 M) : MzS G B (d + 2) mm_Mo_follow M (0, 0) (mzK0 B K) 110 [(0, .ref (mz_ad B (30, 0))), (2, .int y2), (3, .int y3), (4, .int y4)] [.int ys0] := by
  unfold wp_Mo_follow_110 at h
  exact (mz_istore d_Mo_follow_110 (by decide) (mz_aload_n d_Mo_follow_112 rfl (mz_getR (k := 3) (a := (33, 0)) cl_10 d_Mo_follow_113 (by decide) wf_Mo_38 rfl (hF 30 0 (by decide)) rfl (hL (30, 0) 3 (33, 0) rfl (by decide)) (mz_iload d_Mo_follow_116 rfl (match h with | ⟨j31, h32, h33, h34⟩ => mz_zald j31 d_Mo_follow_118 (hF 33 0 (by decide)) rfl h32 h33 (mz_if_eq 130 d_Mo_follow_119 rfl (fun hc59 => (mz_iload d_Mo_follow_130 rfl (mz_if_eq 158 d_Mo_follow_132 rfl (fun hc57 => (mz_aload_n d_Mo_follow_158 rfl (mz_aload_n d_Mo_follow_159 rfl (mz_iload_n d_Mo_follow_160 rfl (mz_iload_n d_Mo_follow_161 rfl (mz_callV (As := [.int y2, .int y3]) (st := [.ref (mz_ad B (30, 0))]) (hF 30 0 (by decide)) rfl (mzClOf cl_10) 0 0 d_Mo_follow_162 cs_Mo_nameAt wl_Mo_255 wi_Mo_nameAt wse_Mo_nameAt (Nat.le_of_ble_eq_true rfl) (Nat.le_refl _) (Nat.le_refl _) (MzC.mono (tm_Mo_nameAt (d := d) hF  hL ((h34.1 hc59).1 hc57)) (fun r9 B9 M35 hq37 => by obtain ⟨rfl, hL36, v38, rfl, hq37⟩ := hq37; exact ⟨_, rfl, (mz_putI (k := 35) cl_10 d_Mo_follow_165 (by decide) wf_Mo_258 rfl rfl rfl rfl (hF 30 0 (by decide)) rfl (let M39 : MzM := mz_si M35 (30, 0) 35 v38; (mz_aload_n d_Mo_follow_168 rfl (mz_aload_n d_Mo_follow_169 rfl (mz_iload d_Mo_follow_170 rfl (mz_aload_n d_Mo_follow_172 rfl (mz_getI (k := 35) cl_10 d_Mo_follow_173 (by decide) wf_Mo_258 rfl (hF 30 0 (by decide)) rfl (mz_callV (As := [.int y4, .int (mz_i M39 (30, 0) 35)]) (st := [.ref (mz_ad B (30, 0))]) (hF 30 0 (by decide)) rfl (mzClOf cl_10) 0 0 d_Mo_follow_176 cs_Mo_child wl_Mo_261 wi_Mo_child wse_Mo_child (Nat.le_of_ble_eq_true rfl) (Nat.le_refl _) (Nat.le_refl _) (MzC.mono (tm_Mo_child (d := (d + 1)) hF  hL36 (hq37 M39 rfl)) (fun r9 B9 M40 hq42 => by obtain ⟨rfl, hL41, v43, rfl, hq42⟩ := hq42; exact ⟨_, rfl, (mz_putI (k := 33) cl_10 d_Mo_follow_179 (by decide) wf_Mo_249 rfl rfl rfl rfl (hF 30 0 (by decide)) rfl (let M44 : MzM := mz_si M40 (30, 0) 33 v43; (mz_aload_n d_Mo_follow_182 rfl (mz_getI (k := 33) cl_10 d_Mo_follow_183 (by decide) wf_Mo_249 rfl (hF 30 0 (by decide)) rfl (mz_if_ge 208 d_Mo_follow_186 rfl (fun hc51 => (MzS.loc [(0, .ref (mz_ad B (30, 0))), (3, .int y3)] ⟨rfl, rfl, trivial⟩ (tm_Mo_follow_208 hF  hH63 y3 M44 hL41 ((hq42 M44 rfl).1 hc51)))) (fun hc51 => (mz_iload_n d_Mo_follow_189 rfl (mz_aload_n d_Mo_follow_190 rfl (mz_getR (k := 11) (a := (41, 0)) cl_10 d_Mo_follow_191 (by decide) wf_Mo_62 rfl (hF 30 0 (by decide)) rfl (hL41 (30, 0) 11 (41, 0) rfl (by decide)) (mz_aload_n d_Mo_follow_194 rfl (mz_getI (k := 29) cl_10 d_Mo_follow_195 (by decide) wf_Mo_137 rfl (hF 30 0 (by decide)) rfl (match ((hq42 M44 rfl).2 hc51) with | ⟨j45, h46, h47, h48⟩ => mz_iald j45 d_Mo_follow_198 (hF 41 0 (by decide)) rfl h46 h47 (mz_icmp_ne 208 d_Mo_follow_199 rfl (fun hc50 => (MzS.loc [(0, .ref (mz_ad B (30, 0))), (3, .int y3)] ⟨rfl, rfl, trivial⟩ (tm_Mo_follow_208 hF  hH63 y3 M44 hL41 (h48.1 hc50)))) (fun hc50 => (mz_aload_n d_Mo_follow_202 rfl (mz_iload d_Mo_follow_203 rfl (mz_putI (k := 34) cl_10 d_Mo_follow_205 (by decide) wf_Mo_252 rfl rfl rfl rfl (hF 30 0 (by decide)) rfl (let M49 : MzM := mz_si M44 (30, 0) 34 y4; (MzS.loc [(0, .ref (mz_ad B (30, 0))), (3, .int y3)] ⟨rfl, rfl, trivial⟩ (tm_Mo_follow_208 hF  hH63 y3 M49 hL41 ((h48.2 hc50) M49 rfl)))))))))))))))))))))⟩))))))))))⟩)))))))) (fun hc57 => (mz_aload_n d_Mo_follow_135 rfl (mz_iload d_Mo_follow_136 rfl (mz_if_ne 145 d_Mo_follow_138 rfl (fun hc56 => (mz_aload_n d_Mo_follow_145 rfl (mz_getR (k := 4) (a := (34, 0)) cl_10 d_Mo_follow_146 (by decide) wf_Mo_41 rfl (hF 30 0 (by decide)) rfl (hL (30, 0) 4 (34, 0) rfl (by decide)) (mz_iload d_Mo_follow_149 rfl (match (((h34.1 hc59).2 hc57).1 hc56) with | ⟨j52, h53, h54, h55⟩ => mz_iald j52 d_Mo_follow_151 (hF 34 0 (by decide)) rfl h53 h54 (MzS.loc [(0, .ref (mz_ad B (30, 0))), (3, .int y3)] ⟨rfl, rfl, trivial⟩ (tm_Mo_follow_152 hF  hH63 y3 (mz_i M (34, 0) j52) M hL h55))))))) (fun hc56 => (mz_iconst (0 : Int32) d_Mo_follow_141 (by decide) (mz_goto 152 d_Mo_follow_142 rfl (MzS.loc [(0, .ref (mz_ad B (30, 0))), (3, .int y3)] ⟨rfl, rfl, trivial⟩ (tm_Mo_follow_152 hF  hH63 y3 (0 : Int32) M hL (((h34.1 hc59).2 hc57).2 hc56))))))))))))) (fun hc59 => (mz_aload_n d_Mo_follow_122 rfl (mz_iconst (-1 : Int32) d_Mo_follow_123 (by decide) (mz_putI (k := 33) cl_10 d_Mo_follow_124 (by decide) wf_Mo_249 rfl rfl rfl rfl (hF 30 0 (by decide)) rfl (let M58 : MzM := mz_si M (30, 0) 33 (-1 : Int32); (mz_goto 208 d_Mo_follow_127 rfl (MzS.loc [(0, .ref (mz_ad B (30, 0))), (3, .int y3)] ⟨rfl, rfl, trivial⟩ (tm_Mo_follow_208 hF  hH63 y3 M58 hL ((h34.2 hc59) M58 rfl)))))))))))))))
theorem tm_Mo_follow_63 {G : MzG} {B : MzB} {d : Nat} {K : MzM → Prop} (hF : mzLive B)     : ∀ (r0 : Nat) (y2 : Int32) (M : MzM), mzLnk M → wp_Mo_follow_63   K r0 y2 M → MzS G B (d + 2) mm_Mo_follow M (0, 0) (mzK0 B K) 63 [(0, .ref (mz_ad B (30, 0))), (2, .int y2)] [] := by
  intro r0
  induction r0 with
  | zero => intro y2 M hL h; exact False.elim h
  | succ r0 hH63 =>
    intro y2 M hL h
    unfold wp_Mo_follow_63 at h
    exact (mz_iload_n d_Mo_follow_63 rfl (mz_aload_n d_Mo_follow_64 rfl (mz_getR (k := 11) (a := (41, 0)) cl_10 d_Mo_follow_65 (by decide) wf_Mo_62 rfl (hF 30 0 (by decide)) rfl (hL (30, 0) 11 (41, 0) rfl (by decide)) (mz_aload_n d_Mo_follow_68 rfl (mz_getI (k := 29) cl_10 d_Mo_follow_69 (by decide) wf_Mo_137 rfl (hF 30 0 (by decide)) rfl (match h with | ⟨j16, h17, h18, h19⟩ => mz_iald j16 d_Mo_follow_72 (hF 41 0 (by decide)) rfl h17 h18 (mz_icmp_ge 215 d_Mo_follow_73 rfl (fun hc30 => (mz_vret d_Mo_follow_215 rfl ⟨rfl, hL, rfl, (h19.1 hc30)⟩)) (fun hc30 => (mz_aload_n d_Mo_follow_76 rfl (mz_getI (k := 33) cl_10 d_Mo_follow_77 (by decide) wf_Mo_249 rfl (hF 30 0 (by decide)) rfl (mz_if_lt 215 d_Mo_follow_80 rfl (fun hc29 => (mz_vret d_Mo_follow_215 rfl ⟨rfl, hL, rfl, ((h19.2 hc30).1 hc29)⟩)) (fun hc29 => (mz_aload_n d_Mo_follow_83 rfl (mz_iload_n d_Mo_follow_84 rfl (mz_callV (As := [.int y2]) (st := []) (hF 30 0 (by decide)) rfl (mzClOf cl_10) 0 0 d_Mo_follow_85 cs_Mo_stepEnd wl_Mo_198 wi_Mo_stepEnd wse_Mo_stepEnd (Nat.le_of_ble_eq_true rfl) (Nat.le_refl _) (Nat.le_refl _) (MzC.mono (tm_Mo_stepEnd (d := d) hF  hL ((h19.2 hc30).2 hc29)) (fun r9 B9 M20 hq22 => by obtain ⟨rfl, hL21, v23, rfl, hq22⟩ := hq22; exact ⟨_, rfl, (mz_istore_n d_Mo_follow_88 (by decide) (mz_aload_n d_Mo_follow_89 rfl (mz_getI (k := 33) cl_10 d_Mo_follow_90 (by decide) wf_Mo_249 rfl (hF 30 0 (by decide)) rfl (mz_istore d_Mo_follow_93 (by decide) (mz_aload_n d_Mo_follow_95 rfl (mz_iload_n d_Mo_follow_96 rfl (mz_callV (As := [.int y2]) (st := []) (hF 30 0 (by decide)) rfl (mzClOf cl_10) 0 0 d_Mo_follow_97 cs_Mo_ch wl_Mo_189 wi_Mo_ch wse_Mo_ch (Nat.le_of_ble_eq_true rfl) (Nat.le_refl _) (Nat.le_refl _) (MzC.mono (tm_Mo_ch (d := (d + 1)) hF  hL21 hq22) (fun r9 B9 M24 hq26 => by obtain ⟨rfl, hL25, v27, rfl, hq26⟩ := hq26; exact ⟨_, rfl, (mz_bipush (46 : Int32) d_Mo_follow_100 (by decide) (mz_icmp_ne 109 d_Mo_follow_102 rfl (fun hc28 => (mz_iconst (0 : Int32) d_Mo_follow_109 (by decide) (MzS.loc [(0, .ref (mz_ad B (30, 0))), (2, .int y2), (3, .int v23), (4, .int (mz_i M20 (30, 0) 33))] ⟨rfl, rfl, rfl, rfl, trivial⟩ (tm_Mo_follow_110 hF  hH63 y2 v23 (mz_i M20 (30, 0) 33) (0 : Int32) M24 hL25 (hq26.1 hc28))))) (fun hc28 => (mz_iconst (1 : Int32) d_Mo_follow_105 (by decide) (mz_goto 110 d_Mo_follow_106 rfl (MzS.loc [(0, .ref (mz_ad B (30, 0))), (2, .int y2), (3, .int v23), (4, .int (mz_i M20 (30, 0) 33))] ⟨rfl, rfl, rfl, rfl, trivial⟩ (tm_Mo_follow_110 hF  hH63 y2 v23 (mz_i M20 (30, 0) 33) (1 : Int32) M24 hL25 (hq26.2 hc28))))))))⟩)))))))))⟩)))))))))))))))))
theorem tm_Mo_follow_55 {G : MzG} {B : MzB} {d : Nat} {K : MzM → Prop} (hF : mzLive B)     (y2 : Int32) (ys0 : Int32) (M : MzM) (hL : mzLnk M) (h : wp_Mo_follow_55   K y2 ys0 M) : MzS G B (d + 2) mm_Mo_follow M (0, 0) (mzK0 B K) 55 [(0, .ref (mz_ad B (30, 0))), (2, .int y2)] [.int ys0, .ref (mz_ad B (30, 0))] := by
  unfold wp_Mo_follow_55 at h
  exact (mz_putI (k := 33) cl_10 d_Mo_follow_55 (by decide) wf_Mo_249 rfl rfl rfl rfl (hF 30 0 (by decide)) rfl (let M12 : MzM := mz_si M (30, 0) 33 ys0; (mz_aload_n d_Mo_follow_58 rfl (mz_iconst (-1 : Int32) d_Mo_follow_59 (by decide) (mz_putI (k := 34) cl_10 d_Mo_follow_60 (by decide) wf_Mo_252 rfl rfl rfl rfl (hF 30 0 (by decide)) rfl (let M13 : MzM := mz_si M12 (30, 0) 34 (-1 : Int32); (MzS.loc [(0, .ref (mz_ad B (30, 0))), (2, .int y2)] ⟨rfl, rfl, trivial⟩ (match ((h M12 rfl) M13 rfl) with | ⟨r14, h15⟩ => tm_Mo_follow_63 hF   r14 y2 M13 hL h15))))))))
theorem tm_Mo_follow_36 {G : MzG} {B : MzB} {d : Nat} {K : MzM → Prop} (hF : mzLive B)     (y1 : Int32) (ys0 : Int32) (M : MzM) (hL : mzLnk M) (h : wp_Mo_follow_36   K y1 ys0 M) : MzS G B (d + 2) mm_Mo_follow M (0, 0) (mzK0 B K) 36 [(0, .ref (mz_ad B (30, 0))), (1, .int y1)] [.int ys0] := by
  unfold wp_Mo_follow_36 at h
  exact (mz_istore_n d_Mo_follow_36 (by decide) (mz_aload_n d_Mo_follow_37 rfl (mz_iload_n d_Mo_follow_38 rfl (mz_if_eq 46 d_Mo_follow_39 rfl (fun hc11 => (mz_aload_n d_Mo_follow_46 rfl (mz_getR (k := 20) (a := (50, 0)) cl_10 d_Mo_follow_47 (by decide) wf_Mo_89 rfl (hF 30 0 (by decide)) rfl (hL (30, 0) 20 (50, 0) rfl (by decide)) (mz_aload_n d_Mo_follow_50 rfl (mz_getI (k := 29) cl_10 d_Mo_follow_51 (by decide) wf_Mo_137 rfl (hF 30 0 (by decide)) rfl (match (h.1 hc11) with | ⟨j7, h8, h9, h10⟩ => mz_iald j7 d_Mo_follow_54 (hF 50 0 (by decide)) rfl h8 h9 (MzS.loc [(0, .ref (mz_ad B (30, 0))), (2, .int ys0)] ⟨rfl, rfl, trivial⟩ (tm_Mo_follow_55 hF   ys0 (mz_i M (50, 0) j7) M hL h10)))))))) (fun hc11 => (mz_iconst (0 : Int32) d_Mo_follow_42 (by decide) (mz_goto 55 d_Mo_follow_43 rfl (MzS.loc [(0, .ref (mz_ad B (30, 0))), (2, .int ys0)] ⟨rfl, rfl, trivial⟩ (tm_Mo_follow_55 hF   ys0 (0 : Int32) M hL (h.2 hc11))))))))))
theorem tm_Mo_follow_18 {G : MzG} {B : MzB} {d : Nat} {K : MzM → Prop} (hF : mzLive B)     (ys0 : Int32) (M : MzM) (hL : mzLnk M) (h : wp_Mo_follow_18   K ys0 M) : MzS G B (d + 2) mm_Mo_follow M (0, 0) (mzK0 B K) 18 [(0, .ref (mz_ad B (30, 0)))] [.int ys0] := by
  unfold wp_Mo_follow_18 at h
  exact (mz_istore_n d_Mo_follow_18 (by decide) (mz_iload_n d_Mo_follow_19 rfl (mz_if_eq 32 d_Mo_follow_20 rfl (fun hc6 => (mz_aload_n d_Mo_follow_32 rfl (mz_getI (k := 32) cl_10 d_Mo_follow_33 (by decide) wf_Mo_192 rfl (hF 30 0 (by decide)) rfl (MzS.loc [(0, .ref (mz_ad B (30, 0))), (1, .int ys0)] ⟨rfl, rfl, trivial⟩ (tm_Mo_follow_36 hF   ys0 (mz_i M (30, 0) 32) M hL (h.1 hc6)))))) (fun hc6 => (mz_aload_n d_Mo_follow_23 rfl (mz_getI (k := 32) cl_10 d_Mo_follow_24 (by decide) wf_Mo_192 rfl (hF 30 0 (by decide)) rfl (mz_iconst (1 : Int32) d_Mo_follow_27 (by decide) (mz_iadd d_Mo_follow_28 (mz_goto 36 d_Mo_follow_29 rfl (MzS.loc [(0, .ref (mz_ad B (30, 0))), (1, .int ys0)] ⟨rfl, rfl, trivial⟩ (tm_Mo_follow_36 hF   ys0 ((mz_i M (30, 0) 32) + (1 : Int32)) M hL (h.2 hc6))))))))))))
theorem tm_Mo_follow {G : MzG} {B : MzB} {d : Nat} {K : MzM → Prop} (hF : mzLive B)    {M : MzM} (hL : mzLnk M) (h : wp_Mo_follow   M K) : MzC G B (d + 2) mm_Mo_follow [.ref (mz_ad B (30, 0))] M (0, 0) (mzK0 B K) := by
  unfold wp_Mo_follow at h
  exact MzC.of rfl (Nat.le_of_ble_eq_true rfl) (show MzS G B (d + 2) mm_Mo_follow M (0, 0) (mzK0 B K) 0 [(0, .ref (mz_ad B (30, 0)))] [] from (mz_aload_n d_Mo_follow_0 rfl (mz_aload_n d_Mo_follow_1 rfl (mz_getI (k := 32) cl_10 d_Mo_follow_2 (by decide) wf_Mo_192 rfl (hF 30 0 (by decide)) rfl (mz_callV (As := [.int (mz_i M (30, 0) 32)]) (st := []) (hF 30 0 (by decide)) rfl (mzClOf cl_10) 0 0 d_Mo_follow_5 cs_Mo_ch wl_Mo_189 wi_Mo_ch wse_Mo_ch (Nat.le_of_ble_eq_true rfl) (Nat.le_refl _) (Nat.le_refl _) (MzC.mono (tm_Mo_ch (d := (d + 1)) hF  hL h) (fun r9 B9 M1 hq3 => by obtain ⟨rfl, hL2, v4, rfl, hq3⟩ := hq3; exact ⟨_, rfl, (mz_bipush (47 : Int32) d_Mo_follow_8 (by decide) (mz_icmp_ne 17 d_Mo_follow_10 rfl (fun hc5 => (mz_iconst (0 : Int32) d_Mo_follow_17 (by decide) (MzS.loc [(0, .ref (mz_ad B (30, 0)))] ⟨rfl, trivial⟩ (tm_Mo_follow_18 hF   (0 : Int32) M1 hL2 (hq3.1 hc5))))) (fun hc5 => (mz_iconst (1 : Int32) d_Mo_follow_13 (by decide) (mz_goto 18 d_Mo_follow_14 rfl (MzS.loc [(0, .ref (mz_ad B (30, 0)))] ⟨rfl, trivial⟩ (tm_Mo_follow_18 hF   (1 : Int32) M1 hL2 (hq3.2 hc5))))))))⟩)))))))
