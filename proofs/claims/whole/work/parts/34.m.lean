def mm_Mo_take1 : MzT := (⟨"ParcelLineModel", "take1", "(II)V"⟩, prog_14_method_19_code, 3, (Option.none : Option Jvm.ClassFile.FieldType))
theorem cs_Mo_take1 {mm : MzT} : mzCall mm mm_Mo_take1 2 := ⟨wn_Mo, wco_Mo_take1, by decide +kernel, by decide⟩
theorem d_Mo_take1_0 : decode mm_Mo_take1.2.1 0 = .ok (.aload_n 0, 1) := by decide +kernel
theorem d_Mo_take1_1 : decode mm_Mo_take1.2.1 1 = .ok (.getfield 56, 3) := by decide +kernel
theorem d_Mo_take1_4 : decode mm_Mo_take1.2.1 4 = .ok (.iload_n 1, 1) := by decide +kernel
theorem d_Mo_take1_5 : decode mm_Mo_take1.2.1 5 = .ok (.iaload, 1) := by decide +kernel
theorem d_Mo_take1_6 : decode mm_Mo_take1.2.1 6 = .ok (.iconst 1, 1) := by decide +kernel
theorem d_Mo_take1_7 : decode mm_Mo_take1.2.1 7 = .ok (.if_icmp .le 86, 3) := by decide +kernel
theorem d_Mo_take1_10 : decode mm_Mo_take1.2.1 10 = .ok (.aload_n 0, 1) := by decide +kernel
theorem d_Mo_take1_11 : decode mm_Mo_take1.2.1 11 = .ok (.getfield 56, 3) := by decide +kernel
theorem d_Mo_take1_14 : decode mm_Mo_take1.2.1 14 = .ok (.iload_n 1, 1) := by decide +kernel
theorem d_Mo_take1_15 : decode mm_Mo_take1.2.1 15 = .ok (.iaload, 1) := by decide +kernel
theorem d_Mo_take1_16 : decode mm_Mo_take1.2.1 16 = .ok (.sipush 253, 3) := by decide +kernel
theorem d_Mo_take1_19 : decode mm_Mo_take1.2.1 19 = .ok (.if_icmp .eq 15, 3) := by decide +kernel
theorem d_Mo_take1_22 : decode mm_Mo_take1.2.1 22 = .ok (.aload_n 0, 1) := by decide +kernel
theorem d_Mo_take1_23 : decode mm_Mo_take1.2.1 23 = .ok (.getfield 56, 3) := by decide +kernel
theorem d_Mo_take1_26 : decode mm_Mo_take1.2.1 26 = .ok (.iload_n 1, 1) := by decide +kernel
theorem d_Mo_take1_27 : decode mm_Mo_take1.2.1 27 = .ok (.iaload, 1) := by decide +kernel
theorem d_Mo_take1_28 : decode mm_Mo_take1.2.1 28 = .ok (.sipush 251, 3) := by decide +kernel
theorem d_Mo_take1_31 : decode mm_Mo_take1.2.1 31 = .ok (.if_icmp .ne 52, 3) := by decide +kernel
theorem d_Mo_take1_34 : decode mm_Mo_take1.2.1 34 = .ok (.aload_n 0, 1) := by decide +kernel
theorem d_Mo_take1_35 : decode mm_Mo_take1.2.1 35 = .ok (.iload_n 1, 1) := by decide +kernel
theorem d_Mo_take1_36 : decode mm_Mo_take1.2.1 36 = .ok (.iconst 3, 1) := by decide +kernel
theorem d_Mo_take1_37 : decode mm_Mo_take1.2.1 37 = .ok (.invokevirtual 149, 3) := by decide +kernel
theorem d_Mo_take1_40 : decode mm_Mo_take1.2.1 40 = .ok (.ifCond .eq 43, 3) := by decide +kernel
theorem d_Mo_take1_43 : decode mm_Mo_take1.2.1 43 = .ok (.aload_n 0, 1) := by decide +kernel
theorem d_Mo_take1_44 : decode mm_Mo_take1.2.1 44 = .ok (.iload_n 1, 1) := by decide +kernel
theorem d_Mo_take1_45 : decode mm_Mo_take1.2.1 45 = .ok (.sipush 255, 3) := by decide +kernel
theorem d_Mo_take1_48 : decode mm_Mo_take1.2.1 48 = .ok (.invokevirtual 140, 3) := by decide +kernel
theorem d_Mo_take1_51 : decode mm_Mo_take1.2.1 51 = .ok (.aload_n 0, 1) := by decide +kernel
theorem d_Mo_take1_52 : decode mm_Mo_take1.2.1 52 = .ok (.iload_n 1, 1) := by decide +kernel
theorem d_Mo_take1_53 : decode mm_Mo_take1.2.1 53 = .ok (.aload_n 0, 1) := by decide +kernel
theorem d_Mo_take1_54 : decode mm_Mo_take1.2.1 54 = .ok (.getfield 56, 3) := by decide +kernel
theorem d_Mo_take1_57 : decode mm_Mo_take1.2.1 57 = .ok (.iload_n 1, 1) := by decide +kernel
theorem d_Mo_take1_58 : decode mm_Mo_take1.2.1 58 = .ok (.iaload, 1) := by decide +kernel
theorem d_Mo_take1_59 : decode mm_Mo_take1.2.1 59 = .ok (.sipush 253, 3) := by decide +kernel
theorem d_Mo_take1_62 : decode mm_Mo_take1.2.1 62 = .ok (.if_icmp .ne 9, 3) := by decide +kernel
theorem d_Mo_take1_65 : decode mm_Mo_take1.2.1 65 = .ok (.sipush 252, 3) := by decide +kernel
theorem d_Mo_take1_68 : decode mm_Mo_take1.2.1 68 = .ok (.goto 6, 3) := by decide +kernel
theorem d_Mo_take1_71 : decode mm_Mo_take1.2.1 71 = .ok (.sipush 254, 3) := by decide +kernel
theorem d_Mo_take1_74 : decode mm_Mo_take1.2.1 74 = .ok (.invokevirtual 140, 3) := by decide +kernel
theorem d_Mo_take1_77 : decode mm_Mo_take1.2.1 77 = .ok (.aload_n 0, 1) := by decide +kernel
theorem d_Mo_take1_78 : decode mm_Mo_take1.2.1 78 = .ok (.iload_n 1, 1) := by decide +kernel
theorem d_Mo_take1_79 : decode mm_Mo_take1.2.1 79 = .ok (.iload_n 2, 1) := by decide +kernel
theorem d_Mo_take1_80 : decode mm_Mo_take1.2.1 80 = .ok (.invokevirtual 140, 3) := by decide +kernel
theorem d_Mo_take1_83 : decode mm_Mo_take1.2.1 83 = .ok (.aload_n 0, 1) := by decide +kernel
theorem d_Mo_take1_84 : decode mm_Mo_take1.2.1 84 = .ok (.getfield 56, 3) := by decide +kernel
theorem d_Mo_take1_87 : decode mm_Mo_take1.2.1 87 = .ok (.iload_n 1, 1) := by decide +kernel
theorem d_Mo_take1_88 : decode mm_Mo_take1.2.1 88 = .ok (.iconst 0, 1) := by decide +kernel
theorem d_Mo_take1_89 : decode mm_Mo_take1.2.1 89 = .ok (.iastore, 1) := by decide +kernel
theorem d_Mo_take1_90 : decode mm_Mo_take1.2.1 90 = .ok (.goto 79, 3) := by decide +kernel
theorem d_Mo_take1_93 : decode mm_Mo_take1.2.1 93 = .ok (.aload_n 0, 1) := by decide +kernel
theorem d_Mo_take1_94 : decode mm_Mo_take1.2.1 94 = .ok (.getfield 56, 3) := by decide +kernel
theorem d_Mo_take1_97 : decode mm_Mo_take1.2.1 97 = .ok (.iload_n 1, 1) := by decide +kernel
theorem d_Mo_take1_98 : decode mm_Mo_take1.2.1 98 = .ok (.iaload, 1) := by decide +kernel
theorem d_Mo_take1_99 : decode mm_Mo_take1.2.1 99 = .ok (.iconst 1, 1) := by decide +kernel
theorem d_Mo_take1_100 : decode mm_Mo_take1.2.1 100 = .ok (.if_icmp .ne 46, 3) := by decide +kernel
theorem d_Mo_take1_103 : decode mm_Mo_take1.2.1 103 = .ok (.aload_n 0, 1) := by decide +kernel
theorem d_Mo_take1_104 : decode mm_Mo_take1.2.1 104 = .ok (.getfield 56, 3) := by decide +kernel
theorem d_Mo_take1_107 : decode mm_Mo_take1.2.1 107 = .ok (.iload_n 1, 1) := by decide +kernel
theorem d_Mo_take1_108 : decode mm_Mo_take1.2.1 108 = .ok (.iload_n 2, 1) := by decide +kernel
theorem d_Mo_take1_109 : decode mm_Mo_take1.2.1 109 = .ok (.sipush 251, 3) := by decide +kernel
theorem d_Mo_take1_112 : decode mm_Mo_take1.2.1 112 = .ok (.if_icmp .lt 14, 3) := by decide +kernel
theorem d_Mo_take1_115 : decode mm_Mo_take1.2.1 115 = .ok (.iload_n 2, 1) := by decide +kernel
theorem d_Mo_take1_116 : decode mm_Mo_take1.2.1 116 = .ok (.sipush 254, 3) := by decide +kernel
theorem d_Mo_take1_119 : decode mm_Mo_take1.2.1 119 = .ok (.if_icmp .gt 7, 3) := by decide +kernel
theorem d_Mo_take1_122 : decode mm_Mo_take1.2.1 122 = .ok (.iload_n 2, 1) := by decide +kernel
theorem d_Mo_take1_123 : decode mm_Mo_take1.2.1 123 = .ok (.goto 4, 3) := by decide +kernel
theorem d_Mo_take1_126 : decode mm_Mo_take1.2.1 126 = .ok (.iconst 0, 1) := by decide +kernel
theorem d_Mo_take1_127 : decode mm_Mo_take1.2.1 127 = .ok (.iastore, 1) := by decide +kernel
theorem d_Mo_take1_128 : decode mm_Mo_take1.2.1 128 = .ok (.iload_n 2, 1) := by decide +kernel
theorem d_Mo_take1_129 : decode mm_Mo_take1.2.1 129 = .ok (.sipush 255, 3) := by decide +kernel
theorem d_Mo_take1_132 : decode mm_Mo_take1.2.1 132 = .ok (.if_icmp .ne 37, 3) := by decide +kernel
theorem d_Mo_take1_135 : decode mm_Mo_take1.2.1 135 = .ok (.aload_n 0, 1) := by decide +kernel
theorem d_Mo_take1_136 : decode mm_Mo_take1.2.1 136 = .ok (.iload_n 1, 1) := by decide +kernel
theorem d_Mo_take1_137 : decode mm_Mo_take1.2.1 137 = .ok (.sipush 255, 3) := by decide +kernel
theorem d_Mo_take1_140 : decode mm_Mo_take1.2.1 140 = .ok (.invokevirtual 173, 3) := by decide +kernel
theorem d_Mo_take1_143 : decode mm_Mo_take1.2.1 143 = .ok (.goto 26, 3) := by decide +kernel
theorem d_Mo_take1_146 : decode mm_Mo_take1.2.1 146 = .ok (.iload_n 2, 1) := by decide +kernel
theorem d_Mo_take1_147 : decode mm_Mo_take1.2.1 147 = .ok (.sipush 255, 3) := by decide +kernel
theorem d_Mo_take1_150 : decode mm_Mo_take1.2.1 150 = .ok (.if_icmp .ne 13, 3) := by decide +kernel
theorem d_Mo_take1_153 : decode mm_Mo_take1.2.1 153 = .ok (.aload_n 0, 1) := by decide +kernel
theorem d_Mo_take1_154 : decode mm_Mo_take1.2.1 154 = .ok (.getfield 56, 3) := by decide +kernel
theorem d_Mo_take1_157 : decode mm_Mo_take1.2.1 157 = .ok (.iload_n 1, 1) := by decide +kernel
theorem d_Mo_take1_158 : decode mm_Mo_take1.2.1 158 = .ok (.iconst 1, 1) := by decide +kernel
theorem d_Mo_take1_159 : decode mm_Mo_take1.2.1 159 = .ok (.iastore, 1) := by decide +kernel
theorem d_Mo_take1_160 : decode mm_Mo_take1.2.1 160 = .ok (.goto 9, 3) := by decide +kernel
theorem d_Mo_take1_163 : decode mm_Mo_take1.2.1 163 = .ok (.aload_n 0, 1) := by decide +kernel
theorem d_Mo_take1_164 : decode mm_Mo_take1.2.1 164 = .ok (.iload_n 1, 1) := by decide +kernel
theorem d_Mo_take1_165 : decode mm_Mo_take1.2.1 165 = .ok (.iload_n 2, 1) := by decide +kernel
theorem d_Mo_take1_166 : decode mm_Mo_take1.2.1 166 = .ok (.invokevirtual 173, 3) := by decide +kernel
theorem d_Mo_take1_169 : decode mm_Mo_take1.2.1 169 = .ok (.return_, 1) := by decide +kernel
def wp_Mo_take1_127   (K : MzM → Prop) (y1 : Int32) (y2 : Int32) (ys0 : Int32) (ys1 : Int32) (M : MzM) : Prop := (∃ j42 : Nat, ys1.toInt = (j42 : Int) ∧ j42 < 2 ∧ ∀ M39 : MzM, M39 = mz_si M (39, 0) j42 ys0 → ((¬ y2 = (255 : Int32) → K M39) ∧ (y2 = (255 : Int32) → wp_Mo_plain  y1 (255 : Int32) M39 (fun M45 => K M45))))
def wp_Mo_take1_126   (K : MzM → Prop) (y1 : Int32) (y2 : Int32) (ys0 : Int32) (M : MzM) : Prop := wp_Mo_take1_127   K y1 y2 (0 : Int32) ys0 M
def wp_Mo_take1_74   (K : MzM → Prop) (y1 : Int32) (y2 : Int32) (ys0 : Int32) (ys1 : Int32) (M : MzM) : Prop := wp_Mo_put  ys1 ys0 M (fun M68 => wp_Mo_put  y1 y2 M68 (fun M71 => (∃ j77 : Nat, y1.toInt = (j77 : Int) ∧ j77 < 2 ∧ ∀ M74 : MzM, M74 = mz_si M71 (39, 0) j77 (0 : Int32) → K M74)))
def wp_Mo_take1_34   (K : MzM → Prop) (y1 : Int32) (y2 : Int32) (M : MzM) : Prop := wp_Mo_hasRoom  y1 (3 : Int32) M (fun v52 M49 => ((v52 = 0 → (∃ j56 : Nat, y1.toInt = (j56 : Int) ∧ j56 < 2 ∧ ∀ M53 : MzM, M53 = mz_si M49 (39, 0) j56 (0 : Int32) → K M53)) ∧ (¬ v52 = 0 → wp_Mo_put  y1 (255 : Int32) M49 (fun M59 => (∃ j62 : Nat, y1.toInt = (j62 : Int) ∧ j62 < 2 ∧ ((¬ (mz_i M59 (39, 0) j62) = (253 : Int32) → wp_Mo_take1_74   K y1 y2 (254 : Int32) y1 M59) ∧ ((mz_i M59 (39, 0) j62) = (253 : Int32) → wp_Mo_take1_74   K y1 y2 (252 : Int32) y1 M59)))))))
def wp_Mo_take1  (a1 : Int32) (a2 : Int32) (M : MzM) (K : MzM → Prop) : Prop := (∃ j1 : Nat, a1.toInt = (j1 : Int) ∧ j1 < 2 ∧ (((mz_i M (39, 0) j1) ≤ (1 : Int32) → (∃ j5 : Nat, a1.toInt = (j5 : Int) ∧ j5 < 2 ∧ ((¬ (mz_i M (39, 0) j5) = (1 : Int32) → ((¬ a2 = (255 : Int32) → wp_Mo_plain  a1 a2 M (fun M9 => K M9)) ∧ (a2 = (255 : Int32) → (∃ j15 : Nat, a1.toInt = (j15 : Int) ∧ j15 < 2 ∧ ∀ M12 : MzM, M12 = mz_si M (39, 0) j15 (1 : Int32) → K M12)))) ∧ ((mz_i M (39, 0) j5) = (1 : Int32) → ((a2 < (251 : Int32) → wp_Mo_take1_126   K a1 a2 a1 M) ∧ (¬ a2 < (251 : Int32) → (((254 : Int32) < a2 → wp_Mo_take1_126   K a1 a2 a1 M) ∧ (¬ (254 : Int32) < a2 → wp_Mo_take1_127   K a1 a2 a2 a1 M)))))))) ∧ (¬ (mz_i M (39, 0) j1) ≤ (1 : Int32) → (∃ j22 : Nat, a1.toInt = (j22 : Int) ∧ j22 < 2 ∧ (((mz_i M (39, 0) j22) = (253 : Int32) → wp_Mo_take1_34   K a1 a2 M) ∧ (¬ (mz_i M (39, 0) j22) = (253 : Int32) → (∃ j26 : Nat, a1.toInt = (j26 : Int) ∧ j26 < 2 ∧ ((¬ (mz_i M (39, 0) j26) = (251 : Int32) → (∃ j33 : Nat, a1.toInt = (j33 : Int) ∧ j33 < 2 ∧ ∀ M30 : MzM, M30 = mz_si M (39, 0) j33 (0 : Int32) → K M30)) ∧ ((mz_i M (39, 0) j26) = (251 : Int32) → wp_Mo_take1_34   K a1 a2 M)))))))))
theorem tm_Mo_take1_127 {G : MzG} {B : MzB} {d : Nat} {K : MzM → Prop} (hF : mzLive true B)     (y1 : Int32) (y2 : Int32) (ys0 : Int32) (ys1 : Int32) (M : MzM) (hL : mzLnk true M) (h : wp_Mo_take1_127   K y1 y2 ys0 ys1 M) : MzS G B (d + 9) mm_Mo_take1 M (0, 0) (mzK0 true B K) 127 [(0, .ref (mz_ad B (30, 0))), (1, .int y1), (2, .int y2)] [.int ys0, .int ys1, .ref (mz_ad B (39, 0))] := by
  unfold wp_Mo_take1_127 at h
  exact (match h with | ⟨j42, h43, h44, h41⟩ => mz_iast j42 d_Mo_take1_127 (hF 39 0 rfl (by decide)) rfl h43 h44 (let M39 : MzM := mz_si M (39, 0) j42 ys0; (mz_iload_n d_Mo_take1_128 rfl (mz_sipush (255 : Int32) d_Mo_take1_129 (by decide) (mz_icmp_ne 169 d_Mo_take1_132 rfl (fun hc48 => (mz_vret d_Mo_take1_169 rfl ⟨rfl, hL, rfl, ((h41 M39 rfl).1 hc48)⟩)) (fun hc48 => (mz_aload_n d_Mo_take1_135 rfl (mz_iload_n d_Mo_take1_136 rfl (mz_sipush (255 : Int32) d_Mo_take1_137 (by decide) (mz_callV (As := [.int y1, .int (255 : Int32)]) (st := []) (hF 30 0 rfl (by decide)) rfl (mzClOf cl_10) 0 0 d_Mo_take1_140 cs_Mo_plain wl_Mo_173 wi_Mo_plain wse_Mo_plain (Nat.le_of_ble_eq_true rfl) (Nat.zero_le _) (Nat.zero_le _) (MzC.mono (tm_Mo_plain (d := d) hF  hL ((h41 M39 rfl).2 hc48)) (fun r9 B9 M45 hq47 => by obtain ⟨rfl, hL46, rfl, hq47⟩ := hq47; exact ⟨none, rfl, (mz_goto 169 d_Mo_take1_143 rfl (mz_vret d_Mo_take1_169 rfl ⟨rfl, hL46, rfl, hq47⟩))⟩))))))))))))
theorem tm_Mo_take1_126 {G : MzG} {B : MzB} {d : Nat} {K : MzM → Prop} (hF : mzLive true B)     (y1 : Int32) (y2 : Int32) (ys0 : Int32) (M : MzM) (hL : mzLnk true M) (h : wp_Mo_take1_126   K y1 y2 ys0 M) : MzS G B (d + 9) mm_Mo_take1 M (0, 0) (mzK0 true B K) 126 [(0, .ref (mz_ad B (30, 0))), (1, .int y1), (2, .int y2)] [.int ys0, .ref (mz_ad B (39, 0))] := by
  unfold wp_Mo_take1_126 at h
  exact (mz_iconst (0 : Int32) d_Mo_take1_126 (by decide) (MzS.loc [(0, .ref (mz_ad B (30, 0))), (1, .int y1), (2, .int y2)] ⟨rfl, rfl, rfl, trivial⟩ (tm_Mo_take1_127 hF   y1 y2 (0 : Int32) ys0 M hL h)))
theorem tm_Mo_take1_74 {G : MzG} {B : MzB} {d : Nat} {K : MzM → Prop} (hF : mzLive true B)     (y1 : Int32) (y2 : Int32) (ys0 : Int32) (ys1 : Int32) (M : MzM) (hL : mzLnk true M) (h : wp_Mo_take1_74   K y1 y2 ys0 ys1 M) : MzS G B (d + 9) mm_Mo_take1 M (0, 0) (mzK0 true B K) 74 [(0, .ref (mz_ad B (30, 0))), (1, .int y1), (2, .int y2)] [.int ys0, .int ys1, .ref (mz_ad B (30, 0))] := by
  unfold wp_Mo_take1_74 at h
  exact (mz_callV (As := [.int ys1, .int ys0]) (st := []) (hF 30 0 rfl (by decide)) rfl (mzClOf cl_10) 0 0 d_Mo_take1_74 cs_Mo_put wl_Mo_140 wi_Mo_put wse_Mo_put (Nat.le_of_ble_eq_true rfl) (Nat.zero_le _) (Nat.zero_le _) (MzC.mono (tm_Mo_put (d := (d + 8)) hF  hL h) (fun r9 B9 M68 hq70 => by obtain ⟨rfl, hL69, rfl, hq70⟩ := hq70; exact ⟨none, rfl, (mz_aload_n d_Mo_take1_77 rfl (mz_iload_n d_Mo_take1_78 rfl (mz_iload_n d_Mo_take1_79 rfl (mz_callV (As := [.int y1, .int y2]) (st := []) (hF 30 0 rfl (by decide)) rfl (mzClOf cl_10) 0 0 d_Mo_take1_80 cs_Mo_put wl_Mo_140 wi_Mo_put wse_Mo_put (Nat.le_of_ble_eq_true rfl) (Nat.zero_le _) (Nat.zero_le _) (MzC.mono (tm_Mo_put (d := (d + 8)) hF  hL69 hq70) (fun r9 B9 M71 hq73 => by obtain ⟨rfl, hL72, rfl, hq73⟩ := hq73; exact ⟨none, rfl, (mz_aload_n d_Mo_take1_83 rfl (mz_getR (k := 9) (a := (39, 0)) cl_10 d_Mo_take1_84 (by decide) wf_Mo_56 rfl (hF 30 0 rfl (by decide)) rfl (hL72 (30, 0) 9 (39, 0) rfl rfl (by decide)) (mz_iload_n d_Mo_take1_87 rfl (mz_iconst (0 : Int32) d_Mo_take1_88 (by decide) (match hq73 with | ⟨j77, h78, h79, h76⟩ => mz_iast j77 d_Mo_take1_89 (hF 39 0 rfl (by decide)) rfl h78 h79 (let M74 : MzM := mz_si M71 (39, 0) j77 (0 : Int32); (mz_goto 169 d_Mo_take1_90 rfl (mz_vret d_Mo_take1_169 rfl ⟨rfl, hL72, rfl, (h76 M74 rfl)⟩))))))))⟩))))))⟩)))
theorem tm_Mo_take1_34 {G : MzG} {B : MzB} {d : Nat} {K : MzM → Prop} (hF : mzLive true B)     (y1 : Int32) (y2 : Int32) (M : MzM) (hL : mzLnk true M) (h : wp_Mo_take1_34   K y1 y2 M) : MzS G B (d + 9) mm_Mo_take1 M (0, 0) (mzK0 true B K) 34 [(0, .ref (mz_ad B (30, 0))), (1, .int y1), (2, .int y2)] [] := by
  unfold wp_Mo_take1_34 at h
  exact (mz_aload_n d_Mo_take1_34 rfl (mz_iload_n d_Mo_take1_35 rfl (mz_iconst (3 : Int32) d_Mo_take1_36 (by decide) (mz_callV (As := [.int y1, .int (3 : Int32)]) (st := []) (hF 30 0 rfl (by decide)) rfl (mzClOf cl_10) 0 0 d_Mo_take1_37 cs_Mo_hasRoom wl_Mo_149 wi_Mo_hasRoom wse_Mo_hasRoom (Nat.le_of_ble_eq_true rfl) (Nat.zero_le _) (Nat.zero_le _) (MzC.mono (tm_Mo_hasRoom (d := (d + 8)) hF  hL h) (fun r9 B9 M49 hq51 => by obtain ⟨rfl, hL50, v52, rfl, hq51⟩ := hq51; exact ⟨_, rfl, (mz_if_eq 83 d_Mo_take1_40 rfl (fun hc67 => (mz_aload_n d_Mo_take1_83 rfl (mz_getR (k := 9) (a := (39, 0)) cl_10 d_Mo_take1_84 (by decide) wf_Mo_56 rfl (hF 30 0 rfl (by decide)) rfl (hL50 (30, 0) 9 (39, 0) rfl rfl (by decide)) (mz_iload_n d_Mo_take1_87 rfl (mz_iconst (0 : Int32) d_Mo_take1_88 (by decide) (match (hq51.1 hc67) with | ⟨j56, h57, h58, h55⟩ => mz_iast j56 d_Mo_take1_89 (hF 39 0 rfl (by decide)) rfl h57 h58 (let M53 : MzM := mz_si M49 (39, 0) j56 (0 : Int32); (mz_goto 169 d_Mo_take1_90 rfl (mz_vret d_Mo_take1_169 rfl ⟨rfl, hL50, rfl, (h55 M53 rfl)⟩))))))))) (fun hc67 => (mz_aload_n d_Mo_take1_43 rfl (mz_iload_n d_Mo_take1_44 rfl (mz_sipush (255 : Int32) d_Mo_take1_45 (by decide) (mz_callV (As := [.int y1, .int (255 : Int32)]) (st := []) (hF 30 0 rfl (by decide)) rfl (mzClOf cl_10) 0 0 d_Mo_take1_48 cs_Mo_put wl_Mo_140 wi_Mo_put wse_Mo_put (Nat.le_of_ble_eq_true rfl) (Nat.zero_le _) (Nat.zero_le _) (MzC.mono (tm_Mo_put (d := (d + 8)) hF  hL50 (hq51.2 hc67)) (fun r9 B9 M59 hq61 => by obtain ⟨rfl, hL60, rfl, hq61⟩ := hq61; exact ⟨none, rfl, (mz_aload_n d_Mo_take1_51 rfl (mz_iload_n d_Mo_take1_52 rfl (mz_aload_n d_Mo_take1_53 rfl (mz_getR (k := 9) (a := (39, 0)) cl_10 d_Mo_take1_54 (by decide) wf_Mo_56 rfl (hF 30 0 rfl (by decide)) rfl (hL60 (30, 0) 9 (39, 0) rfl rfl (by decide)) (mz_iload_n d_Mo_take1_57 rfl (match hq61 with | ⟨j62, h63, h64, h65⟩ => mz_iald j62 d_Mo_take1_58 (hF 39 0 rfl (by decide)) rfl h63 h64 (mz_sipush (253 : Int32) d_Mo_take1_59 (by decide) (mz_icmp_ne 71 d_Mo_take1_62 rfl (fun hc66 => (mz_sipush (254 : Int32) d_Mo_take1_71 (by decide) (MzS.loc [(0, .ref (mz_ad B (30, 0))), (1, .int y1), (2, .int y2)] ⟨rfl, rfl, rfl, trivial⟩ (tm_Mo_take1_74 hF   y1 y2 (254 : Int32) y1 M59 hL60 (h65.1 hc66))))) (fun hc66 => (mz_sipush (252 : Int32) d_Mo_take1_65 (by decide) (mz_goto 74 d_Mo_take1_68 rfl (MzS.loc [(0, .ref (mz_ad B (30, 0))), (1, .int y1), (2, .int y2)] ⟨rfl, rfl, rfl, trivial⟩ (tm_Mo_take1_74 hF   y1 y2 (252 : Int32) y1 M59 hL60 (h65.2 hc66))))))))))))))⟩))))))))⟩))))))
theorem tm_Mo_take1 {G : MzG} {B : MzB} {d : Nat} {K : MzM → Prop} (hF : mzLive true B)   {a1 : Int32} {a2 : Int32} {M : MzM} (hL : mzLnk true M) (h : wp_Mo_take1  a1 a2 M K) : MzC G B (d + 9) mm_Mo_take1 [.ref (mz_ad B (30, 0)), .int a1, .int a2] M (0, 0) (mzK0 true B K) := by
  unfold wp_Mo_take1 at h
  exact MzC.of rfl (Nat.le_of_ble_eq_true rfl) (show MzS G B (d + 9) mm_Mo_take1 M (0, 0) (mzK0 true B K) 0 [(0, .ref (mz_ad B (30, 0))), (1, .int a1), (2, .int a2)] [] from (mz_aload_n d_Mo_take1_0 rfl (mz_getR (k := 9) (a := (39, 0)) cl_10 d_Mo_take1_1 (by decide) wf_Mo_56 rfl (hF 30 0 rfl (by decide)) rfl (hL (30, 0) 9 (39, 0) rfl rfl (by decide)) (mz_iload_n d_Mo_take1_4 rfl (match h with | ⟨j1, h2, h3, h4⟩ => mz_iald j1 d_Mo_take1_5 (hF 39 0 rfl (by decide)) rfl h2 h3 (mz_iconst (1 : Int32) d_Mo_take1_6 (by decide) (mz_icmp_le 93 d_Mo_take1_7 rfl (fun hc38 => (mz_aload_n d_Mo_take1_93 rfl (mz_getR (k := 9) (a := (39, 0)) cl_10 d_Mo_take1_94 (by decide) wf_Mo_56 rfl (hF 30 0 rfl (by decide)) rfl (hL (30, 0) 9 (39, 0) rfl rfl (by decide)) (mz_iload_n d_Mo_take1_97 rfl (match (h4.1 hc38) with | ⟨j5, h6, h7, h8⟩ => mz_iald j5 d_Mo_take1_98 (hF 39 0 rfl (by decide)) rfl h6 h7 (mz_iconst (1 : Int32) d_Mo_take1_99 (by decide) (mz_icmp_ne 146 d_Mo_take1_100 rfl (fun hc21 => (mz_iload_n d_Mo_take1_146 rfl (mz_sipush (255 : Int32) d_Mo_take1_147 (by decide) (mz_icmp_ne 163 d_Mo_take1_150 rfl (fun hc18 => (mz_aload_n d_Mo_take1_163 rfl (mz_iload_n d_Mo_take1_164 rfl (mz_iload_n d_Mo_take1_165 rfl (mz_callV (As := [.int a1, .int a2]) (st := []) (hF 30 0 rfl (by decide)) rfl (mzClOf cl_10) 0 0 d_Mo_take1_166 cs_Mo_plain wl_Mo_173 wi_Mo_plain wse_Mo_plain (Nat.le_of_ble_eq_true rfl) (Nat.zero_le _) (Nat.zero_le _) (MzC.mono (tm_Mo_plain (d := d) hF  hL ((h8.1 hc21).1 hc18)) (fun r9 B9 M9 hq11 => by obtain ⟨rfl, hL10, rfl, hq11⟩ := hq11; exact ⟨none, rfl, (mz_vret d_Mo_take1_169 rfl ⟨rfl, hL10, rfl, hq11⟩)⟩))))))) (fun hc18 => (mz_aload_n d_Mo_take1_153 rfl (mz_getR (k := 9) (a := (39, 0)) cl_10 d_Mo_take1_154 (by decide) wf_Mo_56 rfl (hF 30 0 rfl (by decide)) rfl (hL (30, 0) 9 (39, 0) rfl rfl (by decide)) (mz_iload_n d_Mo_take1_157 rfl (mz_iconst (1 : Int32) d_Mo_take1_158 (by decide) (match ((h8.1 hc21).2 hc18) with | ⟨j15, h16, h17, h14⟩ => mz_iast j15 d_Mo_take1_159 (hF 39 0 rfl (by decide)) rfl h16 h17 (let M12 : MzM := mz_si M (39, 0) j15 (1 : Int32); (mz_goto 169 d_Mo_take1_160 rfl (mz_vret d_Mo_take1_169 rfl ⟨rfl, hL, rfl, (h14 M12 rfl)⟩))))))))))))) (fun hc21 => (mz_aload_n d_Mo_take1_103 rfl (mz_getR (k := 9) (a := (39, 0)) cl_10 d_Mo_take1_104 (by decide) wf_Mo_56 rfl (hF 30 0 rfl (by decide)) rfl (hL (30, 0) 9 (39, 0) rfl rfl (by decide)) (mz_iload_n d_Mo_take1_107 rfl (mz_iload_n d_Mo_take1_108 rfl (mz_sipush (251 : Int32) d_Mo_take1_109 (by decide) (mz_icmp_lt 126 d_Mo_take1_112 rfl (fun hc20 => (MzS.loc [(0, .ref (mz_ad B (30, 0))), (1, .int a1), (2, .int a2)] ⟨rfl, rfl, rfl, trivial⟩ (tm_Mo_take1_126 hF   a1 a2 a1 M hL ((h8.2 hc21).1 hc20)))) (fun hc20 => (mz_iload_n d_Mo_take1_115 rfl (mz_sipush (254 : Int32) d_Mo_take1_116 (by decide) (mz_icmp_gt 126 d_Mo_take1_119 rfl (fun hc19 => (MzS.loc [(0, .ref (mz_ad B (30, 0))), (1, .int a1), (2, .int a2)] ⟨rfl, rfl, rfl, trivial⟩ (tm_Mo_take1_126 hF   a1 a2 a1 M hL (((h8.2 hc21).2 hc20).1 hc19)))) (fun hc19 => (mz_iload_n d_Mo_take1_122 rfl (mz_goto 127 d_Mo_take1_123 rfl (MzS.loc [(0, .ref (mz_ad B (30, 0))), (1, .int a1), (2, .int a2)] ⟨rfl, rfl, rfl, trivial⟩ (tm_Mo_take1_127 hF   a1 a2 a2 a1 M hL (((h8.2 hc21).2 hc20).2 hc19)))))))))))))))))))))))) (fun hc38 => (mz_aload_n d_Mo_take1_10 rfl (mz_getR (k := 9) (a := (39, 0)) cl_10 d_Mo_take1_11 (by decide) wf_Mo_56 rfl (hF 30 0 rfl (by decide)) rfl (hL (30, 0) 9 (39, 0) rfl rfl (by decide)) (mz_iload_n d_Mo_take1_14 rfl (match (h4.2 hc38) with | ⟨j22, h23, h24, h25⟩ => mz_iald j22 d_Mo_take1_15 (hF 39 0 rfl (by decide)) rfl h23 h24 (mz_sipush (253 : Int32) d_Mo_take1_16 (by decide) (mz_icmp_eq 34 d_Mo_take1_19 rfl (fun hc37 => (MzS.loc [(0, .ref (mz_ad B (30, 0))), (1, .int a1), (2, .int a2)] ⟨rfl, rfl, rfl, trivial⟩ (tm_Mo_take1_34 hF   a1 a2 M hL (h25.1 hc37)))) (fun hc37 => (mz_aload_n d_Mo_take1_22 rfl (mz_getR (k := 9) (a := (39, 0)) cl_10 d_Mo_take1_23 (by decide) wf_Mo_56 rfl (hF 30 0 rfl (by decide)) rfl (hL (30, 0) 9 (39, 0) rfl rfl (by decide)) (mz_iload_n d_Mo_take1_26 rfl (match (h25.2 hc37) with | ⟨j26, h27, h28, h29⟩ => mz_iald j26 d_Mo_take1_27 (hF 39 0 rfl (by decide)) rfl h27 h28 (mz_sipush (251 : Int32) d_Mo_take1_28 (by decide) (mz_icmp_ne 83 d_Mo_take1_31 rfl (fun hc36 => (mz_aload_n d_Mo_take1_83 rfl (mz_getR (k := 9) (a := (39, 0)) cl_10 d_Mo_take1_84 (by decide) wf_Mo_56 rfl (hF 30 0 rfl (by decide)) rfl (hL (30, 0) 9 (39, 0) rfl rfl (by decide)) (mz_iload_n d_Mo_take1_87 rfl (mz_iconst (0 : Int32) d_Mo_take1_88 (by decide) (match (h29.1 hc36) with | ⟨j33, h34, h35, h32⟩ => mz_iast j33 d_Mo_take1_89 (hF 39 0 rfl (by decide)) rfl h34 h35 (let M30 : MzM := mz_si M (39, 0) j33 (0 : Int32); (mz_goto 169 d_Mo_take1_90 rfl (mz_vret d_Mo_take1_169 rfl ⟨rfl, hL, rfl, (h32 M30 rfl)⟩))))))))) (fun hc36 => (MzS.loc [(0, .ref (mz_ad B (30, 0))), (1, .int a1), (2, .int a2)] ⟨rfl, rfl, rfl, trivial⟩ (tm_Mo_take1_34 hF   a1 a2 M hL (h29.2 hc36)))))))))))))))))))))))))
def mm_Mo_feed : MzT := (⟨"ParcelLineModel", "feed", "(II)Z"⟩, prog_14_method_22_code, 3, (Option.some Jvm.ClassFile.FieldType.boolean))
theorem cs_Mo_feed {mm : MzT} : mzCall mm mm_Mo_feed 2 := ⟨wn_Mo, wco_Mo_feed, by decide +kernel, by decide⟩
theorem d_Mo_feed_0 : decode mm_Mo_feed.2.1 0 = .ok (.aload_n 0, 1) := by decide +kernel
theorem d_Mo_feed_1 : decode mm_Mo_feed.2.1 1 = .ok (.iconst 0, 1) := by decide +kernel
theorem d_Mo_feed_2 : decode mm_Mo_feed.2.1 2 = .ok (.putfield 126, 3) := by decide +kernel
theorem d_Mo_feed_5 : decode mm_Mo_feed.2.1 5 = .ok (.iload_n 1, 1) := by decide +kernel
theorem d_Mo_feed_6 : decode mm_Mo_feed.2.1 6 = .ok (.invokestatic 182, 3) := by decide +kernel
theorem d_Mo_feed_9 : decode mm_Mo_feed.2.1 9 = .ok (.ifCond .ne 5, 3) := by decide +kernel
theorem d_Mo_feed_12 : decode mm_Mo_feed.2.1 12 = .ok (.iconst 0, 1) := by decide +kernel
theorem d_Mo_feed_13 : decode mm_Mo_feed.2.1 13 = .ok (.ireturn, 1) := by decide +kernel
theorem d_Mo_feed_14 : decode mm_Mo_feed.2.1 14 = .ok (.aload_n 0, 1) := by decide +kernel
theorem d_Mo_feed_15 : decode mm_Mo_feed.2.1 15 = .ok (.iload_n 1, 1) := by decide +kernel
theorem d_Mo_feed_16 : decode mm_Mo_feed.2.1 16 = .ok (.iload_n 2, 1) := by decide +kernel
theorem d_Mo_feed_17 : decode mm_Mo_feed.2.1 17 = .ok (.sipush 255, 3) := by decide +kernel
theorem d_Mo_feed_20 : decode mm_Mo_feed.2.1 20 = .ok (.iand, 1) := by decide +kernel
theorem d_Mo_feed_21 : decode mm_Mo_feed.2.1 21 = .ok (.invokevirtual 186, 3) := by decide +kernel
theorem d_Mo_feed_24 : decode mm_Mo_feed.2.1 24 = .ok (.iconst 1, 1) := by decide +kernel
theorem d_Mo_feed_25 : decode mm_Mo_feed.2.1 25 = .ok (.ireturn, 1) := by decide +kernel
def wp_Mo_feed  (a1 : Int32) (a2 : Int32) (M : MzM) (K : Int32 → MzM → Prop) : Prop := (∀ M1 : MzM, M1 = mz_si M (30, 0) 1 (0 : Int32) → wp_Mo_isSession  a1 M1 (fun v5 M2 => ((¬ v5 = 0 → wp_Mo_take1  a1 (a2 &&& (255 : Int32)) M2 (fun M6 => K (1 : Int32) M6)) ∧ (v5 = 0 → K (0 : Int32) M2))))
theorem tm_Mo_feed {G : MzG} {B : MzB} {d : Nat} {K : Int32 → MzM → Prop} (hF : mzLive true B)   {a1 : Int32} {a2 : Int32} {M : MzM} (hL : mzLnk true M) (h : wp_Mo_feed  a1 a2 M K) : MzC G B (d + 10) mm_Mo_feed [.ref (mz_ad B (30, 0)), .int a1, .int a2] M (0, 0) (mzK1 true B K) := by
  unfold wp_Mo_feed at h
  exact MzC.of rfl (Nat.le_of_ble_eq_true rfl) (show MzS G B (d + 10) mm_Mo_feed M (0, 0) (mzK1 true B K) 0 [(0, .ref (mz_ad B (30, 0))), (1, .int a1), (2, .int a2)] [] from (mz_aload_n d_Mo_feed_0 rfl (mz_iconst (0 : Int32) d_Mo_feed_1 (by decide) (mz_putI (k := 1) cl_10 d_Mo_feed_2 (by decide) wf_Mo_126 rfl rfl rfl rfl (hF 30 0 rfl (by decide)) rfl (let M1 : MzM := mz_si M (30, 0) 1 (0 : Int32); (mz_iload_n d_Mo_feed_5 rfl (mz_callS (As := [.int a1]) (st := []) 0 0 d_Mo_feed_6 cs_Mo_isSession wl_Mo_182 ws_Mo_isSession (Nat.le_of_ble_eq_true rfl) (Nat.zero_le _) (Nat.zero_le _) (MzC.mono (tm_Mo_isSession (d := (d + 9)) hF  hL (h M1 rfl)) (fun r9 B9 M2 hq4 => by obtain ⟨rfl, hL3, v5, rfl, hq4⟩ := hq4; exact ⟨_, rfl, (mz_if_ne 14 d_Mo_feed_9 rfl (fun hc9 => (mz_aload_n d_Mo_feed_14 rfl (mz_iload_n d_Mo_feed_15 rfl (mz_iload_n d_Mo_feed_16 rfl (mz_sipush (255 : Int32) d_Mo_feed_17 (by decide) (mz_iand d_Mo_feed_20 (mz_callV (As := [.int a1, .int (a2 &&& (255 : Int32))]) (st := []) (hF 30 0 rfl (by decide)) rfl (mzClOf cl_10) 0 0 d_Mo_feed_21 cs_Mo_take1 wl_Mo_186 wi_Mo_take1 wse_Mo_take1 (Nat.le_of_ble_eq_true rfl) (Nat.zero_le _) (Nat.zero_le _) (MzC.mono (tm_Mo_take1 (d := d) hF  hL3 (hq4.1 hc9)) (fun r9 B9 M6 hq8 => by obtain ⟨rfl, hL7, rfl, hq8⟩ := hq8; exact ⟨none, rfl, (mz_iconst (1 : Int32) d_Mo_feed_24 (by decide) (mz_iret .boolean d_Mo_feed_25 rfl rfl ⟨rfl, hL7, _, rfl, hq8⟩))⟩))))))))) (fun hc9 => (mz_iconst (0 : Int32) d_Mo_feed_12 (by decide) (mz_iret .boolean d_Mo_feed_13 rfl rfl ⟨rfl, hL3, _, rfl, (hq4.2 hc9)⟩))))⟩)))))))))
def mm_Mo_closeWay : MzT := (⟨"ParcelLineModel", "closeWay", "(I)V"⟩, prog_14_method_55_code, 2, (Option.none : Option Jvm.ClassFile.FieldType))
theorem cs_Mo_closeWay {mm : MzT} : mzCall mm mm_Mo_closeWay 1 := ⟨wn_Mo, wco_Mo_closeWay, by decide +kernel, by decide⟩
theorem d_Mo_closeWay_0 : decode mm_Mo_closeWay.2.1 0 = .ok (.aload_n 0, 1) := by decide +kernel
theorem d_Mo_closeWay_1 : decode mm_Mo_closeWay.2.1 1 = .ok (.getfield 98, 3) := by decide +kernel
theorem d_Mo_closeWay_4 : decode mm_Mo_closeWay.2.1 4 = .ok (.iload_n 1, 1) := by decide +kernel
theorem d_Mo_closeWay_5 : decode mm_Mo_closeWay.2.1 5 = .ok (.iaload, 1) := by decide +kernel
theorem d_Mo_closeWay_6 : decode mm_Mo_closeWay.2.1 6 = .ok (.iconst 2, 1) := by decide +kernel
theorem d_Mo_closeWay_7 : decode mm_Mo_closeWay.2.1 7 = .ok (.if_icmp .ne 9, 3) := by decide +kernel
theorem d_Mo_closeWay_10 : decode mm_Mo_closeWay.2.1 10 = .ok (.aload_n 0, 1) := by decide +kernel
theorem d_Mo_closeWay_11 : decode mm_Mo_closeWay.2.1 11 = .ok (.iload_n 1, 1) := by decide +kernel
theorem d_Mo_closeWay_12 : decode mm_Mo_closeWay.2.1 12 = .ok (.invokevirtual 292, 3) := by decide +kernel
theorem d_Mo_closeWay_15 : decode mm_Mo_closeWay.2.1 15 = .ok (.return_, 1) := by decide +kernel
theorem d_Mo_closeWay_16 : decode mm_Mo_closeWay.2.1 16 = .ok (.aload_n 0, 1) := by decide +kernel
theorem d_Mo_closeWay_17 : decode mm_Mo_closeWay.2.1 17 = .ok (.iload_n 1, 1) := by decide +kernel
theorem d_Mo_closeWay_18 : decode mm_Mo_closeWay.2.1 18 = .ok (.putfield 137, 3) := by decide +kernel
theorem d_Mo_closeWay_21 : decode mm_Mo_closeWay.2.1 21 = .ok (.aload_n 0, 1) := by decide +kernel
theorem d_Mo_closeWay_22 : decode mm_Mo_closeWay.2.1 22 = .ok (.getfield 98, 3) := by decide +kernel
theorem d_Mo_closeWay_25 : decode mm_Mo_closeWay.2.1 25 = .ok (.iload_n 1, 1) := by decide +kernel
theorem d_Mo_closeWay_26 : decode mm_Mo_closeWay.2.1 26 = .ok (.iaload, 1) := by decide +kernel
theorem d_Mo_closeWay_27 : decode mm_Mo_closeWay.2.1 27 = .ok (.iconst 1, 1) := by decide +kernel
theorem d_Mo_closeWay_28 : decode mm_Mo_closeWay.2.1 28 = .ok (.if_icmp .ne 10, 3) := by decide +kernel
theorem d_Mo_closeWay_31 : decode mm_Mo_closeWay.2.1 31 = .ok (.aload_n 0, 1) := by decide +kernel
theorem d_Mo_closeWay_32 : decode mm_Mo_closeWay.2.1 32 = .ok (.sipush 426, 3) := by decide +kernel
theorem d_Mo_closeWay_35 : decode mm_Mo_closeWay.2.1 35 = .ok (.invokevirtual 218, 3) := by decide +kernel
theorem d_Mo_closeWay_38 : decode mm_Mo_closeWay.2.1 38 = .ok (.aload_n 0, 1) := by decide +kernel
theorem d_Mo_closeWay_39 : decode mm_Mo_closeWay.2.1 39 = .ok (.iload_n 1, 1) := by decide +kernel
theorem d_Mo_closeWay_40 : decode mm_Mo_closeWay.2.1 40 = .ok (.invokevirtual 130, 3) := by decide +kernel
theorem d_Mo_closeWay_43 : decode mm_Mo_closeWay.2.1 43 = .ok (.return_, 1) := by decide +kernel
def wp_Mo_closeWay  (a1 : Int32) (M : MzM) (K : MzM → Prop) : Prop := (∃ j1 : Nat, a1.toInt = (j1 : Int) ∧ j1 < 2 ∧ ((¬ (mz_i M (53, 0) j1) = (2 : Int32) → (∀ M5 : MzM, M5 = mz_si M (30, 0) 29 a1 → (∃ j6 : Nat, a1.toInt = (j6 : Int) ∧ j6 < 2 ∧ ((¬ (mz_i M5 (53, 0) j6) = (1 : Int32) → wp_Mo_endTransfer  a1 M5 (fun M10 => K M10)) ∧ ((mz_i M5 (53, 0) j6) = (1 : Int32) → wp_Mo_answer  (426 : Int32) M5 (fun M13 => wp_Mo_endTransfer  a1 M13 (fun M16 => K M16))))))) ∧ ((mz_i M (53, 0) j1) = (2 : Int32) → wp_Mo_finish  a1 M (fun M20 => K M20))))
theorem tm_Mo_closeWay {G : MzG} {B : MzB} {d : Nat} {K : MzM → Prop} (hF : mzLive true B)   {a1 : Int32} {M : MzM} (hL : mzLnk true M) (h : wp_Mo_closeWay  a1 M K) : MzC G B (d + 4) mm_Mo_closeWay [.ref (mz_ad B (30, 0)), .int a1] M (0, 0) (mzK0 true B K) := by
  unfold wp_Mo_closeWay at h
  exact MzC.of rfl (Nat.le_of_ble_eq_true rfl) (show MzS G B (d + 4) mm_Mo_closeWay M (0, 0) (mzK0 true B K) 0 [(0, .ref (mz_ad B (30, 0))), (1, .int a1)] [] from (mz_aload_n d_Mo_closeWay_0 rfl (mz_getR (k := 23) (a := (53, 0)) cl_10 d_Mo_closeWay_1 (by decide) wf_Mo_98 rfl (hF 30 0 rfl (by decide)) rfl (hL (30, 0) 23 (53, 0) rfl rfl (by decide)) (mz_iload_n d_Mo_closeWay_4 rfl (match h with | ⟨j1, h2, h3, h4⟩ => mz_iald j1 d_Mo_closeWay_5 (hF 53 0 rfl (by decide)) rfl h2 h3 (mz_iconst (2 : Int32) d_Mo_closeWay_6 (by decide) (mz_icmp_ne 16 d_Mo_closeWay_7 rfl (fun hc23 => (mz_aload_n d_Mo_closeWay_16 rfl (mz_iload_n d_Mo_closeWay_17 rfl (mz_putI (k := 29) cl_10 d_Mo_closeWay_18 (by decide) wf_Mo_137 rfl rfl rfl rfl (hF 30 0 rfl (by decide)) rfl (let M5 : MzM := mz_si M (30, 0) 29 a1; (mz_aload_n d_Mo_closeWay_21 rfl (mz_getR (k := 23) (a := (53, 0)) cl_10 d_Mo_closeWay_22 (by decide) wf_Mo_98 rfl (hF 30 0 rfl (by decide)) rfl (hL (30, 0) 23 (53, 0) rfl rfl (by decide)) (mz_iload_n d_Mo_closeWay_25 rfl (match ((h4.1 hc23) M5 rfl) with | ⟨j6, h7, h8, h9⟩ => mz_iald j6 d_Mo_closeWay_26 (hF 53 0 rfl (by decide)) rfl h7 h8 (mz_iconst (1 : Int32) d_Mo_closeWay_27 (by decide) (mz_icmp_ne 38 d_Mo_closeWay_28 rfl (fun hc19 => (mz_aload_n d_Mo_closeWay_38 rfl (mz_iload_n d_Mo_closeWay_39 rfl (mz_callV (As := [.int a1]) (st := []) (hF 30 0 rfl (by decide)) rfl (mzClOf cl_10) 0 0 d_Mo_closeWay_40 cs_Mo_endTransfer wl_Mo_130 wi_Mo_endTransfer wse_Mo_endTransfer (Nat.le_of_ble_eq_true rfl) (Nat.zero_le _) (Nat.zero_le _) (MzC.mono (tm_Mo_endTransfer (d := (d + 2)) hF  hL (h9.1 hc19)) (fun r9 B9 M10 hq12 => by obtain ⟨rfl, hL11, rfl, hq12⟩ := hq12; exact ⟨none, rfl, (mz_vret d_Mo_closeWay_43 rfl ⟨rfl, hL11, rfl, hq12⟩)⟩)))))) (fun hc19 => (mz_aload_n d_Mo_closeWay_31 rfl (mz_sipush (426 : Int32) d_Mo_closeWay_32 (by decide) (mz_callV (As := [.int (426 : Int32)]) (st := []) (hF 30 0 rfl (by decide)) rfl (mzClOf cl_10) 0 0 d_Mo_closeWay_35 cs_Mo_answer wl_Mo_218 wi_Mo_answer wse_Mo_answer (Nat.le_of_ble_eq_true rfl) (Nat.zero_le _) (Nat.zero_le _) (MzC.mono (tm_Mo_answer (d := (d + 1)) hF  hL (h9.2 hc19)) (fun r9 B9 M13 hq15 => by obtain ⟨rfl, hL14, rfl, hq15⟩ := hq15; exact ⟨none, rfl, (mz_aload_n d_Mo_closeWay_38 rfl (mz_iload_n d_Mo_closeWay_39 rfl (mz_callV (As := [.int a1]) (st := []) (hF 30 0 rfl (by decide)) rfl (mzClOf cl_10) 0 0 d_Mo_closeWay_40 cs_Mo_endTransfer wl_Mo_130 wi_Mo_endTransfer wse_Mo_endTransfer (Nat.le_of_ble_eq_true rfl) (Nat.zero_le _) (Nat.zero_le _) (MzC.mono (tm_Mo_endTransfer (d := (d + 2)) hF  hL14 hq15) (fun r9 B9 M16 hq18 => by obtain ⟨rfl, hL17, rfl, hq18⟩ := hq18; exact ⟨none, rfl, (mz_vret d_Mo_closeWay_43 rfl ⟨rfl, hL17, rfl, hq18⟩)⟩)))))⟩))))))))))))))))) (fun hc23 => (mz_aload_n d_Mo_closeWay_10 rfl (mz_iload_n d_Mo_closeWay_11 rfl (mz_callV (As := [.int a1]) (st := []) (hF 30 0 rfl (by decide)) rfl (mzClOf cl_10) 0 0 d_Mo_closeWay_12 cs_Mo_finish wl_Mo_292 wi_Mo_finish wse_Mo_finish (Nat.le_of_ble_eq_true rfl) (Nat.zero_le _) (Nat.zero_le _) (MzC.mono (tm_Mo_finish (d := d) hF  hL (h4.2 hc23)) (fun r9 B9 M20 hq22 => by obtain ⟨rfl, hL21, rfl, hq22⟩ := hq22; exact ⟨none, rfl, (mz_vret d_Mo_closeWay_15 rfl ⟨rfl, hL21, rfl, hq22⟩)⟩)))))))))))))
def mm_Mo_close : MzT := (⟨"ParcelLineModel", "close", "(I)V"⟩, prog_14_method_56_code, 2, (Option.none : Option Jvm.ClassFile.FieldType))
theorem cs_Mo_close {mm : MzT} : mzCall mm mm_Mo_close 1 := ⟨wn_Mo, wco_Mo_close, by decide +kernel, by decide⟩
theorem d_Mo_close_0 : decode mm_Mo_close.2.1 0 = .ok (.aload_n 0, 1) := by decide +kernel
theorem d_Mo_close_1 : decode mm_Mo_close.2.1 1 = .ok (.iconst 0, 1) := by decide +kernel
theorem d_Mo_close_2 : decode mm_Mo_close.2.1 2 = .ok (.putfield 126, 3) := by decide +kernel
theorem d_Mo_close_5 : decode mm_Mo_close.2.1 5 = .ok (.iload_n 1, 1) := by decide +kernel
theorem d_Mo_close_6 : decode mm_Mo_close.2.1 6 = .ok (.invokestatic 182, 3) := by decide +kernel
theorem d_Mo_close_9 : decode mm_Mo_close.2.1 9 = .ok (.ifCond .ne 11, 3) := by decide +kernel
theorem d_Mo_close_12 : decode mm_Mo_close.2.1 12 = .ok (.aload_n 0, 1) := by decide +kernel
theorem d_Mo_close_13 : decode mm_Mo_close.2.1 13 = .ok (.iconst 1, 1) := by decide +kernel
theorem d_Mo_close_14 : decode mm_Mo_close.2.1 14 = .ok (.putfield 126, 3) := by decide +kernel
theorem d_Mo_close_17 : decode mm_Mo_close.2.1 17 = .ok (.goto 25, 3) := by decide +kernel
theorem d_Mo_close_20 : decode mm_Mo_close.2.1 20 = .ok (.aload_n 0, 1) := by decide +kernel
theorem d_Mo_close_21 : decode mm_Mo_close.2.1 21 = .ok (.getfield 95, 3) := by decide +kernel
theorem d_Mo_close_24 : decode mm_Mo_close.2.1 24 = .ok (.iload_n 1, 1) := by decide +kernel
theorem d_Mo_close_25 : decode mm_Mo_close.2.1 25 = .ok (.baload, 1) := by decide +kernel
theorem d_Mo_close_26 : decode mm_Mo_close.2.1 26 = .ok (.ifCond .ne 11, 3) := by decide +kernel
theorem d_Mo_close_29 : decode mm_Mo_close.2.1 29 = .ok (.aload_n 0, 1) := by decide +kernel
theorem d_Mo_close_30 : decode mm_Mo_close.2.1 30 = .ok (.iconst 2, 1) := by decide +kernel
theorem d_Mo_close_31 : decode mm_Mo_close.2.1 31 = .ok (.putfield 126, 3) := by decide +kernel
theorem d_Mo_close_34 : decode mm_Mo_close.2.1 34 = .ok (.goto 8, 3) := by decide +kernel
theorem d_Mo_close_37 : decode mm_Mo_close.2.1 37 = .ok (.aload_n 0, 1) := by decide +kernel
theorem d_Mo_close_38 : decode mm_Mo_close.2.1 38 = .ok (.iload_n 1, 1) := by decide +kernel
theorem d_Mo_close_39 : decode mm_Mo_close.2.1 39 = .ok (.invokevirtual 307, 3) := by decide +kernel
theorem d_Mo_close_42 : decode mm_Mo_close.2.1 42 = .ok (.return_, 1) := by decide +kernel
def wp_Mo_close  (a1 : Int32) (M : MzM) (K : MzM → Prop) : Prop := (∀ M1 : MzM, M1 = mz_si M (30, 0) 1 (0 : Int32) → wp_Mo_isSession  a1 M1 (fun v5 M2 => ((¬ v5 = 0 → (∃ j6 : Nat, a1.toInt = (j6 : Int) ∧ j6 < 2 ∧ ((¬ (mz_i M2 (52, 0) j6) = 0 → wp_Mo_closeWay  a1 M2 (fun M10 => K M10)) ∧ ((mz_i M2 (52, 0) j6) = 0 → (∀ M13 : MzM, M13 = mz_si M2 (30, 0) 1 (2 : Int32) → K M13))))) ∧ (v5 = 0 → (∀ M15 : MzM, M15 = mz_si M2 (30, 0) 1 (1 : Int32) → K M15)))))
theorem tm_Mo_close {G : MzG} {B : MzB} {d : Nat} {K : MzM → Prop} (hF : mzLive true B)   {a1 : Int32} {M : MzM} (hL : mzLnk true M) (h : wp_Mo_close  a1 M K) : MzC G B (d + 5) mm_Mo_close [.ref (mz_ad B (30, 0)), .int a1] M (0, 0) (mzK0 true B K) := by
  unfold wp_Mo_close at h
  exact MzC.of rfl (Nat.le_of_ble_eq_true rfl) (show MzS G B (d + 5) mm_Mo_close M (0, 0) (mzK0 true B K) 0 [(0, .ref (mz_ad B (30, 0))), (1, .int a1)] [] from (mz_aload_n d_Mo_close_0 rfl (mz_iconst (0 : Int32) d_Mo_close_1 (by decide) (mz_putI (k := 1) cl_10 d_Mo_close_2 (by decide) wf_Mo_126 rfl rfl rfl rfl (hF 30 0 rfl (by decide)) rfl (let M1 : MzM := mz_si M (30, 0) 1 (0 : Int32); (mz_iload_n d_Mo_close_5 rfl (mz_callS (As := [.int a1]) (st := []) 0 0 d_Mo_close_6 cs_Mo_isSession wl_Mo_182 ws_Mo_isSession (Nat.le_of_ble_eq_true rfl) (Nat.zero_le _) (Nat.zero_le _) (MzC.mono (tm_Mo_isSession (d := (d + 4)) hF  hL (h M1 rfl)) (fun r9 B9 M2 hq4 => by obtain ⟨rfl, hL3, v5, rfl, hq4⟩ := hq4; exact ⟨_, rfl, (mz_if_ne 20 d_Mo_close_9 rfl (fun hc16 => (mz_aload_n d_Mo_close_20 rfl (mz_getR (k := 22) (a := (52, 0)) cl_10 d_Mo_close_21 (by decide) wf_Mo_95 rfl (hF 30 0 rfl (by decide)) rfl (hL3 (30, 0) 22 (52, 0) rfl rfl (by decide)) (mz_iload_n d_Mo_close_24 rfl (match (hq4.1 hc16) with | ⟨j6, h7, h8, h9⟩ => mz_zald j6 d_Mo_close_25 (hF 52 0 rfl (by decide)) rfl h7 h8 (mz_if_ne 37 d_Mo_close_26 rfl (fun hc14 => (mz_aload_n d_Mo_close_37 rfl (mz_iload_n d_Mo_close_38 rfl (mz_callV (As := [.int a1]) (st := []) (hF 30 0 rfl (by decide)) rfl (mzClOf cl_10) 0 0 d_Mo_close_39 cs_Mo_closeWay wl_Mo_307 wi_Mo_closeWay wse_Mo_closeWay (Nat.le_of_ble_eq_true rfl) (Nat.zero_le _) (Nat.zero_le _) (MzC.mono (tm_Mo_closeWay (d := d) hF  hL3 (h9.1 hc14)) (fun r9 B9 M10 hq12 => by obtain ⟨rfl, hL11, rfl, hq12⟩ := hq12; exact ⟨none, rfl, (mz_vret d_Mo_close_42 rfl ⟨rfl, hL11, rfl, hq12⟩)⟩)))))) (fun hc14 => (mz_aload_n d_Mo_close_29 rfl (mz_iconst (2 : Int32) d_Mo_close_30 (by decide) (mz_putI (k := 1) cl_10 d_Mo_close_31 (by decide) wf_Mo_126 rfl rfl rfl rfl (hF 30 0 rfl (by decide)) rfl (let M13 : MzM := mz_si M2 (30, 0) 1 (2 : Int32); (mz_goto 42 d_Mo_close_34 rfl (mz_vret d_Mo_close_42 rfl ⟨rfl, hL3, rfl, ((h9.2 hc14) M13 rfl)⟩))))))))))))) (fun hc16 => (mz_aload_n d_Mo_close_12 rfl (mz_iconst (1 : Int32) d_Mo_close_13 (by decide) (mz_putI (k := 1) cl_10 d_Mo_close_14 (by decide) wf_Mo_126 rfl rfl rfl rfl (hF 30 0 rfl (by decide)) rfl (let M15 : MzM := mz_si M2 (30, 0) 1 (1 : Int32); (mz_goto 42 d_Mo_close_17 rfl (mz_vret d_Mo_close_42 rfl ⟨rfl, hL3, rfl, ((hq4.2 hc16) M15 rfl)⟩))))))))⟩)))))))))
def mm_Mo_bringOne : MzT := (⟨"ParcelLineModel", "bringOne", "(II)V"⟩, prog_14_method_57_code, 4, (Option.none : Option Jvm.ClassFile.FieldType))
theorem cs_Mo_bringOne {mm : MzT} : mzCall mm mm_Mo_bringOne 2 := ⟨wn_Mo, wco_Mo_bringOne, by decide +kernel, by decide⟩
theorem d_Mo_bringOne_0 : decode mm_Mo_bringOne.2.1 0 = .ok (.aload_n 0, 1) := by decide +kernel
theorem d_Mo_bringOne_1 : decode mm_Mo_bringOne.2.1 1 = .ok (.getfield 101, 3) := by decide +kernel
theorem d_Mo_bringOne_4 : decode mm_Mo_bringOne.2.1 4 = .ok (.iload_n 1, 1) := by decide +kernel
theorem d_Mo_bringOne_5 : decode mm_Mo_bringOne.2.1 5 = .ok (.iaload, 1) := by decide +kernel
theorem d_Mo_bringOne_6 : decode mm_Mo_bringOne.2.1 6 = .ok (.istore_n 3, 1) := by decide +kernel
theorem d_Mo_bringOne_7 : decode mm_Mo_bringOne.2.1 7 = .ok (.aload_n 0, 1) := by decide +kernel
theorem d_Mo_bringOne_8 : decode mm_Mo_bringOne.2.1 8 = .ok (.getfield 92, 3) := by decide +kernel
theorem d_Mo_bringOne_11 : decode mm_Mo_bringOne.2.1 11 = .ok (.iload_n 1, 1) := by decide +kernel
theorem d_Mo_bringOne_12 : decode mm_Mo_bringOne.2.1 12 = .ok (.baload, 1) := by decide +kernel
theorem d_Mo_bringOne_13 : decode mm_Mo_bringOne.2.1 13 = .ok (.ifCond .eq 57, 3) := by decide +kernel
theorem d_Mo_bringOne_16 : decode mm_Mo_bringOne.2.1 16 = .ok (.aload_n 0, 1) := by decide +kernel
theorem d_Mo_bringOne_17 : decode mm_Mo_bringOne.2.1 17 = .ok (.getfield 104, 3) := by decide +kernel
theorem d_Mo_bringOne_20 : decode mm_Mo_bringOne.2.1 20 = .ok (.iload_n 1, 1) := by decide +kernel
theorem d_Mo_bringOne_21 : decode mm_Mo_bringOne.2.1 21 = .ok (.baload, 1) := by decide +kernel
theorem d_Mo_bringOne_22 : decode mm_Mo_bringOne.2.1 22 = .ok (.ifCond .eq 16, 3) := by decide +kernel
theorem d_Mo_bringOne_25 : decode mm_Mo_bringOne.2.1 25 = .ok (.iload_n 2, 1) := by decide +kernel
theorem d_Mo_bringOne_26 : decode mm_Mo_bringOne.2.1 26 = .ok (.bipush 10, 2) := by decide +kernel
theorem d_Mo_bringOne_28 : decode mm_Mo_bringOne.2.1 28 = .ok (.if_icmp .eq 10, 3) := by decide +kernel
theorem d_Mo_bringOne_31 : decode mm_Mo_bringOne.2.1 31 = .ok (.aload_n 0, 1) := by decide +kernel
theorem d_Mo_bringOne_32 : decode mm_Mo_bringOne.2.1 32 = .ok (.iload_n 3, 1) := by decide +kernel
theorem d_Mo_bringOne_33 : decode mm_Mo_bringOne.2.1 33 = .ok (.bipush 13, 2) := by decide +kernel
theorem d_Mo_bringOne_35 : decode mm_Mo_bringOne.2.1 35 = .ok (.invokevirtual 133, 3) := by decide +kernel
theorem d_Mo_bringOne_38 : decode mm_Mo_bringOne.2.1 38 = .ok (.aload_n 0, 1) := by decide +kernel
theorem d_Mo_bringOne_39 : decode mm_Mo_bringOne.2.1 39 = .ok (.getfield 104, 3) := by decide +kernel
theorem d_Mo_bringOne_42 : decode mm_Mo_bringOne.2.1 42 = .ok (.iload_n 1, 1) := by decide +kernel
theorem d_Mo_bringOne_43 : decode mm_Mo_bringOne.2.1 43 = .ok (.iload_n 2, 1) := by decide +kernel
theorem d_Mo_bringOne_44 : decode mm_Mo_bringOne.2.1 44 = .ok (.bipush 13, 2) := by decide +kernel
theorem d_Mo_bringOne_46 : decode mm_Mo_bringOne.2.1 46 = .ok (.if_icmp .ne 7, 3) := by decide +kernel
theorem d_Mo_bringOne_49 : decode mm_Mo_bringOne.2.1 49 = .ok (.iconst 1, 1) := by decide +kernel
theorem d_Mo_bringOne_50 : decode mm_Mo_bringOne.2.1 50 = .ok (.goto 4, 3) := by decide +kernel
theorem d_Mo_bringOne_53 : decode mm_Mo_bringOne.2.1 53 = .ok (.iconst 0, 1) := by decide +kernel
theorem d_Mo_bringOne_54 : decode mm_Mo_bringOne.2.1 54 = .ok (.bastore, 1) := by decide +kernel
theorem d_Mo_bringOne_55 : decode mm_Mo_bringOne.2.1 55 = .ok (.iload_n 2, 1) := by decide +kernel
theorem d_Mo_bringOne_56 : decode mm_Mo_bringOne.2.1 56 = .ok (.bipush 13, 2) := by decide +kernel
theorem d_Mo_bringOne_58 : decode mm_Mo_bringOne.2.1 58 = .ok (.if_icmp .eq 18, 3) := by decide +kernel
theorem d_Mo_bringOne_61 : decode mm_Mo_bringOne.2.1 61 = .ok (.aload_n 0, 1) := by decide +kernel
theorem d_Mo_bringOne_62 : decode mm_Mo_bringOne.2.1 62 = .ok (.iload_n 3, 1) := by decide +kernel
theorem d_Mo_bringOne_63 : decode mm_Mo_bringOne.2.1 63 = .ok (.iload_n 2, 1) := by decide +kernel
theorem d_Mo_bringOne_64 : decode mm_Mo_bringOne.2.1 64 = .ok (.invokevirtual 133, 3) := by decide +kernel
theorem d_Mo_bringOne_67 : decode mm_Mo_bringOne.2.1 67 = .ok (.goto 9, 3) := by decide +kernel
theorem d_Mo_bringOne_70 : decode mm_Mo_bringOne.2.1 70 = .ok (.aload_n 0, 1) := by decide +kernel
theorem d_Mo_bringOne_71 : decode mm_Mo_bringOne.2.1 71 = .ok (.iload_n 3, 1) := by decide +kernel
theorem d_Mo_bringOne_72 : decode mm_Mo_bringOne.2.1 72 = .ok (.iload_n 2, 1) := by decide +kernel
theorem d_Mo_bringOne_73 : decode mm_Mo_bringOne.2.1 73 = .ok (.invokevirtual 133, 3) := by decide +kernel
theorem d_Mo_bringOne_76 : decode mm_Mo_bringOne.2.1 76 = .ok (.return_, 1) := by decide +kernel
def wp_Mo_bringOne_54   (K : MzM → Prop) (y2 : Int32) (y3 : Int32) (ys0 : Int32) (ys1 : Int32) (M : MzM) : Prop := ((ys0 = 0 ∨ ys0 = 1) ∧ ∃ j26 : Nat, ys1.toInt = (j26 : Int) ∧ j26 < 2 ∧ ∀ M23 : MzM, M23 = mz_si M (55, 0) j26 ys0 → ((y2 = (13 : Int32) → K M23) ∧ (¬ y2 = (13 : Int32) → wp_Mo_keep  y3 y2 M23 (fun M29 => K M29))))
def wp_Mo_bringOne_38   (K : MzM → Prop) (y1 : Int32) (y2 : Int32) (y3 : Int32) (M : MzM) : Prop := ((¬ y2 = (13 : Int32) → wp_Mo_bringOne_54   K y2 y3 (0 : Int32) y1 M) ∧ (y2 = (13 : Int32) → wp_Mo_bringOne_54   K y2 y3 (1 : Int32) y1 M))
def wp_Mo_bringOne  (a1 : Int32) (a2 : Int32) (M : MzM) (K : MzM → Prop) : Prop := (∃ j1 : Nat, a1.toInt = (j1 : Int) ∧ j1 < 2 ∧ (∃ j5 : Nat, a1.toInt = (j5 : Int) ∧ j5 < 2 ∧ (((mz_i M (51, 0) j5) = 0 → wp_Mo_keep  (mz_i M (54, 0) j1) a2 M (fun M9 => K M9)) ∧ (¬ (mz_i M (51, 0) j5) = 0 → (∃ j12 : Nat, a1.toInt = (j12 : Int) ∧ j12 < 2 ∧ (((mz_i M (55, 0) j12) = 0 → wp_Mo_bringOne_38   K a1 a2 (mz_i M (54, 0) j1) M) ∧ (¬ (mz_i M (55, 0) j12) = 0 → ((a2 = (10 : Int32) → wp_Mo_bringOne_38   K a1 a2 (mz_i M (54, 0) j1) M) ∧ (¬ a2 = (10 : Int32) → wp_Mo_keep  (mz_i M (54, 0) j1) (13 : Int32) M (fun M16 => wp_Mo_bringOne_38   K a1 a2 (mz_i M (54, 0) j1) M16))))))))))
theorem tm_Mo_bringOne_54 {G : MzG} {B : MzB} {d : Nat} {K : MzM → Prop} (hF : mzLive true B)     (y2 : Int32) (y3 : Int32) (ys0 : Int32) (ys1 : Int32) (M : MzM) (hL : mzLnk true M) (h : wp_Mo_bringOne_54   K y2 y3 ys0 ys1 M) : MzS G B (d + 1) mm_Mo_bringOne M (0, 0) (mzK0 true B K) 54 [(0, .ref (mz_ad B (30, 0))), (2, .int y2), (3, .int y3)] [.int ys0, .int ys1, .ref (mz_ad B (55, 0))] := by
  unfold wp_Mo_bringOne_54 at h
  exact (match h with | ⟨hb24, j26, h27, h28, h25⟩ => mz_zast j26 d_Mo_bringOne_54 (hF 55 0 rfl (by decide)) rfl h27 h28 (mz_boN hb24) (let M23 : MzM := mz_si M (55, 0) j26 ys0; (mz_iload_n d_Mo_bringOne_55 rfl (mz_bipush (13 : Int32) d_Mo_bringOne_56 (by decide) (mz_icmp_eq 76 d_Mo_bringOne_58 rfl (fun hc32 => (mz_vret d_Mo_bringOne_76 rfl ⟨rfl, hL, rfl, ((h25 M23 rfl).1 hc32)⟩)) (fun hc32 => (mz_aload_n d_Mo_bringOne_61 rfl (mz_iload_n d_Mo_bringOne_62 rfl (mz_iload_n d_Mo_bringOne_63 rfl (mz_callV (As := [.int y3, .int y2]) (st := []) (hF 30 0 rfl (by decide)) rfl (mzClOf cl_10) 0 0 d_Mo_bringOne_64 cs_Mo_keep wl_Mo_133 wi_Mo_keep wse_Mo_keep (Nat.le_of_ble_eq_true rfl) (Nat.zero_le _) (Nat.zero_le _) (MzC.mono (tm_Mo_keep (d := d) hF  hL ((h25 M23 rfl).2 hc32)) (fun r9 B9 M29 hq31 => by obtain ⟨rfl, hL30, rfl, hq31⟩ := hq31; exact ⟨none, rfl, (mz_goto 76 d_Mo_bringOne_67 rfl (mz_vret d_Mo_bringOne_76 rfl ⟨rfl, hL30, rfl, hq31⟩))⟩))))))))))))
theorem tm_Mo_bringOne_38 {G : MzG} {B : MzB} {d : Nat} {K : MzM → Prop} (hF : mzLive true B)     (y1 : Int32) (y2 : Int32) (y3 : Int32) (M : MzM) (hL : mzLnk true M) (h : wp_Mo_bringOne_38   K y1 y2 y3 M) : MzS G B (d + 1) mm_Mo_bringOne M (0, 0) (mzK0 true B K) 38 [(0, .ref (mz_ad B (30, 0))), (1, .int y1), (2, .int y2), (3, .int y3)] [] := by
  unfold wp_Mo_bringOne_38 at h
  exact (mz_aload_n d_Mo_bringOne_38 rfl (mz_getR (k := 25) (a := (55, 0)) cl_10 d_Mo_bringOne_39 (by decide) wf_Mo_104 rfl (hF 30 0 rfl (by decide)) rfl (hL (30, 0) 25 (55, 0) rfl rfl (by decide)) (mz_iload_n d_Mo_bringOne_42 rfl (mz_iload_n d_Mo_bringOne_43 rfl (mz_bipush (13 : Int32) d_Mo_bringOne_44 (by decide) (mz_icmp_ne 53 d_Mo_bringOne_46 rfl (fun hc22 => (mz_iconst (0 : Int32) d_Mo_bringOne_53 (by decide) (MzS.loc [(0, .ref (mz_ad B (30, 0))), (2, .int y2), (3, .int y3)] ⟨rfl, rfl, rfl, trivial⟩ (tm_Mo_bringOne_54 hF   y2 y3 (0 : Int32) y1 M hL (h.1 hc22))))) (fun hc22 => (mz_iconst (1 : Int32) d_Mo_bringOne_49 (by decide) (mz_goto 54 d_Mo_bringOne_50 rfl (MzS.loc [(0, .ref (mz_ad B (30, 0))), (2, .int y2), (3, .int y3)] ⟨rfl, rfl, rfl, trivial⟩ (tm_Mo_bringOne_54 hF   y2 y3 (1 : Int32) y1 M hL (h.2 hc22))))))))))))
theorem tm_Mo_bringOne {G : MzG} {B : MzB} {d : Nat} {K : MzM → Prop} (hF : mzLive true B)   {a1 : Int32} {a2 : Int32} {M : MzM} (hL : mzLnk true M) (h : wp_Mo_bringOne  a1 a2 M K) : MzC G B (d + 1) mm_Mo_bringOne [.ref (mz_ad B (30, 0)), .int a1, .int a2] M (0, 0) (mzK0 true B K) := by
  unfold wp_Mo_bringOne at h
  exact MzC.of rfl (Nat.le_of_ble_eq_true rfl) (show MzS G B (d + 1) mm_Mo_bringOne M (0, 0) (mzK0 true B K) 0 [(0, .ref (mz_ad B (30, 0))), (1, .int a1), (2, .int a2)] [] from (mz_aload_n d_Mo_bringOne_0 rfl (mz_getR (k := 24) (a := (54, 0)) cl_10 d_Mo_bringOne_1 (by decide) wf_Mo_101 rfl (hF 30 0 rfl (by decide)) rfl (hL (30, 0) 24 (54, 0) rfl rfl (by decide)) (mz_iload_n d_Mo_bringOne_4 rfl (match h with | ⟨j1, h2, h3, h4⟩ => mz_iald j1 d_Mo_bringOne_5 (hF 54 0 rfl (by decide)) rfl h2 h3 (mz_istore_n d_Mo_bringOne_6 (by decide) (mz_aload_n d_Mo_bringOne_7 rfl (mz_getR (k := 21) (a := (51, 0)) cl_10 d_Mo_bringOne_8 (by decide) wf_Mo_92 rfl (hF 30 0 rfl (by decide)) rfl (hL (30, 0) 21 (51, 0) rfl rfl (by decide)) (mz_iload_n d_Mo_bringOne_11 rfl (match h4 with | ⟨j5, h6, h7, h8⟩ => mz_zald j5 d_Mo_bringOne_12 (hF 51 0 rfl (by decide)) rfl h6 h7 (mz_if_eq 70 d_Mo_bringOne_13 rfl (fun hc21 => (mz_aload_n d_Mo_bringOne_70 rfl (mz_iload_n d_Mo_bringOne_71 rfl (mz_iload_n d_Mo_bringOne_72 rfl (mz_callV (As := [.int (mz_i M (54, 0) j1), .int a2]) (st := []) (hF 30 0 rfl (by decide)) rfl (mzClOf cl_10) 0 0 d_Mo_bringOne_73 cs_Mo_keep wl_Mo_133 wi_Mo_keep wse_Mo_keep (Nat.le_of_ble_eq_true rfl) (Nat.zero_le _) (Nat.zero_le _) (MzC.mono (tm_Mo_keep (d := d) hF  hL (h8.1 hc21)) (fun r9 B9 M9 hq11 => by obtain ⟨rfl, hL10, rfl, hq11⟩ := hq11; exact ⟨none, rfl, (mz_vret d_Mo_bringOne_76 rfl ⟨rfl, hL10, rfl, hq11⟩)⟩))))))) (fun hc21 => (mz_aload_n d_Mo_bringOne_16 rfl (mz_getR (k := 25) (a := (55, 0)) cl_10 d_Mo_bringOne_17 (by decide) wf_Mo_104 rfl (hF 30 0 rfl (by decide)) rfl (hL (30, 0) 25 (55, 0) rfl rfl (by decide)) (mz_iload_n d_Mo_bringOne_20 rfl (match (h8.2 hc21) with | ⟨j12, h13, h14, h15⟩ => mz_zald j12 d_Mo_bringOne_21 (hF 55 0 rfl (by decide)) rfl h13 h14 (mz_if_eq 38 d_Mo_bringOne_22 rfl (fun hc20 => (MzS.loc [(0, .ref (mz_ad B (30, 0))), (1, .int a1), (2, .int a2), (3, .int (mz_i M (54, 0) j1))] ⟨rfl, rfl, rfl, rfl, trivial⟩ (tm_Mo_bringOne_38 hF   a1 a2 (mz_i M (54, 0) j1) M hL (h15.1 hc20)))) (fun hc20 => (mz_iload_n d_Mo_bringOne_25 rfl (mz_bipush (10 : Int32) d_Mo_bringOne_26 (by decide) (mz_icmp_eq 38 d_Mo_bringOne_28 rfl (fun hc19 => (MzS.loc [(0, .ref (mz_ad B (30, 0))), (1, .int a1), (2, .int a2), (3, .int (mz_i M (54, 0) j1))] ⟨rfl, rfl, rfl, rfl, trivial⟩ (tm_Mo_bringOne_38 hF   a1 a2 (mz_i M (54, 0) j1) M hL ((h15.2 hc20).1 hc19)))) (fun hc19 => (mz_aload_n d_Mo_bringOne_31 rfl (mz_iload_n d_Mo_bringOne_32 rfl (mz_bipush (13 : Int32) d_Mo_bringOne_33 (by decide) (mz_callV (As := [.int (mz_i M (54, 0) j1), .int (13 : Int32)]) (st := []) (hF 30 0 rfl (by decide)) rfl (mzClOf cl_10) 0 0 d_Mo_bringOne_35 cs_Mo_keep wl_Mo_133 wi_Mo_keep wse_Mo_keep (Nat.le_of_ble_eq_true rfl) (Nat.zero_le _) (Nat.zero_le _) (MzC.mono (tm_Mo_keep (d := d) hF  hL ((h15.2 hc20).2 hc19)) (fun r9 B9 M16 hq18 => by obtain ⟨rfl, hL17, rfl, hq18⟩ := hq18; exact ⟨none, rfl, (MzS.loc [(0, .ref (mz_ad B (30, 0))), (1, .int a1), (2, .int a2), (3, .int (mz_i M (54, 0) j1))] ⟨rfl, rfl, rfl, rfl, trivial⟩ (tm_Mo_bringOne_38 hF   a1 a2 (mz_i M (54, 0) j1) M16 hL17 hq18))⟩))))))))))))))))))))))))))))
def mm_Mo_bring : MzT := (⟨"ParcelLineModel", "bring", "(II)V"⟩, prog_14_method_58_code, 3, (Option.none : Option Jvm.ClassFile.FieldType))
theorem cs_Mo_bring {mm : MzT} : mzCall mm mm_Mo_bring 2 := ⟨wn_Mo, wco_Mo_bring, by decide +kernel, by decide⟩
theorem d_Mo_bring_0 : decode mm_Mo_bring.2.1 0 = .ok (.aload_n 0, 1) := by decide +kernel
theorem d_Mo_bring_1 : decode mm_Mo_bring.2.1 1 = .ok (.iconst 0, 1) := by decide +kernel
theorem d_Mo_bring_2 : decode mm_Mo_bring.2.1 2 = .ok (.putfield 126, 3) := by decide +kernel
theorem d_Mo_bring_5 : decode mm_Mo_bring.2.1 5 = .ok (.iload_n 1, 1) := by decide +kernel
theorem d_Mo_bring_6 : decode mm_Mo_bring.2.1 6 = .ok (.invokestatic 182, 3) := by decide +kernel
theorem d_Mo_bring_9 : decode mm_Mo_bring.2.1 9 = .ok (.ifCond .ne 11, 3) := by decide +kernel
theorem d_Mo_bring_12 : decode mm_Mo_bring.2.1 12 = .ok (.aload_n 0, 1) := by decide +kernel
theorem d_Mo_bring_13 : decode mm_Mo_bring.2.1 13 = .ok (.iconst 1, 1) := by decide +kernel
theorem d_Mo_bring_14 : decode mm_Mo_bring.2.1 14 = .ok (.putfield 126, 3) := by decide +kernel
theorem d_Mo_bring_17 : decode mm_Mo_bring.2.1 17 = .ok (.goto 31, 3) := by decide +kernel
theorem d_Mo_bring_20 : decode mm_Mo_bring.2.1 20 = .ok (.aload_n 0, 1) := by decide +kernel
theorem d_Mo_bring_21 : decode mm_Mo_bring.2.1 21 = .ok (.getfield 98, 3) := by decide +kernel
theorem d_Mo_bring_24 : decode mm_Mo_bring.2.1 24 = .ok (.iload_n 1, 1) := by decide +kernel
theorem d_Mo_bring_25 : decode mm_Mo_bring.2.1 25 = .ok (.iaload, 1) := by decide +kernel
theorem d_Mo_bring_26 : decode mm_Mo_bring.2.1 26 = .ok (.iconst 2, 1) := by decide +kernel
theorem d_Mo_bring_27 : decode mm_Mo_bring.2.1 27 = .ok (.if_icmp .eq 11, 3) := by decide +kernel
theorem d_Mo_bring_30 : decode mm_Mo_bring.2.1 30 = .ok (.aload_n 0, 1) := by decide +kernel
theorem d_Mo_bring_31 : decode mm_Mo_bring.2.1 31 = .ok (.iconst 2, 1) := by decide +kernel
theorem d_Mo_bring_32 : decode mm_Mo_bring.2.1 32 = .ok (.putfield 126, 3) := by decide +kernel
theorem d_Mo_bring_35 : decode mm_Mo_bring.2.1 35 = .ok (.goto 13, 3) := by decide +kernel
theorem d_Mo_bring_38 : decode mm_Mo_bring.2.1 38 = .ok (.aload_n 0, 1) := by decide +kernel
theorem d_Mo_bring_39 : decode mm_Mo_bring.2.1 39 = .ok (.iload_n 1, 1) := by decide +kernel
theorem d_Mo_bring_40 : decode mm_Mo_bring.2.1 40 = .ok (.iload_n 2, 1) := by decide +kernel
theorem d_Mo_bring_41 : decode mm_Mo_bring.2.1 41 = .ok (.sipush 255, 3) := by decide +kernel
theorem d_Mo_bring_44 : decode mm_Mo_bring.2.1 44 = .ok (.iand, 1) := by decide +kernel
theorem d_Mo_bring_45 : decode mm_Mo_bring.2.1 45 = .ok (.invokevirtual 310, 3) := by decide +kernel
theorem d_Mo_bring_48 : decode mm_Mo_bring.2.1 48 = .ok (.return_, 1) := by decide +kernel
def wp_Mo_bring  (a1 : Int32) (a2 : Int32) (M : MzM) (K : MzM → Prop) : Prop := (∀ M1 : MzM, M1 = mz_si M (30, 0) 1 (0 : Int32) → wp_Mo_isSession  a1 M1 (fun v5 M2 => ((¬ v5 = 0 → (∃ j6 : Nat, a1.toInt = (j6 : Int) ∧ j6 < 2 ∧ (((mz_i M2 (53, 0) j6) = (2 : Int32) → wp_Mo_bringOne  a1 (a2 &&& (255 : Int32)) M2 (fun M10 => K M10)) ∧ (¬ (mz_i M2 (53, 0) j6) = (2 : Int32) → (∀ M13 : MzM, M13 = mz_si M2 (30, 0) 1 (2 : Int32) → K M13))))) ∧ (v5 = 0 → (∀ M15 : MzM, M15 = mz_si M2 (30, 0) 1 (1 : Int32) → K M15)))))
theorem tm_Mo_bring {G : MzG} {B : MzB} {d : Nat} {K : MzM → Prop} (hF : mzLive true B)   {a1 : Int32} {a2 : Int32} {M : MzM} (hL : mzLnk true M) (h : wp_Mo_bring  a1 a2 M K) : MzC G B (d + 2) mm_Mo_bring [.ref (mz_ad B (30, 0)), .int a1, .int a2] M (0, 0) (mzK0 true B K) := by
  unfold wp_Mo_bring at h
  exact MzC.of rfl (Nat.le_of_ble_eq_true rfl) (show MzS G B (d + 2) mm_Mo_bring M (0, 0) (mzK0 true B K) 0 [(0, .ref (mz_ad B (30, 0))), (1, .int a1), (2, .int a2)] [] from (mz_aload_n d_Mo_bring_0 rfl (mz_iconst (0 : Int32) d_Mo_bring_1 (by decide) (mz_putI (k := 1) cl_10 d_Mo_bring_2 (by decide) wf_Mo_126 rfl rfl rfl rfl (hF 30 0 rfl (by decide)) rfl (let M1 : MzM := mz_si M (30, 0) 1 (0 : Int32); (mz_iload_n d_Mo_bring_5 rfl (mz_callS (As := [.int a1]) (st := []) 0 0 d_Mo_bring_6 cs_Mo_isSession wl_Mo_182 ws_Mo_isSession (Nat.le_of_ble_eq_true rfl) (Nat.zero_le _) (Nat.zero_le _) (MzC.mono (tm_Mo_isSession (d := (d + 1)) hF  hL (h M1 rfl)) (fun r9 B9 M2 hq4 => by obtain ⟨rfl, hL3, v5, rfl, hq4⟩ := hq4; exact ⟨_, rfl, (mz_if_ne 20 d_Mo_bring_9 rfl (fun hc16 => (mz_aload_n d_Mo_bring_20 rfl (mz_getR (k := 23) (a := (53, 0)) cl_10 d_Mo_bring_21 (by decide) wf_Mo_98 rfl (hF 30 0 rfl (by decide)) rfl (hL3 (30, 0) 23 (53, 0) rfl rfl (by decide)) (mz_iload_n d_Mo_bring_24 rfl (match (hq4.1 hc16) with | ⟨j6, h7, h8, h9⟩ => mz_iald j6 d_Mo_bring_25 (hF 53 0 rfl (by decide)) rfl h7 h8 (mz_iconst (2 : Int32) d_Mo_bring_26 (by decide) (mz_icmp_eq 38 d_Mo_bring_27 rfl (fun hc14 => (mz_aload_n d_Mo_bring_38 rfl (mz_iload_n d_Mo_bring_39 rfl (mz_iload_n d_Mo_bring_40 rfl (mz_sipush (255 : Int32) d_Mo_bring_41 (by decide) (mz_iand d_Mo_bring_44 (mz_callV (As := [.int a1, .int (a2 &&& (255 : Int32))]) (st := []) (hF 30 0 rfl (by decide)) rfl (mzClOf cl_10) 0 0 d_Mo_bring_45 cs_Mo_bringOne wl_Mo_310 wi_Mo_bringOne wse_Mo_bringOne (Nat.le_of_ble_eq_true rfl) (Nat.zero_le _) (Nat.zero_le _) (MzC.mono (tm_Mo_bringOne (d := d) hF  hL3 (h9.1 hc14)) (fun r9 B9 M10 hq12 => by obtain ⟨rfl, hL11, rfl, hq12⟩ := hq12; exact ⟨none, rfl, (mz_vret d_Mo_bring_48 rfl ⟨rfl, hL11, rfl, hq12⟩)⟩))))))))) (fun hc14 => (mz_aload_n d_Mo_bring_30 rfl (mz_iconst (2 : Int32) d_Mo_bring_31 (by decide) (mz_putI (k := 1) cl_10 d_Mo_bring_32 (by decide) wf_Mo_126 rfl rfl rfl rfl (hF 30 0 rfl (by decide)) rfl (let M13 : MzM := mz_si M2 (30, 0) 1 (2 : Int32); (mz_goto 48 d_Mo_bring_35 rfl (mz_vret d_Mo_bring_48 rfl ⟨rfl, hL3, rfl, ((h9.2 hc14) M13 rfl)⟩)))))))))))))) (fun hc16 => (mz_aload_n d_Mo_bring_12 rfl (mz_iconst (1 : Int32) d_Mo_bring_13 (by decide) (mz_putI (k := 1) cl_10 d_Mo_bring_14 (by decide) wf_Mo_126 rfl rfl rfl rfl (hF 30 0 rfl (by decide)) rfl (let M15 : MzM := mz_si M2 (30, 0) 1 (1 : Int32); (mz_goto 48 d_Mo_bring_17 rfl (mz_vret d_Mo_bring_48 rfl ⟨rfl, hL3, rfl, ((hq4.2 hc16) M15 rfl)⟩))))))))⟩)))))))))
def mm_Mo_takeOne : MzT := (⟨"ParcelLineModel", "takeOne", "(I)I"⟩, prog_14_method_59_code, 3, (Option.some Jvm.ClassFile.FieldType.int))
theorem cs_Mo_takeOne {mm : MzT} : mzCall mm mm_Mo_takeOne 1 := ⟨wn_Mo, wco_Mo_takeOne, by decide +kernel, by decide⟩
theorem d_Mo_takeOne_0 : decode mm_Mo_takeOne.2.1 0 = .ok (.aload_n 0, 1) := by decide +kernel
theorem d_Mo_takeOne_1 : decode mm_Mo_takeOne.2.1 1 = .ok (.getfield 113, 3) := by decide +kernel
theorem d_Mo_takeOne_4 : decode mm_Mo_takeOne.2.1 4 = .ok (.bipush 96, 2) := by decide +kernel
theorem d_Mo_takeOne_6 : decode mm_Mo_takeOne.2.1 6 = .ok (.iload_n 1, 1) := by decide +kernel
theorem d_Mo_takeOne_7 : decode mm_Mo_takeOne.2.1 7 = .ok (.imul, 1) := by decide +kernel
theorem d_Mo_takeOne_8 : decode mm_Mo_takeOne.2.1 8 = .ok (.aload_n 0, 1) := by decide +kernel
theorem d_Mo_takeOne_9 : decode mm_Mo_takeOne.2.1 9 = .ok (.getfield 110, 3) := by decide +kernel
theorem d_Mo_takeOne_12 : decode mm_Mo_takeOne.2.1 12 = .ok (.iload_n 1, 1) := by decide +kernel
theorem d_Mo_takeOne_13 : decode mm_Mo_takeOne.2.1 13 = .ok (.iaload, 1) := by decide +kernel
theorem d_Mo_takeOne_14 : decode mm_Mo_takeOne.2.1 14 = .ok (.iadd, 1) := by decide +kernel
theorem d_Mo_takeOne_15 : decode mm_Mo_takeOne.2.1 15 = .ok (.iaload, 1) := by decide +kernel
theorem d_Mo_takeOne_16 : decode mm_Mo_takeOne.2.1 16 = .ok (.istore_n 2, 1) := by decide +kernel
theorem d_Mo_takeOne_17 : decode mm_Mo_takeOne.2.1 17 = .ok (.aload_n 0, 1) := by decide +kernel
theorem d_Mo_takeOne_18 : decode mm_Mo_takeOne.2.1 18 = .ok (.getfield 110, 3) := by decide +kernel
theorem d_Mo_takeOne_21 : decode mm_Mo_takeOne.2.1 21 = .ok (.iload_n 1, 1) := by decide +kernel
theorem d_Mo_takeOne_22 : decode mm_Mo_takeOne.2.1 22 = .ok (.dup2, 1) := by decide +kernel
theorem d_Mo_takeOne_23 : decode mm_Mo_takeOne.2.1 23 = .ok (.iaload, 1) := by decide +kernel
theorem d_Mo_takeOne_24 : decode mm_Mo_takeOne.2.1 24 = .ok (.iconst 1, 1) := by decide +kernel
theorem d_Mo_takeOne_25 : decode mm_Mo_takeOne.2.1 25 = .ok (.iadd, 1) := by decide +kernel
theorem d_Mo_takeOne_26 : decode mm_Mo_takeOne.2.1 26 = .ok (.iastore, 1) := by decide +kernel
theorem d_Mo_takeOne_27 : decode mm_Mo_takeOne.2.1 27 = .ok (.aload_n 0, 1) := by decide +kernel
theorem d_Mo_takeOne_28 : decode mm_Mo_takeOne.2.1 28 = .ok (.getfield 110, 3) := by decide +kernel
theorem d_Mo_takeOne_31 : decode mm_Mo_takeOne.2.1 31 = .ok (.iload_n 1, 1) := by decide +kernel
theorem d_Mo_takeOne_32 : decode mm_Mo_takeOne.2.1 32 = .ok (.iaload, 1) := by decide +kernel
theorem d_Mo_takeOne_33 : decode mm_Mo_takeOne.2.1 33 = .ok (.aload_n 0, 1) := by decide +kernel
theorem d_Mo_takeOne_34 : decode mm_Mo_takeOne.2.1 34 = .ok (.getfield 107, 3) := by decide +kernel
theorem d_Mo_takeOne_37 : decode mm_Mo_takeOne.2.1 37 = .ok (.iload_n 1, 1) := by decide +kernel
theorem d_Mo_takeOne_38 : decode mm_Mo_takeOne.2.1 38 = .ok (.iaload, 1) := by decide +kernel
theorem d_Mo_takeOne_39 : decode mm_Mo_takeOne.2.1 39 = .ok (.if_icmp .ne 8, 3) := by decide +kernel
theorem d_Mo_takeOne_42 : decode mm_Mo_takeOne.2.1 42 = .ok (.aload_n 0, 1) := by decide +kernel
theorem d_Mo_takeOne_43 : decode mm_Mo_takeOne.2.1 43 = .ok (.iload_n 1, 1) := by decide +kernel
theorem d_Mo_takeOne_44 : decode mm_Mo_takeOne.2.1 44 = .ok (.invokevirtual 292, 3) := by decide +kernel
theorem d_Mo_takeOne_47 : decode mm_Mo_takeOne.2.1 47 = .ok (.iload_n 2, 1) := by decide +kernel
theorem d_Mo_takeOne_48 : decode mm_Mo_takeOne.2.1 48 = .ok (.ireturn, 1) := by decide +kernel
def wp_Mo_takeOne  (a1 : Int32) (M : MzM) (K : Int32 → MzM → Prop) : Prop := (∃ j1 : Nat, a1.toInt = (j1 : Int) ∧ j1 < 2 ∧ (∃ j5 : Nat, (((96 : Int32) * a1) + (mz_i M (57, 0) j1)).toInt = (j5 : Int) ∧ j5 < 192 ∧ (∃ j9 : Nat, a1.toInt = (j9 : Int) ∧ j9 < 2 ∧ (∃ j16 : Nat, a1.toInt = (j16 : Int) ∧ j16 < 2 ∧ ∀ M13 : MzM, M13 = mz_si M (57, 0) j16 ((mz_i M (57, 0) j9) + (1 : Int32)) → (∃ j19 : Nat, a1.toInt = (j19 : Int) ∧ j19 < 2 ∧ (∃ j23 : Nat, a1.toInt = (j23 : Int) ∧ j23 < 2 ∧ ((¬ (mz_i M13 (57, 0) j19) = (mz_i M13 (56, 0) j23) → K (mz_i M (58, 0) j5) M13) ∧ ((mz_i M13 (57, 0) j19) = (mz_i M13 (56, 0) j23) → wp_Mo_finish  a1 M13 (fun M27 => K (mz_i M (58, 0) j5) M27)))))))))
theorem tm_Mo_takeOne {G : MzG} {B : MzB} {d : Nat} {K : Int32 → MzM → Prop} (hF : mzLive true B)   {a1 : Int32} {M : MzM} (hL : mzLnk true M) (h : wp_Mo_takeOne  a1 M K) : MzC G B (d + 4) mm_Mo_takeOne [.ref (mz_ad B (30, 0)), .int a1] M (0, 0) (mzK1 true B K) := by
  unfold wp_Mo_takeOne at h
  exact MzC.of rfl (Nat.le_of_ble_eq_true rfl) (show MzS G B (d + 4) mm_Mo_takeOne M (0, 0) (mzK1 true B K) 0 [(0, .ref (mz_ad B (30, 0))), (1, .int a1)] [] from (mz_aload_n d_Mo_takeOne_0 rfl (mz_getR (k := 28) (a := (58, 0)) cl_10 d_Mo_takeOne_1 (by decide) wf_Mo_113 rfl (hF 30 0 rfl (by decide)) rfl (hL (30, 0) 28 (58, 0) rfl rfl (by decide)) (mz_bipush (96 : Int32) d_Mo_takeOne_4 (by decide) (mz_iload_n d_Mo_takeOne_6 rfl (mz_imul d_Mo_takeOne_7 (mz_aload_n d_Mo_takeOne_8 rfl (mz_getR (k := 27) (a := (57, 0)) cl_10 d_Mo_takeOne_9 (by decide) wf_Mo_110 rfl (hF 30 0 rfl (by decide)) rfl (hL (30, 0) 27 (57, 0) rfl rfl (by decide)) (mz_iload_n d_Mo_takeOne_12 rfl (match h with | ⟨j1, h2, h3, h4⟩ => mz_iald j1 d_Mo_takeOne_13 (hF 57 0 rfl (by decide)) rfl h2 h3 (mz_iadd d_Mo_takeOne_14 (match h4 with | ⟨j5, h6, h7, h8⟩ => mz_iald j5 d_Mo_takeOne_15 (hF 58 0 rfl (by decide)) rfl h6 h7 (mz_istore_n d_Mo_takeOne_16 (by decide) (mz_aload_n d_Mo_takeOne_17 rfl (mz_getR (k := 27) (a := (57, 0)) cl_10 d_Mo_takeOne_18 (by decide) wf_Mo_110 rfl (hF 30 0 rfl (by decide)) rfl (hL (30, 0) 27 (57, 0) rfl rfl (by decide)) (mz_iload_n d_Mo_takeOne_21 rfl (mz_dup2 d_Mo_takeOne_22 rfl rfl (match h8 with | ⟨j9, h10, h11, h12⟩ => mz_iald j9 d_Mo_takeOne_23 (hF 57 0 rfl (by decide)) rfl h10 h11 (mz_iconst (1 : Int32) d_Mo_takeOne_24 (by decide) (mz_iadd d_Mo_takeOne_25 (match h12 with | ⟨j16, h17, h18, h15⟩ => mz_iast j16 d_Mo_takeOne_26 (hF 57 0 rfl (by decide)) rfl h17 h18 (let M13 : MzM := mz_si M (57, 0) j16 ((mz_i M (57, 0) j9) + (1 : Int32)); (mz_aload_n d_Mo_takeOne_27 rfl (mz_getR (k := 27) (a := (57, 0)) cl_10 d_Mo_takeOne_28 (by decide) wf_Mo_110 rfl (hF 30 0 rfl (by decide)) rfl (hL (30, 0) 27 (57, 0) rfl rfl (by decide)) (mz_iload_n d_Mo_takeOne_31 rfl (match (h15 M13 rfl) with | ⟨j19, h20, h21, h22⟩ => mz_iald j19 d_Mo_takeOne_32 (hF 57 0 rfl (by decide)) rfl h20 h21 (mz_aload_n d_Mo_takeOne_33 rfl (mz_getR (k := 26) (a := (56, 0)) cl_10 d_Mo_takeOne_34 (by decide) wf_Mo_107 rfl (hF 30 0 rfl (by decide)) rfl (hL (30, 0) 26 (56, 0) rfl rfl (by decide)) (mz_iload_n d_Mo_takeOne_37 rfl (match h22 with | ⟨j23, h24, h25, h26⟩ => mz_iald j23 d_Mo_takeOne_38 (hF 56 0 rfl (by decide)) rfl h24 h25 (mz_icmp_ne 47 d_Mo_takeOne_39 rfl (fun hc30 => (mz_iload_n d_Mo_takeOne_47 rfl (mz_iret .int d_Mo_takeOne_48 rfl rfl ⟨rfl, hL, _, rfl, (h26.1 hc30)⟩))) (fun hc30 => (mz_aload_n d_Mo_takeOne_42 rfl (mz_iload_n d_Mo_takeOne_43 rfl (mz_callV (As := [.int a1]) (st := []) (hF 30 0 rfl (by decide)) rfl (mzClOf cl_10) 0 0 d_Mo_takeOne_44 cs_Mo_finish wl_Mo_292 wi_Mo_finish wse_Mo_finish (Nat.le_of_ble_eq_true rfl) (Nat.zero_le _) (Nat.zero_le _) (MzC.mono (tm_Mo_finish (d := d) hF  hL (h26.2 hc30)) (fun r9 B9 M27 hq29 => by obtain ⟨rfl, hL28, rfl, hq29⟩ := hq29; exact ⟨none, rfl, (mz_iload_n d_Mo_takeOne_47 rfl (mz_iret .int d_Mo_takeOne_48 rfl rfl ⟨rfl, hL28, _, rfl, hq29⟩))⟩)))))))))))))))))))))))))))))))))))))
