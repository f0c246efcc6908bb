def mm_Mo_login : MzT := (⟨"ParcelLineModel", "login", "()I"⟩, prog_14_method_77_code, 2, (Option.some Jvm.ClassFile.FieldType.int))
theorem cs_Mo_login {mm : MzT} : mzCall mm mm_Mo_login 0 := ⟨wn_Mo, wco_Mo_login, by decide +kernel, by decide⟩
theorem d_Mo_login_0 : decode mm_Mo_login.2.1 0 = .ok (.aload_n 0, 1) := by decide +kernel
theorem d_Mo_login_1 : decode mm_Mo_login.2.1 1 = .ok (.iconst 1, 1) := by decide +kernel
theorem d_Mo_login_2 : decode mm_Mo_login.2.1 2 = .ok (.iconst 0, 1) := by decide +kernel
theorem d_Mo_login_3 : decode mm_Mo_login.2.1 3 = .ok (.bipush 97, 2) := by decide +kernel
theorem d_Mo_login_5 : decode mm_Mo_login.2.1 5 = .ok (.bipush 100, 2) := by decide +kernel
theorem d_Mo_login_7 : decode mm_Mo_login.2.1 7 = .ok (.bipush 109, 2) := by decide +kernel
theorem d_Mo_login_9 : decode mm_Mo_login.2.1 9 = .ok (.invokestatic 349, 3) := by decide +kernel
theorem d_Mo_login_12 : decode mm_Mo_login.2.1 12 = .ok (.iconst (-1), 1) := by decide +kernel
theorem d_Mo_login_13 : decode mm_Mo_login.2.1 13 = .ok (.invokevirtual 353, 3) := by decide +kernel
theorem d_Mo_login_16 : decode mm_Mo_login.2.1 16 = .ok (.istore_n 1, 1) := by decide +kernel
theorem d_Mo_login_17 : decode mm_Mo_login.2.1 17 = .ok (.aload_n 0, 1) := by decide +kernel
theorem d_Mo_login_18 : decode mm_Mo_login.2.1 18 = .ok (.iconst 2, 1) := by decide +kernel
theorem d_Mo_login_19 : decode mm_Mo_login.2.1 19 = .ok (.iconst 0, 1) := by decide +kernel
theorem d_Mo_login_20 : decode mm_Mo_login.2.1 20 = .ok (.bipush 107, 2) := by decide +kernel
theorem d_Mo_login_22 : decode mm_Mo_login.2.1 22 = .ok (.bipush 101, 2) := by decide +kernel
theorem d_Mo_login_24 : decode mm_Mo_login.2.1 24 = .ok (.bipush 121, 2) := by decide +kernel
theorem d_Mo_login_26 : decode mm_Mo_login.2.1 26 = .ok (.invokestatic 349, 3) := by decide +kernel
theorem d_Mo_login_29 : decode mm_Mo_login.2.1 29 = .ok (.iconst (-1), 1) := by decide +kernel
theorem d_Mo_login_30 : decode mm_Mo_login.2.1 30 = .ok (.invokevirtual 353, 3) := by decide +kernel
theorem d_Mo_login_33 : decode mm_Mo_login.2.1 33 = .ok (.istore_n 1, 1) := by decide +kernel
theorem d_Mo_login_34 : decode mm_Mo_login.2.1 34 = .ok (.aload_n 0, 1) := by decide +kernel
theorem d_Mo_login_35 : decode mm_Mo_login.2.1 35 = .ok (.iconst 5, 1) := by decide +kernel
theorem d_Mo_login_36 : decode mm_Mo_login.2.1 36 = .ok (.bipush 73, 2) := by decide +kernel
theorem d_Mo_login_38 : decode mm_Mo_login.2.1 38 = .ok (.iconst 0, 1) := by decide +kernel
theorem d_Mo_login_39 : decode mm_Mo_login.2.1 39 = .ok (.iconst (-1), 1) := by decide +kernel
theorem d_Mo_login_40 : decode mm_Mo_login.2.1 40 = .ok (.invokevirtual 353, 3) := by decide +kernel
theorem d_Mo_login_43 : decode mm_Mo_login.2.1 43 = .ok (.istore_n 1, 1) := by decide +kernel
theorem d_Mo_login_44 : decode mm_Mo_login.2.1 44 = .ok (.aload_n 0, 1) := by decide +kernel
theorem d_Mo_login_45 : decode mm_Mo_login.2.1 45 = .ok (.bipush 10, 2) := by decide +kernel
theorem d_Mo_login_47 : decode mm_Mo_login.2.1 47 = .ok (.iconst 0, 1) := by decide +kernel
theorem d_Mo_login_48 : decode mm_Mo_login.2.1 48 = .ok (.iconst 0, 1) := by decide +kernel
theorem d_Mo_login_49 : decode mm_Mo_login.2.1 49 = .ok (.iconst (-1), 1) := by decide +kernel
theorem d_Mo_login_50 : decode mm_Mo_login.2.1 50 = .ok (.invokevirtual 353, 3) := by decide +kernel
theorem d_Mo_login_53 : decode mm_Mo_login.2.1 53 = .ok (.istore_n 1, 1) := by decide +kernel
theorem d_Mo_login_54 : decode mm_Mo_login.2.1 54 = .ok (.iload_n 1, 1) := by decide +kernel
theorem d_Mo_login_55 : decode mm_Mo_login.2.1 55 = .ok (.ifCond .le 7, 3) := by decide +kernel
theorem d_Mo_login_58 : decode mm_Mo_login.2.1 58 = .ok (.iconst 1, 1) := by decide +kernel
theorem d_Mo_login_59 : decode mm_Mo_login.2.1 59 = .ok (.goto 4, 3) := by decide +kernel
theorem d_Mo_login_62 : decode mm_Mo_login.2.1 62 = .ok (.iconst 5, 1) := by decide +kernel
theorem d_Mo_login_63 : decode mm_Mo_login.2.1 63 = .ok (.ireturn, 1) := by decide +kernel
def wp_Mo_login   (M : MzM) (K : Int32 → MzM → Prop) : Prop := wp_Mo_three  (97 : Int32) (100 : Int32) (109 : Int32) M (fun v4 M1 => wp_Mo_say  (1 : Int32) (0 : Int32) v4 (-1 : Int32) M1 (fun v8 M5 => wp_Mo_three  (107 : Int32) (101 : Int32) (121 : Int32) M5 (fun v12 M9 => wp_Mo_say  (2 : Int32) (0 : Int32) v12 (-1 : Int32) M9 (fun v16 M13 => wp_Mo_say  (5 : Int32) (73 : Int32) (0 : Int32) (-1 : Int32) M13 (fun v20 M17 => wp_Mo_say  (10 : Int32) (0 : Int32) (0 : Int32) (-1 : Int32) M17 (fun v24 M21 => ((v24 ≤ 0 → K (5 : Int32) M21) ∧ (¬ v24 ≤ 0 → K (1 : Int32) M21))))))))
theorem tm_Mo_login {G : MzG} {B : MzB} {d : Nat} {K : Int32 → MzM → Prop} (hF : mzLive B)    {M : MzM} (hL : mzLnk M) (h : wp_Mo_login   M K) : MzC G B (d + 11) mm_Mo_login [.ref (mz_ad B (30, 0))] M (0, 0) (mzK1 B K) := by
  unfold wp_Mo_login at h
  exact MzC.of rfl (Nat.le_of_ble_eq_true rfl) (show MzS G B (d + 11) mm_Mo_login M (0, 0) (mzK1 B K) 0 [(0, .ref (mz_ad B (30, 0)))] [] from (mz_aload_n d_Mo_login_0 rfl (mz_iconst (1 : Int32) d_Mo_login_1 (by decide) (mz_iconst (0 : Int32) d_Mo_login_2 (by decide) (mz_bipush (97 : Int32) d_Mo_login_3 (by decide) (mz_bipush (100 : Int32) d_Mo_login_5 (by decide) (mz_bipush (109 : Int32) d_Mo_login_7 (by decide) (mz_callS (As := [.int (97 : Int32), .int (100 : Int32), .int (109 : Int32)]) (st := [.int (0 : Int32), .int (1 : Int32), .ref (mz_ad B (30, 0))]) 0 0 d_Mo_login_9 cs_Mo_three wl_Mo_349 ws_Mo_three (Nat.le_of_ble_eq_true rfl) (Nat.le_refl _) (Nat.le_refl _) (MzC.mono (tm_Mo_three (d := (d + 10)) hF  hL h) (fun r9 B9 M1 hq3 => by obtain ⟨rfl, hL2, v4, rfl, hq3⟩ := hq3; exact ⟨_, rfl, (mz_iconst (-1 : Int32) d_Mo_login_12 (by decide) (mz_callV (As := [.int (1 : Int32), .int (0 : Int32), .int v4, .int (-1 : Int32)]) (st := []) (hF 30 0 (by decide)) rfl (mzClOf cl_10) 0 0 d_Mo_login_13 cs_Mo_say wl_Mo_353 wi_Mo_say wse_Mo_say (Nat.le_of_ble_eq_true rfl) (Nat.le_refl _) (Nat.le_refl _) (MzC.mono (tm_Mo_say (d := d) hF  hL2 hq3) (fun r9 B9 M5 hq7 => by obtain ⟨rfl, hL6, v8, rfl, hq7⟩ := hq7; exact ⟨_, rfl, (mz_istore_n d_Mo_login_16 (by decide) (mz_aload_n d_Mo_login_17 rfl (mz_iconst (2 : Int32) d_Mo_login_18 (by decide) (mz_iconst (0 : Int32) d_Mo_login_19 (by decide) (mz_bipush (107 : Int32) d_Mo_login_20 (by decide) (mz_bipush (101 : Int32) d_Mo_login_22 (by decide) (mz_bipush (121 : Int32) d_Mo_login_24 (by decide) (mz_callS (As := [.int (107 : Int32), .int (101 : Int32), .int (121 : Int32)]) (st := [.int (0 : Int32), .int (2 : Int32), .ref (mz_ad B (30, 0))]) 0 0 d_Mo_login_26 cs_Mo_three wl_Mo_349 ws_Mo_three (Nat.le_of_ble_eq_true rfl) (Nat.le_refl _) (Nat.le_refl _) (MzC.mono (tm_Mo_three (d := (d + 10)) hF  hL6 hq7) (fun r9 B9 M9 hq11 => by obtain ⟨rfl, hL10, v12, rfl, hq11⟩ := hq11; exact ⟨_, rfl, (mz_iconst (-1 : Int32) d_Mo_login_29 (by decide) (mz_callV (As := [.int (2 : Int32), .int (0 : Int32), .int v12, .int (-1 : Int32)]) (st := []) (hF 30 0 (by decide)) rfl (mzClOf cl_10) 0 0 d_Mo_login_30 cs_Mo_say wl_Mo_353 wi_Mo_say wse_Mo_say (Nat.le_of_ble_eq_true rfl) (Nat.le_refl _) (Nat.le_refl _) (MzC.mono (tm_Mo_say (d := d) hF  hL10 hq11) (fun r9 B9 M13 hq15 => by obtain ⟨rfl, hL14, v16, rfl, hq15⟩ := hq15; exact ⟨_, rfl, (mz_istore_n d_Mo_login_33 (by decide) (mz_aload_n d_Mo_login_34 rfl (mz_iconst (5 : Int32) d_Mo_login_35 (by decide) (mz_bipush (73 : Int32) d_Mo_login_36 (by decide) (mz_iconst (0 : Int32) d_Mo_login_38 (by decide) (mz_iconst (-1 : Int32) d_Mo_login_39 (by decide) (mz_callV (As := [.int (5 : Int32), .int (73 : Int32), .int (0 : Int32), .int (-1 : Int32)]) (st := []) (hF 30 0 (by decide)) rfl (mzClOf cl_10) 0 0 d_Mo_login_40 cs_Mo_say wl_Mo_353 wi_Mo_say wse_Mo_say (Nat.le_of_ble_eq_true rfl) (Nat.le_refl _) (Nat.le_refl _) (MzC.mono (tm_Mo_say (d := d) hF  hL14 hq15) (fun r9 B9 M17 hq19 => by obtain ⟨rfl, hL18, v20, rfl, hq19⟩ := hq19; exact ⟨_, rfl, (mz_istore_n d_Mo_login_43 (by decide) (mz_aload_n d_Mo_login_44 rfl (mz_bipush (10 : Int32) d_Mo_login_45 (by decide) (mz_iconst (0 : Int32) d_Mo_login_47 (by decide) (mz_iconst (0 : Int32) d_Mo_login_48 (by decide) (mz_iconst (-1 : Int32) d_Mo_login_49 (by decide) (mz_callV (As := [.int (10 : Int32), .int (0 : Int32), .int (0 : Int32), .int (-1 : Int32)]) (st := []) (hF 30 0 (by decide)) rfl (mzClOf cl_10) 0 0 d_Mo_login_50 cs_Mo_say wl_Mo_353 wi_Mo_say wse_Mo_say (Nat.le_of_ble_eq_true rfl) (Nat.le_refl _) (Nat.le_refl _) (MzC.mono (tm_Mo_say (d := d) hF  hL18 hq19) (fun r9 B9 M21 hq23 => by obtain ⟨rfl, hL22, v24, rfl, hq23⟩ := hq23; exact ⟨_, rfl, (mz_istore_n d_Mo_login_53 (by decide) (mz_iload_n d_Mo_login_54 rfl (mz_if_le 62 d_Mo_login_55 rfl (fun hc25 => (mz_iconst (5 : Int32) d_Mo_login_62 (by decide) (mz_iret .int d_Mo_login_63 rfl rfl ⟨rfl, hL22, _, rfl, (hq23.1 hc25)⟩))) (fun hc25 => (mz_iconst (1 : Int32) d_Mo_login_58 (by decide) (mz_goto 63 d_Mo_login_59 rfl (mz_iret .int d_Mo_login_63 rfl rfl ⟨rfl, hL22, _, rfl, (hq23.2 hc25)⟩)))))))⟩)))))))))⟩)))))))))⟩))))⟩))))))))))⟩))))⟩))))))))))
def mm_Mo_askFor : MzT := (⟨"ParcelLineModel", "askFor", "()I"⟩, prog_14_method_78_code, 4, (Option.some Jvm.ClassFile.FieldType.int))
theorem cs_Mo_askFor {mm : MzT} : mzCall mm mm_Mo_askFor 0 := ⟨wn_Mo, wco_Mo_askFor, by decide +kernel, by decide⟩
theorem d_Mo_askFor_0 : decode mm_Mo_askFor.2.1 0 = .ok (.aload_n 0, 1) := by decide +kernel
theorem d_Mo_askFor_1 : decode mm_Mo_askFor.2.1 1 = .ok (.bipush 9, 2) := by decide +kernel
theorem d_Mo_askFor_3 : decode mm_Mo_askFor.2.1 3 = .ok (.bipush 47, 2) := by decide +kernel
theorem d_Mo_askFor_5 : decode mm_Mo_askFor.2.1 5 = .ok (.aload_n 0, 1) := by decide +kernel
theorem d_Mo_askFor_6 : decode mm_Mo_askFor.2.1 6 = .ok (.getfield 340, 3) := by decide +kernel
theorem d_Mo_askFor_9 : decode mm_Mo_askFor.2.1 9 = .ok (.ifCond .eq 9, 3) := by decide +kernel
theorem d_Mo_askFor_12 : decode mm_Mo_askFor.2.1 12 = .ok (.ldc_w 339, 3) := by decide +kernel
theorem d_Mo_askFor_15 : decode mm_Mo_askFor.2.1 15 = .ok (.goto 7, 3) := by decide +kernel
theorem d_Mo_askFor_18 : decode mm_Mo_askFor.2.1 18 = .ok (.aload_n 0, 1) := by decide +kernel
theorem d_Mo_askFor_19 : decode mm_Mo_askFor.2.1 19 = .ok (.getfield 346, 3) := by decide +kernel
theorem d_Mo_askFor_22 : decode mm_Mo_askFor.2.1 22 = .ok (.iconst (-1), 1) := by decide +kernel
theorem d_Mo_askFor_23 : decode mm_Mo_askFor.2.1 23 = .ok (.invokevirtual 353, 3) := by decide +kernel
theorem d_Mo_askFor_26 : decode mm_Mo_askFor.2.1 26 = .ok (.sipush 213, 3) := by decide +kernel
theorem d_Mo_askFor_29 : decode mm_Mo_askFor.2.1 29 = .ok (.if_icmp .ne 7, 3) := by decide +kernel
theorem d_Mo_askFor_32 : decode mm_Mo_askFor.2.1 32 = .ok (.iconst 1, 1) := by decide +kernel
theorem d_Mo_askFor_33 : decode mm_Mo_askFor.2.1 33 = .ok (.goto 4, 3) := by decide +kernel
theorem d_Mo_askFor_36 : decode mm_Mo_askFor.2.1 36 = .ok (.iconst 0, 1) := by decide +kernel
theorem d_Mo_askFor_37 : decode mm_Mo_askFor.2.1 37 = .ok (.istore_n 1, 1) := by decide +kernel
theorem d_Mo_askFor_38 : decode mm_Mo_askFor.2.1 38 = .ok (.aload_n 0, 1) := by decide +kernel
theorem d_Mo_askFor_39 : decode mm_Mo_askFor.2.1 39 = .ok (.iload_n 1, 1) := by decide +kernel
theorem d_Mo_askFor_40 : decode mm_Mo_askFor.2.1 40 = .ok (.ifCond .eq 10, 3) := by decide +kernel
theorem d_Mo_askFor_43 : decode mm_Mo_askFor.2.1 43 = .ok (.aload_n 0, 1) := by decide +kernel
theorem d_Mo_askFor_44 : decode mm_Mo_askFor.2.1 44 = .ok (.getfield 159, 3) := by decide +kernel
theorem d_Mo_askFor_47 : decode mm_Mo_askFor.2.1 47 = .ok (.goto 4, 3) := by decide +kernel
theorem d_Mo_askFor_50 : decode mm_Mo_askFor.2.1 50 = .ok (.iconst 0, 1) := by decide +kernel
theorem d_Mo_askFor_51 : decode mm_Mo_askFor.2.1 51 = .ok (.putfield 357, 3) := by decide +kernel
theorem d_Mo_askFor_54 : decode mm_Mo_askFor.2.1 54 = .ok (.aload_n 0, 1) := by decide +kernel
theorem d_Mo_askFor_55 : decode mm_Mo_askFor.2.1 55 = .ok (.getfield 340, 3) := by decide +kernel
theorem d_Mo_askFor_58 : decode mm_Mo_askFor.2.1 58 = .ok (.ifCond .ne 9, 3) := by decide +kernel
theorem d_Mo_askFor_61 : decode mm_Mo_askFor.2.1 61 = .ok (.iload_n 1, 1) := by decide +kernel
theorem d_Mo_askFor_62 : decode mm_Mo_askFor.2.1 62 = .ok (.ifCond .ne 5, 3) := by decide +kernel
theorem d_Mo_askFor_65 : decode mm_Mo_askFor.2.1 65 = .ok (.iconst 5, 1) := by decide +kernel
theorem d_Mo_askFor_66 : decode mm_Mo_askFor.2.1 66 = .ok (.ireturn, 1) := by decide +kernel
theorem d_Mo_askFor_67 : decode mm_Mo_askFor.2.1 67 = .ok (.aload_n 0, 1) := by decide +kernel
theorem d_Mo_askFor_68 : decode mm_Mo_askFor.2.1 68 = .ok (.getfield 340, 3) := by decide +kernel
theorem d_Mo_askFor_71 : decode mm_Mo_askFor.2.1 71 = .ok (.ifCond .eq 10, 3) := by decide +kernel
theorem d_Mo_askFor_74 : decode mm_Mo_askFor.2.1 74 = .ok (.aload_n 0, 1) := by decide +kernel
theorem d_Mo_askFor_75 : decode mm_Mo_askFor.2.1 75 = .ok (.getfield 357, 3) := by decide +kernel
theorem d_Mo_askFor_78 : decode mm_Mo_askFor.2.1 78 = .ok (.goto 12, 3) := by decide +kernel
theorem d_Mo_askFor_81 : decode mm_Mo_askFor.2.1 81 = .ok (.aload_n 0, 1) := by decide +kernel
theorem d_Mo_askFor_82 : decode mm_Mo_askFor.2.1 82 = .ok (.getfield 116, 3) := by decide +kernel
theorem d_Mo_askFor_85 : decode mm_Mo_askFor.2.1 85 = .ok (.aload_n 0, 1) := by decide +kernel
theorem d_Mo_askFor_86 : decode mm_Mo_askFor.2.1 86 = .ok (.getfield 343, 3) := by decide +kernel
theorem d_Mo_askFor_89 : decode mm_Mo_askFor.2.1 89 = .ok (.iaload, 1) := by decide +kernel
theorem d_Mo_askFor_90 : decode mm_Mo_askFor.2.1 90 = .ok (.istore_n 2, 1) := by decide +kernel
theorem d_Mo_askFor_91 : decode mm_Mo_askFor.2.1 91 = .ok (.aload_n 0, 1) := by decide +kernel
theorem d_Mo_askFor_92 : decode mm_Mo_askFor.2.1 92 = .ok (.getfield 340, 3) := by decide +kernel
theorem d_Mo_askFor_95 : decode mm_Mo_askFor.2.1 95 = .ok (.ifCond .eq 34, 3) := by decide +kernel
theorem d_Mo_askFor_98 : decode mm_Mo_askFor.2.1 98 = .ok (.aload_n 0, 1) := by decide +kernel
theorem d_Mo_askFor_99 : decode mm_Mo_askFor.2.1 99 = .ok (.getfield 357, 3) := by decide +kernel
theorem d_Mo_askFor_102 : decode mm_Mo_askFor.2.1 102 = .ok (.aload_n 0, 1) := by decide +kernel
theorem d_Mo_askFor_103 : decode mm_Mo_askFor.2.1 103 = .ok (.getfield 116, 3) := by decide +kernel
theorem d_Mo_askFor_106 : decode mm_Mo_askFor.2.1 106 = .ok (.aload_n 0, 1) := by decide +kernel
theorem d_Mo_askFor_107 : decode mm_Mo_askFor.2.1 107 = .ok (.getfield 343, 3) := by decide +kernel
theorem d_Mo_askFor_110 : decode mm_Mo_askFor.2.1 110 = .ok (.iaload, 1) := by decide +kernel
theorem d_Mo_askFor_111 : decode mm_Mo_askFor.2.1 111 = .ok (.if_icmp .le 18, 3) := by decide +kernel
theorem d_Mo_askFor_114 : decode mm_Mo_askFor.2.1 114 = .ok (.aload_n 0, 1) := by decide +kernel
theorem d_Mo_askFor_115 : decode mm_Mo_askFor.2.1 115 = .ok (.bipush 17, 2) := by decide +kernel
theorem d_Mo_askFor_117 : decode mm_Mo_askFor.2.1 117 = .ok (.bipush 47, 2) := by decide +kernel
theorem d_Mo_askFor_119 : decode mm_Mo_askFor.2.1 119 = .ok (.ldc_w 339, 3) := by decide +kernel
theorem d_Mo_askFor_122 : decode mm_Mo_askFor.2.1 122 = .ok (.iconst (-1), 1) := by decide +kernel
theorem d_Mo_askFor_123 : decode mm_Mo_askFor.2.1 123 = .ok (.invokevirtual 353, 3) := by decide +kernel
theorem d_Mo_askFor_126 : decode mm_Mo_askFor.2.1 126 = .ok (.istore_n 2, 1) := by decide +kernel
theorem d_Mo_askFor_127 : decode mm_Mo_askFor.2.1 127 = .ok (.iconst 0, 1) := by decide +kernel
theorem d_Mo_askFor_128 : decode mm_Mo_askFor.2.1 128 = .ok (.istore_n 2, 1) := by decide +kernel
theorem d_Mo_askFor_129 : decode mm_Mo_askFor.2.1 129 = .ok (.aload_n 0, 1) := by decide +kernel
theorem d_Mo_askFor_130 : decode mm_Mo_askFor.2.1 130 = .ok (.getfield 340, 3) := by decide +kernel
theorem d_Mo_askFor_133 : decode mm_Mo_askFor.2.1 133 = .ok (.ifCond .ne 31, 3) := by decide +kernel
theorem d_Mo_askFor_136 : decode mm_Mo_askFor.2.1 136 = .ok (.aload_n 0, 1) := by decide +kernel
theorem d_Mo_askFor_137 : decode mm_Mo_askFor.2.1 137 = .ok (.getfield 116, 3) := by decide +kernel
theorem d_Mo_askFor_140 : decode mm_Mo_askFor.2.1 140 = .ok (.aload_n 0, 1) := by decide +kernel
theorem d_Mo_askFor_141 : decode mm_Mo_askFor.2.1 141 = .ok (.getfield 343, 3) := by decide +kernel
theorem d_Mo_askFor_144 : decode mm_Mo_askFor.2.1 144 = .ok (.iaload, 1) := by decide +kernel
theorem d_Mo_askFor_145 : decode mm_Mo_askFor.2.1 145 = .ok (.aload_n 0, 1) := by decide +kernel
theorem d_Mo_askFor_146 : decode mm_Mo_askFor.2.1 146 = .ok (.getfield 357, 3) := by decide +kernel
theorem d_Mo_askFor_149 : decode mm_Mo_askFor.2.1 149 = .ok (.if_icmp .le 15, 3) := by decide +kernel
theorem d_Mo_askFor_152 : decode mm_Mo_askFor.2.1 152 = .ok (.aload_n 0, 1) := by decide +kernel
theorem d_Mo_askFor_153 : decode mm_Mo_askFor.2.1 153 = .ok (.getfield 116, 3) := by decide +kernel
theorem d_Mo_askFor_156 : decode mm_Mo_askFor.2.1 156 = .ok (.aload_n 0, 1) := by decide +kernel
theorem d_Mo_askFor_157 : decode mm_Mo_askFor.2.1 157 = .ok (.getfield 343, 3) := by decide +kernel
theorem d_Mo_askFor_160 : decode mm_Mo_askFor.2.1 160 = .ok (.iconst 0, 1) := by decide +kernel
theorem d_Mo_askFor_161 : decode mm_Mo_askFor.2.1 161 = .ok (.iastore, 1) := by decide +kernel
theorem d_Mo_askFor_162 : decode mm_Mo_askFor.2.1 162 = .ok (.iconst 0, 1) := by decide +kernel
theorem d_Mo_askFor_163 : decode mm_Mo_askFor.2.1 163 = .ok (.istore_n 2, 1) := by decide +kernel
theorem d_Mo_askFor_164 : decode mm_Mo_askFor.2.1 164 = .ok (.aload_n 0, 1) := by decide +kernel
theorem d_Mo_askFor_165 : decode mm_Mo_askFor.2.1 165 = .ok (.bipush 11, 2) := by decide +kernel
theorem d_Mo_askFor_167 : decode mm_Mo_askFor.2.1 167 = .ok (.iconst 0, 1) := by decide +kernel
theorem d_Mo_askFor_168 : decode mm_Mo_askFor.2.1 168 = .ok (.iconst 0, 1) := by decide +kernel
theorem d_Mo_askFor_169 : decode mm_Mo_askFor.2.1 169 = .ok (.iload_n 2, 1) := by decide +kernel
theorem d_Mo_askFor_170 : decode mm_Mo_askFor.2.1 170 = .ok (.invokevirtual 353, 3) := by decide +kernel
theorem d_Mo_askFor_173 : decode mm_Mo_askFor.2.1 173 = .ok (.istore_n 3, 1) := by decide +kernel
theorem d_Mo_askFor_174 : decode mm_Mo_askFor.2.1 174 = .ok (.aload_n 0, 1) := by decide +kernel
theorem d_Mo_askFor_175 : decode mm_Mo_askFor.2.1 175 = .ok (.getfield 340, 3) := by decide +kernel
theorem d_Mo_askFor_178 : decode mm_Mo_askFor.2.1 178 = .ok (.ifCond .eq 18, 3) := by decide +kernel
theorem d_Mo_askFor_181 : decode mm_Mo_askFor.2.1 181 = .ok (.aload_n 0, 1) := by decide +kernel
theorem d_Mo_askFor_182 : decode mm_Mo_askFor.2.1 182 = .ok (.bipush 13, 2) := by decide +kernel
theorem d_Mo_askFor_184 : decode mm_Mo_askFor.2.1 184 = .ok (.bipush 47, 2) := by decide +kernel
theorem d_Mo_askFor_186 : decode mm_Mo_askFor.2.1 186 = .ok (.ldc_w 339, 3) := by decide +kernel
theorem d_Mo_askFor_189 : decode mm_Mo_askFor.2.1 189 = .ok (.iconst (-1), 1) := by decide +kernel
theorem d_Mo_askFor_190 : decode mm_Mo_askFor.2.1 190 = .ok (.invokevirtual 353, 3) := by decide +kernel
theorem d_Mo_askFor_193 : decode mm_Mo_askFor.2.1 193 = .ok (.goto 16, 3) := by decide +kernel
theorem d_Mo_askFor_196 : decode mm_Mo_askFor.2.1 196 = .ok (.aload_n 0, 1) := by decide +kernel
theorem d_Mo_askFor_197 : decode mm_Mo_askFor.2.1 197 = .ok (.bipush 12, 2) := by decide +kernel
theorem d_Mo_askFor_199 : decode mm_Mo_askFor.2.1 199 = .ok (.bipush 47, 2) := by decide +kernel
theorem d_Mo_askFor_201 : decode mm_Mo_askFor.2.1 201 = .ok (.aload_n 0, 1) := by decide +kernel
theorem d_Mo_askFor_202 : decode mm_Mo_askFor.2.1 202 = .ok (.getfield 346, 3) := by decide +kernel
theorem d_Mo_askFor_205 : decode mm_Mo_askFor.2.1 205 = .ok (.iconst (-1), 1) := by decide +kernel
theorem d_Mo_askFor_206 : decode mm_Mo_askFor.2.1 206 = .ok (.invokevirtual 353, 3) := by decide +kernel
theorem d_Mo_askFor_209 : decode mm_Mo_askFor.2.1 209 = .ok (.istore_n 3, 1) := by decide +kernel
theorem d_Mo_askFor_210 : decode mm_Mo_askFor.2.1 210 = .ok (.iload_n 3, 1) := by decide +kernel
theorem d_Mo_askFor_211 : decode mm_Mo_askFor.2.1 211 = .ok (.sipush 150, 3) := by decide +kernel
theorem d_Mo_askFor_214 : decode mm_Mo_askFor.2.1 214 = .ok (.if_icmp .ne 7, 3) := by decide +kernel
theorem d_Mo_askFor_217 : decode mm_Mo_askFor.2.1 217 = .ok (.iconst 2, 1) := by decide +kernel
theorem d_Mo_askFor_218 : decode mm_Mo_askFor.2.1 218 = .ok (.goto 4, 3) := by decide +kernel
theorem d_Mo_askFor_221 : decode mm_Mo_askFor.2.1 221 = .ok (.iconst 5, 1) := by decide +kernel
theorem d_Mo_askFor_222 : decode mm_Mo_askFor.2.1 222 = .ok (.ireturn, 1) := by decide +kernel
def wp_Mo_askFor_164   (K : Int32 → MzM → Prop) (y2 : Int32) (M : MzM) : Prop := wp_Mo_say  (11 : Int32) (0 : Int32) (0 : Int32) y2 M (fun v41 M38 => (((mz_i M38 (30, 0) 39) = 0 → wp_Mo_say  (12 : Int32) (47 : Int32) (mz_i M38 (30, 0) 41) (-1 : Int32) M38 (fun v45 M42 => ((¬ v45 = (150 : Int32) → K (5 : Int32) M42) ∧ (v45 = (150 : Int32) → K (2 : Int32) M42)))) ∧ (¬ (mz_i M38 (30, 0) 39) = 0 → wp_Mo_say  (13 : Int32) (47 : Int32) (1849076 : Int32) (-1 : Int32) M38 (fun v50 M47 => ((¬ v50 = (150 : Int32) → K (5 : Int32) M47) ∧ (v50 = (150 : Int32) → K (2 : Int32) M47))))))
def wp_Mo_askFor_129   (K : Int32 → MzM → Prop) (y2 : Int32) (M : MzM) : Prop := ((¬ (mz_i M (30, 0) 39) = 0 → wp_Mo_askFor_164   K y2 M) ∧ ((mz_i M (30, 0) 39) = 0 → (∃ j26 : Nat, (mz_i M (30, 0) 40).toInt = (j26 : Int) ∧ j26 < 3 ∧ (((mz_i M (59, 0) j26) ≤ (mz_i M (30, 0) 44) → wp_Mo_askFor_164   K y2 M) ∧ (¬ (mz_i M (59, 0) j26) ≤ (mz_i M (30, 0) 44) → (∃ j33 : Nat, (mz_i M (30, 0) 40).toInt = (j33 : Int) ∧ j33 < 3 ∧ ∀ M30 : MzM, M30 = mz_si M (59, 0) j33 (0 : Int32) → wp_Mo_askFor_164   K (0 : Int32) M30))))))
def wp_Mo_askFor_90   (K : Int32 → MzM → Prop) (ys0 : Int32) (M : MzM) : Prop := (((mz_i M (30, 0) 39) = 0 → wp_Mo_askFor_129   K ys0 M) ∧ (¬ (mz_i M (30, 0) 39) = 0 → (∃ j16 : Nat, (mz_i M (30, 0) 40).toInt = (j16 : Int) ∧ j16 < 3 ∧ (((mz_i M (30, 0) 44) ≤ (mz_i M (59, 0) j16) → wp_Mo_askFor_129   K ys0 M) ∧ (¬ (mz_i M (30, 0) 44) ≤ (mz_i M (59, 0) j16) → wp_Mo_say  (17 : Int32) (47 : Int32) (1849076 : Int32) (-1 : Int32) M (fun v23 M20 => wp_Mo_askFor_129   K (0 : Int32) M20))))))
def wp_Mo_askFor_67   (K : Int32 → MzM → Prop)  (M : MzM) : Prop := (((mz_i M (30, 0) 39) = 0 → (∃ j11 : Nat, (mz_i M (30, 0) 40).toInt = (j11 : Int) ∧ j11 < 3 ∧ wp_Mo_askFor_90   K (mz_i M (59, 0) j11) M)) ∧ (¬ (mz_i M (30, 0) 39) = 0 → wp_Mo_askFor_90   K (mz_i M (30, 0) 44) M))
def wp_Mo_askFor_51   (K : Int32 → MzM → Prop) (y1 : Int32) (ys0 : Int32) (M : MzM) : Prop := (∀ M8 : MzM, M8 = mz_si M (30, 0) 44 ys0 → ((¬ (mz_i M8 (30, 0) 39) = 0 → wp_Mo_askFor_67   K  M8) ∧ ((mz_i M8 (30, 0) 39) = 0 → ((¬ y1 = 0 → wp_Mo_askFor_67   K  M8) ∧ (y1 = 0 → K (5 : Int32) M8)))))
def wp_Mo_askFor_37   (K : Int32 → MzM → Prop) (ys0 : Int32) (M : MzM) : Prop := ((ys0 = 0 → wp_Mo_askFor_51   K ys0 (0 : Int32) M) ∧ (¬ ys0 = 0 → wp_Mo_askFor_51   K ys0 (mz_i M (30, 0) 31) M))
def wp_Mo_askFor_22   (K : Int32 → MzM → Prop) (ys0 : Int32) (ys1 : Int32) (ys2 : Int32) (M : MzM) : Prop := wp_Mo_say  ys2 ys1 ys0 (-1 : Int32) M (fun v5 M2 => ((¬ v5 = (213 : Int32) → wp_Mo_askFor_37   K (0 : Int32) M2) ∧ (v5 = (213 : Int32) → wp_Mo_askFor_37   K (1 : Int32) M2)))
def wp_Mo_askFor   (M : MzM) (K : Int32 → MzM → Prop) : Prop := (((mz_i M (30, 0) 39) = 0 → wp_Mo_askFor_22   K (mz_i M (30, 0) 41) (47 : Int32) (9 : Int32) M) ∧ (¬ (mz_i M (30, 0) 39) = 0 → wp_Mo_askFor_22   K (1849076 : Int32) (47 : Int32) (9 : Int32) M))
theorem tm_Mo_askFor_164 {G : MzG} {B : MzB} {d : Nat} {K : Int32 → MzM → Prop} (hF : mzLive B)     (y2 : Int32) (M : MzM) (hL : mzLnk M) (h : wp_Mo_askFor_164   K y2 M) : MzS G B (d + 11) mm_Mo_askFor M (0, 0) (mzK1 B K) 164 [(0, .ref (mz_ad B (30, 0))), (2, .int y2)] [] := by
  unfold wp_Mo_askFor_164 at h
  exact (mz_aload_n d_Mo_askFor_164 rfl (mz_bipush (11 : Int32) d_Mo_askFor_165 (by decide) (mz_iconst (0 : Int32) d_Mo_askFor_167 (by decide) (mz_iconst (0 : Int32) d_Mo_askFor_168 (by decide) (mz_iload_n d_Mo_askFor_169 rfl (mz_callV (As := [.int (11 : Int32), .int (0 : Int32), .int (0 : Int32), .int y2]) (st := []) (hF 30 0 (by decide)) rfl (mzClOf cl_10) 0 0 d_Mo_askFor_170 cs_Mo_say wl_Mo_353 wi_Mo_say wse_Mo_say (Nat.le_of_ble_eq_true rfl) (Nat.le_refl _) (Nat.le_refl _) (MzC.mono (tm_Mo_say (d := d) hF  hL h) (fun r9 B9 M38 hq40 => by obtain ⟨rfl, hL39, v41, rfl, hq40⟩ := hq40; exact ⟨_, rfl, (mz_istore_n d_Mo_askFor_173 (by decide) (mz_aload_n d_Mo_askFor_174 rfl (mz_getI (k := 39) cl_10 d_Mo_askFor_175 (by decide) wf_Mo_340 rfl (hF 30 0 (by decide)) rfl (mz_if_eq 196 d_Mo_askFor_178 rfl (fun hc52 => (mz_aload_n d_Mo_askFor_196 rfl (mz_bipush (12 : Int32) d_Mo_askFor_197 (by decide) (mz_bipush (47 : Int32) d_Mo_askFor_199 (by decide) (mz_aload_n d_Mo_askFor_201 rfl (mz_getI (k := 41) cl_10 d_Mo_askFor_202 (by decide) wf_Mo_346 rfl (hF 30 0 (by decide)) rfl (mz_iconst (-1 : Int32) d_Mo_askFor_205 (by decide) (mz_callV (As := [.int (12 : Int32), .int (47 : Int32), .int (mz_i M38 (30, 0) 41), .int (-1 : Int32)]) (st := []) (hF 30 0 (by decide)) rfl (mzClOf cl_10) 0 0 d_Mo_askFor_206 cs_Mo_say wl_Mo_353 wi_Mo_say wse_Mo_say (Nat.le_of_ble_eq_true rfl) (Nat.le_refl _) (Nat.le_refl _) (MzC.mono (tm_Mo_say (d := d) hF  hL39 (hq40.1 hc52)) (fun r9 B9 M42 hq44 => by obtain ⟨rfl, hL43, v45, rfl, hq44⟩ := hq44; exact ⟨_, rfl, (mz_istore_n d_Mo_askFor_209 (by decide) (mz_iload_n d_Mo_askFor_210 rfl (mz_sipush (150 : Int32) d_Mo_askFor_211 (by decide) (mz_icmp_ne 221 d_Mo_askFor_214 rfl (fun hc46 => (mz_iconst (5 : Int32) d_Mo_askFor_221 (by decide) (mz_iret .int d_Mo_askFor_222 rfl rfl ⟨rfl, hL43, _, rfl, (hq44.1 hc46)⟩))) (fun hc46 => (mz_iconst (2 : Int32) d_Mo_askFor_217 (by decide) (mz_goto 222 d_Mo_askFor_218 rfl (mz_iret .int d_Mo_askFor_222 rfl rfl ⟨rfl, hL43, _, rfl, (hq44.2 hc46)⟩))))))))⟩)))))))))) (fun hc52 => (mz_aload_n d_Mo_askFor_181 rfl (mz_bipush (13 : Int32) d_Mo_askFor_182 (by decide) (mz_bipush (47 : Int32) d_Mo_askFor_184 (by decide) (mz_ldcw (v := (1849076 : Int32)) d_Mo_askFor_186 wk_Mo_339 (mz_iconst (-1 : Int32) d_Mo_askFor_189 (by decide) (mz_callV (As := [.int (13 : Int32), .int (47 : Int32), .int (1849076 : Int32), .int (-1 : Int32)]) (st := []) (hF 30 0 (by decide)) rfl (mzClOf cl_10) 0 0 d_Mo_askFor_190 cs_Mo_say wl_Mo_353 wi_Mo_say wse_Mo_say (Nat.le_of_ble_eq_true rfl) (Nat.le_refl _) (Nat.le_refl _) (MzC.mono (tm_Mo_say (d := d) hF  hL39 (hq40.2 hc52)) (fun r9 B9 M47 hq49 => by obtain ⟨rfl, hL48, v50, rfl, hq49⟩ := hq49; exact ⟨_, rfl, (mz_goto 209 d_Mo_askFor_193 rfl (mz_istore_n d_Mo_askFor_209 (by decide) (mz_iload_n d_Mo_askFor_210 rfl (mz_sipush (150 : Int32) d_Mo_askFor_211 (by decide) (mz_icmp_ne 221 d_Mo_askFor_214 rfl (fun hc51 => (mz_iconst (5 : Int32) d_Mo_askFor_221 (by decide) (mz_iret .int d_Mo_askFor_222 rfl rfl ⟨rfl, hL48, _, rfl, (hq49.1 hc51)⟩))) (fun hc51 => (mz_iconst (2 : Int32) d_Mo_askFor_217 (by decide) (mz_goto 222 d_Mo_askFor_218 rfl (mz_iret .int d_Mo_askFor_222 rfl rfl ⟨rfl, hL48, _, rfl, (hq49.2 hc51)⟩)))))))))⟩)))))))))))))⟩))))))))
theorem tm_Mo_askFor_129 {G : MzG} {B : MzB} {d : Nat} {K : Int32 → MzM → Prop} (hF : mzLive B)     (y2 : Int32) (M : MzM) (hL : mzLnk M) (h : wp_Mo_askFor_129   K y2 M) : MzS G B (d + 11) mm_Mo_askFor M (0, 0) (mzK1 B K) 129 [(0, .ref (mz_ad B (30, 0))), (2, .int y2)] [] := by
  unfold wp_Mo_askFor_129 at h
  exact (mz_aload_n d_Mo_askFor_129 rfl (mz_getI (k := 39) cl_10 d_Mo_askFor_130 (by decide) wf_Mo_340 rfl (hF 30 0 (by decide)) rfl (mz_if_ne 164 d_Mo_askFor_133 rfl (fun hc37 => (MzS.loc [(0, .ref (mz_ad B (30, 0))), (2, .int y2)] ⟨rfl, rfl, trivial⟩ (tm_Mo_askFor_164 hF   y2 M hL (h.1 hc37)))) (fun hc37 => (mz_aload_n d_Mo_askFor_136 rfl (mz_getR (k := 36) (a := (59, 0)) cl_10 d_Mo_askFor_137 (by decide) wf_Mo_116 rfl (hF 30 0 (by decide)) rfl (hL (30, 0) 36 (59, 0) rfl (by decide)) (mz_aload_n d_Mo_askFor_140 rfl (mz_getI (k := 40) cl_10 d_Mo_askFor_141 (by decide) wf_Mo_343 rfl (hF 30 0 (by decide)) rfl (match (h.2 hc37) with | ⟨j26, h27, h28, h29⟩ => mz_iald j26 d_Mo_askFor_144 (hF 59 0 (by decide)) rfl h27 h28 (mz_aload_n d_Mo_askFor_145 rfl (mz_getI (k := 44) cl_10 d_Mo_askFor_146 (by decide) wf_Mo_357 rfl (hF 30 0 (by decide)) rfl (mz_icmp_le 164 d_Mo_askFor_149 rfl (fun hc36 => (MzS.loc [(0, .ref (mz_ad B (30, 0))), (2, .int y2)] ⟨rfl, rfl, trivial⟩ (tm_Mo_askFor_164 hF   y2 M hL (h29.1 hc36)))) (fun hc36 => (mz_aload_n d_Mo_askFor_152 rfl (mz_getR (k := 36) (a := (59, 0)) cl_10 d_Mo_askFor_153 (by decide) wf_Mo_116 rfl (hF 30 0 (by decide)) rfl (hL (30, 0) 36 (59, 0) rfl (by decide)) (mz_aload_n d_Mo_askFor_156 rfl (mz_getI (k := 40) cl_10 d_Mo_askFor_157 (by decide) wf_Mo_343 rfl (hF 30 0 (by decide)) rfl (mz_iconst (0 : Int32) d_Mo_askFor_160 (by decide) (match (h29.2 hc36) with | ⟨j33, h34, h35, h32⟩ => mz_iast j33 d_Mo_askFor_161 (hF 59 0 (by decide)) rfl h34 h35 (let M30 : MzM := mz_si M (59, 0) j33 (0 : Int32); (mz_iconst (0 : Int32) d_Mo_askFor_162 (by decide) (mz_istore_n d_Mo_askFor_163 (by decide) (MzS.loc [(0, .ref (mz_ad B (30, 0))), (2, .int (0 : Int32))] ⟨rfl, rfl, trivial⟩ (tm_Mo_askFor_164 hF   (0 : Int32) M30 hL (h32 M30 rfl)))))))))))))))))))))))))
theorem tm_Mo_askFor_90 {G : MzG} {B : MzB} {d : Nat} {K : Int32 → MzM → Prop} (hF : mzLive B)     (ys0 : Int32) (M : MzM) (hL : mzLnk M) (h : wp_Mo_askFor_90   K ys0 M) : MzS G B (d + 11) mm_Mo_askFor M (0, 0) (mzK1 B K) 90 [(0, .ref (mz_ad B (30, 0)))] [.int ys0] := by
  unfold wp_Mo_askFor_90 at h
  exact (mz_istore_n d_Mo_askFor_90 (by decide) (mz_aload_n d_Mo_askFor_91 rfl (mz_getI (k := 39) cl_10 d_Mo_askFor_92 (by decide) wf_Mo_340 rfl (hF 30 0 (by decide)) rfl (mz_if_eq 129 d_Mo_askFor_95 rfl (fun hc25 => (MzS.loc [(0, .ref (mz_ad B (30, 0))), (2, .int ys0)] ⟨rfl, rfl, trivial⟩ (tm_Mo_askFor_129 hF   ys0 M hL (h.1 hc25)))) (fun hc25 => (mz_aload_n d_Mo_askFor_98 rfl (mz_getI (k := 44) cl_10 d_Mo_askFor_99 (by decide) wf_Mo_357 rfl (hF 30 0 (by decide)) rfl (mz_aload_n d_Mo_askFor_102 rfl (mz_getR (k := 36) (a := (59, 0)) cl_10 d_Mo_askFor_103 (by decide) wf_Mo_116 rfl (hF 30 0 (by decide)) rfl (hL (30, 0) 36 (59, 0) rfl (by decide)) (mz_aload_n d_Mo_askFor_106 rfl (mz_getI (k := 40) cl_10 d_Mo_askFor_107 (by decide) wf_Mo_343 rfl (hF 30 0 (by decide)) rfl (match (h.2 hc25) with | ⟨j16, h17, h18, h19⟩ => mz_iald j16 d_Mo_askFor_110 (hF 59 0 (by decide)) rfl h17 h18 (mz_icmp_le 129 d_Mo_askFor_111 rfl (fun hc24 => (MzS.loc [(0, .ref (mz_ad B (30, 0))), (2, .int ys0)] ⟨rfl, rfl, trivial⟩ (tm_Mo_askFor_129 hF   ys0 M hL (h19.1 hc24)))) (fun hc24 => (mz_aload_n d_Mo_askFor_114 rfl (mz_bipush (17 : Int32) d_Mo_askFor_115 (by decide) (mz_bipush (47 : Int32) d_Mo_askFor_117 (by decide) (mz_ldcw (v := (1849076 : Int32)) d_Mo_askFor_119 wk_Mo_339 (mz_iconst (-1 : Int32) d_Mo_askFor_122 (by decide) (mz_callV (As := [.int (17 : Int32), .int (47 : Int32), .int (1849076 : Int32), .int (-1 : Int32)]) (st := []) (hF 30 0 (by decide)) rfl (mzClOf cl_10) 0 0 d_Mo_askFor_123 cs_Mo_say wl_Mo_353 wi_Mo_say wse_Mo_say (Nat.le_of_ble_eq_true rfl) (Nat.le_refl _) (Nat.le_refl _) (MzC.mono (tm_Mo_say (d := d) hF  hL (h19.2 hc24)) (fun r9 B9 M20 hq22 => by obtain ⟨rfl, hL21, v23, rfl, hq22⟩ := hq22; exact ⟨_, rfl, (mz_istore_n d_Mo_askFor_126 (by decide) (mz_iconst (0 : Int32) d_Mo_askFor_127 (by decide) (mz_istore_n d_Mo_askFor_128 (by decide) (MzS.loc [(0, .ref (mz_ad B (30, 0))), (2, .int (0 : Int32))] ⟨rfl, rfl, trivial⟩ (tm_Mo_askFor_129 hF   (0 : Int32) M20 hL21 hq22)))))⟩))))))))))))))))))))))
theorem tm_Mo_askFor_67 {G : MzG} {B : MzB} {d : Nat} {K : Int32 → MzM → Prop} (hF : mzLive B)      (M : MzM) (hL : mzLnk M) (h : wp_Mo_askFor_67   K  M) : MzS G B (d + 11) mm_Mo_askFor M (0, 0) (mzK1 B K) 67 [(0, .ref (mz_ad B (30, 0)))] [] := by
  unfold wp_Mo_askFor_67 at h
  exact (mz_aload_n d_Mo_askFor_67 rfl (mz_getI (k := 39) cl_10 d_Mo_askFor_68 (by decide) wf_Mo_340 rfl (hF 30 0 (by decide)) rfl (mz_if_eq 81 d_Mo_askFor_71 rfl (fun hc15 => (mz_aload_n d_Mo_askFor_81 rfl (mz_getR (k := 36) (a := (59, 0)) cl_10 d_Mo_askFor_82 (by decide) wf_Mo_116 rfl (hF 30 0 (by decide)) rfl (hL (30, 0) 36 (59, 0) rfl (by decide)) (mz_aload_n d_Mo_askFor_85 rfl (mz_getI (k := 40) cl_10 d_Mo_askFor_86 (by decide) wf_Mo_343 rfl (hF 30 0 (by decide)) rfl (match (h.1 hc15) with | ⟨j11, h12, h13, h14⟩ => mz_iald j11 d_Mo_askFor_89 (hF 59 0 (by decide)) rfl h12 h13 (MzS.loc [(0, .ref (mz_ad B (30, 0)))] ⟨rfl, trivial⟩ (tm_Mo_askFor_90 hF   (mz_i M (59, 0) j11) M hL h14)))))))) (fun hc15 => (mz_aload_n d_Mo_askFor_74 rfl (mz_getI (k := 44) cl_10 d_Mo_askFor_75 (by decide) wf_Mo_357 rfl (hF 30 0 (by decide)) rfl (mz_goto 90 d_Mo_askFor_78 rfl (MzS.loc [(0, .ref (mz_ad B (30, 0)))] ⟨rfl, trivial⟩ (tm_Mo_askFor_90 hF   (mz_i M (30, 0) 44) M hL (h.2 hc15))))))))))
theorem tm_Mo_askFor_51 {G : MzG} {B : MzB} {d : Nat} {K : Int32 → MzM → Prop} (hF : mzLive B)     (y1 : Int32) (ys0 : Int32) (M : MzM) (hL : mzLnk M) (h : wp_Mo_askFor_51   K y1 ys0 M) : MzS G B (d + 11) mm_Mo_askFor M (0, 0) (mzK1 B K) 51 [(0, .ref (mz_ad B (30, 0))), (1, .int y1)] [.int ys0, .ref (mz_ad B (30, 0))] := by
  unfold wp_Mo_askFor_51 at h
  exact (mz_putI (k := 44) cl_10 d_Mo_askFor_51 (by decide) wf_Mo_357 rfl rfl rfl rfl (hF 30 0 (by decide)) rfl (let M8 : MzM := mz_si M (30, 0) 44 ys0; (mz_aload_n d_Mo_askFor_54 rfl (mz_getI (k := 39) cl_10 d_Mo_askFor_55 (by decide) wf_Mo_340 rfl (hF 30 0 (by decide)) rfl (mz_if_ne 67 d_Mo_askFor_58 rfl (fun hc10 => (MzS.loc [(0, .ref (mz_ad B (30, 0)))] ⟨rfl, trivial⟩ (tm_Mo_askFor_67 hF    M8 hL ((h M8 rfl).1 hc10)))) (fun hc10 => (mz_iload_n d_Mo_askFor_61 rfl (mz_if_ne 67 d_Mo_askFor_62 rfl (fun hc9 => (MzS.loc [(0, .ref (mz_ad B (30, 0)))] ⟨rfl, trivial⟩ (tm_Mo_askFor_67 hF    M8 hL (((h M8 rfl).2 hc10).1 hc9)))) (fun hc9 => (mz_iconst (5 : Int32) d_Mo_askFor_65 (by decide) (mz_iret .int d_Mo_askFor_66 rfl rfl ⟨rfl, hL, _, rfl, (((h M8 rfl).2 hc10).2 hc9)⟩)))))))))))
theorem tm_Mo_askFor_37 {G : MzG} {B : MzB} {d : Nat} {K : Int32 → MzM → Prop} (hF : mzLive B)     (ys0 : Int32) (M : MzM) (hL : mzLnk M) (h : wp_Mo_askFor_37   K ys0 M) : MzS G B (d + 11) mm_Mo_askFor M (0, 0) (mzK1 B K) 37 [(0, .ref (mz_ad B (30, 0)))] [.int ys0] := by
  unfold wp_Mo_askFor_37 at h
  exact (mz_istore_n d_Mo_askFor_37 (by decide) (mz_aload_n d_Mo_askFor_38 rfl (mz_iload_n d_Mo_askFor_39 rfl (mz_if_eq 50 d_Mo_askFor_40 rfl (fun hc7 => (mz_iconst (0 : Int32) d_Mo_askFor_50 (by decide) (MzS.loc [(0, .ref (mz_ad B (30, 0))), (1, .int ys0)] ⟨rfl, rfl, trivial⟩ (tm_Mo_askFor_51 hF   ys0 (0 : Int32) M hL (h.1 hc7))))) (fun hc7 => (mz_aload_n d_Mo_askFor_43 rfl (mz_getI (k := 31) cl_10 d_Mo_askFor_44 (by decide) wf_Mo_159 rfl (hF 30 0 (by decide)) rfl (mz_goto 51 d_Mo_askFor_47 rfl (MzS.loc [(0, .ref (mz_ad B (30, 0))), (1, .int ys0)] ⟨rfl, rfl, trivial⟩ (tm_Mo_askFor_51 hF   ys0 (mz_i M (30, 0) 31) M hL (h.2 hc7)))))))))))
theorem tm_Mo_askFor_22 {G : MzG} {B : MzB} {d : Nat} {K : Int32 → MzM → Prop} (hF : mzLive B)     (ys0 : Int32) (ys1 : Int32) (ys2 : Int32) (M : MzM) (hL : mzLnk M) (h : wp_Mo_askFor_22   K ys0 ys1 ys2 M) : MzS G B (d + 11) mm_Mo_askFor M (0, 0) (mzK1 B K) 22 [(0, .ref (mz_ad B (30, 0)))] [.int ys0, .int ys1, .int ys2, .ref (mz_ad B (30, 0))] := by
  unfold wp_Mo_askFor_22 at h
  exact (mz_iconst (-1 : Int32) d_Mo_askFor_22 (by decide) (mz_callV (As := [.int ys2, .int ys1, .int ys0, .int (-1 : Int32)]) (st := []) (hF 30 0 (by decide)) rfl (mzClOf cl_10) 0 0 d_Mo_askFor_23 cs_Mo_say wl_Mo_353 wi_Mo_say wse_Mo_say (Nat.le_of_ble_eq_true rfl) (Nat.le_refl _) (Nat.le_refl _) (MzC.mono (tm_Mo_say (d := d) hF  hL h) (fun r9 B9 M2 hq4 => by obtain ⟨rfl, hL3, v5, rfl, hq4⟩ := hq4; exact ⟨_, rfl, (mz_sipush (213 : Int32) d_Mo_askFor_26 (by decide) (mz_icmp_ne 36 d_Mo_askFor_29 rfl (fun hc6 => (mz_iconst (0 : Int32) d_Mo_askFor_36 (by decide) (MzS.loc [(0, .ref (mz_ad B (30, 0)))] ⟨rfl, trivial⟩ (tm_Mo_askFor_37 hF   (0 : Int32) M2 hL3 (hq4.1 hc6))))) (fun hc6 => (mz_iconst (1 : Int32) d_Mo_askFor_32 (by decide) (mz_goto 37 d_Mo_askFor_33 rfl (MzS.loc [(0, .ref (mz_ad B (30, 0)))] ⟨rfl, trivial⟩ (tm_Mo_askFor_37 hF   (1 : Int32) M2 hL3 (hq4.2 hc6))))))))⟩))))
theorem tm_Mo_askFor {G : MzG} {B : MzB} {d : Nat} {K : Int32 → MzM → Prop} (hF : mzLive B)    {M : MzM} (hL : mzLnk M) (h : wp_Mo_askFor   M K) : MzC G B (d + 11) mm_Mo_askFor [.ref (mz_ad B (30, 0))] M (0, 0) (mzK1 B K) := by
  unfold wp_Mo_askFor at h
  exact MzC.of rfl (Nat.le_of_ble_eq_true rfl) (show MzS G B (d + 11) mm_Mo_askFor M (0, 0) (mzK1 B K) 0 [(0, .ref (mz_ad B (30, 0)))] [] from (mz_aload_n d_Mo_askFor_0 rfl (mz_bipush (9 : Int32) d_Mo_askFor_1 (by decide) (mz_bipush (47 : Int32) d_Mo_askFor_3 (by decide) (mz_aload_n d_Mo_askFor_5 rfl (mz_getI (k := 39) cl_10 d_Mo_askFor_6 (by decide) wf_Mo_340 rfl (hF 30 0 (by decide)) rfl (mz_if_eq 18 d_Mo_askFor_9 rfl (fun hc1 => (mz_aload_n d_Mo_askFor_18 rfl (mz_getI (k := 41) cl_10 d_Mo_askFor_19 (by decide) wf_Mo_346 rfl (hF 30 0 (by decide)) rfl (MzS.loc [(0, .ref (mz_ad B (30, 0)))] ⟨rfl, trivial⟩ (tm_Mo_askFor_22 hF   (mz_i M (30, 0) 41) (47 : Int32) (9 : Int32) M hL (h.1 hc1)))))) (fun hc1 => (mz_ldcw (v := (1849076 : Int32)) d_Mo_askFor_12 wk_Mo_339 (mz_goto 22 d_Mo_askFor_15 rfl (MzS.loc [(0, .ref (mz_ad B (30, 0)))] ⟨rfl, trivial⟩ (tm_Mo_askFor_22 hF   (1849076 : Int32) (47 : Int32) (9 : Int32) M hL (h.2 hc1)))))))))))))
def mm_Mo_moveByte : MzT := (⟨"ParcelLineModel", "moveByte", "()I"⟩, prog_14_method_79_code, 2, (Option.some Jvm.ClassFile.FieldType.int))
theorem cs_Mo_moveByte {mm : MzT} : mzCall mm mm_Mo_moveByte 0 := ⟨wn_Mo, wco_Mo_moveByte, by decide +kernel, by decide⟩
theorem d_Mo_moveByte_0 : decode mm_Mo_moveByte.2.1 0 = .ok (.aload_n 0, 1) := by decide +kernel
theorem d_Mo_moveByte_1 : decode mm_Mo_moveByte.2.1 1 = .ok (.getfield 340, 3) := by decide +kernel
theorem d_Mo_moveByte_4 : decode mm_Mo_moveByte.2.1 4 = .ok (.ifCond .eq 68, 3) := by decide +kernel
theorem d_Mo_moveByte_7 : decode mm_Mo_moveByte.2.1 7 = .ok (.aload_n 0, 1) := by decide +kernel
theorem d_Mo_moveByte_8 : decode mm_Mo_moveByte.2.1 8 = .ok (.getfield 98, 3) := by decide +kernel
theorem d_Mo_moveByte_11 : decode mm_Mo_moveByte.2.1 11 = .ok (.iconst 1, 1) := by decide +kernel
theorem d_Mo_moveByte_12 : decode mm_Mo_moveByte.2.1 12 = .ok (.iaload, 1) := by decide +kernel
theorem d_Mo_moveByte_13 : decode mm_Mo_moveByte.2.1 13 = .ok (.iconst 2, 1) := by decide +kernel
theorem d_Mo_moveByte_14 : decode mm_Mo_moveByte.2.1 14 = .ok (.if_icmp .eq 5, 3) := by decide +kernel
theorem d_Mo_moveByte_17 : decode mm_Mo_moveByte.2.1 17 = .ok (.iconst 5, 1) := by decide +kernel
theorem d_Mo_moveByte_18 : decode mm_Mo_moveByte.2.1 18 = .ok (.ireturn, 1) := by decide +kernel
theorem d_Mo_moveByte_19 : decode mm_Mo_moveByte.2.1 19 = .ok (.aload_n 0, 1) := by decide +kernel
theorem d_Mo_moveByte_20 : decode mm_Mo_moveByte.2.1 20 = .ok (.getfield 47, 3) := by decide +kernel
theorem d_Mo_moveByte_23 : decode mm_Mo_moveByte.2.1 23 = .ok (.aload_n 0, 1) := by decide +kernel
theorem d_Mo_moveByte_24 : decode mm_Mo_moveByte.2.1 24 = .ok (.getfield 101, 3) := by decide +kernel
theorem d_Mo_moveByte_27 : decode mm_Mo_moveByte.2.1 27 = .ok (.iconst 1, 1) := by decide +kernel
theorem d_Mo_moveByte_28 : decode mm_Mo_moveByte.2.1 28 = .ok (.iaload, 1) := by decide +kernel
theorem d_Mo_moveByte_29 : decode mm_Mo_moveByte.2.1 29 = .ok (.iaload, 1) := by decide +kernel
theorem d_Mo_moveByte_30 : decode mm_Mo_moveByte.2.1 30 = .ok (.istore_n 1, 1) := by decide +kernel
theorem d_Mo_moveByte_31 : decode mm_Mo_moveByte.2.1 31 = .ok (.iload_n 1, 1) := by decide +kernel
theorem d_Mo_moveByte_32 : decode mm_Mo_moveByte.2.1 32 = .ok (.aload_n 0, 1) := by decide +kernel
theorem d_Mo_moveByte_33 : decode mm_Mo_moveByte.2.1 33 = .ok (.getfield 116, 3) := by decide +kernel
theorem d_Mo_moveByte_36 : decode mm_Mo_moveByte.2.1 36 = .ok (.aload_n 0, 1) := by decide +kernel
theorem d_Mo_moveByte_37 : decode mm_Mo_moveByte.2.1 37 = .ok (.getfield 343, 3) := by decide +kernel
theorem d_Mo_moveByte_40 : decode mm_Mo_moveByte.2.1 40 = .ok (.iaload, 1) := by decide +kernel
theorem d_Mo_moveByte_41 : decode mm_Mo_moveByte.2.1 41 = .ok (.if_icmp .ge 24, 3) := by decide +kernel
theorem d_Mo_moveByte_44 : decode mm_Mo_moveByte.2.1 44 = .ok (.aload_n 0, 1) := by decide +kernel
theorem d_Mo_moveByte_45 : decode mm_Mo_moveByte.2.1 45 = .ok (.iconst 1, 1) := by decide +kernel
theorem d_Mo_moveByte_46 : decode mm_Mo_moveByte.2.1 46 = .ok (.aload_n 0, 1) := by decide +kernel
theorem d_Mo_moveByte_47 : decode mm_Mo_moveByte.2.1 47 = .ok (.getfield 119, 3) := by decide +kernel
theorem d_Mo_moveByte_50 : decode mm_Mo_moveByte.2.1 50 = .ok (.bipush 24, 2) := by decide +kernel
theorem d_Mo_moveByte_52 : decode mm_Mo_moveByte.2.1 52 = .ok (.aload_n 0, 1) := by decide +kernel
theorem d_Mo_moveByte_53 : decode mm_Mo_moveByte.2.1 53 = .ok (.getfield 343, 3) := by decide +kernel
theorem d_Mo_moveByte_56 : decode mm_Mo_moveByte.2.1 56 = .ok (.imul, 1) := by decide +kernel
theorem d_Mo_moveByte_57 : decode mm_Mo_moveByte.2.1 57 = .ok (.iload_n 1, 1) := by decide +kernel
theorem d_Mo_moveByte_58 : decode mm_Mo_moveByte.2.1 58 = .ok (.iadd, 1) := by decide +kernel
theorem d_Mo_moveByte_59 : decode mm_Mo_moveByte.2.1 59 = .ok (.iaload, 1) := by decide +kernel
theorem d_Mo_moveByte_60 : decode mm_Mo_moveByte.2.1 60 = .ok (.invokevirtual 310, 3) := by decide +kernel
theorem d_Mo_moveByte_63 : decode mm_Mo_moveByte.2.1 63 = .ok (.iconst 2, 1) := by decide +kernel
theorem d_Mo_moveByte_64 : decode mm_Mo_moveByte.2.1 64 = .ok (.ireturn, 1) := by decide +kernel
theorem d_Mo_moveByte_65 : decode mm_Mo_moveByte.2.1 65 = .ok (.aload_n 0, 1) := by decide +kernel
theorem d_Mo_moveByte_66 : decode mm_Mo_moveByte.2.1 66 = .ok (.iconst 1, 1) := by decide +kernel
theorem d_Mo_moveByte_67 : decode mm_Mo_moveByte.2.1 67 = .ok (.invokevirtual 307, 3) := by decide +kernel
theorem d_Mo_moveByte_70 : decode mm_Mo_moveByte.2.1 70 = .ok (.iconst 3, 1) := by decide +kernel
theorem d_Mo_moveByte_71 : decode mm_Mo_moveByte.2.1 71 = .ok (.ireturn, 1) := by decide +kernel
theorem d_Mo_moveByte_72 : decode mm_Mo_moveByte.2.1 72 = .ok (.aload_n 0, 1) := by decide +kernel
theorem d_Mo_moveByte_73 : decode mm_Mo_moveByte.2.1 73 = .ok (.getfield 98, 3) := by decide +kernel
theorem d_Mo_moveByte_76 : decode mm_Mo_moveByte.2.1 76 = .ok (.iconst 1, 1) := by decide +kernel
theorem d_Mo_moveByte_77 : decode mm_Mo_moveByte.2.1 77 = .ok (.iaload, 1) := by decide +kernel
theorem d_Mo_moveByte_78 : decode mm_Mo_moveByte.2.1 78 = .ok (.iconst 1, 1) := by decide +kernel
theorem d_Mo_moveByte_79 : decode mm_Mo_moveByte.2.1 79 = .ok (.if_icmp .eq 25, 3) := by decide +kernel
theorem d_Mo_moveByte_82 : decode mm_Mo_moveByte.2.1 82 = .ok (.aload_n 0, 1) := by decide +kernel
theorem d_Mo_moveByte_83 : decode mm_Mo_moveByte.2.1 83 = .ok (.getfield 116, 3) := by decide +kernel
theorem d_Mo_moveByte_86 : decode mm_Mo_moveByte.2.1 86 = .ok (.aload_n 0, 1) := by decide +kernel
theorem d_Mo_moveByte_87 : decode mm_Mo_moveByte.2.1 87 = .ok (.getfield 343, 3) := by decide +kernel
theorem d_Mo_moveByte_90 : decode mm_Mo_moveByte.2.1 90 = .ok (.iaload, 1) := by decide +kernel
theorem d_Mo_moveByte_91 : decode mm_Mo_moveByte.2.1 91 = .ok (.aload_n 0, 1) := by decide +kernel
theorem d_Mo_moveByte_92 : decode mm_Mo_moveByte.2.1 92 = .ok (.getfield 357, 3) := by decide +kernel
theorem d_Mo_moveByte_95 : decode mm_Mo_moveByte.2.1 95 = .ok (.if_icmp .ne 7, 3) := by decide +kernel
theorem d_Mo_moveByte_98 : decode mm_Mo_moveByte.2.1 98 = .ok (.iconst 4, 1) := by decide +kernel
theorem d_Mo_moveByte_99 : decode mm_Mo_moveByte.2.1 99 = .ok (.goto 4, 3) := by decide +kernel
theorem d_Mo_moveByte_102 : decode mm_Mo_moveByte.2.1 102 = .ok (.iconst 5, 1) := by decide +kernel
theorem d_Mo_moveByte_103 : decode mm_Mo_moveByte.2.1 103 = .ok (.ireturn, 1) := by decide +kernel
theorem d_Mo_moveByte_104 : decode mm_Mo_moveByte.2.1 104 = .ok (.aload_n 0, 1) := by decide +kernel
theorem d_Mo_moveByte_105 : decode mm_Mo_moveByte.2.1 105 = .ok (.iconst 1, 1) := by decide +kernel
theorem d_Mo_moveByte_106 : decode mm_Mo_moveByte.2.1 106 = .ok (.invokevirtual 316, 3) := by decide +kernel
theorem d_Mo_moveByte_109 : decode mm_Mo_moveByte.2.1 109 = .ok (.istore_n 1, 1) := by decide +kernel
theorem d_Mo_moveByte_110 : decode mm_Mo_moveByte.2.1 110 = .ok (.aload_n 0, 1) := by decide +kernel
theorem d_Mo_moveByte_111 : decode mm_Mo_moveByte.2.1 111 = .ok (.getfield 116, 3) := by decide +kernel
theorem d_Mo_moveByte_114 : decode mm_Mo_moveByte.2.1 114 = .ok (.aload_n 0, 1) := by decide +kernel
theorem d_Mo_moveByte_115 : decode mm_Mo_moveByte.2.1 115 = .ok (.getfield 343, 3) := by decide +kernel
theorem d_Mo_moveByte_118 : decode mm_Mo_moveByte.2.1 118 = .ok (.iaload, 1) := by decide +kernel
theorem d_Mo_moveByte_119 : decode mm_Mo_moveByte.2.1 119 = .ok (.bipush 24, 2) := by decide +kernel
theorem d_Mo_moveByte_121 : decode mm_Mo_moveByte.2.1 121 = .ok (.if_icmp .ge 39, 3) := by decide +kernel
theorem d_Mo_moveByte_124 : decode mm_Mo_moveByte.2.1 124 = .ok (.aload_n 0, 1) := by decide +kernel
theorem d_Mo_moveByte_125 : decode mm_Mo_moveByte.2.1 125 = .ok (.getfield 119, 3) := by decide +kernel
theorem d_Mo_moveByte_128 : decode mm_Mo_moveByte.2.1 128 = .ok (.bipush 24, 2) := by decide +kernel
theorem d_Mo_moveByte_130 : decode mm_Mo_moveByte.2.1 130 = .ok (.aload_n 0, 1) := by decide +kernel
theorem d_Mo_moveByte_131 : decode mm_Mo_moveByte.2.1 131 = .ok (.getfield 343, 3) := by decide +kernel
theorem d_Mo_moveByte_134 : decode mm_Mo_moveByte.2.1 134 = .ok (.imul, 1) := by decide +kernel
theorem d_Mo_moveByte_135 : decode mm_Mo_moveByte.2.1 135 = .ok (.aload_n 0, 1) := by decide +kernel
theorem d_Mo_moveByte_136 : decode mm_Mo_moveByte.2.1 136 = .ok (.getfield 116, 3) := by decide +kernel
theorem d_Mo_moveByte_139 : decode mm_Mo_moveByte.2.1 139 = .ok (.aload_n 0, 1) := by decide +kernel
theorem d_Mo_moveByte_140 : decode mm_Mo_moveByte.2.1 140 = .ok (.getfield 343, 3) := by decide +kernel
theorem d_Mo_moveByte_143 : decode mm_Mo_moveByte.2.1 143 = .ok (.iaload, 1) := by decide +kernel
theorem d_Mo_moveByte_144 : decode mm_Mo_moveByte.2.1 144 = .ok (.iadd, 1) := by decide +kernel
theorem d_Mo_moveByte_145 : decode mm_Mo_moveByte.2.1 145 = .ok (.iload_n 1, 1) := by decide +kernel
theorem d_Mo_moveByte_146 : decode mm_Mo_moveByte.2.1 146 = .ok (.iastore, 1) := by decide +kernel
theorem d_Mo_moveByte_147 : decode mm_Mo_moveByte.2.1 147 = .ok (.aload_n 0, 1) := by decide +kernel
theorem d_Mo_moveByte_148 : decode mm_Mo_moveByte.2.1 148 = .ok (.getfield 116, 3) := by decide +kernel
theorem d_Mo_moveByte_151 : decode mm_Mo_moveByte.2.1 151 = .ok (.aload_n 0, 1) := by decide +kernel
theorem d_Mo_moveByte_152 : decode mm_Mo_moveByte.2.1 152 = .ok (.getfield 343, 3) := by decide +kernel
theorem d_Mo_moveByte_155 : decode mm_Mo_moveByte.2.1 155 = .ok (.dup2, 1) := by decide +kernel
theorem d_Mo_moveByte_156 : decode mm_Mo_moveByte.2.1 156 = .ok (.iaload, 1) := by decide +kernel
theorem d_Mo_moveByte_157 : decode mm_Mo_moveByte.2.1 157 = .ok (.iconst 1, 1) := by decide +kernel
theorem d_Mo_moveByte_158 : decode mm_Mo_moveByte.2.1 158 = .ok (.iadd, 1) := by decide +kernel
theorem d_Mo_moveByte_159 : decode mm_Mo_moveByte.2.1 159 = .ok (.iastore, 1) := by decide +kernel
theorem d_Mo_moveByte_160 : decode mm_Mo_moveByte.2.1 160 = .ok (.iconst 2, 1) := by decide +kernel
theorem d_Mo_moveByte_161 : decode mm_Mo_moveByte.2.1 161 = .ok (.ireturn, 1) := by decide +kernel
def wp_Mo_moveByte   (M : MzM) (K : Int32 → MzM → Prop) : Prop := (((mz_i M (30, 0) 39) = 0 → (((mz_i M (53, 0) 1) = (1 : Int32) → wp_Mo_takeOne  (1 : Int32) M (fun v4 M1 => (∃ j5 : Nat, (mz_i M1 (30, 0) 40).toInt = (j5 : Int) ∧ j5 < 3 ∧ (((24 : Int32) ≤ (mz_i M1 (59, 0) j5) → K (2 : Int32) M1) ∧ (¬ (24 : Int32) ≤ (mz_i M1 (59, 0) j5) → (∃ j9 : Nat, (mz_i M1 (30, 0) 40).toInt = (j9 : Int) ∧ j9 < 3 ∧ (∃ j16 : Nat, (((24 : Int32) * (mz_i M1 (30, 0) 40)) + (mz_i M1 (59, 0) j9)).toInt = (j16 : Int) ∧ j16 < 72 ∧ ∀ M13 : MzM, M13 = mz_si M1 (60, 0) j16 v4 → (∃ j19 : Nat, (mz_i M13 (30, 0) 40).toInt = (j19 : Int) ∧ j19 < 3 ∧ (∃ j26 : Nat, (mz_i M13 (30, 0) 40).toInt = (j26 : Int) ∧ j26 < 3 ∧ ∀ M23 : MzM, M23 = mz_si M13 (59, 0) j26 ((mz_i M13 (59, 0) j19) + (1 : Int32)) → K (2 : Int32) M23))))))))) ∧ (¬ (mz_i M (53, 0) 1) = (1 : Int32) → (∃ j30 : Nat, (mz_i M (30, 0) 40).toInt = (j30 : Int) ∧ j30 < 3 ∧ ((¬ (mz_i M (59, 0) j30) = (mz_i M (30, 0) 44) → K (5 : Int32) M) ∧ ((mz_i M (59, 0) j30) = (mz_i M (30, 0) 44) → K (4 : Int32) M)))))) ∧ (¬ (mz_i M (30, 0) 39) = 0 → (((mz_i M (53, 0) 1) = (2 : Int32) → (∃ j36 : Nat, (mz_i M (54, 0) 1).toInt = (j36 : Int) ∧ j36 < 16 ∧ (∃ j40 : Nat, (mz_i M (30, 0) 40).toInt = (j40 : Int) ∧ j40 < 3 ∧ (((mz_i M (59, 0) j40) ≤ (mz_i M (36, 0) j36) → wp_Mo_closeWay  (1 : Int32) M (fun M44 => K (3 : Int32) M44)) ∧ (¬ (mz_i M (59, 0) j40) ≤ (mz_i M (36, 0) j36) → (∃ j47 : Nat, (((24 : Int32) * (mz_i M (30, 0) 40)) + (mz_i M (36, 0) j36)).toInt = (j47 : Int) ∧ j47 < 72 ∧ wp_Mo_bringOne  (1 : Int32) (mz_i M (60, 0) j47) M (fun M51 => K (2 : Int32) M51))))))) ∧ (¬ (mz_i M (53, 0) 1) = (2 : Int32) → K (5 : Int32) M))))
theorem tm_Mo_moveByte {G : MzG} {B : MzB} {d : Nat} {K : Int32 → MzM → Prop} (hF : mzLive B)    {M : MzM} (hL : mzLnk M) (h : wp_Mo_moveByte   M K) : MzC G B (d + 5) mm_Mo_moveByte [.ref (mz_ad B (30, 0))] M (0, 0) (mzK1 B K) := by
  unfold wp_Mo_moveByte at h
  exact MzC.of rfl (Nat.le_of_ble_eq_true rfl) (show MzS G B (d + 5) mm_Mo_moveByte M (0, 0) (mzK1 B K) 0 [(0, .ref (mz_ad B (30, 0)))] [] from (mz_aload_n d_Mo_moveByte_0 rfl (mz_getI (k := 39) cl_10 d_Mo_moveByte_1 (by decide) wf_Mo_340 rfl (hF 30 0 (by decide)) rfl (mz_if_eq 72 d_Mo_moveByte_4 rfl (fun hc56 => (mz_aload_n d_Mo_moveByte_72 rfl (mz_getR (k := 23) (a := (53, 0)) cl_10 d_Mo_moveByte_73 (by decide) wf_Mo_98 rfl (hF 30 0 (by decide)) rfl (hL (30, 0) 23 (53, 0) rfl (by decide)) (mz_iconst (1 : Int32) d_Mo_moveByte_76 (by decide) (mz_iald 1 d_Mo_moveByte_77 (hF 53 0 (by decide)) rfl (by decide) (by decide) (mz_iconst (1 : Int32) d_Mo_moveByte_78 (by decide) (mz_icmp_eq 104 d_Mo_moveByte_79 rfl (fun hc35 => (mz_aload_n d_Mo_moveByte_104 rfl (mz_iconst (1 : Int32) d_Mo_moveByte_105 (by decide) (mz_callV (As := [.int (1 : Int32)]) (st := []) (hF 30 0 (by decide)) rfl (mzClOf cl_10) 0 0 d_Mo_moveByte_106 cs_Mo_takeOne wl_Mo_316 wi_Mo_takeOne wse_Mo_takeOne (Nat.le_of_ble_eq_true rfl) (Nat.le_refl _) (Nat.le_refl _) (MzC.mono (tm_Mo_takeOne (d := d) hF  hL ((h.1 hc56).1 hc35)) (fun r9 B9 M1 hq3 => by obtain ⟨rfl, hL2, v4, rfl, hq3⟩ := hq3; exact ⟨_, rfl, (mz_istore_n d_Mo_moveByte_109 (by decide) (mz_aload_n d_Mo_moveByte_110 rfl (mz_getR (k := 36) (a := (59, 0)) cl_10 d_Mo_moveByte_111 (by decide) wf_Mo_116 rfl (hF 30 0 (by decide)) rfl (hL2 (30, 0) 36 (59, 0) rfl (by decide)) (mz_aload_n d_Mo_moveByte_114 rfl (mz_getI (k := 40) cl_10 d_Mo_moveByte_115 (by decide) wf_Mo_343 rfl (hF 30 0 (by decide)) rfl (match hq3 with | ⟨j5, h6, h7, h8⟩ => mz_iald j5 d_Mo_moveByte_118 (hF 59 0 (by decide)) rfl h6 h7 (mz_bipush (24 : Int32) d_Mo_moveByte_119 (by decide) (mz_icmp_ge 160 d_Mo_moveByte_121 rfl (fun hc29 => (mz_iconst (2 : Int32) d_Mo_moveByte_160 (by decide) (mz_iret .int d_Mo_moveByte_161 rfl rfl ⟨rfl, hL2, _, rfl, (h8.1 hc29)⟩))) (fun hc29 => (mz_aload_n d_Mo_moveByte_124 rfl (mz_getR (k := 37) (a := (60, 0)) cl_10 d_Mo_moveByte_125 (by decide) wf_Mo_119 rfl (hF 30 0 (by decide)) rfl (hL2 (30, 0) 37 (60, 0) rfl (by decide)) (mz_bipush (24 : Int32) d_Mo_moveByte_128 (by decide) (mz_aload_n d_Mo_moveByte_130 rfl (mz_getI (k := 40) cl_10 d_Mo_moveByte_131 (by decide) wf_Mo_343 rfl (hF 30 0 (by decide)) rfl (mz_imul d_Mo_moveByte_134 (mz_aload_n d_Mo_moveByte_135 rfl (mz_getR (k := 36) (a := (59, 0)) cl_10 d_Mo_moveByte_136 (by decide) wf_Mo_116 rfl (hF 30 0 (by decide)) rfl (hL2 (30, 0) 36 (59, 0) rfl (by decide)) (mz_aload_n d_Mo_moveByte_139 rfl (mz_getI (k := 40) cl_10 d_Mo_moveByte_140 (by decide) wf_Mo_343 rfl (hF 30 0 (by decide)) rfl (match (h8.2 hc29) with | ⟨j9, h10, h11, h12⟩ => mz_iald j9 d_Mo_moveByte_143 (hF 59 0 (by decide)) rfl h10 h11 (mz_iadd d_Mo_moveByte_144 (mz_iload_n d_Mo_moveByte_145 rfl (match h12 with | ⟨j16, h17, h18, h15⟩ => mz_iast j16 d_Mo_moveByte_146 (hF 60 0 (by decide)) rfl h17 h18 (let M13 : MzM := mz_si M1 (60, 0) j16 v4; (mz_aload_n d_Mo_moveByte_147 rfl (mz_getR (k := 36) (a := (59, 0)) cl_10 d_Mo_moveByte_148 (by decide) wf_Mo_116 rfl (hF 30 0 (by decide)) rfl (hL2 (30, 0) 36 (59, 0) rfl (by decide)) (mz_aload_n d_Mo_moveByte_151 rfl (mz_getI (k := 40) cl_10 d_Mo_moveByte_152 (by decide) wf_Mo_343 rfl (hF 30 0 (by decide)) rfl (mz_dup2 d_Mo_moveByte_155 rfl rfl (match (h15 M13 rfl) with | ⟨j19, h20, h21, h22⟩ => mz_iald j19 d_Mo_moveByte_156 (hF 59 0 (by decide)) rfl h20 h21 (mz_iconst (1 : Int32) d_Mo_moveByte_157 (by decide) (mz_iadd d_Mo_moveByte_158 (match h22 with | ⟨j26, h27, h28, h25⟩ => mz_iast j26 d_Mo_moveByte_159 (hF 59 0 (by decide)) rfl h27 h28 (let M23 : MzM := mz_si M13 (59, 0) j26 ((mz_i M13 (59, 0) j19) + (1 : Int32)); (mz_iconst (2 : Int32) d_Mo_moveByte_160 (by decide) (mz_iret .int d_Mo_moveByte_161 rfl rfl ⟨rfl, hL2, _, rfl, (h25 M23 rfl)⟩))))))))))))))))))))))))))))))))))))⟩)))))) (fun hc35 => (mz_aload_n d_Mo_moveByte_82 rfl (mz_getR (k := 36) (a := (59, 0)) cl_10 d_Mo_moveByte_83 (by decide) wf_Mo_116 rfl (hF 30 0 (by decide)) rfl (hL (30, 0) 36 (59, 0) rfl (by decide)) (mz_aload_n d_Mo_moveByte_86 rfl (mz_getI (k := 40) cl_10 d_Mo_moveByte_87 (by decide) wf_Mo_343 rfl (hF 30 0 (by decide)) rfl (match ((h.1 hc56).2 hc35) with | ⟨j30, h31, h32, h33⟩ => mz_iald j30 d_Mo_moveByte_90 (hF 59 0 (by decide)) rfl h31 h32 (mz_aload_n d_Mo_moveByte_91 rfl (mz_getI (k := 44) cl_10 d_Mo_moveByte_92 (by decide) wf_Mo_357 rfl (hF 30 0 (by decide)) rfl (mz_icmp_ne 102 d_Mo_moveByte_95 rfl (fun hc34 => (mz_iconst (5 : Int32) d_Mo_moveByte_102 (by decide) (mz_iret .int d_Mo_moveByte_103 rfl rfl ⟨rfl, hL, _, rfl, (h33.1 hc34)⟩))) (fun hc34 => (mz_iconst (4 : Int32) d_Mo_moveByte_98 (by decide) (mz_goto 103 d_Mo_moveByte_99 rfl (mz_iret .int d_Mo_moveByte_103 rfl rfl ⟨rfl, hL, _, rfl, (h33.2 hc34)⟩)))))))))))))))))))) (fun hc56 => (mz_aload_n d_Mo_moveByte_7 rfl (mz_getR (k := 23) (a := (53, 0)) cl_10 d_Mo_moveByte_8 (by decide) wf_Mo_98 rfl (hF 30 0 (by decide)) rfl (hL (30, 0) 23 (53, 0) rfl (by decide)) (mz_iconst (1 : Int32) d_Mo_moveByte_11 (by decide) (mz_iald 1 d_Mo_moveByte_12 (hF 53 0 (by decide)) rfl (by decide) (by decide) (mz_iconst (2 : Int32) d_Mo_moveByte_13 (by decide) (mz_icmp_eq 19 d_Mo_moveByte_14 rfl (fun hc55 => (mz_aload_n d_Mo_moveByte_19 rfl (mz_getR (k := 6) (a := (36, 0)) cl_10 d_Mo_moveByte_20 (by decide) wf_Mo_47 rfl (hF 30 0 (by decide)) rfl (hL (30, 0) 6 (36, 0) rfl (by decide)) (mz_aload_n d_Mo_moveByte_23 rfl (mz_getR (k := 24) (a := (54, 0)) cl_10 d_Mo_moveByte_24 (by decide) wf_Mo_101 rfl (hF 30 0 (by decide)) rfl (hL (30, 0) 24 (54, 0) rfl (by decide)) (mz_iconst (1 : Int32) d_Mo_moveByte_27 (by decide) (mz_iald 1 d_Mo_moveByte_28 (hF 54 0 (by decide)) rfl (by decide) (by decide) (match ((h.2 hc56).1 hc55) with | ⟨j36, h37, h38, h39⟩ => mz_iald j36 d_Mo_moveByte_29 (hF 36 0 (by decide)) rfl h37 h38 (mz_istore_n d_Mo_moveByte_30 (by decide) (mz_iload_n d_Mo_moveByte_31 rfl (mz_aload_n d_Mo_moveByte_32 rfl (mz_getR (k := 36) (a := (59, 0)) cl_10 d_Mo_moveByte_33 (by decide) wf_Mo_116 rfl (hF 30 0 (by decide)) rfl (hL (30, 0) 36 (59, 0) rfl (by decide)) (mz_aload_n d_Mo_moveByte_36 rfl (mz_getI (k := 40) cl_10 d_Mo_moveByte_37 (by decide) wf_Mo_343 rfl (hF 30 0 (by decide)) rfl (match h39 with | ⟨j40, h41, h42, h43⟩ => mz_iald j40 d_Mo_moveByte_40 (hF 59 0 (by decide)) rfl h41 h42 (mz_icmp_ge 65 d_Mo_moveByte_41 rfl (fun hc54 => (mz_aload_n d_Mo_moveByte_65 rfl (mz_iconst (1 : Int32) d_Mo_moveByte_66 (by decide) (mz_callV (As := [.int (1 : Int32)]) (st := []) (hF 30 0 (by decide)) rfl (mzClOf cl_10) 0 0 d_Mo_moveByte_67 cs_Mo_closeWay wl_Mo_307 wi_Mo_closeWay wse_Mo_closeWay (Nat.le_of_ble_eq_true rfl) (Nat.le_refl _) (Nat.le_refl _) (MzC.mono (tm_Mo_closeWay (d := d) hF  hL (h43.1 hc54)) (fun r9 B9 M44 hq46 => by obtain ⟨rfl, hL45, rfl, hq46⟩ := hq46; exact ⟨none, rfl, (mz_iconst (3 : Int32) d_Mo_moveByte_70 (by decide) (mz_iret .int d_Mo_moveByte_71 rfl rfl ⟨rfl, hL45, _, rfl, hq46⟩))⟩)))))) (fun hc54 => (mz_aload_n d_Mo_moveByte_44 rfl (mz_iconst (1 : Int32) d_Mo_moveByte_45 (by decide) (mz_aload_n d_Mo_moveByte_46 rfl (mz_getR (k := 37) (a := (60, 0)) cl_10 d_Mo_moveByte_47 (by decide) wf_Mo_119 rfl (hF 30 0 (by decide)) rfl (hL (30, 0) 37 (60, 0) rfl (by decide)) (mz_bipush (24 : Int32) d_Mo_moveByte_50 (by decide) (mz_aload_n d_Mo_moveByte_52 rfl (mz_getI (k := 40) cl_10 d_Mo_moveByte_53 (by decide) wf_Mo_343 rfl (hF 30 0 (by decide)) rfl (mz_imul d_Mo_moveByte_56 (mz_iload_n d_Mo_moveByte_57 rfl (mz_iadd d_Mo_moveByte_58 (match (h43.2 hc54) with | ⟨j47, h48, h49, h50⟩ => mz_iald j47 d_Mo_moveByte_59 (hF 60 0 (by decide)) rfl h48 h49 (mz_callV (As := [.int (1 : Int32), .int (mz_i M (60, 0) j47)]) (st := []) (hF 30 0 (by decide)) rfl (mzClOf cl_10) 0 0 d_Mo_moveByte_60 cs_Mo_bringOne wl_Mo_310 wi_Mo_bringOne wse_Mo_bringOne (Nat.le_of_ble_eq_true rfl) (Nat.le_refl _) (Nat.le_refl _) (MzC.mono (tm_Mo_bringOne (d := (d + 3)) hF  hL h50) (fun r9 B9 M51 hq53 => by obtain ⟨rfl, hL52, rfl, hq53⟩ := hq53; exact ⟨none, rfl, (mz_iconst (2 : Int32) d_Mo_moveByte_63 (by decide) (mz_iret .int d_Mo_moveByte_64 rfl rfl ⟨rfl, hL52, _, rfl, hq53⟩))⟩))))))))))))))))))))))))))))))) (fun hc55 => (mz_iconst (5 : Int32) d_Mo_moveByte_17 (by decide) (mz_iret .int d_Mo_moveByte_18 rfl rfl ⟨rfl, hL, _, rfl, ((h.2 hc56).2 hc55)⟩))))))))))))))
def mm_Mo_putName : MzT := (⟨"ParcelLineModel", "putName", "()I"⟩, prog_14_method_80_code, 2, (Option.some Jvm.ClassFile.FieldType.int))
theorem cs_Mo_putName {mm : MzT} : mzCall mm mm_Mo_putName 0 := ⟨wn_Mo, wco_Mo_putName, by decide +kernel, by decide⟩
theorem d_Mo_putName_0 : decode mm_Mo_putName.2.1 0 = .ok (.aload_n 0, 1) := by decide +kernel
theorem d_Mo_putName_1 : decode mm_Mo_putName.2.1 1 = .ok (.bipush 17, 2) := by decide +kernel
theorem d_Mo_putName_3 : decode mm_Mo_putName.2.1 3 = .ok (.bipush 47, 2) := by decide +kernel
theorem d_Mo_putName_5 : decode mm_Mo_putName.2.1 5 = .ok (.aload_n 0, 1) := by decide +kernel
theorem d_Mo_putName_6 : decode mm_Mo_putName.2.1 6 = .ok (.getfield 346, 3) := by decide +kernel
theorem d_Mo_putName_9 : decode mm_Mo_putName.2.1 9 = .ok (.iconst (-1), 1) := by decide +kernel
theorem d_Mo_putName_10 : decode mm_Mo_putName.2.1 10 = .ok (.invokevirtual 353, 3) := by decide +kernel
theorem d_Mo_putName_13 : decode mm_Mo_putName.2.1 13 = .ok (.istore_n 1, 1) := by decide +kernel
theorem d_Mo_putName_14 : decode mm_Mo_putName.2.1 14 = .ok (.aload_n 0, 1) := by decide +kernel
theorem d_Mo_putName_15 : decode mm_Mo_putName.2.1 15 = .ok (.bipush 20, 2) := by decide +kernel
theorem d_Mo_putName_17 : decode mm_Mo_putName.2.1 17 = .ok (.bipush 47, 2) := by decide +kernel
theorem d_Mo_putName_19 : decode mm_Mo_putName.2.1 19 = .ok (.ldc_w 339, 3) := by decide +kernel
theorem d_Mo_putName_22 : decode mm_Mo_putName.2.1 22 = .ok (.iconst (-1), 1) := by decide +kernel
theorem d_Mo_putName_23 : decode mm_Mo_putName.2.1 23 = .ok (.invokevirtual 353, 3) := by decide +kernel
theorem d_Mo_putName_26 : decode mm_Mo_putName.2.1 26 = .ok (.istore_n 1, 1) := by decide +kernel
theorem d_Mo_putName_27 : decode mm_Mo_putName.2.1 27 = .ok (.aload_n 0, 1) := by decide +kernel
theorem d_Mo_putName_28 : decode mm_Mo_putName.2.1 28 = .ok (.bipush 21, 2) := by decide +kernel
theorem d_Mo_putName_30 : decode mm_Mo_putName.2.1 30 = .ok (.bipush 47, 2) := by decide +kernel
theorem d_Mo_putName_32 : decode mm_Mo_putName.2.1 32 = .ok (.aload_n 0, 1) := by decide +kernel
theorem d_Mo_putName_33 : decode mm_Mo_putName.2.1 33 = .ok (.getfield 346, 3) := by decide +kernel
theorem d_Mo_putName_36 : decode mm_Mo_putName.2.1 36 = .ok (.iconst (-1), 1) := by decide +kernel
theorem d_Mo_putName_37 : decode mm_Mo_putName.2.1 37 = .ok (.invokevirtual 353, 3) := by decide +kernel
theorem d_Mo_putName_40 : decode mm_Mo_putName.2.1 40 = .ok (.istore_n 1, 1) := by decide +kernel
theorem d_Mo_putName_41 : decode mm_Mo_putName.2.1 41 = .ok (.iload_n 1, 1) := by decide +kernel
theorem d_Mo_putName_42 : decode mm_Mo_putName.2.1 42 = .ok (.sipush 250, 3) := by decide +kernel
theorem d_Mo_putName_45 : decode mm_Mo_putName.2.1 45 = .ok (.if_icmp .ne 7, 3) := by decide +kernel
theorem d_Mo_putName_48 : decode mm_Mo_putName.2.1 48 = .ok (.iconst 4, 1) := by decide +kernel
theorem d_Mo_putName_49 : decode mm_Mo_putName.2.1 49 = .ok (.goto 4, 3) := by decide +kernel
theorem d_Mo_putName_52 : decode mm_Mo_putName.2.1 52 = .ok (.iconst 5, 1) := by decide +kernel
theorem d_Mo_putName_53 : decode mm_Mo_putName.2.1 53 = .ok (.ireturn, 1) := by decide +kernel
def wp_Mo_putName   (M : MzM) (K : Int32 → MzM → Prop) : Prop := wp_Mo_say  (17 : Int32) (47 : Int32) (mz_i M (30, 0) 41) (-1 : Int32) M (fun v4 M1 => wp_Mo_say  (20 : Int32) (47 : Int32) (1849076 : Int32) (-1 : Int32) M1 (fun v8 M5 => wp_Mo_say  (21 : Int32) (47 : Int32) (mz_i M5 (30, 0) 41) (-1 : Int32) M5 (fun v12 M9 => ((¬ v12 = (250 : Int32) → K (5 : Int32) M9) ∧ (v12 = (250 : Int32) → K (4 : Int32) M9)))))
theorem tm_Mo_putName {G : MzG} {B : MzB} {d : Nat} {K : Int32 → MzM → Prop} (hF : mzLive B)    {M : MzM} (hL : mzLnk M) (h : wp_Mo_putName   M K) : MzC G B (d + 11) mm_Mo_putName [.ref (mz_ad B (30, 0))] M (0, 0) (mzK1 B K) := by
  unfold wp_Mo_putName at h
  exact MzC.of rfl (Nat.le_of_ble_eq_true rfl) (show MzS G B (d + 11) mm_Mo_putName M (0, 0) (mzK1 B K) 0 [(0, .ref (mz_ad B (30, 0)))] [] from (mz_aload_n d_Mo_putName_0 rfl (mz_bipush (17 : Int32) d_Mo_putName_1 (by decide) (mz_bipush (47 : Int32) d_Mo_putName_3 (by decide) (mz_aload_n d_Mo_putName_5 rfl (mz_getI (k := 41) cl_10 d_Mo_putName_6 (by decide) wf_Mo_346 rfl (hF 30 0 (by decide)) rfl (mz_iconst (-1 : Int32) d_Mo_putName_9 (by decide) (mz_callV (As := [.int (17 : Int32), .int (47 : Int32), .int (mz_i M (30, 0) 41), .int (-1 : Int32)]) (st := []) (hF 30 0 (by decide)) rfl (mzClOf cl_10) 0 0 d_Mo_putName_10 cs_Mo_say wl_Mo_353 wi_Mo_say wse_Mo_say (Nat.le_of_ble_eq_true rfl) (Nat.le_refl _) (Nat.le_refl _) (MzC.mono (tm_Mo_say (d := d) hF  hL h) (fun r9 B9 M1 hq3 => by obtain ⟨rfl, hL2, v4, rfl, hq3⟩ := hq3; exact ⟨_, rfl, (mz_istore_n d_Mo_putName_13 (by decide) (mz_aload_n d_Mo_putName_14 rfl (mz_bipush (20 : Int32) d_Mo_putName_15 (by decide) (mz_bipush (47 : Int32) d_Mo_putName_17 (by decide) (mz_ldcw (v := (1849076 : Int32)) d_Mo_putName_19 wk_Mo_339 (mz_iconst (-1 : Int32) d_Mo_putName_22 (by decide) (mz_callV (As := [.int (20 : Int32), .int (47 : Int32), .int (1849076 : Int32), .int (-1 : Int32)]) (st := []) (hF 30 0 (by decide)) rfl (mzClOf cl_10) 0 0 d_Mo_putName_23 cs_Mo_say wl_Mo_353 wi_Mo_say wse_Mo_say (Nat.le_of_ble_eq_true rfl) (Nat.le_refl _) (Nat.le_refl _) (MzC.mono (tm_Mo_say (d := d) hF  hL2 hq3) (fun r9 B9 M5 hq7 => by obtain ⟨rfl, hL6, v8, rfl, hq7⟩ := hq7; exact ⟨_, rfl, (mz_istore_n d_Mo_putName_26 (by decide) (mz_aload_n d_Mo_putName_27 rfl (mz_bipush (21 : Int32) d_Mo_putName_28 (by decide) (mz_bipush (47 : Int32) d_Mo_putName_30 (by decide) (mz_aload_n d_Mo_putName_32 rfl (mz_getI (k := 41) cl_10 d_Mo_putName_33 (by decide) wf_Mo_346 rfl (hF 30 0 (by decide)) rfl (mz_iconst (-1 : Int32) d_Mo_putName_36 (by decide) (mz_callV (As := [.int (21 : Int32), .int (47 : Int32), .int (mz_i M5 (30, 0) 41), .int (-1 : Int32)]) (st := []) (hF 30 0 (by decide)) rfl (mzClOf cl_10) 0 0 d_Mo_putName_37 cs_Mo_say wl_Mo_353 wi_Mo_say wse_Mo_say (Nat.le_of_ble_eq_true rfl) (Nat.le_refl _) (Nat.le_refl _) (MzC.mono (tm_Mo_say (d := d) hF  hL6 hq7) (fun r9 B9 M9 hq11 => by obtain ⟨rfl, hL10, v12, rfl, hq11⟩ := hq11; exact ⟨_, rfl, (mz_istore_n d_Mo_putName_40 (by decide) (mz_iload_n d_Mo_putName_41 rfl (mz_sipush (250 : Int32) d_Mo_putName_42 (by decide) (mz_icmp_ne 52 d_Mo_putName_45 rfl (fun hc13 => (mz_iconst (5 : Int32) d_Mo_putName_52 (by decide) (mz_iret .int d_Mo_putName_53 rfl rfl ⟨rfl, hL10, _, rfl, (hq11.1 hc13)⟩))) (fun hc13 => (mz_iconst (4 : Int32) d_Mo_putName_48 (by decide) (mz_goto 53 d_Mo_putName_49 rfl (mz_iret .int d_Mo_putName_53 rfl rfl ⟨rfl, hL10, _, rfl, (hq11.2 hc13)⟩))))))))⟩))))))))))⟩)))))))))⟩))))))))))
