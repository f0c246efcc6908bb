def mm_Mo_replySize : MzT := (⟨"ParcelLineModel", "replySize", "(I)V"⟩, prog_14_method_14_code, 2, (Option.none : Option Jvm.ClassFile.FieldType))
theorem cs_Mo_replySize {mm : MzT} : mzCall mm mm_Mo_replySize 1 := ⟨wn_Mo, wco_Mo_replySize, by decide +kernel, by decide⟩
theorem d_Mo_replySize_0 : decode mm_Mo_replySize.2.1 0 = .ok (.aload_n 0, 1) := by decide +kernel
theorem d_Mo_replySize_1 : decode mm_Mo_replySize.2.1 1 = .ok (.sipush 213, 3) := by decide +kernel
theorem d_Mo_replySize_4 : decode mm_Mo_replySize.2.1 4 = .ok (.invokevirtual 146, 3) := by decide +kernel
theorem d_Mo_replySize_7 : decode mm_Mo_replySize.2.1 7 = .ok (.aload_n 0, 1) := by decide +kernel
theorem d_Mo_replySize_8 : decode mm_Mo_replySize.2.1 8 = .ok (.iload_n 1, 1) := by decide +kernel
theorem d_Mo_replySize_9 : decode mm_Mo_replySize.2.1 9 = .ok (.putfield 159, 3) := by decide +kernel
theorem d_Mo_replySize_12 : decode mm_Mo_replySize.2.1 12 = .ok (.aload_n 0, 1) := by decide +kernel
theorem d_Mo_replySize_13 : decode mm_Mo_replySize.2.1 13 = .ok (.aload_n 0, 1) := by decide +kernel
theorem d_Mo_replySize_14 : decode mm_Mo_replySize.2.1 14 = .ok (.getfield 137, 3) := by decide +kernel
theorem d_Mo_replySize_17 : decode mm_Mo_replySize.2.1 17 = .ok (.iload_n 1, 1) := by decide +kernel
theorem d_Mo_replySize_18 : decode mm_Mo_replySize.2.1 18 = .ok (.bipush 9, 2) := by decide +kernel
theorem d_Mo_replySize_20 : decode mm_Mo_replySize.2.1 20 = .ok (.if_icmp .le 8, 3) := by decide +kernel
theorem d_Mo_replySize_23 : decode mm_Mo_replySize.2.1 23 = .ok (.bipush 8, 2) := by decide +kernel
theorem d_Mo_replySize_25 : decode mm_Mo_replySize.2.1 25 = .ok (.goto 5, 3) := by decide +kernel
theorem d_Mo_replySize_28 : decode mm_Mo_replySize.2.1 28 = .ok (.bipush 7, 2) := by decide +kernel
theorem d_Mo_replySize_30 : decode mm_Mo_replySize.2.1 30 = .ok (.invokevirtual 149, 3) := by decide +kernel
theorem d_Mo_replySize_33 : decode mm_Mo_replySize.2.1 33 = .ok (.ifCond .ne 4, 3) := by decide +kernel
theorem d_Mo_replySize_36 : decode mm_Mo_replySize.2.1 36 = .ok (.return_, 1) := by decide +kernel
theorem d_Mo_replySize_37 : decode mm_Mo_replySize.2.1 37 = .ok (.aload_n 0, 1) := by decide +kernel
theorem d_Mo_replySize_38 : decode mm_Mo_replySize.2.1 38 = .ok (.sipush 213, 3) := by decide +kernel
theorem d_Mo_replySize_41 : decode mm_Mo_replySize.2.1 41 = .ok (.invokevirtual 153, 3) := by decide +kernel
theorem d_Mo_replySize_44 : decode mm_Mo_replySize.2.1 44 = .ok (.aload_n 0, 1) := by decide +kernel
theorem d_Mo_replySize_45 : decode mm_Mo_replySize.2.1 45 = .ok (.aload_n 0, 1) := by decide +kernel
theorem d_Mo_replySize_46 : decode mm_Mo_replySize.2.1 46 = .ok (.getfield 137, 3) := by decide +kernel
theorem d_Mo_replySize_49 : decode mm_Mo_replySize.2.1 49 = .ok (.bipush 32, 2) := by decide +kernel
theorem d_Mo_replySize_51 : decode mm_Mo_replySize.2.1 51 = .ok (.invokevirtual 140, 3) := by decide +kernel
theorem d_Mo_replySize_54 : decode mm_Mo_replySize.2.1 54 = .ok (.iload_n 1, 1) := by decide +kernel
theorem d_Mo_replySize_55 : decode mm_Mo_replySize.2.1 55 = .ok (.bipush 9, 2) := by decide +kernel
theorem d_Mo_replySize_57 : decode mm_Mo_replySize.2.1 57 = .ok (.if_icmp .le 18, 3) := by decide +kernel
theorem d_Mo_replySize_60 : decode mm_Mo_replySize.2.1 60 = .ok (.aload_n 0, 1) := by decide +kernel
theorem d_Mo_replySize_61 : decode mm_Mo_replySize.2.1 61 = .ok (.aload_n 0, 1) := by decide +kernel
theorem d_Mo_replySize_62 : decode mm_Mo_replySize.2.1 62 = .ok (.getfield 137, 3) := by decide +kernel
theorem d_Mo_replySize_65 : decode mm_Mo_replySize.2.1 65 = .ok (.bipush 48, 2) := by decide +kernel
theorem d_Mo_replySize_67 : decode mm_Mo_replySize.2.1 67 = .ok (.iload_n 1, 1) := by decide +kernel
theorem d_Mo_replySize_68 : decode mm_Mo_replySize.2.1 68 = .ok (.bipush 10, 2) := by decide +kernel
theorem d_Mo_replySize_70 : decode mm_Mo_replySize.2.1 70 = .ok (.idiv, 1) := by decide +kernel
theorem d_Mo_replySize_71 : decode mm_Mo_replySize.2.1 71 = .ok (.iadd, 1) := by decide +kernel
theorem d_Mo_replySize_72 : decode mm_Mo_replySize.2.1 72 = .ok (.invokevirtual 140, 3) := by decide +kernel
theorem d_Mo_replySize_75 : decode mm_Mo_replySize.2.1 75 = .ok (.aload_n 0, 1) := by decide +kernel
theorem d_Mo_replySize_76 : decode mm_Mo_replySize.2.1 76 = .ok (.aload_n 0, 1) := by decide +kernel
theorem d_Mo_replySize_77 : decode mm_Mo_replySize.2.1 77 = .ok (.getfield 137, 3) := by decide +kernel
theorem d_Mo_replySize_80 : decode mm_Mo_replySize.2.1 80 = .ok (.bipush 48, 2) := by decide +kernel
theorem d_Mo_replySize_82 : decode mm_Mo_replySize.2.1 82 = .ok (.iload_n 1, 1) := by decide +kernel
theorem d_Mo_replySize_83 : decode mm_Mo_replySize.2.1 83 = .ok (.bipush 10, 2) := by decide +kernel
theorem d_Mo_replySize_85 : decode mm_Mo_replySize.2.1 85 = .ok (.irem, 1) := by decide +kernel
theorem d_Mo_replySize_86 : decode mm_Mo_replySize.2.1 86 = .ok (.iadd, 1) := by decide +kernel
theorem d_Mo_replySize_87 : decode mm_Mo_replySize.2.1 87 = .ok (.invokevirtual 140, 3) := by decide +kernel
theorem d_Mo_replySize_90 : decode mm_Mo_replySize.2.1 90 = .ok (.aload_n 0, 1) := by decide +kernel
theorem d_Mo_replySize_91 : decode mm_Mo_replySize.2.1 91 = .ok (.invokevirtual 156, 3) := by decide +kernel
theorem d_Mo_replySize_94 : decode mm_Mo_replySize.2.1 94 = .ok (.return_, 1) := by decide +kernel
def wp_Mo_replySize_75   (K : MzM → Prop) (y1 : Int32) (M : MzM) : Prop := wp_Mo_put  (mz_i M (30, 0) 29) ((48 : Int32) + (y1 - y1 / (10 : Int32) * (10 : Int32))) M (fun M21 => wp_Mo_putEnd   M21 (fun M24 => K M24))
def wp_Mo_replySize_30   (K : MzM → Prop) (y1 : Int32) (ys0 : Int32) (ys1 : Int32) (M : MzM) : Prop := wp_Mo_hasRoom  ys1 ys0 M (fun v9 M6 => ((¬ v9 = 0 → wp_Mo_putCode  (213 : Int32) M6 (fun M10 => wp_Mo_put  (mz_i M10 (30, 0) 29) (32 : Int32) M10 (fun M13 => ((y1 ≤ (9 : Int32) → wp_Mo_replySize_75   K y1 M13) ∧ (¬ y1 ≤ (9 : Int32) → wp_Mo_put  (mz_i M13 (30, 0) 29) ((48 : Int32) + (y1 / (10 : Int32))) M13 (fun M16 => wp_Mo_replySize_75   K y1 M16)))))) ∧ (v9 = 0 → K M6)))
def wp_Mo_replySize  (a1 : Int32) (M : MzM) (K : MzM → Prop) : Prop := wp_Mo_answered  (213 : Int32) M (fun M1 => (∀ M4 : MzM, M4 = mz_si M1 (30, 0) 31 a1 → ((a1 ≤ (9 : Int32) → wp_Mo_replySize_30   K a1 (7 : Int32) (mz_i M4 (30, 0) 29) M4) ∧ (¬ a1 ≤ (9 : Int32) → wp_Mo_replySize_30   K a1 (8 : Int32) (mz_i M4 (30, 0) 29) M4))))
theorem tm_Mo_replySize_75 {G : MzG} {B : MzB} {d : Nat} {K : MzM → Prop} (hF : mzLive true B)     (y1 : Int32) (M : MzM) (hL : mzLnk true M) (h : wp_Mo_replySize_75   K y1 M) : MzS G B (d + 2) mm_Mo_replySize M (0, 0) (mzK0 true B K) 75 [(0, .ref (mz_ad B (30, 0))), (1, .int y1)] [] := by
  unfold wp_Mo_replySize_75 at h
  exact (mz_aload_n d_Mo_replySize_75 rfl (mz_aload_n d_Mo_replySize_76 rfl (mz_getI (k := 29) cl_10 d_Mo_replySize_77 (by decide) wf_Mo_137 rfl (hF 30 0 rfl (by decide)) rfl (mz_bipush (48 : Int32) d_Mo_replySize_80 (by decide) (mz_iload_n d_Mo_replySize_82 rfl (mz_bipush (10 : Int32) d_Mo_replySize_83 (by decide) (mz_irem d_Mo_replySize_85 (by decide) (mz_iadd d_Mo_replySize_86 (mz_callV (As := [.int (mz_i M (30, 0) 29), .int ((48 : Int32) + (y1 - y1 / (10 : Int32) * (10 : Int32)))]) (st := []) (hF 30 0 rfl (by decide)) rfl (mzClOf cl_10) 0 0 d_Mo_replySize_87 cs_Mo_put wl_Mo_140 wi_Mo_put wse_Mo_put (Nat.le_of_ble_eq_true rfl) (Nat.zero_le _) (Nat.zero_le _) (MzC.mono (tm_Mo_put (d := (d + 1)) hF  hL h) (fun r9 B9 M21 hq23 => by obtain ⟨rfl, hL22, rfl, hq23⟩ := hq23; exact ⟨none, rfl, (mz_aload_n d_Mo_replySize_90 rfl (mz_callV (As := []) (st := []) (hF 30 0 rfl (by decide)) rfl (mzClOf cl_10) 0 0 d_Mo_replySize_91 cs_Mo_putEnd wl_Mo_156 wi_Mo_putEnd wse_Mo_putEnd (Nat.le_of_ble_eq_true rfl) (Nat.zero_le _) (Nat.zero_le _) (MzC.mono (tm_Mo_putEnd (d := d) hF  hL22 hq23) (fun r9 B9 M24 hq26 => by obtain ⟨rfl, hL25, rfl, hq26⟩ := hq26; exact ⟨none, rfl, (mz_vret d_Mo_replySize_94 rfl ⟨rfl, hL25, rfl, hq26⟩)⟩))))⟩)))))))))))
theorem tm_Mo_replySize_30 {G : MzG} {B : MzB} {d : Nat} {K : MzM → Prop} (hF : mzLive true B)     (y1 : Int32) (ys0 : Int32) (ys1 : Int32) (M : MzM) (hL : mzLnk true M) (h : wp_Mo_replySize_30   K y1 ys0 ys1 M) : MzS G B (d + 2) mm_Mo_replySize M (0, 0) (mzK0 true B K) 30 [(0, .ref (mz_ad B (30, 0))), (1, .int y1)] [.int ys0, .int ys1, .ref (mz_ad B (30, 0))] := by
  unfold wp_Mo_replySize_30 at h
  exact (mz_callV (As := [.int ys1, .int ys0]) (st := []) (hF 30 0 rfl (by decide)) rfl (mzClOf cl_10) 0 0 d_Mo_replySize_30 cs_Mo_hasRoom wl_Mo_149 wi_Mo_hasRoom wse_Mo_hasRoom (Nat.le_of_ble_eq_true rfl) (Nat.zero_le _) (Nat.zero_le _) (MzC.mono (tm_Mo_hasRoom (d := (d + 1)) hF  hL h) (fun r9 B9 M6 hq8 => by obtain ⟨rfl, hL7, v9, rfl, hq8⟩ := hq8; exact ⟨_, rfl, (mz_if_ne 37 d_Mo_replySize_33 rfl (fun hc20 => (mz_aload_n d_Mo_replySize_37 rfl (mz_sipush (213 : Int32) d_Mo_replySize_38 (by decide) (mz_callV (As := [.int (213 : Int32)]) (st := []) (hF 30 0 rfl (by decide)) rfl (mzClOf cl_10) 0 0 d_Mo_replySize_41 cs_Mo_putCode wl_Mo_153 wi_Mo_putCode wse_Mo_putCode (Nat.le_of_ble_eq_true rfl) (Nat.zero_le _) (Nat.zero_le _) (MzC.mono (tm_Mo_putCode (d := d) hF  hL7 (hq8.1 hc20)) (fun r9 B9 M10 hq12 => by obtain ⟨rfl, hL11, rfl, hq12⟩ := hq12; exact ⟨none, rfl, (mz_aload_n d_Mo_replySize_44 rfl (mz_aload_n d_Mo_replySize_45 rfl (mz_getI (k := 29) cl_10 d_Mo_replySize_46 (by decide) wf_Mo_137 rfl (hF 30 0 rfl (by decide)) rfl (mz_bipush (32 : Int32) d_Mo_replySize_49 (by decide) (mz_callV (As := [.int (mz_i M10 (30, 0) 29), .int (32 : Int32)]) (st := []) (hF 30 0 rfl (by decide)) rfl (mzClOf cl_10) 0 0 d_Mo_replySize_51 cs_Mo_put wl_Mo_140 wi_Mo_put wse_Mo_put (Nat.le_of_ble_eq_true rfl) (Nat.zero_le _) (Nat.zero_le _) (MzC.mono (tm_Mo_put (d := (d + 1)) hF  hL11 hq12) (fun r9 B9 M13 hq15 => by obtain ⟨rfl, hL14, rfl, hq15⟩ := hq15; exact ⟨none, rfl, (mz_iload_n d_Mo_replySize_54 rfl (mz_bipush (9 : Int32) d_Mo_replySize_55 (by decide) (mz_icmp_le 75 d_Mo_replySize_57 rfl (fun hc19 => (MzS.loc [(0, .ref (mz_ad B (30, 0))), (1, .int y1)] ⟨rfl, rfl, trivial⟩ (tm_Mo_replySize_75 hF   y1 M13 hL14 (hq15.1 hc19)))) (fun hc19 => (mz_aload_n d_Mo_replySize_60 rfl (mz_aload_n d_Mo_replySize_61 rfl (mz_getI (k := 29) cl_10 d_Mo_replySize_62 (by decide) wf_Mo_137 rfl (hF 30 0 rfl (by decide)) rfl (mz_bipush (48 : Int32) d_Mo_replySize_65 (by decide) (mz_iload_n d_Mo_replySize_67 rfl (mz_bipush (10 : Int32) d_Mo_replySize_68 (by decide) (mz_idiv d_Mo_replySize_70 (by decide) (mz_iadd d_Mo_replySize_71 (mz_callV (As := [.int (mz_i M13 (30, 0) 29), .int ((48 : Int32) + (y1 / (10 : Int32)))]) (st := []) (hF 30 0 rfl (by decide)) rfl (mzClOf cl_10) 0 0 d_Mo_replySize_72 cs_Mo_put wl_Mo_140 wi_Mo_put wse_Mo_put (Nat.le_of_ble_eq_true rfl) (Nat.zero_le _) (Nat.zero_le _) (MzC.mono (tm_Mo_put (d := (d + 1)) hF  hL14 (hq15.2 hc19)) (fun r9 B9 M16 hq18 => by obtain ⟨rfl, hL17, rfl, hq18⟩ := hq18; exact ⟨none, rfl, (MzS.loc [(0, .ref (mz_ad B (30, 0))), (1, .int y1)] ⟨rfl, rfl, trivial⟩ (tm_Mo_replySize_75 hF   y1 M16 hL17 hq18))⟩)))))))))))))))⟩)))))))⟩)))))) (fun hc20 => (mz_vret d_Mo_replySize_36 rfl ⟨rfl, hL7, rfl, (hq8.2 hc20)⟩)))⟩)))
theorem tm_Mo_replySize {G : MzG} {B : MzB} {d : Nat} {K : MzM → Prop} (hF : mzLive true B)   {a1 : Int32} {M : MzM} (hL : mzLnk true M) (h : wp_Mo_replySize  a1 M K) : MzC G B (d + 2) mm_Mo_replySize [.ref (mz_ad B (30, 0)), .int a1] M (0, 0) (mzK0 true B K) := by
  unfold wp_Mo_replySize at h
  exact MzC.of rfl (Nat.le_of_ble_eq_true rfl) (show MzS G B (d + 2) mm_Mo_replySize M (0, 0) (mzK0 true B K) 0 [(0, .ref (mz_ad B (30, 0))), (1, .int a1)] [] from (mz_aload_n d_Mo_replySize_0 rfl (mz_sipush (213 : Int32) d_Mo_replySize_1 (by decide) (mz_callV (As := [.int (213 : Int32)]) (st := []) (hF 30 0 rfl (by decide)) rfl (mzClOf cl_10) 0 0 d_Mo_replySize_4 cs_Mo_answered wl_Mo_146 wi_Mo_answered wse_Mo_answered (Nat.le_of_ble_eq_true rfl) (Nat.zero_le _) (Nat.zero_le _) (MzC.mono (tm_Mo_answered (d := (d + 1)) hF  hL h) (fun r9 B9 M1 hq3 => by obtain ⟨rfl, hL2, rfl, hq3⟩ := hq3; exact ⟨none, rfl, (mz_aload_n d_Mo_replySize_7 rfl (mz_iload_n d_Mo_replySize_8 rfl (mz_putI (k := 31) cl_10 d_Mo_replySize_9 (by decide) wf_Mo_159 rfl rfl rfl rfl (hF 30 0 rfl (by decide)) rfl (let M4 : MzM := mz_si M1 (30, 0) 31 a1; (mz_aload_n d_Mo_replySize_12 rfl (mz_aload_n d_Mo_replySize_13 rfl (mz_getI (k := 29) cl_10 d_Mo_replySize_14 (by decide) wf_Mo_137 rfl (hF 30 0 rfl (by decide)) rfl (mz_iload_n d_Mo_replySize_17 rfl (mz_bipush (9 : Int32) d_Mo_replySize_18 (by decide) (mz_icmp_le 28 d_Mo_replySize_20 rfl (fun hc5 => (mz_bipush (7 : Int32) d_Mo_replySize_28 (by decide) (MzS.loc [(0, .ref (mz_ad B (30, 0))), (1, .int a1)] ⟨rfl, rfl, trivial⟩ (tm_Mo_replySize_30 hF   a1 (7 : Int32) (mz_i M4 (30, 0) 29) M4 hL2 ((hq3 M4 rfl).1 hc5))))) (fun hc5 => (mz_bipush (8 : Int32) d_Mo_replySize_23 (by decide) (mz_goto 30 d_Mo_replySize_25 rfl (MzS.loc [(0, .ref (mz_ad B (30, 0))), (1, .int a1)] ⟨rfl, rfl, trivial⟩ (tm_Mo_replySize_30 hF   a1 (8 : Int32) (mz_i M4 (30, 0) 29) M4 hL2 ((hq3 M4 rfl).2 hc5))))))))))))))))⟩))))))
def mm_Mo_lettersOf : MzT := (⟨"ParcelLineModel", "lettersOf", "(I)I"⟩, prog_14_method_15_code, 1, (Option.some Jvm.ClassFile.FieldType.int))
theorem cs_Mo_lettersOf {mm : MzT} : mzCall mm mm_Mo_lettersOf 1 := ⟨wn_Mo, wco_Mo_lettersOf, by decide +kernel, by decide⟩
theorem d_Mo_lettersOf_0 : decode mm_Mo_lettersOf.2.1 0 = .ok (.iload_n 0, 1) := by decide +kernel
theorem d_Mo_lettersOf_1 : decode mm_Mo_lettersOf.2.1 1 = .ok (.sipush 16384, 3) := by decide +kernel
theorem d_Mo_lettersOf_4 : decode mm_Mo_lettersOf.2.1 4 = .ok (.if_icmp .lt 7, 3) := by decide +kernel
theorem d_Mo_lettersOf_7 : decode mm_Mo_lettersOf.2.1 7 = .ok (.iconst 3, 1) := by decide +kernel
theorem d_Mo_lettersOf_8 : decode mm_Mo_lettersOf.2.1 8 = .ok (.goto 15, 3) := by decide +kernel
theorem d_Mo_lettersOf_11 : decode mm_Mo_lettersOf.2.1 11 = .ok (.iload_n 0, 1) := by decide +kernel
theorem d_Mo_lettersOf_12 : decode mm_Mo_lettersOf.2.1 12 = .ok (.sipush 128, 3) := by decide +kernel
theorem d_Mo_lettersOf_15 : decode mm_Mo_lettersOf.2.1 15 = .ok (.if_icmp .lt 7, 3) := by decide +kernel
theorem d_Mo_lettersOf_18 : decode mm_Mo_lettersOf.2.1 18 = .ok (.iconst 2, 1) := by decide +kernel
theorem d_Mo_lettersOf_19 : decode mm_Mo_lettersOf.2.1 19 = .ok (.goto 4, 3) := by decide +kernel
theorem d_Mo_lettersOf_22 : decode mm_Mo_lettersOf.2.1 22 = .ok (.iconst 1, 1) := by decide +kernel
theorem d_Mo_lettersOf_23 : decode mm_Mo_lettersOf.2.1 23 = .ok (.ireturn, 1) := by decide +kernel
def wp_Mo_lettersOf  (a0 : Int32) (M : MzM) (K : Int32 → MzM → Prop) : Prop := ((a0 < (16384 : Int32) → ((a0 < (128 : Int32) → K (1 : Int32) M) ∧ (¬ a0 < (128 : Int32) → K (2 : Int32) M))) ∧ (¬ a0 < (16384 : Int32) → K (3 : Int32) M))
theorem tm_Mo_lettersOf {G : MzG} {B : MzB} {d : Nat} {K : Int32 → MzM → Prop} (hF : mzLive true B)   {a0 : Int32} {M : MzM} (hL : mzLnk true M) (h : wp_Mo_lettersOf  a0 M K) : MzC G B d mm_Mo_lettersOf [.int a0] M (0, 0) (mzK1 true B K) := by
  unfold wp_Mo_lettersOf at h
  exact MzC.of rfl (Nat.le_of_ble_eq_true rfl) (show MzS G B d mm_Mo_lettersOf M (0, 0) (mzK1 true B K) 0 [(0, .int a0)] [] from (mz_iload_n d_Mo_lettersOf_0 rfl (mz_sipush (16384 : Int32) d_Mo_lettersOf_1 (by decide) (mz_icmp_lt 11 d_Mo_lettersOf_4 rfl (fun hc2 => (mz_iload_n d_Mo_lettersOf_11 rfl (mz_sipush (128 : Int32) d_Mo_lettersOf_12 (by decide) (mz_icmp_lt 22 d_Mo_lettersOf_15 rfl (fun hc1 => (mz_iconst (1 : Int32) d_Mo_lettersOf_22 (by decide) (mz_iret .int d_Mo_lettersOf_23 rfl rfl ⟨rfl, hL, _, rfl, ((h.1 hc2).1 hc1)⟩))) (fun hc1 => (mz_iconst (2 : Int32) d_Mo_lettersOf_18 (by decide) (mz_goto 23 d_Mo_lettersOf_19 rfl (mz_iret .int d_Mo_lettersOf_23 rfl rfl ⟨rfl, hL, _, rfl, ((h.1 hc2).2 hc1)⟩)))))))) (fun hc2 => (mz_iconst (3 : Int32) d_Mo_lettersOf_7 (by decide) (mz_goto 23 d_Mo_lettersOf_8 rfl (mz_iret .int d_Mo_lettersOf_23 rfl rfl ⟨rfl, hL, _, rfl, (h.2 hc2)⟩))))))))
def mm_Mo_depth : MzT := (⟨"ParcelLineModel", "depth", "(I)I"⟩, prog_14_method_16_code, 4, (Option.some Jvm.ClassFile.FieldType.int))
theorem cs_Mo_depth {mm : MzT} : mzCall mm mm_Mo_depth 1 := ⟨wn_Mo, wco_Mo_depth, by decide +kernel, by decide⟩
theorem d_Mo_depth_0 : decode mm_Mo_depth.2.1 0 = .ok (.iconst 0, 1) := by decide +kernel
theorem d_Mo_depth_1 : decode mm_Mo_depth.2.1 1 = .ok (.istore_n 2, 1) := by decide +kernel
theorem d_Mo_depth_2 : decode mm_Mo_depth.2.1 2 = .ok (.iload_n 1, 1) := by decide +kernel
theorem d_Mo_depth_3 : decode mm_Mo_depth.2.1 3 = .ok (.istore_n 3, 1) := by decide +kernel
theorem d_Mo_depth_4 : decode mm_Mo_depth.2.1 4 = .ok (.aload_n 0, 1) := by decide +kernel
theorem d_Mo_depth_5 : decode mm_Mo_depth.2.1 5 = .ok (.getfield 41, 3) := by decide +kernel
theorem d_Mo_depth_8 : decode mm_Mo_depth.2.1 8 = .ok (.iload_n 3, 1) := by decide +kernel
theorem d_Mo_depth_9 : decode mm_Mo_depth.2.1 9 = .ok (.iaload, 1) := by decide +kernel
theorem d_Mo_depth_10 : decode mm_Mo_depth.2.1 10 = .ok (.ifCond .lt 16, 3) := by decide +kernel
theorem d_Mo_depth_13 : decode mm_Mo_depth.2.1 13 = .ok (.aload_n 0, 1) := by decide +kernel
theorem d_Mo_depth_14 : decode mm_Mo_depth.2.1 14 = .ok (.getfield 41, 3) := by decide +kernel
theorem d_Mo_depth_17 : decode mm_Mo_depth.2.1 17 = .ok (.iload_n 3, 1) := by decide +kernel
theorem d_Mo_depth_18 : decode mm_Mo_depth.2.1 18 = .ok (.iaload, 1) := by decide +kernel
theorem d_Mo_depth_19 : decode mm_Mo_depth.2.1 19 = .ok (.istore_n 3, 1) := by decide +kernel
theorem d_Mo_depth_20 : decode mm_Mo_depth.2.1 20 = .ok (.iinc 2 1, 3) := by decide +kernel
theorem d_Mo_depth_23 : decode mm_Mo_depth.2.1 23 = .ok (.goto (-19), 3) := by decide +kernel
theorem d_Mo_depth_26 : decode mm_Mo_depth.2.1 26 = .ok (.iload_n 2, 1) := by decide +kernel
theorem d_Mo_depth_27 : decode mm_Mo_depth.2.1 27 = .ok (.ireturn, 1) := by decide +kernel
def wp_Mo_depth_4   (K : Int32 → MzM → Prop) : Nat → Int32 → Int32 → MzM → Prop
  | 0, _, _, _ => False
  | r0 + 1, y2, y3, M => (∃ j3 : Nat, y3.toInt = (j3 : Int) ∧ j3 < 16 ∧ (((mz_i M (34, 0) j3) < 0 → K y2 M) ∧ (¬ (mz_i M (34, 0) j3) < 0 → (∃ j7 : Nat, y3.toInt = (j7 : Int) ∧ j7 < 16 ∧ (wp_Mo_depth_4   K r0) (y2 + (1 : Int32)) (mz_i M (34, 0) j7) M))))
def wp_Mo_depth  (a1 : Int32) (M : MzM) (K : Int32 → MzM → Prop) : Prop := (∃ r1 : Nat, wp_Mo_depth_4   K r1 (0 : Int32) a1 M)
theorem tm_Mo_depth_4 {G : MzG} {B : MzB} {d : Nat} {K : Int32 → MzM → Prop} (hF : mzLive true B)     : ∀ (r0 : Nat) (y2 : Int32) (y3 : Int32) (M : MzM), mzLnk true M → wp_Mo_depth_4   K r0 y2 y3 M → MzS G B d mm_Mo_depth M (0, 0) (mzK1 true B K) 4 [(0, .ref (mz_ad B (30, 0))), (2, .int y2), (3, .int y3)] [] := by
  intro r0
  induction r0 with
  | zero => intro y2 y3 M hL h; exact False.elim h
  | succ r0 hH4 =>
    intro y2 y3 M hL h
    unfold wp_Mo_depth_4 at h
    exact (mz_aload_n d_Mo_depth_4 rfl (mz_getR (k := 4) (a := (34, 0)) cl_10 d_Mo_depth_5 (by decide) wf_Mo_41 rfl (hF 30 0 rfl (by decide)) rfl (hL (30, 0) 4 (34, 0) rfl rfl (by decide)) (mz_iload_n d_Mo_depth_8 rfl (match h with | ⟨j3, h4, h5, h6⟩ => mz_iald j3 d_Mo_depth_9 (hF 34 0 rfl (by decide)) rfl h4 h5 (mz_if_lt 26 d_Mo_depth_10 rfl (fun hc11 => (mz_iload_n d_Mo_depth_26 rfl (mz_iret .int d_Mo_depth_27 rfl rfl ⟨rfl, hL, _, rfl, (h6.1 hc11)⟩))) (fun hc11 => (mz_aload_n d_Mo_depth_13 rfl (mz_getR (k := 4) (a := (34, 0)) cl_10 d_Mo_depth_14 (by decide) wf_Mo_41 rfl (hF 30 0 rfl (by decide)) rfl (hL (30, 0) 4 (34, 0) rfl rfl (by decide)) (mz_iload_n d_Mo_depth_17 rfl (match (h6.2 hc11) with | ⟨j7, h8, h9, h10⟩ => mz_iald j7 d_Mo_depth_18 (hF 34 0 rfl (by decide)) rfl h8 h9 (mz_istore_n d_Mo_depth_19 (by decide) (mz_iinc (y2 + (1 : Int32)) d_Mo_depth_20 rfl (by decide) rfl (mz_goto 4 d_Mo_depth_23 rfl (MzS.loc [(0, .ref (mz_ad B (30, 0))), (2, .int (y2 + (1 : Int32))), (3, .int (mz_i M (34, 0) j7))] ⟨rfl, rfl, rfl, trivial⟩ (hH4 (y2 + (1 : Int32)) (mz_i M (34, 0) j7) M hL h10)))))))))))))))
theorem tm_Mo_depth {G : MzG} {B : MzB} {d : Nat} {K : Int32 → MzM → Prop} (hF : mzLive true B)   {a1 : Int32} {M : MzM} (hL : mzLnk true M) (h : wp_Mo_depth  a1 M K) : MzC G B d mm_Mo_depth [.ref (mz_ad B (30, 0)), .int a1] M (0, 0) (mzK1 true B K) := by
  unfold wp_Mo_depth at h
  exact MzC.of rfl (Nat.le_of_ble_eq_true rfl) (show MzS G B d mm_Mo_depth M (0, 0) (mzK1 true B K) 0 [(0, .ref (mz_ad B (30, 0))), (1, .int a1)] [] from (mz_iconst (0 : Int32) d_Mo_depth_0 (by decide) (mz_istore_n d_Mo_depth_1 (by decide) (mz_iload_n d_Mo_depth_2 rfl (mz_istore_n d_Mo_depth_3 (by decide) (MzS.loc [(0, .ref (mz_ad B (30, 0))), (2, .int (0 : Int32)), (3, .int a1)] ⟨rfl, rfl, rfl, trivial⟩ (match h with | ⟨r1, h2⟩ => tm_Mo_depth_4 hF   r1 (0 : Int32) a1 M hL h2)))))))
def mm_Mo_above : MzT := (⟨"ParcelLineModel", "above", "(II)I"⟩, prog_14_method_17_code, 5, (Option.some Jvm.ClassFile.FieldType.int))
theorem cs_Mo_above {mm : MzT} : mzCall mm mm_Mo_above 2 := ⟨wn_Mo, wco_Mo_above, by decide +kernel, by decide⟩
theorem d_Mo_above_0 : decode mm_Mo_above.2.1 0 = .ok (.iload_n 1, 1) := by decide +kernel
theorem d_Mo_above_1 : decode mm_Mo_above.2.1 1 = .ok (.istore_n 3, 1) := by decide +kernel
theorem d_Mo_above_2 : decode mm_Mo_above.2.1 2 = .ok (.iconst 0, 1) := by decide +kernel
theorem d_Mo_above_3 : decode mm_Mo_above.2.1 3 = .ok (.istore 4, 2) := by decide +kernel
theorem d_Mo_above_5 : decode mm_Mo_above.2.1 5 = .ok (.iload 4, 2) := by decide +kernel
theorem d_Mo_above_7 : decode mm_Mo_above.2.1 7 = .ok (.iload_n 2, 1) := by decide +kernel
theorem d_Mo_above_8 : decode mm_Mo_above.2.1 8 = .ok (.if_icmp .ge 16, 3) := by decide +kernel
theorem d_Mo_above_11 : decode mm_Mo_above.2.1 11 = .ok (.aload_n 0, 1) := by decide +kernel
theorem d_Mo_above_12 : decode mm_Mo_above.2.1 12 = .ok (.getfield 41, 3) := by decide +kernel
theorem d_Mo_above_15 : decode mm_Mo_above.2.1 15 = .ok (.iload_n 3, 1) := by decide +kernel
theorem d_Mo_above_16 : decode mm_Mo_above.2.1 16 = .ok (.iaload, 1) := by decide +kernel
theorem d_Mo_above_17 : decode mm_Mo_above.2.1 17 = .ok (.istore_n 3, 1) := by decide +kernel
theorem d_Mo_above_18 : decode mm_Mo_above.2.1 18 = .ok (.iinc 4 1, 3) := by decide +kernel
theorem d_Mo_above_21 : decode mm_Mo_above.2.1 21 = .ok (.goto (-16), 3) := by decide +kernel
theorem d_Mo_above_24 : decode mm_Mo_above.2.1 24 = .ok (.iload_n 3, 1) := by decide +kernel
theorem d_Mo_above_25 : decode mm_Mo_above.2.1 25 = .ok (.ireturn, 1) := by decide +kernel
def wp_Mo_above_5   (K : Int32 → MzM → Prop) : Nat → Int32 → Int32 → Int32 → MzM → Prop
  | 0, _, _, _, _ => False
  | r0 + 1, y2, y3, y4, M => ((y2 ≤ y4 → K y3 M) ∧ (¬ y2 ≤ y4 → (∃ j3 : Nat, y3.toInt = (j3 : Int) ∧ j3 < 16 ∧ (wp_Mo_above_5   K r0) y2 (mz_i M (34, 0) j3) (y4 + (1 : Int32)) M)))
def wp_Mo_above  (a1 : Int32) (a2 : Int32) (M : MzM) (K : Int32 → MzM → Prop) : Prop := (∃ r1 : Nat, wp_Mo_above_5   K r1 a2 a1 (0 : Int32) M)
theorem tm_Mo_above_5 {G : MzG} {B : MzB} {d : Nat} {K : Int32 → MzM → Prop} (hF : mzLive true B)     : ∀ (r0 : Nat) (y2 : Int32) (y3 : Int32) (y4 : Int32) (M : MzM), mzLnk true M → wp_Mo_above_5   K r0 y2 y3 y4 M → MzS G B d mm_Mo_above M (0, 0) (mzK1 true B K) 5 [(0, .ref (mz_ad B (30, 0))), (2, .int y2), (3, .int y3), (4, .int y4)] [] := by
  intro r0
  induction r0 with
  | zero => intro y2 y3 y4 M hL h; exact False.elim h
  | succ r0 hH5 =>
    intro y2 y3 y4 M hL h
    unfold wp_Mo_above_5 at h
    exact (mz_iload d_Mo_above_5 rfl (mz_iload_n d_Mo_above_7 rfl (mz_icmp_ge 24 d_Mo_above_8 rfl (fun hc7 => (mz_iload_n d_Mo_above_24 rfl (mz_iret .int d_Mo_above_25 rfl rfl ⟨rfl, hL, _, rfl, (h.1 hc7)⟩))) (fun hc7 => (mz_aload_n d_Mo_above_11 rfl (mz_getR (k := 4) (a := (34, 0)) cl_10 d_Mo_above_12 (by decide) wf_Mo_41 rfl (hF 30 0 rfl (by decide)) rfl (hL (30, 0) 4 (34, 0) rfl rfl (by decide)) (mz_iload_n d_Mo_above_15 rfl (match (h.2 hc7) with | ⟨j3, h4, h5, h6⟩ => mz_iald j3 d_Mo_above_16 (hF 34 0 rfl (by decide)) rfl h4 h5 (mz_istore_n d_Mo_above_17 (by decide) (mz_iinc (y4 + (1 : Int32)) d_Mo_above_18 rfl (by decide) rfl (mz_goto 5 d_Mo_above_21 rfl (MzS.loc [(0, .ref (mz_ad B (30, 0))), (2, .int y2), (3, .int (mz_i M (34, 0) j3)), (4, .int (y4 + (1 : Int32)))] ⟨rfl, rfl, rfl, rfl, trivial⟩ (hH5 y2 (mz_i M (34, 0) j3) (y4 + (1 : Int32)) M hL h6)))))))))))))
theorem tm_Mo_above {G : MzG} {B : MzB} {d : Nat} {K : Int32 → MzM → Prop} (hF : mzLive true B)   {a1 : Int32} {a2 : Int32} {M : MzM} (hL : mzLnk true M) (h : wp_Mo_above  a1 a2 M K) : MzC G B d mm_Mo_above [.ref (mz_ad B (30, 0)), .int a1, .int a2] M (0, 0) (mzK1 true B K) := by
  unfold wp_Mo_above at h
  exact MzC.of rfl (Nat.le_of_ble_eq_true rfl) (show MzS G B d mm_Mo_above M (0, 0) (mzK1 true B K) 0 [(0, .ref (mz_ad B (30, 0))), (1, .int a1), (2, .int a2)] [] from (mz_iload_n d_Mo_above_0 rfl (mz_istore_n d_Mo_above_1 (by decide) (mz_iconst (0 : Int32) d_Mo_above_2 (by decide) (mz_istore d_Mo_above_3 (by decide) (MzS.loc [(0, .ref (mz_ad B (30, 0))), (2, .int a2), (3, .int a1), (4, .int (0 : Int32))] ⟨rfl, rfl, rfl, rfl, trivial⟩ (match h with | ⟨r1, h2⟩ => tm_Mo_above_5 hF   r1 a2 a1 (0 : Int32) M hL h2)))))))
def mm_Mo_replyPath : MzT := (⟨"ParcelLineModel", "replyPath", "(I)V"⟩, prog_14_method_18_code, 6, (Option.none : Option Jvm.ClassFile.FieldType))
theorem cs_Mo_replyPath {mm : MzT} : mzCall mm mm_Mo_replyPath 1 := ⟨wn_Mo, wco_Mo_replyPath, by decide +kernel, by decide⟩
theorem d_Mo_replyPath_0 : decode mm_Mo_replyPath.2.1 0 = .ok (.aload_n 0, 1) := by decide +kernel
theorem d_Mo_replyPath_1 : decode mm_Mo_replyPath.2.1 1 = .ok (.sipush 257, 3) := by decide +kernel
theorem d_Mo_replyPath_4 : decode mm_Mo_replyPath.2.1 4 = .ok (.invokevirtual 146, 3) := by decide +kernel
theorem d_Mo_replyPath_7 : decode mm_Mo_replyPath.2.1 7 = .ok (.aload_n 0, 1) := by decide +kernel
theorem d_Mo_replyPath_8 : decode mm_Mo_replyPath.2.1 8 = .ok (.iload_n 1, 1) := by decide +kernel
theorem d_Mo_replyPath_9 : decode mm_Mo_replyPath.2.1 9 = .ok (.invokevirtual 162, 3) := by decide +kernel
theorem d_Mo_replyPath_12 : decode mm_Mo_replyPath.2.1 12 = .ok (.istore_n 2, 1) := by decide +kernel
theorem d_Mo_replyPath_13 : decode mm_Mo_replyPath.2.1 13 = .ok (.iload_n 2, 1) := by decide +kernel
theorem d_Mo_replyPath_14 : decode mm_Mo_replyPath.2.1 14 = .ok (.ifCond .ne 7, 3) := by decide +kernel
theorem d_Mo_replyPath_17 : decode mm_Mo_replyPath.2.1 17 = .ok (.iconst 1, 1) := by decide +kernel
theorem d_Mo_replyPath_18 : decode mm_Mo_replyPath.2.1 18 = .ok (.goto 4, 3) := by decide +kernel
theorem d_Mo_replyPath_21 : decode mm_Mo_replyPath.2.1 21 = .ok (.iconst 0, 1) := by decide +kernel
theorem d_Mo_replyPath_22 : decode mm_Mo_replyPath.2.1 22 = .ok (.istore_n 3, 1) := by decide +kernel
theorem d_Mo_replyPath_23 : decode mm_Mo_replyPath.2.1 23 = .ok (.iconst 0, 1) := by decide +kernel
theorem d_Mo_replyPath_24 : decode mm_Mo_replyPath.2.1 24 = .ok (.istore 4, 2) := by decide +kernel
theorem d_Mo_replyPath_26 : decode mm_Mo_replyPath.2.1 26 = .ok (.iload 4, 2) := by decide +kernel
theorem d_Mo_replyPath_28 : decode mm_Mo_replyPath.2.1 28 = .ok (.iload_n 2, 1) := by decide +kernel
theorem d_Mo_replyPath_29 : decode mm_Mo_replyPath.2.1 29 = .ok (.if_icmp .ge 29, 3) := by decide +kernel
theorem d_Mo_replyPath_32 : decode mm_Mo_replyPath.2.1 32 = .ok (.iload_n 3, 1) := by decide +kernel
theorem d_Mo_replyPath_33 : decode mm_Mo_replyPath.2.1 33 = .ok (.iconst 1, 1) := by decide +kernel
theorem d_Mo_replyPath_34 : decode mm_Mo_replyPath.2.1 34 = .ok (.iadd, 1) := by decide +kernel
theorem d_Mo_replyPath_35 : decode mm_Mo_replyPath.2.1 35 = .ok (.aload_n 0, 1) := by decide +kernel
theorem d_Mo_replyPath_36 : decode mm_Mo_replyPath.2.1 36 = .ok (.getfield 44, 3) := by decide +kernel
theorem d_Mo_replyPath_39 : decode mm_Mo_replyPath.2.1 39 = .ok (.aload_n 0, 1) := by decide +kernel
theorem d_Mo_replyPath_40 : decode mm_Mo_replyPath.2.1 40 = .ok (.iload_n 1, 1) := by decide +kernel
theorem d_Mo_replyPath_41 : decode mm_Mo_replyPath.2.1 41 = .ok (.iload 4, 2) := by decide +kernel
theorem d_Mo_replyPath_43 : decode mm_Mo_replyPath.2.1 43 = .ok (.invokevirtual 166, 3) := by decide +kernel
theorem d_Mo_replyPath_46 : decode mm_Mo_replyPath.2.1 46 = .ok (.iaload, 1) := by decide +kernel
theorem d_Mo_replyPath_47 : decode mm_Mo_replyPath.2.1 47 = .ok (.invokestatic 170, 3) := by decide +kernel
theorem d_Mo_replyPath_50 : decode mm_Mo_replyPath.2.1 50 = .ok (.iadd, 1) := by decide +kernel
theorem d_Mo_replyPath_51 : decode mm_Mo_replyPath.2.1 51 = .ok (.istore_n 3, 1) := by decide +kernel
theorem d_Mo_replyPath_52 : decode mm_Mo_replyPath.2.1 52 = .ok (.iinc 4 1, 3) := by decide +kernel
theorem d_Mo_replyPath_55 : decode mm_Mo_replyPath.2.1 55 = .ok (.goto (-29), 3) := by decide +kernel
theorem d_Mo_replyPath_58 : decode mm_Mo_replyPath.2.1 58 = .ok (.aload_n 0, 1) := by decide +kernel
theorem d_Mo_replyPath_59 : decode mm_Mo_replyPath.2.1 59 = .ok (.aload_n 0, 1) := by decide +kernel
theorem d_Mo_replyPath_60 : decode mm_Mo_replyPath.2.1 60 = .ok (.getfield 137, 3) := by decide +kernel
theorem d_Mo_replyPath_63 : decode mm_Mo_replyPath.2.1 63 = .ok (.bipush 6, 2) := by decide +kernel
theorem d_Mo_replyPath_65 : decode mm_Mo_replyPath.2.1 65 = .ok (.iload_n 3, 1) := by decide +kernel
theorem d_Mo_replyPath_66 : decode mm_Mo_replyPath.2.1 66 = .ok (.iadd, 1) := by decide +kernel
theorem d_Mo_replyPath_67 : decode mm_Mo_replyPath.2.1 67 = .ok (.invokevirtual 149, 3) := by decide +kernel
theorem d_Mo_replyPath_70 : decode mm_Mo_replyPath.2.1 70 = .ok (.ifCond .ne 4, 3) := by decide +kernel
theorem d_Mo_replyPath_73 : decode mm_Mo_replyPath.2.1 73 = .ok (.return_, 1) := by decide +kernel
theorem d_Mo_replyPath_74 : decode mm_Mo_replyPath.2.1 74 = .ok (.aload_n 0, 1) := by decide +kernel
theorem d_Mo_replyPath_75 : decode mm_Mo_replyPath.2.1 75 = .ok (.sipush 257, 3) := by decide +kernel
theorem d_Mo_replyPath_78 : decode mm_Mo_replyPath.2.1 78 = .ok (.invokevirtual 153, 3) := by decide +kernel
theorem d_Mo_replyPath_81 : decode mm_Mo_replyPath.2.1 81 = .ok (.aload_n 0, 1) := by decide +kernel
theorem d_Mo_replyPath_82 : decode mm_Mo_replyPath.2.1 82 = .ok (.aload_n 0, 1) := by decide +kernel
theorem d_Mo_replyPath_83 : decode mm_Mo_replyPath.2.1 83 = .ok (.getfield 137, 3) := by decide +kernel
theorem d_Mo_replyPath_86 : decode mm_Mo_replyPath.2.1 86 = .ok (.bipush 32, 2) := by decide +kernel
theorem d_Mo_replyPath_88 : decode mm_Mo_replyPath.2.1 88 = .ok (.invokevirtual 140, 3) := by decide +kernel
theorem d_Mo_replyPath_91 : decode mm_Mo_replyPath.2.1 91 = .ok (.iload_n 2, 1) := by decide +kernel
theorem d_Mo_replyPath_92 : decode mm_Mo_replyPath.2.1 92 = .ok (.ifCond .ne 13, 3) := by decide +kernel
theorem d_Mo_replyPath_95 : decode mm_Mo_replyPath.2.1 95 = .ok (.aload_n 0, 1) := by decide +kernel
theorem d_Mo_replyPath_96 : decode mm_Mo_replyPath.2.1 96 = .ok (.aload_n 0, 1) := by decide +kernel
theorem d_Mo_replyPath_97 : decode mm_Mo_replyPath.2.1 97 = .ok (.getfield 137, 3) := by decide +kernel
theorem d_Mo_replyPath_100 : decode mm_Mo_replyPath.2.1 100 = .ok (.bipush 47, 2) := by decide +kernel
theorem d_Mo_replyPath_102 : decode mm_Mo_replyPath.2.1 102 = .ok (.invokevirtual 140, 3) := by decide +kernel
theorem d_Mo_replyPath_105 : decode mm_Mo_replyPath.2.1 105 = .ok (.iload_n 2, 1) := by decide +kernel
theorem d_Mo_replyPath_106 : decode mm_Mo_replyPath.2.1 106 = .ok (.iconst 1, 1) := by decide +kernel
theorem d_Mo_replyPath_107 : decode mm_Mo_replyPath.2.1 107 = .ok (.isub, 1) := by decide +kernel
theorem d_Mo_replyPath_108 : decode mm_Mo_replyPath.2.1 108 = .ok (.istore 4, 2) := by decide +kernel
theorem d_Mo_replyPath_110 : decode mm_Mo_replyPath.2.1 110 = .ok (.iload 4, 2) := by decide +kernel
theorem d_Mo_replyPath_112 : decode mm_Mo_replyPath.2.1 112 = .ok (.ifCond .lt 63, 3) := by decide +kernel
theorem d_Mo_replyPath_115 : decode mm_Mo_replyPath.2.1 115 = .ok (.aload_n 0, 1) := by decide +kernel
theorem d_Mo_replyPath_116 : decode mm_Mo_replyPath.2.1 116 = .ok (.aload_n 0, 1) := by decide +kernel
theorem d_Mo_replyPath_117 : decode mm_Mo_replyPath.2.1 117 = .ok (.getfield 137, 3) := by decide +kernel
theorem d_Mo_replyPath_120 : decode mm_Mo_replyPath.2.1 120 = .ok (.bipush 47, 2) := by decide +kernel
theorem d_Mo_replyPath_122 : decode mm_Mo_replyPath.2.1 122 = .ok (.invokevirtual 140, 3) := by decide +kernel
theorem d_Mo_replyPath_125 : decode mm_Mo_replyPath.2.1 125 = .ok (.aload_n 0, 1) := by decide +kernel
theorem d_Mo_replyPath_126 : decode mm_Mo_replyPath.2.1 126 = .ok (.getfield 44, 3) := by decide +kernel
theorem d_Mo_replyPath_129 : decode mm_Mo_replyPath.2.1 129 = .ok (.aload_n 0, 1) := by decide +kernel
theorem d_Mo_replyPath_130 : decode mm_Mo_replyPath.2.1 130 = .ok (.iload_n 1, 1) := by decide +kernel
theorem d_Mo_replyPath_131 : decode mm_Mo_replyPath.2.1 131 = .ok (.iload 4, 2) := by decide +kernel
theorem d_Mo_replyPath_133 : decode mm_Mo_replyPath.2.1 133 = .ok (.invokevirtual 166, 3) := by decide +kernel
theorem d_Mo_replyPath_136 : decode mm_Mo_replyPath.2.1 136 = .ok (.iaload, 1) := by decide +kernel
theorem d_Mo_replyPath_137 : decode mm_Mo_replyPath.2.1 137 = .ok (.istore 5, 2) := by decide +kernel
theorem d_Mo_replyPath_139 : decode mm_Mo_replyPath.2.1 139 = .ok (.iload 5, 2) := by decide +kernel
theorem d_Mo_replyPath_141 : decode mm_Mo_replyPath.2.1 141 = .ok (.ifCond .le 28, 3) := by decide +kernel
theorem d_Mo_replyPath_144 : decode mm_Mo_replyPath.2.1 144 = .ok (.aload_n 0, 1) := by decide +kernel
theorem d_Mo_replyPath_145 : decode mm_Mo_replyPath.2.1 145 = .ok (.aload_n 0, 1) := by decide +kernel
theorem d_Mo_replyPath_146 : decode mm_Mo_replyPath.2.1 146 = .ok (.getfield 137, 3) := by decide +kernel
theorem d_Mo_replyPath_149 : decode mm_Mo_replyPath.2.1 149 = .ok (.iload 5, 2) := by decide +kernel
theorem d_Mo_replyPath_151 : decode mm_Mo_replyPath.2.1 151 = .ok (.sipush 128, 3) := by decide +kernel
theorem d_Mo_replyPath_154 : decode mm_Mo_replyPath.2.1 154 = .ok (.irem, 1) := by decide +kernel
theorem d_Mo_replyPath_155 : decode mm_Mo_replyPath.2.1 155 = .ok (.invokevirtual 140, 3) := by decide +kernel
theorem d_Mo_replyPath_158 : decode mm_Mo_replyPath.2.1 158 = .ok (.iload 5, 2) := by decide +kernel
theorem d_Mo_replyPath_160 : decode mm_Mo_replyPath.2.1 160 = .ok (.sipush 128, 3) := by decide +kernel
theorem d_Mo_replyPath_163 : decode mm_Mo_replyPath.2.1 163 = .ok (.idiv, 1) := by decide +kernel
theorem d_Mo_replyPath_164 : decode mm_Mo_replyPath.2.1 164 = .ok (.istore 5, 2) := by decide +kernel
theorem d_Mo_replyPath_166 : decode mm_Mo_replyPath.2.1 166 = .ok (.goto (-27), 3) := by decide +kernel
theorem d_Mo_replyPath_169 : decode mm_Mo_replyPath.2.1 169 = .ok (.iinc 4 (-1), 3) := by decide +kernel
theorem d_Mo_replyPath_172 : decode mm_Mo_replyPath.2.1 172 = .ok (.goto (-62), 3) := by decide +kernel
theorem d_Mo_replyPath_175 : decode mm_Mo_replyPath.2.1 175 = .ok (.aload_n 0, 1) := by decide +kernel
theorem d_Mo_replyPath_176 : decode mm_Mo_replyPath.2.1 176 = .ok (.invokevirtual 156, 3) := by decide +kernel
theorem d_Mo_replyPath_179 : decode mm_Mo_replyPath.2.1 179 = .ok (.return_, 1) := by decide +kernel
def wp_Mo_replyPath_139  (H110 : Int32 → Int32 → MzM → Prop) (K : MzM → Prop) : Nat → Int32 → Int32 → Int32 → MzM → Prop
  | 0, _, _, _, _ => False
  | r0 + 1, y1, y4, y5, M => ((y5 ≤ 0 → H110 y1 (y4 + (-1 : Int32)) M) ∧ (¬ y5 ≤ 0 → wp_Mo_put  (mz_i M (30, 0) 29) (y5 - y5 / (128 : Int32) * (128 : Int32)) M (fun M58 => (wp_Mo_replyPath_139  H110 K r0) y1 y4 (y5 / (128 : Int32)) M58)))
def wp_Mo_replyPath_110   (K : MzM → Prop) : Nat → Int32 → Int32 → MzM → Prop
  | 0, _, _, _ => False
  | r0 + 1, y1, y4, M => ((y4 < 0 → wp_Mo_putEnd   M (fun M41 => K M41)) ∧ (¬ y4 < 0 → wp_Mo_put  (mz_i M (30, 0) 29) (47 : Int32) M (fun M44 => wp_Mo_above  y1 y4 M44 (fun v50 M47 => (∃ j51 : Nat, v50.toInt = (j51 : Int) ∧ j51 < 16 ∧ (∃ r55 : Nat, wp_Mo_replyPath_139  (wp_Mo_replyPath_110   K r0) K r55 y1 y4 (mz_i M47 (35, 0) j51) M47))))))
def wp_Mo_replyPath_105   (K : MzM → Prop) (y1 : Int32) (y2 : Int32) (M : MzM) : Prop := (∃ r39 : Nat, wp_Mo_replyPath_110   K r39 y1 (y2 - (1 : Int32)) M)
def wp_Mo_replyPath_26   (K : MzM → Prop) : Nat → Int32 → Int32 → Int32 → Int32 → MzM → Prop
  | 0, _, _, _, _, _ => False
  | r0 + 1, y1, y2, y3, y4, M => ((y2 ≤ y4 → wp_Mo_hasRoom  (mz_i M (30, 0) 29) ((6 : Int32) + y3) M (fun v14 M11 => ((¬ v14 = 0 → wp_Mo_putCode  (257 : Int32) M11 (fun M15 => wp_Mo_put  (mz_i M15 (30, 0) 29) (32 : Int32) M15 (fun M18 => ((¬ y2 = 0 → wp_Mo_replyPath_105   K y1 y2 M18) ∧ (y2 = 0 → wp_Mo_put  (mz_i M18 (30, 0) 29) (47 : Int32) M18 (fun M21 => wp_Mo_replyPath_105   K y1 y2 M21)))))) ∧ (v14 = 0 → K M11)))) ∧ (¬ y2 ≤ y4 → wp_Mo_above  y1 y4 M (fun v29 M26 => (∃ j30 : Nat, v29.toInt = (j30 : Int) ∧ j30 < 16 ∧ wp_Mo_lettersOf  (mz_i M26 (35, 0) j30) M26 (fun v37 M34 => (wp_Mo_replyPath_26   K r0) y1 y2 ((y3 + (1 : Int32)) + v37) (y4 + (1 : Int32)) M34)))))
def wp_Mo_replyPath_22   (K : MzM → Prop) (y1 : Int32) (y2 : Int32) (ys0 : Int32) (M : MzM) : Prop := (∃ r9 : Nat, wp_Mo_replyPath_26   K r9 y1 y2 ys0 (0 : Int32) M)
def wp_Mo_replyPath  (a1 : Int32) (M : MzM) (K : MzM → Prop) : Prop := wp_Mo_answered  (257 : Int32) M (fun M1 => wp_Mo_depth  a1 M1 (fun v7 M4 => ((¬ v7 = 0 → wp_Mo_replyPath_22   K a1 v7 (0 : Int32) M4) ∧ (v7 = 0 → wp_Mo_replyPath_22   K a1 v7 (1 : Int32) M4))))
theorem tm_Mo_replyPath_139 {G : MzG} {B : MzB} {d : Nat} {K : MzM → Prop} (hF : mzLive true B)   {H110 : Int32 → Int32 → MzM → Prop} (hH110 : ∀ (y1 : Int32) (y4 : Int32) (M : MzM), mzLnk true M → H110 y1 y4 M → MzS G B (d + 2) mm_Mo_replyPath M (0, 0) (mzK0 true B K) 110 [(0, .ref (mz_ad B (30, 0))), (1, .int y1), (4, .int y4)] []) : ∀ (r0 : Nat) (y1 : Int32) (y4 : Int32) (y5 : Int32) (M : MzM), mzLnk true M → wp_Mo_replyPath_139  H110 K r0 y1 y4 y5 M → MzS G B (d + 2) mm_Mo_replyPath M (0, 0) (mzK0 true B K) 139 [(0, .ref (mz_ad B (30, 0))), (1, .int y1), (4, .int y4), (5, .int y5)] [] := by
  intro r0
  induction r0 with
  | zero => intro y1 y4 y5 M hL h; exact False.elim h
  | succ r0 hH139 =>
    intro y1 y4 y5 M hL h
    unfold wp_Mo_replyPath_139 at h
    exact (mz_iload d_Mo_replyPath_139 rfl (mz_if_le 169 d_Mo_replyPath_141 rfl (fun hc61 => (mz_iinc (y4 + (-1 : Int32)) d_Mo_replyPath_169 rfl (by decide) rfl (mz_goto 110 d_Mo_replyPath_172 rfl (MzS.loc [(0, .ref (mz_ad B (30, 0))), (1, .int y1), (4, .int (y4 + (-1 : Int32)))] ⟨rfl, rfl, rfl, trivial⟩ (hH110 y1 (y4 + (-1 : Int32)) M hL (h.1 hc61)))))) (fun hc61 => (mz_aload_n d_Mo_replyPath_144 rfl (mz_aload_n d_Mo_replyPath_145 rfl (mz_getI (k := 29) cl_10 d_Mo_replyPath_146 (by decide) wf_Mo_137 rfl (hF 30 0 rfl (by decide)) rfl (mz_iload d_Mo_replyPath_149 rfl (mz_sipush (128 : Int32) d_Mo_replyPath_151 (by decide) (mz_irem d_Mo_replyPath_154 (by decide) (mz_callV (As := [.int (mz_i M (30, 0) 29), .int (y5 - y5 / (128 : Int32) * (128 : Int32))]) (st := []) (hF 30 0 rfl (by decide)) rfl (mzClOf cl_10) 0 0 d_Mo_replyPath_155 cs_Mo_put wl_Mo_140 wi_Mo_put wse_Mo_put (Nat.le_of_ble_eq_true rfl) (Nat.zero_le _) (Nat.zero_le _) (MzC.mono (tm_Mo_put (d := (d + 1)) hF  hL (h.2 hc61)) (fun r9 B9 M58 hq60 => by obtain ⟨rfl, hL59, rfl, hq60⟩ := hq60; exact ⟨none, rfl, (mz_iload d_Mo_replyPath_158 rfl (mz_sipush (128 : Int32) d_Mo_replyPath_160 (by decide) (mz_idiv d_Mo_replyPath_163 (by decide) (mz_istore d_Mo_replyPath_164 (by decide) (mz_goto 139 d_Mo_replyPath_166 rfl (MzS.loc [(0, .ref (mz_ad B (30, 0))), (1, .int y1), (4, .int y4), (5, .int (y5 / (128 : Int32)))] ⟨rfl, rfl, rfl, rfl, trivial⟩ (hH139 y1 y4 (y5 / (128 : Int32)) M58 hL59 hq60)))))))⟩))))))))))))
theorem tm_Mo_replyPath_110 {G : MzG} {B : MzB} {d : Nat} {K : MzM → Prop} (hF : mzLive true B)     : ∀ (r0 : Nat) (y1 : Int32) (y4 : Int32) (M : MzM), mzLnk true M → wp_Mo_replyPath_110   K r0 y1 y4 M → MzS G B (d + 2) mm_Mo_replyPath M (0, 0) (mzK0 true B K) 110 [(0, .ref (mz_ad B (30, 0))), (1, .int y1), (4, .int y4)] [] := by
  intro r0
  induction r0 with
  | zero => intro y1 y4 M hL h; exact False.elim h
  | succ r0 hH110 =>
    intro y1 y4 M hL h
    unfold wp_Mo_replyPath_110 at h
    exact (mz_iload d_Mo_replyPath_110 rfl (mz_if_lt 175 d_Mo_replyPath_112 rfl (fun hc57 => (mz_aload_n d_Mo_replyPath_175 rfl (mz_callV (As := []) (st := []) (hF 30 0 rfl (by decide)) rfl (mzClOf cl_10) 0 0 d_Mo_replyPath_176 cs_Mo_putEnd wl_Mo_156 wi_Mo_putEnd wse_Mo_putEnd (Nat.le_of_ble_eq_true rfl) (Nat.zero_le _) (Nat.zero_le _) (MzC.mono (tm_Mo_putEnd (d := d) hF  hL (h.1 hc57)) (fun r9 B9 M41 hq43 => by obtain ⟨rfl, hL42, rfl, hq43⟩ := hq43; exact ⟨none, rfl, (mz_vret d_Mo_replyPath_179 rfl ⟨rfl, hL42, rfl, hq43⟩)⟩))))) (fun hc57 => (mz_aload_n d_Mo_replyPath_115 rfl (mz_aload_n d_Mo_replyPath_116 rfl (mz_getI (k := 29) cl_10 d_Mo_replyPath_117 (by decide) wf_Mo_137 rfl (hF 30 0 rfl (by decide)) rfl (mz_bipush (47 : Int32) d_Mo_replyPath_120 (by decide) (mz_callV (As := [.int (mz_i M (30, 0) 29), .int (47 : Int32)]) (st := []) (hF 30 0 rfl (by decide)) rfl (mzClOf cl_10) 0 0 d_Mo_replyPath_122 cs_Mo_put wl_Mo_140 wi_Mo_put wse_Mo_put (Nat.le_of_ble_eq_true rfl) (Nat.zero_le _) (Nat.zero_le _) (MzC.mono (tm_Mo_put (d := (d + 1)) hF  hL (h.2 hc57)) (fun r9 B9 M44 hq46 => by obtain ⟨rfl, hL45, rfl, hq46⟩ := hq46; exact ⟨none, rfl, (mz_aload_n d_Mo_replyPath_125 rfl (mz_getR (k := 5) (a := (35, 0)) cl_10 d_Mo_replyPath_126 (by decide) wf_Mo_44 rfl (hF 30 0 rfl (by decide)) rfl (hL45 (30, 0) 5 (35, 0) rfl rfl (by decide)) (mz_aload_n d_Mo_replyPath_129 rfl (mz_iload_n d_Mo_replyPath_130 rfl (mz_iload d_Mo_replyPath_131 rfl (mz_callV (As := [.int y1, .int y4]) (st := [.ref (mz_ad B (35, 0))]) (hF 30 0 rfl (by decide)) rfl (mzClOf cl_10) 0 0 d_Mo_replyPath_133 cs_Mo_above wl_Mo_166 wi_Mo_above wse_Mo_above (Nat.le_of_ble_eq_true rfl) (Nat.zero_le _) (Nat.zero_le _) (MzC.mono (tm_Mo_above (d := (d + 1)) hF  hL45 hq46) (fun r9 B9 M47 hq49 => by obtain ⟨rfl, hL48, v50, rfl, hq49⟩ := hq49; exact ⟨_, rfl, (match hq49 with | ⟨j51, h52, h53, h54⟩ => mz_iald j51 d_Mo_replyPath_136 (hF 35 0 rfl (by decide)) rfl h52 h53 (mz_istore d_Mo_replyPath_137 (by decide) (MzS.loc [(0, .ref (mz_ad B (30, 0))), (1, .int y1), (4, .int y4), (5, .int (mz_i M47 (35, 0) j51))] ⟨rfl, rfl, rfl, rfl, trivial⟩ (match h54 with | ⟨r55, h56⟩ => tm_Mo_replyPath_139 hF  hH110 r55 y1 y4 (mz_i M47 (35, 0) j51) M47 hL48 h56))))⟩))))))))⟩))))))))))
theorem tm_Mo_replyPath_105 {G : MzG} {B : MzB} {d : Nat} {K : MzM → Prop} (hF : mzLive true B)     (y1 : Int32) (y2 : Int32) (M : MzM) (hL : mzLnk true M) (h : wp_Mo_replyPath_105   K y1 y2 M) : MzS G B (d + 2) mm_Mo_replyPath M (0, 0) (mzK0 true B K) 105 [(0, .ref (mz_ad B (30, 0))), (1, .int y1), (2, .int y2)] [] := by
  unfold wp_Mo_replyPath_105 at h
  exact (mz_iload_n d_Mo_replyPath_105 rfl (mz_iconst (1 : Int32) d_Mo_replyPath_106 (by decide) (mz_isub d_Mo_replyPath_107 (mz_istore d_Mo_replyPath_108 (by decide) (MzS.loc [(0, .ref (mz_ad B (30, 0))), (1, .int y1), (4, .int (y2 - (1 : Int32)))] ⟨rfl, rfl, rfl, trivial⟩ (match h with | ⟨r39, h40⟩ => tm_Mo_replyPath_110 hF   r39 y1 (y2 - (1 : Int32)) M hL h40))))))
theorem tm_Mo_replyPath_26 {G : MzG} {B : MzB} {d : Nat} {K : MzM → Prop} (hF : mzLive true B)     : ∀ (r0 : Nat) (y1 : Int32) (y2 : Int32) (y3 : Int32) (y4 : Int32) (M : MzM), mzLnk true M → wp_Mo_replyPath_26   K r0 y1 y2 y3 y4 M → MzS G B (d + 2) mm_Mo_replyPath M (0, 0) (mzK0 true B K) 26 [(0, .ref (mz_ad B (30, 0))), (1, .int y1), (2, .int y2), (3, .int y3), (4, .int y4)] [] := by
  intro r0
  induction r0 with
  | zero => intro y1 y2 y3 y4 M hL h; exact False.elim h
  | succ r0 hH26 =>
    intro y1 y2 y3 y4 M hL h
    unfold wp_Mo_replyPath_26 at h
    exact (mz_iload d_Mo_replyPath_26 rfl (mz_iload_n d_Mo_replyPath_28 rfl (mz_icmp_ge 58 d_Mo_replyPath_29 rfl (fun hc38 => (mz_aload_n d_Mo_replyPath_58 rfl (mz_aload_n d_Mo_replyPath_59 rfl (mz_getI (k := 29) cl_10 d_Mo_replyPath_60 (by decide) wf_Mo_137 rfl (hF 30 0 rfl (by decide)) rfl (mz_bipush (6 : Int32) d_Mo_replyPath_63 (by decide) (mz_iload_n d_Mo_replyPath_65 rfl (mz_iadd d_Mo_replyPath_66 (mz_callV (As := [.int (mz_i M (30, 0) 29), .int ((6 : Int32) + y3)]) (st := []) (hF 30 0 rfl (by decide)) rfl (mzClOf cl_10) 0 0 d_Mo_replyPath_67 cs_Mo_hasRoom wl_Mo_149 wi_Mo_hasRoom wse_Mo_hasRoom (Nat.le_of_ble_eq_true rfl) (Nat.zero_le _) (Nat.zero_le _) (MzC.mono (tm_Mo_hasRoom (d := (d + 1)) hF  hL (h.1 hc38)) (fun r9 B9 M11 hq13 => by obtain ⟨rfl, hL12, v14, rfl, hq13⟩ := hq13; exact ⟨_, rfl, (mz_if_ne 74 d_Mo_replyPath_70 rfl (fun hc25 => (mz_aload_n d_Mo_replyPath_74 rfl (mz_sipush (257 : Int32) d_Mo_replyPath_75 (by decide) (mz_callV (As := [.int (257 : Int32)]) (st := []) (hF 30 0 rfl (by decide)) rfl (mzClOf cl_10) 0 0 d_Mo_replyPath_78 cs_Mo_putCode wl_Mo_153 wi_Mo_putCode wse_Mo_putCode (Nat.le_of_ble_eq_true rfl) (Nat.zero_le _) (Nat.zero_le _) (MzC.mono (tm_Mo_putCode (d := d) hF  hL12 (hq13.1 hc25)) (fun r9 B9 M15 hq17 => by obtain ⟨rfl, hL16, rfl, hq17⟩ := hq17; exact ⟨none, rfl, (mz_aload_n d_Mo_replyPath_81 rfl (mz_aload_n d_Mo_replyPath_82 rfl (mz_getI (k := 29) cl_10 d_Mo_replyPath_83 (by decide) wf_Mo_137 rfl (hF 30 0 rfl (by decide)) rfl (mz_bipush (32 : Int32) d_Mo_replyPath_86 (by decide) (mz_callV (As := [.int (mz_i M15 (30, 0) 29), .int (32 : Int32)]) (st := []) (hF 30 0 rfl (by decide)) rfl (mzClOf cl_10) 0 0 d_Mo_replyPath_88 cs_Mo_put wl_Mo_140 wi_Mo_put wse_Mo_put (Nat.le_of_ble_eq_true rfl) (Nat.zero_le _) (Nat.zero_le _) (MzC.mono (tm_Mo_put (d := (d + 1)) hF  hL16 hq17) (fun r9 B9 M18 hq20 => by obtain ⟨rfl, hL19, rfl, hq20⟩ := hq20; exact ⟨none, rfl, (mz_iload_n d_Mo_replyPath_91 rfl (mz_if_ne 105 d_Mo_replyPath_92 rfl (fun hc24 => (MzS.loc [(0, .ref (mz_ad B (30, 0))), (1, .int y1), (2, .int y2)] ⟨rfl, rfl, rfl, trivial⟩ (tm_Mo_replyPath_105 hF   y1 y2 M18 hL19 (hq20.1 hc24)))) (fun hc24 => (mz_aload_n d_Mo_replyPath_95 rfl (mz_aload_n d_Mo_replyPath_96 rfl (mz_getI (k := 29) cl_10 d_Mo_replyPath_97 (by decide) wf_Mo_137 rfl (hF 30 0 rfl (by decide)) rfl (mz_bipush (47 : Int32) d_Mo_replyPath_100 (by decide) (mz_callV (As := [.int (mz_i M18 (30, 0) 29), .int (47 : Int32)]) (st := []) (hF 30 0 rfl (by decide)) rfl (mzClOf cl_10) 0 0 d_Mo_replyPath_102 cs_Mo_put wl_Mo_140 wi_Mo_put wse_Mo_put (Nat.le_of_ble_eq_true rfl) (Nat.zero_le _) (Nat.zero_le _) (MzC.mono (tm_Mo_put (d := (d + 1)) hF  hL19 (hq20.2 hc24)) (fun r9 B9 M21 hq23 => by obtain ⟨rfl, hL22, rfl, hq23⟩ := hq23; exact ⟨none, rfl, (MzS.loc [(0, .ref (mz_ad B (30, 0))), (1, .int y1), (2, .int y2)] ⟨rfl, rfl, rfl, trivial⟩ (tm_Mo_replyPath_105 hF   y1 y2 M21 hL22 hq23))⟩))))))))))⟩)))))))⟩)))))) (fun hc25 => (mz_vret d_Mo_replyPath_73 rfl ⟨rfl, hL12, rfl, (hq13.2 hc25)⟩)))⟩)))))))))) (fun hc38 => (mz_iload_n d_Mo_replyPath_32 rfl (mz_iconst (1 : Int32) d_Mo_replyPath_33 (by decide) (mz_iadd d_Mo_replyPath_34 (mz_aload_n d_Mo_replyPath_35 rfl (mz_getR (k := 5) (a := (35, 0)) cl_10 d_Mo_replyPath_36 (by decide) wf_Mo_44 rfl (hF 30 0 rfl (by decide)) rfl (hL (30, 0) 5 (35, 0) rfl rfl (by decide)) (mz_aload_n d_Mo_replyPath_39 rfl (mz_iload_n d_Mo_replyPath_40 rfl (mz_iload d_Mo_replyPath_41 rfl (mz_callV (As := [.int y1, .int y4]) (st := [.ref (mz_ad B (35, 0)), .int (y3 + (1 : Int32))]) (hF 30 0 rfl (by decide)) rfl (mzClOf cl_10) 0 0 d_Mo_replyPath_43 cs_Mo_above wl_Mo_166 wi_Mo_above wse_Mo_above (Nat.le_of_ble_eq_true rfl) (Nat.zero_le _) (Nat.zero_le _) (MzC.mono (tm_Mo_above (d := (d + 1)) hF  hL (h.2 hc38)) (fun r9 B9 M26 hq28 => by obtain ⟨rfl, hL27, v29, rfl, hq28⟩ := hq28; exact ⟨_, rfl, (match hq28 with | ⟨j30, h31, h32, h33⟩ => mz_iald j30 d_Mo_replyPath_46 (hF 35 0 rfl (by decide)) rfl h31 h32 (mz_callS (As := [.int (mz_i M26 (35, 0) j30)]) (st := [.int (y3 + (1 : Int32))]) 0 0 d_Mo_replyPath_47 cs_Mo_lettersOf wl_Mo_170 ws_Mo_lettersOf (Nat.le_of_ble_eq_true rfl) (Nat.zero_le _) (Nat.zero_le _) (MzC.mono (tm_Mo_lettersOf (d := (d + 1)) hF  hL27 h33) (fun r9 B9 M34 hq36 => by obtain ⟨rfl, hL35, v37, rfl, hq36⟩ := hq36; exact ⟨_, rfl, (mz_iadd d_Mo_replyPath_50 (mz_istore_n d_Mo_replyPath_51 (by decide) (mz_iinc (y4 + (1 : Int32)) d_Mo_replyPath_52 rfl (by decide) rfl (mz_goto 26 d_Mo_replyPath_55 rfl (MzS.loc [(0, .ref (mz_ad B (30, 0))), (1, .int y1), (2, .int y2), (3, .int ((y3 + (1 : Int32)) + v37)), (4, .int (y4 + (1 : Int32)))] ⟨rfl, rfl, rfl, rfl, rfl, trivial⟩ (hH26 y1 y2 ((y3 + (1 : Int32)) + v37) (y4 + (1 : Int32)) M34 hL35 hq36))))))⟩))))⟩)))))))))))))))
theorem tm_Mo_replyPath_22 {G : MzG} {B : MzB} {d : Nat} {K : MzM → Prop} (hF : mzLive true B)     (y1 : Int32) (y2 : Int32) (ys0 : Int32) (M : MzM) (hL : mzLnk true M) (h : wp_Mo_replyPath_22   K y1 y2 ys0 M) : MzS G B (d + 2) mm_Mo_replyPath M (0, 0) (mzK0 true B K) 22 [(0, .ref (mz_ad B (30, 0))), (1, .int y1), (2, .int y2)] [.int ys0] := by
  unfold wp_Mo_replyPath_22 at h
  exact (mz_istore_n d_Mo_replyPath_22 (by decide) (mz_iconst (0 : Int32) d_Mo_replyPath_23 (by decide) (mz_istore d_Mo_replyPath_24 (by decide) (MzS.loc [(0, .ref (mz_ad B (30, 0))), (1, .int y1), (2, .int y2), (3, .int ys0), (4, .int (0 : Int32))] ⟨rfl, rfl, rfl, rfl, rfl, trivial⟩ (match h with | ⟨r9, h10⟩ => tm_Mo_replyPath_26 hF   r9 y1 y2 ys0 (0 : Int32) M hL h10)))))
theorem tm_Mo_replyPath {G : MzG} {B : MzB} {d : Nat} {K : MzM → Prop} (hF : mzLive true B)   {a1 : Int32} {M : MzM} (hL : mzLnk true M) (h : wp_Mo_replyPath  a1 M K) : MzC G B (d + 2) mm_Mo_replyPath [.ref (mz_ad B (30, 0)), .int a1] M (0, 0) (mzK0 true B K) := by
  unfold wp_Mo_replyPath at h
  exact MzC.of rfl (Nat.le_of_ble_eq_true rfl) (show MzS G B (d + 2) mm_Mo_replyPath M (0, 0) (mzK0 true B K) 0 [(0, .ref (mz_ad B (30, 0))), (1, .int a1)] [] from (mz_aload_n d_Mo_replyPath_0 rfl (mz_sipush (257 : Int32) d_Mo_replyPath_1 (by decide) (mz_callV (As := [.int (257 : Int32)]) (st := []) (hF 30 0 rfl (by decide)) rfl (mzClOf cl_10) 0 0 d_Mo_replyPath_4 cs_Mo_answered wl_Mo_146 wi_Mo_answered wse_Mo_answered (Nat.le_of_ble_eq_true rfl) (Nat.zero_le _) (Nat.zero_le _) (MzC.mono (tm_Mo_answered (d := (d + 1)) hF  hL h) (fun r9 B9 M1 hq3 => by obtain ⟨rfl, hL2, rfl, hq3⟩ := hq3; exact ⟨none, rfl, (mz_aload_n d_Mo_replyPath_7 rfl (mz_iload_n d_Mo_replyPath_8 rfl (mz_callV (As := [.int a1]) (st := []) (hF 30 0 rfl (by decide)) rfl (mzClOf cl_10) 0 0 d_Mo_replyPath_9 cs_Mo_depth wl_Mo_162 wi_Mo_depth wse_Mo_depth (Nat.le_of_ble_eq_true rfl) (Nat.zero_le _) (Nat.zero_le _) (MzC.mono (tm_Mo_depth (d := (d + 1)) hF  hL2 hq3) (fun r9 B9 M4 hq6 => by obtain ⟨rfl, hL5, v7, rfl, hq6⟩ := hq6; exact ⟨_, rfl, (mz_istore_n d_Mo_replyPath_12 (by decide) (mz_iload_n d_Mo_replyPath_13 rfl (mz_if_ne 21 d_Mo_replyPath_14 rfl (fun hc8 => (mz_iconst (0 : Int32) d_Mo_replyPath_21 (by decide) (MzS.loc [(0, .ref (mz_ad B (30, 0))), (1, .int a1), (2, .int v7)] ⟨rfl, rfl, rfl, trivial⟩ (tm_Mo_replyPath_22 hF   a1 v7 (0 : Int32) M4 hL5 (hq6.1 hc8))))) (fun hc8 => (mz_iconst (1 : Int32) d_Mo_replyPath_17 (by decide) (mz_goto 22 d_Mo_replyPath_18 rfl (MzS.loc [(0, .ref (mz_ad B (30, 0))), (1, .int a1), (2, .int v7)] ⟨rfl, rfl, rfl, trivial⟩ (tm_Mo_replyPath_22 hF   a1 v7 (1 : Int32) M4 hL5 (hq6.2 hc8)))))))))⟩)))))⟩))))))
def mm_Mo_ch : MzT := (⟨"ParcelLineModel", "ch", "(I)I"⟩, prog_14_method_23_code, 2, (Option.some Jvm.ClassFile.FieldType.int))
theorem cs_Mo_ch {mm : MzT} : mzCall mm mm_Mo_ch 1 := ⟨wn_Mo, wco_Mo_ch, by decide +kernel, by decide⟩
theorem d_Mo_ch_0 : decode mm_Mo_ch.2.1 0 = .ok (.iload_n 1, 1) := by decide +kernel
theorem d_Mo_ch_1 : decode mm_Mo_ch.2.1 1 = .ok (.aload_n 0, 1) := by decide +kernel
theorem d_Mo_ch_2 : decode mm_Mo_ch.2.1 2 = .ok (.getfield 62, 3) := by decide +kernel
theorem d_Mo_ch_5 : decode mm_Mo_ch.2.1 5 = .ok (.aload_n 0, 1) := by decide +kernel
theorem d_Mo_ch_6 : decode mm_Mo_ch.2.1 6 = .ok (.getfield 137, 3) := by decide +kernel
theorem d_Mo_ch_9 : decode mm_Mo_ch.2.1 9 = .ok (.iaload, 1) := by decide +kernel
theorem d_Mo_ch_10 : decode mm_Mo_ch.2.1 10 = .ok (.if_icmp .ge 20, 3) := by decide +kernel
theorem d_Mo_ch_13 : decode mm_Mo_ch.2.1 13 = .ok (.aload_n 0, 1) := by decide +kernel
theorem d_Mo_ch_14 : decode mm_Mo_ch.2.1 14 = .ok (.getfield 68, 3) := by decide +kernel
theorem d_Mo_ch_17 : decode mm_Mo_ch.2.1 17 = .ok (.bipush 30, 2) := by decide +kernel
theorem d_Mo_ch_19 : decode mm_Mo_ch.2.1 19 = .ok (.aload_n 0, 1) := by decide +kernel
theorem d_Mo_ch_20 : decode mm_Mo_ch.2.1 20 = .ok (.getfield 137, 3) := by decide +kernel
theorem d_Mo_ch_23 : decode mm_Mo_ch.2.1 23 = .ok (.imul, 1) := by decide +kernel
theorem d_Mo_ch_24 : decode mm_Mo_ch.2.1 24 = .ok (.iload_n 1, 1) := by decide +kernel
theorem d_Mo_ch_25 : decode mm_Mo_ch.2.1 25 = .ok (.iadd, 1) := by decide +kernel
theorem d_Mo_ch_26 : decode mm_Mo_ch.2.1 26 = .ok (.iaload, 1) := by decide +kernel
theorem d_Mo_ch_27 : decode mm_Mo_ch.2.1 27 = .ok (.goto 4, 3) := by decide +kernel
theorem d_Mo_ch_30 : decode mm_Mo_ch.2.1 30 = .ok (.iconst (-1), 1) := by decide +kernel
theorem d_Mo_ch_31 : decode mm_Mo_ch.2.1 31 = .ok (.ireturn, 1) := by decide +kernel
def wp_Mo_ch  (a1 : Int32) (M : MzM) (K : Int32 → MzM → Prop) : Prop := (∃ j1 : Nat, (mz_i M (30, 0) 29).toInt = (j1 : Int) ∧ j1 < 2 ∧ (((mz_i M (41, 0) j1) ≤ a1 → K (-1 : Int32) M) ∧ (¬ (mz_i M (41, 0) j1) ≤ a1 → (∃ j5 : Nat, (((30 : Int32) * (mz_i M (30, 0) 29)) + a1).toInt = (j5 : Int) ∧ j5 < 60 ∧ K (mz_i M (43, 0) j5) M))))
theorem tm_Mo_ch {G : MzG} {B : MzB} {d : Nat} {K : Int32 → MzM → Prop} (hF : mzLive true B)   {a1 : Int32} {M : MzM} (hL : mzLnk true M) (h : wp_Mo_ch  a1 M K) : MzC G B d mm_Mo_ch [.ref (mz_ad B (30, 0)), .int a1] M (0, 0) (mzK1 true B K) := by
  unfold wp_Mo_ch at h
  exact MzC.of rfl (Nat.le_of_ble_eq_true rfl) (show MzS G B d mm_Mo_ch M (0, 0) (mzK1 true B K) 0 [(0, .ref (mz_ad B (30, 0))), (1, .int a1)] [] from (mz_iload_n d_Mo_ch_0 rfl (mz_aload_n d_Mo_ch_1 rfl (mz_getR (k := 11) (a := (41, 0)) cl_10 d_Mo_ch_2 (by decide) wf_Mo_62 rfl (hF 30 0 rfl (by decide)) rfl (hL (30, 0) 11 (41, 0) rfl rfl (by decide)) (mz_aload_n d_Mo_ch_5 rfl (mz_getI (k := 29) cl_10 d_Mo_ch_6 (by decide) wf_Mo_137 rfl (hF 30 0 rfl (by decide)) rfl (match h with | ⟨j1, h2, h3, h4⟩ => mz_iald j1 d_Mo_ch_9 (hF 41 0 rfl (by decide)) rfl h2 h3 (mz_icmp_ge 30 d_Mo_ch_10 rfl (fun hc9 => (mz_iconst (-1 : Int32) d_Mo_ch_30 (by decide) (mz_iret .int d_Mo_ch_31 rfl rfl ⟨rfl, hL, _, rfl, (h4.1 hc9)⟩))) (fun hc9 => (mz_aload_n d_Mo_ch_13 rfl (mz_getR (k := 13) (a := (43, 0)) cl_10 d_Mo_ch_14 (by decide) wf_Mo_68 rfl (hF 30 0 rfl (by decide)) rfl (hL (30, 0) 13 (43, 0) rfl rfl (by decide)) (mz_bipush (30 : Int32) d_Mo_ch_17 (by decide) (mz_aload_n d_Mo_ch_19 rfl (mz_getI (k := 29) cl_10 d_Mo_ch_20 (by decide) wf_Mo_137 rfl (hF 30 0 rfl (by decide)) rfl (mz_imul d_Mo_ch_23 (mz_iload_n d_Mo_ch_24 rfl (mz_iadd d_Mo_ch_25 (match (h4.2 hc9) with | ⟨j5, h6, h7, h8⟩ => mz_iald j5 d_Mo_ch_26 (hF 43 0 rfl (by decide)) rfl h6 h7 (mz_goto 31 d_Mo_ch_27 rfl (mz_iret .int d_Mo_ch_31 rfl rfl ⟨rfl, hL, _, rfl, h8⟩))))))))))))))))))))
