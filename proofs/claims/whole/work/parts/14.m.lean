def mm_Ses_sendFile : MzT := (⟨"ParcelLine$Session", "sendFile", "()I"⟩, prog_11_method_24_code, 2, (Option.some Jvm.ClassFile.FieldType.int))
theorem cs_Ses_sendFile {mm : MzT} : mzCall mm mm_Ses_sendFile 0 := ⟨wn_Ses, wco_Ses_sendFile, by decide +kernel, by decide⟩
theorem d_Ses_sendFile_0 : decode mm_Ses_sendFile.2.1 0 = .ok (.aload_n 0, 1) := by decide +kernel
theorem d_Ses_sendFile_1 : decode mm_Ses_sendFile.2.1 1 = .ok (.getfield 15, 3) := by decide +kernel
theorem d_Ses_sendFile_4 : decode mm_Ses_sendFile.2.1 4 = .ok (.aload_n 0, 1) := by decide +kernel
theorem d_Ses_sendFile_5 : decode mm_Ses_sendFile.2.1 5 = .ok (.getfield 56, 3) := by decide +kernel
theorem d_Ses_sendFile_8 : decode mm_Ses_sendFile.2.1 8 = .ok (.invokevirtual 332, 3) := by decide +kernel
theorem d_Ses_sendFile_11 : decode mm_Ses_sendFile.2.1 11 = .ok (.ifCond .ne 7, 3) := by decide +kernel
theorem d_Ses_sendFile_14 : decode mm_Ses_sendFile.2.1 14 = .ok (.sipush 550, 3) := by decide +kernel
theorem d_Ses_sendFile_17 : decode mm_Ses_sendFile.2.1 17 = .ok (.ireturn, 1) := by decide +kernel
theorem d_Ses_sendFile_18 : decode mm_Ses_sendFile.2.1 18 = .ok (.aload_n 0, 1) := by decide +kernel
theorem d_Ses_sendFile_19 : decode mm_Ses_sendFile.2.1 19 = .ok (.getfield 15, 3) := by decide +kernel
theorem d_Ses_sendFile_22 : decode mm_Ses_sendFile.2.1 22 = .ok (.getfield 190, 3) := by decide +kernel
theorem d_Ses_sendFile_25 : decode mm_Ses_sendFile.2.1 25 = .ok (.aload_n 0, 1) := by decide +kernel
theorem d_Ses_sendFile_26 : decode mm_Ses_sendFile.2.1 26 = .ok (.getfield 56, 3) := by decide +kernel
theorem d_Ses_sendFile_29 : decode mm_Ses_sendFile.2.1 29 = .ok (.aaload, 1) := by decide +kernel
theorem d_Ses_sendFile_30 : decode mm_Ses_sendFile.2.1 30 = .ok (.astore_n 1, 1) := by decide +kernel
theorem d_Ses_sendFile_31 : decode mm_Ses_sendFile.2.1 31 = .ok (.aload_n 1, 1) := by decide +kernel
theorem d_Ses_sendFile_32 : decode mm_Ses_sendFile.2.1 32 = .ok (.getfield 342, 3) := by decide +kernel
theorem d_Ses_sendFile_35 : decode mm_Ses_sendFile.2.1 35 = .ok (.ifCond .eq 7, 3) := by decide +kernel
theorem d_Ses_sendFile_38 : decode mm_Ses_sendFile.2.1 38 = .ok (.sipush 450, 3) := by decide +kernel
theorem d_Ses_sendFile_41 : decode mm_Ses_sendFile.2.1 41 = .ok (.ireturn, 1) := by decide +kernel
theorem d_Ses_sendFile_42 : decode mm_Ses_sendFile.2.1 42 = .ok (.aload_n 0, 1) := by decide +kernel
theorem d_Ses_sendFile_43 : decode mm_Ses_sendFile.2.1 43 = .ok (.getfield 45, 3) := by decide +kernel
theorem d_Ses_sendFile_46 : decode mm_Ses_sendFile.2.1 46 = .ok (.getfield 278, 3) := by decide +kernel
theorem d_Ses_sendFile_49 : decode mm_Ses_sendFile.2.1 49 = .ok (.ifCond .ne 7, 3) := by decide +kernel
theorem d_Ses_sendFile_52 : decode mm_Ses_sendFile.2.1 52 = .ok (.sipush 425, 3) := by decide +kernel
theorem d_Ses_sendFile_55 : decode mm_Ses_sendFile.2.1 55 = .ok (.ireturn, 1) := by decide +kernel
theorem d_Ses_sendFile_56 : decode mm_Ses_sendFile.2.1 56 = .ok (.aload_n 0, 1) := by decide +kernel
theorem d_Ses_sendFile_57 : decode mm_Ses_sendFile.2.1 57 = .ok (.getfield 134, 3) := by decide +kernel
theorem d_Ses_sendFile_60 : decode mm_Ses_sendFile.2.1 60 = .ok (.aload_n 1, 1) := by decide +kernel
theorem d_Ses_sendFile_61 : decode mm_Ses_sendFile.2.1 61 = .ok (.getfield 335, 3) := by decide +kernel
theorem d_Ses_sendFile_64 : decode mm_Ses_sendFile.2.1 64 = .ok (.getfield 339, 3) := by decide +kernel
theorem d_Ses_sendFile_67 : decode mm_Ses_sendFile.2.1 67 = .ok (.if_icmp .le 7, 3) := by decide +kernel
theorem d_Ses_sendFile_70 : decode mm_Ses_sendFile.2.1 70 = .ok (.sipush 554, 3) := by decide +kernel
theorem d_Ses_sendFile_73 : decode mm_Ses_sendFile.2.1 73 = .ok (.ireturn, 1) := by decide +kernel
theorem d_Ses_sendFile_74 : decode mm_Ses_sendFile.2.1 74 = .ok (.aload_n 0, 1) := by decide +kernel
theorem d_Ses_sendFile_75 : decode mm_Ses_sendFile.2.1 75 = .ok (.getfield 45, 3) := by decide +kernel
theorem d_Ses_sendFile_78 : decode mm_Ses_sendFile.2.1 78 = .ok (.aload_n 1, 1) := by decide +kernel
theorem d_Ses_sendFile_79 : decode mm_Ses_sendFile.2.1 79 = .ok (.aload_n 0, 1) := by decide +kernel
theorem d_Ses_sendFile_80 : decode mm_Ses_sendFile.2.1 80 = .ok (.getfield 134, 3) := by decide +kernel
theorem d_Ses_sendFile_83 : decode mm_Ses_sendFile.2.1 83 = .ok (.aload_n 0, 1) := by decide +kernel
theorem d_Ses_sendFile_84 : decode mm_Ses_sendFile.2.1 84 = .ok (.getfield 127, 3) := by decide +kernel
theorem d_Ses_sendFile_87 : decode mm_Ses_sendFile.2.1 87 = .ok (.invokevirtual 345, 3) := by decide +kernel
theorem d_Ses_sendFile_90 : decode mm_Ses_sendFile.2.1 90 = .ok (.sipush 150, 3) := by decide +kernel
theorem d_Ses_sendFile_93 : decode mm_Ses_sendFile.2.1 93 = .ok (.ireturn, 1) := by decide +kernel
def wp_Ses_sendFile (x : Nat)  (M : MzM) (K : Int32 → MzM → Prop) : Prop := wp_Store_isFile  (mz_i M (8, x) 12) M (fun v4 M1 => ((¬ v4 = 0 → (∃ j5 : Nat, (mz_i M1 (8, x) 12).toInt = (j5 : Int) ∧ j5 < 16 ∧ (((mz_i M1 (3, j5) 5) = 0 → ((¬ (mz_i M1 (16, x) 0) = 0 → (((mz_i M1 (8, x) 11) ≤ (mz_i M1 (4, j5) 1) → wp_Way_sendFile x j5 (mz_i M1 (8, x) 11) (mz_i M1 (8, x) 8) M1 (fun M9 => K (150 : Int32) M9)) ∧ (¬ (mz_i M1 (8, x) 11) ≤ (mz_i M1 (4, j5) 1) → K (554 : Int32) M1))) ∧ ((mz_i M1 (16, x) 0) = 0 → K (425 : Int32) M1))) ∧ (¬ (mz_i M1 (3, j5) 5) = 0 → K (450 : Int32) M1)))) ∧ (v4 = 0 → K (550 : Int32) M1)))
theorem tm_Ses_sendFile {G : MzG} {B : MzB} {d : Nat} {K : Int32 → MzM → Prop} (hF : mzLive false B) {x : Nat} (hx : x < 2)  {M : MzM} (hL : mzLnk false M) (h : wp_Ses_sendFile x  M K) : MzC G B (d + 2) mm_Ses_sendFile [.ref (mz_ad B (8, x))] M (0, 0) (mzK1 false B K) := by
  unfold wp_Ses_sendFile at h
  exact MzC.of rfl (Nat.le_of_ble_eq_true rfl) (show MzS G B (d + 2) mm_Ses_sendFile M (0, 0) (mzK1 false B K) 0 [(0, .ref (mz_ad B (8, x)))] [] from (mz_aload_n d_Ses_sendFile_0 rfl (mz_getR (k := 1) (a := (1, 0)) cl_4 d_Ses_sendFile_1 (by decide) wf_Ses_15 rfl (hF 8 x rfl hx) rfl (hL (8, x) 1 (1, 0) rfl rfl hx) (mz_aload_n d_Ses_sendFile_4 rfl (mz_getI (k := 12) cl_4 d_Ses_sendFile_5 (by decide) wf_Ses_56 rfl (hF 8 x rfl hx) rfl (mz_callV (As := [.int (mz_i M (8, x) 12)]) (st := []) (hF 1 0 rfl (by decide)) rfl (mzClOf cl_1) 0 0 d_Ses_sendFile_8 cs_Store_isFile wl_Ses_332 wi_Store_isFile wse_Store_isFile (Nat.le_of_ble_eq_true rfl) (Nat.zero_le _) (Nat.zero_le _) (MzC.mono (tm_Store_isFile (d := (d + 1)) hF  hL h) (fun r9 B9 M1 hq3 => by obtain ⟨rfl, hL2, v4, rfl, hq3⟩ := hq3; exact ⟨_, rfl, (mz_if_ne 18 d_Ses_sendFile_11 rfl (fun hc15 => (mz_aload_n d_Ses_sendFile_18 rfl (mz_getR (k := 1) (a := (1, 0)) cl_4 d_Ses_sendFile_19 (by decide) wf_Ses_15 rfl (hF 8 x rfl hx) rfl (hL2 (8, x) 1 (1, 0) rfl rfl hx) (mz_getRN (k := 0) (a := (2, 0)) cl_1 d_Ses_sendFile_22 (by decide) wf_Ses_190 rfl (hF 1 0 rfl (by decide)) rfl (hL2 (1, 0) 0 (2, 0) rfl rfl (by decide)) (mz_aload_n d_Ses_sendFile_25 rfl (mz_getI (k := 12) cl_4 d_Ses_sendFile_26 (by decide) wf_Ses_56 rfl (hF 8 x rfl hx) rfl (match (hq3.1 hc15) with | ⟨j5, h6, h7, h8⟩ => mz_aald (a := (3, j5)) j5 d_Ses_sendFile_29 (hF 2 0 rfl (by decide)) rfl h6 h7 (hL2 (2, 0) j5 (3, j5) rfl (mzLk_2 h7) (by decide)) (mz_astore_n d_Ses_sendFile_30 (by decide) (mz_aload_n d_Ses_sendFile_31 rfl (mz_getIN (k := 5) cl_2 d_Ses_sendFile_32 (by decide) wf_Ses_342 rfl (hF 3 j5 rfl h7) rfl (mz_if_eq 42 d_Ses_sendFile_35 rfl (fun hc14 => (mz_aload_n d_Ses_sendFile_42 rfl (mz_getR (k := 5) (a := (16, x)) cl_4 d_Ses_sendFile_43 (by decide) wf_Ses_45 rfl (hF 8 x rfl hx) rfl (hL2 (8, x) 5 (16, x) rfl rfl hx) (mz_getIN (k := 0) cl_8 d_Ses_sendFile_46 (by decide) wf_Ses_278 rfl (hF 16 x rfl hx) rfl (mz_if_ne 56 d_Ses_sendFile_49 rfl (fun hc13 => (mz_aload_n d_Ses_sendFile_56 rfl (mz_getI (k := 11) cl_4 d_Ses_sendFile_57 (by decide) wf_Ses_134 rfl (hF 8 x rfl hx) rfl (mz_aload_n d_Ses_sendFile_60 rfl (mz_getRN (k := 0) (a := (4, j5)) cl_2 d_Ses_sendFile_61 (by decide) wf_Ses_335 rfl (hF 3 j5 rfl h7) rfl (hL2 (3, j5) 0 (4, j5) rfl rfl h7) (mz_getIN (k := 1) cl_3 d_Ses_sendFile_64 (by decide) wf_Ses_339 rfl (hF 4 j5 rfl h7) rfl (mz_icmp_le 74 d_Ses_sendFile_67 rfl (fun hc12 => (mz_aload_n d_Ses_sendFile_74 rfl (mz_getR (k := 5) (a := (16, x)) cl_4 d_Ses_sendFile_75 (by decide) wf_Ses_45 rfl (hF 8 x rfl hx) rfl (hL2 (8, x) 5 (16, x) rfl rfl hx) (mz_aload_n d_Ses_sendFile_78 rfl (mz_aload_n d_Ses_sendFile_79 rfl (mz_getI (k := 11) cl_4 d_Ses_sendFile_80 (by decide) wf_Ses_134 rfl (hF 8 x rfl hx) rfl (mz_aload_n d_Ses_sendFile_83 rfl (mz_getI (k := 8) cl_4 d_Ses_sendFile_84 (by decide) wf_Ses_127 rfl (hF 8 x rfl hx) rfl (mz_callV (As := [.ref (mz_ad B (3, j5)), .int (mz_i M1 (8, x) 11), .int (mz_i M1 (8, x) 8)]) (st := []) (hF 16 x rfl hx) rfl (mzClOf cl_8) 0 0 d_Ses_sendFile_87 cs_Way_sendFile wl_Ses_345 wi_Way_sendFile wse_Way_sendFile (Nat.le_of_ble_eq_true rfl) (Nat.zero_le _) (Nat.zero_le _) (MzC.mono (tm_Way_sendFile (d := d) hF hx h7 hL2 (((h8.1 hc14).1 hc13).1 hc12)) (fun r9 B9 M9 hq11 => by obtain ⟨rfl, hL10, rfl, hq11⟩ := hq11; exact ⟨none, rfl, (mz_sipush (150 : Int32) d_Ses_sendFile_90 (by decide) (mz_iret .int d_Ses_sendFile_93 rfl rfl ⟨rfl, hL10, _, rfl, hq11⟩))⟩))))))))))) (fun hc12 => (mz_sipush (554 : Int32) d_Ses_sendFile_70 (by decide) (mz_iret .int d_Ses_sendFile_73 rfl rfl ⟨rfl, hL2, _, rfl, (((h8.1 hc14).1 hc13).2 hc12)⟩)))))))))) (fun hc13 => (mz_sipush (425 : Int32) d_Ses_sendFile_52 (by decide) (mz_iret .int d_Ses_sendFile_55 rfl rfl ⟨rfl, hL2, _, rfl, ((h8.1 hc14).2 hc13)⟩)))))))) (fun hc14 => (mz_sipush (450 : Int32) d_Ses_sendFile_38 (by decide) (mz_iret .int d_Ses_sendFile_41 rfl rfl ⟨rfl, hL2, _, rfl, (h8.2 hc14)⟩)))))))))))))) (fun hc15 => (mz_sipush (550 : Int32) d_Ses_sendFile_14 (by decide) (mz_iret .int d_Ses_sendFile_17 rfl rfl ⟨rfl, hL2, _, rfl, (hq3.2 hc15)⟩))))⟩))))))))
def mm_Node_isBusy : MzT := (⟨"ParcelLine$Node", "isBusy", "()Z"⟩, prog_8_method_3_code, 1, (Option.some Jvm.ClassFile.FieldType.boolean))
theorem cs_Node_isBusy {mm : MzT} : mzCall mm mm_Node_isBusy 0 := ⟨wn_Node, wco_Node_isBusy, by decide +kernel, by decide⟩
theorem d_Node_isBusy_0 : decode mm_Node_isBusy.2.1 0 = .ok (.aload_n 0, 1) := by decide +kernel
theorem d_Node_isBusy_1 : decode mm_Node_isBusy.2.1 1 = .ok (.getfield 25, 3) := by decide +kernel
theorem d_Node_isBusy_4 : decode mm_Node_isBusy.2.1 4 = .ok (.ifCond .ne 10, 3) := by decide +kernel
theorem d_Node_isBusy_7 : decode mm_Node_isBusy.2.1 7 = .ok (.aload_n 0, 1) := by decide +kernel
theorem d_Node_isBusy_8 : decode mm_Node_isBusy.2.1 8 = .ok (.getfield 29, 3) := by decide +kernel
theorem d_Node_isBusy_11 : decode mm_Node_isBusy.2.1 11 = .ok (.ifCond .le 7, 3) := by decide +kernel
theorem d_Node_isBusy_14 : decode mm_Node_isBusy.2.1 14 = .ok (.iconst 1, 1) := by decide +kernel
theorem d_Node_isBusy_15 : decode mm_Node_isBusy.2.1 15 = .ok (.goto 4, 3) := by decide +kernel
theorem d_Node_isBusy_18 : decode mm_Node_isBusy.2.1 18 = .ok (.iconst 0, 1) := by decide +kernel
theorem d_Node_isBusy_19 : decode mm_Node_isBusy.2.1 19 = .ok (.ireturn, 1) := by decide +kernel
def wp_Node_isBusy (n : Nat)  (M : MzM) (K : Int32 → MzM → Prop) : Prop := ((¬ (mz_i M (3, n) 5) = 0 → K (1 : Int32) M) ∧ ((mz_i M (3, n) 5) = 0 → (((mz_i M (3, n) 4) ≤ 0 → K (0 : Int32) M) ∧ (¬ (mz_i M (3, n) 4) ≤ 0 → K (1 : Int32) M))))
theorem tm_Node_isBusy {G : MzG} {B : MzB} {d : Nat} {K : Int32 → MzM → Prop} (hF : mzLive false B) {n : Nat} (hn : n < 16)  {M : MzM} (hL : mzLnk false M) (h : wp_Node_isBusy n  M K) : MzC G B d mm_Node_isBusy [.ref (mz_ad B (3, n))] M (0, 0) (mzK1 false B K) := by
  unfold wp_Node_isBusy at h
  exact MzC.of rfl (Nat.le_of_ble_eq_true rfl) (show MzS G B d mm_Node_isBusy M (0, 0) (mzK1 false B K) 0 [(0, .ref (mz_ad B (3, n)))] [] from (mz_aload_n d_Node_isBusy_0 rfl (mz_getI (k := 5) cl_2 d_Node_isBusy_1 (by decide) wf_Node_25 rfl (hF 3 n rfl hn) rfl (mz_if_ne 14 d_Node_isBusy_4 rfl (fun hc2 => (mz_iconst (1 : Int32) d_Node_isBusy_14 (by decide) (mz_goto 19 d_Node_isBusy_15 rfl (mz_iret .boolean d_Node_isBusy_19 rfl rfl ⟨rfl, hL, _, rfl, (h.1 hc2)⟩)))) (fun hc2 => (mz_aload_n d_Node_isBusy_7 rfl (mz_getI (k := 4) cl_2 d_Node_isBusy_8 (by decide) wf_Node_29 rfl (hF 3 n rfl hn) rfl (mz_if_le 18 d_Node_isBusy_11 rfl (fun hc1 => (mz_iconst (0 : Int32) d_Node_isBusy_18 (by decide) (mz_iret .boolean d_Node_isBusy_19 rfl rfl ⟨rfl, hL, _, rfl, ((h.2 hc2).1 hc1)⟩))) (fun hc1 => (mz_iconst (1 : Int32) d_Node_isBusy_14 (by decide) (mz_goto 19 d_Node_isBusy_15 rfl (mz_iret .boolean d_Node_isBusy_19 rfl rfl ⟨rfl, hL, _, rfl, ((h.2 hc2).2 hc1)⟩))))))))))))
def mm_Ses_targetSize : MzT := (⟨"ParcelLine$Session", "targetSize", "()I"⟩, prog_11_method_22_code, 1, (Option.some Jvm.ClassFile.FieldType.int))
theorem cs_Ses_targetSize {mm : MzT} : mzCall mm mm_Ses_targetSize 0 := ⟨wn_Ses, wco_Ses_targetSize, by decide +kernel, by decide⟩
theorem d_Ses_targetSize_0 : decode mm_Ses_targetSize.2.1 0 = .ok (.aload_n 0, 1) := by decide +kernel
theorem d_Ses_targetSize_1 : decode mm_Ses_targetSize.2.1 1 = .ok (.getfield 15, 3) := by decide +kernel
theorem d_Ses_targetSize_4 : decode mm_Ses_targetSize.2.1 4 = .ok (.aload_n 0, 1) := by decide +kernel
theorem d_Ses_targetSize_5 : decode mm_Ses_targetSize.2.1 5 = .ok (.getfield 56, 3) := by decide +kernel
theorem d_Ses_targetSize_8 : decode mm_Ses_targetSize.2.1 8 = .ok (.invokevirtual 332, 3) := by decide +kernel
theorem d_Ses_targetSize_11 : decode mm_Ses_targetSize.2.1 11 = .ok (.ifCond .eq 24, 3) := by decide +kernel
theorem d_Ses_targetSize_14 : decode mm_Ses_targetSize.2.1 14 = .ok (.aload_n 0, 1) := by decide +kernel
theorem d_Ses_targetSize_15 : decode mm_Ses_targetSize.2.1 15 = .ok (.getfield 15, 3) := by decide +kernel
theorem d_Ses_targetSize_18 : decode mm_Ses_targetSize.2.1 18 = .ok (.getfield 190, 3) := by decide +kernel
theorem d_Ses_targetSize_21 : decode mm_Ses_targetSize.2.1 21 = .ok (.aload_n 0, 1) := by decide +kernel
theorem d_Ses_targetSize_22 : decode mm_Ses_targetSize.2.1 22 = .ok (.getfield 56, 3) := by decide +kernel
theorem d_Ses_targetSize_25 : decode mm_Ses_targetSize.2.1 25 = .ok (.aaload, 1) := by decide +kernel
theorem d_Ses_targetSize_26 : decode mm_Ses_targetSize.2.1 26 = .ok (.getfield 335, 3) := by decide +kernel
theorem d_Ses_targetSize_29 : decode mm_Ses_targetSize.2.1 29 = .ok (.getfield 339, 3) := by decide +kernel
theorem d_Ses_targetSize_32 : decode mm_Ses_targetSize.2.1 32 = .ok (.goto 4, 3) := by decide +kernel
theorem d_Ses_targetSize_35 : decode mm_Ses_targetSize.2.1 35 = .ok (.iconst 0, 1) := by decide +kernel
theorem d_Ses_targetSize_36 : decode mm_Ses_targetSize.2.1 36 = .ok (.ireturn, 1) := by decide +kernel
def wp_Ses_targetSize (x : Nat)  (M : MzM) (K : Int32 → MzM → Prop) : Prop := wp_Store_isFile  (mz_i M (8, x) 12) M (fun v4 M1 => ((v4 = 0 → K (0 : Int32) M1) ∧ (¬ v4 = 0 → (∃ j5 : Nat, (mz_i M1 (8, x) 12).toInt = (j5 : Int) ∧ j5 < 16 ∧ K (mz_i M1 (4, j5) 1) M1))))
theorem tm_Ses_targetSize {G : MzG} {B : MzB} {d : Nat} {K : Int32 → MzM → Prop} (hF : mzLive false B) {x : Nat} (hx : x < 2)  {M : MzM} (hL : mzLnk false M) (h : wp_Ses_targetSize x  M K) : MzC G B (d + 1) mm_Ses_targetSize [.ref (mz_ad B (8, x))] M (0, 0) (mzK1 false B K) := by
  unfold wp_Ses_targetSize at h
  exact MzC.of rfl (Nat.le_of_ble_eq_true rfl) (show MzS G B (d + 1) mm_Ses_targetSize M (0, 0) (mzK1 false B K) 0 [(0, .ref (mz_ad B (8, x)))] [] from (mz_aload_n d_Ses_targetSize_0 rfl (mz_getR (k := 1) (a := (1, 0)) cl_4 d_Ses_targetSize_1 (by decide) wf_Ses_15 rfl (hF 8 x rfl hx) rfl (hL (8, x) 1 (1, 0) rfl rfl hx) (mz_aload_n d_Ses_targetSize_4 rfl (mz_getI (k := 12) cl_4 d_Ses_targetSize_5 (by decide) wf_Ses_56 rfl (hF 8 x rfl hx) rfl (mz_callV (As := [.int (mz_i M (8, x) 12)]) (st := []) (hF 1 0 rfl (by decide)) rfl (mzClOf cl_1) 0 0 d_Ses_targetSize_8 cs_Store_isFile wl_Ses_332 wi_Store_isFile wse_Store_isFile (Nat.le_of_ble_eq_true rfl) (Nat.zero_le _) (Nat.zero_le _) (MzC.mono (tm_Store_isFile (d := d) hF  hL h) (fun r9 B9 M1 hq3 => by obtain ⟨rfl, hL2, v4, rfl, hq3⟩ := hq3; exact ⟨_, rfl, (mz_if_eq 35 d_Ses_targetSize_11 rfl (fun hc9 => (mz_iconst (0 : Int32) d_Ses_targetSize_35 (by decide) (mz_iret .int d_Ses_targetSize_36 rfl rfl ⟨rfl, hL2, _, rfl, (hq3.1 hc9)⟩))) (fun hc9 => (mz_aload_n d_Ses_targetSize_14 rfl (mz_getR (k := 1) (a := (1, 0)) cl_4 d_Ses_targetSize_15 (by decide) wf_Ses_15 rfl (hF 8 x rfl hx) rfl (hL2 (8, x) 1 (1, 0) rfl rfl hx) (mz_getRN (k := 0) (a := (2, 0)) cl_1 d_Ses_targetSize_18 (by decide) wf_Ses_190 rfl (hF 1 0 rfl (by decide)) rfl (hL2 (1, 0) 0 (2, 0) rfl rfl (by decide)) (mz_aload_n d_Ses_targetSize_21 rfl (mz_getI (k := 12) cl_4 d_Ses_targetSize_22 (by decide) wf_Ses_56 rfl (hF 8 x rfl hx) rfl (match (hq3.2 hc9) with | ⟨j5, h6, h7, h8⟩ => mz_aald (a := (3, j5)) j5 d_Ses_targetSize_25 (hF 2 0 rfl (by decide)) rfl h6 h7 (hL2 (2, 0) j5 (3, j5) rfl (mzLk_2 h7) (by decide)) (mz_getRN (k := 0) (a := (4, j5)) cl_2 d_Ses_targetSize_26 (by decide) wf_Ses_335 rfl (hF 3 j5 rfl h7) rfl (hL2 (3, j5) 0 (4, j5) rfl rfl h7) (mz_getIN (k := 1) cl_3 d_Ses_targetSize_29 (by decide) wf_Ses_339 rfl (hF 4 j5 rfl h7) rfl (mz_goto 36 d_Ses_targetSize_32 rfl (mz_iret .int d_Ses_targetSize_36 rfl rfl ⟨rfl, hL2, _, rfl, h8⟩))))))))))))⟩))))))))
def mm_Store_make : MzT := (⟨"ParcelLine$Store", "make", "(III)I"⟩, prog_12_method_9_code, 6, (Option.some Jvm.ClassFile.FieldType.int))
theorem cs_Store_make {mm : MzT} : mzCall mm mm_Store_make 3 := ⟨wn_Store, wco_Store_make, by decide +kernel, by decide⟩
theorem d_Store_make_0 : decode mm_Store_make.2.1 0 = .ok (.iconst 1, 1) := by decide +kernel
theorem d_Store_make_1 : decode mm_Store_make.2.1 1 = .ok (.istore 4, 2) := by decide +kernel
theorem d_Store_make_3 : decode mm_Store_make.2.1 3 = .ok (.iload 4, 2) := by decide +kernel
theorem d_Store_make_5 : decode mm_Store_make.2.1 5 = .ok (.bipush 16, 2) := by decide +kernel
theorem d_Store_make_7 : decode mm_Store_make.2.1 7 = .ok (.if_icmp .ge 62, 3) := by decide +kernel
theorem d_Store_make_10 : decode mm_Store_make.2.1 10 = .ok (.aload_n 0, 1) := by decide +kernel
theorem d_Store_make_11 : decode mm_Store_make.2.1 11 = .ok (.getfield 11, 3) := by decide +kernel
theorem d_Store_make_14 : decode mm_Store_make.2.1 14 = .ok (.iload 4, 2) := by decide +kernel
theorem d_Store_make_16 : decode mm_Store_make.2.1 16 = .ok (.aaload, 1) := by decide +kernel
theorem d_Store_make_17 : decode mm_Store_make.2.1 17 = .ok (.astore 5, 2) := by decide +kernel
theorem d_Store_make_19 : decode mm_Store_make.2.1 19 = .ok (.aload 5, 2) := by decide +kernel
theorem d_Store_make_21 : decode mm_Store_make.2.1 21 = .ok (.getfield 18, 3) := by decide +kernel
theorem d_Store_make_24 : decode mm_Store_make.2.1 24 = .ok (.ifCond .ne 39, 3) := by decide +kernel
theorem d_Store_make_27 : decode mm_Store_make.2.1 27 = .ok (.aload 5, 2) := by decide +kernel
theorem d_Store_make_29 : decode mm_Store_make.2.1 29 = .ok (.iload_n 1, 1) := by decide +kernel
theorem d_Store_make_30 : decode mm_Store_make.2.1 30 = .ok (.putfield 18, 3) := by decide +kernel
theorem d_Store_make_33 : decode mm_Store_make.2.1 33 = .ok (.aload 5, 2) := by decide +kernel
theorem d_Store_make_35 : decode mm_Store_make.2.1 35 = .ok (.iload_n 2, 1) := by decide +kernel
theorem d_Store_make_36 : decode mm_Store_make.2.1 36 = .ok (.putfield 22, 3) := by decide +kernel
theorem d_Store_make_39 : decode mm_Store_make.2.1 39 = .ok (.aload 5, 2) := by decide +kernel
theorem d_Store_make_41 : decode mm_Store_make.2.1 41 = .ok (.iload_n 3, 1) := by decide +kernel
theorem d_Store_make_42 : decode mm_Store_make.2.1 42 = .ok (.putfield 36, 3) := by decide +kernel
theorem d_Store_make_45 : decode mm_Store_make.2.1 45 = .ok (.aload 5, 2) := by decide +kernel
theorem d_Store_make_47 : decode mm_Store_make.2.1 47 = .ok (.getfield 58, 3) := by decide +kernel
theorem d_Store_make_50 : decode mm_Store_make.2.1 50 = .ok (.iconst 0, 1) := by decide +kernel
theorem d_Store_make_51 : decode mm_Store_make.2.1 51 = .ok (.putfield 62, 3) := by decide +kernel
theorem d_Store_make_54 : decode mm_Store_make.2.1 54 = .ok (.aload 5, 2) := by decide +kernel
theorem d_Store_make_56 : decode mm_Store_make.2.1 56 = .ok (.iconst 0, 1) := by decide +kernel
theorem d_Store_make_57 : decode mm_Store_make.2.1 57 = .ok (.putfield 65, 3) := by decide +kernel
theorem d_Store_make_60 : decode mm_Store_make.2.1 60 = .ok (.iload 4, 2) := by decide +kernel
theorem d_Store_make_62 : decode mm_Store_make.2.1 62 = .ok (.ireturn, 1) := by decide +kernel
theorem d_Store_make_63 : decode mm_Store_make.2.1 63 = .ok (.iinc 4 1, 3) := by decide +kernel
theorem d_Store_make_66 : decode mm_Store_make.2.1 66 = .ok (.goto (-63), 3) := by decide +kernel
theorem d_Store_make_69 : decode mm_Store_make.2.1 69 = .ok (.iconst (-1), 1) := by decide +kernel
theorem d_Store_make_70 : decode mm_Store_make.2.1 70 = .ok (.ireturn, 1) := by decide +kernel
def wp_Store_make_3   (K : Int32 → MzM → Prop) : Nat → Int32 → Int32 → Int32 → Int32 → MzM → Prop
  | 0, _, _, _, _, _ => False
  | r0 + 1, y1, y2, y3, y4, M => (((16 : Int32) ≤ y4 → K (-1 : Int32) M) ∧ (¬ (16 : Int32) ≤ y4 → (∃ j3 : Nat, y4.toInt = (j3 : Int) ∧ j3 < 16 ∧ ((¬ (mz_i M (3, j3) 1) = 0 → (wp_Store_make_3   K r0) y1 y2 y3 (y4 + (1 : Int32)) M) ∧ ((mz_i M (3, j3) 1) = 0 → (∀ M7 : MzM, M7 = mz_si M (3, j3) 1 y1 → (∀ M8 : MzM, M8 = mz_si M7 (3, j3) 2 y2 → (∀ M9 : MzM, M9 = mz_si M8 (3, j3) 3 y3 → (∀ M10 : MzM, M10 = mz_si M9 (4, j3) 1 (0 : Int32) → (∀ M11 : MzM, M11 = mz_si M10 (3, j3) 6 (0 : Int32) → K y4 M11))))))))))
def wp_Store_make  (a1 : Int32) (a2 : Int32) (a3 : Int32) (M : MzM) (K : Int32 → MzM → Prop) : Prop := (∃ r1 : Nat, wp_Store_make_3   K r1 a1 a2 a3 (1 : Int32) M)
theorem tm_Store_make_3 {G : MzG} {B : MzB} {d : Nat} {K : Int32 → MzM → Prop} (hF : mzLive false B)     : ∀ (r0 : Nat) (y1 : Int32) (y2 : Int32) (y3 : Int32) (y4 : Int32) (M : MzM), mzLnk false M → wp_Store_make_3   K r0 y1 y2 y3 y4 M → MzS G B d mm_Store_make M (0, 0) (mzK1 false B K) 3 [(0, .ref (mz_ad B (1, 0))), (1, .int y1), (2, .int y2), (3, .int y3), (4, .int y4)] [] := by
  intro r0
  induction r0 with
  | zero => intro y1 y2 y3 y4 M hL h; exact False.elim h
  | succ r0 hH3 =>
    intro y1 y2 y3 y4 M hL h
    unfold wp_Store_make_3 at h
    exact (mz_iload d_Store_make_3 rfl (mz_bipush (16 : Int32) d_Store_make_5 (by decide) (mz_icmp_ge 69 d_Store_make_7 rfl (fun hc13 => (mz_iconst (-1 : Int32) d_Store_make_69 (by decide) (mz_iret .int d_Store_make_70 rfl rfl ⟨rfl, hL, _, rfl, (h.1 hc13)⟩))) (fun hc13 => (mz_aload_n d_Store_make_10 rfl (mz_getR (k := 0) (a := (2, 0)) cl_1 d_Store_make_11 (by decide) wf_Store_11 rfl (hF 1 0 rfl (by decide)) rfl (hL (1, 0) 0 (2, 0) rfl rfl (by decide)) (mz_iload d_Store_make_14 rfl (match (h.2 hc13) with | ⟨j3, h4, h5, h6⟩ => mz_aald (a := (3, j3)) j3 d_Store_make_16 (hF 2 0 rfl (by decide)) rfl h4 h5 (hL (2, 0) j3 (3, j3) rfl (mzLk_2 h5) (by decide)) (mz_astore d_Store_make_17 (by decide) (mz_aload d_Store_make_19 rfl (mz_getIN (k := 1) cl_2 d_Store_make_21 (by decide) wf_Store_18 rfl (hF 3 j3 rfl h5) rfl (mz_if_ne 63 d_Store_make_24 rfl (fun hc12 => (mz_iinc (y4 + (1 : Int32)) d_Store_make_63 rfl (by decide) rfl (mz_goto 3 d_Store_make_66 rfl (MzS.loc [(0, .ref (mz_ad B (1, 0))), (1, .int y1), (2, .int y2), (3, .int y3), (4, .int (y4 + (1 : Int32)))] ⟨rfl, rfl, rfl, rfl, rfl, trivial⟩ (hH3 y1 y2 y3 (y4 + (1 : Int32)) M hL (h6.1 hc12)))))) (fun hc12 => (mz_aload d_Store_make_27 rfl (mz_iload_n d_Store_make_29 rfl (mz_putIN (k := 1) cl_2 d_Store_make_30 (by decide) wf_Store_18 rfl rfl rfl rfl (hF 3 j3 rfl h5) rfl (let M7 : MzM := mz_si M (3, j3) 1 y1; (mz_aload d_Store_make_33 rfl (mz_iload_n d_Store_make_35 rfl (mz_putIN (k := 2) cl_2 d_Store_make_36 (by decide) wf_Store_22 rfl rfl rfl rfl (hF 3 j3 rfl h5) rfl (let M8 : MzM := mz_si M7 (3, j3) 2 y2; (mz_aload d_Store_make_39 rfl (mz_iload_n d_Store_make_41 rfl (mz_putIN (k := 3) cl_2 d_Store_make_42 (by decide) wf_Store_36 rfl rfl rfl rfl (hF 3 j3 rfl h5) rfl (let M9 : MzM := mz_si M8 (3, j3) 3 y3; (mz_aload d_Store_make_45 rfl (mz_getRN (k := 0) (a := (4, j3)) cl_2 d_Store_make_47 (by decide) wf_Store_58 rfl (hF 3 j3 rfl h5) rfl (hL (3, j3) 0 (4, j3) rfl rfl h5) (mz_iconst (0 : Int32) d_Store_make_50 (by decide) (mz_putIN (k := 1) cl_3 d_Store_make_51 (by decide) wf_Store_62 rfl rfl rfl rfl (hF 4 j3 rfl h5) rfl (let M10 : MzM := mz_si M9 (4, j3) 1 (0 : Int32); (mz_aload d_Store_make_54 rfl (mz_iconst (0 : Int32) d_Store_make_56 (by decide) (mz_putIN (k := 6) cl_2 d_Store_make_57 (by decide) wf_Store_65 rfl rfl rfl rfl (hF 3 j3 rfl h5) rfl (let M11 : MzM := mz_si M10 (3, j3) 6 (0 : Int32); (mz_iload d_Store_make_60 rfl (mz_iret .int d_Store_make_62 rfl rfl ⟨rfl, hL, _, rfl, ((((((h6.2 hc12) M7 rfl) M8 rfl) M9 rfl) M10 rfl) M11 rfl)⟩))))))))))))))))))))))))))))))))))))
theorem tm_Store_make {G : MzG} {B : MzB} {d : Nat} {K : Int32 → MzM → Prop} (hF : mzLive false B)   {a1 : Int32} {a2 : Int32} {a3 : Int32} {M : MzM} (hL : mzLnk false M) (h : wp_Store_make  a1 a2 a3 M K) : MzC G B d mm_Store_make [.ref (mz_ad B (1, 0)), .int a1, .int a2, .int a3] M (0, 0) (mzK1 false B K) := by
  unfold wp_Store_make at h
  exact MzC.of rfl (Nat.le_of_ble_eq_true rfl) (show MzS G B d mm_Store_make M (0, 0) (mzK1 false B K) 0 [(0, .ref (mz_ad B (1, 0))), (1, .int a1), (2, .int a2), (3, .int a3)] [] from (mz_iconst (1 : Int32) d_Store_make_0 (by decide) (mz_istore d_Store_make_1 (by decide) (MzS.loc [(0, .ref (mz_ad B (1, 0))), (1, .int a1), (2, .int a2), (3, .int a3), (4, .int (1 : Int32))] ⟨rfl, rfl, rfl, rfl, rfl, trivial⟩ (match h with | ⟨r1, h2⟩ => tm_Store_make_3 hF   r1 a1 a2 a3 (1 : Int32) M hL h2)))))
def mm_Way_receiveFile : MzT := (⟨"ParcelLine$DataWay", "receiveFile", "(LParcelLine$Node;IZ)V"⟩, prog_6_method_6_code, 4, (Option.none : Option Jvm.ClassFile.FieldType))
theorem cs_Way_receiveFile {mm : MzT} : mzCall mm mm_Way_receiveFile 3 := ⟨wn_Way, wco_Way_receiveFile, by decide +kernel, by decide⟩
theorem d_Way_receiveFile_0 : decode mm_Way_receiveFile.2.1 0 = .ok (.aload_n 0, 1) := by decide +kernel
theorem d_Way_receiveFile_1 : decode mm_Way_receiveFile.2.1 1 = .ok (.iconst 2, 1) := by decide +kernel
theorem d_Way_receiveFile_2 : decode mm_Way_receiveFile.2.1 2 = .ok (.putfield 19, 3) := by decide +kernel
theorem d_Way_receiveFile_5 : decode mm_Way_receiveFile.2.1 5 = .ok (.aload_n 0, 1) := by decide +kernel
theorem d_Way_receiveFile_6 : decode mm_Way_receiveFile.2.1 6 = .ok (.aload_n 1, 1) := by decide +kernel
theorem d_Way_receiveFile_7 : decode mm_Way_receiveFile.2.1 7 = .ok (.putfield 22, 3) := by decide +kernel
theorem d_Way_receiveFile_10 : decode mm_Way_receiveFile.2.1 10 = .ok (.aload_n 0, 1) := by decide +kernel
theorem d_Way_receiveFile_11 : decode mm_Way_receiveFile.2.1 11 = .ok (.iload_n 3, 1) := by decide +kernel
theorem d_Way_receiveFile_12 : decode mm_Way_receiveFile.2.1 12 = .ok (.putfield 48, 3) := by decide +kernel
theorem d_Way_receiveFile_15 : decode mm_Way_receiveFile.2.1 15 = .ok (.aload_n 1, 1) := by decide +kernel
theorem d_Way_receiveFile_16 : decode mm_Way_receiveFile.2.1 16 = .ok (.iconst 1, 1) := by decide +kernel
theorem d_Way_receiveFile_17 : decode mm_Way_receiveFile.2.1 17 = .ok (.putfield 52, 3) := by decide +kernel
theorem d_Way_receiveFile_20 : decode mm_Way_receiveFile.2.1 20 = .ok (.aload_n 1, 1) := by decide +kernel
theorem d_Way_receiveFile_21 : decode mm_Way_receiveFile.2.1 21 = .ok (.iconst 1, 1) := by decide +kernel
theorem d_Way_receiveFile_22 : decode mm_Way_receiveFile.2.1 22 = .ok (.putfield 55, 3) := by decide +kernel
theorem d_Way_receiveFile_25 : decode mm_Way_receiveFile.2.1 25 = .ok (.aload_n 1, 1) := by decide +kernel
theorem d_Way_receiveFile_26 : decode mm_Way_receiveFile.2.1 26 = .ok (.getfield 31, 3) := by decide +kernel
theorem d_Way_receiveFile_29 : decode mm_Way_receiveFile.2.1 29 = .ok (.iload_n 2, 1) := by decide +kernel
theorem d_Way_receiveFile_30 : decode mm_Way_receiveFile.2.1 30 = .ok (.putfield 35, 3) := by decide +kernel
theorem d_Way_receiveFile_33 : decode mm_Way_receiveFile.2.1 33 = .ok (.return_, 1) := by decide +kernel
def wp_Way_receiveFile (x : Nat) (p1 : Nat) (a2 : Int32) (a3 : Int32) (M : MzM) (K : MzM → Prop) : Prop := (∀ M1 : MzM, M1 = mz_si M (16, x) 1 (2 : Int32) → (∀ M2 : MzM, M2 = mz_sr M1 (16, x) 4 (some (3, p1)) → ((a3 = 0 ∨ a3 = 1) ∧ ∀ M4 : MzM, M4 = mz_si M2 (16, x) 2 a3 → (∀ M5 : MzM, M5 = mz_si M4 (3, p1) 5 (1 : Int32) → (∀ M6 : MzM, M6 = mz_si M5 (3, p1) 6 (1 : Int32) → (∀ M7 : MzM, M7 = mz_si M6 (4, p1) 1 a2 → K M7))))))
theorem tm_Way_receiveFile {G : MzG} {B : MzB} {d : Nat} {K : MzM → Prop} (hF : mzLive false B) {x : Nat} {p1 : Nat} (hx : x < 2) (hp1 : p1 < 16) {a2 : Int32} {a3 : Int32} {M : MzM} (hL : mzLnk false M) (h : wp_Way_receiveFile x p1 a2 a3 M K) : MzC G B d mm_Way_receiveFile [.ref (mz_ad B (16, x)), .ref (mz_ad B (3, p1)), .int a2, .int a3] M (0, 0) (mzK0 false B K) := by
  unfold wp_Way_receiveFile at h
  exact MzC.of rfl (Nat.le_of_ble_eq_true rfl) (show MzS G B d mm_Way_receiveFile M (0, 0) (mzK0 false B K) 0 [(0, .ref (mz_ad B (16, x))), (1, .ref (mz_ad B (3, p1))), (2, .int a2), (3, .int a3)] [] from (mz_aload_n d_Way_receiveFile_0 rfl (mz_iconst (2 : Int32) d_Way_receiveFile_1 (by decide) (mz_putI (k := 1) cl_8 d_Way_receiveFile_2 (by decide) wf_Way_19 rfl rfl rfl rfl (hF 16 x rfl hx) rfl (let M1 : MzM := mz_si M (16, x) 1 (2 : Int32); (mz_aload_n d_Way_receiveFile_5 rfl (mz_aload_n d_Way_receiveFile_6 rfl (mz_putR (k := 4) (x := (some (3, p1))) cl_8 d_Way_receiveFile_7 (by decide) wf_Way_22 rfl rfl rfl rfl (hF 16 x rfl hx) rfl (have hL3 := mzLnk.sr (k := 4) (x := (some (3, p1))) (i := (16, x)) hL rfl; let M2 : MzM := mz_sr M1 (16, x) 4 (some (3, p1)); (mz_aload_n d_Way_receiveFile_10 rfl (mz_iload_n d_Way_receiveFile_11 rfl (mz_putI (k := 2) cl_8 d_Way_receiveFile_12 (by decide) wf_Way_48 rfl rfl (mz_bo ((h M1 rfl) M2 rfl).1).1 (mz_bo ((h M1 rfl) M2 rfl).1).2 (hF 16 x rfl hx) rfl (let M4 : MzM := mz_si M2 (16, x) 2 a3; (mz_aload_n d_Way_receiveFile_15 rfl (mz_iconst (1 : Int32) d_Way_receiveFile_16 (by decide) (mz_putIN (k := 5) cl_2 d_Way_receiveFile_17 (by decide) wf_Way_52 rfl rfl rfl rfl (hF 3 p1 rfl hp1) rfl (let M5 : MzM := mz_si M4 (3, p1) 5 (1 : Int32); (mz_aload_n d_Way_receiveFile_20 rfl (mz_iconst (1 : Int32) d_Way_receiveFile_21 (by decide) (mz_putIN (k := 6) cl_2 d_Way_receiveFile_22 (by decide) wf_Way_55 rfl rfl rfl rfl (hF 3 p1 rfl hp1) rfl (let M6 : MzM := mz_si M5 (3, p1) 6 (1 : Int32); (mz_aload_n d_Way_receiveFile_25 rfl (mz_getRN (k := 0) (a := (4, p1)) cl_2 d_Way_receiveFile_26 (by decide) wf_Way_31 rfl (hF 3 p1 rfl hp1) rfl (hL3 (3, p1) 0 (4, p1) rfl rfl hp1) (mz_iload_n d_Way_receiveFile_29 rfl (mz_putIN (k := 1) cl_3 d_Way_receiveFile_30 (by decide) wf_Way_35 rfl rfl rfl rfl (hF 4 p1 rfl hp1) rfl (let M7 : MzM := mz_si M6 (4, p1) 1 a2; (mz_vret d_Way_receiveFile_33 rfl ⟨rfl, hL3, rfl, ((((((h M1 rfl) M2 rfl).2 M4 rfl) M5 rfl) M6 rfl) M7 rfl)⟩)))))))))))))))))))))))))))
def mm_Ses_receiveFile : MzT := (⟨"ParcelLine$Session", "receiveFile", "(I)I"⟩, prog_11_method_25_code, 4, (Option.some Jvm.ClassFile.FieldType.int))
theorem cs_Ses_receiveFile {mm : MzT} : mzCall mm mm_Ses_receiveFile 1 := ⟨wn_Ses, wco_Ses_receiveFile, by decide +kernel, by decide⟩
theorem d_Ses_receiveFile_0 : decode mm_Ses_receiveFile.2.1 0 = .ok (.aload_n 0, 1) := by decide +kernel
theorem d_Ses_receiveFile_1 : decode mm_Ses_receiveFile.2.1 1 = .ok (.getfield 59, 3) := by decide +kernel
theorem d_Ses_receiveFile_4 : decode mm_Ses_receiveFile.2.1 4 = .ok (.iconst (-1), 1) := by decide +kernel
theorem d_Ses_receiveFile_5 : decode mm_Ses_receiveFile.2.1 5 = .ok (.if_icmp .eq 7, 3) := by decide +kernel
theorem d_Ses_receiveFile_8 : decode mm_Ses_receiveFile.2.1 8 = .ok (.iconst 1, 1) := by decide +kernel
theorem d_Ses_receiveFile_9 : decode mm_Ses_receiveFile.2.1 9 = .ok (.goto 4, 3) := by decide +kernel
theorem d_Ses_receiveFile_12 : decode mm_Ses_receiveFile.2.1 12 = .ok (.iconst 0, 1) := by decide +kernel
theorem d_Ses_receiveFile_13 : decode mm_Ses_receiveFile.2.1 13 = .ok (.istore_n 2, 1) := by decide +kernel
theorem d_Ses_receiveFile_14 : decode mm_Ses_receiveFile.2.1 14 = .ok (.iload_n 2, 1) := by decide +kernel
theorem d_Ses_receiveFile_15 : decode mm_Ses_receiveFile.2.1 15 = .ok (.ifCond .ne 21, 3) := by decide +kernel
theorem d_Ses_receiveFile_18 : decode mm_Ses_receiveFile.2.1 18 = .ok (.aload_n 0, 1) := by decide +kernel
theorem d_Ses_receiveFile_19 : decode mm_Ses_receiveFile.2.1 19 = .ok (.getfield 15, 3) := by decide +kernel
theorem d_Ses_receiveFile_22 : decode mm_Ses_receiveFile.2.1 22 = .ok (.aload_n 0, 1) := by decide +kernel
theorem d_Ses_receiveFile_23 : decode mm_Ses_receiveFile.2.1 23 = .ok (.getfield 56, 3) := by decide +kernel
theorem d_Ses_receiveFile_26 : decode mm_Ses_receiveFile.2.1 26 = .ok (.invokevirtual 332, 3) := by decide +kernel
theorem d_Ses_receiveFile_29 : decode mm_Ses_receiveFile.2.1 29 = .ok (.ifCond .ne 7, 3) := by decide +kernel
theorem d_Ses_receiveFile_32 : decode mm_Ses_receiveFile.2.1 32 = .ok (.sipush 550, 3) := by decide +kernel
theorem d_Ses_receiveFile_35 : decode mm_Ses_receiveFile.2.1 35 = .ok (.ireturn, 1) := by decide +kernel
theorem d_Ses_receiveFile_36 : decode mm_Ses_receiveFile.2.1 36 = .ok (.iload_n 2, 1) := by decide +kernel
theorem d_Ses_receiveFile_37 : decode mm_Ses_receiveFile.2.1 37 = .ok (.ifCond .ne 25, 3) := by decide +kernel
theorem d_Ses_receiveFile_40 : decode mm_Ses_receiveFile.2.1 40 = .ok (.aload_n 0, 1) := by decide +kernel
theorem d_Ses_receiveFile_41 : decode mm_Ses_receiveFile.2.1 41 = .ok (.getfield 15, 3) := by decide +kernel
theorem d_Ses_receiveFile_44 : decode mm_Ses_receiveFile.2.1 44 = .ok (.getfield 190, 3) := by decide +kernel
theorem d_Ses_receiveFile_47 : decode mm_Ses_receiveFile.2.1 47 = .ok (.aload_n 0, 1) := by decide +kernel
theorem d_Ses_receiveFile_48 : decode mm_Ses_receiveFile.2.1 48 = .ok (.getfield 56, 3) := by decide +kernel
theorem d_Ses_receiveFile_51 : decode mm_Ses_receiveFile.2.1 51 = .ok (.aaload, 1) := by decide +kernel
theorem d_Ses_receiveFile_52 : decode mm_Ses_receiveFile.2.1 52 = .ok (.invokevirtual 348, 3) := by decide +kernel
theorem d_Ses_receiveFile_55 : decode mm_Ses_receiveFile.2.1 55 = .ok (.ifCond .eq 7, 3) := by decide +kernel
theorem d_Ses_receiveFile_58 : decode mm_Ses_receiveFile.2.1 58 = .ok (.sipush 450, 3) := by decide +kernel
theorem d_Ses_receiveFile_61 : decode mm_Ses_receiveFile.2.1 61 = .ok (.ireturn, 1) := by decide +kernel
theorem d_Ses_receiveFile_62 : decode mm_Ses_receiveFile.2.1 62 = .ok (.aload_n 0, 1) := by decide +kernel
theorem d_Ses_receiveFile_63 : decode mm_Ses_receiveFile.2.1 63 = .ok (.getfield 45, 3) := by decide +kernel
theorem d_Ses_receiveFile_66 : decode mm_Ses_receiveFile.2.1 66 = .ok (.getfield 278, 3) := by decide +kernel
theorem d_Ses_receiveFile_69 : decode mm_Ses_receiveFile.2.1 69 = .ok (.ifCond .ne 7, 3) := by decide +kernel
theorem d_Ses_receiveFile_72 : decode mm_Ses_receiveFile.2.1 72 = .ok (.sipush 425, 3) := by decide +kernel
theorem d_Ses_receiveFile_75 : decode mm_Ses_receiveFile.2.1 75 = .ok (.ireturn, 1) := by decide +kernel
theorem d_Ses_receiveFile_76 : decode mm_Ses_receiveFile.2.1 76 = .ok (.iload_n 1, 1) := by decide +kernel
theorem d_Ses_receiveFile_77 : decode mm_Ses_receiveFile.2.1 77 = .ok (.aload_n 0, 1) := by decide +kernel
theorem d_Ses_receiveFile_78 : decode mm_Ses_receiveFile.2.1 78 = .ok (.invokevirtual 299, 3) := by decide +kernel
theorem d_Ses_receiveFile_81 : decode mm_Ses_receiveFile.2.1 81 = .ok (.if_icmp .le 7, 3) := by decide +kernel
theorem d_Ses_receiveFile_84 : decode mm_Ses_receiveFile.2.1 84 = .ok (.sipush 554, 3) := by decide +kernel
theorem d_Ses_receiveFile_87 : decode mm_Ses_receiveFile.2.1 87 = .ok (.ireturn, 1) := by decide +kernel
theorem d_Ses_receiveFile_88 : decode mm_Ses_receiveFile.2.1 88 = .ok (.iload_n 2, 1) := by decide +kernel
theorem d_Ses_receiveFile_89 : decode mm_Ses_receiveFile.2.1 89 = .ok (.ifCond .eq 25, 3) := by decide +kernel
theorem d_Ses_receiveFile_92 : decode mm_Ses_receiveFile.2.1 92 = .ok (.aload_n 0, 1) := by decide +kernel
theorem d_Ses_receiveFile_93 : decode mm_Ses_receiveFile.2.1 93 = .ok (.getfield 15, 3) := by decide +kernel
theorem d_Ses_receiveFile_96 : decode mm_Ses_receiveFile.2.1 96 = .ok (.iconst 2, 1) := by decide +kernel
theorem d_Ses_receiveFile_97 : decode mm_Ses_receiveFile.2.1 97 = .ok (.aload_n 0, 1) := by decide +kernel
theorem d_Ses_receiveFile_98 : decode mm_Ses_receiveFile.2.1 98 = .ok (.getfield 59, 3) := by decide +kernel
theorem d_Ses_receiveFile_101 : decode mm_Ses_receiveFile.2.1 101 = .ok (.aload_n 0, 1) := by decide +kernel
theorem d_Ses_receiveFile_102 : decode mm_Ses_receiveFile.2.1 102 = .ok (.getfield 38, 3) := by decide +kernel
theorem d_Ses_receiveFile_105 : decode mm_Ses_receiveFile.2.1 105 = .ok (.invokevirtual 254, 3) := by decide +kernel
theorem d_Ses_receiveFile_108 : decode mm_Ses_receiveFile.2.1 108 = .ok (.invokevirtual 351, 3) := by decide +kernel
theorem d_Ses_receiveFile_111 : decode mm_Ses_receiveFile.2.1 111 = .ok (.goto 7, 3) := by decide +kernel
theorem d_Ses_receiveFile_114 : decode mm_Ses_receiveFile.2.1 114 = .ok (.aload_n 0, 1) := by decide +kernel
theorem d_Ses_receiveFile_115 : decode mm_Ses_receiveFile.2.1 115 = .ok (.getfield 56, 3) := by decide +kernel
theorem d_Ses_receiveFile_118 : decode mm_Ses_receiveFile.2.1 118 = .ok (.istore_n 3, 1) := by decide +kernel
theorem d_Ses_receiveFile_119 : decode mm_Ses_receiveFile.2.1 119 = .ok (.iload_n 3, 1) := by decide +kernel
theorem d_Ses_receiveFile_120 : decode mm_Ses_receiveFile.2.1 120 = .ok (.iconst (-1), 1) := by decide +kernel
theorem d_Ses_receiveFile_121 : decode mm_Ses_receiveFile.2.1 121 = .ok (.if_icmp .ne 7, 3) := by decide +kernel
theorem d_Ses_receiveFile_124 : decode mm_Ses_receiveFile.2.1 124 = .ok (.sipush 552, 3) := by decide +kernel
theorem d_Ses_receiveFile_127 : decode mm_Ses_receiveFile.2.1 127 = .ok (.ireturn, 1) := by decide +kernel
theorem d_Ses_receiveFile_128 : decode mm_Ses_receiveFile.2.1 128 = .ok (.aload_n 0, 1) := by decide +kernel
theorem d_Ses_receiveFile_129 : decode mm_Ses_receiveFile.2.1 129 = .ok (.getfield 45, 3) := by decide +kernel
theorem d_Ses_receiveFile_132 : decode mm_Ses_receiveFile.2.1 132 = .ok (.aload_n 0, 1) := by decide +kernel
theorem d_Ses_receiveFile_133 : decode mm_Ses_receiveFile.2.1 133 = .ok (.getfield 15, 3) := by decide +kernel
theorem d_Ses_receiveFile_136 : decode mm_Ses_receiveFile.2.1 136 = .ok (.getfield 190, 3) := by decide +kernel
theorem d_Ses_receiveFile_139 : decode mm_Ses_receiveFile.2.1 139 = .ok (.iload_n 3, 1) := by decide +kernel
theorem d_Ses_receiveFile_140 : decode mm_Ses_receiveFile.2.1 140 = .ok (.aaload, 1) := by decide +kernel
theorem d_Ses_receiveFile_141 : decode mm_Ses_receiveFile.2.1 141 = .ok (.iload_n 1, 1) := by decide +kernel
theorem d_Ses_receiveFile_142 : decode mm_Ses_receiveFile.2.1 142 = .ok (.aload_n 0, 1) := by decide +kernel
theorem d_Ses_receiveFile_143 : decode mm_Ses_receiveFile.2.1 143 = .ok (.getfield 127, 3) := by decide +kernel
theorem d_Ses_receiveFile_146 : decode mm_Ses_receiveFile.2.1 146 = .ok (.invokevirtual 355, 3) := by decide +kernel
theorem d_Ses_receiveFile_149 : decode mm_Ses_receiveFile.2.1 149 = .ok (.sipush 150, 3) := by decide +kernel
theorem d_Ses_receiveFile_152 : decode mm_Ses_receiveFile.2.1 152 = .ok (.ireturn, 1) := by decide +kernel
def wp_Ses_receiveFile_118 (x : Nat)  (K : Int32 → MzM → Prop) (y1 : Int32) (ys0 : Int32) (M : MzM) : Prop := ((¬ ys0 = (-1 : Int32) → (∃ j33 : Nat, ys0.toInt = (j33 : Int) ∧ j33 < 16 ∧ wp_Way_receiveFile x j33 y1 (mz_i M (8, x) 8) M (fun M37 => K (150 : Int32) M37))) ∧ (ys0 = (-1 : Int32) → K (552 : Int32) M))
def wp_Ses_receiveFile_62 (x : Nat)  (K : Int32 → MzM → Prop) (y1 : Int32) (y2 : Int32) (M : MzM) : Prop := ((¬ (mz_i M (16, x) 0) = 0 → wp_Ses_targetSize x  M (fun v21 M18 => ((y1 ≤ v21 → ((y2 = 0 → wp_Ses_receiveFile_118 x  K y1 (mz_i M18 (8, x) 12) M18) ∧ (¬ y2 = 0 → wp_Path_newName x  M18 (fun v25 M22 => wp_Store_make  (2 : Int32) (mz_i M18 (8, x) 13) v25 M22 (fun v29 M26 => wp_Ses_receiveFile_118 x  K y1 v29 M26))))) ∧ (¬ y1 ≤ v21 → K (554 : Int32) M18)))) ∧ ((mz_i M (16, x) 0) = 0 → K (425 : Int32) M))
def wp_Ses_receiveFile_36 (x : Nat)  (K : Int32 → MzM → Prop) (y1 : Int32) (y2 : Int32) (M : MzM) : Prop := ((¬ y2 = 0 → wp_Ses_receiveFile_62 x  K y1 y2 M) ∧ (y2 = 0 → (∃ j8 : Nat, (mz_i M (8, x) 12).toInt = (j8 : Int) ∧ j8 < 16 ∧ wp_Node_isBusy j8  M (fun v15 M12 => ((v15 = 0 → wp_Ses_receiveFile_62 x  K y1 y2 M12) ∧ (¬ v15 = 0 → K (450 : Int32) M12))))))
def wp_Ses_receiveFile_13 (x : Nat)  (K : Int32 → MzM → Prop) (y1 : Int32) (ys0 : Int32) (M : MzM) : Prop := ((¬ ys0 = 0 → wp_Ses_receiveFile_36 x  K y1 ys0 M) ∧ (ys0 = 0 → wp_Store_isFile  (mz_i M (8, x) 12) M (fun v5 M2 => ((¬ v5 = 0 → wp_Ses_receiveFile_36 x  K y1 ys0 M2) ∧ (v5 = 0 → K (550 : Int32) M2)))))
def wp_Ses_receiveFile (x : Nat) (a1 : Int32) (M : MzM) (K : Int32 → MzM → Prop) : Prop := (((mz_i M (8, x) 13) = (-1 : Int32) → wp_Ses_receiveFile_13 x  K a1 (0 : Int32) M) ∧ (¬ (mz_i M (8, x) 13) = (-1 : Int32) → wp_Ses_receiveFile_13 x  K a1 (1 : Int32) M))
theorem tm_Ses_receiveFile_118 {G : MzG} {B : MzB} {d : Nat} {K : Int32 → MzM → Prop} (hF : mzLive false B) {x : Nat} (hx : x < 2)   (y1 : Int32) (ys0 : Int32) (M : MzM) (hL : mzLnk false M) (h : wp_Ses_receiveFile_118 x  K y1 ys0 M) : MzS G B (d + 2) mm_Ses_receiveFile M (0, 0) (mzK1 false B K) 118 [(0, .ref (mz_ad B (8, x))), (1, .int y1)] [.int ys0] := by
  unfold wp_Ses_receiveFile_118 at h
  exact (mz_istore_n d_Ses_receiveFile_118 (by decide) (mz_iload_n d_Ses_receiveFile_119 rfl (mz_iconst (-1 : Int32) d_Ses_receiveFile_120 (by decide) (mz_icmp_ne 128 d_Ses_receiveFile_121 rfl (fun hc40 => (mz_aload_n d_Ses_receiveFile_128 rfl (mz_getR (k := 5) (a := (16, x)) cl_4 d_Ses_receiveFile_129 (by decide) wf_Ses_45 rfl (hF 8 x rfl hx) rfl (hL (8, x) 5 (16, x) rfl rfl hx) (mz_aload_n d_Ses_receiveFile_132 rfl (mz_getR (k := 1) (a := (1, 0)) cl_4 d_Ses_receiveFile_133 (by decide) wf_Ses_15 rfl (hF 8 x rfl hx) rfl (hL (8, x) 1 (1, 0) rfl rfl hx) (mz_getRN (k := 0) (a := (2, 0)) cl_1 d_Ses_receiveFile_136 (by decide) wf_Ses_190 rfl (hF 1 0 rfl (by decide)) rfl (hL (1, 0) 0 (2, 0) rfl rfl (by decide)) (mz_iload_n d_Ses_receiveFile_139 rfl (match (h.1 hc40) with | ⟨j33, h34, h35, h36⟩ => mz_aald (a := (3, j33)) j33 d_Ses_receiveFile_140 (hF 2 0 rfl (by decide)) rfl h34 h35 (hL (2, 0) j33 (3, j33) rfl (mzLk_2 h35) (by decide)) (mz_iload_n d_Ses_receiveFile_141 rfl (mz_aload_n d_Ses_receiveFile_142 rfl (mz_getI (k := 8) cl_4 d_Ses_receiveFile_143 (by decide) wf_Ses_127 rfl (hF 8 x rfl hx) rfl (mz_callV (As := [.ref (mz_ad B (3, j33)), .int y1, .int (mz_i M (8, x) 8)]) (st := []) (hF 16 x rfl hx) rfl (mzClOf cl_8) 0 0 d_Ses_receiveFile_146 cs_Way_receiveFile wl_Ses_355 wi_Way_receiveFile wse_Way_receiveFile (Nat.le_of_ble_eq_true rfl) (Nat.zero_le _) (Nat.zero_le _) (MzC.mono (tm_Way_receiveFile (d := (d + 1)) hF hx h35 hL h36) (fun r9 B9 M37 hq39 => by obtain ⟨rfl, hL38, rfl, hq39⟩ := hq39; exact ⟨none, rfl, (mz_sipush (150 : Int32) d_Ses_receiveFile_149 (by decide) (mz_iret .int d_Ses_receiveFile_152 rfl rfl ⟨rfl, hL38, _, rfl, hq39⟩))⟩)))))))))))))) (fun hc40 => (mz_sipush (552 : Int32) d_Ses_receiveFile_124 (by decide) (mz_iret .int d_Ses_receiveFile_127 rfl rfl ⟨rfl, hL, _, rfl, (h.2 hc40)⟩)))))))
theorem tm_Ses_receiveFile_62 {G : MzG} {B : MzB} {d : Nat} {K : Int32 → MzM → Prop} (hF : mzLive false B) {x : Nat} (hx : x < 2)   (y1 : Int32) (y2 : Int32) (M : MzM) (hL : mzLnk false M) (h : wp_Ses_receiveFile_62 x  K y1 y2 M) : MzS G B (d + 2) mm_Ses_receiveFile M (0, 0) (mzK1 false B K) 62 [(0, .ref (mz_ad B (8, x))), (1, .int y1), (2, .int y2)] [] := by
  unfold wp_Ses_receiveFile_62 at h
  exact (mz_aload_n d_Ses_receiveFile_62 rfl (mz_getR (k := 5) (a := (16, x)) cl_4 d_Ses_receiveFile_63 (by decide) wf_Ses_45 rfl (hF 8 x rfl hx) rfl (hL (8, x) 5 (16, x) rfl rfl hx) (mz_getIN (k := 0) cl_8 d_Ses_receiveFile_66 (by decide) wf_Ses_278 rfl (hF 16 x rfl hx) rfl (mz_if_ne 76 d_Ses_receiveFile_69 rfl (fun hc32 => (mz_iload_n d_Ses_receiveFile_76 rfl (mz_aload_n d_Ses_receiveFile_77 rfl (mz_callV (As := []) (st := [.int y1]) (hF 8 x rfl hx) rfl (mzClOf cl_4) 0 0 d_Ses_receiveFile_78 cs_Ses_targetSize wl_Ses_299 wi_Ses_targetSize wse_Ses_targetSize (Nat.le_of_ble_eq_true rfl) (Nat.zero_le _) (Nat.zero_le _) (MzC.mono (tm_Ses_targetSize (d := d) hF hx hL (h.1 hc32)) (fun r9 B9 M18 hq20 => by obtain ⟨rfl, hL19, v21, rfl, hq20⟩ := hq20; exact ⟨_, rfl, (mz_icmp_le 88 d_Ses_receiveFile_81 rfl (fun hc31 => (mz_iload_n d_Ses_receiveFile_88 rfl (mz_if_eq 114 d_Ses_receiveFile_89 rfl (fun hc30 => (mz_aload_n d_Ses_receiveFile_114 rfl (mz_getI (k := 12) cl_4 d_Ses_receiveFile_115 (by decide) wf_Ses_56 rfl (hF 8 x rfl hx) rfl (MzS.loc [(0, .ref (mz_ad B (8, x))), (1, .int y1)] ⟨rfl, rfl, trivial⟩ (tm_Ses_receiveFile_118 hF hx  y1 (mz_i M18 (8, x) 12) M18 hL19 ((hq20.1 hc31).1 hc30)))))) (fun hc30 => (mz_aload_n d_Ses_receiveFile_92 rfl (mz_getR (k := 1) (a := (1, 0)) cl_4 d_Ses_receiveFile_93 (by decide) wf_Ses_15 rfl (hF 8 x rfl hx) rfl (hL19 (8, x) 1 (1, 0) rfl rfl hx) (mz_iconst (2 : Int32) d_Ses_receiveFile_96 (by decide) (mz_aload_n d_Ses_receiveFile_97 rfl (mz_getI (k := 13) cl_4 d_Ses_receiveFile_98 (by decide) wf_Ses_59 rfl (hF 8 x rfl hx) rfl (mz_aload_n d_Ses_receiveFile_101 rfl (mz_getR (k := 4) (a := (14, x)) cl_4 d_Ses_receiveFile_102 (by decide) wf_Ses_38 rfl (hF 8 x rfl hx) rfl (hL19 (8, x) 4 (14, x) rfl rfl hx) (mz_callV (As := []) (st := [.int (mz_i M18 (8, x) 13), .int (2 : Int32), .ref (mz_ad B (1, 0))]) (hF 14 x rfl hx) rfl (mzClOf cl_7) 0 0 d_Ses_receiveFile_105 cs_Path_newName wl_Ses_254 wi_Path_newName wse_Path_newName (Nat.le_of_ble_eq_true rfl) (Nat.zero_le _) (Nat.zero_le _) (MzC.mono (tm_Path_newName (d := (d + 1)) hF hx hL19 ((hq20.1 hc31).2 hc30)) (fun r9 B9 M22 hq24 => by obtain ⟨rfl, hL23, v25, rfl, hq24⟩ := hq24; exact ⟨_, rfl, (mz_callV (As := [.int (2 : Int32), .int (mz_i M18 (8, x) 13), .int v25]) (st := []) (hF 1 0 rfl (by decide)) rfl (mzClOf cl_1) 0 0 d_Ses_receiveFile_108 cs_Store_make wl_Ses_351 wi_Store_make wse_Store_make (Nat.le_of_ble_eq_true rfl) (Nat.zero_le _) (Nat.zero_le _) (MzC.mono (tm_Store_make (d := (d + 1)) hF  hL23 hq24) (fun r9 B9 M26 hq28 => by obtain ⟨rfl, hL27, v29, rfl, hq28⟩ := hq28; exact ⟨_, rfl, (mz_goto 118 d_Ses_receiveFile_111 rfl (MzS.loc [(0, .ref (mz_ad B (8, x))), (1, .int y1)] ⟨rfl, rfl, trivial⟩ (tm_Ses_receiveFile_118 hF hx  y1 v29 M26 hL27 hq28)))⟩)))⟩)))))))))))))) (fun hc31 => (mz_sipush (554 : Int32) d_Ses_receiveFile_84 (by decide) (mz_iret .int d_Ses_receiveFile_87 rfl rfl ⟨rfl, hL19, _, rfl, (hq20.2 hc31)⟩))))⟩)))))) (fun hc32 => (mz_sipush (425 : Int32) d_Ses_receiveFile_72 (by decide) (mz_iret .int d_Ses_receiveFile_75 rfl rfl ⟨rfl, hL, _, rfl, (h.2 hc32)⟩)))))))
theorem tm_Ses_receiveFile_36 {G : MzG} {B : MzB} {d : Nat} {K : Int32 → MzM → Prop} (hF : mzLive false B) {x : Nat} (hx : x < 2)   (y1 : Int32) (y2 : Int32) (M : MzM) (hL : mzLnk false M) (h : wp_Ses_receiveFile_36 x  K y1 y2 M) : MzS G B (d + 2) mm_Ses_receiveFile M (0, 0) (mzK1 false B K) 36 [(0, .ref (mz_ad B (8, x))), (1, .int y1), (2, .int y2)] [] := by
  unfold wp_Ses_receiveFile_36 at h
  exact (mz_iload_n d_Ses_receiveFile_36 rfl (mz_if_ne 62 d_Ses_receiveFile_37 rfl (fun hc17 => (MzS.loc [(0, .ref (mz_ad B (8, x))), (1, .int y1), (2, .int y2)] ⟨rfl, rfl, rfl, trivial⟩ (tm_Ses_receiveFile_62 hF hx  y1 y2 M hL (h.1 hc17)))) (fun hc17 => (mz_aload_n d_Ses_receiveFile_40 rfl (mz_getR (k := 1) (a := (1, 0)) cl_4 d_Ses_receiveFile_41 (by decide) wf_Ses_15 rfl (hF 8 x rfl hx) rfl (hL (8, x) 1 (1, 0) rfl rfl hx) (mz_getRN (k := 0) (a := (2, 0)) cl_1 d_Ses_receiveFile_44 (by decide) wf_Ses_190 rfl (hF 1 0 rfl (by decide)) rfl (hL (1, 0) 0 (2, 0) rfl rfl (by decide)) (mz_aload_n d_Ses_receiveFile_47 rfl (mz_getI (k := 12) cl_4 d_Ses_receiveFile_48 (by decide) wf_Ses_56 rfl (hF 8 x rfl hx) rfl (match (h.2 hc17) with | ⟨j8, h9, h10, h11⟩ => mz_aald (a := (3, j8)) j8 d_Ses_receiveFile_51 (hF 2 0 rfl (by decide)) rfl h9 h10 (hL (2, 0) j8 (3, j8) rfl (mzLk_2 h10) (by decide)) (mz_callV (As := []) (st := []) (hF 3 j8 rfl h10) rfl (mzClOf cl_2) 0 0 d_Ses_receiveFile_52 cs_Node_isBusy wl_Ses_348 wi_Node_isBusy wse_Node_isBusy (Nat.le_of_ble_eq_true rfl) (Nat.zero_le _) (Nat.zero_le _) (MzC.mono (tm_Node_isBusy (d := (d + 1)) hF h10 hL h11) (fun r9 B9 M12 hq14 => by obtain ⟨rfl, hL13, v15, rfl, hq14⟩ := hq14; exact ⟨_, rfl, (mz_if_eq 62 d_Ses_receiveFile_55 rfl (fun hc16 => (MzS.loc [(0, .ref (mz_ad B (8, x))), (1, .int y1), (2, .int y2)] ⟨rfl, rfl, rfl, trivial⟩ (tm_Ses_receiveFile_62 hF hx  y1 y2 M12 hL13 (hq14.1 hc16)))) (fun hc16 => (mz_sipush (450 : Int32) d_Ses_receiveFile_58 (by decide) (mz_iret .int d_Ses_receiveFile_61 rfl rfl ⟨rfl, hL13, _, rfl, (hq14.2 hc16)⟩))))⟩))))))))))))
theorem tm_Ses_receiveFile_13 {G : MzG} {B : MzB} {d : Nat} {K : Int32 → MzM → Prop} (hF : mzLive false B) {x : Nat} (hx : x < 2)   (y1 : Int32) (ys0 : Int32) (M : MzM) (hL : mzLnk false M) (h : wp_Ses_receiveFile_13 x  K y1 ys0 M) : MzS G B (d + 2) mm_Ses_receiveFile M (0, 0) (mzK1 false B K) 13 [(0, .ref (mz_ad B (8, x))), (1, .int y1)] [.int ys0] := by
  unfold wp_Ses_receiveFile_13 at h
  exact (mz_istore_n d_Ses_receiveFile_13 (by decide) (mz_iload_n d_Ses_receiveFile_14 rfl (mz_if_ne 36 d_Ses_receiveFile_15 rfl (fun hc7 => (MzS.loc [(0, .ref (mz_ad B (8, x))), (1, .int y1), (2, .int ys0)] ⟨rfl, rfl, rfl, trivial⟩ (tm_Ses_receiveFile_36 hF hx  y1 ys0 M hL (h.1 hc7)))) (fun hc7 => (mz_aload_n d_Ses_receiveFile_18 rfl (mz_getR (k := 1) (a := (1, 0)) cl_4 d_Ses_receiveFile_19 (by decide) wf_Ses_15 rfl (hF 8 x rfl hx) rfl (hL (8, x) 1 (1, 0) rfl rfl hx) (mz_aload_n d_Ses_receiveFile_22 rfl (mz_getI (k := 12) cl_4 d_Ses_receiveFile_23 (by decide) wf_Ses_56 rfl (hF 8 x rfl hx) rfl (mz_callV (As := [.int (mz_i M (8, x) 12)]) (st := []) (hF 1 0 rfl (by decide)) rfl (mzClOf cl_1) 0 0 d_Ses_receiveFile_26 cs_Store_isFile wl_Ses_332 wi_Store_isFile wse_Store_isFile (Nat.le_of_ble_eq_true rfl) (Nat.zero_le _) (Nat.zero_le _) (MzC.mono (tm_Store_isFile (d := (d + 1)) hF  hL (h.2 hc7)) (fun r9 B9 M2 hq4 => by obtain ⟨rfl, hL3, v5, rfl, hq4⟩ := hq4; exact ⟨_, rfl, (mz_if_ne 36 d_Ses_receiveFile_29 rfl (fun hc6 => (MzS.loc [(0, .ref (mz_ad B (8, x))), (1, .int y1), (2, .int ys0)] ⟨rfl, rfl, rfl, trivial⟩ (tm_Ses_receiveFile_36 hF hx  y1 ys0 M2 hL3 (hq4.1 hc6)))) (fun hc6 => (mz_sipush (550 : Int32) d_Ses_receiveFile_32 (by decide) (mz_iret .int d_Ses_receiveFile_35 rfl rfl ⟨rfl, hL3, _, rfl, (hq4.2 hc6)⟩))))⟩)))))))))))
theorem tm_Ses_receiveFile {G : MzG} {B : MzB} {d : Nat} {K : Int32 → MzM → Prop} (hF : mzLive false B) {x : Nat} (hx : x < 2) {a1 : Int32} {M : MzM} (hL : mzLnk false M) (h : wp_Ses_receiveFile x a1 M K) : MzC G B (d + 2) mm_Ses_receiveFile [.ref (mz_ad B (8, x)), .int a1] M (0, 0) (mzK1 false B K) := by
  unfold wp_Ses_receiveFile at h
  exact MzC.of rfl (Nat.le_of_ble_eq_true rfl) (show MzS G B (d + 2) mm_Ses_receiveFile M (0, 0) (mzK1 false B K) 0 [(0, .ref (mz_ad B (8, x))), (1, .int a1)] [] from (mz_aload_n d_Ses_receiveFile_0 rfl (mz_getI (k := 13) cl_4 d_Ses_receiveFile_1 (by decide) wf_Ses_59 rfl (hF 8 x rfl hx) rfl (mz_iconst (-1 : Int32) d_Ses_receiveFile_4 (by decide) (mz_icmp_eq 12 d_Ses_receiveFile_5 rfl (fun hc1 => (mz_iconst (0 : Int32) d_Ses_receiveFile_12 (by decide) (MzS.loc [(0, .ref (mz_ad B (8, x))), (1, .int a1)] ⟨rfl, rfl, trivial⟩ (tm_Ses_receiveFile_13 hF hx  a1 (0 : Int32) M hL (h.1 hc1))))) (fun hc1 => (mz_iconst (1 : Int32) d_Ses_receiveFile_8 (by decide) (mz_goto 13 d_Ses_receiveFile_9 rfl (MzS.loc [(0, .ref (mz_ad B (8, x))), (1, .int a1)] ⟨rfl, rfl, trivial⟩ (tm_Ses_receiveFile_13 hF hx  a1 (1 : Int32) M hL (h.2 hc1)))))))))))
def mm_Ses_removeFile : MzT := (⟨"ParcelLine$Session", "removeFile", "()I"⟩, prog_11_method_26_code, 1, (Option.some Jvm.ClassFile.FieldType.int))
theorem cs_Ses_removeFile {mm : MzT} : mzCall mm mm_Ses_removeFile 0 := ⟨wn_Ses, wco_Ses_removeFile, by decide +kernel, by decide⟩
theorem d_Ses_removeFile_0 : decode mm_Ses_removeFile.2.1 0 = .ok (.aload_n 0, 1) := by decide +kernel
theorem d_Ses_removeFile_1 : decode mm_Ses_removeFile.2.1 1 = .ok (.getfield 15, 3) := by decide +kernel
theorem d_Ses_removeFile_4 : decode mm_Ses_removeFile.2.1 4 = .ok (.aload_n 0, 1) := by decide +kernel
theorem d_Ses_removeFile_5 : decode mm_Ses_removeFile.2.1 5 = .ok (.getfield 56, 3) := by decide +kernel
theorem d_Ses_removeFile_8 : decode mm_Ses_removeFile.2.1 8 = .ok (.invokevirtual 332, 3) := by decide +kernel
theorem d_Ses_removeFile_11 : decode mm_Ses_removeFile.2.1 11 = .ok (.ifCond .ne 7, 3) := by decide +kernel
theorem d_Ses_removeFile_14 : decode mm_Ses_removeFile.2.1 14 = .ok (.sipush 550, 3) := by decide +kernel
theorem d_Ses_removeFile_17 : decode mm_Ses_removeFile.2.1 17 = .ok (.ireturn, 1) := by decide +kernel
theorem d_Ses_removeFile_18 : decode mm_Ses_removeFile.2.1 18 = .ok (.aload_n 0, 1) := by decide +kernel
theorem d_Ses_removeFile_19 : decode mm_Ses_removeFile.2.1 19 = .ok (.getfield 15, 3) := by decide +kernel
theorem d_Ses_removeFile_22 : decode mm_Ses_removeFile.2.1 22 = .ok (.getfield 190, 3) := by decide +kernel
theorem d_Ses_removeFile_25 : decode mm_Ses_removeFile.2.1 25 = .ok (.aload_n 0, 1) := by decide +kernel
theorem d_Ses_removeFile_26 : decode mm_Ses_removeFile.2.1 26 = .ok (.getfield 56, 3) := by decide +kernel
theorem d_Ses_removeFile_29 : decode mm_Ses_removeFile.2.1 29 = .ok (.aaload, 1) := by decide +kernel
theorem d_Ses_removeFile_30 : decode mm_Ses_removeFile.2.1 30 = .ok (.invokevirtual 348, 3) := by decide +kernel
theorem d_Ses_removeFile_33 : decode mm_Ses_removeFile.2.1 33 = .ok (.ifCond .eq 7, 3) := by decide +kernel
theorem d_Ses_removeFile_36 : decode mm_Ses_removeFile.2.1 36 = .ok (.sipush 450, 3) := by decide +kernel
theorem d_Ses_removeFile_39 : decode mm_Ses_removeFile.2.1 39 = .ok (.ireturn, 1) := by decide +kernel
theorem d_Ses_removeFile_40 : decode mm_Ses_removeFile.2.1 40 = .ok (.aload_n 0, 1) := by decide +kernel
theorem d_Ses_removeFile_41 : decode mm_Ses_removeFile.2.1 41 = .ok (.getfield 15, 3) := by decide +kernel
theorem d_Ses_removeFile_44 : decode mm_Ses_removeFile.2.1 44 = .ok (.getfield 190, 3) := by decide +kernel
theorem d_Ses_removeFile_47 : decode mm_Ses_removeFile.2.1 47 = .ok (.aload_n 0, 1) := by decide +kernel
theorem d_Ses_removeFile_48 : decode mm_Ses_removeFile.2.1 48 = .ok (.getfield 56, 3) := by decide +kernel
theorem d_Ses_removeFile_51 : decode mm_Ses_removeFile.2.1 51 = .ok (.aaload, 1) := by decide +kernel
theorem d_Ses_removeFile_52 : decode mm_Ses_removeFile.2.1 52 = .ok (.iconst 0, 1) := by decide +kernel
theorem d_Ses_removeFile_53 : decode mm_Ses_removeFile.2.1 53 = .ok (.putfield 357, 3) := by decide +kernel
theorem d_Ses_removeFile_56 : decode mm_Ses_removeFile.2.1 56 = .ok (.sipush 250, 3) := by decide +kernel
theorem d_Ses_removeFile_59 : decode mm_Ses_removeFile.2.1 59 = .ok (.ireturn, 1) := by decide +kernel
def wp_Ses_removeFile (x : Nat)  (M : MzM) (K : Int32 → MzM → Prop) : Prop := wp_Store_isFile  (mz_i M (8, x) 12) M (fun v4 M1 => ((¬ v4 = 0 → (∃ j5 : Nat, (mz_i M1 (8, x) 12).toInt = (j5 : Int) ∧ j5 < 16 ∧ wp_Node_isBusy j5  M1 (fun v12 M9 => ((v12 = 0 → (∃ j13 : Nat, (mz_i M9 (8, x) 12).toInt = (j13 : Int) ∧ j13 < 16 ∧ (∀ M17 : MzM, M17 = mz_si M9 (3, j13) 1 (0 : Int32) → K (250 : Int32) M17))) ∧ (¬ v12 = 0 → K (450 : Int32) M9))))) ∧ (v4 = 0 → K (550 : Int32) M1)))
theorem tm_Ses_removeFile {G : MzG} {B : MzB} {d : Nat} {K : Int32 → MzM → Prop} (hF : mzLive false B) {x : Nat} (hx : x < 2)  {M : MzM} (hL : mzLnk false M) (h : wp_Ses_removeFile x  M K) : MzC G B (d + 1) mm_Ses_removeFile [.ref (mz_ad B (8, x))] M (0, 0) (mzK1 false B K) := by
  unfold wp_Ses_removeFile at h
  exact MzC.of rfl (Nat.le_of_ble_eq_true rfl) (show MzS G B (d + 1) mm_Ses_removeFile M (0, 0) (mzK1 false B K) 0 [(0, .ref (mz_ad B (8, x)))] [] from (mz_aload_n d_Ses_removeFile_0 rfl (mz_getR (k := 1) (a := (1, 0)) cl_4 d_Ses_removeFile_1 (by decide) wf_Ses_15 rfl (hF 8 x rfl hx) rfl (hL (8, x) 1 (1, 0) rfl rfl hx) (mz_aload_n d_Ses_removeFile_4 rfl (mz_getI (k := 12) cl_4 d_Ses_removeFile_5 (by decide) wf_Ses_56 rfl (hF 8 x rfl hx) rfl (mz_callV (As := [.int (mz_i M (8, x) 12)]) (st := []) (hF 1 0 rfl (by decide)) rfl (mzClOf cl_1) 0 0 d_Ses_removeFile_8 cs_Store_isFile wl_Ses_332 wi_Store_isFile wse_Store_isFile (Nat.le_of_ble_eq_true rfl) (Nat.zero_le _) (Nat.zero_le _) (MzC.mono (tm_Store_isFile (d := d) hF  hL h) (fun r9 B9 M1 hq3 => by obtain ⟨rfl, hL2, v4, rfl, hq3⟩ := hq3; exact ⟨_, rfl, (mz_if_ne 18 d_Ses_removeFile_11 rfl (fun hc19 => (mz_aload_n d_Ses_removeFile_18 rfl (mz_getR (k := 1) (a := (1, 0)) cl_4 d_Ses_removeFile_19 (by decide) wf_Ses_15 rfl (hF 8 x rfl hx) rfl (hL2 (8, x) 1 (1, 0) rfl rfl hx) (mz_getRN (k := 0) (a := (2, 0)) cl_1 d_Ses_removeFile_22 (by decide) wf_Ses_190 rfl (hF 1 0 rfl (by decide)) rfl (hL2 (1, 0) 0 (2, 0) rfl rfl (by decide)) (mz_aload_n d_Ses_removeFile_25 rfl (mz_getI (k := 12) cl_4 d_Ses_removeFile_26 (by decide) wf_Ses_56 rfl (hF 8 x rfl hx) rfl (match (hq3.1 hc19) with | ⟨j5, h6, h7, h8⟩ => mz_aald (a := (3, j5)) j5 d_Ses_removeFile_29 (hF 2 0 rfl (by decide)) rfl h6 h7 (hL2 (2, 0) j5 (3, j5) rfl (mzLk_2 h7) (by decide)) (mz_callV (As := []) (st := []) (hF 3 j5 rfl h7) rfl (mzClOf cl_2) 0 0 d_Ses_removeFile_30 cs_Node_isBusy wl_Ses_348 wi_Node_isBusy wse_Node_isBusy (Nat.le_of_ble_eq_true rfl) (Nat.zero_le _) (Nat.zero_le _) (MzC.mono (tm_Node_isBusy (d := d) hF h7 hL2 h8) (fun r9 B9 M9 hq11 => by obtain ⟨rfl, hL10, v12, rfl, hq11⟩ := hq11; exact ⟨_, rfl, (mz_if_eq 40 d_Ses_removeFile_33 rfl (fun hc18 => (mz_aload_n d_Ses_removeFile_40 rfl (mz_getR (k := 1) (a := (1, 0)) cl_4 d_Ses_removeFile_41 (by decide) wf_Ses_15 rfl (hF 8 x rfl hx) rfl (hL10 (8, x) 1 (1, 0) rfl rfl hx) (mz_getRN (k := 0) (a := (2, 0)) cl_1 d_Ses_removeFile_44 (by decide) wf_Ses_190 rfl (hF 1 0 rfl (by decide)) rfl (hL10 (1, 0) 0 (2, 0) rfl rfl (by decide)) (mz_aload_n d_Ses_removeFile_47 rfl (mz_getI (k := 12) cl_4 d_Ses_removeFile_48 (by decide) wf_Ses_56 rfl (hF 8 x rfl hx) rfl (match (hq11.1 hc18) with | ⟨j13, h14, h15, h16⟩ => mz_aald (a := (3, j13)) j13 d_Ses_removeFile_51 (hF 2 0 rfl (by decide)) rfl h14 h15 (hL10 (2, 0) j13 (3, j13) rfl (mzLk_2 h15) (by decide)) (mz_iconst (0 : Int32) d_Ses_removeFile_52 (by decide) (mz_putIN (k := 1) cl_2 d_Ses_removeFile_53 (by decide) wf_Ses_357 rfl rfl rfl rfl (hF 3 j13 rfl h15) rfl (let M17 : MzM := mz_si M9 (3, j13) 1 (0 : Int32); (mz_sipush (250 : Int32) d_Ses_removeFile_56 (by decide) (mz_iret .int d_Ses_removeFile_59 rfl rfl ⟨rfl, hL10, _, rfl, (h16 M17 rfl)⟩)))))))))))) (fun hc18 => (mz_sipush (450 : Int32) d_Ses_removeFile_36 (by decide) (mz_iret .int d_Ses_removeFile_39 rfl rfl ⟨rfl, hL10, _, rfl, (hq11.2 hc18)⟩))))⟩)))))))))) (fun hc19 => (mz_sipush (550 : Int32) d_Ses_removeFile_14 (by decide) (mz_iret .int d_Ses_removeFile_17 rfl rfl ⟨rfl, hL2, _, rfl, (hq3.2 hc19)⟩))))⟩))))))))
def mm_Ses_makeDirectory : MzT := (⟨"ParcelLine$Session", "makeDirectory", "()I"⟩, prog_11_method_27_code, 1, (Option.some Jvm.ClassFile.FieldType.int))
theorem cs_Ses_makeDirectory {mm : MzT} : mzCall mm mm_Ses_makeDirectory 0 := ⟨wn_Ses, wco_Ses_makeDirectory, by decide +kernel, by decide⟩
theorem d_Ses_makeDirectory_0 : decode mm_Ses_makeDirectory.2.1 0 = .ok (.aload_n 0, 1) := by decide +kernel
theorem d_Ses_makeDirectory_1 : decode mm_Ses_makeDirectory.2.1 1 = .ok (.getfield 59, 3) := by decide +kernel
theorem d_Ses_makeDirectory_4 : decode mm_Ses_makeDirectory.2.1 4 = .ok (.iconst (-1), 1) := by decide +kernel
theorem d_Ses_makeDirectory_5 : decode mm_Ses_makeDirectory.2.1 5 = .ok (.if_icmp .ne 7, 3) := by decide +kernel
theorem d_Ses_makeDirectory_8 : decode mm_Ses_makeDirectory.2.1 8 = .ok (.sipush 550, 3) := by decide +kernel
theorem d_Ses_makeDirectory_11 : decode mm_Ses_makeDirectory.2.1 11 = .ok (.ireturn, 1) := by decide +kernel
theorem d_Ses_makeDirectory_12 : decode mm_Ses_makeDirectory.2.1 12 = .ok (.aload_n 0, 1) := by decide +kernel
theorem d_Ses_makeDirectory_13 : decode mm_Ses_makeDirectory.2.1 13 = .ok (.aload_n 0, 1) := by decide +kernel
theorem d_Ses_makeDirectory_14 : decode mm_Ses_makeDirectory.2.1 14 = .ok (.getfield 15, 3) := by decide +kernel
theorem d_Ses_makeDirectory_17 : decode mm_Ses_makeDirectory.2.1 17 = .ok (.iconst 1, 1) := by decide +kernel
theorem d_Ses_makeDirectory_18 : decode mm_Ses_makeDirectory.2.1 18 = .ok (.aload_n 0, 1) := by decide +kernel
theorem d_Ses_makeDirectory_19 : decode mm_Ses_makeDirectory.2.1 19 = .ok (.getfield 59, 3) := by decide +kernel
theorem d_Ses_makeDirectory_22 : decode mm_Ses_makeDirectory.2.1 22 = .ok (.aload_n 0, 1) := by decide +kernel
theorem d_Ses_makeDirectory_23 : decode mm_Ses_makeDirectory.2.1 23 = .ok (.getfield 38, 3) := by decide +kernel
theorem d_Ses_makeDirectory_26 : decode mm_Ses_makeDirectory.2.1 26 = .ok (.invokevirtual 254, 3) := by decide +kernel
theorem d_Ses_makeDirectory_29 : decode mm_Ses_makeDirectory.2.1 29 = .ok (.invokevirtual 351, 3) := by decide +kernel
theorem d_Ses_makeDirectory_32 : decode mm_Ses_makeDirectory.2.1 32 = .ok (.putfield 184, 3) := by decide +kernel
theorem d_Ses_makeDirectory_35 : decode mm_Ses_makeDirectory.2.1 35 = .ok (.aload_n 0, 1) := by decide +kernel
theorem d_Ses_makeDirectory_36 : decode mm_Ses_makeDirectory.2.1 36 = .ok (.getfield 184, 3) := by decide +kernel
theorem d_Ses_makeDirectory_39 : decode mm_Ses_makeDirectory.2.1 39 = .ok (.iconst (-1), 1) := by decide +kernel
theorem d_Ses_makeDirectory_40 : decode mm_Ses_makeDirectory.2.1 40 = .ok (.if_icmp .ne 9, 3) := by decide +kernel
theorem d_Ses_makeDirectory_43 : decode mm_Ses_makeDirectory.2.1 43 = .ok (.sipush 552, 3) := by decide +kernel
theorem d_Ses_makeDirectory_46 : decode mm_Ses_makeDirectory.2.1 46 = .ok (.goto 6, 3) := by decide +kernel
theorem d_Ses_makeDirectory_49 : decode mm_Ses_makeDirectory.2.1 49 = .ok (.sipush 257, 3) := by decide +kernel
theorem d_Ses_makeDirectory_52 : decode mm_Ses_makeDirectory.2.1 52 = .ok (.ireturn, 1) := by decide +kernel
def wp_Ses_makeDirectory (x : Nat)  (M : MzM) (K : Int32 → MzM → Prop) : Prop := ((¬ (mz_i M (8, x) 13) = (-1 : Int32) → wp_Path_newName x  M (fun v4 M1 => wp_Store_make  (1 : Int32) (mz_i M (8, x) 13) v4 M1 (fun v8 M5 => (∀ M9 : MzM, M9 = mz_si M5 (8, x) 15 v8 → ((¬ (mz_i M9 (8, x) 15) = (-1 : Int32) → K (257 : Int32) M9) ∧ ((mz_i M9 (8, x) 15) = (-1 : Int32) → K (552 : Int32) M9)))))) ∧ ((mz_i M (8, x) 13) = (-1 : Int32) → K (550 : Int32) M))
theorem tm_Ses_makeDirectory {G : MzG} {B : MzB} {d : Nat} {K : Int32 → MzM → Prop} (hF : mzLive false B) {x : Nat} (hx : x < 2)  {M : MzM} (hL : mzLnk false M) (h : wp_Ses_makeDirectory x  M K) : MzC G B (d + 1) mm_Ses_makeDirectory [.ref (mz_ad B (8, x))] M (0, 0) (mzK1 false B K) := by
  unfold wp_Ses_makeDirectory at h
  exact MzC.of rfl (Nat.le_of_ble_eq_true rfl) (show MzS G B (d + 1) mm_Ses_makeDirectory M (0, 0) (mzK1 false B K) 0 [(0, .ref (mz_ad B (8, x)))] [] from (mz_aload_n d_Ses_makeDirectory_0 rfl (mz_getI (k := 13) cl_4 d_Ses_makeDirectory_1 (by decide) wf_Ses_59 rfl (hF 8 x rfl hx) rfl (mz_iconst (-1 : Int32) d_Ses_makeDirectory_4 (by decide) (mz_icmp_ne 12 d_Ses_makeDirectory_5 rfl (fun hc11 => (mz_aload_n d_Ses_makeDirectory_12 rfl (mz_aload_n d_Ses_makeDirectory_13 rfl (mz_getR (k := 1) (a := (1, 0)) cl_4 d_Ses_makeDirectory_14 (by decide) wf_Ses_15 rfl (hF 8 x rfl hx) rfl (hL (8, x) 1 (1, 0) rfl rfl hx) (mz_iconst (1 : Int32) d_Ses_makeDirectory_17 (by decide) (mz_aload_n d_Ses_makeDirectory_18 rfl (mz_getI (k := 13) cl_4 d_Ses_makeDirectory_19 (by decide) wf_Ses_59 rfl (hF 8 x rfl hx) rfl (mz_aload_n d_Ses_makeDirectory_22 rfl (mz_getR (k := 4) (a := (14, x)) cl_4 d_Ses_makeDirectory_23 (by decide) wf_Ses_38 rfl (hF 8 x rfl hx) rfl (hL (8, x) 4 (14, x) rfl rfl hx) (mz_callV (As := []) (st := [.int (mz_i M (8, x) 13), .int (1 : Int32), .ref (mz_ad B (1, 0)), .ref (mz_ad B (8, x))]) (hF 14 x rfl hx) rfl (mzClOf cl_7) 0 0 d_Ses_makeDirectory_26 cs_Path_newName wl_Ses_254 wi_Path_newName wse_Path_newName (Nat.le_of_ble_eq_true rfl) (Nat.zero_le _) (Nat.zero_le _) (MzC.mono (tm_Path_newName (d := d) hF hx hL (h.1 hc11)) (fun r9 B9 M1 hq3 => by obtain ⟨rfl, hL2, v4, rfl, hq3⟩ := hq3; exact ⟨_, rfl, (mz_callV (As := [.int (1 : Int32), .int (mz_i M (8, x) 13), .int v4]) (st := [.ref (mz_ad B (8, x))]) (hF 1 0 rfl (by decide)) rfl (mzClOf cl_1) 0 0 d_Ses_makeDirectory_29 cs_Store_make wl_Ses_351 wi_Store_make wse_Store_make (Nat.le_of_ble_eq_true rfl) (Nat.zero_le _) (Nat.zero_le _) (MzC.mono (tm_Store_make (d := d) hF  hL2 hq3) (fun r9 B9 M5 hq7 => by obtain ⟨rfl, hL6, v8, rfl, hq7⟩ := hq7; exact ⟨_, rfl, (mz_putI (k := 15) cl_4 d_Ses_makeDirectory_32 (by decide) wf_Ses_184 rfl rfl rfl rfl (hF 8 x rfl hx) rfl (let M9 : MzM := mz_si M5 (8, x) 15 v8; (mz_aload_n d_Ses_makeDirectory_35 rfl (mz_getI (k := 15) cl_4 d_Ses_makeDirectory_36 (by decide) wf_Ses_184 rfl (hF 8 x rfl hx) rfl (mz_iconst (-1 : Int32) d_Ses_makeDirectory_39 (by decide) (mz_icmp_ne 49 d_Ses_makeDirectory_40 rfl (fun hc10 => (mz_sipush (257 : Int32) d_Ses_makeDirectory_49 (by decide) (mz_iret .int d_Ses_makeDirectory_52 rfl rfl ⟨rfl, hL6, _, rfl, ((hq7 M9 rfl).1 hc10)⟩))) (fun hc10 => (mz_sipush (552 : Int32) d_Ses_makeDirectory_43 (by decide) (mz_goto 52 d_Ses_makeDirectory_46 rfl (mz_iret .int d_Ses_makeDirectory_52 rfl rfl ⟨rfl, hL6, _, rfl, ((hq7 M9 rfl).2 hc10)⟩))))))))))⟩)))⟩)))))))))))) (fun hc11 => (mz_sipush (550 : Int32) d_Ses_makeDirectory_8 (by decide) (mz_iret .int d_Ses_makeDirectory_11 rfl rfl ⟨rfl, hL, _, rfl, (h.2 hc11)⟩))))))))
