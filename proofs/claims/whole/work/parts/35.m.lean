def mm_Mo_take : MzT := (⟨"ParcelLineModel", "take", "(I)I"⟩, prog_14_method_60_code, 2, (Option.some Jvm.ClassFile.FieldType.int))
theorem cs_Mo_take {mm : MzT} : mzCall mm mm_Mo_take 1 := ⟨wn_Mo, wco_Mo_take, by decide +kernel, by decide⟩
theorem d_Mo_take_0 : decode mm_Mo_take.2.1 0 = .ok (.aload_n 0, 1) := by decide +kernel
theorem d_Mo_take_1 : decode mm_Mo_take.2.1 1 = .ok (.iconst 0, 1) := by decide +kernel
theorem d_Mo_take_2 : decode mm_Mo_take.2.1 2 = .ok (.putfield 126, 3) := by decide +kernel
theorem d_Mo_take_5 : decode mm_Mo_take.2.1 5 = .ok (.iload_n 1, 1) := by decide +kernel
theorem d_Mo_take_6 : decode mm_Mo_take.2.1 6 = .ok (.invokestatic 182, 3) := by decide +kernel
theorem d_Mo_take_9 : decode mm_Mo_take.2.1 9 = .ok (.ifCond .ne 9, 3) := by decide +kernel
theorem d_Mo_take_12 : decode mm_Mo_take.2.1 12 = .ok (.aload_n 0, 1) := by decide +kernel
theorem d_Mo_take_13 : decode mm_Mo_take.2.1 13 = .ok (.iconst 1, 1) := by decide +kernel
theorem d_Mo_take_14 : decode mm_Mo_take.2.1 14 = .ok (.invokevirtual 313, 3) := by decide +kernel
theorem d_Mo_take_17 : decode mm_Mo_take.2.1 17 = .ok (.ireturn, 1) := by decide +kernel
theorem d_Mo_take_18 : decode mm_Mo_take.2.1 18 = .ok (.aload_n 0, 1) := by decide +kernel
theorem d_Mo_take_19 : decode mm_Mo_take.2.1 19 = .ok (.getfield 98, 3) := by decide +kernel
theorem d_Mo_take_22 : decode mm_Mo_take.2.1 22 = .ok (.iload_n 1, 1) := by decide +kernel
theorem d_Mo_take_23 : decode mm_Mo_take.2.1 23 = .ok (.iaload, 1) := by decide +kernel
theorem d_Mo_take_24 : decode mm_Mo_take.2.1 24 = .ok (.iconst 1, 1) := by decide +kernel
theorem d_Mo_take_25 : decode mm_Mo_take.2.1 25 = .ok (.if_icmp .eq 11, 3) := by decide +kernel
theorem d_Mo_take_28 : decode mm_Mo_take.2.1 28 = .ok (.aload_n 0, 1) := by decide +kernel
theorem d_Mo_take_29 : decode mm_Mo_take.2.1 29 = .ok (.iconst 2, 1) := by decide +kernel
theorem d_Mo_take_30 : decode mm_Mo_take.2.1 30 = .ok (.invokevirtual 313, 3) := by decide +kernel
theorem d_Mo_take_33 : decode mm_Mo_take.2.1 33 = .ok (.goto 8, 3) := by decide +kernel
theorem d_Mo_take_36 : decode mm_Mo_take.2.1 36 = .ok (.aload_n 0, 1) := by decide +kernel
theorem d_Mo_take_37 : decode mm_Mo_take.2.1 37 = .ok (.iload_n 1, 1) := by decide +kernel
theorem d_Mo_take_38 : decode mm_Mo_take.2.1 38 = .ok (.invokevirtual 316, 3) := by decide +kernel
theorem d_Mo_take_41 : decode mm_Mo_take.2.1 41 = .ok (.ireturn, 1) := by decide +kernel
def wp_Mo_take  (a1 : Int32) (M : MzM) (K : Int32 → MzM → Prop) : Prop := (∀ M1 : MzM, M1 = mz_si M (30, 0) 1 (0 : Int32) → wp_Mo_isSession  a1 M1 (fun v5 M2 => ((¬ v5 = 0 → (∃ j6 : Nat, a1.toInt = (j6 : Int) ∧ j6 < 2 ∧ (((mz_i M2 (53, 0) j6) = (1 : Int32) → wp_Mo_takeOne  a1 M2 (fun v13 M10 => K v13 M10)) ∧ (¬ (mz_i M2 (53, 0) j6) = (1 : Int32) → wp_Mo_fail  (2 : Int32) M2 (fun v17 M14 => K v17 M14))))) ∧ (v5 = 0 → wp_Mo_fail  (1 : Int32) M2 (fun v22 M19 => K v22 M19)))))
theorem tm_Mo_take {G : MzG} {B : MzB} {d : Nat} {K : Int32 → MzM → Prop} (hF : mzLive true B)   {a1 : Int32} {M : MzM} (hL : mzLnk true M) (h : wp_Mo_take  a1 M K) : MzC G B (d + 5) mm_Mo_take [.ref (mz_ad B (30, 0)), .int a1] M (0, 0) (mzK1 true B K) := by
  unfold wp_Mo_take at h
  exact MzC.of rfl (Nat.le_of_ble_eq_true rfl) (show MzS G B (d + 5) mm_Mo_take M (0, 0) (mzK1 true B K) 0 [(0, .ref (mz_ad B (30, 0))), (1, .int a1)] [] from (mz_aload_n d_Mo_take_0 rfl (mz_iconst (0 : Int32) d_Mo_take_1 (by decide) (mz_putI (k := 1) cl_10 d_Mo_take_2 (by decide) wf_Mo_126 rfl rfl rfl rfl (hF 30 0 rfl (by decide)) rfl (let M1 : MzM := mz_si M (30, 0) 1 (0 : Int32); (mz_iload_n d_Mo_take_5 rfl (mz_callS (As := [.int a1]) (st := []) 0 0 d_Mo_take_6 cs_Mo_isSession wl_Mo_182 ws_Mo_isSession (Nat.le_of_ble_eq_true rfl) (Nat.zero_le _) (Nat.zero_le _) (MzC.mono (tm_Mo_isSession (d := (d + 4)) hF  hL (h M1 rfl)) (fun r9 B9 M2 hq4 => by obtain ⟨rfl, hL3, v5, rfl, hq4⟩ := hq4; exact ⟨_, rfl, (mz_if_ne 18 d_Mo_take_9 rfl (fun hc23 => (mz_aload_n d_Mo_take_18 rfl (mz_getR (k := 23) (a := (53, 0)) cl_10 d_Mo_take_19 (by decide) wf_Mo_98 rfl (hF 30 0 rfl (by decide)) rfl (hL3 (30, 0) 23 (53, 0) rfl rfl (by decide)) (mz_iload_n d_Mo_take_22 rfl (match (hq4.1 hc23) with | ⟨j6, h7, h8, h9⟩ => mz_iald j6 d_Mo_take_23 (hF 53 0 rfl (by decide)) rfl h7 h8 (mz_iconst (1 : Int32) d_Mo_take_24 (by decide) (mz_icmp_eq 36 d_Mo_take_25 rfl (fun hc18 => (mz_aload_n d_Mo_take_36 rfl (mz_iload_n d_Mo_take_37 rfl (mz_callV (As := [.int a1]) (st := []) (hF 30 0 rfl (by decide)) rfl (mzClOf cl_10) 0 0 d_Mo_take_38 cs_Mo_takeOne wl_Mo_316 wi_Mo_takeOne wse_Mo_takeOne (Nat.le_of_ble_eq_true rfl) (Nat.zero_le _) (Nat.zero_le _) (MzC.mono (tm_Mo_takeOne (d := d) hF  hL3 (h9.1 hc18)) (fun r9 B9 M10 hq12 => by obtain ⟨rfl, hL11, v13, rfl, hq12⟩ := hq12; exact ⟨_, rfl, (mz_iret .int d_Mo_take_41 rfl rfl ⟨rfl, hL11, _, rfl, hq12⟩)⟩)))))) (fun hc18 => (mz_aload_n d_Mo_take_28 rfl (mz_iconst (2 : Int32) d_Mo_take_29 (by decide) (mz_callV (As := [.int (2 : Int32)]) (st := []) (hF 30 0 rfl (by decide)) rfl (mzClOf cl_10) 0 0 d_Mo_take_30 cs_Mo_fail wl_Mo_313 wi_Mo_fail wse_Mo_fail (Nat.le_of_ble_eq_true rfl) (Nat.zero_le _) (Nat.zero_le _) (MzC.mono (tm_Mo_fail (d := (d + 4)) hF  hL3 (h9.2 hc18)) (fun r9 B9 M14 hq16 => by obtain ⟨rfl, hL15, v17, rfl, hq16⟩ := hq16; exact ⟨_, rfl, (mz_goto 41 d_Mo_take_33 rfl (mz_iret .int d_Mo_take_41 rfl rfl ⟨rfl, hL15, _, rfl, hq16⟩))⟩))))))))))))) (fun hc23 => (mz_aload_n d_Mo_take_12 rfl (mz_iconst (1 : Int32) d_Mo_take_13 (by decide) (mz_callV (As := [.int (1 : Int32)]) (st := []) (hF 30 0 rfl (by decide)) rfl (mzClOf cl_10) 0 0 d_Mo_take_14 cs_Mo_fail wl_Mo_313 wi_Mo_fail wse_Mo_fail (Nat.le_of_ble_eq_true rfl) (Nat.zero_le _) (Nat.zero_le _) (MzC.mono (tm_Mo_fail (d := (d + 4)) hF  hL3 (hq4.2 hc23)) (fun r9 B9 M19 hq21 => by obtain ⟨rfl, hL20, v22, rfl, hq21⟩ := hq21; exact ⟨_, rfl, (mz_iret .int d_Mo_take_17 rfl rfl ⟨rfl, hL20, _, rfl, hq21⟩)⟩)))))))⟩)))))))))
def mm_Mo_cutSession : MzT := (⟨"ParcelLineModel", "cutSession", "(I)V"⟩, prog_14_method_61_code, 2, (Option.none : Option Jvm.ClassFile.FieldType))
theorem cs_Mo_cutSession {mm : MzT} : mzCall mm mm_Mo_cutSession 1 := ⟨wn_Mo, wco_Mo_cutSession, by decide +kernel, by decide⟩
theorem d_Mo_cutSession_0 : decode mm_Mo_cutSession.2.1 0 = .ok (.aload_n 0, 1) := by decide +kernel
theorem d_Mo_cutSession_1 : decode mm_Mo_cutSession.2.1 1 = .ok (.iload_n 1, 1) := by decide +kernel
theorem d_Mo_cutSession_2 : decode mm_Mo_cutSession.2.1 2 = .ok (.invokevirtual 122, 3) := by decide +kernel
theorem d_Mo_cutSession_5 : decode mm_Mo_cutSession.2.1 5 = .ok (.aload_n 0, 1) := by decide +kernel
theorem d_Mo_cutSession_6 : decode mm_Mo_cutSession.2.1 6 = .ok (.getfield 71, 3) := by decide +kernel
theorem d_Mo_cutSession_9 : decode mm_Mo_cutSession.2.1 9 = .ok (.iload_n 1, 1) := by decide +kernel
theorem d_Mo_cutSession_10 : decode mm_Mo_cutSession.2.1 10 = .ok (.iconst 0, 1) := by decide +kernel
theorem d_Mo_cutSession_11 : decode mm_Mo_cutSession.2.1 11 = .ok (.iastore, 1) := by decide +kernel
theorem d_Mo_cutSession_12 : decode mm_Mo_cutSession.2.1 12 = .ok (.return_, 1) := by decide +kernel
def wp_Mo_cutSession  (a1 : Int32) (M : MzM) (K : MzM → Prop) : Prop := wp_Mo_beginSession  a1 M (fun M1 => (∃ j7 : Nat, a1.toInt = (j7 : Int) ∧ j7 < 2 ∧ ∀ M4 : MzM, M4 = mz_si M1 (44, 0) j7 (0 : Int32) → K M4))
theorem tm_Mo_cutSession {G : MzG} {B : MzB} {d : Nat} {K : MzM → Prop} (hF : mzLive true B)   {a1 : Int32} {M : MzM} (hL : mzLnk true M) (h : wp_Mo_cutSession  a1 M K) : MzC G B (d + 3) mm_Mo_cutSession [.ref (mz_ad B (30, 0)), .int a1] M (0, 0) (mzK0 true B K) := by
  unfold wp_Mo_cutSession at h
  exact MzC.of rfl (Nat.le_of_ble_eq_true rfl) (show MzS G B (d + 3) mm_Mo_cutSession M (0, 0) (mzK0 true B K) 0 [(0, .ref (mz_ad B (30, 0))), (1, .int a1)] [] from (mz_aload_n d_Mo_cutSession_0 rfl (mz_iload_n d_Mo_cutSession_1 rfl (mz_callV (As := [.int a1]) (st := []) (hF 30 0 rfl (by decide)) rfl (mzClOf cl_10) 0 0 d_Mo_cutSession_2 cs_Mo_beginSession wl_Mo_122 wi_Mo_beginSession wse_Mo_beginSession (Nat.le_of_ble_eq_true rfl) (Nat.zero_le _) (Nat.zero_le _) (MzC.mono (tm_Mo_beginSession (d := d) hF  hL h) (fun r9 B9 M1 hq3 => by obtain ⟨rfl, hL2, rfl, hq3⟩ := hq3; exact ⟨none, rfl, (mz_aload_n d_Mo_cutSession_5 rfl (mz_getR (k := 14) (a := (44, 0)) cl_10 d_Mo_cutSession_6 (by decide) wf_Mo_71 rfl (hF 30 0 rfl (by decide)) rfl (hL2 (30, 0) 14 (44, 0) rfl rfl (by decide)) (mz_iload_n d_Mo_cutSession_9 rfl (mz_iconst (0 : Int32) d_Mo_cutSession_10 (by decide) (match hq3 with | ⟨j7, h8, h9, h6⟩ => mz_iast j7 d_Mo_cutSession_11 (hF 44 0 rfl (by decide)) rfl h8 h9 (let M4 : MzM := mz_si M1 (44, 0) j7 (0 : Int32); (mz_vret d_Mo_cutSession_12 rfl ⟨rfl, hL2, rfl, (h6 M4 rfl)⟩)))))))⟩))))))
def mm_Mo_loseTry : MzT := (⟨"ParcelLineModel", "loseTry", "()V"⟩, prog_14_method_62_code, 1, (Option.none : Option Jvm.ClassFile.FieldType))
theorem cs_Mo_loseTry {mm : MzT} : mzCall mm mm_Mo_loseTry 0 := ⟨wn_Mo, wco_Mo_loseTry, by decide +kernel, by decide⟩
theorem d_Mo_loseTry_0 : decode mm_Mo_loseTry.2.1 0 = .ok (.aload_n 0, 1) := by decide +kernel
theorem d_Mo_loseTry_1 : decode mm_Mo_loseTry.2.1 1 = .ok (.getfield 319, 3) := by decide +kernel
theorem d_Mo_loseTry_4 : decode mm_Mo_loseTry.2.1 4 = .ok (.ifCond .ne 4, 3) := by decide +kernel
theorem d_Mo_loseTry_7 : decode mm_Mo_loseTry.2.1 7 = .ok (.return_, 1) := by decide +kernel
theorem d_Mo_loseTry_8 : decode mm_Mo_loseTry.2.1 8 = .ok (.aload_n 0, 1) := by decide +kernel
theorem d_Mo_loseTry_9 : decode mm_Mo_loseTry.2.1 9 = .ok (.aload_n 0, 1) := by decide +kernel
theorem d_Mo_loseTry_10 : decode mm_Mo_loseTry.2.1 10 = .ok (.getfield 323, 3) := by decide +kernel
theorem d_Mo_loseTry_13 : decode mm_Mo_loseTry.2.1 13 = .ok (.ifCond .le 7, 3) := by decide +kernel
theorem d_Mo_loseTry_16 : decode mm_Mo_loseTry.2.1 16 = .ok (.iconst 0, 1) := by decide +kernel
theorem d_Mo_loseTry_17 : decode mm_Mo_loseTry.2.1 17 = .ok (.goto 4, 3) := by decide +kernel
theorem d_Mo_loseTry_20 : decode mm_Mo_loseTry.2.1 20 = .ok (.iconst 5, 1) := by decide +kernel
theorem d_Mo_loseTry_21 : decode mm_Mo_loseTry.2.1 21 = .ok (.putfield 326, 3) := by decide +kernel
theorem d_Mo_loseTry_24 : decode mm_Mo_loseTry.2.1 24 = .ok (.aload_n 0, 1) := by decide +kernel
theorem d_Mo_loseTry_25 : decode mm_Mo_loseTry.2.1 25 = .ok (.aload_n 0, 1) := by decide +kernel
theorem d_Mo_loseTry_26 : decode mm_Mo_loseTry.2.1 26 = .ok (.getfield 323, 3) := by decide +kernel
theorem d_Mo_loseTry_29 : decode mm_Mo_loseTry.2.1 29 = .ok (.ifCond .le 12, 3) := by decide +kernel
theorem d_Mo_loseTry_32 : decode mm_Mo_loseTry.2.1 32 = .ok (.aload_n 0, 1) := by decide +kernel
theorem d_Mo_loseTry_33 : decode mm_Mo_loseTry.2.1 33 = .ok (.getfield 323, 3) := by decide +kernel
theorem d_Mo_loseTry_36 : decode mm_Mo_loseTry.2.1 36 = .ok (.iconst 1, 1) := by decide +kernel
theorem d_Mo_loseTry_37 : decode mm_Mo_loseTry.2.1 37 = .ok (.isub, 1) := by decide +kernel
theorem d_Mo_loseTry_38 : decode mm_Mo_loseTry.2.1 38 = .ok (.goto 4, 3) := by decide +kernel
theorem d_Mo_loseTry_41 : decode mm_Mo_loseTry.2.1 41 = .ok (.iconst 0, 1) := by decide +kernel
theorem d_Mo_loseTry_42 : decode mm_Mo_loseTry.2.1 42 = .ok (.putfield 323, 3) := by decide +kernel
theorem d_Mo_loseTry_45 : decode mm_Mo_loseTry.2.1 45 = .ok (.return_, 1) := by decide +kernel
def wp_Mo_loseTry_21   (K : MzM → Prop) (ys0 : Int32) (M : MzM) : Prop := (∀ M3 : MzM, M3 = mz_si M (30, 0) 43 ys0 → (((mz_i M3 (30, 0) 42) ≤ 0 → (∀ M4 : MzM, M4 = mz_si M3 (30, 0) 42 (0 : Int32) → K M4)) ∧ (¬ (mz_i M3 (30, 0) 42) ≤ 0 → (∀ M5 : MzM, M5 = mz_si M3 (30, 0) 42 ((mz_i M3 (30, 0) 42) - (1 : Int32)) → K M5))))
def wp_Mo_loseTry   (M : MzM) (K : MzM → Prop) : Prop := ((¬ (mz_i M (30, 0) 38) = 0 → (((mz_i M (30, 0) 42) ≤ 0 → wp_Mo_loseTry_21   K (5 : Int32) M) ∧ (¬ (mz_i M (30, 0) 42) ≤ 0 → wp_Mo_loseTry_21   K (0 : Int32) M))) ∧ ((mz_i M (30, 0) 38) = 0 → K M))
theorem tm_Mo_loseTry_21 {G : MzG} {B : MzB} {d : Nat} {K : MzM → Prop} (hF : mzLive true B)     (ys0 : Int32) (M : MzM) (hL : mzLnk true M) (h : wp_Mo_loseTry_21   K ys0 M) : MzS G B d mm_Mo_loseTry M (0, 0) (mzK0 true B K) 21 [(0, .ref (mz_ad B (30, 0)))] [.int ys0, .ref (mz_ad B (30, 0))] := by
  unfold wp_Mo_loseTry_21 at h
  exact (mz_putI (k := 43) cl_10 d_Mo_loseTry_21 (by decide) wf_Mo_326 rfl rfl rfl rfl (hF 30 0 rfl (by decide)) rfl (let M3 : MzM := mz_si M (30, 0) 43 ys0; (mz_aload_n d_Mo_loseTry_24 rfl (mz_aload_n d_Mo_loseTry_25 rfl (mz_getI (k := 42) cl_10 d_Mo_loseTry_26 (by decide) wf_Mo_323 rfl (hF 30 0 rfl (by decide)) rfl (mz_if_le 41 d_Mo_loseTry_29 rfl (fun hc6 => (mz_iconst (0 : Int32) d_Mo_loseTry_41 (by decide) (mz_putI (k := 42) cl_10 d_Mo_loseTry_42 (by decide) wf_Mo_323 rfl rfl rfl rfl (hF 30 0 rfl (by decide)) rfl (let M4 : MzM := mz_si M3 (30, 0) 42 (0 : Int32); (mz_vret d_Mo_loseTry_45 rfl ⟨rfl, hL, rfl, (((h M3 rfl).1 hc6) M4 rfl)⟩))))) (fun hc6 => (mz_aload_n d_Mo_loseTry_32 rfl (mz_getI (k := 42) cl_10 d_Mo_loseTry_33 (by decide) wf_Mo_323 rfl (hF 30 0 rfl (by decide)) rfl (mz_iconst (1 : Int32) d_Mo_loseTry_36 (by decide) (mz_isub d_Mo_loseTry_37 (mz_goto 42 d_Mo_loseTry_38 rfl (mz_putI (k := 42) cl_10 d_Mo_loseTry_42 (by decide) wf_Mo_323 rfl rfl rfl rfl (hF 30 0 rfl (by decide)) rfl (let M5 : MzM := mz_si M3 (30, 0) 42 ((mz_i M3 (30, 0) 42) - (1 : Int32)); (mz_vret d_Mo_loseTry_45 rfl ⟨rfl, hL, rfl, (((h M3 rfl).2 hc6) M5 rfl)⟩)))))))))))))))
theorem tm_Mo_loseTry {G : MzG} {B : MzB} {d : Nat} {K : MzM → Prop} (hF : mzLive true B)    {M : MzM} (hL : mzLnk true M) (h : wp_Mo_loseTry   M K) : MzC G B d mm_Mo_loseTry [.ref (mz_ad B (30, 0))] M (0, 0) (mzK0 true B K) := by
  unfold wp_Mo_loseTry at h
  exact MzC.of rfl (Nat.le_of_ble_eq_true rfl) (show MzS G B d mm_Mo_loseTry M (0, 0) (mzK0 true B K) 0 [(0, .ref (mz_ad B (30, 0)))] [] from (mz_aload_n d_Mo_loseTry_0 rfl (mz_getI (k := 38) cl_10 d_Mo_loseTry_1 (by decide) wf_Mo_319 rfl (hF 30 0 rfl (by decide)) rfl (mz_if_ne 8 d_Mo_loseTry_4 rfl (fun hc2 => (mz_aload_n d_Mo_loseTry_8 rfl (mz_aload_n d_Mo_loseTry_9 rfl (mz_getI (k := 42) cl_10 d_Mo_loseTry_10 (by decide) wf_Mo_323 rfl (hF 30 0 rfl (by decide)) rfl (mz_if_le 20 d_Mo_loseTry_13 rfl (fun hc1 => (mz_iconst (5 : Int32) d_Mo_loseTry_20 (by decide) (MzS.loc [(0, .ref (mz_ad B (30, 0)))] ⟨rfl, trivial⟩ (tm_Mo_loseTry_21 hF   (5 : Int32) M hL ((h.1 hc2).1 hc1))))) (fun hc1 => (mz_iconst (0 : Int32) d_Mo_loseTry_16 (by decide) (mz_goto 21 d_Mo_loseTry_17 rfl (MzS.loc [(0, .ref (mz_ad B (30, 0)))] ⟨rfl, trivial⟩ (tm_Mo_loseTry_21 hF   (0 : Int32) M hL ((h.1 hc2).2 hc1))))))))))) (fun hc2 => (mz_vret d_Mo_loseTry_7 rfl ⟨rfl, hL, rfl, (h.2 hc2)⟩))))))
def mm_Mo_cut : MzT := (⟨"ParcelLineModel", "cut", "(I)Z"⟩, prog_14_method_63_code, 2, (Option.some Jvm.ClassFile.FieldType.boolean))
theorem cs_Mo_cut {mm : MzT} : mzCall mm mm_Mo_cut 1 := ⟨wn_Mo, wco_Mo_cut, by decide +kernel, by decide⟩
theorem d_Mo_cut_0 : decode mm_Mo_cut.2.1 0 = .ok (.aload_n 0, 1) := by decide +kernel
theorem d_Mo_cut_1 : decode mm_Mo_cut.2.1 1 = .ok (.iconst 0, 1) := by decide +kernel
theorem d_Mo_cut_2 : decode mm_Mo_cut.2.1 2 = .ok (.putfield 126, 3) := by decide +kernel
theorem d_Mo_cut_5 : decode mm_Mo_cut.2.1 5 = .ok (.iload_n 1, 1) := by decide +kernel
theorem d_Mo_cut_6 : decode mm_Mo_cut.2.1 6 = .ok (.invokestatic 182, 3) := by decide +kernel
theorem d_Mo_cut_9 : decode mm_Mo_cut.2.1 9 = .ok (.ifCond .ne 5, 3) := by decide +kernel
theorem d_Mo_cut_12 : decode mm_Mo_cut.2.1 12 = .ok (.iconst 0, 1) := by decide +kernel
theorem d_Mo_cut_13 : decode mm_Mo_cut.2.1 13 = .ok (.ireturn, 1) := by decide +kernel
theorem d_Mo_cut_14 : decode mm_Mo_cut.2.1 14 = .ok (.aload_n 0, 1) := by decide +kernel
theorem d_Mo_cut_15 : decode mm_Mo_cut.2.1 15 = .ok (.iload_n 1, 1) := by decide +kernel
theorem d_Mo_cut_16 : decode mm_Mo_cut.2.1 16 = .ok (.invokevirtual 329, 3) := by decide +kernel
theorem d_Mo_cut_19 : decode mm_Mo_cut.2.1 19 = .ok (.iload_n 1, 1) := by decide +kernel
theorem d_Mo_cut_20 : decode mm_Mo_cut.2.1 20 = .ok (.iconst 1, 1) := by decide +kernel
theorem d_Mo_cut_21 : decode mm_Mo_cut.2.1 21 = .ok (.if_icmp .ne 7, 3) := by decide +kernel
theorem d_Mo_cut_24 : decode mm_Mo_cut.2.1 24 = .ok (.aload_n 0, 1) := by decide +kernel
theorem d_Mo_cut_25 : decode mm_Mo_cut.2.1 25 = .ok (.invokevirtual 332, 3) := by decide +kernel
theorem d_Mo_cut_28 : decode mm_Mo_cut.2.1 28 = .ok (.iconst 1, 1) := by decide +kernel
theorem d_Mo_cut_29 : decode mm_Mo_cut.2.1 29 = .ok (.ireturn, 1) := by decide +kernel
def wp_Mo_cut  (a1 : Int32) (M : MzM) (K : Int32 → MzM → Prop) : Prop := (∀ M1 : MzM, M1 = mz_si M (30, 0) 1 (0 : Int32) → wp_Mo_isSession  a1 M1 (fun v5 M2 => ((¬ v5 = 0 → wp_Mo_cutSession  a1 M2 (fun M6 => ((¬ a1 = (1 : Int32) → K (1 : Int32) M6) ∧ (a1 = (1 : Int32) → wp_Mo_loseTry   M6 (fun M9 => K (1 : Int32) M9))))) ∧ (v5 = 0 → K (0 : Int32) M2))))
theorem tm_Mo_cut {G : MzG} {B : MzB} {d : Nat} {K : Int32 → MzM → Prop} (hF : mzLive true B)   {a1 : Int32} {M : MzM} (hL : mzLnk true M) (h : wp_Mo_cut  a1 M K) : MzC G B (d + 4) mm_Mo_cut [.ref (mz_ad B (30, 0)), .int a1] M (0, 0) (mzK1 true B K) := by
  unfold wp_Mo_cut at h
  exact MzC.of rfl (Nat.le_of_ble_eq_true rfl) (show MzS G B (d + 4) mm_Mo_cut M (0, 0) (mzK1 true B K) 0 [(0, .ref (mz_ad B (30, 0))), (1, .int a1)] [] from (mz_aload_n d_Mo_cut_0 rfl (mz_iconst (0 : Int32) d_Mo_cut_1 (by decide) (mz_putI (k := 1) cl_10 d_Mo_cut_2 (by decide) wf_Mo_126 rfl rfl rfl rfl (hF 30 0 rfl (by decide)) rfl (let M1 : MzM := mz_si M (30, 0) 1 (0 : Int32); (mz_iload_n d_Mo_cut_5 rfl (mz_callS (As := [.int a1]) (st := []) 0 0 d_Mo_cut_6 cs_Mo_isSession wl_Mo_182 ws_Mo_isSession (Nat.le_of_ble_eq_true rfl) (Nat.zero_le _) (Nat.zero_le _) (MzC.mono (tm_Mo_isSession (d := (d + 3)) hF  hL (h M1 rfl)) (fun r9 B9 M2 hq4 => by obtain ⟨rfl, hL3, v5, rfl, hq4⟩ := hq4; exact ⟨_, rfl, (mz_if_ne 14 d_Mo_cut_9 rfl (fun hc13 => (mz_aload_n d_Mo_cut_14 rfl (mz_iload_n d_Mo_cut_15 rfl (mz_callV (As := [.int a1]) (st := []) (hF 30 0 rfl (by decide)) rfl (mzClOf cl_10) 0 0 d_Mo_cut_16 cs_Mo_cutSession wl_Mo_329 wi_Mo_cutSession wse_Mo_cutSession (Nat.le_of_ble_eq_true rfl) (Nat.zero_le _) (Nat.zero_le _) (MzC.mono (tm_Mo_cutSession (d := d) hF  hL3 (hq4.1 hc13)) (fun r9 B9 M6 hq8 => by obtain ⟨rfl, hL7, rfl, hq8⟩ := hq8; exact ⟨none, rfl, (mz_iload_n d_Mo_cut_19 rfl (mz_iconst (1 : Int32) d_Mo_cut_20 (by decide) (mz_icmp_ne 28 d_Mo_cut_21 rfl (fun hc12 => (mz_iconst (1 : Int32) d_Mo_cut_28 (by decide) (mz_iret .boolean d_Mo_cut_29 rfl rfl ⟨rfl, hL7, _, rfl, (hq8.1 hc12)⟩))) (fun hc12 => (mz_aload_n d_Mo_cut_24 rfl (mz_callV (As := []) (st := []) (hF 30 0 rfl (by decide)) rfl (mzClOf cl_10) 0 0 d_Mo_cut_25 cs_Mo_loseTry wl_Mo_332 wi_Mo_loseTry wse_Mo_loseTry (Nat.le_of_ble_eq_true rfl) (Nat.zero_le _) (Nat.zero_le _) (MzC.mono (tm_Mo_loseTry (d := (d + 3)) hF  hL7 (hq8.2 hc12)) (fun r9 B9 M9 hq11 => by obtain ⟨rfl, hL10, rfl, hq11⟩ := hq11; exact ⟨none, rfl, (mz_iconst (1 : Int32) d_Mo_cut_28 (by decide) (mz_iret .boolean d_Mo_cut_29 rfl rfl ⟨rfl, hL10, _, rfl, hq11⟩))⟩))))))))⟩)))))) (fun hc13 => (mz_iconst (0 : Int32) d_Mo_cut_12 (by decide) (mz_iret .boolean d_Mo_cut_13 rfl rfl ⟨rfl, hL3, _, rfl, (hq4.2 hc13)⟩))))⟩)))))))))
def mm_Mo_crash : MzT := (⟨"ParcelLineModel", "crash", "()V"⟩, prog_14_method_64_code, 2, (Option.none : Option Jvm.ClassFile.FieldType))
theorem cs_Mo_crash {mm : MzT} : mzCall mm mm_Mo_crash 0 := ⟨wn_Mo, wco_Mo_crash, by decide +kernel, by decide⟩
theorem d_Mo_crash_0 : decode mm_Mo_crash.2.1 0 = .ok (.aload_n 0, 1) := by decide +kernel
theorem d_Mo_crash_1 : decode mm_Mo_crash.2.1 1 = .ok (.iconst 0, 1) := by decide +kernel
theorem d_Mo_crash_2 : decode mm_Mo_crash.2.1 2 = .ok (.putfield 126, 3) := by decide +kernel
theorem d_Mo_crash_5 : decode mm_Mo_crash.2.1 5 = .ok (.aload_n 0, 1) := by decide +kernel
theorem d_Mo_crash_6 : decode mm_Mo_crash.2.1 6 = .ok (.iconst 0, 1) := by decide +kernel
theorem d_Mo_crash_7 : decode mm_Mo_crash.2.1 7 = .ok (.invokevirtual 329, 3) := by decide +kernel
theorem d_Mo_crash_10 : decode mm_Mo_crash.2.1 10 = .ok (.aload_n 0, 1) := by decide +kernel
theorem d_Mo_crash_11 : decode mm_Mo_crash.2.1 11 = .ok (.iconst 1, 1) := by decide +kernel
theorem d_Mo_crash_12 : decode mm_Mo_crash.2.1 12 = .ok (.invokevirtual 329, 3) := by decide +kernel
theorem d_Mo_crash_15 : decode mm_Mo_crash.2.1 15 = .ok (.iconst 1, 1) := by decide +kernel
theorem d_Mo_crash_16 : decode mm_Mo_crash.2.1 16 = .ok (.istore_n 1, 1) := by decide +kernel
theorem d_Mo_crash_17 : decode mm_Mo_crash.2.1 17 = .ok (.iload_n 1, 1) := by decide +kernel
theorem d_Mo_crash_18 : decode mm_Mo_crash.2.1 18 = .ok (.bipush 16, 2) := by decide +kernel
theorem d_Mo_crash_20 : decode mm_Mo_crash.2.1 20 = .ok (.if_icmp .ge 57, 3) := by decide +kernel
theorem d_Mo_crash_23 : decode mm_Mo_crash.2.1 23 = .ok (.aload_n 0, 1) := by decide +kernel
theorem d_Mo_crash_24 : decode mm_Mo_crash.2.1 24 = .ok (.getfield 34, 3) := by decide +kernel
theorem d_Mo_crash_27 : decode mm_Mo_crash.2.1 27 = .ok (.iload_n 1, 1) := by decide +kernel
theorem d_Mo_crash_28 : decode mm_Mo_crash.2.1 28 = .ok (.baload, 1) := by decide +kernel
theorem d_Mo_crash_29 : decode mm_Mo_crash.2.1 29 = .ok (.ifCond .eq 42, 3) := by decide +kernel
theorem d_Mo_crash_32 : decode mm_Mo_crash.2.1 32 = .ok (.aload_n 0, 1) := by decide +kernel
theorem d_Mo_crash_33 : decode mm_Mo_crash.2.1 33 = .ok (.getfield 38, 3) := by decide +kernel
theorem d_Mo_crash_36 : decode mm_Mo_crash.2.1 36 = .ok (.iload_n 1, 1) := by decide +kernel
theorem d_Mo_crash_37 : decode mm_Mo_crash.2.1 37 = .ok (.baload, 1) := by decide +kernel
theorem d_Mo_crash_38 : decode mm_Mo_crash.2.1 38 = .ok (.ifCond .eq 33, 3) := by decide +kernel
theorem d_Mo_crash_41 : decode mm_Mo_crash.2.1 41 = .ok (.aload_n 0, 1) := by decide +kernel
theorem d_Mo_crash_42 : decode mm_Mo_crash.2.1 42 = .ok (.getfield 50, 3) := by decide +kernel
theorem d_Mo_crash_45 : decode mm_Mo_crash.2.1 45 = .ok (.iload_n 1, 1) := by decide +kernel
theorem d_Mo_crash_46 : decode mm_Mo_crash.2.1 46 = .ok (.baload, 1) := by decide +kernel
theorem d_Mo_crash_47 : decode mm_Mo_crash.2.1 47 = .ok (.ifCond .ne 24, 3) := by decide +kernel
theorem d_Mo_crash_50 : decode mm_Mo_crash.2.1 50 = .ok (.aload_n 0, 1) := by decide +kernel
theorem d_Mo_crash_51 : decode mm_Mo_crash.2.1 51 = .ok (.getfield 47, 3) := by decide +kernel
theorem d_Mo_crash_54 : decode mm_Mo_crash.2.1 54 = .ok (.iload_n 1, 1) := by decide +kernel
theorem d_Mo_crash_55 : decode mm_Mo_crash.2.1 55 = .ok (.aload_n 0, 1) := by decide +kernel
theorem d_Mo_crash_56 : decode mm_Mo_crash.2.1 56 = .ok (.getfield 47, 3) := by decide +kernel
theorem d_Mo_crash_59 : decode mm_Mo_crash.2.1 59 = .ok (.iload_n 1, 1) := by decide +kernel
theorem d_Mo_crash_60 : decode mm_Mo_crash.2.1 60 = .ok (.iaload, 1) := by decide +kernel
theorem d_Mo_crash_61 : decode mm_Mo_crash.2.1 61 = .ok (.aload_n 0, 1) := by decide +kernel
theorem d_Mo_crash_62 : decode mm_Mo_crash.2.1 62 = .ok (.getfield 47, 3) := by decide +kernel
theorem d_Mo_crash_65 : decode mm_Mo_crash.2.1 65 = .ok (.iload_n 1, 1) := by decide +kernel
theorem d_Mo_crash_66 : decode mm_Mo_crash.2.1 66 = .ok (.iaload, 1) := by decide +kernel
theorem d_Mo_crash_67 : decode mm_Mo_crash.2.1 67 = .ok (.iconst 4, 1) := by decide +kernel
theorem d_Mo_crash_68 : decode mm_Mo_crash.2.1 68 = .ok (.irem, 1) := by decide +kernel
theorem d_Mo_crash_69 : decode mm_Mo_crash.2.1 69 = .ok (.isub, 1) := by decide +kernel
theorem d_Mo_crash_70 : decode mm_Mo_crash.2.1 70 = .ok (.iastore, 1) := by decide +kernel
theorem d_Mo_crash_71 : decode mm_Mo_crash.2.1 71 = .ok (.iinc 1 1, 3) := by decide +kernel
theorem d_Mo_crash_74 : decode mm_Mo_crash.2.1 74 = .ok (.goto (-57), 3) := by decide +kernel
theorem d_Mo_crash_77 : decode mm_Mo_crash.2.1 77 = .ok (.aload_n 0, 1) := by decide +kernel
theorem d_Mo_crash_78 : decode mm_Mo_crash.2.1 78 = .ok (.invokevirtual 332, 3) := by decide +kernel
theorem d_Mo_crash_81 : decode mm_Mo_crash.2.1 81 = .ok (.return_, 1) := by decide +kernel
def wp_Mo_crash_71  (H17 : Int32 → MzM → Prop) (K : MzM → Prop) (y1 : Int32) (M : MzM) : Prop := H17 (y1 + (1 : Int32)) M
def wp_Mo_crash_17   (K : MzM → Prop) : Nat → Int32 → MzM → Prop
  | 0, _, _ => False
  | r0 + 1, y1, M => (((16 : Int32) ≤ y1 → wp_Mo_loseTry   M (fun M10 => K M10)) ∧ (¬ (16 : Int32) ≤ y1 → (∃ j13 : Nat, y1.toInt = (j13 : Int) ∧ j13 < 16 ∧ (((mz_i M (32, 0) j13) = 0 → wp_Mo_crash_71  (wp_Mo_crash_17   K r0) K y1 M) ∧ (¬ (mz_i M (32, 0) j13) = 0 → (∃ j17 : Nat, y1.toInt = (j17 : Int) ∧ j17 < 16 ∧ (((mz_i M (33, 0) j17) = 0 → wp_Mo_crash_71  (wp_Mo_crash_17   K r0) K y1 M) ∧ (¬ (mz_i M (33, 0) j17) = 0 → (∃ j21 : Nat, y1.toInt = (j21 : Int) ∧ j21 < 16 ∧ ((¬ (mz_i M (37, 0) j21) = 0 → wp_Mo_crash_71  (wp_Mo_crash_17   K r0) K y1 M) ∧ ((mz_i M (37, 0) j21) = 0 → (∃ j25 : Nat, y1.toInt = (j25 : Int) ∧ j25 < 16 ∧ (∃ j29 : Nat, y1.toInt = (j29 : Int) ∧ j29 < 16 ∧ (∃ j36 : Nat, y1.toInt = (j36 : Int) ∧ j36 < 16 ∧ ∀ M33 : MzM, M33 = mz_si M (36, 0) j36 ((mz_i M (36, 0) j25) - ((mz_i M (36, 0) j29) - (mz_i M (36, 0) j29) / (4 : Int32) * (4 : Int32))) → wp_Mo_crash_71  (wp_Mo_crash_17   K r0) K y1 M33))))))))))))))
def wp_Mo_crash   (M : MzM) (K : MzM → Prop) : Prop := (∀ M1 : MzM, M1 = mz_si M (30, 0) 1 (0 : Int32) → wp_Mo_cutSession  (0 : Int32) M1 (fun M2 => wp_Mo_cutSession  (1 : Int32) M2 (fun M5 => (∃ r8 : Nat, wp_Mo_crash_17   K r8 (1 : Int32) M5))))
theorem tm_Mo_crash_71 {G : MzG} {B : MzB} {d : Nat} {K : MzM → Prop} (hF : mzLive true B)   {H17 : Int32 → MzM → Prop} (hH17 : ∀ (y1 : Int32) (M : MzM), mzLnk true M → H17 y1 M → MzS G B (d + 4) mm_Mo_crash M (0, 0) (mzK0 true B K) 17 [(0, .ref (mz_ad B (30, 0))), (1, .int y1)] []) (y1 : Int32) (M : MzM) (hL : mzLnk true M) (h : wp_Mo_crash_71  H17 K y1 M) : MzS G B (d + 4) mm_Mo_crash M (0, 0) (mzK0 true B K) 71 [(0, .ref (mz_ad B (30, 0))), (1, .int y1)] [] := by
  unfold wp_Mo_crash_71 at h
  exact (mz_iinc (y1 + (1 : Int32)) d_Mo_crash_71 rfl (by decide) rfl (mz_goto 17 d_Mo_crash_74 rfl (MzS.loc [(0, .ref (mz_ad B (30, 0))), (1, .int (y1 + (1 : Int32)))] ⟨rfl, rfl, trivial⟩ (hH17 (y1 + (1 : Int32)) M hL h))))
theorem tm_Mo_crash_17 {G : MzG} {B : MzB} {d : Nat} {K : MzM → Prop} (hF : mzLive true B)     : ∀ (r0 : Nat) (y1 : Int32) (M : MzM), mzLnk true M → wp_Mo_crash_17   K r0 y1 M → MzS G B (d + 4) mm_Mo_crash M (0, 0) (mzK0 true B K) 17 [(0, .ref (mz_ad B (30, 0))), (1, .int y1)] [] := by
  intro r0
  induction r0 with
  | zero => intro y1 M hL h; exact False.elim h
  | succ r0 hH17 =>
    intro y1 M hL h
    unfold wp_Mo_crash_17 at h
    exact (mz_iload_n d_Mo_crash_17 rfl (mz_bipush (16 : Int32) d_Mo_crash_18 (by decide) (mz_icmp_ge 77 d_Mo_crash_20 rfl (fun hc42 => (mz_aload_n d_Mo_crash_77 rfl (mz_callV (As := []) (st := []) (hF 30 0 rfl (by decide)) rfl (mzClOf cl_10) 0 0 d_Mo_crash_78 cs_Mo_loseTry wl_Mo_332 wi_Mo_loseTry wse_Mo_loseTry (Nat.le_of_ble_eq_true rfl) (Nat.zero_le _) (Nat.zero_le _) (MzC.mono (tm_Mo_loseTry (d := (d + 3)) hF  hL (h.1 hc42)) (fun r9 B9 M10 hq12 => by obtain ⟨rfl, hL11, rfl, hq12⟩ := hq12; exact ⟨none, rfl, (mz_vret d_Mo_crash_81 rfl ⟨rfl, hL11, rfl, hq12⟩)⟩))))) (fun hc42 => (mz_aload_n d_Mo_crash_23 rfl (mz_getR (k := 2) (a := (32, 0)) cl_10 d_Mo_crash_24 (by decide) wf_Mo_34 rfl (hF 30 0 rfl (by decide)) rfl (hL (30, 0) 2 (32, 0) rfl rfl (by decide)) (mz_iload_n d_Mo_crash_27 rfl (match (h.2 hc42) with | ⟨j13, h14, h15, h16⟩ => mz_zald j13 d_Mo_crash_28 (hF 32 0 rfl (by decide)) rfl h14 h15 (mz_if_eq 71 d_Mo_crash_29 rfl (fun hc41 => (MzS.loc [(0, .ref (mz_ad B (30, 0))), (1, .int y1)] ⟨rfl, rfl, trivial⟩ (tm_Mo_crash_71 hF  hH17 y1 M hL (h16.1 hc41)))) (fun hc41 => (mz_aload_n d_Mo_crash_32 rfl (mz_getR (k := 3) (a := (33, 0)) cl_10 d_Mo_crash_33 (by decide) wf_Mo_38 rfl (hF 30 0 rfl (by decide)) rfl (hL (30, 0) 3 (33, 0) rfl rfl (by decide)) (mz_iload_n d_Mo_crash_36 rfl (match (h16.2 hc41) with | ⟨j17, h18, h19, h20⟩ => mz_zald j17 d_Mo_crash_37 (hF 33 0 rfl (by decide)) rfl h18 h19 (mz_if_eq 71 d_Mo_crash_38 rfl (fun hc40 => (MzS.loc [(0, .ref (mz_ad B (30, 0))), (1, .int y1)] ⟨rfl, rfl, trivial⟩ (tm_Mo_crash_71 hF  hH17 y1 M hL (h20.1 hc40)))) (fun hc40 => (mz_aload_n d_Mo_crash_41 rfl (mz_getR (k := 7) (a := (37, 0)) cl_10 d_Mo_crash_42 (by decide) wf_Mo_50 rfl (hF 30 0 rfl (by decide)) rfl (hL (30, 0) 7 (37, 0) rfl rfl (by decide)) (mz_iload_n d_Mo_crash_45 rfl (match (h20.2 hc40) with | ⟨j21, h22, h23, h24⟩ => mz_zald j21 d_Mo_crash_46 (hF 37 0 rfl (by decide)) rfl h22 h23 (mz_if_ne 71 d_Mo_crash_47 rfl (fun hc39 => (MzS.loc [(0, .ref (mz_ad B (30, 0))), (1, .int y1)] ⟨rfl, rfl, trivial⟩ (tm_Mo_crash_71 hF  hH17 y1 M hL (h24.1 hc39)))) (fun hc39 => (mz_aload_n d_Mo_crash_50 rfl (mz_getR (k := 6) (a := (36, 0)) cl_10 d_Mo_crash_51 (by decide) wf_Mo_47 rfl (hF 30 0 rfl (by decide)) rfl (hL (30, 0) 6 (36, 0) rfl rfl (by decide)) (mz_iload_n d_Mo_crash_54 rfl (mz_aload_n d_Mo_crash_55 rfl (mz_getR (k := 6) (a := (36, 0)) cl_10 d_Mo_crash_56 (by decide) wf_Mo_47 rfl (hF 30 0 rfl (by decide)) rfl (hL (30, 0) 6 (36, 0) rfl rfl (by decide)) (mz_iload_n d_Mo_crash_59 rfl (match (h24.2 hc39) with | ⟨j25, h26, h27, h28⟩ => mz_iald j25 d_Mo_crash_60 (hF 36 0 rfl (by decide)) rfl h26 h27 (mz_aload_n d_Mo_crash_61 rfl (mz_getR (k := 6) (a := (36, 0)) cl_10 d_Mo_crash_62 (by decide) wf_Mo_47 rfl (hF 30 0 rfl (by decide)) rfl (hL (30, 0) 6 (36, 0) rfl rfl (by decide)) (mz_iload_n d_Mo_crash_65 rfl (match h28 with | ⟨j29, h30, h31, h32⟩ => mz_iald j29 d_Mo_crash_66 (hF 36 0 rfl (by decide)) rfl h30 h31 (mz_iconst (4 : Int32) d_Mo_crash_67 (by decide) (mz_irem d_Mo_crash_68 (by decide) (mz_isub d_Mo_crash_69 (match h32 with | ⟨j36, h37, h38, h35⟩ => mz_iast j36 d_Mo_crash_70 (hF 36 0 rfl (by decide)) rfl h37 h38 (let M33 : MzM := mz_si M (36, 0) j36 ((mz_i M (36, 0) j25) - ((mz_i M (36, 0) j29) - (mz_i M (36, 0) j29) / (4 : Int32) * (4 : Int32))); (MzS.loc [(0, .ref (mz_ad B (30, 0))), (1, .int y1)] ⟨rfl, rfl, trivial⟩ (tm_Mo_crash_71 hF  hH17 y1 M33 hL (h35 M33 rfl)))))))))))))))))))))))))))))))))))))))))
theorem tm_Mo_crash {G : MzG} {B : MzB} {d : Nat} {K : MzM → Prop} (hF : mzLive true B)    {M : MzM} (hL : mzLnk true M) (h : wp_Mo_crash   M K) : MzC G B (d + 4) mm_Mo_crash [.ref (mz_ad B (30, 0))] M (0, 0) (mzK0 true B K) := by
  unfold wp_Mo_crash at h
  exact MzC.of rfl (Nat.le_of_ble_eq_true rfl) (show MzS G B (d + 4) mm_Mo_crash M (0, 0) (mzK0 true B K) 0 [(0, .ref (mz_ad B (30, 0)))] [] from (mz_aload_n d_Mo_crash_0 rfl (mz_iconst (0 : Int32) d_Mo_crash_1 (by decide) (mz_putI (k := 1) cl_10 d_Mo_crash_2 (by decide) wf_Mo_126 rfl rfl rfl rfl (hF 30 0 rfl (by decide)) rfl (let M1 : MzM := mz_si M (30, 0) 1 (0 : Int32); (mz_aload_n d_Mo_crash_5 rfl (mz_iconst (0 : Int32) d_Mo_crash_6 (by decide) (mz_callV (As := [.int (0 : Int32)]) (st := []) (hF 30 0 rfl (by decide)) rfl (mzClOf cl_10) 0 0 d_Mo_crash_7 cs_Mo_cutSession wl_Mo_329 wi_Mo_cutSession wse_Mo_cutSession (Nat.le_of_ble_eq_true rfl) (Nat.zero_le _) (Nat.zero_le _) (MzC.mono (tm_Mo_cutSession (d := d) hF  hL (h M1 rfl)) (fun r9 B9 M2 hq4 => by obtain ⟨rfl, hL3, rfl, hq4⟩ := hq4; exact ⟨none, rfl, (mz_aload_n d_Mo_crash_10 rfl (mz_iconst (1 : Int32) d_Mo_crash_11 (by decide) (mz_callV (As := [.int (1 : Int32)]) (st := []) (hF 30 0 rfl (by decide)) rfl (mzClOf cl_10) 0 0 d_Mo_crash_12 cs_Mo_cutSession wl_Mo_329 wi_Mo_cutSession wse_Mo_cutSession (Nat.le_of_ble_eq_true rfl) (Nat.zero_le _) (Nat.zero_le _) (MzC.mono (tm_Mo_cutSession (d := d) hF  hL3 hq4) (fun r9 B9 M5 hq7 => by obtain ⟨rfl, hL6, rfl, hq7⟩ := hq7; exact ⟨none, rfl, (mz_iconst (1 : Int32) d_Mo_crash_15 (by decide) (mz_istore_n d_Mo_crash_16 (by decide) (MzS.loc [(0, .ref (mz_ad B (30, 0))), (1, .int (1 : Int32))] ⟨rfl, rfl, trivial⟩ (match hq7 with | ⟨r8, h9⟩ => tm_Mo_crash_17 hF   r8 (1 : Int32) M5 hL6 h9))))⟩)))))⟩))))))))))
def mm_Mo_waiting : MzT := (⟨"ParcelLineModel", "waiting", "(I)I"⟩, prog_14_method_65_code, 2, (Option.some Jvm.ClassFile.FieldType.int))
theorem cs_Mo_waiting {mm : MzT} : mzCall mm mm_Mo_waiting 1 := ⟨wn_Mo, wco_Mo_waiting, by decide +kernel, by decide⟩
theorem d_Mo_waiting_0 : decode mm_Mo_waiting.2.1 0 = .ok (.aload_n 0, 1) := by decide +kernel
theorem d_Mo_waiting_1 : decode mm_Mo_waiting.2.1 1 = .ok (.iconst 0, 1) := by decide +kernel
theorem d_Mo_waiting_2 : decode mm_Mo_waiting.2.1 2 = .ok (.putfield 126, 3) := by decide +kernel
theorem d_Mo_waiting_5 : decode mm_Mo_waiting.2.1 5 = .ok (.iload_n 1, 1) := by decide +kernel
theorem d_Mo_waiting_6 : decode mm_Mo_waiting.2.1 6 = .ok (.invokestatic 182, 3) := by decide +kernel
theorem d_Mo_waiting_9 : decode mm_Mo_waiting.2.1 9 = .ok (.ifCond .eq 12, 3) := by decide +kernel
theorem d_Mo_waiting_12 : decode mm_Mo_waiting.2.1 12 = .ok (.aload_n 0, 1) := by decide +kernel
theorem d_Mo_waiting_13 : decode mm_Mo_waiting.2.1 13 = .ok (.getfield 71, 3) := by decide +kernel
theorem d_Mo_waiting_16 : decode mm_Mo_waiting.2.1 16 = .ok (.iload_n 1, 1) := by decide +kernel
theorem d_Mo_waiting_17 : decode mm_Mo_waiting.2.1 17 = .ok (.iaload, 1) := by decide +kernel
theorem d_Mo_waiting_18 : decode mm_Mo_waiting.2.1 18 = .ok (.goto 4, 3) := by decide +kernel
theorem d_Mo_waiting_21 : decode mm_Mo_waiting.2.1 21 = .ok (.iconst (-1), 1) := by decide +kernel
theorem d_Mo_waiting_22 : decode mm_Mo_waiting.2.1 22 = .ok (.ireturn, 1) := by decide +kernel
def wp_Mo_waiting  (a1 : Int32) (M : MzM) (K : Int32 → MzM → Prop) : Prop := (∀ M1 : MzM, M1 = mz_si M (30, 0) 1 (0 : Int32) → wp_Mo_isSession  a1 M1 (fun v5 M2 => ((v5 = 0 → K (-1 : Int32) M2) ∧ (¬ v5 = 0 → (∃ j6 : Nat, a1.toInt = (j6 : Int) ∧ j6 < 2 ∧ K (mz_i M2 (44, 0) j6) M2)))))
theorem tm_Mo_waiting {G : MzG} {B : MzB} {d : Nat} {K : Int32 → MzM → Prop} (hF : mzLive true B)   {a1 : Int32} {M : MzM} (hL : mzLnk true M) (h : wp_Mo_waiting  a1 M K) : MzC G B (d + 1) mm_Mo_waiting [.ref (mz_ad B (30, 0)), .int a1] M (0, 0) (mzK1 true B K) := by
  unfold wp_Mo_waiting at h
  exact MzC.of rfl (Nat.le_of_ble_eq_true rfl) (show MzS G B (d + 1) mm_Mo_waiting M (0, 0) (mzK1 true B K) 0 [(0, .ref (mz_ad B (30, 0))), (1, .int a1)] [] from (mz_aload_n d_Mo_waiting_0 rfl (mz_iconst (0 : Int32) d_Mo_waiting_1 (by decide) (mz_putI (k := 1) cl_10 d_Mo_waiting_2 (by decide) wf_Mo_126 rfl rfl rfl rfl (hF 30 0 rfl (by decide)) rfl (let M1 : MzM := mz_si M (30, 0) 1 (0 : Int32); (mz_iload_n d_Mo_waiting_5 rfl (mz_callS (As := [.int a1]) (st := []) 0 0 d_Mo_waiting_6 cs_Mo_isSession wl_Mo_182 ws_Mo_isSession (Nat.le_of_ble_eq_true rfl) (Nat.zero_le _) (Nat.zero_le _) (MzC.mono (tm_Mo_isSession (d := d) hF  hL (h M1 rfl)) (fun r9 B9 M2 hq4 => by obtain ⟨rfl, hL3, v5, rfl, hq4⟩ := hq4; exact ⟨_, rfl, (mz_if_eq 21 d_Mo_waiting_9 rfl (fun hc10 => (mz_iconst (-1 : Int32) d_Mo_waiting_21 (by decide) (mz_iret .int d_Mo_waiting_22 rfl rfl ⟨rfl, hL3, _, rfl, (hq4.1 hc10)⟩))) (fun hc10 => (mz_aload_n d_Mo_waiting_12 rfl (mz_getR (k := 14) (a := (44, 0)) cl_10 d_Mo_waiting_13 (by decide) wf_Mo_71 rfl (hF 30 0 rfl (by decide)) rfl (hL3 (30, 0) 14 (44, 0) rfl rfl (by decide)) (mz_iload_n d_Mo_waiting_16 rfl (match (hq4.2 hc10) with | ⟨j6, h7, h8, h9⟩ => mz_iald j6 d_Mo_waiting_17 (hF 44 0 rfl (by decide)) rfl h7 h8 (mz_goto 22 d_Mo_waiting_18 rfl (mz_iret .int d_Mo_waiting_22 rfl rfl ⟨rfl, hL3, _, rfl, h9⟩))))))))⟩)))))))))
def mm_Mo_reply : MzT := (⟨"ParcelLineModel", "reply", "(I)I"⟩, prog_14_method_66_code, 4, (Option.some Jvm.ClassFile.FieldType.int))
theorem cs_Mo_reply {mm : MzT} : mzCall mm mm_Mo_reply 1 := ⟨wn_Mo, wco_Mo_reply, by decide +kernel, by decide⟩
theorem d_Mo_reply_0 : decode mm_Mo_reply.2.1 0 = .ok (.aload_n 0, 1) := by decide +kernel
theorem d_Mo_reply_1 : decode mm_Mo_reply.2.1 1 = .ok (.iconst 0, 1) := by decide +kernel
theorem d_Mo_reply_2 : decode mm_Mo_reply.2.1 2 = .ok (.putfield 126, 3) := by decide +kernel
theorem d_Mo_reply_5 : decode mm_Mo_reply.2.1 5 = .ok (.iload_n 1, 1) := by decide +kernel
theorem d_Mo_reply_6 : decode mm_Mo_reply.2.1 6 = .ok (.invokestatic 182, 3) := by decide +kernel
theorem d_Mo_reply_9 : decode mm_Mo_reply.2.1 9 = .ok (.ifCond .ne 5, 3) := by decide +kernel
theorem d_Mo_reply_12 : decode mm_Mo_reply.2.1 12 = .ok (.iconst (-1), 1) := by decide +kernel
theorem d_Mo_reply_13 : decode mm_Mo_reply.2.1 13 = .ok (.ireturn, 1) := by decide +kernel
theorem d_Mo_reply_14 : decode mm_Mo_reply.2.1 14 = .ok (.aload_n 0, 1) := by decide +kernel
theorem d_Mo_reply_15 : decode mm_Mo_reply.2.1 15 = .ok (.getfield 71, 3) := by decide +kernel
theorem d_Mo_reply_18 : decode mm_Mo_reply.2.1 18 = .ok (.iload_n 1, 1) := by decide +kernel
theorem d_Mo_reply_19 : decode mm_Mo_reply.2.1 19 = .ok (.iaload, 1) := by decide +kernel
theorem d_Mo_reply_20 : decode mm_Mo_reply.2.1 20 = .ok (.ifCond .ne 5, 3) := by decide +kernel
theorem d_Mo_reply_23 : decode mm_Mo_reply.2.1 23 = .ok (.iconst (-1), 1) := by decide +kernel
theorem d_Mo_reply_24 : decode mm_Mo_reply.2.1 24 = .ok (.ireturn, 1) := by decide +kernel
theorem d_Mo_reply_25 : decode mm_Mo_reply.2.1 25 = .ok (.aload_n 0, 1) := by decide +kernel
theorem d_Mo_reply_26 : decode mm_Mo_reply.2.1 26 = .ok (.getfield 74, 3) := by decide +kernel
theorem d_Mo_reply_29 : decode mm_Mo_reply.2.1 29 = .ok (.sipush 200, 3) := by decide +kernel
theorem d_Mo_reply_32 : decode mm_Mo_reply.2.1 32 = .ok (.iload_n 1, 1) := by decide +kernel
theorem d_Mo_reply_33 : decode mm_Mo_reply.2.1 33 = .ok (.imul, 1) := by decide +kernel
theorem d_Mo_reply_34 : decode mm_Mo_reply.2.1 34 = .ok (.iaload, 1) := by decide +kernel
theorem d_Mo_reply_35 : decode mm_Mo_reply.2.1 35 = .ok (.istore_n 2, 1) := by decide +kernel
theorem d_Mo_reply_36 : decode mm_Mo_reply.2.1 36 = .ok (.aload_n 0, 1) := by decide +kernel
theorem d_Mo_reply_37 : decode mm_Mo_reply.2.1 37 = .ok (.getfield 71, 3) := by decide +kernel
theorem d_Mo_reply_40 : decode mm_Mo_reply.2.1 40 = .ok (.iload_n 1, 1) := by decide +kernel
theorem d_Mo_reply_41 : decode mm_Mo_reply.2.1 41 = .ok (.dup2, 1) := by decide +kernel
theorem d_Mo_reply_42 : decode mm_Mo_reply.2.1 42 = .ok (.iaload, 1) := by decide +kernel
theorem d_Mo_reply_43 : decode mm_Mo_reply.2.1 43 = .ok (.iconst 1, 1) := by decide +kernel
theorem d_Mo_reply_44 : decode mm_Mo_reply.2.1 44 = .ok (.isub, 1) := by decide +kernel
theorem d_Mo_reply_45 : decode mm_Mo_reply.2.1 45 = .ok (.iastore, 1) := by decide +kernel
theorem d_Mo_reply_46 : decode mm_Mo_reply.2.1 46 = .ok (.sipush 200, 3) := by decide +kernel
theorem d_Mo_reply_49 : decode mm_Mo_reply.2.1 49 = .ok (.iload_n 1, 1) := by decide +kernel
theorem d_Mo_reply_50 : decode mm_Mo_reply.2.1 50 = .ok (.imul, 1) := by decide +kernel
theorem d_Mo_reply_51 : decode mm_Mo_reply.2.1 51 = .ok (.istore_n 3, 1) := by decide +kernel
theorem d_Mo_reply_52 : decode mm_Mo_reply.2.1 52 = .ok (.iload_n 3, 1) := by decide +kernel
theorem d_Mo_reply_53 : decode mm_Mo_reply.2.1 53 = .ok (.sipush 200, 3) := by decide +kernel
theorem d_Mo_reply_56 : decode mm_Mo_reply.2.1 56 = .ok (.iload_n 1, 1) := by decide +kernel
theorem d_Mo_reply_57 : decode mm_Mo_reply.2.1 57 = .ok (.imul, 1) := by decide +kernel
theorem d_Mo_reply_58 : decode mm_Mo_reply.2.1 58 = .ok (.aload_n 0, 1) := by decide +kernel
theorem d_Mo_reply_59 : decode mm_Mo_reply.2.1 59 = .ok (.getfield 71, 3) := by decide +kernel
theorem d_Mo_reply_62 : decode mm_Mo_reply.2.1 62 = .ok (.iload_n 1, 1) := by decide +kernel
theorem d_Mo_reply_63 : decode mm_Mo_reply.2.1 63 = .ok (.iaload, 1) := by decide +kernel
theorem d_Mo_reply_64 : decode mm_Mo_reply.2.1 64 = .ok (.iadd, 1) := by decide +kernel
theorem d_Mo_reply_65 : decode mm_Mo_reply.2.1 65 = .ok (.if_icmp .ge 23, 3) := by decide +kernel
theorem d_Mo_reply_68 : decode mm_Mo_reply.2.1 68 = .ok (.aload_n 0, 1) := by decide +kernel
theorem d_Mo_reply_69 : decode mm_Mo_reply.2.1 69 = .ok (.getfield 74, 3) := by decide +kernel
theorem d_Mo_reply_72 : decode mm_Mo_reply.2.1 72 = .ok (.iload_n 3, 1) := by decide +kernel
theorem d_Mo_reply_73 : decode mm_Mo_reply.2.1 73 = .ok (.aload_n 0, 1) := by decide +kernel
theorem d_Mo_reply_74 : decode mm_Mo_reply.2.1 74 = .ok (.getfield 74, 3) := by decide +kernel
theorem d_Mo_reply_77 : decode mm_Mo_reply.2.1 77 = .ok (.iload_n 3, 1) := by decide +kernel
theorem d_Mo_reply_78 : decode mm_Mo_reply.2.1 78 = .ok (.iconst 1, 1) := by decide +kernel
theorem d_Mo_reply_79 : decode mm_Mo_reply.2.1 79 = .ok (.iadd, 1) := by decide +kernel
theorem d_Mo_reply_80 : decode mm_Mo_reply.2.1 80 = .ok (.iaload, 1) := by decide +kernel
theorem d_Mo_reply_81 : decode mm_Mo_reply.2.1 81 = .ok (.iastore, 1) := by decide +kernel
theorem d_Mo_reply_82 : decode mm_Mo_reply.2.1 82 = .ok (.iinc 3 1, 3) := by decide +kernel
theorem d_Mo_reply_85 : decode mm_Mo_reply.2.1 85 = .ok (.goto (-33), 3) := by decide +kernel
theorem d_Mo_reply_88 : decode mm_Mo_reply.2.1 88 = .ok (.iload_n 2, 1) := by decide +kernel
theorem d_Mo_reply_89 : decode mm_Mo_reply.2.1 89 = .ok (.ireturn, 1) := by decide +kernel
def wp_Mo_reply_52   (K : Int32 → MzM → Prop) : Nat → Int32 → Int32 → Int32 → MzM → Prop
  | 0, _, _, _, _ => False
  | r0 + 1, y1, y2, y3, M => (∃ j28 : Nat, y1.toInt = (j28 : Int) ∧ j28 < 2 ∧ (((((200 : Int32) * y1) + (mz_i M (44, 0) j28)) ≤ y3 → K y2 M) ∧ (¬ (((200 : Int32) * y1) + (mz_i M (44, 0) j28)) ≤ y3 → (∃ j32 : Nat, (y3 + (1 : Int32)).toInt = (j32 : Int) ∧ j32 < 400 ∧ (∃ j39 : Nat, y3.toInt = (j39 : Int) ∧ j39 < 400 ∧ ∀ M36 : MzM, M36 = mz_si M (45, 0) j39 (mz_i M (45, 0) j32) → (wp_Mo_reply_52   K r0) y1 y2 (y3 + (1 : Int32)) M36)))))
def wp_Mo_reply  (a1 : Int32) (M : MzM) (K : Int32 → MzM → Prop) : Prop := (∀ M1 : MzM, M1 = mz_si M (30, 0) 1 (0 : Int32) → wp_Mo_isSession  a1 M1 (fun v5 M2 => ((¬ v5 = 0 → (∃ j6 : Nat, a1.toInt = (j6 : Int) ∧ j6 < 2 ∧ ((¬ (mz_i M2 (44, 0) j6) = 0 → (∃ j10 : Nat, ((200 : Int32) * a1).toInt = (j10 : Int) ∧ j10 < 400 ∧ (∃ j14 : Nat, a1.toInt = (j14 : Int) ∧ j14 < 2 ∧ (∃ j21 : Nat, a1.toInt = (j21 : Int) ∧ j21 < 2 ∧ ∀ M18 : MzM, M18 = mz_si M2 (44, 0) j21 ((mz_i M2 (44, 0) j14) - (1 : Int32)) → (∃ r24 : Nat, wp_Mo_reply_52   K r24 a1 (mz_i M2 (45, 0) j10) ((200 : Int32) * a1) M18))))) ∧ ((mz_i M2 (44, 0) j6) = 0 → K (-1 : Int32) M2)))) ∧ (v5 = 0 → K (-1 : Int32) M2))))
theorem tm_Mo_reply_52 {G : MzG} {B : MzB} {d : Nat} {K : Int32 → MzM → Prop} (hF : mzLive true B)     : ∀ (r0 : Nat) (y1 : Int32) (y2 : Int32) (y3 : Int32) (M : MzM), mzLnk true M → wp_Mo_reply_52   K r0 y1 y2 y3 M → MzS G B (d + 1) mm_Mo_reply M (0, 0) (mzK1 true B K) 52 [(0, .ref (mz_ad B (30, 0))), (1, .int y1), (2, .int y2), (3, .int y3)] [] := by
  intro r0
  induction r0 with
  | zero => intro y1 y2 y3 M hL h; exact False.elim h
  | succ r0 hH52 =>
    intro y1 y2 y3 M hL h
    unfold wp_Mo_reply_52 at h
    exact (mz_iload_n d_Mo_reply_52 rfl (mz_sipush (200 : Int32) d_Mo_reply_53 (by decide) (mz_iload_n d_Mo_reply_56 rfl (mz_imul d_Mo_reply_57 (mz_aload_n d_Mo_reply_58 rfl (mz_getR (k := 14) (a := (44, 0)) cl_10 d_Mo_reply_59 (by decide) wf_Mo_71 rfl (hF 30 0 rfl (by decide)) rfl (hL (30, 0) 14 (44, 0) rfl rfl (by decide)) (mz_iload_n d_Mo_reply_62 rfl (match h with | ⟨j28, h29, h30, h31⟩ => mz_iald j28 d_Mo_reply_63 (hF 44 0 rfl (by decide)) rfl h29 h30 (mz_iadd d_Mo_reply_64 (mz_icmp_ge 88 d_Mo_reply_65 rfl (fun hc42 => (mz_iload_n d_Mo_reply_88 rfl (mz_iret .int d_Mo_reply_89 rfl rfl ⟨rfl, hL, _, rfl, (h31.1 hc42)⟩))) (fun hc42 => (mz_aload_n d_Mo_reply_68 rfl (mz_getR (k := 15) (a := (45, 0)) cl_10 d_Mo_reply_69 (by decide) wf_Mo_74 rfl (hF 30 0 rfl (by decide)) rfl (hL (30, 0) 15 (45, 0) rfl rfl (by decide)) (mz_iload_n d_Mo_reply_72 rfl (mz_aload_n d_Mo_reply_73 rfl (mz_getR (k := 15) (a := (45, 0)) cl_10 d_Mo_reply_74 (by decide) wf_Mo_74 rfl (hF 30 0 rfl (by decide)) rfl (hL (30, 0) 15 (45, 0) rfl rfl (by decide)) (mz_iload_n d_Mo_reply_77 rfl (mz_iconst (1 : Int32) d_Mo_reply_78 (by decide) (mz_iadd d_Mo_reply_79 (match (h31.2 hc42) with | ⟨j32, h33, h34, h35⟩ => mz_iald j32 d_Mo_reply_80 (hF 45 0 rfl (by decide)) rfl h33 h34 (match h35 with | ⟨j39, h40, h41, h38⟩ => mz_iast j39 d_Mo_reply_81 (hF 45 0 rfl (by decide)) rfl h40 h41 (let M36 : MzM := mz_si M (45, 0) j39 (mz_i M (45, 0) j32); (mz_iinc (y3 + (1 : Int32)) d_Mo_reply_82 rfl (by decide) rfl (mz_goto 52 d_Mo_reply_85 rfl (MzS.loc [(0, .ref (mz_ad B (30, 0))), (1, .int y1), (2, .int y2), (3, .int (y3 + (1 : Int32)))] ⟨rfl, rfl, rfl, rfl, trivial⟩ (hH52 y1 y2 (y3 + (1 : Int32)) M36 hL (h38 M36 rfl)))))))))))))))))))))))))))
theorem tm_Mo_reply {G : MzG} {B : MzB} {d : Nat} {K : Int32 → MzM → Prop} (hF : mzLive true B)   {a1 : Int32} {M : MzM} (hL : mzLnk true M) (h : wp_Mo_reply  a1 M K) : MzC G B (d + 1) mm_Mo_reply [.ref (mz_ad B (30, 0)), .int a1] M (0, 0) (mzK1 true B K) := by
  unfold wp_Mo_reply at h
  exact MzC.of rfl (Nat.le_of_ble_eq_true rfl) (show MzS G B (d + 1) mm_Mo_reply M (0, 0) (mzK1 true B K) 0 [(0, .ref (mz_ad B (30, 0))), (1, .int a1)] [] from (mz_aload_n d_Mo_reply_0 rfl (mz_iconst (0 : Int32) d_Mo_reply_1 (by decide) (mz_putI (k := 1) cl_10 d_Mo_reply_2 (by decide) wf_Mo_126 rfl rfl rfl rfl (hF 30 0 rfl (by decide)) rfl (let M1 : MzM := mz_si M (30, 0) 1 (0 : Int32); (mz_iload_n d_Mo_reply_5 rfl (mz_callS (As := [.int a1]) (st := []) 0 0 d_Mo_reply_6 cs_Mo_isSession wl_Mo_182 ws_Mo_isSession (Nat.le_of_ble_eq_true rfl) (Nat.zero_le _) (Nat.zero_le _) (MzC.mono (tm_Mo_isSession (d := d) hF  hL (h M1 rfl)) (fun r9 B9 M2 hq4 => by obtain ⟨rfl, hL3, v5, rfl, hq4⟩ := hq4; exact ⟨_, rfl, (mz_if_ne 14 d_Mo_reply_9 rfl (fun hc27 => (mz_aload_n d_Mo_reply_14 rfl (mz_getR (k := 14) (a := (44, 0)) cl_10 d_Mo_reply_15 (by decide) wf_Mo_71 rfl (hF 30 0 rfl (by decide)) rfl (hL3 (30, 0) 14 (44, 0) rfl rfl (by decide)) (mz_iload_n d_Mo_reply_18 rfl (match (hq4.1 hc27) with | ⟨j6, h7, h8, h9⟩ => mz_iald j6 d_Mo_reply_19 (hF 44 0 rfl (by decide)) rfl h7 h8 (mz_if_ne 25 d_Mo_reply_20 rfl (fun hc26 => (mz_aload_n d_Mo_reply_25 rfl (mz_getR (k := 15) (a := (45, 0)) cl_10 d_Mo_reply_26 (by decide) wf_Mo_74 rfl (hF 30 0 rfl (by decide)) rfl (hL3 (30, 0) 15 (45, 0) rfl rfl (by decide)) (mz_sipush (200 : Int32) d_Mo_reply_29 (by decide) (mz_iload_n d_Mo_reply_32 rfl (mz_imul d_Mo_reply_33 (match (h9.1 hc26) with | ⟨j10, h11, h12, h13⟩ => mz_iald j10 d_Mo_reply_34 (hF 45 0 rfl (by decide)) rfl h11 h12 (mz_istore_n d_Mo_reply_35 (by decide) (mz_aload_n d_Mo_reply_36 rfl (mz_getR (k := 14) (a := (44, 0)) cl_10 d_Mo_reply_37 (by decide) wf_Mo_71 rfl (hF 30 0 rfl (by decide)) rfl (hL3 (30, 0) 14 (44, 0) rfl rfl (by decide)) (mz_iload_n d_Mo_reply_40 rfl (mz_dup2 d_Mo_reply_41 rfl rfl (match h13 with | ⟨j14, h15, h16, h17⟩ => mz_iald j14 d_Mo_reply_42 (hF 44 0 rfl (by decide)) rfl h15 h16 (mz_iconst (1 : Int32) d_Mo_reply_43 (by decide) (mz_isub d_Mo_reply_44 (match h17 with | ⟨j21, h22, h23, h20⟩ => mz_iast j21 d_Mo_reply_45 (hF 44 0 rfl (by decide)) rfl h22 h23 (let M18 : MzM := mz_si M2 (44, 0) j21 ((mz_i M2 (44, 0) j14) - (1 : Int32)); (mz_sipush (200 : Int32) d_Mo_reply_46 (by decide) (mz_iload_n d_Mo_reply_49 rfl (mz_imul d_Mo_reply_50 (mz_istore_n d_Mo_reply_51 (by decide) (MzS.loc [(0, .ref (mz_ad B (30, 0))), (1, .int a1), (2, .int (mz_i M2 (45, 0) j10)), (3, .int ((200 : Int32) * a1))] ⟨rfl, rfl, rfl, rfl, trivial⟩ (match (h20 M18 rfl) with | ⟨r24, h25⟩ => tm_Mo_reply_52 hF   r24 a1 (mz_i M2 (45, 0) j10) ((200 : Int32) * a1) M18 hL3 h25))))))))))))))))))))))) (fun hc26 => (mz_iconst (-1 : Int32) d_Mo_reply_23 (by decide) (mz_iret .int d_Mo_reply_24 rfl rfl ⟨rfl, hL3, _, rfl, (h9.2 hc26)⟩))))))))) (fun hc27 => (mz_iconst (-1 : Int32) d_Mo_reply_12 (by decide) (mz_iret .int d_Mo_reply_13 rfl rfl ⟨rfl, hL3, _, rfl, (hq4.2 hc27)⟩))))⟩)))))))))
def mm_Mo_node : MzT := (⟨"ParcelLineModel", "node", "(II)I"⟩, prog_14_method_67_code, 3, (Option.some Jvm.ClassFile.FieldType.int))
theorem cs_Mo_node {mm : MzT} : mzCall mm mm_Mo_node 2 := ⟨wn_Mo, wco_Mo_node, by decide +kernel, by decide⟩
theorem d_Mo_node_0 : decode mm_Mo_node.2.1 0 = .ok (.aload_n 0, 1) := by decide +kernel
theorem d_Mo_node_1 : decode mm_Mo_node.2.1 1 = .ok (.iconst 0, 1) := by decide +kernel
theorem d_Mo_node_2 : decode mm_Mo_node.2.1 2 = .ok (.putfield 126, 3) := by decide +kernel
theorem d_Mo_node_5 : decode mm_Mo_node.2.1 5 = .ok (.iload_n 1, 1) := by decide +kernel
theorem d_Mo_node_6 : decode mm_Mo_node.2.1 6 = .ok (.ifCond .lt 9, 3) := by decide +kernel
theorem d_Mo_node_9 : decode mm_Mo_node.2.1 9 = .ok (.iload_n 1, 1) := by decide +kernel
theorem d_Mo_node_10 : decode mm_Mo_node.2.1 10 = .ok (.bipush 15, 2) := by decide +kernel
theorem d_Mo_node_12 : decode mm_Mo_node.2.1 12 = .ok (.if_icmp .le 5, 3) := by decide +kernel
theorem d_Mo_node_15 : decode mm_Mo_node.2.1 15 = .ok (.iconst (-1), 1) := by decide +kernel
theorem d_Mo_node_16 : decode mm_Mo_node.2.1 16 = .ok (.ireturn, 1) := by decide +kernel
theorem d_Mo_node_17 : decode mm_Mo_node.2.1 17 = .ok (.aload_n 0, 1) := by decide +kernel
theorem d_Mo_node_18 : decode mm_Mo_node.2.1 18 = .ok (.getfield 34, 3) := by decide +kernel
theorem d_Mo_node_21 : decode mm_Mo_node.2.1 21 = .ok (.iload_n 1, 1) := by decide +kernel
theorem d_Mo_node_22 : decode mm_Mo_node.2.1 22 = .ok (.baload, 1) := by decide +kernel
theorem d_Mo_node_23 : decode mm_Mo_node.2.1 23 = .ok (.ifCond .ne 5, 3) := by decide +kernel
theorem d_Mo_node_26 : decode mm_Mo_node.2.1 26 = .ok (.iconst (-1), 1) := by decide +kernel
theorem d_Mo_node_27 : decode mm_Mo_node.2.1 27 = .ok (.ireturn, 1) := by decide +kernel
theorem d_Mo_node_28 : decode mm_Mo_node.2.1 28 = .ok (.iload_n 2, 1) := by decide +kernel
theorem d_Mo_node_29 : decode mm_Mo_node.2.1 29 = .ok (.tableswitch 97 0 3 #[31, 51, 66, 90], 31) := by decide +kernel
theorem d_Mo_node_60 : decode mm_Mo_node.2.1 60 = .ok (.aload_n 0, 1) := by decide +kernel
theorem d_Mo_node_61 : decode mm_Mo_node.2.1 61 = .ok (.getfield 41, 3) := by decide +kernel
theorem d_Mo_node_64 : decode mm_Mo_node.2.1 64 = .ok (.iload_n 1, 1) := by decide +kernel
theorem d_Mo_node_65 : decode mm_Mo_node.2.1 65 = .ok (.iaload, 1) := by decide +kernel
theorem d_Mo_node_66 : decode mm_Mo_node.2.1 66 = .ok (.ifCond .ge 7, 3) := by decide +kernel
theorem d_Mo_node_69 : decode mm_Mo_node.2.1 69 = .ok (.iconst (-1), 1) := by decide +kernel
theorem d_Mo_node_70 : decode mm_Mo_node.2.1 70 = .ok (.goto 9, 3) := by decide +kernel
theorem d_Mo_node_73 : decode mm_Mo_node.2.1 73 = .ok (.aload_n 0, 1) := by decide +kernel
theorem d_Mo_node_74 : decode mm_Mo_node.2.1 74 = .ok (.getfield 41, 3) := by decide +kernel
theorem d_Mo_node_77 : decode mm_Mo_node.2.1 77 = .ok (.iload_n 1, 1) := by decide +kernel
theorem d_Mo_node_78 : decode mm_Mo_node.2.1 78 = .ok (.iaload, 1) := by decide +kernel
theorem d_Mo_node_79 : decode mm_Mo_node.2.1 79 = .ok (.ireturn, 1) := by decide +kernel
theorem d_Mo_node_80 : decode mm_Mo_node.2.1 80 = .ok (.aload_n 0, 1) := by decide +kernel
theorem d_Mo_node_81 : decode mm_Mo_node.2.1 81 = .ok (.getfield 38, 3) := by decide +kernel
theorem d_Mo_node_84 : decode mm_Mo_node.2.1 84 = .ok (.iload_n 1, 1) := by decide +kernel
theorem d_Mo_node_85 : decode mm_Mo_node.2.1 85 = .ok (.baload, 1) := by decide +kernel
theorem d_Mo_node_86 : decode mm_Mo_node.2.1 86 = .ok (.ifCond .eq 7, 3) := by decide +kernel
theorem d_Mo_node_89 : decode mm_Mo_node.2.1 89 = .ok (.iconst 1, 1) := by decide +kernel
theorem d_Mo_node_90 : decode mm_Mo_node.2.1 90 = .ok (.goto 4, 3) := by decide +kernel
theorem d_Mo_node_93 : decode mm_Mo_node.2.1 93 = .ok (.iconst 0, 1) := by decide +kernel
theorem d_Mo_node_94 : decode mm_Mo_node.2.1 94 = .ok (.ireturn, 1) := by decide +kernel
theorem d_Mo_node_95 : decode mm_Mo_node.2.1 95 = .ok (.aload_n 0, 1) := by decide +kernel
theorem d_Mo_node_96 : decode mm_Mo_node.2.1 96 = .ok (.getfield 38, 3) := by decide +kernel
theorem d_Mo_node_99 : decode mm_Mo_node.2.1 99 = .ok (.iload_n 1, 1) := by decide +kernel
theorem d_Mo_node_100 : decode mm_Mo_node.2.1 100 = .ok (.baload, 1) := by decide +kernel
theorem d_Mo_node_101 : decode mm_Mo_node.2.1 101 = .ok (.ifCond .eq 12, 3) := by decide +kernel
theorem d_Mo_node_104 : decode mm_Mo_node.2.1 104 = .ok (.aload_n 0, 1) := by decide +kernel
theorem d_Mo_node_105 : decode mm_Mo_node.2.1 105 = .ok (.getfield 47, 3) := by decide +kernel
theorem d_Mo_node_108 : decode mm_Mo_node.2.1 108 = .ok (.iload_n 1, 1) := by decide +kernel
theorem d_Mo_node_109 : decode mm_Mo_node.2.1 109 = .ok (.iaload, 1) := by decide +kernel
theorem d_Mo_node_110 : decode mm_Mo_node.2.1 110 = .ok (.goto 8, 3) := by decide +kernel
theorem d_Mo_node_113 : decode mm_Mo_node.2.1 113 = .ok (.aload_n 0, 1) := by decide +kernel
theorem d_Mo_node_114 : decode mm_Mo_node.2.1 114 = .ok (.iload_n 1, 1) := by decide +kernel
theorem d_Mo_node_115 : decode mm_Mo_node.2.1 115 = .ok (.invokevirtual 270, 3) := by decide +kernel
theorem d_Mo_node_118 : decode mm_Mo_node.2.1 118 = .ok (.ireturn, 1) := by decide +kernel
theorem d_Mo_node_119 : decode mm_Mo_node.2.1 119 = .ok (.aload_n 0, 1) := by decide +kernel
theorem d_Mo_node_120 : decode mm_Mo_node.2.1 120 = .ok (.getfield 44, 3) := by decide +kernel
theorem d_Mo_node_123 : decode mm_Mo_node.2.1 123 = .ok (.iload_n 1, 1) := by decide +kernel
theorem d_Mo_node_124 : decode mm_Mo_node.2.1 124 = .ok (.iaload, 1) := by decide +kernel
theorem d_Mo_node_125 : decode mm_Mo_node.2.1 125 = .ok (.ireturn, 1) := by decide +kernel
theorem d_Mo_node_126 : decode mm_Mo_node.2.1 126 = .ok (.iconst (-1), 1) := by decide +kernel
theorem d_Mo_node_127 : decode mm_Mo_node.2.1 127 = .ok (.ireturn, 1) := by decide +kernel
def wp_Mo_node  (a1 : Int32) (a2 : Int32) (M : MzM) (K : Int32 → MzM → Prop) : Prop := (∀ M1 : MzM, M1 = mz_si M (30, 0) 1 (0 : Int32) → ((a1 < 0 → K (-1 : Int32) M1) ∧ (¬ a1 < 0 → ((a1 ≤ (15 : Int32) → (∃ j2 : Nat, a1.toInt = (j2 : Int) ∧ j2 < 16 ∧ ((¬ (mz_i M1 (32, 0) j2) = 0 → ((a2 = (0 : Int32) → (∃ j6 : Nat, a1.toInt = (j6 : Int) ∧ j6 < 16 ∧ ((0 ≤ (mz_i M1 (34, 0) j6) → (∃ j10 : Nat, a1.toInt = (j10 : Int) ∧ j10 < 16 ∧ K (mz_i M1 (34, 0) j10) M1)) ∧ (¬ 0 ≤ (mz_i M1 (34, 0) j6) → K (-1 : Int32) M1)))) ∧ (a2 = (1 : Int32) → (∃ j15 : Nat, a1.toInt = (j15 : Int) ∧ j15 < 16 ∧ (((mz_i M1 (33, 0) j15) = 0 → K (0 : Int32) M1) ∧ (¬ (mz_i M1 (33, 0) j15) = 0 → K (1 : Int32) M1)))) ∧ (a2 = (2 : Int32) → (∃ j20 : Nat, a1.toInt = (j20 : Int) ∧ j20 < 16 ∧ (((mz_i M1 (33, 0) j20) = 0 → wp_Mo_inside  a1 M1 (fun v27 M24 => K v27 M24)) ∧ (¬ (mz_i M1 (33, 0) j20) = 0 → (∃ j28 : Nat, a1.toInt = (j28 : Int) ∧ j28 < 16 ∧ K (mz_i M1 (36, 0) j28) M1))))) ∧ (a2 = (3 : Int32) → (∃ j33 : Nat, a1.toInt = (j33 : Int) ∧ j33 < 16 ∧ K (mz_i M1 (35, 0) j33) M1)) ∧ (¬ a2 = (0 : Int32) → ¬ a2 = (1 : Int32) → ¬ a2 = (2 : Int32) → ¬ a2 = (3 : Int32) → K (-1 : Int32) M1))) ∧ ((mz_i M1 (32, 0) j2) = 0 → K (-1 : Int32) M1)))) ∧ (¬ a1 ≤ (15 : Int32) → K (-1 : Int32) M1)))))
theorem tm_Mo_node {G : MzG} {B : MzB} {d : Nat} {K : Int32 → MzM → Prop} (hF : mzLive true B)   {a1 : Int32} {a2 : Int32} {M : MzM} (hL : mzLnk true M) (h : wp_Mo_node  a1 a2 M K) : MzC G B (d + 1) mm_Mo_node [.ref (mz_ad B (30, 0)), .int a1, .int a2] M (0, 0) (mzK1 true B K) := by
  unfold wp_Mo_node at h
  exact MzC.of rfl (Nat.le_of_ble_eq_true rfl) (show MzS G B (d + 1) mm_Mo_node M (0, 0) (mzK1 true B K) 0 [(0, .ref (mz_ad B (30, 0))), (1, .int a1), (2, .int a2)] [] from (mz_aload_n d_Mo_node_0 rfl (mz_iconst (0 : Int32) d_Mo_node_1 (by decide) (mz_putI (k := 1) cl_10 d_Mo_node_2 (by decide) wf_Mo_126 rfl rfl rfl rfl (hF 30 0 rfl (by decide)) rfl (let M1 : MzM := mz_si M (30, 0) 1 (0 : Int32); (mz_iload_n d_Mo_node_5 rfl (mz_if_lt 15 d_Mo_node_6 rfl (fun hc40 => (mz_iconst (-1 : Int32) d_Mo_node_15 (by decide) (mz_iret .int d_Mo_node_16 rfl rfl ⟨rfl, hL, _, rfl, ((h M1 rfl).1 hc40)⟩))) (fun hc40 => (mz_iload_n d_Mo_node_9 rfl (mz_bipush (15 : Int32) d_Mo_node_10 (by decide) (mz_icmp_le 17 d_Mo_node_12 rfl (fun hc39 => (mz_aload_n d_Mo_node_17 rfl (mz_getR (k := 2) (a := (32, 0)) cl_10 d_Mo_node_18 (by decide) wf_Mo_34 rfl (hF 30 0 rfl (by decide)) rfl (hL (30, 0) 2 (32, 0) rfl rfl (by decide)) (mz_iload_n d_Mo_node_21 rfl (match (((h M1 rfl).2 hc40).1 hc39) with | ⟨j2, h3, h4, h5⟩ => mz_zald j2 d_Mo_node_22 (hF 32 0 rfl (by decide)) rfl h3 h4 (mz_if_ne 28 d_Mo_node_23 rfl (fun hc38 => (mz_iload_n d_Mo_node_28 rfl (Decidable.byCases (fun he37_0 : a2 = (0 : Int32) => mz_tabIn 60 d_Mo_node_29 (by rw [he37_0]; decide) (by rw [he37_0]; decide) (by rw [he37_0]; rfl) rfl (mz_aload_n d_Mo_node_60 rfl (mz_getR (k := 4) (a := (34, 0)) cl_10 d_Mo_node_61 (by decide) wf_Mo_41 rfl (hF 30 0 rfl (by decide)) rfl (hL (30, 0) 4 (34, 0) rfl rfl (by decide)) (mz_iload_n d_Mo_node_64 rfl (match ((h5.1 hc38).1 he37_0) with | ⟨j6, h7, h8, h9⟩ => mz_iald j6 d_Mo_node_65 (hF 34 0 rfl (by decide)) rfl h7 h8 (mz_if_ge 73 d_Mo_node_66 rfl (fun hc14 => (mz_aload_n d_Mo_node_73 rfl (mz_getR (k := 4) (a := (34, 0)) cl_10 d_Mo_node_74 (by decide) wf_Mo_41 rfl (hF 30 0 rfl (by decide)) rfl (hL (30, 0) 4 (34, 0) rfl rfl (by decide)) (mz_iload_n d_Mo_node_77 rfl (match (h9.1 hc14) with | ⟨j10, h11, h12, h13⟩ => mz_iald j10 d_Mo_node_78 (hF 34 0 rfl (by decide)) rfl h11 h12 (mz_iret .int d_Mo_node_79 rfl rfl ⟨rfl, hL, _, rfl, h13⟩)))))) (fun hc14 => (mz_iconst (-1 : Int32) d_Mo_node_69 (by decide) (mz_goto 79 d_Mo_node_70 rfl (mz_iret .int d_Mo_node_79 rfl rfl ⟨rfl, hL, _, rfl, (h9.2 hc14)⟩)))))))))) (fun he37n_0 => (Decidable.byCases (fun he37_1 : a2 = (1 : Int32) => mz_tabIn 80 d_Mo_node_29 (by rw [he37_1]; decide) (by rw [he37_1]; decide) (by rw [he37_1]; rfl) rfl (mz_aload_n d_Mo_node_80 rfl (mz_getR (k := 3) (a := (33, 0)) cl_10 d_Mo_node_81 (by decide) wf_Mo_38 rfl (hF 30 0 rfl (by decide)) rfl (hL (30, 0) 3 (33, 0) rfl rfl (by decide)) (mz_iload_n d_Mo_node_84 rfl (match ((h5.1 hc38).2.1 he37_1) with | ⟨j15, h16, h17, h18⟩ => mz_zald j15 d_Mo_node_85 (hF 33 0 rfl (by decide)) rfl h16 h17 (mz_if_eq 93 d_Mo_node_86 rfl (fun hc19 => (mz_iconst (0 : Int32) d_Mo_node_93 (by decide) (mz_iret .int d_Mo_node_94 rfl rfl ⟨rfl, hL, _, rfl, (h18.1 hc19)⟩))) (fun hc19 => (mz_iconst (1 : Int32) d_Mo_node_89 (by decide) (mz_goto 94 d_Mo_node_90 rfl (mz_iret .int d_Mo_node_94 rfl rfl ⟨rfl, hL, _, rfl, (h18.2 hc19)⟩)))))))))) (fun he37n_1 => (Decidable.byCases (fun he37_2 : a2 = (2 : Int32) => mz_tabIn 95 d_Mo_node_29 (by rw [he37_2]; decide) (by rw [he37_2]; decide) (by rw [he37_2]; rfl) rfl (mz_aload_n d_Mo_node_95 rfl (mz_getR (k := 3) (a := (33, 0)) cl_10 d_Mo_node_96 (by decide) wf_Mo_38 rfl (hF 30 0 rfl (by decide)) rfl (hL (30, 0) 3 (33, 0) rfl rfl (by decide)) (mz_iload_n d_Mo_node_99 rfl (match ((h5.1 hc38).2.2.1 he37_2) with | ⟨j20, h21, h22, h23⟩ => mz_zald j20 d_Mo_node_100 (hF 33 0 rfl (by decide)) rfl h21 h22 (mz_if_eq 113 d_Mo_node_101 rfl (fun hc32 => (mz_aload_n d_Mo_node_113 rfl (mz_iload_n d_Mo_node_114 rfl (mz_callV (As := [.int a1]) (st := []) (hF 30 0 rfl (by decide)) rfl (mzClOf cl_10) 0 0 d_Mo_node_115 cs_Mo_inside wl_Mo_270 wi_Mo_inside wse_Mo_inside (Nat.le_of_ble_eq_true rfl) (Nat.zero_le _) (Nat.zero_le _) (MzC.mono (tm_Mo_inside (d := d) hF  hL (h23.1 hc32)) (fun r9 B9 M24 hq26 => by obtain ⟨rfl, hL25, v27, rfl, hq26⟩ := hq26; exact ⟨_, rfl, (mz_iret .int d_Mo_node_118 rfl rfl ⟨rfl, hL25, _, rfl, hq26⟩)⟩)))))) (fun hc32 => (mz_aload_n d_Mo_node_104 rfl (mz_getR (k := 6) (a := (36, 0)) cl_10 d_Mo_node_105 (by decide) wf_Mo_47 rfl (hF 30 0 rfl (by decide)) rfl (hL (30, 0) 6 (36, 0) rfl rfl (by decide)) (mz_iload_n d_Mo_node_108 rfl (match (h23.2 hc32) with | ⟨j28, h29, h30, h31⟩ => mz_iald j28 d_Mo_node_109 (hF 36 0 rfl (by decide)) rfl h29 h30 (mz_goto 118 d_Mo_node_110 rfl (mz_iret .int d_Mo_node_118 rfl rfl ⟨rfl, hL, _, rfl, h31⟩))))))))))))) (fun he37n_2 => (Decidable.byCases (fun he37_3 : a2 = (3 : Int32) => mz_tabIn 119 d_Mo_node_29 (by rw [he37_3]; decide) (by rw [he37_3]; decide) (by rw [he37_3]; rfl) rfl (mz_aload_n d_Mo_node_119 rfl (mz_getR (k := 5) (a := (35, 0)) cl_10 d_Mo_node_120 (by decide) wf_Mo_44 rfl (hF 30 0 rfl (by decide)) rfl (hL (30, 0) 5 (35, 0) rfl rfl (by decide)) (mz_iload_n d_Mo_node_123 rfl (match ((h5.1 hc38).2.2.2.1 he37_3) with | ⟨j33, h34, h35, h36⟩ => mz_iald j33 d_Mo_node_124 (hF 35 0 rfl (by decide)) rfl h34 h35 (mz_iret .int d_Mo_node_125 rfl rfl ⟨rfl, hL, _, rfl, h36⟩)))))) (fun he37n_3 => mz_tabOut 126 d_Mo_node_29 (show a2.toInt < 0 ∨ 3 < a2.toInt by have := lv_neT he37n_0 (show (0 : Int32).toInt = 0 by decide); have := lv_neT he37n_1 (show (1 : Int32).toInt = 1 by decide); have := lv_neT he37n_2 (show (2 : Int32).toInt = 2 by decide); have := lv_neT he37n_3 (show (3 : Int32).toInt = 3 by decide); omega) rfl (mz_iconst (-1 : Int32) d_Mo_node_126 (by decide) (mz_iret .int d_Mo_node_127 rfl rfl ⟨rfl, hL, _, rfl, ((h5.1 hc38).2.2.2.2 he37n_0 he37n_1 he37n_2 he37n_3)⟩)))))))))))) (fun hc38 => (mz_iconst (-1 : Int32) d_Mo_node_26 (by decide) (mz_iret .int d_Mo_node_27 rfl rfl ⟨rfl, hL, _, rfl, (h5.2 hc38)⟩))))))))) (fun hc39 => (mz_iconst (-1 : Int32) d_Mo_node_15 (by decide) (mz_iret .int d_Mo_node_16 rfl rfl ⟨rfl, hL, _, rfl, (((h M1 rfl).2 hc40).2 hc39)⟩))))))))))))))
def mm_Mo_content : MzT := (⟨"ParcelLineModel", "content", "(II)I"⟩, prog_14_method_68_code, 3, (Option.some Jvm.ClassFile.FieldType.int))
theorem cs_Mo_content {mm : MzT} : mzCall mm mm_Mo_content 2 := ⟨wn_Mo, wco_Mo_content, by decide +kernel, by decide⟩
theorem d_Mo_content_0 : decode mm_Mo_content.2.1 0 = .ok (.aload_n 0, 1) := by decide +kernel
theorem d_Mo_content_1 : decode mm_Mo_content.2.1 1 = .ok (.iconst 0, 1) := by decide +kernel
theorem d_Mo_content_2 : decode mm_Mo_content.2.1 2 = .ok (.putfield 126, 3) := by decide +kernel
theorem d_Mo_content_5 : decode mm_Mo_content.2.1 5 = .ok (.iload_n 1, 1) := by decide +kernel
theorem d_Mo_content_6 : decode mm_Mo_content.2.1 6 = .ok (.ifCond .lt 9, 3) := by decide +kernel
theorem d_Mo_content_9 : decode mm_Mo_content.2.1 9 = .ok (.iload_n 1, 1) := by decide +kernel
theorem d_Mo_content_10 : decode mm_Mo_content.2.1 10 = .ok (.bipush 15, 2) := by decide +kernel
theorem d_Mo_content_12 : decode mm_Mo_content.2.1 12 = .ok (.if_icmp .le 5, 3) := by decide +kernel
theorem d_Mo_content_15 : decode mm_Mo_content.2.1 15 = .ok (.iconst (-1), 1) := by decide +kernel
theorem d_Mo_content_16 : decode mm_Mo_content.2.1 16 = .ok (.ireturn, 1) := by decide +kernel
theorem d_Mo_content_17 : decode mm_Mo_content.2.1 17 = .ok (.aload_n 0, 1) := by decide +kernel
theorem d_Mo_content_18 : decode mm_Mo_content.2.1 18 = .ok (.getfield 34, 3) := by decide +kernel
theorem d_Mo_content_21 : decode mm_Mo_content.2.1 21 = .ok (.iload_n 1, 1) := by decide +kernel
theorem d_Mo_content_22 : decode mm_Mo_content.2.1 22 = .ok (.baload, 1) := by decide +kernel
theorem d_Mo_content_23 : decode mm_Mo_content.2.1 23 = .ok (.ifCond .eq 26, 3) := by decide +kernel
theorem d_Mo_content_26 : decode mm_Mo_content.2.1 26 = .ok (.aload_n 0, 1) := by decide +kernel
theorem d_Mo_content_27 : decode mm_Mo_content.2.1 27 = .ok (.getfield 38, 3) := by decide +kernel
theorem d_Mo_content_30 : decode mm_Mo_content.2.1 30 = .ok (.iload_n 1, 1) := by decide +kernel
theorem d_Mo_content_31 : decode mm_Mo_content.2.1 31 = .ok (.baload, 1) := by decide +kernel
theorem d_Mo_content_32 : decode mm_Mo_content.2.1 32 = .ok (.ifCond .eq 17, 3) := by decide +kernel
theorem d_Mo_content_35 : decode mm_Mo_content.2.1 35 = .ok (.iload_n 2, 1) := by decide +kernel
theorem d_Mo_content_36 : decode mm_Mo_content.2.1 36 = .ok (.ifCond .lt 13, 3) := by decide +kernel
theorem d_Mo_content_39 : decode mm_Mo_content.2.1 39 = .ok (.iload_n 2, 1) := by decide +kernel
theorem d_Mo_content_40 : decode mm_Mo_content.2.1 40 = .ok (.aload_n 0, 1) := by decide +kernel
theorem d_Mo_content_41 : decode mm_Mo_content.2.1 41 = .ok (.getfield 47, 3) := by decide +kernel
theorem d_Mo_content_44 : decode mm_Mo_content.2.1 44 = .ok (.iload_n 1, 1) := by decide +kernel
theorem d_Mo_content_45 : decode mm_Mo_content.2.1 45 = .ok (.iaload, 1) := by decide +kernel
theorem d_Mo_content_46 : decode mm_Mo_content.2.1 46 = .ok (.if_icmp .lt 7, 3) := by decide +kernel
theorem d_Mo_content_49 : decode mm_Mo_content.2.1 49 = .ok (.iconst (-1), 1) := by decide +kernel
theorem d_Mo_content_50 : decode mm_Mo_content.2.1 50 = .ok (.goto 14, 3) := by decide +kernel
theorem d_Mo_content_53 : decode mm_Mo_content.2.1 53 = .ok (.aload_n 0, 1) := by decide +kernel
theorem d_Mo_content_54 : decode mm_Mo_content.2.1 54 = .ok (.getfield 53, 3) := by decide +kernel
theorem d_Mo_content_57 : decode mm_Mo_content.2.1 57 = .ok (.bipush 24, 2) := by decide +kernel
theorem d_Mo_content_59 : decode mm_Mo_content.2.1 59 = .ok (.iload_n 1, 1) := by decide +kernel
theorem d_Mo_content_60 : decode mm_Mo_content.2.1 60 = .ok (.imul, 1) := by decide +kernel
theorem d_Mo_content_61 : decode mm_Mo_content.2.1 61 = .ok (.iload_n 2, 1) := by decide +kernel
theorem d_Mo_content_62 : decode mm_Mo_content.2.1 62 = .ok (.iadd, 1) := by decide +kernel
theorem d_Mo_content_63 : decode mm_Mo_content.2.1 63 = .ok (.iaload, 1) := by decide +kernel
theorem d_Mo_content_64 : decode mm_Mo_content.2.1 64 = .ok (.ireturn, 1) := by decide +kernel
def wp_Mo_content  (a1 : Int32) (a2 : Int32) (M : MzM) (K : Int32 → MzM → Prop) : Prop := (∀ M1 : MzM, M1 = mz_si M (30, 0) 1 (0 : Int32) → ((a1 < 0 → K (-1 : Int32) M1) ∧ (¬ a1 < 0 → ((a1 ≤ (15 : Int32) → (∃ j2 : Nat, a1.toInt = (j2 : Int) ∧ j2 < 16 ∧ (((mz_i M1 (32, 0) j2) = 0 → K (-1 : Int32) M1) ∧ (¬ (mz_i M1 (32, 0) j2) = 0 → (∃ j6 : Nat, a1.toInt = (j6 : Int) ∧ j6 < 16 ∧ (((mz_i M1 (33, 0) j6) = 0 → K (-1 : Int32) M1) ∧ (¬ (mz_i M1 (33, 0) j6) = 0 → ((a2 < 0 → K (-1 : Int32) M1) ∧ (¬ a2 < 0 → (∃ j10 : Nat, a1.toInt = (j10 : Int) ∧ j10 < 16 ∧ ((a2 < (mz_i M1 (36, 0) j10) → (∃ j14 : Nat, (((24 : Int32) * a1) + a2).toInt = (j14 : Int) ∧ j14 < 384 ∧ K (mz_i M1 (38, 0) j14) M1)) ∧ (¬ a2 < (mz_i M1 (36, 0) j10) → K (-1 : Int32) M1)))))))))))) ∧ (¬ a1 ≤ (15 : Int32) → K (-1 : Int32) M1)))))
theorem tm_Mo_content {G : MzG} {B : MzB} {d : Nat} {K : Int32 → MzM → Prop} (hF : mzLive true B)   {a1 : Int32} {a2 : Int32} {M : MzM} (hL : mzLnk true M) (h : wp_Mo_content  a1 a2 M K) : MzC G B d mm_Mo_content [.ref (mz_ad B (30, 0)), .int a1, .int a2] M (0, 0) (mzK1 true B K) := by
  unfold wp_Mo_content at h
  exact MzC.of rfl (Nat.le_of_ble_eq_true rfl) (show MzS G B d mm_Mo_content M (0, 0) (mzK1 true B K) 0 [(0, .ref (mz_ad B (30, 0))), (1, .int a1), (2, .int a2)] [] from (mz_aload_n d_Mo_content_0 rfl (mz_iconst (0 : Int32) d_Mo_content_1 (by decide) (mz_putI (k := 1) cl_10 d_Mo_content_2 (by decide) wf_Mo_126 rfl rfl rfl rfl (hF 30 0 rfl (by decide)) rfl (let M1 : MzM := mz_si M (30, 0) 1 (0 : Int32); (mz_iload_n d_Mo_content_5 rfl (mz_if_lt 15 d_Mo_content_6 rfl (fun hc23 => (mz_iconst (-1 : Int32) d_Mo_content_15 (by decide) (mz_iret .int d_Mo_content_16 rfl rfl ⟨rfl, hL, _, rfl, ((h M1 rfl).1 hc23)⟩))) (fun hc23 => (mz_iload_n d_Mo_content_9 rfl (mz_bipush (15 : Int32) d_Mo_content_10 (by decide) (mz_icmp_le 17 d_Mo_content_12 rfl (fun hc22 => (mz_aload_n d_Mo_content_17 rfl (mz_getR (k := 2) (a := (32, 0)) cl_10 d_Mo_content_18 (by decide) wf_Mo_34 rfl (hF 30 0 rfl (by decide)) rfl (hL (30, 0) 2 (32, 0) rfl rfl (by decide)) (mz_iload_n d_Mo_content_21 rfl (match (((h M1 rfl).2 hc23).1 hc22) with | ⟨j2, h3, h4, h5⟩ => mz_zald j2 d_Mo_content_22 (hF 32 0 rfl (by decide)) rfl h3 h4 (mz_if_eq 49 d_Mo_content_23 rfl (fun hc21 => (mz_iconst (-1 : Int32) d_Mo_content_49 (by decide) (mz_goto 64 d_Mo_content_50 rfl (mz_iret .int d_Mo_content_64 rfl rfl ⟨rfl, hL, _, rfl, (h5.1 hc21)⟩)))) (fun hc21 => (mz_aload_n d_Mo_content_26 rfl (mz_getR (k := 3) (a := (33, 0)) cl_10 d_Mo_content_27 (by decide) wf_Mo_38 rfl (hF 30 0 rfl (by decide)) rfl (hL (30, 0) 3 (33, 0) rfl rfl (by decide)) (mz_iload_n d_Mo_content_30 rfl (match (h5.2 hc21) with | ⟨j6, h7, h8, h9⟩ => mz_zald j6 d_Mo_content_31 (hF 33 0 rfl (by decide)) rfl h7 h8 (mz_if_eq 49 d_Mo_content_32 rfl (fun hc20 => (mz_iconst (-1 : Int32) d_Mo_content_49 (by decide) (mz_goto 64 d_Mo_content_50 rfl (mz_iret .int d_Mo_content_64 rfl rfl ⟨rfl, hL, _, rfl, (h9.1 hc20)⟩)))) (fun hc20 => (mz_iload_n d_Mo_content_35 rfl (mz_if_lt 49 d_Mo_content_36 rfl (fun hc19 => (mz_iconst (-1 : Int32) d_Mo_content_49 (by decide) (mz_goto 64 d_Mo_content_50 rfl (mz_iret .int d_Mo_content_64 rfl rfl ⟨rfl, hL, _, rfl, ((h9.2 hc20).1 hc19)⟩)))) (fun hc19 => (mz_iload_n d_Mo_content_39 rfl (mz_aload_n d_Mo_content_40 rfl (mz_getR (k := 6) (a := (36, 0)) cl_10 d_Mo_content_41 (by decide) wf_Mo_47 rfl (hF 30 0 rfl (by decide)) rfl (hL (30, 0) 6 (36, 0) rfl rfl (by decide)) (mz_iload_n d_Mo_content_44 rfl (match ((h9.2 hc20).2 hc19) with | ⟨j10, h11, h12, h13⟩ => mz_iald j10 d_Mo_content_45 (hF 36 0 rfl (by decide)) rfl h11 h12 (mz_icmp_lt 53 d_Mo_content_46 rfl (fun hc18 => (mz_aload_n d_Mo_content_53 rfl (mz_getR (k := 8) (a := (38, 0)) cl_10 d_Mo_content_54 (by decide) wf_Mo_53 rfl (hF 30 0 rfl (by decide)) rfl (hL (30, 0) 8 (38, 0) rfl rfl (by decide)) (mz_bipush (24 : Int32) d_Mo_content_57 (by decide) (mz_iload_n d_Mo_content_59 rfl (mz_imul d_Mo_content_60 (mz_iload_n d_Mo_content_61 rfl (mz_iadd d_Mo_content_62 (match (h13.1 hc18) with | ⟨j14, h15, h16, h17⟩ => mz_iald j14 d_Mo_content_63 (hF 38 0 rfl (by decide)) rfl h15 h16 (mz_iret .int d_Mo_content_64 rfl rfl ⟨rfl, hL, _, rfl, h17⟩)))))))))) (fun hc18 => (mz_iconst (-1 : Int32) d_Mo_content_49 (by decide) (mz_goto 64 d_Mo_content_50 rfl (mz_iret .int d_Mo_content_64 rfl rfl ⟨rfl, hL, _, rfl, (h13.2 hc18)⟩)))))))))))))))))))))))))) (fun hc22 => (mz_iconst (-1 : Int32) d_Mo_content_15 (by decide) (mz_iret .int d_Mo_content_16 rfl rfl ⟨rfl, hL, _, rfl, (((h M1 rfl).2 hc23).2 hc22)⟩))))))))))))))
