def mm_Rep_clear : MzT := (⟨"ParcelLine$Replies", "clear", "()V"⟩, prog_10_method_2_code, 1, (Option.none : Option Jvm.ClassFile.FieldType))
theorem cs_Rep_clear {mm : MzT} : mzCall mm mm_Rep_clear 0 := ⟨wn_Rep, wco_Rep_clear, by decide +kernel, by decide⟩
theorem d_Rep_clear_0 : decode mm_Rep_clear.2.1 0 = .ok (.aload_n 0, 1) := by decide +kernel
theorem d_Rep_clear_1 : decode mm_Rep_clear.2.1 1 = .ok (.iconst 0, 1) := by decide +kernel
theorem d_Rep_clear_2 : decode mm_Rep_clear.2.1 2 = .ok (.putfield 18, 3) := by decide +kernel
theorem d_Rep_clear_5 : decode mm_Rep_clear.2.1 5 = .ok (.aload_n 0, 1) := by decide +kernel
theorem d_Rep_clear_6 : decode mm_Rep_clear.2.1 6 = .ok (.iconst 0, 1) := by decide +kernel
theorem d_Rep_clear_7 : decode mm_Rep_clear.2.1 7 = .ok (.putfield 22, 3) := by decide +kernel
theorem d_Rep_clear_10 : decode mm_Rep_clear.2.1 10 = .ok (.return_, 1) := by decide +kernel
def wp_Rep_clear (x : Nat)  (M : MzM) (K : MzM → Prop) : Prop := (∀ M1 : MzM, M1 = mz_si M (9, x) 1 (0 : Int32) → (∀ M2 : MzM, M2 = mz_si M1 (9, x) 2 (0 : Int32) → K M2))
theorem tm_Rep_clear {G : MzG} {B : MzB} {d : Nat} {K : MzM → Prop} (hF : mzLive B) {x : Nat} (hx : x < 2)  {M : MzM} (hL : mzLnk M) (h : wp_Rep_clear x  M K) : MzC G B d mm_Rep_clear [.ref (mz_ad B (9, x))] M (0, 0) (mzK0 B K) := by
  unfold wp_Rep_clear at h
  exact MzC.of rfl (Nat.le_of_ble_eq_true rfl) (show MzS G B d mm_Rep_clear M (0, 0) (mzK0 B K) 0 [(0, .ref (mz_ad B (9, x)))] [] from (mz_aload_n d_Rep_clear_0 rfl (mz_iconst (0 : Int32) d_Rep_clear_1 (by decide) (mz_putI (k := 1) cl_5 d_Rep_clear_2 (by decide) wf_Rep_18 rfl rfl rfl rfl (hF 9 x hx) rfl (let M1 : MzM := mz_si M (9, x) 1 (0 : Int32); (mz_aload_n d_Rep_clear_5 rfl (mz_iconst (0 : Int32) d_Rep_clear_6 (by decide) (mz_putI (k := 2) cl_5 d_Rep_clear_7 (by decide) wf_Rep_22 rfl rfl rfl rfl (hF 9 x hx) rfl (let M2 : MzM := mz_si M1 (9, x) 2 (0 : Int32); (mz_vret d_Rep_clear_10 rfl ⟨rfl, hL, rfl, ((h M1 rfl) M2 rfl)⟩))))))))))
def mm_Ses_drop : MzT := (⟨"ParcelLine$Session", "drop", "()V"⟩, prog_11_method_5_code, 1, (Option.none : Option Jvm.ClassFile.FieldType))
theorem cs_Ses_drop {mm : MzT} : mzCall mm mm_Ses_drop 0 := ⟨wn_Ses, wco_Ses_drop, by decide +kernel, by decide⟩
theorem d_Ses_drop_0 : decode mm_Ses_drop.2.1 0 = .ok (.aload_n 0, 1) := by decide +kernel
theorem d_Ses_drop_1 : decode mm_Ses_drop.2.1 1 = .ok (.invokevirtual 148, 3) := by decide +kernel
theorem d_Ses_drop_4 : decode mm_Ses_drop.2.1 4 = .ok (.aload_n 0, 1) := by decide +kernel
theorem d_Ses_drop_5 : decode mm_Ses_drop.2.1 5 = .ok (.getfield 22, 3) := by decide +kernel
theorem d_Ses_drop_8 : decode mm_Ses_drop.2.1 8 = .ok (.invokevirtual 149, 3) := by decide +kernel
theorem d_Ses_drop_11 : decode mm_Ses_drop.2.1 11 = .ok (.return_, 1) := by decide +kernel
def wp_Ses_drop (x : Nat)  (M : MzM) (K : MzM → Prop) : Prop := wp_Ses_startOver x  M (fun M1 => wp_Rep_clear x  M1 (fun M4 => K M4))
theorem tm_Ses_drop {G : MzG} {B : MzB} {d : Nat} {K : MzM → Prop} (hF : mzLive B) {x : Nat} (hx : x < 2)  {M : MzM} (hL : mzLnk M) (h : wp_Ses_drop x  M K) : MzC G B (d + 3) mm_Ses_drop [.ref (mz_ad B (8, x))] M (0, 0) (mzK0 B K) := by
  unfold wp_Ses_drop at h
  exact MzC.of rfl (Nat.le_of_ble_eq_true rfl) (show MzS G B (d + 3) mm_Ses_drop M (0, 0) (mzK0 B K) 0 [(0, .ref (mz_ad B (8, x)))] [] from (mz_aload_n d_Ses_drop_0 rfl (mz_callV (As := []) (st := []) (hF 8 x hx) rfl (mzClOf cl_4) 0 0 d_Ses_drop_1 cs_Ses_startOver wl_Ses_148 wi_Ses_startOver wse_Ses_startOver (Nat.le_of_ble_eq_true rfl) (Nat.le_refl _) (Nat.le_refl _) (MzC.mono (tm_Ses_startOver (d := d) hF hx hL h) (fun r9 B9 M1 hq3 => by obtain ⟨rfl, hL2, rfl, hq3⟩ := hq3; exact ⟨none, rfl, (mz_aload_n d_Ses_drop_4 rfl (mz_getR (k := 2) (a := (9, x)) cl_4 d_Ses_drop_5 (by decide) wf_Ses_22 rfl (hF 8 x hx) rfl (hL2 (8, x) 2 (9, x) rfl hx) (mz_callV (As := []) (st := []) (hF 9 x hx) rfl (mzClOf cl_5) 0 0 d_Ses_drop_8 cs_Rep_clear wl_Ses_149 wi_Rep_clear wse_Rep_clear (Nat.le_of_ble_eq_true rfl) (Nat.le_refl _) (Nat.le_refl _) (MzC.mono (tm_Rep_clear (d := (d + 2)) hF hx hL2 hq3) (fun r9 B9 M4 hq6 => by obtain ⟨rfl, hL5, rfl, hq6⟩ := hq6; exact ⟨none, rfl, (mz_vret d_Ses_drop_11 rfl ⟨rfl, hL5, rfl, hq6⟩)⟩)))))⟩)))))
def mm_Cop_interrupt : MzT := (⟨"ParcelLine$Copier", "interrupt", "()V"⟩, prog_5_method_3_code, 1, (Option.none : Option Jvm.ClassFile.FieldType))
theorem cs_Cop_interrupt {mm : MzT} : mzCall mm mm_Cop_interrupt 0 := ⟨wn_Cop, wco_Cop_interrupt, by decide +kernel, by decide⟩
theorem d_Cop_interrupt_0 : decode mm_Cop_interrupt.2.1 0 = .ok (.aload_n 0, 1) := by decide +kernel
theorem d_Cop_interrupt_1 : decode mm_Cop_interrupt.2.1 1 = .ok (.iconst 0, 1) := by decide +kernel
theorem d_Cop_interrupt_2 : decode mm_Cop_interrupt.2.1 2 = .ok (.putfield 33, 3) := by decide +kernel
theorem d_Cop_interrupt_5 : decode mm_Cop_interrupt.2.1 5 = .ok (.aload_n 0, 1) := by decide +kernel
theorem d_Cop_interrupt_6 : decode mm_Cop_interrupt.2.1 6 = .ok (.getfield 30, 3) := by decide +kernel
theorem d_Cop_interrupt_9 : decode mm_Cop_interrupt.2.1 9 = .ok (.ifCond .le 16, 3) := by decide +kernel
theorem d_Cop_interrupt_12 : decode mm_Cop_interrupt.2.1 12 = .ok (.aload_n 0, 1) := by decide +kernel
theorem d_Cop_interrupt_13 : decode mm_Cop_interrupt.2.1 13 = .ok (.dup, 1) := by decide +kernel
theorem d_Cop_interrupt_14 : decode mm_Cop_interrupt.2.1 14 = .ok (.getfield 30, 3) := by decide +kernel
theorem d_Cop_interrupt_17 : decode mm_Cop_interrupt.2.1 17 = .ok (.iconst 1, 1) := by decide +kernel
theorem d_Cop_interrupt_18 : decode mm_Cop_interrupt.2.1 18 = .ok (.isub, 1) := by decide +kernel
theorem d_Cop_interrupt_19 : decode mm_Cop_interrupt.2.1 19 = .ok (.putfield 30, 3) := by decide +kernel
theorem d_Cop_interrupt_22 : decode mm_Cop_interrupt.2.1 22 = .ok (.goto 8, 3) := by decide +kernel
theorem d_Cop_interrupt_25 : decode mm_Cop_interrupt.2.1 25 = .ok (.aload_n 0, 1) := by decide +kernel
theorem d_Cop_interrupt_26 : decode mm_Cop_interrupt.2.1 26 = .ok (.iconst 1, 1) := by decide +kernel
theorem d_Cop_interrupt_27 : decode mm_Cop_interrupt.2.1 27 = .ok (.putfield 36, 3) := by decide +kernel
theorem d_Cop_interrupt_30 : decode mm_Cop_interrupt.2.1 30 = .ok (.return_, 1) := by decide +kernel
def wp_Cop_interrupt   (M : MzM) (K : MzM → Prop) : Prop := (∀ M1 : MzM, M1 = mz_si M (22, 0) 6 (0 : Int32) → (((mz_i M1 (22, 0) 5) ≤ 0 → (∀ M2 : MzM, M2 = mz_si M1 (22, 0) 7 (1 : Int32) → K M2)) ∧ (¬ (mz_i M1 (22, 0) 5) ≤ 0 → (∀ M3 : MzM, M3 = mz_si M1 (22, 0) 5 ((mz_i M1 (22, 0) 5) - (1 : Int32)) → K M3))))
theorem tm_Cop_interrupt {G : MzG} {B : MzB} {d : Nat} {K : MzM → Prop} (hF : mzLive B)    {M : MzM} (hL : mzLnk M) (h : wp_Cop_interrupt   M K) : MzC G B d mm_Cop_interrupt [.ref (mz_ad B (22, 0))] M (0, 0) (mzK0 B K) := by
  unfold wp_Cop_interrupt at h
  exact MzC.of rfl (Nat.le_of_ble_eq_true rfl) (show MzS G B d mm_Cop_interrupt M (0, 0) (mzK0 B K) 0 [(0, .ref (mz_ad B (22, 0)))] [] from (mz_aload_n d_Cop_interrupt_0 rfl (mz_iconst (0 : Int32) d_Cop_interrupt_1 (by decide) (mz_putI (k := 6) cl_9 d_Cop_interrupt_2 (by decide) wf_Cop_33 rfl rfl rfl rfl (hF 22 0 (by decide)) rfl (let M1 : MzM := mz_si M (22, 0) 6 (0 : Int32); (mz_aload_n d_Cop_interrupt_5 rfl (mz_getI (k := 5) cl_9 d_Cop_interrupt_6 (by decide) wf_Cop_30 rfl (hF 22 0 (by decide)) rfl (mz_if_le 25 d_Cop_interrupt_9 rfl (fun hc4 => (mz_aload_n d_Cop_interrupt_25 rfl (mz_iconst (1 : Int32) d_Cop_interrupt_26 (by decide) (mz_putI (k := 7) cl_9 d_Cop_interrupt_27 (by decide) wf_Cop_36 rfl rfl rfl rfl (hF 22 0 (by decide)) rfl (let M2 : MzM := mz_si M1 (22, 0) 7 (1 : Int32); (mz_vret d_Cop_interrupt_30 rfl ⟨rfl, hL, rfl, (((h M1 rfl).1 hc4) M2 rfl)⟩)))))) (fun hc4 => (mz_aload_n d_Cop_interrupt_12 rfl (mz_dup d_Cop_interrupt_13 rfl (mz_getI (k := 5) cl_9 d_Cop_interrupt_14 (by decide) wf_Cop_30 rfl (hF 22 0 (by decide)) rfl (mz_iconst (1 : Int32) d_Cop_interrupt_17 (by decide) (mz_isub d_Cop_interrupt_18 (mz_putI (k := 5) cl_9 d_Cop_interrupt_19 (by decide) wf_Cop_30 rfl rfl rfl rfl (hF 22 0 (by decide)) rfl (let M3 : MzM := mz_si M1 (22, 0) 5 ((mz_i M1 (22, 0) 5) - (1 : Int32)); (mz_goto 30 d_Cop_interrupt_22 rfl (mz_vret d_Cop_interrupt_30 rfl ⟨rfl, hL, rfl, (((h M1 rfl).2 hc4) M3 rfl)⟩))))))))))))))))))
def mm_PL_cut : MzT := (⟨"ParcelLine", "cut", "(I)Z"⟩, prog_1_method_6_code, 2, (Option.some Jvm.ClassFile.FieldType.boolean))
theorem cs_PL_cut {mm : MzT} : mzCall mm mm_PL_cut 1 := ⟨wn_PL, wco_PL_cut, by decide +kernel, by decide⟩
theorem d_PL_cut_0 : decode mm_PL_cut.2.1 0 = .ok (.iload_n 1, 1) := by decide +kernel
theorem d_PL_cut_1 : decode mm_PL_cut.2.1 1 = .ok (.invokestatic 41, 3) := by decide +kernel
theorem d_PL_cut_4 : decode mm_PL_cut.2.1 4 = .ok (.ifCond .ne 5, 3) := by decide +kernel
theorem d_PL_cut_7 : decode mm_PL_cut.2.1 7 = .ok (.iconst 0, 1) := by decide +kernel
theorem d_PL_cut_8 : decode mm_PL_cut.2.1 8 = .ok (.ireturn, 1) := by decide +kernel
theorem d_PL_cut_9 : decode mm_PL_cut.2.1 9 = .ok (.aload_n 0, 1) := by decide +kernel
theorem d_PL_cut_10 : decode mm_PL_cut.2.1 10 = .ok (.getfield 18, 3) := by decide +kernel
theorem d_PL_cut_13 : decode mm_PL_cut.2.1 13 = .ok (.iload_n 1, 1) := by decide +kernel
theorem d_PL_cut_14 : decode mm_PL_cut.2.1 14 = .ok (.aaload, 1) := by decide +kernel
theorem d_PL_cut_15 : decode mm_PL_cut.2.1 15 = .ok (.invokevirtual 92, 3) := by decide +kernel
theorem d_PL_cut_18 : decode mm_PL_cut.2.1 18 = .ok (.iload_n 1, 1) := by decide +kernel
theorem d_PL_cut_19 : decode mm_PL_cut.2.1 19 = .ok (.iconst 1, 1) := by decide +kernel
theorem d_PL_cut_20 : decode mm_PL_cut.2.1 20 = .ok (.if_icmp .ne 10, 3) := by decide +kernel
theorem d_PL_cut_23 : decode mm_PL_cut.2.1 23 = .ok (.aload_n 0, 1) := by decide +kernel
theorem d_PL_cut_24 : decode mm_PL_cut.2.1 24 = .ok (.getfield 37, 3) := by decide +kernel
theorem d_PL_cut_27 : decode mm_PL_cut.2.1 27 = .ok (.invokevirtual 95, 3) := by decide +kernel
theorem d_PL_cut_30 : decode mm_PL_cut.2.1 30 = .ok (.iconst 1, 1) := by decide +kernel
theorem d_PL_cut_31 : decode mm_PL_cut.2.1 31 = .ok (.ireturn, 1) := by decide +kernel
def wp_PL_cut  (a1 : Int32) (M : MzM) (K : Int32 → MzM → Prop) : Prop := wp_PL_isSession  a1 M (fun v4 M1 => ((¬ v4 = 0 → (∃ j5 : Nat, a1.toInt = (j5 : Int) ∧ j5 < 2 ∧ wp_Ses_drop j5  M1 (fun M9 => ((¬ a1 = (1 : Int32) → K (1 : Int32) M9) ∧ (a1 = (1 : Int32) → wp_Cop_interrupt   M9 (fun M12 => K (1 : Int32) M12)))))) ∧ (v4 = 0 → K (0 : Int32) M1)))
theorem tm_PL_cut {G : MzG} {B : MzB} {d : Nat} {K : Int32 → MzM → Prop} (hF : mzLive B)   {a1 : Int32} {M : MzM} (hL : mzLnk M) (h : wp_PL_cut  a1 M K) : MzC G B (d + 4) mm_PL_cut [.ref (mz_ad B (0, 0)), .int a1] M (0, 0) (mzK1 B K) := by
  unfold wp_PL_cut at h
  exact MzC.of rfl (Nat.le_of_ble_eq_true rfl) (show MzS G B (d + 4) mm_PL_cut M (0, 0) (mzK1 B K) 0 [(0, .ref (mz_ad B (0, 0))), (1, .int a1)] [] from (mz_iload_n d_PL_cut_0 rfl (mz_callS (As := [.int a1]) (st := []) 0 0 d_PL_cut_1 cs_PL_isSession wl_PL_41 ws_PL_isSession (Nat.le_of_ble_eq_true rfl) (Nat.le_refl _) (Nat.le_refl _) (MzC.mono (tm_PL_isSession (d := (d + 3)) hF  hL h) (fun r9 B9 M1 hq3 => by obtain ⟨rfl, hL2, v4, rfl, hq3⟩ := hq3; exact ⟨_, rfl, (mz_if_ne 9 d_PL_cut_4 rfl (fun hc16 => (mz_aload_n d_PL_cut_9 rfl (mz_getR (k := 1) (a := (7, 0)) cl_0 d_PL_cut_10 (by decide) wf_PL_18 rfl (hF 0 0 (by decide)) rfl (hL2 (0, 0) 1 (7, 0) rfl (by decide)) (mz_iload_n d_PL_cut_13 rfl (match (hq3.1 hc16) with | ⟨j5, h6, h7, h8⟩ => mz_aald (a := (8, j5)) j5 d_PL_cut_14 (hF 7 0 (by decide)) rfl h6 h7 (hL2 (7, 0) j5 (8, j5) (mzLk_7 h7) (by decide)) (mz_callV (As := []) (st := []) (hF 8 j5 h7) rfl (mzClOf cl_4) 0 0 d_PL_cut_15 cs_Ses_drop wl_PL_92 wi_Ses_drop wse_Ses_drop (Nat.le_of_ble_eq_true rfl) (Nat.le_refl _) (Nat.le_refl _) (MzC.mono (tm_Ses_drop (d := d) hF h7 hL2 h8) (fun r9 B9 M9 hq11 => by obtain ⟨rfl, hL10, rfl, hq11⟩ := hq11; exact ⟨none, rfl, (mz_iload_n d_PL_cut_18 rfl (mz_iconst (1 : Int32) d_PL_cut_19 (by decide) (mz_icmp_ne 30 d_PL_cut_20 rfl (fun hc15 => (mz_iconst (1 : Int32) d_PL_cut_30 (by decide) (mz_iret .boolean d_PL_cut_31 rfl rfl ⟨rfl, hL10, _, rfl, (hq11.1 hc15)⟩))) (fun hc15 => (mz_aload_n d_PL_cut_23 rfl (mz_getR (k := 3) (a := (22, 0)) cl_0 d_PL_cut_24 (by decide) wf_PL_37 rfl (hF 0 0 (by decide)) rfl (hL10 (0, 0) 3 (22, 0) rfl (by decide)) (mz_callV (As := []) (st := []) (hF 22 0 (by decide)) rfl (mzClOf cl_9) 0 0 d_PL_cut_27 cs_Cop_interrupt wl_PL_95 wi_Cop_interrupt wse_Cop_interrupt (Nat.le_of_ble_eq_true rfl) (Nat.le_refl _) (Nat.le_refl _) (MzC.mono (tm_Cop_interrupt (d := (d + 3)) hF  hL10 (hq11.2 hc15)) (fun r9 B9 M12 hq14 => by obtain ⟨rfl, hL13, rfl, hq14⟩ := hq14; exact ⟨none, rfl, (mz_iconst (1 : Int32) d_PL_cut_30 (by decide) (mz_iret .boolean d_PL_cut_31 rfl rfl ⟨rfl, hL13, _, rfl, hq14⟩))⟩)))))))))⟩)))))))) (fun hc16 => (mz_iconst (0 : Int32) d_PL_cut_7 (by decide) (mz_iret .boolean d_PL_cut_8 rfl rfl ⟨rfl, hL2, _, rfl, (hq3.2 hc16)⟩))))⟩)))))
def mm_Store_loseUnsafeBytes : MzT := (⟨"ParcelLine$Store", "loseUnsafeBytes", "()V"⟩, prog_12_method_13_code, 3, (Option.none : Option Jvm.ClassFile.FieldType))
theorem cs_Store_loseUnsafeBytes {mm : MzT} : mzCall mm mm_Store_loseUnsafeBytes 0 := ⟨wn_Store, wco_Store_loseUnsafeBytes, by decide +kernel, by decide⟩
theorem d_Store_loseUnsafeBytes_0 : decode mm_Store_loseUnsafeBytes.2.1 0 = .ok (.iconst 0, 1) := by decide +kernel
theorem d_Store_loseUnsafeBytes_1 : decode mm_Store_loseUnsafeBytes.2.1 1 = .ok (.istore_n 1, 1) := by decide +kernel
theorem d_Store_loseUnsafeBytes_2 : decode mm_Store_loseUnsafeBytes.2.1 2 = .ok (.iload_n 1, 1) := by decide +kernel
theorem d_Store_loseUnsafeBytes_3 : decode mm_Store_loseUnsafeBytes.2.1 3 = .ok (.bipush 16, 2) := by decide +kernel
theorem d_Store_loseUnsafeBytes_5 : decode mm_Store_loseUnsafeBytes.2.1 5 = .ok (.if_icmp .ge 49, 3) := by decide +kernel
theorem d_Store_loseUnsafeBytes_8 : decode mm_Store_loseUnsafeBytes.2.1 8 = .ok (.aload_n 0, 1) := by decide +kernel
theorem d_Store_loseUnsafeBytes_9 : decode mm_Store_loseUnsafeBytes.2.1 9 = .ok (.getfield 11, 3) := by decide +kernel
theorem d_Store_loseUnsafeBytes_12 : decode mm_Store_loseUnsafeBytes.2.1 12 = .ok (.iload_n 1, 1) := by decide +kernel
theorem d_Store_loseUnsafeBytes_13 : decode mm_Store_loseUnsafeBytes.2.1 13 = .ok (.aaload, 1) := by decide +kernel
theorem d_Store_loseUnsafeBytes_14 : decode mm_Store_loseUnsafeBytes.2.1 14 = .ok (.astore_n 2, 1) := by decide +kernel
theorem d_Store_loseUnsafeBytes_15 : decode mm_Store_loseUnsafeBytes.2.1 15 = .ok (.aload_n 2, 1) := by decide +kernel
theorem d_Store_loseUnsafeBytes_16 : decode mm_Store_loseUnsafeBytes.2.1 16 = .ok (.getfield 65, 3) := by decide +kernel
theorem d_Store_loseUnsafeBytes_19 : decode mm_Store_loseUnsafeBytes.2.1 19 = .ok (.ifCond .eq 29, 3) := by decide +kernel
theorem d_Store_loseUnsafeBytes_22 : decode mm_Store_loseUnsafeBytes.2.1 22 = .ok (.aload_n 2, 1) := by decide +kernel
theorem d_Store_loseUnsafeBytes_23 : decode mm_Store_loseUnsafeBytes.2.1 23 = .ok (.getfield 58, 3) := by decide +kernel
theorem d_Store_loseUnsafeBytes_26 : decode mm_Store_loseUnsafeBytes.2.1 26 = .ok (.dup, 1) := by decide +kernel
theorem d_Store_loseUnsafeBytes_27 : decode mm_Store_loseUnsafeBytes.2.1 27 = .ok (.getfield 62, 3) := by decide +kernel
theorem d_Store_loseUnsafeBytes_30 : decode mm_Store_loseUnsafeBytes.2.1 30 = .ok (.aload_n 2, 1) := by decide +kernel
theorem d_Store_loseUnsafeBytes_31 : decode mm_Store_loseUnsafeBytes.2.1 31 = .ok (.getfield 58, 3) := by decide +kernel
theorem d_Store_loseUnsafeBytes_34 : decode mm_Store_loseUnsafeBytes.2.1 34 = .ok (.getfield 62, 3) := by decide +kernel
theorem d_Store_loseUnsafeBytes_37 : decode mm_Store_loseUnsafeBytes.2.1 37 = .ok (.iconst 4, 1) := by decide +kernel
theorem d_Store_loseUnsafeBytes_38 : decode mm_Store_loseUnsafeBytes.2.1 38 = .ok (.irem, 1) := by decide +kernel
theorem d_Store_loseUnsafeBytes_39 : decode mm_Store_loseUnsafeBytes.2.1 39 = .ok (.isub, 1) := by decide +kernel
theorem d_Store_loseUnsafeBytes_40 : decode mm_Store_loseUnsafeBytes.2.1 40 = .ok (.putfield 62, 3) := by decide +kernel
theorem d_Store_loseUnsafeBytes_43 : decode mm_Store_loseUnsafeBytes.2.1 43 = .ok (.aload_n 2, 1) := by decide +kernel
theorem d_Store_loseUnsafeBytes_44 : decode mm_Store_loseUnsafeBytes.2.1 44 = .ok (.iconst 0, 1) := by decide +kernel
theorem d_Store_loseUnsafeBytes_45 : decode mm_Store_loseUnsafeBytes.2.1 45 = .ok (.putfield 65, 3) := by decide +kernel
theorem d_Store_loseUnsafeBytes_48 : decode mm_Store_loseUnsafeBytes.2.1 48 = .ok (.iinc 1 1, 3) := by decide +kernel
theorem d_Store_loseUnsafeBytes_51 : decode mm_Store_loseUnsafeBytes.2.1 51 = .ok (.goto (-49), 3) := by decide +kernel
theorem d_Store_loseUnsafeBytes_54 : decode mm_Store_loseUnsafeBytes.2.1 54 = .ok (.return_, 1) := by decide +kernel
def wp_Store_loseUnsafeBytes_48  (H2 : Int32 → MzM → Prop) (K : MzM → Prop) (y1 : Int32) (M : MzM) : Prop := H2 (y1 + (1 : Int32)) M
def wp_Store_loseUnsafeBytes_2   (K : MzM → Prop) : Nat → Int32 → MzM → Prop
  | 0, _, _ => False
  | r0 + 1, y1, M => (((16 : Int32) ≤ y1 → K M) ∧ (¬ (16 : Int32) ≤ y1 → (∃ j3 : Nat, y1.toInt = (j3 : Int) ∧ j3 < 16 ∧ (((mz_i M (3, j3) 6) = 0 → wp_Store_loseUnsafeBytes_48  (wp_Store_loseUnsafeBytes_2   K r0) K y1 M) ∧ (¬ (mz_i M (3, j3) 6) = 0 → (∀ M7 : MzM, M7 = mz_si M (4, j3) 1 ((mz_i M (4, j3) 1) - ((mz_i M (4, j3) 1) - (mz_i M (4, j3) 1) / (4 : Int32) * (4 : Int32))) → (∀ M8 : MzM, M8 = mz_si M7 (3, j3) 6 (0 : Int32) → wp_Store_loseUnsafeBytes_48  (wp_Store_loseUnsafeBytes_2   K r0) K y1 M8)))))))
def wp_Store_loseUnsafeBytes   (M : MzM) (K : MzM → Prop) : Prop := (∃ r1 : Nat, wp_Store_loseUnsafeBytes_2   K r1 (0 : Int32) M)
theorem tm_Store_loseUnsafeBytes_48 {G : MzG} {B : MzB} {d : Nat} {K : MzM → Prop} (hF : mzLive B)   {H2 : Int32 → MzM → Prop} (hH2 : ∀ (y1 : Int32) (M : MzM), mzLnk M → H2 y1 M → MzS G B d mm_Store_loseUnsafeBytes M (0, 0) (mzK0 B K) 2 [(0, .ref (mz_ad B (1, 0))), (1, .int y1)] []) (y1 : Int32) (M : MzM) (hL : mzLnk M) (h : wp_Store_loseUnsafeBytes_48  H2 K y1 M) : MzS G B d mm_Store_loseUnsafeBytes M (0, 0) (mzK0 B K) 48 [(0, .ref (mz_ad B (1, 0))), (1, .int y1)] [] := by
  unfold wp_Store_loseUnsafeBytes_48 at h
  exact (mz_iinc (y1 + (1 : Int32)) d_Store_loseUnsafeBytes_48 rfl (by decide) rfl (mz_goto 2 d_Store_loseUnsafeBytes_51 rfl (MzS.loc [(0, .ref (mz_ad B (1, 0))), (1, .int (y1 + (1 : Int32)))] ⟨rfl, rfl, trivial⟩ (hH2 (y1 + (1 : Int32)) M hL h))))
theorem tm_Store_loseUnsafeBytes_2 {G : MzG} {B : MzB} {d : Nat} {K : MzM → Prop} (hF : mzLive B)     : ∀ (r0 : Nat) (y1 : Int32) (M : MzM), mzLnk M → wp_Store_loseUnsafeBytes_2   K r0 y1 M → MzS G B d mm_Store_loseUnsafeBytes M (0, 0) (mzK0 B K) 2 [(0, .ref (mz_ad B (1, 0))), (1, .int y1)] [] := by
  intro r0
  induction r0 with
  | zero => intro y1 M hL h; exact False.elim h
  | succ r0 hH2 =>
    intro y1 M hL h
    unfold wp_Store_loseUnsafeBytes_2 at h
    exact (mz_iload_n d_Store_loseUnsafeBytes_2 rfl (mz_bipush (16 : Int32) d_Store_loseUnsafeBytes_3 (by decide) (mz_icmp_ge 54 d_Store_loseUnsafeBytes_5 rfl (fun hc10 => (mz_vret d_Store_loseUnsafeBytes_54 rfl ⟨rfl, hL, rfl, (h.1 hc10)⟩)) (fun hc10 => (mz_aload_n d_Store_loseUnsafeBytes_8 rfl (mz_getR (k := 0) (a := (2, 0)) cl_1 d_Store_loseUnsafeBytes_9 (by decide) wf_Store_11 rfl (hF 1 0 (by decide)) rfl (hL (1, 0) 0 (2, 0) rfl (by decide)) (mz_iload_n d_Store_loseUnsafeBytes_12 rfl (match (h.2 hc10) with | ⟨j3, h4, h5, h6⟩ => mz_aald (a := (3, j3)) j3 d_Store_loseUnsafeBytes_13 (hF 2 0 (by decide)) rfl h4 h5 (hL (2, 0) j3 (3, j3) (mzLk_2 h5) (by decide)) (mz_astore_n d_Store_loseUnsafeBytes_14 (by decide) (mz_aload_n d_Store_loseUnsafeBytes_15 rfl (mz_getIN (k := 6) cl_2 d_Store_loseUnsafeBytes_16 (by decide) wf_Store_65 rfl (hF 3 j3 h5) rfl (mz_if_eq 48 d_Store_loseUnsafeBytes_19 rfl (fun hc9 => (MzS.loc [(0, .ref (mz_ad B (1, 0))), (1, .int y1)] ⟨rfl, rfl, trivial⟩ (tm_Store_loseUnsafeBytes_48 hF  hH2 y1 M hL (h6.1 hc9)))) (fun hc9 => (mz_aload_n d_Store_loseUnsafeBytes_22 rfl (mz_getRN (k := 0) (a := (4, j3)) cl_2 d_Store_loseUnsafeBytes_23 (by decide) wf_Store_58 rfl (hF 3 j3 h5) rfl (hL (3, j3) 0 (4, j3) rfl h5) (mz_dup d_Store_loseUnsafeBytes_26 rfl (mz_getIN (k := 1) cl_3 d_Store_loseUnsafeBytes_27 (by decide) wf_Store_62 rfl (hF 4 j3 h5) rfl (mz_aload_n d_Store_loseUnsafeBytes_30 rfl (mz_getRN (k := 0) (a := (4, j3)) cl_2 d_Store_loseUnsafeBytes_31 (by decide) wf_Store_58 rfl (hF 3 j3 h5) rfl (hL (3, j3) 0 (4, j3) rfl h5) (mz_getIN (k := 1) cl_3 d_Store_loseUnsafeBytes_34 (by decide) wf_Store_62 rfl (hF 4 j3 h5) rfl (mz_iconst (4 : Int32) d_Store_loseUnsafeBytes_37 (by decide) (mz_irem d_Store_loseUnsafeBytes_38 (by decide) (mz_isub d_Store_loseUnsafeBytes_39 (mz_putIN (k := 1) cl_3 d_Store_loseUnsafeBytes_40 (by decide) wf_Store_62 rfl rfl rfl rfl (hF 4 j3 h5) rfl (let M7 : MzM := mz_si M (4, j3) 1 ((mz_i M (4, j3) 1) - ((mz_i M (4, j3) 1) - (mz_i M (4, j3) 1) / (4 : Int32) * (4 : Int32))); (mz_aload_n d_Store_loseUnsafeBytes_43 rfl (mz_iconst (0 : Int32) d_Store_loseUnsafeBytes_44 (by decide) (mz_putIN (k := 6) cl_2 d_Store_loseUnsafeBytes_45 (by decide) wf_Store_65 rfl rfl rfl rfl (hF 3 j3 h5) rfl (let M8 : MzM := mz_si M7 (3, j3) 6 (0 : Int32); (MzS.loc [(0, .ref (mz_ad B (1, 0))), (1, .int y1)] ⟨rfl, rfl, trivial⟩ (tm_Store_loseUnsafeBytes_48 hF  hH2 y1 M8 hL (((h6.2 hc9) M7 rfl) M8 rfl))))))))))))))))))))))))))))))))
theorem tm_Store_loseUnsafeBytes {G : MzG} {B : MzB} {d : Nat} {K : MzM → Prop} (hF : mzLive B)    {M : MzM} (hL : mzLnk M) (h : wp_Store_loseUnsafeBytes   M K) : MzC G B d mm_Store_loseUnsafeBytes [.ref (mz_ad B (1, 0))] M (0, 0) (mzK0 B K) := by
  unfold wp_Store_loseUnsafeBytes at h
  exact MzC.of rfl (Nat.le_of_ble_eq_true rfl) (show MzS G B d mm_Store_loseUnsafeBytes M (0, 0) (mzK0 B K) 0 [(0, .ref (mz_ad B (1, 0)))] [] from (mz_iconst (0 : Int32) d_Store_loseUnsafeBytes_0 (by decide) (mz_istore_n d_Store_loseUnsafeBytes_1 (by decide) (MzS.loc [(0, .ref (mz_ad B (1, 0))), (1, .int (0 : Int32))] ⟨rfl, rfl, trivial⟩ (match h with | ⟨r1, h2⟩ => tm_Store_loseUnsafeBytes_2 hF   r1 (0 : Int32) M hL h2)))))
def mm_PL_crash : MzT := (⟨"ParcelLine", "crash", "()V"⟩, prog_1_method_7_code, 2, (Option.none : Option Jvm.ClassFile.FieldType))
theorem cs_PL_crash {mm : MzT} : mzCall mm mm_PL_crash 0 := ⟨wn_PL, wco_PL_crash, by decide +kernel, by decide⟩
theorem d_PL_crash_0 : decode mm_PL_crash.2.1 0 = .ok (.iconst 0, 1) := by decide +kernel
theorem d_PL_crash_1 : decode mm_PL_crash.2.1 1 = .ok (.istore_n 1, 1) := by decide +kernel
theorem d_PL_crash_2 : decode mm_PL_crash.2.1 2 = .ok (.iload_n 1, 1) := by decide +kernel
theorem d_PL_crash_3 : decode mm_PL_crash.2.1 3 = .ok (.iconst 2, 1) := by decide +kernel
theorem d_PL_crash_4 : decode mm_PL_crash.2.1 4 = .ok (.if_icmp .ge 18, 3) := by decide +kernel
theorem d_PL_crash_7 : decode mm_PL_crash.2.1 7 = .ok (.aload_n 0, 1) := by decide +kernel
theorem d_PL_crash_8 : decode mm_PL_crash.2.1 8 = .ok (.getfield 18, 3) := by decide +kernel
theorem d_PL_crash_11 : decode mm_PL_crash.2.1 11 = .ok (.iload_n 1, 1) := by decide +kernel
theorem d_PL_crash_12 : decode mm_PL_crash.2.1 12 = .ok (.aaload, 1) := by decide +kernel
theorem d_PL_crash_13 : decode mm_PL_crash.2.1 13 = .ok (.invokevirtual 92, 3) := by decide +kernel
theorem d_PL_crash_16 : decode mm_PL_crash.2.1 16 = .ok (.iinc 1 1, 3) := by decide +kernel
theorem d_PL_crash_19 : decode mm_PL_crash.2.1 19 = .ok (.goto (-17), 3) := by decide +kernel
theorem d_PL_crash_22 : decode mm_PL_crash.2.1 22 = .ok (.aload_n 0, 1) := by decide +kernel
theorem d_PL_crash_23 : decode mm_PL_crash.2.1 23 = .ok (.getfield 12, 3) := by decide +kernel
theorem d_PL_crash_26 : decode mm_PL_crash.2.1 26 = .ok (.invokevirtual 98, 3) := by decide +kernel
theorem d_PL_crash_29 : decode mm_PL_crash.2.1 29 = .ok (.aload_n 0, 1) := by decide +kernel
theorem d_PL_crash_30 : decode mm_PL_crash.2.1 30 = .ok (.getfield 37, 3) := by decide +kernel
theorem d_PL_crash_33 : decode mm_PL_crash.2.1 33 = .ok (.invokevirtual 95, 3) := by decide +kernel
theorem d_PL_crash_36 : decode mm_PL_crash.2.1 36 = .ok (.return_, 1) := by decide +kernel
def wp_PL_crash_2   (K : MzM → Prop) : Nat → Int32 → MzM → Prop
  | 0, _, _ => False
  | r0 + 1, y1, M => (((2 : Int32) ≤ y1 → wp_Store_loseUnsafeBytes   M (fun M3 => wp_Cop_interrupt   M3 (fun M6 => K M6))) ∧ (¬ (2 : Int32) ≤ y1 → (∃ j9 : Nat, y1.toInt = (j9 : Int) ∧ j9 < 2 ∧ wp_Ses_drop j9  M (fun M13 => (wp_PL_crash_2   K r0) (y1 + (1 : Int32)) M13))))
def wp_PL_crash   (M : MzM) (K : MzM → Prop) : Prop := (∃ r1 : Nat, wp_PL_crash_2   K r1 (0 : Int32) M)
theorem tm_PL_crash_2 {G : MzG} {B : MzB} {d : Nat} {K : MzM → Prop} (hF : mzLive B)     : ∀ (r0 : Nat) (y1 : Int32) (M : MzM), mzLnk M → wp_PL_crash_2   K r0 y1 M → MzS G B (d + 4) mm_PL_crash M (0, 0) (mzK0 B K) 2 [(0, .ref (mz_ad B (0, 0))), (1, .int y1)] [] := by
  intro r0
  induction r0 with
  | zero => intro y1 M hL h; exact False.elim h
  | succ r0 hH2 =>
    intro y1 M hL h
    unfold wp_PL_crash_2 at h
    exact (mz_iload_n d_PL_crash_2 rfl (mz_iconst (2 : Int32) d_PL_crash_3 (by decide) (mz_icmp_ge 22 d_PL_crash_4 rfl (fun hc16 => (mz_aload_n d_PL_crash_22 rfl (mz_getR (k := 0) (a := (1, 0)) cl_0 d_PL_crash_23 (by decide) wf_PL_12 rfl (hF 0 0 (by decide)) rfl (hL (0, 0) 0 (1, 0) rfl (by decide)) (mz_callV (As := []) (st := []) (hF 1 0 (by decide)) rfl (mzClOf cl_1) 0 0 d_PL_crash_26 cs_Store_loseUnsafeBytes wl_PL_98 wi_Store_loseUnsafeBytes wse_Store_loseUnsafeBytes (Nat.le_of_ble_eq_true rfl) (Nat.le_refl _) (Nat.le_refl _) (MzC.mono (tm_Store_loseUnsafeBytes (d := (d + 3)) hF  hL (h.1 hc16)) (fun r9 B9 M3 hq5 => by obtain ⟨rfl, hL4, rfl, hq5⟩ := hq5; exact ⟨none, rfl, (mz_aload_n d_PL_crash_29 rfl (mz_getR (k := 3) (a := (22, 0)) cl_0 d_PL_crash_30 (by decide) wf_PL_37 rfl (hF 0 0 (by decide)) rfl (hL4 (0, 0) 3 (22, 0) rfl (by decide)) (mz_callV (As := []) (st := []) (hF 22 0 (by decide)) rfl (mzClOf cl_9) 0 0 d_PL_crash_33 cs_Cop_interrupt wl_PL_95 wi_Cop_interrupt wse_Cop_interrupt (Nat.le_of_ble_eq_true rfl) (Nat.le_refl _) (Nat.le_refl _) (MzC.mono (tm_Cop_interrupt (d := (d + 3)) hF  hL4 hq5) (fun r9 B9 M6 hq8 => by obtain ⟨rfl, hL7, rfl, hq8⟩ := hq8; exact ⟨none, rfl, (mz_vret d_PL_crash_36 rfl ⟨rfl, hL7, rfl, hq8⟩)⟩)))))⟩)))))) (fun hc16 => (mz_aload_n d_PL_crash_7 rfl (mz_getR (k := 1) (a := (7, 0)) cl_0 d_PL_crash_8 (by decide) wf_PL_18 rfl (hF 0 0 (by decide)) rfl (hL (0, 0) 1 (7, 0) rfl (by decide)) (mz_iload_n d_PL_crash_11 rfl (match (h.2 hc16) with | ⟨j9, h10, h11, h12⟩ => mz_aald (a := (8, j9)) j9 d_PL_crash_12 (hF 7 0 (by decide)) rfl h10 h11 (hL (7, 0) j9 (8, j9) (mzLk_7 h11) (by decide)) (mz_callV (As := []) (st := []) (hF 8 j9 h11) rfl (mzClOf cl_4) 0 0 d_PL_crash_13 cs_Ses_drop wl_PL_92 wi_Ses_drop wse_Ses_drop (Nat.le_of_ble_eq_true rfl) (Nat.le_refl _) (Nat.le_refl _) (MzC.mono (tm_Ses_drop (d := d) hF h11 hL h12) (fun r9 B9 M13 hq15 => by obtain ⟨rfl, hL14, rfl, hq15⟩ := hq15; exact ⟨none, rfl, (mz_iinc (y1 + (1 : Int32)) d_PL_crash_16 rfl (by decide) rfl (mz_goto 2 d_PL_crash_19 rfl (MzS.loc [(0, .ref (mz_ad B (0, 0))), (1, .int (y1 + (1 : Int32)))] ⟨rfl, rfl, trivial⟩ (hH2 (y1 + (1 : Int32)) M13 hL14 hq15))))⟩)))))))))))
theorem tm_PL_crash {G : MzG} {B : MzB} {d : Nat} {K : MzM → Prop} (hF : mzLive B)    {M : MzM} (hL : mzLnk M) (h : wp_PL_crash   M K) : MzC G B (d + 4) mm_PL_crash [.ref (mz_ad B (0, 0))] M (0, 0) (mzK0 B K) := by
  unfold wp_PL_crash at h
  exact MzC.of rfl (Nat.le_of_ble_eq_true rfl) (show MzS G B (d + 4) mm_PL_crash M (0, 0) (mzK0 B K) 0 [(0, .ref (mz_ad B (0, 0)))] [] from (mz_iconst (0 : Int32) d_PL_crash_0 (by decide) (mz_istore_n d_PL_crash_1 (by decide) (MzS.loc [(0, .ref (mz_ad B (0, 0))), (1, .int (0 : Int32))] ⟨rfl, rfl, trivial⟩ (match h with | ⟨r1, h2⟩ => tm_PL_crash_2 hF   r1 (0 : Int32) M hL h2)))))
def mm_PL_waiting : MzT := (⟨"ParcelLine", "waiting", "(I)I"⟩, prog_1_method_8_code, 2, (Option.some Jvm.ClassFile.FieldType.int))
theorem cs_PL_waiting {mm : MzT} : mzCall mm mm_PL_waiting 1 := ⟨wn_PL, wco_PL_waiting, by decide +kernel, by decide⟩
theorem d_PL_waiting_0 : decode mm_PL_waiting.2.1 0 = .ok (.iload_n 1, 1) := by decide +kernel
theorem d_PL_waiting_1 : decode mm_PL_waiting.2.1 1 = .ok (.invokestatic 41, 3) := by decide +kernel
theorem d_PL_waiting_4 : decode mm_PL_waiting.2.1 4 = .ok (.ifCond .eq 18, 3) := by decide +kernel
theorem d_PL_waiting_7 : decode mm_PL_waiting.2.1 7 = .ok (.aload_n 0, 1) := by decide +kernel
theorem d_PL_waiting_8 : decode mm_PL_waiting.2.1 8 = .ok (.getfield 18, 3) := by decide +kernel
theorem d_PL_waiting_11 : decode mm_PL_waiting.2.1 11 = .ok (.iload_n 1, 1) := by decide +kernel
theorem d_PL_waiting_12 : decode mm_PL_waiting.2.1 12 = .ok (.aaload, 1) := by decide +kernel
theorem d_PL_waiting_13 : decode mm_PL_waiting.2.1 13 = .ok (.getfield 101, 3) := by decide +kernel
theorem d_PL_waiting_16 : decode mm_PL_waiting.2.1 16 = .ok (.getfield 105, 3) := by decide +kernel
theorem d_PL_waiting_19 : decode mm_PL_waiting.2.1 19 = .ok (.goto 4, 3) := by decide +kernel
theorem d_PL_waiting_22 : decode mm_PL_waiting.2.1 22 = .ok (.iconst (-1), 1) := by decide +kernel
theorem d_PL_waiting_23 : decode mm_PL_waiting.2.1 23 = .ok (.ireturn, 1) := by decide +kernel
def wp_PL_waiting  (a1 : Int32) (M : MzM) (K : Int32 → MzM → Prop) : Prop := wp_PL_isSession  a1 M (fun v4 M1 => ((v4 = 0 → K (-1 : Int32) M1) ∧ (¬ v4 = 0 → (∃ j5 : Nat, a1.toInt = (j5 : Int) ∧ j5 < 2 ∧ K (mz_i M1 (9, j5) 2) M1))))
theorem tm_PL_waiting {G : MzG} {B : MzB} {d : Nat} {K : Int32 → MzM → Prop} (hF : mzLive B)   {a1 : Int32} {M : MzM} (hL : mzLnk M) (h : wp_PL_waiting  a1 M K) : MzC G B (d + 1) mm_PL_waiting [.ref (mz_ad B (0, 0)), .int a1] M (0, 0) (mzK1 B K) := by
  unfold wp_PL_waiting at h
  exact MzC.of rfl (Nat.le_of_ble_eq_true rfl) (show MzS G B (d + 1) mm_PL_waiting M (0, 0) (mzK1 B K) 0 [(0, .ref (mz_ad B (0, 0))), (1, .int a1)] [] from (mz_iload_n d_PL_waiting_0 rfl (mz_callS (As := [.int a1]) (st := []) 0 0 d_PL_waiting_1 cs_PL_isSession wl_PL_41 ws_PL_isSession (Nat.le_of_ble_eq_true rfl) (Nat.le_refl _) (Nat.le_refl _) (MzC.mono (tm_PL_isSession (d := d) hF  hL h) (fun r9 B9 M1 hq3 => by obtain ⟨rfl, hL2, v4, rfl, hq3⟩ := hq3; exact ⟨_, rfl, (mz_if_eq 22 d_PL_waiting_4 rfl (fun hc9 => (mz_iconst (-1 : Int32) d_PL_waiting_22 (by decide) (mz_iret .int d_PL_waiting_23 rfl rfl ⟨rfl, hL2, _, rfl, (hq3.1 hc9)⟩))) (fun hc9 => (mz_aload_n d_PL_waiting_7 rfl (mz_getR (k := 1) (a := (7, 0)) cl_0 d_PL_waiting_8 (by decide) wf_PL_18 rfl (hF 0 0 (by decide)) rfl (hL2 (0, 0) 1 (7, 0) rfl (by decide)) (mz_iload_n d_PL_waiting_11 rfl (match (hq3.2 hc9) with | ⟨j5, h6, h7, h8⟩ => mz_aald (a := (8, j5)) j5 d_PL_waiting_12 (hF 7 0 (by decide)) rfl h6 h7 (hL2 (7, 0) j5 (8, j5) (mzLk_7 h7) (by decide)) (mz_getRN (k := 2) (a := (9, j5)) cl_4 d_PL_waiting_13 (by decide) wf_PL_101 rfl (hF 8 j5 h7) rfl (hL2 (8, j5) 2 (9, j5) rfl h7) (mz_getIN (k := 2) cl_5 d_PL_waiting_16 (by decide) wf_PL_105 rfl (hF 9 j5 h7) rfl (mz_goto 23 d_PL_waiting_19 rfl (mz_iret .int d_PL_waiting_23 rfl rfl ⟨rfl, hL2, _, rfl, h8⟩))))))))))⟩)))))
def mm_Rep_takeFirst : MzT := (⟨"ParcelLine$Replies", "takeFirst", "()I"⟩, prog_10_method_3_code, 2, (Option.some Jvm.ClassFile.FieldType.int))
theorem cs_Rep_takeFirst {mm : MzT} : mzCall mm mm_Rep_takeFirst 0 := ⟨wn_Rep, wco_Rep_takeFirst, by decide +kernel, by decide⟩
theorem d_Rep_takeFirst_0 : decode mm_Rep_takeFirst.2.1 0 = .ok (.aload_n 0, 1) := by decide +kernel
theorem d_Rep_takeFirst_1 : decode mm_Rep_takeFirst.2.1 1 = .ok (.getfield 22, 3) := by decide +kernel
theorem d_Rep_takeFirst_4 : decode mm_Rep_takeFirst.2.1 4 = .ok (.ifCond .ne 5, 3) := by decide +kernel
theorem d_Rep_takeFirst_7 : decode mm_Rep_takeFirst.2.1 7 = .ok (.iconst (-1), 1) := by decide +kernel
theorem d_Rep_takeFirst_8 : decode mm_Rep_takeFirst.2.1 8 = .ok (.ireturn, 1) := by decide +kernel
theorem d_Rep_takeFirst_9 : decode mm_Rep_takeFirst.2.1 9 = .ok (.aload_n 0, 1) := by decide +kernel
theorem d_Rep_takeFirst_10 : decode mm_Rep_takeFirst.2.1 10 = .ok (.getfield 9, 3) := by decide +kernel
theorem d_Rep_takeFirst_13 : decode mm_Rep_takeFirst.2.1 13 = .ok (.aload_n 0, 1) := by decide +kernel
theorem d_Rep_takeFirst_14 : decode mm_Rep_takeFirst.2.1 14 = .ok (.getfield 18, 3) := by decide +kernel
theorem d_Rep_takeFirst_17 : decode mm_Rep_takeFirst.2.1 17 = .ok (.iaload, 1) := by decide +kernel
theorem d_Rep_takeFirst_18 : decode mm_Rep_takeFirst.2.1 18 = .ok (.istore_n 1, 1) := by decide +kernel
theorem d_Rep_takeFirst_19 : decode mm_Rep_takeFirst.2.1 19 = .ok (.aload_n 0, 1) := by decide +kernel
theorem d_Rep_takeFirst_20 : decode mm_Rep_takeFirst.2.1 20 = .ok (.aload_n 0, 1) := by decide +kernel
theorem d_Rep_takeFirst_21 : decode mm_Rep_takeFirst.2.1 21 = .ok (.getfield 18, 3) := by decide +kernel
theorem d_Rep_takeFirst_24 : decode mm_Rep_takeFirst.2.1 24 = .ok (.iconst 1, 1) := by decide +kernel
theorem d_Rep_takeFirst_25 : decode mm_Rep_takeFirst.2.1 25 = .ok (.iadd, 1) := by decide +kernel
theorem d_Rep_takeFirst_26 : decode mm_Rep_takeFirst.2.1 26 = .ok (.sipush 200, 3) := by decide +kernel
theorem d_Rep_takeFirst_29 : decode mm_Rep_takeFirst.2.1 29 = .ok (.irem, 1) := by decide +kernel
theorem d_Rep_takeFirst_30 : decode mm_Rep_takeFirst.2.1 30 = .ok (.putfield 18, 3) := by decide +kernel
theorem d_Rep_takeFirst_33 : decode mm_Rep_takeFirst.2.1 33 = .ok (.aload_n 0, 1) := by decide +kernel
theorem d_Rep_takeFirst_34 : decode mm_Rep_takeFirst.2.1 34 = .ok (.dup, 1) := by decide +kernel
theorem d_Rep_takeFirst_35 : decode mm_Rep_takeFirst.2.1 35 = .ok (.getfield 22, 3) := by decide +kernel
theorem d_Rep_takeFirst_38 : decode mm_Rep_takeFirst.2.1 38 = .ok (.iconst 1, 1) := by decide +kernel
theorem d_Rep_takeFirst_39 : decode mm_Rep_takeFirst.2.1 39 = .ok (.isub, 1) := by decide +kernel
theorem d_Rep_takeFirst_40 : decode mm_Rep_takeFirst.2.1 40 = .ok (.putfield 22, 3) := by decide +kernel
theorem d_Rep_takeFirst_43 : decode mm_Rep_takeFirst.2.1 43 = .ok (.iload_n 1, 1) := by decide +kernel
theorem d_Rep_takeFirst_44 : decode mm_Rep_takeFirst.2.1 44 = .ok (.ireturn, 1) := by decide +kernel
def wp_Rep_takeFirst (x : Nat)  (M : MzM) (K : Int32 → MzM → Prop) : Prop := ((¬ (mz_i M (9, x) 2) = 0 → (∃ j1 : Nat, (mz_i M (9, x) 1).toInt = (j1 : Int) ∧ j1 < 200 ∧ (∀ M5 : MzM, M5 = mz_si M (9, x) 1 (((mz_i M (9, x) 1) + (1 : Int32)) - ((mz_i M (9, x) 1) + (1 : Int32)) / (200 : Int32) * (200 : Int32)) → (∀ M6 : MzM, M6 = mz_si M5 (9, x) 2 ((mz_i M5 (9, x) 2) - (1 : Int32)) → K (mz_i M (10, x) j1) M6)))) ∧ ((mz_i M (9, x) 2) = 0 → K (-1 : Int32) M))
theorem tm_Rep_takeFirst {G : MzG} {B : MzB} {d : Nat} {K : Int32 → MzM → Prop} (hF : mzLive B) {x : Nat} (hx : x < 2)  {M : MzM} (hL : mzLnk M) (h : wp_Rep_takeFirst x  M K) : MzC G B d mm_Rep_takeFirst [.ref (mz_ad B (9, x))] M (0, 0) (mzK1 B K) := by
  unfold wp_Rep_takeFirst at h
  exact MzC.of rfl (Nat.le_of_ble_eq_true rfl) (show MzS G B d mm_Rep_takeFirst M (0, 0) (mzK1 B K) 0 [(0, .ref (mz_ad B (9, x)))] [] from (mz_aload_n d_Rep_takeFirst_0 rfl (mz_getI (k := 2) cl_5 d_Rep_takeFirst_1 (by decide) wf_Rep_22 rfl (hF 9 x hx) rfl (mz_if_ne 9 d_Rep_takeFirst_4 rfl (fun hc7 => (mz_aload_n d_Rep_takeFirst_9 rfl (mz_getR (k := 0) (a := (10, x)) cl_5 d_Rep_takeFirst_10 (by decide) wf_Rep_9 rfl (hF 9 x hx) rfl (hL (9, x) 0 (10, x) rfl hx) (mz_aload_n d_Rep_takeFirst_13 rfl (mz_getI (k := 1) cl_5 d_Rep_takeFirst_14 (by decide) wf_Rep_18 rfl (hF 9 x hx) rfl (match (h.1 hc7) with | ⟨j1, h2, h3, h4⟩ => mz_iald j1 d_Rep_takeFirst_17 (hF 10 x hx) rfl h2 h3 (mz_istore_n d_Rep_takeFirst_18 (by decide) (mz_aload_n d_Rep_takeFirst_19 rfl (mz_aload_n d_Rep_takeFirst_20 rfl (mz_getI (k := 1) cl_5 d_Rep_takeFirst_21 (by decide) wf_Rep_18 rfl (hF 9 x hx) rfl (mz_iconst (1 : Int32) d_Rep_takeFirst_24 (by decide) (mz_iadd d_Rep_takeFirst_25 (mz_sipush (200 : Int32) d_Rep_takeFirst_26 (by decide) (mz_irem d_Rep_takeFirst_29 (by decide) (mz_putI (k := 1) cl_5 d_Rep_takeFirst_30 (by decide) wf_Rep_18 rfl rfl rfl rfl (hF 9 x hx) rfl (let M5 : MzM := mz_si M (9, x) 1 (((mz_i M (9, x) 1) + (1 : Int32)) - ((mz_i M (9, x) 1) + (1 : Int32)) / (200 : Int32) * (200 : Int32)); (mz_aload_n d_Rep_takeFirst_33 rfl (mz_dup d_Rep_takeFirst_34 rfl (mz_getI (k := 2) cl_5 d_Rep_takeFirst_35 (by decide) wf_Rep_22 rfl (hF 9 x hx) rfl (mz_iconst (1 : Int32) d_Rep_takeFirst_38 (by decide) (mz_isub d_Rep_takeFirst_39 (mz_putI (k := 2) cl_5 d_Rep_takeFirst_40 (by decide) wf_Rep_22 rfl rfl rfl rfl (hF 9 x hx) rfl (let M6 : MzM := mz_si M5 (9, x) 2 ((mz_i M5 (9, x) 2) - (1 : Int32)); (mz_iload_n d_Rep_takeFirst_43 rfl (mz_iret .int d_Rep_takeFirst_44 rfl rfl ⟨rfl, hL, _, rfl, ((h4 M5 rfl) M6 rfl)⟩))))))))))))))))))))))))) (fun hc7 => (mz_iconst (-1 : Int32) d_Rep_takeFirst_7 (by decide) (mz_iret .int d_Rep_takeFirst_8 rfl rfl ⟨rfl, hL, _, rfl, (h.2 hc7)⟩)))))))
def mm_PL_reply : MzT := (⟨"ParcelLine", "reply", "(I)I"⟩, prog_1_method_9_code, 2, (Option.some Jvm.ClassFile.FieldType.int))
theorem cs_PL_reply {mm : MzT} : mzCall mm mm_PL_reply 1 := ⟨wn_PL, wco_PL_reply, by decide +kernel, by decide⟩
theorem d_PL_reply_0 : decode mm_PL_reply.2.1 0 = .ok (.iload_n 1, 1) := by decide +kernel
theorem d_PL_reply_1 : decode mm_PL_reply.2.1 1 = .ok (.invokestatic 41, 3) := by decide +kernel
theorem d_PL_reply_4 : decode mm_PL_reply.2.1 4 = .ok (.ifCond .eq 18, 3) := by decide +kernel
theorem d_PL_reply_7 : decode mm_PL_reply.2.1 7 = .ok (.aload_n 0, 1) := by decide +kernel
theorem d_PL_reply_8 : decode mm_PL_reply.2.1 8 = .ok (.getfield 18, 3) := by decide +kernel
theorem d_PL_reply_11 : decode mm_PL_reply.2.1 11 = .ok (.iload_n 1, 1) := by decide +kernel
theorem d_PL_reply_12 : decode mm_PL_reply.2.1 12 = .ok (.aaload, 1) := by decide +kernel
theorem d_PL_reply_13 : decode mm_PL_reply.2.1 13 = .ok (.getfield 101, 3) := by decide +kernel
theorem d_PL_reply_16 : decode mm_PL_reply.2.1 16 = .ok (.invokevirtual 110, 3) := by decide +kernel
theorem d_PL_reply_19 : decode mm_PL_reply.2.1 19 = .ok (.goto 4, 3) := by decide +kernel
theorem d_PL_reply_22 : decode mm_PL_reply.2.1 22 = .ok (.iconst (-1), 1) := by decide +kernel
theorem d_PL_reply_23 : decode mm_PL_reply.2.1 23 = .ok (.ireturn, 1) := by decide +kernel
def wp_PL_reply  (a1 : Int32) (M : MzM) (K : Int32 → MzM → Prop) : Prop := wp_PL_isSession  a1 M (fun v4 M1 => ((v4 = 0 → K (-1 : Int32) M1) ∧ (¬ v4 = 0 → (∃ j5 : Nat, a1.toInt = (j5 : Int) ∧ j5 < 2 ∧ wp_Rep_takeFirst j5  M1 (fun v12 M9 => K v12 M9)))))
theorem tm_PL_reply {G : MzG} {B : MzB} {d : Nat} {K : Int32 → MzM → Prop} (hF : mzLive B)   {a1 : Int32} {M : MzM} (hL : mzLnk M) (h : wp_PL_reply  a1 M K) : MzC G B (d + 1) mm_PL_reply [.ref (mz_ad B (0, 0)), .int a1] M (0, 0) (mzK1 B K) := by
  unfold wp_PL_reply at h
  exact MzC.of rfl (Nat.le_of_ble_eq_true rfl) (show MzS G B (d + 1) mm_PL_reply M (0, 0) (mzK1 B K) 0 [(0, .ref (mz_ad B (0, 0))), (1, .int a1)] [] from (mz_iload_n d_PL_reply_0 rfl (mz_callS (As := [.int a1]) (st := []) 0 0 d_PL_reply_1 cs_PL_isSession wl_PL_41 ws_PL_isSession (Nat.le_of_ble_eq_true rfl) (Nat.le_refl _) (Nat.le_refl _) (MzC.mono (tm_PL_isSession (d := d) hF  hL h) (fun r9 B9 M1 hq3 => by obtain ⟨rfl, hL2, v4, rfl, hq3⟩ := hq3; exact ⟨_, rfl, (mz_if_eq 22 d_PL_reply_4 rfl (fun hc13 => (mz_iconst (-1 : Int32) d_PL_reply_22 (by decide) (mz_iret .int d_PL_reply_23 rfl rfl ⟨rfl, hL2, _, rfl, (hq3.1 hc13)⟩))) (fun hc13 => (mz_aload_n d_PL_reply_7 rfl (mz_getR (k := 1) (a := (7, 0)) cl_0 d_PL_reply_8 (by decide) wf_PL_18 rfl (hF 0 0 (by decide)) rfl (hL2 (0, 0) 1 (7, 0) rfl (by decide)) (mz_iload_n d_PL_reply_11 rfl (match (hq3.2 hc13) with | ⟨j5, h6, h7, h8⟩ => mz_aald (a := (8, j5)) j5 d_PL_reply_12 (hF 7 0 (by decide)) rfl h6 h7 (hL2 (7, 0) j5 (8, j5) (mzLk_7 h7) (by decide)) (mz_getRN (k := 2) (a := (9, j5)) cl_4 d_PL_reply_13 (by decide) wf_PL_101 rfl (hF 8 j5 h7) rfl (hL2 (8, j5) 2 (9, j5) rfl h7) (mz_callV (As := []) (st := []) (hF 9 j5 h7) rfl (mzClOf cl_5) 0 0 d_PL_reply_16 cs_Rep_takeFirst wl_PL_110 wi_Rep_takeFirst wse_Rep_takeFirst (Nat.le_of_ble_eq_true rfl) (Nat.le_refl _) (Nat.le_refl _) (MzC.mono (tm_Rep_takeFirst (d := d) hF h7 hL2 h8) (fun r9 B9 M9 hq11 => by obtain ⟨rfl, hL10, v12, rfl, hq11⟩ := hq11; exact ⟨_, rfl, (mz_goto 23 d_PL_reply_19 rfl (mz_iret .int d_PL_reply_23 rfl rfl ⟨rfl, hL10, _, rfl, hq11⟩))⟩))))))))))⟩)))))
def mm_PL_node : MzT := (⟨"ParcelLine", "node", "(II)I"⟩, prog_1_method_10_code, 4, (Option.some Jvm.ClassFile.FieldType.int))
theorem cs_PL_node {mm : MzT} : mzCall mm mm_PL_node 2 := ⟨wn_PL, wco_PL_node, by decide +kernel, by decide⟩
theorem d_PL_node_0 : decode mm_PL_node.2.1 0 = .ok (.aload_n 0, 1) := by decide +kernel
theorem d_PL_node_1 : decode mm_PL_node.2.1 1 = .ok (.getfield 12, 3) := by decide +kernel
theorem d_PL_node_4 : decode mm_PL_node.2.1 4 = .ok (.iload_n 1, 1) := by decide +kernel
theorem d_PL_node_5 : decode mm_PL_node.2.1 5 = .ok (.invokevirtual 113, 3) := by decide +kernel
theorem d_PL_node_8 : decode mm_PL_node.2.1 8 = .ok (.ifCond .ne 5, 3) := by decide +kernel
theorem d_PL_node_11 : decode mm_PL_node.2.1 11 = .ok (.iconst (-1), 1) := by decide +kernel
theorem d_PL_node_12 : decode mm_PL_node.2.1 12 = .ok (.ireturn, 1) := by decide +kernel
theorem d_PL_node_13 : decode mm_PL_node.2.1 13 = .ok (.aload_n 0, 1) := by decide +kernel
theorem d_PL_node_14 : decode mm_PL_node.2.1 14 = .ok (.getfield 12, 3) := by decide +kernel
theorem d_PL_node_17 : decode mm_PL_node.2.1 17 = .ok (.getfield 116, 3) := by decide +kernel
theorem d_PL_node_20 : decode mm_PL_node.2.1 20 = .ok (.iload_n 1, 1) := by decide +kernel
theorem d_PL_node_21 : decode mm_PL_node.2.1 21 = .ok (.aaload, 1) := by decide +kernel
theorem d_PL_node_22 : decode mm_PL_node.2.1 22 = .ok (.astore_n 3, 1) := by decide +kernel
theorem d_PL_node_23 : decode mm_PL_node.2.1 23 = .ok (.iload_n 2, 1) := by decide +kernel
theorem d_PL_node_24 : decode mm_PL_node.2.1 24 = .ok (.tableswitch 91 0 3 #[32, 45, 59, 86], 32) := by decide +kernel
theorem d_PL_node_56 : decode mm_PL_node.2.1 56 = .ok (.iload_n 1, 1) := by decide +kernel
theorem d_PL_node_57 : decode mm_PL_node.2.1 57 = .ok (.ifCond .ne 7, 3) := by decide +kernel
theorem d_PL_node_60 : decode mm_PL_node.2.1 60 = .ok (.iconst (-1), 1) := by decide +kernel
theorem d_PL_node_61 : decode mm_PL_node.2.1 61 = .ok (.goto 7, 3) := by decide +kernel
theorem d_PL_node_64 : decode mm_PL_node.2.1 64 = .ok (.aload_n 3, 1) := by decide +kernel
theorem d_PL_node_65 : decode mm_PL_node.2.1 65 = .ok (.getfield 120, 3) := by decide +kernel
theorem d_PL_node_68 : decode mm_PL_node.2.1 68 = .ok (.ireturn, 1) := by decide +kernel
theorem d_PL_node_69 : decode mm_PL_node.2.1 69 = .ok (.aload_n 3, 1) := by decide +kernel
theorem d_PL_node_70 : decode mm_PL_node.2.1 70 = .ok (.getfield 125, 3) := by decide +kernel
theorem d_PL_node_73 : decode mm_PL_node.2.1 73 = .ok (.iconst 2, 1) := by decide +kernel
theorem d_PL_node_74 : decode mm_PL_node.2.1 74 = .ok (.if_icmp .ne 7, 3) := by decide +kernel
theorem d_PL_node_77 : decode mm_PL_node.2.1 77 = .ok (.iconst 1, 1) := by decide +kernel
theorem d_PL_node_78 : decode mm_PL_node.2.1 78 = .ok (.goto 4, 3) := by decide +kernel
theorem d_PL_node_81 : decode mm_PL_node.2.1 81 = .ok (.iconst 0, 1) := by decide +kernel
theorem d_PL_node_82 : decode mm_PL_node.2.1 82 = .ok (.ireturn, 1) := by decide +kernel
theorem d_PL_node_83 : decode mm_PL_node.2.1 83 = .ok (.aload_n 3, 1) := by decide +kernel
theorem d_PL_node_84 : decode mm_PL_node.2.1 84 = .ok (.getfield 125, 3) := by decide +kernel
theorem d_PL_node_87 : decode mm_PL_node.2.1 87 = .ok (.iconst 2, 1) := by decide +kernel
theorem d_PL_node_88 : decode mm_PL_node.2.1 88 = .ok (.if_icmp .ne 13, 3) := by decide +kernel
theorem d_PL_node_91 : decode mm_PL_node.2.1 91 = .ok (.aload_n 3, 1) := by decide +kernel
theorem d_PL_node_92 : decode mm_PL_node.2.1 92 = .ok (.getfield 128, 3) := by decide +kernel
theorem d_PL_node_95 : decode mm_PL_node.2.1 95 = .ok (.getfield 132, 3) := by decide +kernel
theorem d_PL_node_98 : decode mm_PL_node.2.1 98 = .ok (.goto 11, 3) := by decide +kernel
theorem d_PL_node_101 : decode mm_PL_node.2.1 101 = .ok (.aload_n 0, 1) := by decide +kernel
theorem d_PL_node_102 : decode mm_PL_node.2.1 102 = .ok (.getfield 12, 3) := by decide +kernel
theorem d_PL_node_105 : decode mm_PL_node.2.1 105 = .ok (.iload_n 1, 1) := by decide +kernel
theorem d_PL_node_106 : decode mm_PL_node.2.1 106 = .ok (.invokevirtual 133, 3) := by decide +kernel
theorem d_PL_node_109 : decode mm_PL_node.2.1 109 = .ok (.ireturn, 1) := by decide +kernel
theorem d_PL_node_110 : decode mm_PL_node.2.1 110 = .ok (.aload_n 3, 1) := by decide +kernel
theorem d_PL_node_111 : decode mm_PL_node.2.1 111 = .ok (.getfield 137, 3) := by decide +kernel
theorem d_PL_node_114 : decode mm_PL_node.2.1 114 = .ok (.ireturn, 1) := by decide +kernel
theorem d_PL_node_115 : decode mm_PL_node.2.1 115 = .ok (.iconst (-1), 1) := by decide +kernel
theorem d_PL_node_116 : decode mm_PL_node.2.1 116 = .ok (.ireturn, 1) := by decide +kernel
def wp_PL_node  (a1 : Int32) (a2 : Int32) (M : MzM) (K : Int32 → MzM → Prop) : Prop := wp_Store_isThere  a1 M (fun v4 M1 => ((¬ v4 = 0 → (∃ j5 : Nat, a1.toInt = (j5 : Int) ∧ j5 < 16 ∧ ((a2 = (0 : Int32) → ((¬ a1 = 0 → K (mz_i M1 (3, j5) 2) M1) ∧ (a1 = 0 → K (-1 : Int32) M1))) ∧ (a2 = (1 : Int32) → ((¬ (mz_i M1 (3, j5) 1) = (2 : Int32) → K (0 : Int32) M1) ∧ ((mz_i M1 (3, j5) 1) = (2 : Int32) → K (1 : Int32) M1))) ∧ (a2 = (2 : Int32) → ((¬ (mz_i M1 (3, j5) 1) = (2 : Int32) → wp_Store_countIn  a1 M1 (fun v14 M11 => K v14 M11)) ∧ ((mz_i M1 (3, j5) 1) = (2 : Int32) → K (mz_i M1 (4, j5) 1) M1))) ∧ (a2 = (3 : Int32) → K (mz_i M1 (3, j5) 3) M1) ∧ (¬ a2 = (0 : Int32) → ¬ a2 = (1 : Int32) → ¬ a2 = (2 : Int32) → ¬ a2 = (3 : Int32) → K (-1 : Int32) M1)))) ∧ (v4 = 0 → K (-1 : Int32) M1)))
theorem tm_PL_node {G : MzG} {B : MzB} {d : Nat} {K : Int32 → MzM → Prop} (hF : mzLive B)   {a1 : Int32} {a2 : Int32} {M : MzM} (hL : mzLnk M) (h : wp_PL_node  a1 a2 M K) : MzC G B (d + 2) mm_PL_node [.ref (mz_ad B (0, 0)), .int a1, .int a2] M (0, 0) (mzK1 B K) := by
  unfold wp_PL_node at h
  exact MzC.of rfl (Nat.le_of_ble_eq_true rfl) (show MzS G B (d + 2) mm_PL_node M (0, 0) (mzK1 B K) 0 [(0, .ref (mz_ad B (0, 0))), (1, .int a1), (2, .int a2)] [] from (mz_aload_n d_PL_node_0 rfl (mz_getR (k := 0) (a := (1, 0)) cl_0 d_PL_node_1 (by decide) wf_PL_12 rfl (hF 0 0 (by decide)) rfl (hL (0, 0) 0 (1, 0) rfl (by decide)) (mz_iload_n d_PL_node_4 rfl (mz_callV (As := [.int a1]) (st := []) (hF 1 0 (by decide)) rfl (mzClOf cl_1) 0 0 d_PL_node_5 cs_Store_isThere wl_PL_113 wi_Store_isThere wse_Store_isThere (Nat.le_of_ble_eq_true rfl) (Nat.le_refl _) (Nat.le_refl _) (MzC.mono (tm_Store_isThere (d := (d + 1)) hF  hL h) (fun r9 B9 M1 hq3 => by obtain ⟨rfl, hL2, v4, rfl, hq3⟩ := hq3; exact ⟨_, rfl, (mz_if_ne 13 d_PL_node_8 rfl (fun hc17 => (mz_aload_n d_PL_node_13 rfl (mz_getR (k := 0) (a := (1, 0)) cl_0 d_PL_node_14 (by decide) wf_PL_12 rfl (hF 0 0 (by decide)) rfl (hL2 (0, 0) 0 (1, 0) rfl (by decide)) (mz_getRN (k := 0) (a := (2, 0)) cl_1 d_PL_node_17 (by decide) wf_PL_116 rfl (hF 1 0 (by decide)) rfl (hL2 (1, 0) 0 (2, 0) rfl (by decide)) (mz_iload_n d_PL_node_20 rfl (match (hq3.1 hc17) with | ⟨j5, h6, h7, h8⟩ => mz_aald (a := (3, j5)) j5 d_PL_node_21 (hF 2 0 (by decide)) rfl h6 h7 (hL2 (2, 0) j5 (3, j5) (mzLk_2 h7) (by decide)) (mz_astore_n d_PL_node_22 (by decide) (mz_iload_n d_PL_node_23 rfl (Decidable.byCases (fun he16_0 : a2 = (0 : Int32) => mz_tabIn 56 d_PL_node_24 (by rw [he16_0]; decide) (by rw [he16_0]; decide) (by rw [he16_0]; rfl) rfl (mz_iload_n d_PL_node_56 rfl (mz_if_ne 64 d_PL_node_57 rfl (fun hc9 => (mz_aload_n d_PL_node_64 rfl (mz_getIN (k := 2) cl_2 d_PL_node_65 (by decide) wf_PL_120 rfl (hF 3 j5 h7) rfl (mz_iret .int d_PL_node_68 rfl rfl ⟨rfl, hL2, _, rfl, ((h8.1 he16_0).1 hc9)⟩)))) (fun hc9 => (mz_iconst (-1 : Int32) d_PL_node_60 (by decide) (mz_goto 68 d_PL_node_61 rfl (mz_iret .int d_PL_node_68 rfl rfl ⟨rfl, hL2, _, rfl, ((h8.1 he16_0).2 hc9)⟩))))))) (fun he16n_0 => (Decidable.byCases (fun he16_1 : a2 = (1 : Int32) => mz_tabIn 69 d_PL_node_24 (by rw [he16_1]; decide) (by rw [he16_1]; decide) (by rw [he16_1]; rfl) rfl (mz_aload_n d_PL_node_69 rfl (mz_getIN (k := 1) cl_2 d_PL_node_70 (by decide) wf_PL_125 rfl (hF 3 j5 h7) rfl (mz_iconst (2 : Int32) d_PL_node_73 (by decide) (mz_icmp_ne 81 d_PL_node_74 rfl (fun hc10 => (mz_iconst (0 : Int32) d_PL_node_81 (by decide) (mz_iret .int d_PL_node_82 rfl rfl ⟨rfl, hL2, _, rfl, ((h8.2.1 he16_1).1 hc10)⟩))) (fun hc10 => (mz_iconst (1 : Int32) d_PL_node_77 (by decide) (mz_goto 82 d_PL_node_78 rfl (mz_iret .int d_PL_node_82 rfl rfl ⟨rfl, hL2, _, rfl, ((h8.2.1 he16_1).2 hc10)⟩))))))))) (fun he16n_1 => (Decidable.byCases (fun he16_2 : a2 = (2 : Int32) => mz_tabIn 83 d_PL_node_24 (by rw [he16_2]; decide) (by rw [he16_2]; decide) (by rw [he16_2]; rfl) rfl (mz_aload_n d_PL_node_83 rfl (mz_getIN (k := 1) cl_2 d_PL_node_84 (by decide) wf_PL_125 rfl (hF 3 j5 h7) rfl (mz_iconst (2 : Int32) d_PL_node_87 (by decide) (mz_icmp_ne 101 d_PL_node_88 rfl (fun hc15 => (mz_aload_n d_PL_node_101 rfl (mz_getR (k := 0) (a := (1, 0)) cl_0 d_PL_node_102 (by decide) wf_PL_12 rfl (hF 0 0 (by decide)) rfl (hL2 (0, 0) 0 (1, 0) rfl (by decide)) (mz_iload_n d_PL_node_105 rfl (mz_callV (As := [.int a1]) (st := []) (hF 1 0 (by decide)) rfl (mzClOf cl_1) 0 0 d_PL_node_106 cs_Store_countIn wl_PL_133 wi_Store_countIn wse_Store_countIn (Nat.le_of_ble_eq_true rfl) (Nat.le_refl _) (Nat.le_refl _) (MzC.mono (tm_Store_countIn (d := d) hF  hL2 ((h8.2.2.1 he16_2).1 hc15)) (fun r9 B9 M11 hq13 => by obtain ⟨rfl, hL12, v14, rfl, hq13⟩ := hq13; exact ⟨_, rfl, (mz_iret .int d_PL_node_109 rfl rfl ⟨rfl, hL12, _, rfl, hq13⟩)⟩))))))) (fun hc15 => (mz_aload_n d_PL_node_91 rfl (mz_getRN (k := 0) (a := (4, j5)) cl_2 d_PL_node_92 (by decide) wf_PL_128 rfl (hF 3 j5 h7) rfl (hL2 (3, j5) 0 (4, j5) rfl h7) (mz_getIN (k := 1) cl_3 d_PL_node_95 (by decide) wf_PL_132 rfl (hF 4 j5 h7) rfl (mz_goto 109 d_PL_node_98 rfl (mz_iret .int d_PL_node_109 rfl rfl ⟨rfl, hL2, _, rfl, ((h8.2.2.1 he16_2).2 hc15)⟩))))))))))) (fun he16n_2 => (Decidable.byCases (fun he16_3 : a2 = (3 : Int32) => mz_tabIn 110 d_PL_node_24 (by rw [he16_3]; decide) (by rw [he16_3]; decide) (by rw [he16_3]; rfl) rfl (mz_aload_n d_PL_node_110 rfl (mz_getIN (k := 3) cl_2 d_PL_node_111 (by decide) wf_PL_137 rfl (hF 3 j5 h7) rfl (mz_iret .int d_PL_node_114 rfl rfl ⟨rfl, hL2, _, rfl, (h8.2.2.2.1 he16_3)⟩)))) (fun he16n_3 => mz_tabOut 115 d_PL_node_24 (by have := lv_neT he16n_0 (show (0 : Int32).toInt = 0 by decide); have := lv_neT he16n_1 (show (1 : Int32).toInt = 1 by decide); have := lv_neT he16n_2 (show (2 : Int32).toInt = 2 by decide); have := lv_neT he16n_3 (show (3 : Int32).toInt = 3 by decide); omega) rfl (mz_iconst (-1 : Int32) d_PL_node_115 (by decide) (mz_iret .int d_PL_node_116 rfl rfl ⟨rfl, hL2, _, rfl, (h8.2.2.2.2 he16n_0 he16n_1 he16n_2 he16n_3)⟩)))))))))))))))))) (fun hc17 => (mz_iconst (-1 : Int32) d_PL_node_11 (by decide) (mz_iret .int d_PL_node_12 rfl rfl ⟨rfl, hL2, _, rfl, (hq3.2 hc17)⟩))))⟩)))))))
def mm_PL_content : MzT := (⟨"ParcelLine", "content", "(II)I"⟩, prog_1_method_11_code, 3, (Option.some Jvm.ClassFile.FieldType.int))
theorem cs_PL_content {mm : MzT} : mzCall mm mm_PL_content 2 := ⟨wn_PL, wco_PL_content, by decide +kernel, by decide⟩
theorem d_PL_content_0 : decode mm_PL_content.2.1 0 = .ok (.aload_n 0, 1) := by decide +kernel
theorem d_PL_content_1 : decode mm_PL_content.2.1 1 = .ok (.getfield 12, 3) := by decide +kernel
theorem d_PL_content_4 : decode mm_PL_content.2.1 4 = .ok (.iload_n 1, 1) := by decide +kernel
theorem d_PL_content_5 : decode mm_PL_content.2.1 5 = .ok (.invokevirtual 140, 3) := by decide +kernel
theorem d_PL_content_8 : decode mm_PL_content.2.1 8 = .ok (.ifCond .eq 22, 3) := by decide +kernel
theorem d_PL_content_11 : decode mm_PL_content.2.1 11 = .ok (.aload_n 0, 1) := by decide +kernel
theorem d_PL_content_12 : decode mm_PL_content.2.1 12 = .ok (.getfield 12, 3) := by decide +kernel
theorem d_PL_content_15 : decode mm_PL_content.2.1 15 = .ok (.getfield 116, 3) := by decide +kernel
theorem d_PL_content_18 : decode mm_PL_content.2.1 18 = .ok (.iload_n 1, 1) := by decide +kernel
theorem d_PL_content_19 : decode mm_PL_content.2.1 19 = .ok (.aaload, 1) := by decide +kernel
theorem d_PL_content_20 : decode mm_PL_content.2.1 20 = .ok (.getfield 128, 3) := by decide +kernel
theorem d_PL_content_23 : decode mm_PL_content.2.1 23 = .ok (.iload_n 2, 1) := by decide +kernel
theorem d_PL_content_24 : decode mm_PL_content.2.1 24 = .ok (.invokevirtual 143, 3) := by decide +kernel
theorem d_PL_content_27 : decode mm_PL_content.2.1 27 = .ok (.goto 4, 3) := by decide +kernel
theorem d_PL_content_30 : decode mm_PL_content.2.1 30 = .ok (.iconst (-1), 1) := by decide +kernel
theorem d_PL_content_31 : decode mm_PL_content.2.1 31 = .ok (.ireturn, 1) := by decide +kernel
def wp_PL_content  (a1 : Int32) (a2 : Int32) (M : MzM) (K : Int32 → MzM → Prop) : Prop := wp_Store_isFile  a1 M (fun v4 M1 => ((v4 = 0 → K (-1 : Int32) M1) ∧ (¬ v4 = 0 → (∃ j5 : Nat, a1.toInt = (j5 : Int) ∧ j5 < 16 ∧ wp_Row_at j5 a2 M1 (fun v12 M9 => K v12 M9)))))
theorem tm_PL_content {G : MzG} {B : MzB} {d : Nat} {K : Int32 → MzM → Prop} (hF : mzLive B)   {a1 : Int32} {a2 : Int32} {M : MzM} (hL : mzLnk M) (h : wp_PL_content  a1 a2 M K) : MzC G B (d + 1) mm_PL_content [.ref (mz_ad B (0, 0)), .int a1, .int a2] M (0, 0) (mzK1 B K) := by
  unfold wp_PL_content at h
  exact MzC.of rfl (Nat.le_of_ble_eq_true rfl) (show MzS G B (d + 1) mm_PL_content M (0, 0) (mzK1 B K) 0 [(0, .ref (mz_ad B (0, 0))), (1, .int a1), (2, .int a2)] [] from (mz_aload_n d_PL_content_0 rfl (mz_getR (k := 0) (a := (1, 0)) cl_0 d_PL_content_1 (by decide) wf_PL_12 rfl (hF 0 0 (by decide)) rfl (hL (0, 0) 0 (1, 0) rfl (by decide)) (mz_iload_n d_PL_content_4 rfl (mz_callV (As := [.int a1]) (st := []) (hF 1 0 (by decide)) rfl (mzClOf cl_1) 0 0 d_PL_content_5 cs_Store_isFile wl_PL_140 wi_Store_isFile wse_Store_isFile (Nat.le_of_ble_eq_true rfl) (Nat.le_refl _) (Nat.le_refl _) (MzC.mono (tm_Store_isFile (d := d) hF  hL h) (fun r9 B9 M1 hq3 => by obtain ⟨rfl, hL2, v4, rfl, hq3⟩ := hq3; exact ⟨_, rfl, (mz_if_eq 30 d_PL_content_8 rfl (fun hc13 => (mz_iconst (-1 : Int32) d_PL_content_30 (by decide) (mz_iret .int d_PL_content_31 rfl rfl ⟨rfl, hL2, _, rfl, (hq3.1 hc13)⟩))) (fun hc13 => (mz_aload_n d_PL_content_11 rfl (mz_getR (k := 0) (a := (1, 0)) cl_0 d_PL_content_12 (by decide) wf_PL_12 rfl (hF 0 0 (by decide)) rfl (hL2 (0, 0) 0 (1, 0) rfl (by decide)) (mz_getRN (k := 0) (a := (2, 0)) cl_1 d_PL_content_15 (by decide) wf_PL_116 rfl (hF 1 0 (by decide)) rfl (hL2 (1, 0) 0 (2, 0) rfl (by decide)) (mz_iload_n d_PL_content_18 rfl (match (hq3.2 hc13) with | ⟨j5, h6, h7, h8⟩ => mz_aald (a := (3, j5)) j5 d_PL_content_19 (hF 2 0 (by decide)) rfl h6 h7 (hL2 (2, 0) j5 (3, j5) (mzLk_2 h7) (by decide)) (mz_getRN (k := 0) (a := (4, j5)) cl_2 d_PL_content_20 (by decide) wf_PL_128 rfl (hF 3 j5 h7) rfl (hL2 (3, j5) 0 (4, j5) rfl h7) (mz_iload_n d_PL_content_23 rfl (mz_callV (As := [.int a2]) (st := []) (hF 4 j5 h7) rfl (mzClOf cl_3) 0 0 d_PL_content_24 cs_Row_at wl_PL_143 wi_Row_at wse_Row_at (Nat.le_of_ble_eq_true rfl) (Nat.le_refl _) (Nat.le_refl _) (MzC.mono (tm_Row_at (d := d) hF h7 hL2 h8) (fun r9 B9 M9 hq11 => by obtain ⟨rfl, hL10, v12, rfl, hq11⟩ := hq11; exact ⟨_, rfl, (mz_goto 31 d_PL_content_27 rfl (mz_iret .int d_PL_content_31 rfl rfl ⟨rfl, hL10, _, rfl, hq11⟩))⟩))))))))))))⟩)))))))
def mm_PL_current : MzT := (⟨"ParcelLine", "current", "(I)I"⟩, prog_1_method_12_code, 2, (Option.some Jvm.ClassFile.FieldType.int))
theorem cs_PL_current {mm : MzT} : mzCall mm mm_PL_current 1 := ⟨wn_PL, wco_PL_current, by decide +kernel, by decide⟩
theorem d_PL_current_0 : decode mm_PL_current.2.1 0 = .ok (.iload_n 1, 1) := by decide +kernel
theorem d_PL_current_1 : decode mm_PL_current.2.1 1 = .ok (.invokestatic 41, 3) := by decide +kernel
theorem d_PL_current_4 : decode mm_PL_current.2.1 4 = .ok (.ifCond .eq 15, 3) := by decide +kernel
theorem d_PL_current_7 : decode mm_PL_current.2.1 7 = .ok (.aload_n 0, 1) := by decide +kernel
theorem d_PL_current_8 : decode mm_PL_current.2.1 8 = .ok (.getfield 12, 3) := by decide +kernel
theorem d_PL_current_11 : decode mm_PL_current.2.1 11 = .ok (.getfield 146, 3) := by decide +kernel
theorem d_PL_current_14 : decode mm_PL_current.2.1 14 = .ok (.iload_n 1, 1) := by decide +kernel
theorem d_PL_current_15 : decode mm_PL_current.2.1 15 = .ok (.iaload, 1) := by decide +kernel
theorem d_PL_current_16 : decode mm_PL_current.2.1 16 = .ok (.goto 4, 3) := by decide +kernel
theorem d_PL_current_19 : decode mm_PL_current.2.1 19 = .ok (.iconst (-1), 1) := by decide +kernel
theorem d_PL_current_20 : decode mm_PL_current.2.1 20 = .ok (.ireturn, 1) := by decide +kernel
def wp_PL_current  (a1 : Int32) (M : MzM) (K : Int32 → MzM → Prop) : Prop := wp_PL_isSession  a1 M (fun v4 M1 => ((v4 = 0 → K (-1 : Int32) M1) ∧ (¬ v4 = 0 → (∃ j5 : Nat, a1.toInt = (j5 : Int) ∧ j5 < 2 ∧ K (mz_i M1 (6, 0) j5) M1))))
theorem tm_PL_current {G : MzG} {B : MzB} {d : Nat} {K : Int32 → MzM → Prop} (hF : mzLive B)   {a1 : Int32} {M : MzM} (hL : mzLnk M) (h : wp_PL_current  a1 M K) : MzC G B (d + 1) mm_PL_current [.ref (mz_ad B (0, 0)), .int a1] M (0, 0) (mzK1 B K) := by
  unfold wp_PL_current at h
  exact MzC.of rfl (Nat.le_of_ble_eq_true rfl) (show MzS G B (d + 1) mm_PL_current M (0, 0) (mzK1 B K) 0 [(0, .ref (mz_ad B (0, 0))), (1, .int a1)] [] from (mz_iload_n d_PL_current_0 rfl (mz_callS (As := [.int a1]) (st := []) 0 0 d_PL_current_1 cs_PL_isSession wl_PL_41 ws_PL_isSession (Nat.le_of_ble_eq_true rfl) (Nat.le_refl _) (Nat.le_refl _) (MzC.mono (tm_PL_isSession (d := d) hF  hL h) (fun r9 B9 M1 hq3 => by obtain ⟨rfl, hL2, v4, rfl, hq3⟩ := hq3; exact ⟨_, rfl, (mz_if_eq 19 d_PL_current_4 rfl (fun hc9 => (mz_iconst (-1 : Int32) d_PL_current_19 (by decide) (mz_iret .int d_PL_current_20 rfl rfl ⟨rfl, hL2, _, rfl, (hq3.1 hc9)⟩))) (fun hc9 => (mz_aload_n d_PL_current_7 rfl (mz_getR (k := 0) (a := (1, 0)) cl_0 d_PL_current_8 (by decide) wf_PL_12 rfl (hF 0 0 (by decide)) rfl (hL2 (0, 0) 0 (1, 0) rfl (by decide)) (mz_getRN (k := 1) (a := (6, 0)) cl_1 d_PL_current_11 (by decide) wf_PL_146 rfl (hF 1 0 (by decide)) rfl (hL2 (1, 0) 1 (6, 0) rfl (by decide)) (mz_iload_n d_PL_current_14 rfl (match (hq3.2 hc9) with | ⟨j5, h6, h7, h8⟩ => mz_iald j5 d_PL_current_15 (hF 6 0 (by decide)) rfl h6 h7 (mz_goto 20 d_PL_current_16 rfl (mz_iret .int d_PL_current_20 rfl rfl ⟨rfl, hL2, _, rfl, h8⟩)))))))))⟩)))))
def mm_PL_running : MzT := (⟨"ParcelLine", "running", "(I)I"⟩, prog_1_method_13_code, 2, (Option.some Jvm.ClassFile.FieldType.int))
theorem cs_PL_running {mm : MzT} : mzCall mm mm_PL_running 1 := ⟨wn_PL, wco_PL_running, by decide +kernel, by decide⟩
theorem d_PL_running_0 : decode mm_PL_running.2.1 0 = .ok (.iload_n 1, 1) := by decide +kernel
theorem d_PL_running_1 : decode mm_PL_running.2.1 1 = .ok (.invokestatic 41, 3) := by decide +kernel
theorem d_PL_running_4 : decode mm_PL_running.2.1 4 = .ok (.ifCond .eq 18, 3) := by decide +kernel
theorem d_PL_running_7 : decode mm_PL_running.2.1 7 = .ok (.aload_n 0, 1) := by decide +kernel
theorem d_PL_running_8 : decode mm_PL_running.2.1 8 = .ok (.getfield 18, 3) := by decide +kernel
theorem d_PL_running_11 : decode mm_PL_running.2.1 11 = .ok (.iload_n 1, 1) := by decide +kernel
theorem d_PL_running_12 : decode mm_PL_running.2.1 12 = .ok (.aaload, 1) := by decide +kernel
theorem d_PL_running_13 : decode mm_PL_running.2.1 13 = .ok (.getfield 56, 3) := by decide +kernel
theorem d_PL_running_16 : decode mm_PL_running.2.1 16 = .ok (.getfield 74, 3) := by decide +kernel
theorem d_PL_running_19 : decode mm_PL_running.2.1 19 = .ok (.goto 4, 3) := by decide +kernel
theorem d_PL_running_22 : decode mm_PL_running.2.1 22 = .ok (.iconst (-1), 1) := by decide +kernel
theorem d_PL_running_23 : decode mm_PL_running.2.1 23 = .ok (.ireturn, 1) := by decide +kernel
def wp_PL_running  (a1 : Int32) (M : MzM) (K : Int32 → MzM → Prop) : Prop := wp_PL_isSession  a1 M (fun v4 M1 => ((v4 = 0 → K (-1 : Int32) M1) ∧ (¬ v4 = 0 → (∃ j5 : Nat, a1.toInt = (j5 : Int) ∧ j5 < 2 ∧ K (mz_i M1 (16, j5) 1) M1))))
theorem tm_PL_running {G : MzG} {B : MzB} {d : Nat} {K : Int32 → MzM → Prop} (hF : mzLive B)   {a1 : Int32} {M : MzM} (hL : mzLnk M) (h : wp_PL_running  a1 M K) : MzC G B (d + 1) mm_PL_running [.ref (mz_ad B (0, 0)), .int a1] M (0, 0) (mzK1 B K) := by
  unfold wp_PL_running at h
  exact MzC.of rfl (Nat.le_of_ble_eq_true rfl) (show MzS G B (d + 1) mm_PL_running M (0, 0) (mzK1 B K) 0 [(0, .ref (mz_ad B (0, 0))), (1, .int a1)] [] from (mz_iload_n d_PL_running_0 rfl (mz_callS (As := [.int a1]) (st := []) 0 0 d_PL_running_1 cs_PL_isSession wl_PL_41 ws_PL_isSession (Nat.le_of_ble_eq_true rfl) (Nat.le_refl _) (Nat.le_refl _) (MzC.mono (tm_PL_isSession (d := d) hF  hL h) (fun r9 B9 M1 hq3 => by obtain ⟨rfl, hL2, v4, rfl, hq3⟩ := hq3; exact ⟨_, rfl, (mz_if_eq 22 d_PL_running_4 rfl (fun hc9 => (mz_iconst (-1 : Int32) d_PL_running_22 (by decide) (mz_iret .int d_PL_running_23 rfl rfl ⟨rfl, hL2, _, rfl, (hq3.1 hc9)⟩))) (fun hc9 => (mz_aload_n d_PL_running_7 rfl (mz_getR (k := 1) (a := (7, 0)) cl_0 d_PL_running_8 (by decide) wf_PL_18 rfl (hF 0 0 (by decide)) rfl (hL2 (0, 0) 1 (7, 0) rfl (by decide)) (mz_iload_n d_PL_running_11 rfl (match (hq3.2 hc9) with | ⟨j5, h6, h7, h8⟩ => mz_aald (a := (8, j5)) j5 d_PL_running_12 (hF 7 0 (by decide)) rfl h6 h7 (hL2 (7, 0) j5 (8, j5) (mzLk_7 h7) (by decide)) (mz_getRN (k := 5) (a := (16, j5)) cl_4 d_PL_running_13 (by decide) wf_PL_56 rfl (hF 8 j5 h7) rfl (hL2 (8, j5) 5 (16, j5) rfl h7) (mz_getIN (k := 1) cl_8 d_PL_running_16 (by decide) wf_PL_74 rfl (hF 16 j5 h7) rfl (mz_goto 23 d_PL_running_19 rfl (mz_iret .int d_PL_running_23 rfl rfl ⟨rfl, hL2, _, rfl, h8⟩))))))))))⟩)))))
def mm_PL_isShelf : MzT := (⟨"ParcelLine", "isShelf", "(I)Z"⟩, prog_1_method_19_code, 1, (Option.some Jvm.ClassFile.FieldType.boolean))
theorem cs_PL_isShelf {mm : MzT} : mzCall mm mm_PL_isShelf 1 := ⟨wn_PL, wco_PL_isShelf, by decide +kernel, by decide⟩
theorem d_PL_isShelf_0 : decode mm_PL_isShelf.2.1 0 = .ok (.iload_n 0, 1) := by decide +kernel
theorem d_PL_isShelf_1 : decode mm_PL_isShelf.2.1 1 = .ok (.ifCond .lt 12, 3) := by decide +kernel
theorem d_PL_isShelf_4 : decode mm_PL_isShelf.2.1 4 = .ok (.iload_n 0, 1) := by decide +kernel
theorem d_PL_isShelf_5 : decode mm_PL_isShelf.2.1 5 = .ok (.iconst 3, 1) := by decide +kernel
theorem d_PL_isShelf_6 : decode mm_PL_isShelf.2.1 6 = .ok (.if_icmp .ge 7, 3) := by decide +kernel
theorem d_PL_isShelf_9 : decode mm_PL_isShelf.2.1 9 = .ok (.iconst 1, 1) := by decide +kernel
theorem d_PL_isShelf_10 : decode mm_PL_isShelf.2.1 10 = .ok (.goto 4, 3) := by decide +kernel
theorem d_PL_isShelf_13 : decode mm_PL_isShelf.2.1 13 = .ok (.iconst 0, 1) := by decide +kernel
theorem d_PL_isShelf_14 : decode mm_PL_isShelf.2.1 14 = .ok (.ireturn, 1) := by decide +kernel
def wp_PL_isShelf  (a0 : Int32) (M : MzM) (K : Int32 → MzM → Prop) : Prop := ((a0 < 0 → K (0 : Int32) M) ∧ (¬ a0 < 0 → (((3 : Int32) ≤ a0 → K (0 : Int32) M) ∧ (¬ (3 : Int32) ≤ a0 → K (1 : Int32) M))))
theorem tm_PL_isShelf {G : MzG} {B : MzB} {d : Nat} {K : Int32 → MzM → Prop} (hF : mzLive B)   {a0 : Int32} {M : MzM} (hL : mzLnk M) (h : wp_PL_isShelf  a0 M K) : MzC G B d mm_PL_isShelf [.int a0] M (0, 0) (mzK1 B K) := by
  unfold wp_PL_isShelf at h
  exact MzC.of rfl (Nat.le_of_ble_eq_true rfl) (show MzS G B d mm_PL_isShelf M (0, 0) (mzK1 B K) 0 [(0, .int a0)] [] from (mz_iload_n d_PL_isShelf_0 rfl (mz_if_lt 13 d_PL_isShelf_1 rfl (fun hc2 => (mz_iconst (0 : Int32) d_PL_isShelf_13 (by decide) (mz_iret .boolean d_PL_isShelf_14 rfl rfl ⟨rfl, hL, _, rfl, (h.1 hc2)⟩))) (fun hc2 => (mz_iload_n d_PL_isShelf_4 rfl (mz_iconst (3 : Int32) d_PL_isShelf_5 (by decide) (mz_icmp_ge 13 d_PL_isShelf_6 rfl (fun hc1 => (mz_iconst (0 : Int32) d_PL_isShelf_13 (by decide) (mz_iret .boolean d_PL_isShelf_14 rfl rfl ⟨rfl, hL, _, rfl, ((h.2 hc2).1 hc1)⟩))) (fun hc1 => (mz_iconst (1 : Int32) d_PL_isShelf_9 (by decide) (mz_goto 14 d_PL_isShelf_10 rfl (mz_iret .boolean d_PL_isShelf_14 rfl rfl ⟨rfl, hL, _, rfl, ((h.2 hc2).2 hc1)⟩)))))))))))
