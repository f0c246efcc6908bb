def mm_Mo_current : MzT := (⟨"ParcelLineModel", "current", "(I)I"⟩, prog_14_method_69_code, 2, (Option.some Jvm.ClassFile.FieldType.int))
theorem cs_Mo_current {mm : MzT} : mzCall mm mm_Mo_current 1 := ⟨wn_Mo, wco_Mo_current, by decide +kernel, by decide⟩
theorem d_Mo_current_0 : decode mm_Mo_current.2.1 0 = .ok (.aload_n 0, 1) := by decide +kernel
theorem d_Mo_current_1 : decode mm_Mo_current.2.1 1 = .ok (.iconst 0, 1) := by decide +kernel
theorem d_Mo_current_2 : decode mm_Mo_current.2.1 2 = .ok (.putfield 126, 3) := by decide +kernel
theorem d_Mo_current_5 : decode mm_Mo_current.2.1 5 = .ok (.iload_n 1, 1) := by decide +kernel
theorem d_Mo_current_6 : decode mm_Mo_current.2.1 6 = .ok (.invokestatic 182, 3) := by decide +kernel
theorem d_Mo_current_9 : decode mm_Mo_current.2.1 9 = .ok (.ifCond .eq 12, 3) := by decide +kernel
theorem d_Mo_current_12 : decode mm_Mo_current.2.1 12 = .ok (.aload_n 0, 1) := by decide +kernel
theorem d_Mo_current_13 : decode mm_Mo_current.2.1 13 = .ok (.getfield 89, 3) := by decide +kernel
theorem d_Mo_current_16 : decode mm_Mo_current.2.1 16 = .ok (.iload_n 1, 1) := by decide +kernel
theorem d_Mo_current_17 : decode mm_Mo_current.2.1 17 = .ok (.iaload, 1) := by decide +kernel
theorem d_Mo_current_18 : decode mm_Mo_current.2.1 18 = .ok (.goto 4, 3) := by decide +kernel
theorem d_Mo_current_21 : decode mm_Mo_current.2.1 21 = .ok (.iconst (-1), 1) := by decide +kernel
theorem d_Mo_current_22 : decode mm_Mo_current.2.1 22 = .ok (.ireturn, 1) := by decide +kernel
def wp_Mo_current  (a1 : Int32) (M : MzM) (K : Int32 → MzM → Prop) : Prop := (∀ M1 : MzM, M1 = mz_si M (30, 0) 1 (0 : Int32) → wp_Mo_isSession  a1 M1 (fun v5 M2 => ((v5 = 0 → K (-1 : Int32) M2) ∧ (¬ v5 = 0 → (∃ j6 : Nat, a1.toInt = (j6 : Int) ∧ j6 < 2 ∧ K (mz_i M2 (50, 0) j6) M2)))))
theorem tm_Mo_current {G : MzG} {B : MzB} {d : Nat} {K : Int32 → MzM → Prop} (hF : mzLive true B)   {a1 : Int32} {M : MzM} (hL : mzLnk true M) (h : wp_Mo_current  a1 M K) : MzC G B (d + 1) mm_Mo_current [.ref (mz_ad B (30, 0)), .int a1] M (0, 0) (mzK1 true B K) := by
  unfold wp_Mo_current at h
  exact MzC.of rfl (Nat.le_of_ble_eq_true rfl) (show MzS G B (d + 1) mm_Mo_current M (0, 0) (mzK1 true B K) 0 [(0, .ref (mz_ad B (30, 0))), (1, .int a1)] [] from (mz_aload_n d_Mo_current_0 rfl (mz_iconst (0 : Int32) d_Mo_current_1 (by decide) (mz_putI (k := 1) cl_10 d_Mo_current_2 (by decide) wf_Mo_126 rfl rfl rfl rfl (hF 30 0 rfl (by decide)) rfl (let M1 : MzM := mz_si M (30, 0) 1 (0 : Int32); (mz_iload_n d_Mo_current_5 rfl (mz_callS (As := [.int a1]) (st := []) 0 0 d_Mo_current_6 cs_Mo_isSession wl_Mo_182 ws_Mo_isSession (Nat.le_of_ble_eq_true rfl) (Nat.zero_le _) (Nat.zero_le _) (MzC.mono (tm_Mo_isSession (d := d) hF  hL (h M1 rfl)) (fun r9 B9 M2 hq4 => by obtain ⟨rfl, hL3, v5, rfl, hq4⟩ := hq4; exact ⟨_, rfl, (mz_if_eq 21 d_Mo_current_9 rfl (fun hc10 => (mz_iconst (-1 : Int32) d_Mo_current_21 (by decide) (mz_iret .int d_Mo_current_22 rfl rfl ⟨rfl, hL3, _, rfl, (hq4.1 hc10)⟩))) (fun hc10 => (mz_aload_n d_Mo_current_12 rfl (mz_getR (k := 20) (a := (50, 0)) cl_10 d_Mo_current_13 (by decide) wf_Mo_89 rfl (hF 30 0 rfl (by decide)) rfl (hL3 (30, 0) 20 (50, 0) rfl rfl (by decide)) (mz_iload_n d_Mo_current_16 rfl (match (hq4.2 hc10) with | ⟨j6, h7, h8, h9⟩ => mz_iald j6 d_Mo_current_17 (hF 50 0 rfl (by decide)) rfl h7 h8 (mz_goto 22 d_Mo_current_18 rfl (mz_iret .int d_Mo_current_22 rfl rfl ⟨rfl, hL3, _, rfl, h9⟩))))))))⟩)))))))))
def mm_Mo_running : MzT := (⟨"ParcelLineModel", "running", "(I)I"⟩, prog_14_method_70_code, 2, (Option.some Jvm.ClassFile.FieldType.int))
theorem cs_Mo_running {mm : MzT} : mzCall mm mm_Mo_running 1 := ⟨wn_Mo, wco_Mo_running, by decide +kernel, by decide⟩
theorem d_Mo_running_0 : decode mm_Mo_running.2.1 0 = .ok (.aload_n 0, 1) := by decide +kernel
theorem d_Mo_running_1 : decode mm_Mo_running.2.1 1 = .ok (.iconst 0, 1) := by decide +kernel
theorem d_Mo_running_2 : decode mm_Mo_running.2.1 2 = .ok (.putfield 126, 3) := by decide +kernel
theorem d_Mo_running_5 : decode mm_Mo_running.2.1 5 = .ok (.iload_n 1, 1) := by decide +kernel
theorem d_Mo_running_6 : decode mm_Mo_running.2.1 6 = .ok (.invokestatic 182, 3) := by decide +kernel
theorem d_Mo_running_9 : decode mm_Mo_running.2.1 9 = .ok (.ifCond .eq 12, 3) := by decide +kernel
theorem d_Mo_running_12 : decode mm_Mo_running.2.1 12 = .ok (.aload_n 0, 1) := by decide +kernel
theorem d_Mo_running_13 : decode mm_Mo_running.2.1 13 = .ok (.getfield 98, 3) := by decide +kernel
theorem d_Mo_running_16 : decode mm_Mo_running.2.1 16 = .ok (.iload_n 1, 1) := by decide +kernel
theorem d_Mo_running_17 : decode mm_Mo_running.2.1 17 = .ok (.iaload, 1) := by decide +kernel
theorem d_Mo_running_18 : decode mm_Mo_running.2.1 18 = .ok (.goto 4, 3) := by decide +kernel
theorem d_Mo_running_21 : decode mm_Mo_running.2.1 21 = .ok (.iconst (-1), 1) := by decide +kernel
theorem d_Mo_running_22 : decode mm_Mo_running.2.1 22 = .ok (.ireturn, 1) := by decide +kernel
def wp_Mo_running  (a1 : Int32) (M : MzM) (K : Int32 → MzM → Prop) : Prop := (∀ M1 : MzM, M1 = mz_si M (30, 0) 1 (0 : Int32) → wp_Mo_isSession  a1 M1 (fun v5 M2 => ((v5 = 0 → K (-1 : Int32) M2) ∧ (¬ v5 = 0 → (∃ j6 : Nat, a1.toInt = (j6 : Int) ∧ j6 < 2 ∧ K (mz_i M2 (53, 0) j6) M2)))))
theorem tm_Mo_running {G : MzG} {B : MzB} {d : Nat} {K : Int32 → MzM → Prop} (hF : mzLive true B)   {a1 : Int32} {M : MzM} (hL : mzLnk true M) (h : wp_Mo_running  a1 M K) : MzC G B (d + 1) mm_Mo_running [.ref (mz_ad B (30, 0)), .int a1] M (0, 0) (mzK1 true B K) := by
  unfold wp_Mo_running at h
  exact MzC.of rfl (Nat.le_of_ble_eq_true rfl) (show MzS G B (d + 1) mm_Mo_running M (0, 0) (mzK1 true B K) 0 [(0, .ref (mz_ad B (30, 0))), (1, .int a1)] [] from (mz_aload_n d_Mo_running_0 rfl (mz_iconst (0 : Int32) d_Mo_running_1 (by decide) (mz_putI (k := 1) cl_10 d_Mo_running_2 (by decide) wf_Mo_126 rfl rfl rfl rfl (hF 30 0 rfl (by decide)) rfl (let M1 : MzM := mz_si M (30, 0) 1 (0 : Int32); (mz_iload_n d_Mo_running_5 rfl (mz_callS (As := [.int a1]) (st := []) 0 0 d_Mo_running_6 cs_Mo_isSession wl_Mo_182 ws_Mo_isSession (Nat.le_of_ble_eq_true rfl) (Nat.zero_le _) (Nat.zero_le _) (MzC.mono (tm_Mo_isSession (d := d) hF  hL (h M1 rfl)) (fun r9 B9 M2 hq4 => by obtain ⟨rfl, hL3, v5, rfl, hq4⟩ := hq4; exact ⟨_, rfl, (mz_if_eq 21 d_Mo_running_9 rfl (fun hc10 => (mz_iconst (-1 : Int32) d_Mo_running_21 (by decide) (mz_iret .int d_Mo_running_22 rfl rfl ⟨rfl, hL3, _, rfl, (hq4.1 hc10)⟩))) (fun hc10 => (mz_aload_n d_Mo_running_12 rfl (mz_getR (k := 23) (a := (53, 0)) cl_10 d_Mo_running_13 (by decide) wf_Mo_98 rfl (hF 30 0 rfl (by decide)) rfl (hL3 (30, 0) 23 (53, 0) rfl rfl (by decide)) (mz_iload_n d_Mo_running_16 rfl (match (hq4.2 hc10) with | ⟨j6, h7, h8, h9⟩ => mz_iald j6 d_Mo_running_17 (hF 53 0 rfl (by decide)) rfl h7 h8 (mz_goto 22 d_Mo_running_18 rfl (mz_iret .int d_Mo_running_22 rfl rfl ⟨rfl, hL3, _, rfl, h9⟩))))))))⟩)))))))))
def mm_Mo_fill : MzT := (⟨"ParcelLineModel", "fill", "(IIII)Z"⟩, prog_14_method_71_code, 7, (Option.some Jvm.ClassFile.FieldType.boolean))
theorem cs_Mo_fill {mm : MzT} : mzCall mm mm_Mo_fill 4 := ⟨wn_Mo, wco_Mo_fill, by decide +kernel, by decide⟩
theorem d_Mo_fill_0 : decode mm_Mo_fill.2.1 0 = .ok (.aload_n 0, 1) := by decide +kernel
theorem d_Mo_fill_1 : decode mm_Mo_fill.2.1 1 = .ok (.iconst 0, 1) := by decide +kernel
theorem d_Mo_fill_2 : decode mm_Mo_fill.2.1 2 = .ok (.putfield 126, 3) := by decide +kernel
theorem d_Mo_fill_5 : decode mm_Mo_fill.2.1 5 = .ok (.iload_n 1, 1) := by decide +kernel
theorem d_Mo_fill_6 : decode mm_Mo_fill.2.1 6 = .ok (.ifCond .lt 25, 3) := by decide +kernel
theorem d_Mo_fill_9 : decode mm_Mo_fill.2.1 9 = .ok (.iload_n 1, 1) := by decide +kernel
theorem d_Mo_fill_10 : decode mm_Mo_fill.2.1 10 = .ok (.iconst 2, 1) := by decide +kernel
theorem d_Mo_fill_11 : decode mm_Mo_fill.2.1 11 = .ok (.if_icmp .gt 20, 3) := by decide +kernel
theorem d_Mo_fill_14 : decode mm_Mo_fill.2.1 14 = .ok (.iload_n 2, 1) := by decide +kernel
theorem d_Mo_fill_15 : decode mm_Mo_fill.2.1 15 = .ok (.ifCond .lt 16, 3) := by decide +kernel
theorem d_Mo_fill_18 : decode mm_Mo_fill.2.1 18 = .ok (.iload_n 2, 1) := by decide +kernel
theorem d_Mo_fill_19 : decode mm_Mo_fill.2.1 19 = .ok (.bipush 24, 2) := by decide +kernel
theorem d_Mo_fill_21 : decode mm_Mo_fill.2.1 21 = .ok (.if_icmp .gt 10, 3) := by decide +kernel
theorem d_Mo_fill_24 : decode mm_Mo_fill.2.1 24 = .ok (.aload_n 0, 1) := by decide +kernel
theorem d_Mo_fill_25 : decode mm_Mo_fill.2.1 25 = .ok (.getfield 319, 3) := by decide +kernel
theorem d_Mo_fill_28 : decode mm_Mo_fill.2.1 28 = .ok (.ifCond .eq 5, 3) := by decide +kernel
theorem d_Mo_fill_31 : decode mm_Mo_fill.2.1 31 = .ok (.iconst 0, 1) := by decide +kernel
theorem d_Mo_fill_32 : decode mm_Mo_fill.2.1 32 = .ok (.ireturn, 1) := by decide +kernel
theorem d_Mo_fill_33 : decode mm_Mo_fill.2.1 33 = .ok (.iload_n 3, 1) := by decide +kernel
theorem d_Mo_fill_34 : decode mm_Mo_fill.2.1 34 = .ok (.istore 5, 2) := by decide +kernel
theorem d_Mo_fill_36 : decode mm_Mo_fill.2.1 36 = .ok (.iconst 0, 1) := by decide +kernel
theorem d_Mo_fill_37 : decode mm_Mo_fill.2.1 37 = .ok (.istore 6, 2) := by decide +kernel
theorem d_Mo_fill_39 : decode mm_Mo_fill.2.1 39 = .ok (.iload 6, 2) := by decide +kernel
theorem d_Mo_fill_41 : decode mm_Mo_fill.2.1 41 = .ok (.iload_n 2, 1) := by decide +kernel
theorem d_Mo_fill_42 : decode mm_Mo_fill.2.1 42 = .ok (.if_icmp .ge 34, 3) := by decide +kernel
theorem d_Mo_fill_45 : decode mm_Mo_fill.2.1 45 = .ok (.aload_n 0, 1) := by decide +kernel
theorem d_Mo_fill_46 : decode mm_Mo_fill.2.1 46 = .ok (.getfield 119, 3) := by decide +kernel
theorem d_Mo_fill_49 : decode mm_Mo_fill.2.1 49 = .ok (.bipush 24, 2) := by decide +kernel
theorem d_Mo_fill_51 : decode mm_Mo_fill.2.1 51 = .ok (.iload_n 1, 1) := by decide +kernel
theorem d_Mo_fill_52 : decode mm_Mo_fill.2.1 52 = .ok (.imul, 1) := by decide +kernel
theorem d_Mo_fill_53 : decode mm_Mo_fill.2.1 53 = .ok (.iload 6, 2) := by decide +kernel
theorem d_Mo_fill_55 : decode mm_Mo_fill.2.1 55 = .ok (.iadd, 1) := by decide +kernel
theorem d_Mo_fill_56 : decode mm_Mo_fill.2.1 56 = .ok (.iload 5, 2) := by decide +kernel
theorem d_Mo_fill_58 : decode mm_Mo_fill.2.1 58 = .ok (.sipush 255, 3) := by decide +kernel
theorem d_Mo_fill_61 : decode mm_Mo_fill.2.1 61 = .ok (.iand, 1) := by decide +kernel
theorem d_Mo_fill_62 : decode mm_Mo_fill.2.1 62 = .ok (.iastore, 1) := by decide +kernel
theorem d_Mo_fill_63 : decode mm_Mo_fill.2.1 63 = .ok (.iload 5, 2) := by decide +kernel
theorem d_Mo_fill_65 : decode mm_Mo_fill.2.1 65 = .ok (.iload 4, 2) := by decide +kernel
theorem d_Mo_fill_67 : decode mm_Mo_fill.2.1 67 = .ok (.iadd, 1) := by decide +kernel
theorem d_Mo_fill_68 : decode mm_Mo_fill.2.1 68 = .ok (.istore 5, 2) := by decide +kernel
theorem d_Mo_fill_70 : decode mm_Mo_fill.2.1 70 = .ok (.iinc 6 1, 3) := by decide +kernel
theorem d_Mo_fill_73 : decode mm_Mo_fill.2.1 73 = .ok (.goto (-34), 3) := by decide +kernel
theorem d_Mo_fill_76 : decode mm_Mo_fill.2.1 76 = .ok (.aload_n 0, 1) := by decide +kernel
theorem d_Mo_fill_77 : decode mm_Mo_fill.2.1 77 = .ok (.getfield 116, 3) := by decide +kernel
theorem d_Mo_fill_80 : decode mm_Mo_fill.2.1 80 = .ok (.iload_n 1, 1) := by decide +kernel
theorem d_Mo_fill_81 : decode mm_Mo_fill.2.1 81 = .ok (.iload_n 2, 1) := by decide +kernel
theorem d_Mo_fill_82 : decode mm_Mo_fill.2.1 82 = .ok (.iastore, 1) := by decide +kernel
theorem d_Mo_fill_83 : decode mm_Mo_fill.2.1 83 = .ok (.iconst 1, 1) := by decide +kernel
theorem d_Mo_fill_84 : decode mm_Mo_fill.2.1 84 = .ok (.ireturn, 1) := by decide +kernel
def wp_Mo_fill_39   (K : Int32 → MzM → Prop) : Nat → Int32 → Int32 → Int32 → Int32 → Int32 → MzM → Prop
  | 0, _, _, _, _, _, _ => False
  | r0 + 1, y1, y2, y4, y5, y6, M => ((y2 ≤ y6 → (∃ j12 : Nat, y1.toInt = (j12 : Int) ∧ j12 < 3 ∧ ∀ M9 : MzM, M9 = mz_si M (59, 0) j12 y2 → K (1 : Int32) M9)) ∧ (¬ y2 ≤ y6 → (∃ j18 : Nat, (((24 : Int32) * y1) + y6).toInt = (j18 : Int) ∧ j18 < 72 ∧ ∀ M15 : MzM, M15 = mz_si M (60, 0) j18 (y5 &&& (255 : Int32)) → (wp_Mo_fill_39   K r0) y1 y2 y4 (y5 + y4) (y6 + (1 : Int32)) M15)))
def wp_Mo_fill  (a1 : Int32) (a2 : Int32) (a3 : Int32) (a4 : Int32) (M : MzM) (K : Int32 → MzM → Prop) : Prop := (∀ M1 : MzM, M1 = mz_si M (30, 0) 1 (0 : Int32) → ((a1 < 0 → K (0 : Int32) M1) ∧ (¬ a1 < 0 → (((2 : Int32) < a1 → K (0 : Int32) M1) ∧ (¬ (2 : Int32) < a1 → ((a2 < 0 → K (0 : Int32) M1) ∧ (¬ a2 < 0 → (((24 : Int32) < a2 → K (0 : Int32) M1) ∧ (¬ (24 : Int32) < a2 → (((mz_i M1 (30, 0) 38) = 0 → (∃ r2 : Nat, wp_Mo_fill_39   K r2 a1 a2 a4 a3 (0 : Int32) M1)) ∧ (¬ (mz_i M1 (30, 0) 38) = 0 → K (0 : Int32) M1)))))))))))
theorem tm_Mo_fill_39 {G : MzG} {B : MzB} {d : Nat} {K : Int32 → MzM → Prop} (hF : mzLive true B)     : ∀ (r0 : Nat) (y1 : Int32) (y2 : Int32) (y4 : Int32) (y5 : Int32) (y6 : Int32) (M : MzM), mzLnk true M → wp_Mo_fill_39   K r0 y1 y2 y4 y5 y6 M → MzS G B d mm_Mo_fill M (0, 0) (mzK1 true B K) 39 [(0, .ref (mz_ad B (30, 0))), (1, .int y1), (2, .int y2), (4, .int y4), (5, .int y5), (6, .int y6)] [] := by
  intro r0
  induction r0 with
  | zero => intro y1 y2 y4 y5 y6 M hL h; exact False.elim h
  | succ r0 hH39 =>
    intro y1 y2 y4 y5 y6 M hL h
    unfold wp_Mo_fill_39 at h
    exact (mz_iload d_Mo_fill_39 rfl (mz_iload_n d_Mo_fill_41 rfl (mz_icmp_ge 76 d_Mo_fill_42 rfl (fun hc21 => (mz_aload_n d_Mo_fill_76 rfl (mz_getR (k := 36) (a := (59, 0)) cl_10 d_Mo_fill_77 (by decide) wf_Mo_116 rfl (hF 30 0 rfl (by decide)) rfl (hL (30, 0) 36 (59, 0) rfl rfl (by decide)) (mz_iload_n d_Mo_fill_80 rfl (mz_iload_n d_Mo_fill_81 rfl (match (h.1 hc21) with | ⟨j12, h13, h14, h11⟩ => mz_iast j12 d_Mo_fill_82 (hF 59 0 rfl (by decide)) rfl h13 h14 (let M9 : MzM := mz_si M (59, 0) j12 y2; (mz_iconst (1 : Int32) d_Mo_fill_83 (by decide) (mz_iret .boolean d_Mo_fill_84 rfl rfl ⟨rfl, hL, _, rfl, (h11 M9 rfl)⟩))))))))) (fun hc21 => (mz_aload_n d_Mo_fill_45 rfl (mz_getR (k := 37) (a := (60, 0)) cl_10 d_Mo_fill_46 (by decide) wf_Mo_119 rfl (hF 30 0 rfl (by decide)) rfl (hL (30, 0) 37 (60, 0) rfl rfl (by decide)) (mz_bipush (24 : Int32) d_Mo_fill_49 (by decide) (mz_iload_n d_Mo_fill_51 rfl (mz_imul d_Mo_fill_52 (mz_iload d_Mo_fill_53 rfl (mz_iadd d_Mo_fill_55 (mz_iload d_Mo_fill_56 rfl (mz_sipush (255 : Int32) d_Mo_fill_58 (by decide) (mz_iand d_Mo_fill_61 (match (h.2 hc21) with | ⟨j18, h19, h20, h17⟩ => mz_iast j18 d_Mo_fill_62 (hF 60 0 rfl (by decide)) rfl h19 h20 (let M15 : MzM := mz_si M (60, 0) j18 (y5 &&& (255 : Int32)); (mz_iload d_Mo_fill_63 rfl (mz_iload d_Mo_fill_65 rfl (mz_iadd d_Mo_fill_67 (mz_istore d_Mo_fill_68 (by decide) (mz_iinc (y6 + (1 : Int32)) d_Mo_fill_70 rfl (by decide) rfl (mz_goto 39 d_Mo_fill_73 rfl (MzS.loc [(0, .ref (mz_ad B (30, 0))), (1, .int y1), (2, .int y2), (4, .int y4), (5, .int (y5 + y4)), (6, .int (y6 + (1 : Int32)))] ⟨rfl, rfl, rfl, rfl, rfl, rfl, trivial⟩ (hH39 y1 y2 y4 (y5 + y4) (y6 + (1 : Int32)) M15 hL (h17 M15 rfl)))))))))))))))))))))))))
theorem tm_Mo_fill {G : MzG} {B : MzB} {d : Nat} {K : Int32 → MzM → Prop} (hF : mzLive true B)   {a1 : Int32} {a2 : Int32} {a3 : Int32} {a4 : Int32} {M : MzM} (hL : mzLnk true M) (h : wp_Mo_fill  a1 a2 a3 a4 M K) : MzC G B d mm_Mo_fill [.ref (mz_ad B (30, 0)), .int a1, .int a2, .int a3, .int a4] M (0, 0) (mzK1 true B K) := by
  unfold wp_Mo_fill at h
  exact MzC.of rfl (Nat.le_of_ble_eq_true rfl) (show MzS G B d mm_Mo_fill M (0, 0) (mzK1 true B K) 0 [(0, .ref (mz_ad B (30, 0))), (1, .int a1), (2, .int a2), (3, .int a3), (4, .int a4)] [] from (mz_aload_n d_Mo_fill_0 rfl (mz_iconst (0 : Int32) d_Mo_fill_1 (by decide) (mz_putI (k := 1) cl_10 d_Mo_fill_2 (by decide) wf_Mo_126 rfl rfl rfl rfl (hF 30 0 rfl (by decide)) rfl (let M1 : MzM := mz_si M (30, 0) 1 (0 : Int32); (mz_iload_n d_Mo_fill_5 rfl (mz_if_lt 31 d_Mo_fill_6 rfl (fun hc8 => (mz_iconst (0 : Int32) d_Mo_fill_31 (by decide) (mz_iret .boolean d_Mo_fill_32 rfl rfl ⟨rfl, hL, _, rfl, ((h M1 rfl).1 hc8)⟩))) (fun hc8 => (mz_iload_n d_Mo_fill_9 rfl (mz_iconst (2 : Int32) d_Mo_fill_10 (by decide) (mz_icmp_gt 31 d_Mo_fill_11 rfl (fun hc7 => (mz_iconst (0 : Int32) d_Mo_fill_31 (by decide) (mz_iret .boolean d_Mo_fill_32 rfl rfl ⟨rfl, hL, _, rfl, (((h M1 rfl).2 hc8).1 hc7)⟩))) (fun hc7 => (mz_iload_n d_Mo_fill_14 rfl (mz_if_lt 31 d_Mo_fill_15 rfl (fun hc6 => (mz_iconst (0 : Int32) d_Mo_fill_31 (by decide) (mz_iret .boolean d_Mo_fill_32 rfl rfl ⟨rfl, hL, _, rfl, ((((h M1 rfl).2 hc8).2 hc7).1 hc6)⟩))) (fun hc6 => (mz_iload_n d_Mo_fill_18 rfl (mz_bipush (24 : Int32) d_Mo_fill_19 (by decide) (mz_icmp_gt 31 d_Mo_fill_21 rfl (fun hc5 => (mz_iconst (0 : Int32) d_Mo_fill_31 (by decide) (mz_iret .boolean d_Mo_fill_32 rfl rfl ⟨rfl, hL, _, rfl, (((((h M1 rfl).2 hc8).2 hc7).2 hc6).1 hc5)⟩))) (fun hc5 => (mz_aload_n d_Mo_fill_24 rfl (mz_getI (k := 38) cl_10 d_Mo_fill_25 (by decide) wf_Mo_319 rfl (hF 30 0 rfl (by decide)) rfl (mz_if_eq 33 d_Mo_fill_28 rfl (fun hc4 => (mz_iload_n d_Mo_fill_33 rfl (mz_istore d_Mo_fill_34 (by decide) (mz_iconst (0 : Int32) d_Mo_fill_36 (by decide) (mz_istore d_Mo_fill_37 (by decide) (MzS.loc [(0, .ref (mz_ad B (30, 0))), (1, .int a1), (2, .int a2), (4, .int a4), (5, .int a3), (6, .int (0 : Int32))] ⟨rfl, rfl, rfl, rfl, rfl, rfl, trivial⟩ (match ((((((h M1 rfl).2 hc8).2 hc7).2 hc6).2 hc5).1 hc4) with | ⟨r2, h3⟩ => tm_Mo_fill_39 hF   r2 a1 a2 a4 a3 (0 : Int32) M1 hL h3))))))) (fun hc4 => (mz_iconst (0 : Int32) d_Mo_fill_31 (by decide) (mz_iret .boolean d_Mo_fill_32 rfl rfl ⟨rfl, hL, _, rfl, ((((((h M1 rfl).2 hc8).2 hc7).2 hc6).2 hc5).2 hc4)⟩)))))))))))))))))))))))))
def mm_Mo_shelf : MzT := (⟨"ParcelLineModel", "shelf", "(II)I"⟩, prog_14_method_72_code, 3, (Option.some Jvm.ClassFile.FieldType.int))
theorem cs_Mo_shelf {mm : MzT} : mzCall mm mm_Mo_shelf 2 := ⟨wn_Mo, wco_Mo_shelf, by decide +kernel, by decide⟩
theorem d_Mo_shelf_0 : decode mm_Mo_shelf.2.1 0 = .ok (.aload_n 0, 1) := by decide +kernel
theorem d_Mo_shelf_1 : decode mm_Mo_shelf.2.1 1 = .ok (.iconst 0, 1) := by decide +kernel
theorem d_Mo_shelf_2 : decode mm_Mo_shelf.2.1 2 = .ok (.putfield 126, 3) := by decide +kernel
theorem d_Mo_shelf_5 : decode mm_Mo_shelf.2.1 5 = .ok (.iload_n 1, 1) := by decide +kernel
theorem d_Mo_shelf_6 : decode mm_Mo_shelf.2.1 6 = .ok (.ifCond .lt 8, 3) := by decide +kernel
theorem d_Mo_shelf_9 : decode mm_Mo_shelf.2.1 9 = .ok (.iload_n 1, 1) := by decide +kernel
theorem d_Mo_shelf_10 : decode mm_Mo_shelf.2.1 10 = .ok (.iconst 2, 1) := by decide +kernel
theorem d_Mo_shelf_11 : decode mm_Mo_shelf.2.1 11 = .ok (.if_icmp .le 5, 3) := by decide +kernel
theorem d_Mo_shelf_14 : decode mm_Mo_shelf.2.1 14 = .ok (.iconst (-1), 1) := by decide +kernel
theorem d_Mo_shelf_15 : decode mm_Mo_shelf.2.1 15 = .ok (.ireturn, 1) := by decide +kernel
theorem d_Mo_shelf_16 : decode mm_Mo_shelf.2.1 16 = .ok (.iload_n 2, 1) := by decide +kernel
theorem d_Mo_shelf_17 : decode mm_Mo_shelf.2.1 17 = .ok (.iconst (-1), 1) := by decide +kernel
theorem d_Mo_shelf_18 : decode mm_Mo_shelf.2.1 18 = .ok (.if_icmp .ne 12, 3) := by decide +kernel
theorem d_Mo_shelf_21 : decode mm_Mo_shelf.2.1 21 = .ok (.aload_n 0, 1) := by decide +kernel
theorem d_Mo_shelf_22 : decode mm_Mo_shelf.2.1 22 = .ok (.getfield 116, 3) := by decide +kernel
theorem d_Mo_shelf_25 : decode mm_Mo_shelf.2.1 25 = .ok (.iload_n 1, 1) := by decide +kernel
theorem d_Mo_shelf_26 : decode mm_Mo_shelf.2.1 26 = .ok (.iaload, 1) := by decide +kernel
theorem d_Mo_shelf_27 : decode mm_Mo_shelf.2.1 27 = .ok (.goto 32, 3) := by decide +kernel
theorem d_Mo_shelf_30 : decode mm_Mo_shelf.2.1 30 = .ok (.iload_n 2, 1) := by decide +kernel
theorem d_Mo_shelf_31 : decode mm_Mo_shelf.2.1 31 = .ok (.ifCond .lt 27, 3) := by decide +kernel
theorem d_Mo_shelf_34 : decode mm_Mo_shelf.2.1 34 = .ok (.iload_n 2, 1) := by decide +kernel
theorem d_Mo_shelf_35 : decode mm_Mo_shelf.2.1 35 = .ok (.aload_n 0, 1) := by decide +kernel
theorem d_Mo_shelf_36 : decode mm_Mo_shelf.2.1 36 = .ok (.getfield 116, 3) := by decide +kernel
theorem d_Mo_shelf_39 : decode mm_Mo_shelf.2.1 39 = .ok (.iload_n 1, 1) := by decide +kernel
theorem d_Mo_shelf_40 : decode mm_Mo_shelf.2.1 40 = .ok (.iaload, 1) := by decide +kernel
theorem d_Mo_shelf_41 : decode mm_Mo_shelf.2.1 41 = .ok (.if_icmp .ge 17, 3) := by decide +kernel
theorem d_Mo_shelf_44 : decode mm_Mo_shelf.2.1 44 = .ok (.aload_n 0, 1) := by decide +kernel
theorem d_Mo_shelf_45 : decode mm_Mo_shelf.2.1 45 = .ok (.getfield 119, 3) := by decide +kernel
theorem d_Mo_shelf_48 : decode mm_Mo_shelf.2.1 48 = .ok (.bipush 24, 2) := by decide +kernel
theorem d_Mo_shelf_50 : decode mm_Mo_shelf.2.1 50 = .ok (.iload_n 1, 1) := by decide +kernel
theorem d_Mo_shelf_51 : decode mm_Mo_shelf.2.1 51 = .ok (.imul, 1) := by decide +kernel
theorem d_Mo_shelf_52 : decode mm_Mo_shelf.2.1 52 = .ok (.iload_n 2, 1) := by decide +kernel
theorem d_Mo_shelf_53 : decode mm_Mo_shelf.2.1 53 = .ok (.iadd, 1) := by decide +kernel
theorem d_Mo_shelf_54 : decode mm_Mo_shelf.2.1 54 = .ok (.iaload, 1) := by decide +kernel
theorem d_Mo_shelf_55 : decode mm_Mo_shelf.2.1 55 = .ok (.goto 4, 3) := by decide +kernel
theorem d_Mo_shelf_58 : decode mm_Mo_shelf.2.1 58 = .ok (.iconst (-1), 1) := by decide +kernel
theorem d_Mo_shelf_59 : decode mm_Mo_shelf.2.1 59 = .ok (.ireturn, 1) := by decide +kernel
def wp_Mo_shelf  (a1 : Int32) (a2 : Int32) (M : MzM) (K : Int32 → MzM → Prop) : Prop := (∀ M1 : MzM, M1 = mz_si M (30, 0) 1 (0 : Int32) → ((a1 < 0 → K (-1 : Int32) M1) ∧ (¬ a1 < 0 → ((a1 ≤ (2 : Int32) → ((¬ a2 = (-1 : Int32) → ((a2 < 0 → K (-1 : Int32) M1) ∧ (¬ a2 < 0 → (∃ j2 : Nat, a1.toInt = (j2 : Int) ∧ j2 < 3 ∧ (((mz_i M1 (59, 0) j2) ≤ a2 → K (-1 : Int32) M1) ∧ (¬ (mz_i M1 (59, 0) j2) ≤ a2 → (∃ j6 : Nat, (((24 : Int32) * a1) + a2).toInt = (j6 : Int) ∧ j6 < 72 ∧ K (mz_i M1 (60, 0) j6) M1))))))) ∧ (a2 = (-1 : Int32) → (∃ j12 : Nat, a1.toInt = (j12 : Int) ∧ j12 < 3 ∧ K (mz_i M1 (59, 0) j12) M1)))) ∧ (¬ a1 ≤ (2 : Int32) → K (-1 : Int32) M1)))))
theorem tm_Mo_shelf {G : MzG} {B : MzB} {d : Nat} {K : Int32 → MzM → Prop} (hF : mzLive true B)   {a1 : Int32} {a2 : Int32} {M : MzM} (hL : mzLnk true M) (h : wp_Mo_shelf  a1 a2 M K) : MzC G B d mm_Mo_shelf [.ref (mz_ad B (30, 0)), .int a1, .int a2] M (0, 0) (mzK1 true B K) := by
  unfold wp_Mo_shelf at h
  exact MzC.of rfl (Nat.le_of_ble_eq_true rfl) (show MzS G B d mm_Mo_shelf M (0, 0) (mzK1 true B K) 0 [(0, .ref (mz_ad B (30, 0))), (1, .int a1), (2, .int a2)] [] from (mz_aload_n d_Mo_shelf_0 rfl (mz_iconst (0 : Int32) d_Mo_shelf_1 (by decide) (mz_putI (k := 1) cl_10 d_Mo_shelf_2 (by decide) wf_Mo_126 rfl rfl rfl rfl (hF 30 0 rfl (by decide)) rfl (let M1 : MzM := mz_si M (30, 0) 1 (0 : Int32); (mz_iload_n d_Mo_shelf_5 rfl (mz_if_lt 14 d_Mo_shelf_6 rfl (fun hc18 => (mz_iconst (-1 : Int32) d_Mo_shelf_14 (by decide) (mz_iret .int d_Mo_shelf_15 rfl rfl ⟨rfl, hL, _, rfl, ((h M1 rfl).1 hc18)⟩))) (fun hc18 => (mz_iload_n d_Mo_shelf_9 rfl (mz_iconst (2 : Int32) d_Mo_shelf_10 (by decide) (mz_icmp_le 16 d_Mo_shelf_11 rfl (fun hc17 => (mz_iload_n d_Mo_shelf_16 rfl (mz_iconst (-1 : Int32) d_Mo_shelf_17 (by decide) (mz_icmp_ne 30 d_Mo_shelf_18 rfl (fun hc16 => (mz_iload_n d_Mo_shelf_30 rfl (mz_if_lt 58 d_Mo_shelf_31 rfl (fun hc11 => (mz_iconst (-1 : Int32) d_Mo_shelf_58 (by decide) (mz_iret .int d_Mo_shelf_59 rfl rfl ⟨rfl, hL, _, rfl, (((((h M1 rfl).2 hc18).1 hc17).1 hc16).1 hc11)⟩))) (fun hc11 => (mz_iload_n d_Mo_shelf_34 rfl (mz_aload_n d_Mo_shelf_35 rfl (mz_getR (k := 36) (a := (59, 0)) cl_10 d_Mo_shelf_36 (by decide) wf_Mo_116 rfl (hF 30 0 rfl (by decide)) rfl (hL (30, 0) 36 (59, 0) rfl rfl (by decide)) (mz_iload_n d_Mo_shelf_39 rfl (match (((((h M1 rfl).2 hc18).1 hc17).1 hc16).2 hc11) with | ⟨j2, h3, h4, h5⟩ => mz_iald j2 d_Mo_shelf_40 (hF 59 0 rfl (by decide)) rfl h3 h4 (mz_icmp_ge 58 d_Mo_shelf_41 rfl (fun hc10 => (mz_iconst (-1 : Int32) d_Mo_shelf_58 (by decide) (mz_iret .int d_Mo_shelf_59 rfl rfl ⟨rfl, hL, _, rfl, (h5.1 hc10)⟩))) (fun hc10 => (mz_aload_n d_Mo_shelf_44 rfl (mz_getR (k := 37) (a := (60, 0)) cl_10 d_Mo_shelf_45 (by decide) wf_Mo_119 rfl (hF 30 0 rfl (by decide)) rfl (hL (30, 0) 37 (60, 0) rfl rfl (by decide)) (mz_bipush (24 : Int32) d_Mo_shelf_48 (by decide) (mz_iload_n d_Mo_shelf_50 rfl (mz_imul d_Mo_shelf_51 (mz_iload_n d_Mo_shelf_52 rfl (mz_iadd d_Mo_shelf_53 (match (h5.2 hc10) with | ⟨j6, h7, h8, h9⟩ => mz_iald j6 d_Mo_shelf_54 (hF 60 0 rfl (by decide)) rfl h7 h8 (mz_goto 59 d_Mo_shelf_55 rfl (mz_iret .int d_Mo_shelf_59 rfl rfl ⟨rfl, hL, _, rfl, h9⟩))))))))))))))))))))) (fun hc16 => (mz_aload_n d_Mo_shelf_21 rfl (mz_getR (k := 36) (a := (59, 0)) cl_10 d_Mo_shelf_22 (by decide) wf_Mo_116 rfl (hF 30 0 rfl (by decide)) rfl (hL (30, 0) 36 (59, 0) rfl rfl (by decide)) (mz_iload_n d_Mo_shelf_25 rfl (match ((((h M1 rfl).2 hc18).1 hc17).2 hc16) with | ⟨j12, h13, h14, h15⟩ => mz_iald j12 d_Mo_shelf_26 (hF 59 0 rfl (by decide)) rfl h13 h14 (mz_goto 59 d_Mo_shelf_27 rfl (mz_iret .int d_Mo_shelf_59 rfl rfl ⟨rfl, hL, _, rfl, h15⟩))))))))))) (fun hc17 => (mz_iconst (-1 : Int32) d_Mo_shelf_14 (by decide) (mz_iret .int d_Mo_shelf_15 rfl rfl ⟨rfl, hL, _, rfl, (((h M1 rfl).2 hc18).2 hc17)⟩))))))))))))))
def mm_Mo_isName : MzT := (⟨"ParcelLineModel", "isName", "(I)Z"⟩, prog_14_method_73_code, 4, (Option.some Jvm.ClassFile.FieldType.boolean))
theorem cs_Mo_isName {mm : MzT} : mzCall mm mm_Mo_isName 1 := ⟨wn_Mo, wco_Mo_isName, by decide +kernel, by decide⟩
theorem d_Mo_isName_0 : decode mm_Mo_isName.2.1 0 = .ok (.iload_n 0, 1) := by decide +kernel
theorem d_Mo_isName_1 : decode mm_Mo_isName.2.1 1 = .ok (.ifCond .le 10, 3) := by decide +kernel
theorem d_Mo_isName_4 : decode mm_Mo_isName.2.1 4 = .ok (.iload_n 0, 1) := by decide +kernel
theorem d_Mo_isName_5 : decode mm_Mo_isName.2.1 5 = .ok (.ldc_w 335, 3) := by decide +kernel
theorem d_Mo_isName_8 : decode mm_Mo_isName.2.1 8 = .ok (.if_icmp .lt 5, 3) := by decide +kernel
theorem d_Mo_isName_11 : decode mm_Mo_isName.2.1 11 = .ok (.iconst 0, 1) := by decide +kernel
theorem d_Mo_isName_12 : decode mm_Mo_isName.2.1 12 = .ok (.ireturn, 1) := by decide +kernel
theorem d_Mo_isName_13 : decode mm_Mo_isName.2.1 13 = .ok (.iload_n 0, 1) := by decide +kernel
theorem d_Mo_isName_14 : decode mm_Mo_isName.2.1 14 = .ok (.sipush 128, 3) := by decide +kernel
theorem d_Mo_isName_17 : decode mm_Mo_isName.2.1 17 = .ok (.irem, 1) := by decide +kernel
theorem d_Mo_isName_18 : decode mm_Mo_isName.2.1 18 = .ok (.istore_n 1, 1) := by decide +kernel
theorem d_Mo_isName_19 : decode mm_Mo_isName.2.1 19 = .ok (.iload_n 0, 1) := by decide +kernel
theorem d_Mo_isName_20 : decode mm_Mo_isName.2.1 20 = .ok (.sipush 128, 3) := by decide +kernel
theorem d_Mo_isName_23 : decode mm_Mo_isName.2.1 23 = .ok (.idiv, 1) := by decide +kernel
theorem d_Mo_isName_24 : decode mm_Mo_isName.2.1 24 = .ok (.sipush 128, 3) := by decide +kernel
theorem d_Mo_isName_27 : decode mm_Mo_isName.2.1 27 = .ok (.irem, 1) := by decide +kernel
theorem d_Mo_isName_28 : decode mm_Mo_isName.2.1 28 = .ok (.istore_n 2, 1) := by decide +kernel
theorem d_Mo_isName_29 : decode mm_Mo_isName.2.1 29 = .ok (.iload_n 0, 1) := by decide +kernel
theorem d_Mo_isName_30 : decode mm_Mo_isName.2.1 30 = .ok (.sipush 16384, 3) := by decide +kernel
theorem d_Mo_isName_33 : decode mm_Mo_isName.2.1 33 = .ok (.idiv, 1) := by decide +kernel
theorem d_Mo_isName_34 : decode mm_Mo_isName.2.1 34 = .ok (.istore_n 3, 1) := by decide +kernel
theorem d_Mo_isName_35 : decode mm_Mo_isName.2.1 35 = .ok (.iload_n 1, 1) := by decide +kernel
theorem d_Mo_isName_36 : decode mm_Mo_isName.2.1 36 = .ok (.invokestatic 195, 3) := by decide +kernel
theorem d_Mo_isName_39 : decode mm_Mo_isName.2.1 39 = .ok (.ifCond .eq 33, 3) := by decide +kernel
theorem d_Mo_isName_42 : decode mm_Mo_isName.2.1 42 = .ok (.iload_n 2, 1) := by decide +kernel
theorem d_Mo_isName_43 : decode mm_Mo_isName.2.1 43 = .ok (.ifCond .ne 7, 3) := by decide +kernel
theorem d_Mo_isName_46 : decode mm_Mo_isName.2.1 46 = .ok (.iload_n 3, 1) := by decide +kernel
theorem d_Mo_isName_47 : decode mm_Mo_isName.2.1 47 = .ok (.ifCond .eq 21, 3) := by decide +kernel
theorem d_Mo_isName_50 : decode mm_Mo_isName.2.1 50 = .ok (.iload_n 2, 1) := by decide +kernel
theorem d_Mo_isName_51 : decode mm_Mo_isName.2.1 51 = .ok (.invokestatic 195, 3) := by decide +kernel
theorem d_Mo_isName_54 : decode mm_Mo_isName.2.1 54 = .ok (.ifCond .eq 18, 3) := by decide +kernel
theorem d_Mo_isName_57 : decode mm_Mo_isName.2.1 57 = .ok (.iload_n 3, 1) := by decide +kernel
theorem d_Mo_isName_58 : decode mm_Mo_isName.2.1 58 = .ok (.ifCond .eq 10, 3) := by decide +kernel
theorem d_Mo_isName_61 : decode mm_Mo_isName.2.1 61 = .ok (.iload_n 3, 1) := by decide +kernel
theorem d_Mo_isName_62 : decode mm_Mo_isName.2.1 62 = .ok (.invokestatic 195, 3) := by decide +kernel
theorem d_Mo_isName_65 : decode mm_Mo_isName.2.1 65 = .ok (.ifCond .eq 7, 3) := by decide +kernel
theorem d_Mo_isName_68 : decode mm_Mo_isName.2.1 68 = .ok (.iconst 1, 1) := by decide +kernel
theorem d_Mo_isName_69 : decode mm_Mo_isName.2.1 69 = .ok (.goto 4, 3) := by decide +kernel
theorem d_Mo_isName_72 : decode mm_Mo_isName.2.1 72 = .ok (.iconst 0, 1) := by decide +kernel
theorem d_Mo_isName_73 : decode mm_Mo_isName.2.1 73 = .ok (.ireturn, 1) := by decide +kernel
def wp_Mo_isName_50   (K : Int32 → MzM → Prop) (y2 : Int32) (y3 : Int32) (M : MzM) : Prop := wp_Mo_isLetter  y2 M (fun v13 M10 => ((v13 = 0 → K (0 : Int32) M10) ∧ (¬ v13 = 0 → ((y3 = 0 → K (1 : Int32) M10) ∧ (¬ y3 = 0 → wp_Mo_isLetter  y3 M10 (fun v17 M14 => ((v17 = 0 → K (0 : Int32) M14) ∧ (¬ v17 = 0 → K (1 : Int32) M14))))))))
def wp_Mo_isName  (a0 : Int32) (M : MzM) (K : Int32 → MzM → Prop) : Prop := ((a0 ≤ 0 → K (0 : Int32) M) ∧ (¬ a0 ≤ 0 → ((a0 < (2097152 : Int32) → wp_Mo_isLetter  (a0 - a0 / (128 : Int32) * (128 : Int32)) M (fun v4 M1 => ((v4 = 0 → K (0 : Int32) M1) ∧ (¬ v4 = 0 → ((¬ ((a0 / (128 : Int32)) - (a0 / (128 : Int32)) / (128 : Int32) * (128 : Int32)) = 0 → wp_Mo_isName_50   K ((a0 / (128 : Int32)) - (a0 / (128 : Int32)) / (128 : Int32) * (128 : Int32)) (a0 / (16384 : Int32)) M1) ∧ (((a0 / (128 : Int32)) - (a0 / (128 : Int32)) / (128 : Int32) * (128 : Int32)) = 0 → (((a0 / (16384 : Int32)) = 0 → K (1 : Int32) M1) ∧ (¬ (a0 / (16384 : Int32)) = 0 → wp_Mo_isName_50   K ((a0 / (128 : Int32)) - (a0 / (128 : Int32)) / (128 : Int32) * (128 : Int32)) (a0 / (16384 : Int32)) M1)))))))) ∧ (¬ a0 < (2097152 : Int32) → K (0 : Int32) M))))
theorem tm_Mo_isName_50 {G : MzG} {B : MzB} {d : Nat} {K : Int32 → MzM → Prop} (hF : mzLive true B)     (y2 : Int32) (y3 : Int32) (M : MzM) (hL : mzLnk true M) (h : wp_Mo_isName_50   K y2 y3 M) : MzS G B (d + 1) mm_Mo_isName M (0, 0) (mzK1 true B K) 50 [(2, .int y2), (3, .int y3)] [] := by
  unfold wp_Mo_isName_50 at h
  exact (mz_iload_n d_Mo_isName_50 rfl (mz_callS (As := [.int y2]) (st := []) 0 0 d_Mo_isName_51 cs_Mo_isLetter wl_Mo_195 ws_Mo_isLetter (Nat.le_of_ble_eq_true rfl) (Nat.zero_le _) (Nat.zero_le _) (MzC.mono (tm_Mo_isLetter (d := d) hF  hL h) (fun r9 B9 M10 hq12 => by obtain ⟨rfl, hL11, v13, rfl, hq12⟩ := hq12; exact ⟨_, rfl, (mz_if_eq 72 d_Mo_isName_54 rfl (fun hc20 => (mz_iconst (0 : Int32) d_Mo_isName_72 (by decide) (mz_iret .boolean d_Mo_isName_73 rfl rfl ⟨rfl, hL11, _, rfl, (hq12.1 hc20)⟩))) (fun hc20 => (mz_iload_n d_Mo_isName_57 rfl (mz_if_eq 68 d_Mo_isName_58 rfl (fun hc19 => (mz_iconst (1 : Int32) d_Mo_isName_68 (by decide) (mz_goto 73 d_Mo_isName_69 rfl (mz_iret .boolean d_Mo_isName_73 rfl rfl ⟨rfl, hL11, _, rfl, ((hq12.2 hc20).1 hc19)⟩)))) (fun hc19 => (mz_iload_n d_Mo_isName_61 rfl (mz_callS (As := [.int y3]) (st := []) 0 0 d_Mo_isName_62 cs_Mo_isLetter wl_Mo_195 ws_Mo_isLetter (Nat.le_of_ble_eq_true rfl) (Nat.zero_le _) (Nat.zero_le _) (MzC.mono (tm_Mo_isLetter (d := d) hF  hL11 ((hq12.2 hc20).2 hc19)) (fun r9 B9 M14 hq16 => by obtain ⟨rfl, hL15, v17, rfl, hq16⟩ := hq16; exact ⟨_, rfl, (mz_if_eq 72 d_Mo_isName_65 rfl (fun hc18 => (mz_iconst (0 : Int32) d_Mo_isName_72 (by decide) (mz_iret .boolean d_Mo_isName_73 rfl rfl ⟨rfl, hL15, _, rfl, (hq16.1 hc18)⟩))) (fun hc18 => (mz_iconst (1 : Int32) d_Mo_isName_68 (by decide) (mz_goto 73 d_Mo_isName_69 rfl (mz_iret .boolean d_Mo_isName_73 rfl rfl ⟨rfl, hL15, _, rfl, (hq16.2 hc18)⟩)))))⟩)))))))))⟩))))
theorem tm_Mo_isName {G : MzG} {B : MzB} {d : Nat} {K : Int32 → MzM → Prop} (hF : mzLive true B)   {a0 : Int32} {M : MzM} (hL : mzLnk true M) (h : wp_Mo_isName  a0 M K) : MzC G B (d + 1) mm_Mo_isName [.int a0] M (0, 0) (mzK1 true B K) := by
  unfold wp_Mo_isName at h
  exact MzC.of rfl (Nat.le_of_ble_eq_true rfl) (show MzS G B (d + 1) mm_Mo_isName M (0, 0) (mzK1 true B K) 0 [(0, .int a0)] [] from (mz_iload_n d_Mo_isName_0 rfl (mz_if_le 11 d_Mo_isName_1 rfl (fun hc9 => (mz_iconst (0 : Int32) d_Mo_isName_11 (by decide) (mz_iret .boolean d_Mo_isName_12 rfl rfl ⟨rfl, hL, _, rfl, (h.1 hc9)⟩))) (fun hc9 => (mz_iload_n d_Mo_isName_4 rfl (mz_ldcw (v := (2097152 : Int32)) d_Mo_isName_5 wk_Mo_335 (mz_icmp_lt 13 d_Mo_isName_8 rfl (fun hc8 => (mz_iload_n d_Mo_isName_13 rfl (mz_sipush (128 : Int32) d_Mo_isName_14 (by decide) (mz_irem d_Mo_isName_17 (by decide) (mz_istore_n d_Mo_isName_18 (by decide) (mz_iload_n d_Mo_isName_19 rfl (mz_sipush (128 : Int32) d_Mo_isName_20 (by decide) (mz_idiv d_Mo_isName_23 (by decide) (mz_sipush (128 : Int32) d_Mo_isName_24 (by decide) (mz_irem d_Mo_isName_27 (by decide) (mz_istore_n d_Mo_isName_28 (by decide) (mz_iload_n d_Mo_isName_29 rfl (mz_sipush (16384 : Int32) d_Mo_isName_30 (by decide) (mz_idiv d_Mo_isName_33 (by decide) (mz_istore_n d_Mo_isName_34 (by decide) (mz_iload_n d_Mo_isName_35 rfl (mz_callS (As := [.int (a0 - a0 / (128 : Int32) * (128 : Int32))]) (st := []) 0 0 d_Mo_isName_36 cs_Mo_isLetter wl_Mo_195 ws_Mo_isLetter (Nat.le_of_ble_eq_true rfl) (Nat.zero_le _) (Nat.zero_le _) (MzC.mono (tm_Mo_isLetter (d := d) hF  hL ((h.2 hc9).1 hc8)) (fun r9 B9 M1 hq3 => by obtain ⟨rfl, hL2, v4, rfl, hq3⟩ := hq3; exact ⟨_, rfl, (mz_if_eq 72 d_Mo_isName_39 rfl (fun hc7 => (mz_iconst (0 : Int32) d_Mo_isName_72 (by decide) (mz_iret .boolean d_Mo_isName_73 rfl rfl ⟨rfl, hL2, _, rfl, (hq3.1 hc7)⟩))) (fun hc7 => (mz_iload_n d_Mo_isName_42 rfl (mz_if_ne 50 d_Mo_isName_43 rfl (fun hc6 => (MzS.loc [(2, .int ((a0 / (128 : Int32)) - (a0 / (128 : Int32)) / (128 : Int32) * (128 : Int32))), (3, .int (a0 / (16384 : Int32)))] ⟨rfl, rfl, trivial⟩ (tm_Mo_isName_50 hF   ((a0 / (128 : Int32)) - (a0 / (128 : Int32)) / (128 : Int32) * (128 : Int32)) (a0 / (16384 : Int32)) M1 hL2 ((hq3.2 hc7).1 hc6)))) (fun hc6 => (mz_iload_n d_Mo_isName_46 rfl (mz_if_eq 68 d_Mo_isName_47 rfl (fun hc5 => (mz_iconst (1 : Int32) d_Mo_isName_68 (by decide) (mz_goto 73 d_Mo_isName_69 rfl (mz_iret .boolean d_Mo_isName_73 rfl rfl ⟨rfl, hL2, _, rfl, (((hq3.2 hc7).2 hc6).1 hc5)⟩)))) (fun hc5 => (MzS.loc [(2, .int ((a0 / (128 : Int32)) - (a0 / (128 : Int32)) / (128 : Int32) * (128 : Int32))), (3, .int (a0 / (16384 : Int32)))] ⟨rfl, rfl, trivial⟩ (tm_Mo_isName_50 hF   ((a0 / (128 : Int32)) - (a0 / (128 : Int32)) / (128 : Int32) * (128 : Int32)) (a0 / (16384 : Int32)) M1 hL2 (((hq3.2 hc7).2 hc6).2 hc5)))))))))))⟩))))))))))))))))))) (fun hc8 => (mz_iconst (0 : Int32) d_Mo_isName_11 (by decide) (mz_iret .boolean d_Mo_isName_12 rfl rfl ⟨rfl, hL, _, rfl, ((h.2 hc9).2 hc8)⟩))))))))))
def mm_Mo_job : MzT := (⟨"ParcelLineModel", "job", "(ZIII)V"⟩, prog_14_method_74_code, 5, (Option.none : Option Jvm.ClassFile.FieldType))
theorem cs_Mo_job {mm : MzT} : mzCall mm mm_Mo_job 4 := ⟨wn_Mo, wco_Mo_job, by decide +kernel, by decide⟩
theorem d_Mo_job_0 : decode mm_Mo_job.2.1 0 = .ok (.aload_n 0, 1) := by decide +kernel
theorem d_Mo_job_1 : decode mm_Mo_job.2.1 1 = .ok (.iconst 0, 1) := by decide +kernel
theorem d_Mo_job_2 : decode mm_Mo_job.2.1 2 = .ok (.putfield 126, 3) := by decide +kernel
theorem d_Mo_job_5 : decode mm_Mo_job.2.1 5 = .ok (.iload_n 2, 1) := by decide +kernel
theorem d_Mo_job_6 : decode mm_Mo_job.2.1 6 = .ok (.ifCond .lt 34, 3) := by decide +kernel
theorem d_Mo_job_9 : decode mm_Mo_job.2.1 9 = .ok (.iload_n 2, 1) := by decide +kernel
theorem d_Mo_job_10 : decode mm_Mo_job.2.1 10 = .ok (.iconst 2, 1) := by decide +kernel
theorem d_Mo_job_11 : decode mm_Mo_job.2.1 11 = .ok (.if_icmp .gt 29, 3) := by decide +kernel
theorem d_Mo_job_14 : decode mm_Mo_job.2.1 14 = .ok (.iload_n 3, 1) := by decide +kernel
theorem d_Mo_job_15 : decode mm_Mo_job.2.1 15 = .ok (.invokestatic 336, 3) := by decide +kernel
theorem d_Mo_job_18 : decode mm_Mo_job.2.1 18 = .ok (.ifCond .eq 22, 3) := by decide +kernel
theorem d_Mo_job_21 : decode mm_Mo_job.2.1 21 = .ok (.iload_n 3, 1) := by decide +kernel
theorem d_Mo_job_22 : decode mm_Mo_job.2.1 22 = .ok (.ldc_w 339, 3) := by decide +kernel
theorem d_Mo_job_25 : decode mm_Mo_job.2.1 25 = .ok (.if_icmp .eq 15, 3) := by decide +kernel
theorem d_Mo_job_28 : decode mm_Mo_job.2.1 28 = .ok (.iload 4, 2) := by decide +kernel
theorem d_Mo_job_30 : decode mm_Mo_job.2.1 30 = .ok (.ifCond .lt 10, 3) := by decide +kernel
theorem d_Mo_job_33 : decode mm_Mo_job.2.1 33 = .ok (.iload 4, 2) := by decide +kernel
theorem d_Mo_job_35 : decode mm_Mo_job.2.1 35 = .ok (.bipush 9, 2) := by decide +kernel
theorem d_Mo_job_37 : decode mm_Mo_job.2.1 37 = .ok (.if_icmp .le 11, 3) := by decide +kernel
theorem d_Mo_job_40 : decode mm_Mo_job.2.1 40 = .ok (.aload_n 0, 1) := by decide +kernel
theorem d_Mo_job_41 : decode mm_Mo_job.2.1 41 = .ok (.iconst 1, 1) := by decide +kernel
theorem d_Mo_job_42 : decode mm_Mo_job.2.1 42 = .ok (.putfield 126, 3) := by decide +kernel
theorem d_Mo_job_45 : decode mm_Mo_job.2.1 45 = .ok (.goto 15, 3) := by decide +kernel
theorem d_Mo_job_48 : decode mm_Mo_job.2.1 48 = .ok (.aload_n 0, 1) := by decide +kernel
theorem d_Mo_job_49 : decode mm_Mo_job.2.1 49 = .ok (.getfield 319, 3) := by decide +kernel
theorem d_Mo_job_52 : decode mm_Mo_job.2.1 52 = .ok (.ifCond .eq 8, 3) := by decide +kernel
theorem d_Mo_job_55 : decode mm_Mo_job.2.1 55 = .ok (.aload_n 0, 1) := by decide +kernel
theorem d_Mo_job_56 : decode mm_Mo_job.2.1 56 = .ok (.iconst 2, 1) := by decide +kernel
theorem d_Mo_job_57 : decode mm_Mo_job.2.1 57 = .ok (.putfield 126, 3) := by decide +kernel
theorem d_Mo_job_60 : decode mm_Mo_job.2.1 60 = .ok (.aload_n 0, 1) := by decide +kernel
theorem d_Mo_job_61 : decode mm_Mo_job.2.1 61 = .ok (.getfield 126, 3) := by decide +kernel
theorem d_Mo_job_64 : decode mm_Mo_job.2.1 64 = .ok (.ifCond .eq 4, 3) := by decide +kernel
theorem d_Mo_job_67 : decode mm_Mo_job.2.1 67 = .ok (.return_, 1) := by decide +kernel
theorem d_Mo_job_68 : decode mm_Mo_job.2.1 68 = .ok (.aload_n 0, 1) := by decide +kernel
theorem d_Mo_job_69 : decode mm_Mo_job.2.1 69 = .ok (.iconst 1, 1) := by decide +kernel
theorem d_Mo_job_70 : decode mm_Mo_job.2.1 70 = .ok (.putfield 319, 3) := by decide +kernel
theorem d_Mo_job_73 : decode mm_Mo_job.2.1 73 = .ok (.aload_n 0, 1) := by decide +kernel
theorem d_Mo_job_74 : decode mm_Mo_job.2.1 74 = .ok (.iload_n 1, 1) := by decide +kernel
theorem d_Mo_job_75 : decode mm_Mo_job.2.1 75 = .ok (.putfield 340, 3) := by decide +kernel
theorem d_Mo_job_78 : decode mm_Mo_job.2.1 78 = .ok (.aload_n 0, 1) := by decide +kernel
theorem d_Mo_job_79 : decode mm_Mo_job.2.1 79 = .ok (.iload_n 2, 1) := by decide +kernel
theorem d_Mo_job_80 : decode mm_Mo_job.2.1 80 = .ok (.putfield 343, 3) := by decide +kernel
theorem d_Mo_job_83 : decode mm_Mo_job.2.1 83 = .ok (.aload_n 0, 1) := by decide +kernel
theorem d_Mo_job_84 : decode mm_Mo_job.2.1 84 = .ok (.iload_n 3, 1) := by decide +kernel
theorem d_Mo_job_85 : decode mm_Mo_job.2.1 85 = .ok (.putfield 346, 3) := by decide +kernel
theorem d_Mo_job_88 : decode mm_Mo_job.2.1 88 = .ok (.aload_n 0, 1) := by decide +kernel
theorem d_Mo_job_89 : decode mm_Mo_job.2.1 89 = .ok (.iload 4, 2) := by decide +kernel
theorem d_Mo_job_91 : decode mm_Mo_job.2.1 91 = .ok (.putfield 323, 3) := by decide +kernel
theorem d_Mo_job_94 : decode mm_Mo_job.2.1 94 = .ok (.aload_n 0, 1) := by decide +kernel
theorem d_Mo_job_95 : decode mm_Mo_job.2.1 95 = .ok (.iconst 0, 1) := by decide +kernel
theorem d_Mo_job_96 : decode mm_Mo_job.2.1 96 = .ok (.putfield 326, 3) := by decide +kernel
theorem d_Mo_job_99 : decode mm_Mo_job.2.1 99 = .ok (.aload_n 0, 1) := by decide +kernel
theorem d_Mo_job_100 : decode mm_Mo_job.2.1 100 = .ok (.iconst 1, 1) := by decide +kernel
theorem d_Mo_job_101 : decode mm_Mo_job.2.1 101 = .ok (.invokevirtual 329, 3) := by decide +kernel
theorem d_Mo_job_104 : decode mm_Mo_job.2.1 104 = .ok (.return_, 1) := by decide +kernel
def wp_Mo_job_60   (K : MzM → Prop) (y1 : Int32) (y2 : Int32) (y3 : Int32) (y4 : Int32) (M : MzM) : Prop := (((mz_i M (30, 0) 1) = 0 → (∀ M15 : MzM, M15 = mz_si M (30, 0) 38 (1 : Int32) → ((y1 = 0 ∨ y1 = 1) ∧ ∀ M16 : MzM, M16 = mz_si M15 (30, 0) 39 y1 → (∀ M17 : MzM, M17 = mz_si M16 (30, 0) 40 y2 → (∀ M18 : MzM, M18 = mz_si M17 (30, 0) 41 y3 → (∀ M19 : MzM, M19 = mz_si M18 (30, 0) 42 y4 → (∀ M20 : MzM, M20 = mz_si M19 (30, 0) 43 (0 : Int32) → wp_Mo_cutSession  (1 : Int32) M20 (fun M21 => K M21)))))))) ∧ (¬ (mz_i M (30, 0) 1) = 0 → K M))
def wp_Mo_job_40   (K : MzM → Prop) (y1 : Int32) (y2 : Int32) (y3 : Int32) (y4 : Int32) (M : MzM) : Prop := (∀ M14 : MzM, M14 = mz_si M (30, 0) 1 (1 : Int32) → wp_Mo_job_60   K y1 y2 y3 y4 M14)
def wp_Mo_job  (a1 : Int32) (a2 : Int32) (a3 : Int32) (a4 : Int32) (M : MzM) (K : MzM → Prop) : Prop := (∀ M1 : MzM, M1 = mz_si M (30, 0) 1 (0 : Int32) → ((a2 < 0 → wp_Mo_job_40   K a1 a2 a3 a4 M1) ∧ (¬ a2 < 0 → (((2 : Int32) < a2 → wp_Mo_job_40   K a1 a2 a3 a4 M1) ∧ (¬ (2 : Int32) < a2 → wp_Mo_isName  a3 M1 (fun v5 M2 => ((v5 = 0 → wp_Mo_job_40   K a1 a2 a3 a4 M2) ∧ (¬ v5 = 0 → ((a3 = (1849076 : Int32) → wp_Mo_job_40   K a1 a2 a3 a4 M2) ∧ (¬ a3 = (1849076 : Int32) → ((a4 < 0 → wp_Mo_job_40   K a1 a2 a3 a4 M2) ∧ (¬ a4 < 0 → ((a4 ≤ (9 : Int32) → (((mz_i M2 (30, 0) 38) = 0 → wp_Mo_job_60   K a1 a2 a3 a4 M2) ∧ (¬ (mz_i M2 (30, 0) 38) = 0 → (∀ M6 : MzM, M6 = mz_si M2 (30, 0) 1 (2 : Int32) → wp_Mo_job_60   K a1 a2 a3 a4 M6)))) ∧ (¬ a4 ≤ (9 : Int32) → wp_Mo_job_40   K a1 a2 a3 a4 M2))))))))))))))
theorem tm_Mo_job_60 {G : MzG} {B : MzB} {d : Nat} {K : MzM → Prop} (hF : mzLive true B)     (y1 : Int32) (y2 : Int32) (y3 : Int32) (y4 : Int32) (M : MzM) (hL : mzLnk true M) (h : wp_Mo_job_60   K y1 y2 y3 y4 M) : MzS G B (d + 4) mm_Mo_job M (0, 0) (mzK0 true B K) 60 [(0, .ref (mz_ad B (30, 0))), (1, .int y1), (2, .int y2), (3, .int y3), (4, .int y4)] [] := by
  unfold wp_Mo_job_60 at h
  exact (mz_aload_n d_Mo_job_60 rfl (mz_getI (k := 1) cl_10 d_Mo_job_61 (by decide) wf_Mo_126 rfl (hF 30 0 rfl (by decide)) rfl (mz_if_eq 68 d_Mo_job_64 rfl (fun hc24 => (mz_aload_n d_Mo_job_68 rfl (mz_iconst (1 : Int32) d_Mo_job_69 (by decide) (mz_putI (k := 38) cl_10 d_Mo_job_70 (by decide) wf_Mo_319 rfl rfl rfl rfl (hF 30 0 rfl (by decide)) rfl (let M15 : MzM := mz_si M (30, 0) 38 (1 : Int32); (mz_aload_n d_Mo_job_73 rfl (mz_iload_n d_Mo_job_74 rfl (mz_putI (k := 39) cl_10 d_Mo_job_75 (by decide) wf_Mo_340 rfl rfl (mz_bo ((h.1 hc24) M15 rfl).1).1 (mz_bo ((h.1 hc24) M15 rfl).1).2 (hF 30 0 rfl (by decide)) rfl (let M16 : MzM := mz_si M15 (30, 0) 39 y1; (mz_aload_n d_Mo_job_78 rfl (mz_iload_n d_Mo_job_79 rfl (mz_putI (k := 40) cl_10 d_Mo_job_80 (by decide) wf_Mo_343 rfl rfl rfl rfl (hF 30 0 rfl (by decide)) rfl (let M17 : MzM := mz_si M16 (30, 0) 40 y2; (mz_aload_n d_Mo_job_83 rfl (mz_iload_n d_Mo_job_84 rfl (mz_putI (k := 41) cl_10 d_Mo_job_85 (by decide) wf_Mo_346 rfl rfl rfl rfl (hF 30 0 rfl (by decide)) rfl (let M18 : MzM := mz_si M17 (30, 0) 41 y3; (mz_aload_n d_Mo_job_88 rfl (mz_iload d_Mo_job_89 rfl (mz_putI (k := 42) cl_10 d_Mo_job_91 (by decide) wf_Mo_323 rfl rfl rfl rfl (hF 30 0 rfl (by decide)) rfl (let M19 : MzM := mz_si M18 (30, 0) 42 y4; (mz_aload_n d_Mo_job_94 rfl (mz_iconst (0 : Int32) d_Mo_job_95 (by decide) (mz_putI (k := 43) cl_10 d_Mo_job_96 (by decide) wf_Mo_326 rfl rfl rfl rfl (hF 30 0 rfl (by decide)) rfl (let M20 : MzM := mz_si M19 (30, 0) 43 (0 : Int32); (mz_aload_n d_Mo_job_99 rfl (mz_iconst (1 : Int32) d_Mo_job_100 (by decide) (mz_callV (As := [.int (1 : Int32)]) (st := []) (hF 30 0 rfl (by decide)) rfl (mzClOf cl_10) 0 0 d_Mo_job_101 cs_Mo_cutSession wl_Mo_329 wi_Mo_cutSession wse_Mo_cutSession (Nat.le_of_ble_eq_true rfl) (Nat.zero_le _) (Nat.zero_le _) (MzC.mono (tm_Mo_cutSession (d := d) hF  hL (((((((h.1 hc24) M15 rfl).2 M16 rfl) M17 rfl) M18 rfl) M19 rfl) M20 rfl)) (fun r9 B9 M21 hq23 => by obtain ⟨rfl, hL22, rfl, hq23⟩ := hq23; exact ⟨none, rfl, (mz_vret d_Mo_job_104 rfl ⟨rfl, hL22, rfl, hq23⟩)⟩)))))))))))))))))))))))))))))) (fun hc24 => (mz_vret d_Mo_job_67 rfl ⟨rfl, hL, rfl, (h.2 hc24)⟩)))))
theorem tm_Mo_job_40 {G : MzG} {B : MzB} {d : Nat} {K : MzM → Prop} (hF : mzLive true B)     (y1 : Int32) (y2 : Int32) (y3 : Int32) (y4 : Int32) (M : MzM) (hL : mzLnk true M) (h : wp_Mo_job_40   K y1 y2 y3 y4 M) : MzS G B (d + 4) mm_Mo_job M (0, 0) (mzK0 true B K) 40 [(0, .ref (mz_ad B (30, 0))), (1, .int y1), (2, .int y2), (3, .int y3), (4, .int y4)] [] := by
  unfold wp_Mo_job_40 at h
  exact (mz_aload_n d_Mo_job_40 rfl (mz_iconst (1 : Int32) d_Mo_job_41 (by decide) (mz_putI (k := 1) cl_10 d_Mo_job_42 (by decide) wf_Mo_126 rfl rfl rfl rfl (hF 30 0 rfl (by decide)) rfl (let M14 : MzM := mz_si M (30, 0) 1 (1 : Int32); (mz_goto 60 d_Mo_job_45 rfl (MzS.loc [(0, .ref (mz_ad B (30, 0))), (1, .int y1), (2, .int y2), (3, .int y3), (4, .int y4)] ⟨rfl, rfl, rfl, rfl, rfl, trivial⟩ (tm_Mo_job_60 hF   y1 y2 y3 y4 M14 hL (h M14 rfl))))))))
theorem tm_Mo_job {G : MzG} {B : MzB} {d : Nat} {K : MzM → Prop} (hF : mzLive true B)   {a1 : Int32} {a2 : Int32} {a3 : Int32} {a4 : Int32} {M : MzM} (hL : mzLnk true M) (h : wp_Mo_job  a1 a2 a3 a4 M K) : MzC G B (d + 4) mm_Mo_job [.ref (mz_ad B (30, 0)), .int a1, .int a2, .int a3, .int a4] M (0, 0) (mzK0 true B K) := by
  unfold wp_Mo_job at h
  exact MzC.of rfl (Nat.le_of_ble_eq_true rfl) (show MzS G B (d + 4) mm_Mo_job M (0, 0) (mzK0 true B K) 0 [(0, .ref (mz_ad B (30, 0))), (1, .int a1), (2, .int a2), (3, .int a3), (4, .int a4)] [] from (mz_aload_n d_Mo_job_0 rfl (mz_iconst (0 : Int32) d_Mo_job_1 (by decide) (mz_putI (k := 1) cl_10 d_Mo_job_2 (by decide) wf_Mo_126 rfl rfl rfl rfl (hF 30 0 rfl (by decide)) rfl (let M1 : MzM := mz_si M (30, 0) 1 (0 : Int32); (mz_iload_n d_Mo_job_5 rfl (mz_if_lt 40 d_Mo_job_6 rfl (fun hc13 => (MzS.loc [(0, .ref (mz_ad B (30, 0))), (1, .int a1), (2, .int a2), (3, .int a3), (4, .int a4)] ⟨rfl, rfl, rfl, rfl, rfl, trivial⟩ (tm_Mo_job_40 hF   a1 a2 a3 a4 M1 hL ((h M1 rfl).1 hc13)))) (fun hc13 => (mz_iload_n d_Mo_job_9 rfl (mz_iconst (2 : Int32) d_Mo_job_10 (by decide) (mz_icmp_gt 40 d_Mo_job_11 rfl (fun hc12 => (MzS.loc [(0, .ref (mz_ad B (30, 0))), (1, .int a1), (2, .int a2), (3, .int a3), (4, .int a4)] ⟨rfl, rfl, rfl, rfl, rfl, trivial⟩ (tm_Mo_job_40 hF   a1 a2 a3 a4 M1 hL (((h M1 rfl).2 hc13).1 hc12)))) (fun hc12 => (mz_iload_n d_Mo_job_14 rfl (mz_callS (As := [.int a3]) (st := []) 0 0 d_Mo_job_15 cs_Mo_isName wl_Mo_336 ws_Mo_isName (Nat.le_of_ble_eq_true rfl) (Nat.zero_le _) (Nat.zero_le _) (MzC.mono (tm_Mo_isName (d := (d + 2)) hF  hL (((h M1 rfl).2 hc13).2 hc12)) (fun r9 B9 M2 hq4 => by obtain ⟨rfl, hL3, v5, rfl, hq4⟩ := hq4; exact ⟨_, rfl, (mz_if_eq 40 d_Mo_job_18 rfl (fun hc11 => (MzS.loc [(0, .ref (mz_ad B (30, 0))), (1, .int a1), (2, .int a2), (3, .int a3), (4, .int a4)] ⟨rfl, rfl, rfl, rfl, rfl, trivial⟩ (tm_Mo_job_40 hF   a1 a2 a3 a4 M2 hL3 (hq4.1 hc11)))) (fun hc11 => (mz_iload_n d_Mo_job_21 rfl (mz_ldcw (v := (1849076 : Int32)) d_Mo_job_22 wk_Mo_339 (mz_icmp_eq 40 d_Mo_job_25 rfl (fun hc10 => (MzS.loc [(0, .ref (mz_ad B (30, 0))), (1, .int a1), (2, .int a2), (3, .int a3), (4, .int a4)] ⟨rfl, rfl, rfl, rfl, rfl, trivial⟩ (tm_Mo_job_40 hF   a1 a2 a3 a4 M2 hL3 ((hq4.2 hc11).1 hc10)))) (fun hc10 => (mz_iload d_Mo_job_28 rfl (mz_if_lt 40 d_Mo_job_30 rfl (fun hc9 => (MzS.loc [(0, .ref (mz_ad B (30, 0))), (1, .int a1), (2, .int a2), (3, .int a3), (4, .int a4)] ⟨rfl, rfl, rfl, rfl, rfl, trivial⟩ (tm_Mo_job_40 hF   a1 a2 a3 a4 M2 hL3 (((hq4.2 hc11).2 hc10).1 hc9)))) (fun hc9 => (mz_iload d_Mo_job_33 rfl (mz_bipush (9 : Int32) d_Mo_job_35 (by decide) (mz_icmp_le 48 d_Mo_job_37 rfl (fun hc8 => (mz_aload_n d_Mo_job_48 rfl (mz_getI (k := 38) cl_10 d_Mo_job_49 (by decide) wf_Mo_319 rfl (hF 30 0 rfl (by decide)) rfl (mz_if_eq 60 d_Mo_job_52 rfl (fun hc7 => (MzS.loc [(0, .ref (mz_ad B (30, 0))), (1, .int a1), (2, .int a2), (3, .int a3), (4, .int a4)] ⟨rfl, rfl, rfl, rfl, rfl, trivial⟩ (tm_Mo_job_60 hF   a1 a2 a3 a4 M2 hL3 (((((hq4.2 hc11).2 hc10).2 hc9).1 hc8).1 hc7)))) (fun hc7 => (mz_aload_n d_Mo_job_55 rfl (mz_iconst (2 : Int32) d_Mo_job_56 (by decide) (mz_putI (k := 1) cl_10 d_Mo_job_57 (by decide) wf_Mo_126 rfl rfl rfl rfl (hF 30 0 rfl (by decide)) rfl (let M6 : MzM := mz_si M2 (30, 0) 1 (2 : Int32); (MzS.loc [(0, .ref (mz_ad B (30, 0))), (1, .int a1), (2, .int a2), (3, .int a3), (4, .int a4)] ⟨rfl, rfl, rfl, rfl, rfl, trivial⟩ (tm_Mo_job_60 hF   a1 a2 a3 a4 M6 hL3 ((((((hq4.2 hc11).2 hc10).2 hc9).1 hc8).2 hc7) M6 rfl)))))))))))) (fun hc8 => (MzS.loc [(0, .ref (mz_ad B (30, 0))), (1, .int a1), (2, .int a2), (3, .int a3), (4, .int a4)] ⟨rfl, rfl, rfl, rfl, rfl, trivial⟩ (tm_Mo_job_40 hF   a1 a2 a3 a4 M2 hL3 ((((hq4.2 hc11).2 hc10).2 hc9).2 hc8))))))))))))))))⟩))))))))))))))))
