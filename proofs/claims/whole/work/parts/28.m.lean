def mm_Mo_written : MzT := (⟨"ParcelLineModel", "written", "(I)Z"⟩, prog_14_method_40_code, 2, (Option.some Jvm.ClassFile.FieldType.boolean))
theorem cs_Mo_written {mm : MzT} : mzCall mm mm_Mo_written 1 := ⟨wn_Mo, wco_Mo_written, by decide +kernel, by decide⟩
theorem d_Mo_written_0 : decode mm_Mo_written.2.1 0 = .ok (.aload_n 0, 1) := by decide +kernel
theorem d_Mo_written_1 : decode mm_Mo_written.2.1 1 = .ok (.getfield 98, 3) := by decide +kernel
theorem d_Mo_written_4 : decode mm_Mo_written.2.1 4 = .ok (.iconst 0, 1) := by decide +kernel
theorem d_Mo_written_5 : decode mm_Mo_written.2.1 5 = .ok (.iaload, 1) := by decide +kernel
theorem d_Mo_written_6 : decode mm_Mo_written.2.1 6 = .ok (.iconst 2, 1) := by decide +kernel
theorem d_Mo_written_7 : decode mm_Mo_written.2.1 7 = .ok (.if_icmp .ne 13, 3) := by decide +kernel
theorem d_Mo_written_10 : decode mm_Mo_written.2.1 10 = .ok (.aload_n 0, 1) := by decide +kernel
theorem d_Mo_written_11 : decode mm_Mo_written.2.1 11 = .ok (.getfield 101, 3) := by decide +kernel
theorem d_Mo_written_14 : decode mm_Mo_written.2.1 14 = .ok (.iconst 0, 1) := by decide +kernel
theorem d_Mo_written_15 : decode mm_Mo_written.2.1 15 = .ok (.iaload, 1) := by decide +kernel
theorem d_Mo_written_16 : decode mm_Mo_written.2.1 16 = .ok (.iload_n 1, 1) := by decide +kernel
theorem d_Mo_written_17 : decode mm_Mo_written.2.1 17 = .ok (.if_icmp .eq 23, 3) := by decide +kernel
theorem d_Mo_written_20 : decode mm_Mo_written.2.1 20 = .ok (.aload_n 0, 1) := by decide +kernel
theorem d_Mo_written_21 : decode mm_Mo_written.2.1 21 = .ok (.getfield 98, 3) := by decide +kernel
theorem d_Mo_written_24 : decode mm_Mo_written.2.1 24 = .ok (.iconst 1, 1) := by decide +kernel
theorem d_Mo_written_25 : decode mm_Mo_written.2.1 25 = .ok (.iaload, 1) := by decide +kernel
theorem d_Mo_written_26 : decode mm_Mo_written.2.1 26 = .ok (.iconst 2, 1) := by decide +kernel
theorem d_Mo_written_27 : decode mm_Mo_written.2.1 27 = .ok (.if_icmp .ne 17, 3) := by decide +kernel
theorem d_Mo_written_30 : decode mm_Mo_written.2.1 30 = .ok (.aload_n 0, 1) := by decide +kernel
theorem d_Mo_written_31 : decode mm_Mo_written.2.1 31 = .ok (.getfield 101, 3) := by decide +kernel
theorem d_Mo_written_34 : decode mm_Mo_written.2.1 34 = .ok (.iconst 1, 1) := by decide +kernel
theorem d_Mo_written_35 : decode mm_Mo_written.2.1 35 = .ok (.iaload, 1) := by decide +kernel
theorem d_Mo_written_36 : decode mm_Mo_written.2.1 36 = .ok (.iload_n 1, 1) := by decide +kernel
theorem d_Mo_written_37 : decode mm_Mo_written.2.1 37 = .ok (.if_icmp .ne 7, 3) := by decide +kernel
theorem d_Mo_written_40 : decode mm_Mo_written.2.1 40 = .ok (.iconst 1, 1) := by decide +kernel
theorem d_Mo_written_41 : decode mm_Mo_written.2.1 41 = .ok (.goto 4, 3) := by decide +kernel
theorem d_Mo_written_44 : decode mm_Mo_written.2.1 44 = .ok (.iconst 0, 1) := by decide +kernel
theorem d_Mo_written_45 : decode mm_Mo_written.2.1 45 = .ok (.ireturn, 1) := by decide +kernel
def wp_Mo_written_20   (K : Int32 → MzM → Prop) (y1 : Int32) (M : MzM) : Prop := ((¬ (mz_i M (53, 0) 1) = (2 : Int32) → K (0 : Int32) M) ∧ ((mz_i M (53, 0) 1) = (2 : Int32) → ((¬ (mz_i M (54, 0) 1) = y1 → K (0 : Int32) M) ∧ ((mz_i M (54, 0) 1) = y1 → K (1 : Int32) M))))
def wp_Mo_written  (a1 : Int32) (M : MzM) (K : Int32 → MzM → Prop) : Prop := ((¬ (mz_i M (53, 0) 0) = (2 : Int32) → wp_Mo_written_20   K a1 M) ∧ ((mz_i M (53, 0) 0) = (2 : Int32) → (((mz_i M (54, 0) 0) = a1 → K (1 : Int32) M) ∧ (¬ (mz_i M (54, 0) 0) = a1 → wp_Mo_written_20   K a1 M))))
theorem tm_Mo_written_20 {G : MzG} {B : MzB} {d : Nat} {K : Int32 → MzM → Prop} (hF : mzLive B)     (y1 : Int32) (M : MzM) (hL : mzLnk M) (h : wp_Mo_written_20   K y1 M) : MzS G B d mm_Mo_written M (0, 0) (mzK1 B K) 20 [(0, .ref (mz_ad B (30, 0))), (1, .int y1)] [] := by
  unfold wp_Mo_written_20 at h
  exact (mz_aload_n d_Mo_written_20 rfl (mz_getR (k := 23) (a := (53, 0)) cl_10 d_Mo_written_21 (by decide) wf_Mo_98 rfl (hF 30 0 (by decide)) rfl (hL (30, 0) 23 (53, 0) rfl (by decide)) (mz_iconst (1 : Int32) d_Mo_written_24 (by decide) (mz_iald 1 d_Mo_written_25 (hF 53 0 (by decide)) rfl (by decide) (by decide) (mz_iconst (2 : Int32) d_Mo_written_26 (by decide) (mz_icmp_ne 44 d_Mo_written_27 rfl (fun hc4 => (mz_iconst (0 : Int32) d_Mo_written_44 (by decide) (mz_iret .boolean d_Mo_written_45 rfl rfl ⟨rfl, hL, _, rfl, (h.1 hc4)⟩))) (fun hc4 => (mz_aload_n d_Mo_written_30 rfl (mz_getR (k := 24) (a := (54, 0)) cl_10 d_Mo_written_31 (by decide) wf_Mo_101 rfl (hF 30 0 (by decide)) rfl (hL (30, 0) 24 (54, 0) rfl (by decide)) (mz_iconst (1 : Int32) d_Mo_written_34 (by decide) (mz_iald 1 d_Mo_written_35 (hF 54 0 (by decide)) rfl (by decide) (by decide) (mz_iload_n d_Mo_written_36 rfl (mz_icmp_ne 44 d_Mo_written_37 rfl (fun hc3 => (mz_iconst (0 : Int32) d_Mo_written_44 (by decide) (mz_iret .boolean d_Mo_written_45 rfl rfl ⟨rfl, hL, _, rfl, ((h.2 hc4).1 hc3)⟩))) (fun hc3 => (mz_iconst (1 : Int32) d_Mo_written_40 (by decide) (mz_goto 45 d_Mo_written_41 rfl (mz_iret .boolean d_Mo_written_45 rfl rfl ⟨rfl, hL, _, rfl, ((h.2 hc4).2 hc3)⟩)))))))))))))))))
theorem tm_Mo_written {G : MzG} {B : MzB} {d : Nat} {K : Int32 → MzM → Prop} (hF : mzLive B)   {a1 : Int32} {M : MzM} (hL : mzLnk M) (h : wp_Mo_written  a1 M K) : MzC G B d mm_Mo_written [.ref (mz_ad B (30, 0)), .int a1] M (0, 0) (mzK1 B K) := by
  unfold wp_Mo_written at h
  exact MzC.of rfl (Nat.le_of_ble_eq_true rfl) (show MzS G B d mm_Mo_written M (0, 0) (mzK1 B K) 0 [(0, .ref (mz_ad B (30, 0))), (1, .int a1)] [] from (mz_aload_n d_Mo_written_0 rfl (mz_getR (k := 23) (a := (53, 0)) cl_10 d_Mo_written_1 (by decide) wf_Mo_98 rfl (hF 30 0 (by decide)) rfl (hL (30, 0) 23 (53, 0) rfl (by decide)) (mz_iconst (0 : Int32) d_Mo_written_4 (by decide) (mz_iald 0 d_Mo_written_5 (hF 53 0 (by decide)) rfl (by decide) (by decide) (mz_iconst (2 : Int32) d_Mo_written_6 (by decide) (mz_icmp_ne 20 d_Mo_written_7 rfl (fun hc2 => (MzS.loc [(0, .ref (mz_ad B (30, 0))), (1, .int a1)] ⟨rfl, rfl, trivial⟩ (tm_Mo_written_20 hF   a1 M hL (h.1 hc2)))) (fun hc2 => (mz_aload_n d_Mo_written_10 rfl (mz_getR (k := 24) (a := (54, 0)) cl_10 d_Mo_written_11 (by decide) wf_Mo_101 rfl (hF 30 0 (by decide)) rfl (hL (30, 0) 24 (54, 0) rfl (by decide)) (mz_iconst (0 : Int32) d_Mo_written_14 (by decide) (mz_iald 0 d_Mo_written_15 (hF 54 0 (by decide)) rfl (by decide) (by decide) (mz_iload_n d_Mo_written_16 rfl (mz_icmp_eq 40 d_Mo_written_17 rfl (fun hc1 => (mz_iconst (1 : Int32) d_Mo_written_40 (by decide) (mz_goto 45 d_Mo_written_41 rfl (mz_iret .boolean d_Mo_written_45 rfl rfl ⟨rfl, hL, _, rfl, ((h.2 hc2).1 hc1)⟩)))) (fun hc1 => (MzS.loc [(0, .ref (mz_ad B (30, 0))), (1, .int a1)] ⟨rfl, rfl, trivial⟩ (tm_Mo_written_20 hF   a1 M hL ((h.2 hc2).2 hc1))))))))))))))))))
def mm_Mo_addOut : MzT := (⟨"ParcelLineModel", "addOut", "(I)V"⟩, prog_14_method_49_code, 2, (Option.none : Option Jvm.ClassFile.FieldType))
theorem cs_Mo_addOut {mm : MzT} : mzCall mm mm_Mo_addOut 1 := ⟨wn_Mo, wco_Mo_addOut, by decide +kernel, by decide⟩
theorem d_Mo_addOut_0 : decode mm_Mo_addOut.2.1 0 = .ok (.aload_n 0, 1) := by decide +kernel
theorem d_Mo_addOut_1 : decode mm_Mo_addOut.2.1 1 = .ok (.getfield 113, 3) := by decide +kernel
theorem d_Mo_addOut_4 : decode mm_Mo_addOut.2.1 4 = .ok (.bipush 96, 2) := by decide +kernel
theorem d_Mo_addOut_6 : decode mm_Mo_addOut.2.1 6 = .ok (.aload_n 0, 1) := by decide +kernel
theorem d_Mo_addOut_7 : decode mm_Mo_addOut.2.1 7 = .ok (.getfield 137, 3) := by decide +kernel
theorem d_Mo_addOut_10 : decode mm_Mo_addOut.2.1 10 = .ok (.imul, 1) := by decide +kernel
theorem d_Mo_addOut_11 : decode mm_Mo_addOut.2.1 11 = .ok (.aload_n 0, 1) := by decide +kernel
theorem d_Mo_addOut_12 : decode mm_Mo_addOut.2.1 12 = .ok (.getfield 107, 3) := by decide +kernel
theorem d_Mo_addOut_15 : decode mm_Mo_addOut.2.1 15 = .ok (.aload_n 0, 1) := by decide +kernel
theorem d_Mo_addOut_16 : decode mm_Mo_addOut.2.1 16 = .ok (.getfield 137, 3) := by decide +kernel
theorem d_Mo_addOut_19 : decode mm_Mo_addOut.2.1 19 = .ok (.iaload, 1) := by decide +kernel
theorem d_Mo_addOut_20 : decode mm_Mo_addOut.2.1 20 = .ok (.iadd, 1) := by decide +kernel
theorem d_Mo_addOut_21 : decode mm_Mo_addOut.2.1 21 = .ok (.iload_n 1, 1) := by decide +kernel
theorem d_Mo_addOut_22 : decode mm_Mo_addOut.2.1 22 = .ok (.iastore, 1) := by decide +kernel
theorem d_Mo_addOut_23 : decode mm_Mo_addOut.2.1 23 = .ok (.aload_n 0, 1) := by decide +kernel
theorem d_Mo_addOut_24 : decode mm_Mo_addOut.2.1 24 = .ok (.getfield 107, 3) := by decide +kernel
theorem d_Mo_addOut_27 : decode mm_Mo_addOut.2.1 27 = .ok (.aload_n 0, 1) := by decide +kernel
theorem d_Mo_addOut_28 : decode mm_Mo_addOut.2.1 28 = .ok (.getfield 137, 3) := by decide +kernel
theorem d_Mo_addOut_31 : decode mm_Mo_addOut.2.1 31 = .ok (.dup2, 1) := by decide +kernel
theorem d_Mo_addOut_32 : decode mm_Mo_addOut.2.1 32 = .ok (.iaload, 1) := by decide +kernel
theorem d_Mo_addOut_33 : decode mm_Mo_addOut.2.1 33 = .ok (.iconst 1, 1) := by decide +kernel
theorem d_Mo_addOut_34 : decode mm_Mo_addOut.2.1 34 = .ok (.iadd, 1) := by decide +kernel
theorem d_Mo_addOut_35 : decode mm_Mo_addOut.2.1 35 = .ok (.iastore, 1) := by decide +kernel
theorem d_Mo_addOut_36 : decode mm_Mo_addOut.2.1 36 = .ok (.return_, 1) := by decide +kernel
def wp_Mo_addOut  (a1 : Int32) (M : MzM) (K : MzM → Prop) : Prop := (∃ j1 : Nat, (mz_i M (30, 0) 29).toInt = (j1 : Int) ∧ j1 < 2 ∧ (∃ j8 : Nat, (((96 : Int32) * (mz_i M (30, 0) 29)) + (mz_i M (56, 0) j1)).toInt = (j8 : Int) ∧ j8 < 192 ∧ ∀ M5 : MzM, M5 = mz_si M (58, 0) j8 a1 → (∃ j11 : Nat, (mz_i M5 (30, 0) 29).toInt = (j11 : Int) ∧ j11 < 2 ∧ (∃ j18 : Nat, (mz_i M5 (30, 0) 29).toInt = (j18 : Int) ∧ j18 < 2 ∧ ∀ M15 : MzM, M15 = mz_si M5 (56, 0) j18 ((mz_i M5 (56, 0) j11) + (1 : Int32)) → K M15))))
theorem tm_Mo_addOut {G : MzG} {B : MzB} {d : Nat} {K : MzM → Prop} (hF : mzLive B)   {a1 : Int32} {M : MzM} (hL : mzLnk M) (h : wp_Mo_addOut  a1 M K) : MzC G B d mm_Mo_addOut [.ref (mz_ad B (30, 0)), .int a1] M (0, 0) (mzK0 B K) := by
  unfold wp_Mo_addOut at h
  exact MzC.of rfl (Nat.le_of_ble_eq_true rfl) (show MzS G B d mm_Mo_addOut M (0, 0) (mzK0 B K) 0 [(0, .ref (mz_ad B (30, 0))), (1, .int a1)] [] from (mz_aload_n d_Mo_addOut_0 rfl (mz_getR (k := 28) (a := (58, 0)) cl_10 d_Mo_addOut_1 (by decide) wf_Mo_113 rfl (hF 30 0 (by decide)) rfl (hL (30, 0) 28 (58, 0) rfl (by decide)) (mz_bipush (96 : Int32) d_Mo_addOut_4 (by decide) (mz_aload_n d_Mo_addOut_6 rfl (mz_getI (k := 29) cl_10 d_Mo_addOut_7 (by decide) wf_Mo_137 rfl (hF 30 0 (by decide)) rfl (mz_imul d_Mo_addOut_10 (mz_aload_n d_Mo_addOut_11 rfl (mz_getR (k := 26) (a := (56, 0)) cl_10 d_Mo_addOut_12 (by decide) wf_Mo_107 rfl (hF 30 0 (by decide)) rfl (hL (30, 0) 26 (56, 0) rfl (by decide)) (mz_aload_n d_Mo_addOut_15 rfl (mz_getI (k := 29) cl_10 d_Mo_addOut_16 (by decide) wf_Mo_137 rfl (hF 30 0 (by decide)) rfl (match h with | ⟨j1, h2, h3, h4⟩ => mz_iald j1 d_Mo_addOut_19 (hF 56 0 (by decide)) rfl h2 h3 (mz_iadd d_Mo_addOut_20 (mz_iload_n d_Mo_addOut_21 rfl (match h4 with | ⟨j8, h9, h10, h7⟩ => mz_iast j8 d_Mo_addOut_22 (hF 58 0 (by decide)) rfl h9 h10 (let M5 : MzM := mz_si M (58, 0) j8 a1; (mz_aload_n d_Mo_addOut_23 rfl (mz_getR (k := 26) (a := (56, 0)) cl_10 d_Mo_addOut_24 (by decide) wf_Mo_107 rfl (hF 30 0 (by decide)) rfl (hL (30, 0) 26 (56, 0) rfl (by decide)) (mz_aload_n d_Mo_addOut_27 rfl (mz_getI (k := 29) cl_10 d_Mo_addOut_28 (by decide) wf_Mo_137 rfl (hF 30 0 (by decide)) rfl (mz_dup2 d_Mo_addOut_31 rfl rfl (match (h7 M5 rfl) with | ⟨j11, h12, h13, h14⟩ => mz_iald j11 d_Mo_addOut_32 (hF 56 0 (by decide)) rfl h12 h13 (mz_iconst (1 : Int32) d_Mo_addOut_33 (by decide) (mz_iadd d_Mo_addOut_34 (match h14 with | ⟨j18, h19, h20, h17⟩ => mz_iast j18 d_Mo_addOut_35 (hF 56 0 (by decide)) rfl h19 h20 (let M15 : MzM := mz_si M5 (56, 0) j18 ((mz_i M5 (56, 0) j11) + (1 : Int32)); (mz_vret d_Mo_addOut_36 rfl ⟨rfl, hL, rfl, (h17 M15 rfl)⟩)))))))))))))))))))))))))))
def mm_Mo_finish : MzT := (⟨"ParcelLineModel", "finish", "(I)V"⟩, prog_14_method_54_code, 3, (Option.none : Option Jvm.ClassFile.FieldType))
theorem cs_Mo_finish {mm : MzT} : mzCall mm mm_Mo_finish 1 := ⟨wn_Mo, wco_Mo_finish, by decide +kernel, by decide⟩
theorem d_Mo_finish_0 : decode mm_Mo_finish.2.1 0 = .ok (.aload_n 0, 1) := by decide +kernel
theorem d_Mo_finish_1 : decode mm_Mo_finish.2.1 1 = .ok (.getfield 98, 3) := by decide +kernel
theorem d_Mo_finish_4 : decode mm_Mo_finish.2.1 4 = .ok (.iload_n 1, 1) := by decide +kernel
theorem d_Mo_finish_5 : decode mm_Mo_finish.2.1 5 = .ok (.iaload, 1) := by decide +kernel
theorem d_Mo_finish_6 : decode mm_Mo_finish.2.1 6 = .ok (.iconst 2, 1) := by decide +kernel
theorem d_Mo_finish_7 : decode mm_Mo_finish.2.1 7 = .ok (.if_icmp .ne 12, 3) := by decide +kernel
theorem d_Mo_finish_10 : decode mm_Mo_finish.2.1 10 = .ok (.aload_n 0, 1) := by decide +kernel
theorem d_Mo_finish_11 : decode mm_Mo_finish.2.1 11 = .ok (.getfield 101, 3) := by decide +kernel
theorem d_Mo_finish_14 : decode mm_Mo_finish.2.1 14 = .ok (.iload_n 1, 1) := by decide +kernel
theorem d_Mo_finish_15 : decode mm_Mo_finish.2.1 15 = .ok (.iaload, 1) := by decide +kernel
theorem d_Mo_finish_16 : decode mm_Mo_finish.2.1 16 = .ok (.goto 4, 3) := by decide +kernel
theorem d_Mo_finish_19 : decode mm_Mo_finish.2.1 19 = .ok (.iconst (-1), 1) := by decide +kernel
theorem d_Mo_finish_20 : decode mm_Mo_finish.2.1 20 = .ok (.istore_n 2, 1) := by decide +kernel
theorem d_Mo_finish_21 : decode mm_Mo_finish.2.1 21 = .ok (.aload_n 0, 1) := by decide +kernel
theorem d_Mo_finish_22 : decode mm_Mo_finish.2.1 22 = .ok (.iload_n 1, 1) := by decide +kernel
theorem d_Mo_finish_23 : decode mm_Mo_finish.2.1 23 = .ok (.invokevirtual 130, 3) := by decide +kernel
theorem d_Mo_finish_26 : decode mm_Mo_finish.2.1 26 = .ok (.iload_n 2, 1) := by decide +kernel
theorem d_Mo_finish_27 : decode mm_Mo_finish.2.1 27 = .ok (.ifCond .lt 10, 3) := by decide +kernel
theorem d_Mo_finish_30 : decode mm_Mo_finish.2.1 30 = .ok (.aload_n 0, 1) := by decide +kernel
theorem d_Mo_finish_31 : decode mm_Mo_finish.2.1 31 = .ok (.getfield 50, 3) := by decide +kernel
theorem d_Mo_finish_34 : decode mm_Mo_finish.2.1 34 = .ok (.iload_n 2, 1) := by decide +kernel
theorem d_Mo_finish_35 : decode mm_Mo_finish.2.1 35 = .ok (.iconst 1, 1) := by decide +kernel
theorem d_Mo_finish_36 : decode mm_Mo_finish.2.1 36 = .ok (.bastore, 1) := by decide +kernel
theorem d_Mo_finish_37 : decode mm_Mo_finish.2.1 37 = .ok (.aload_n 0, 1) := by decide +kernel
theorem d_Mo_finish_38 : decode mm_Mo_finish.2.1 38 = .ok (.iload_n 1, 1) := by decide +kernel
theorem d_Mo_finish_39 : decode mm_Mo_finish.2.1 39 = .ok (.putfield 137, 3) := by decide +kernel
theorem d_Mo_finish_42 : decode mm_Mo_finish.2.1 42 = .ok (.aload_n 0, 1) := by decide +kernel
theorem d_Mo_finish_43 : decode mm_Mo_finish.2.1 43 = .ok (.sipush 226, 3) := by decide +kernel
theorem d_Mo_finish_46 : decode mm_Mo_finish.2.1 46 = .ok (.invokevirtual 218, 3) := by decide +kernel
theorem d_Mo_finish_49 : decode mm_Mo_finish.2.1 49 = .ok (.return_, 1) := by decide +kernel
def wp_Mo_finish_20   (K : MzM → Prop) (y1 : Int32) (ys0 : Int32) (M : MzM) : Prop := wp_Mo_endTransfer  y1 M (fun M10 => ((ys0 < 0 → (∀ M13 : MzM, M13 = mz_si M10 (30, 0) 29 y1 → wp_Mo_answer  (226 : Int32) M13 (fun M14 => K M14))) ∧ (¬ ys0 < 0 → (∃ j20 : Nat, ys0.toInt = (j20 : Int) ∧ j20 < 16 ∧ ∀ M17 : MzM, M17 = mz_si M10 (37, 0) j20 (1 : Int32) → (∀ M23 : MzM, M23 = mz_si M17 (30, 0) 29 y1 → wp_Mo_answer  (226 : Int32) M23 (fun M24 => K M24))))))
def wp_Mo_finish  (a1 : Int32) (M : MzM) (K : MzM → Prop) : Prop := (∃ j1 : Nat, a1.toInt = (j1 : Int) ∧ j1 < 2 ∧ ((¬ (mz_i M (53, 0) j1) = (2 : Int32) → wp_Mo_finish_20   K a1 (-1 : Int32) M) ∧ ((mz_i M (53, 0) j1) = (2 : Int32) → (∃ j5 : Nat, a1.toInt = (j5 : Int) ∧ j5 < 2 ∧ wp_Mo_finish_20   K a1 (mz_i M (54, 0) j5) M))))
theorem tm_Mo_finish_20 {G : MzG} {B : MzB} {d : Nat} {K : MzM → Prop} (hF : mzLive B)     (y1 : Int32) (ys0 : Int32) (M : MzM) (hL : mzLnk M) (h : wp_Mo_finish_20   K y1 ys0 M) : MzS G B (d + 3) mm_Mo_finish M (0, 0) (mzK0 B K) 20 [(0, .ref (mz_ad B (30, 0))), (1, .int y1)] [.int ys0] := by
  unfold wp_Mo_finish_20 at h
  exact (mz_istore_n d_Mo_finish_20 (by decide) (mz_aload_n d_Mo_finish_21 rfl (mz_iload_n d_Mo_finish_22 rfl (mz_callV (As := [.int y1]) (st := []) (hF 30 0 (by decide)) rfl (mzClOf cl_10) 0 0 d_Mo_finish_23 cs_Mo_endTransfer wl_Mo_130 wi_Mo_endTransfer wse_Mo_endTransfer (Nat.le_of_ble_eq_true rfl) (Nat.le_refl _) (Nat.le_refl _) (MzC.mono (tm_Mo_endTransfer (d := (d + 1)) hF  hL h) (fun r9 B9 M10 hq12 => by obtain ⟨rfl, hL11, rfl, hq12⟩ := hq12; exact ⟨none, rfl, (mz_iload_n d_Mo_finish_26 rfl (mz_if_lt 37 d_Mo_finish_27 rfl (fun hc27 => (mz_aload_n d_Mo_finish_37 rfl (mz_iload_n d_Mo_finish_38 rfl (mz_putI (k := 29) cl_10 d_Mo_finish_39 (by decide) wf_Mo_137 rfl rfl rfl rfl (hF 30 0 (by decide)) rfl (let M13 : MzM := mz_si M10 (30, 0) 29 y1; (mz_aload_n d_Mo_finish_42 rfl (mz_sipush (226 : Int32) d_Mo_finish_43 (by decide) (mz_callV (As := [.int (226 : Int32)]) (st := []) (hF 30 0 (by decide)) rfl (mzClOf cl_10) 0 0 d_Mo_finish_46 cs_Mo_answer wl_Mo_218 wi_Mo_answer wse_Mo_answer (Nat.le_of_ble_eq_true rfl) (Nat.le_refl _) (Nat.le_refl _) (MzC.mono (tm_Mo_answer (d := d) hF  hL11 ((hq12.1 hc27) M13 rfl)) (fun r9 B9 M14 hq16 => by obtain ⟨rfl, hL15, rfl, hq16⟩ := hq16; exact ⟨none, rfl, (mz_vret d_Mo_finish_49 rfl ⟨rfl, hL15, rfl, hq16⟩)⟩)))))))))) (fun hc27 => (mz_aload_n d_Mo_finish_30 rfl (mz_getR (k := 7) (a := (37, 0)) cl_10 d_Mo_finish_31 (by decide) wf_Mo_50 rfl (hF 30 0 (by decide)) rfl (hL11 (30, 0) 7 (37, 0) rfl (by decide)) (mz_iload_n d_Mo_finish_34 rfl (mz_iconst (1 : Int32) d_Mo_finish_35 (by decide) (match (hq12.2 hc27) with | ⟨j20, h21, h22, h19⟩ => mz_zast j20 d_Mo_finish_36 (hF 37 0 (by decide)) rfl h21 h22 (by decide) (let M17 : MzM := mz_si M10 (37, 0) j20 (1 : Int32); (mz_aload_n d_Mo_finish_37 rfl (mz_iload_n d_Mo_finish_38 rfl (mz_putI (k := 29) cl_10 d_Mo_finish_39 (by decide) wf_Mo_137 rfl rfl rfl rfl (hF 30 0 (by decide)) rfl (let M23 : MzM := mz_si M17 (30, 0) 29 y1; (mz_aload_n d_Mo_finish_42 rfl (mz_sipush (226 : Int32) d_Mo_finish_43 (by decide) (mz_callV (As := [.int (226 : Int32)]) (st := []) (hF 30 0 (by decide)) rfl (mzClOf cl_10) 0 0 d_Mo_finish_46 cs_Mo_answer wl_Mo_218 wi_Mo_answer wse_Mo_answer (Nat.le_of_ble_eq_true rfl) (Nat.le_refl _) (Nat.le_refl _) (MzC.mono (tm_Mo_answer (d := d) hF  hL11 ((h19 M17 rfl) M23 rfl)) (fun r9 B9 M24 hq26 => by obtain ⟨rfl, hL25, rfl, hq26⟩ := hq26; exact ⟨none, rfl, (mz_vret d_Mo_finish_49 rfl ⟨rfl, hL25, rfl, hq26⟩)⟩))))))))))))))))))⟩))))))
theorem tm_Mo_finish {G : MzG} {B : MzB} {d : Nat} {K : MzM → Prop} (hF : mzLive B)   {a1 : Int32} {M : MzM} (hL : mzLnk M) (h : wp_Mo_finish  a1 M K) : MzC G B (d + 3) mm_Mo_finish [.ref (mz_ad B (30, 0)), .int a1] M (0, 0) (mzK0 B K) := by
  unfold wp_Mo_finish at h
  exact MzC.of rfl (Nat.le_of_ble_eq_true rfl) (show MzS G B (d + 3) mm_Mo_finish M (0, 0) (mzK0 B K) 0 [(0, .ref (mz_ad B (30, 0))), (1, .int a1)] [] from (mz_aload_n d_Mo_finish_0 rfl (mz_getR (k := 23) (a := (53, 0)) cl_10 d_Mo_finish_1 (by decide) wf_Mo_98 rfl (hF 30 0 (by decide)) rfl (hL (30, 0) 23 (53, 0) rfl (by decide)) (mz_iload_n d_Mo_finish_4 rfl (match h with | ⟨j1, h2, h3, h4⟩ => mz_iald j1 d_Mo_finish_5 (hF 53 0 (by decide)) rfl h2 h3 (mz_iconst (2 : Int32) d_Mo_finish_6 (by decide) (mz_icmp_ne 19 d_Mo_finish_7 rfl (fun hc9 => (mz_iconst (-1 : Int32) d_Mo_finish_19 (by decide) (MzS.loc [(0, .ref (mz_ad B (30, 0))), (1, .int a1)] ⟨rfl, rfl, trivial⟩ (tm_Mo_finish_20 hF   a1 (-1 : Int32) M hL (h4.1 hc9))))) (fun hc9 => (mz_aload_n d_Mo_finish_10 rfl (mz_getR (k := 24) (a := (54, 0)) cl_10 d_Mo_finish_11 (by decide) wf_Mo_101 rfl (hF 30 0 (by decide)) rfl (hL (30, 0) 24 (54, 0) rfl (by decide)) (mz_iload_n d_Mo_finish_14 rfl (match (h4.2 hc9) with | ⟨j5, h6, h7, h8⟩ => mz_iald j5 d_Mo_finish_15 (hF 54 0 (by decide)) rfl h6 h7 (mz_goto 20 d_Mo_finish_16 rfl (MzS.loc [(0, .ref (mz_ad B (30, 0))), (1, .int a1)] ⟨rfl, rfl, trivial⟩ (tm_Mo_finish_20 hF   a1 (mz_i M (54, 0) j5) M hL h8)))))))))))))))
def mm_Mo_beginSending : MzT := (⟨"ParcelLineModel", "beginSending", "(I)V"⟩, prog_14_method_50_code, 2, (Option.none : Option Jvm.ClassFile.FieldType))
theorem cs_Mo_beginSending {mm : MzT} : mzCall mm mm_Mo_beginSending 1 := ⟨wn_Mo, wco_Mo_beginSending, by decide +kernel, by decide⟩
theorem d_Mo_beginSending_0 : decode mm_Mo_beginSending.2.1 0 = .ok (.aload_n 0, 1) := by decide +kernel
theorem d_Mo_beginSending_1 : decode mm_Mo_beginSending.2.1 1 = .ok (.getfield 98, 3) := by decide +kernel
theorem d_Mo_beginSending_4 : decode mm_Mo_beginSending.2.1 4 = .ok (.aload_n 0, 1) := by decide +kernel
theorem d_Mo_beginSending_5 : decode mm_Mo_beginSending.2.1 5 = .ok (.getfield 137, 3) := by decide +kernel
theorem d_Mo_beginSending_8 : decode mm_Mo_beginSending.2.1 8 = .ok (.iconst 1, 1) := by decide +kernel
theorem d_Mo_beginSending_9 : decode mm_Mo_beginSending.2.1 9 = .ok (.iastore, 1) := by decide +kernel
theorem d_Mo_beginSending_10 : decode mm_Mo_beginSending.2.1 10 = .ok (.aload_n 0, 1) := by decide +kernel
theorem d_Mo_beginSending_11 : decode mm_Mo_beginSending.2.1 11 = .ok (.getfield 101, 3) := by decide +kernel
theorem d_Mo_beginSending_14 : decode mm_Mo_beginSending.2.1 14 = .ok (.aload_n 0, 1) := by decide +kernel
theorem d_Mo_beginSending_15 : decode mm_Mo_beginSending.2.1 15 = .ok (.getfield 137, 3) := by decide +kernel
theorem d_Mo_beginSending_18 : decode mm_Mo_beginSending.2.1 18 = .ok (.iload_n 1, 1) := by decide +kernel
theorem d_Mo_beginSending_19 : decode mm_Mo_beginSending.2.1 19 = .ok (.iastore, 1) := by decide +kernel
theorem d_Mo_beginSending_20 : decode mm_Mo_beginSending.2.1 20 = .ok (.aload_n 0, 1) := by decide +kernel
theorem d_Mo_beginSending_21 : decode mm_Mo_beginSending.2.1 21 = .ok (.getfield 110, 3) := by decide +kernel
theorem d_Mo_beginSending_24 : decode mm_Mo_beginSending.2.1 24 = .ok (.aload_n 0, 1) := by decide +kernel
theorem d_Mo_beginSending_25 : decode mm_Mo_beginSending.2.1 25 = .ok (.getfield 137, 3) := by decide +kernel
theorem d_Mo_beginSending_28 : decode mm_Mo_beginSending.2.1 28 = .ok (.iconst 0, 1) := by decide +kernel
theorem d_Mo_beginSending_29 : decode mm_Mo_beginSending.2.1 29 = .ok (.iastore, 1) := by decide +kernel
theorem d_Mo_beginSending_30 : decode mm_Mo_beginSending.2.1 30 = .ok (.aload_n 0, 1) := by decide +kernel
theorem d_Mo_beginSending_31 : decode mm_Mo_beginSending.2.1 31 = .ok (.sipush 150, 3) := by decide +kernel
theorem d_Mo_beginSending_34 : decode mm_Mo_beginSending.2.1 34 = .ok (.invokevirtual 218, 3) := by decide +kernel
theorem d_Mo_beginSending_37 : decode mm_Mo_beginSending.2.1 37 = .ok (.aload_n 0, 1) := by decide +kernel
theorem d_Mo_beginSending_38 : decode mm_Mo_beginSending.2.1 38 = .ok (.getfield 107, 3) := by decide +kernel
theorem d_Mo_beginSending_41 : decode mm_Mo_beginSending.2.1 41 = .ok (.aload_n 0, 1) := by decide +kernel
theorem d_Mo_beginSending_42 : decode mm_Mo_beginSending.2.1 42 = .ok (.getfield 137, 3) := by decide +kernel
theorem d_Mo_beginSending_45 : decode mm_Mo_beginSending.2.1 45 = .ok (.iaload, 1) := by decide +kernel
theorem d_Mo_beginSending_46 : decode mm_Mo_beginSending.2.1 46 = .ok (.ifCond .ne 11, 3) := by decide +kernel
theorem d_Mo_beginSending_49 : decode mm_Mo_beginSending.2.1 49 = .ok (.aload_n 0, 1) := by decide +kernel
theorem d_Mo_beginSending_50 : decode mm_Mo_beginSending.2.1 50 = .ok (.aload_n 0, 1) := by decide +kernel
theorem d_Mo_beginSending_51 : decode mm_Mo_beginSending.2.1 51 = .ok (.getfield 137, 3) := by decide +kernel
theorem d_Mo_beginSending_54 : decode mm_Mo_beginSending.2.1 54 = .ok (.invokevirtual 292, 3) := by decide +kernel
theorem d_Mo_beginSending_57 : decode mm_Mo_beginSending.2.1 57 = .ok (.return_, 1) := by decide +kernel
def wp_Mo_beginSending  (a1 : Int32) (M : MzM) (K : MzM → Prop) : Prop := (∃ j4 : Nat, (mz_i M (30, 0) 29).toInt = (j4 : Int) ∧ j4 < 2 ∧ ∀ M1 : MzM, M1 = mz_si M (53, 0) j4 (1 : Int32) → (∃ j10 : Nat, (mz_i M1 (30, 0) 29).toInt = (j10 : Int) ∧ j10 < 2 ∧ ∀ M7 : MzM, M7 = mz_si M1 (54, 0) j10 a1 → (∃ j16 : Nat, (mz_i M7 (30, 0) 29).toInt = (j16 : Int) ∧ j16 < 2 ∧ ∀ M13 : MzM, M13 = mz_si M7 (57, 0) j16 (0 : Int32) → wp_Mo_answer  (150 : Int32) M13 (fun M19 => (∃ j22 : Nat, (mz_i M19 (30, 0) 29).toInt = (j22 : Int) ∧ j22 < 2 ∧ ((¬ (mz_i M19 (56, 0) j22) = 0 → K M19) ∧ ((mz_i M19 (56, 0) j22) = 0 → wp_Mo_finish  (mz_i M19 (30, 0) 29) M19 (fun M26 => K M26))))))))
theorem tm_Mo_beginSending {G : MzG} {B : MzB} {d : Nat} {K : MzM → Prop} (hF : mzLive B)   {a1 : Int32} {M : MzM} (hL : mzLnk M) (h : wp_Mo_beginSending  a1 M K) : MzC G B (d + 4) mm_Mo_beginSending [.ref (mz_ad B (30, 0)), .int a1] M (0, 0) (mzK0 B K) := by
  unfold wp_Mo_beginSending at h
  exact MzC.of rfl (Nat.le_of_ble_eq_true rfl) (show MzS G B (d + 4) mm_Mo_beginSending M (0, 0) (mzK0 B K) 0 [(0, .ref (mz_ad B (30, 0))), (1, .int a1)] [] from (mz_aload_n d_Mo_beginSending_0 rfl (mz_getR (k := 23) (a := (53, 0)) cl_10 d_Mo_beginSending_1 (by decide) wf_Mo_98 rfl (hF 30 0 (by decide)) rfl (hL (30, 0) 23 (53, 0) rfl (by decide)) (mz_aload_n d_Mo_beginSending_4 rfl (mz_getI (k := 29) cl_10 d_Mo_beginSending_5 (by decide) wf_Mo_137 rfl (hF 30 0 (by decide)) rfl (mz_iconst (1 : Int32) d_Mo_beginSending_8 (by decide) (match h with | ⟨j4, h5, h6, h3⟩ => mz_iast j4 d_Mo_beginSending_9 (hF 53 0 (by decide)) rfl h5 h6 (let M1 : MzM := mz_si M (53, 0) j4 (1 : Int32); (mz_aload_n d_Mo_beginSending_10 rfl (mz_getR (k := 24) (a := (54, 0)) cl_10 d_Mo_beginSending_11 (by decide) wf_Mo_101 rfl (hF 30 0 (by decide)) rfl (hL (30, 0) 24 (54, 0) rfl (by decide)) (mz_aload_n d_Mo_beginSending_14 rfl (mz_getI (k := 29) cl_10 d_Mo_beginSending_15 (by decide) wf_Mo_137 rfl (hF 30 0 (by decide)) rfl (mz_iload_n d_Mo_beginSending_18 rfl (match (h3 M1 rfl) with | ⟨j10, h11, h12, h9⟩ => mz_iast j10 d_Mo_beginSending_19 (hF 54 0 (by decide)) rfl h11 h12 (let M7 : MzM := mz_si M1 (54, 0) j10 a1; (mz_aload_n d_Mo_beginSending_20 rfl (mz_getR (k := 27) (a := (57, 0)) cl_10 d_Mo_beginSending_21 (by decide) wf_Mo_110 rfl (hF 30 0 (by decide)) rfl (hL (30, 0) 27 (57, 0) rfl (by decide)) (mz_aload_n d_Mo_beginSending_24 rfl (mz_getI (k := 29) cl_10 d_Mo_beginSending_25 (by decide) wf_Mo_137 rfl (hF 30 0 (by decide)) rfl (mz_iconst (0 : Int32) d_Mo_beginSending_28 (by decide) (match (h9 M7 rfl) with | ⟨j16, h17, h18, h15⟩ => mz_iast j16 d_Mo_beginSending_29 (hF 57 0 (by decide)) rfl h17 h18 (let M13 : MzM := mz_si M7 (57, 0) j16 (0 : Int32); (mz_aload_n d_Mo_beginSending_30 rfl (mz_sipush (150 : Int32) d_Mo_beginSending_31 (by decide) (mz_callV (As := [.int (150 : Int32)]) (st := []) (hF 30 0 (by decide)) rfl (mzClOf cl_10) 0 0 d_Mo_beginSending_34 cs_Mo_answer wl_Mo_218 wi_Mo_answer wse_Mo_answer (Nat.le_of_ble_eq_true rfl) (Nat.le_refl _) (Nat.le_refl _) (MzC.mono (tm_Mo_answer (d := (d + 1)) hF  hL (h15 M13 rfl)) (fun r9 B9 M19 hq21 => by obtain ⟨rfl, hL20, rfl, hq21⟩ := hq21; exact ⟨none, rfl, (mz_aload_n d_Mo_beginSending_37 rfl (mz_getR (k := 26) (a := (56, 0)) cl_10 d_Mo_beginSending_38 (by decide) wf_Mo_107 rfl (hF 30 0 (by decide)) rfl (hL20 (30, 0) 26 (56, 0) rfl (by decide)) (mz_aload_n d_Mo_beginSending_41 rfl (mz_getI (k := 29) cl_10 d_Mo_beginSending_42 (by decide) wf_Mo_137 rfl (hF 30 0 (by decide)) rfl (match hq21 with | ⟨j22, h23, h24, h25⟩ => mz_iald j22 d_Mo_beginSending_45 (hF 56 0 (by decide)) rfl h23 h24 (mz_if_ne 57 d_Mo_beginSending_46 rfl (fun hc29 => (mz_vret d_Mo_beginSending_57 rfl ⟨rfl, hL20, rfl, (h25.1 hc29)⟩)) (fun hc29 => (mz_aload_n d_Mo_beginSending_49 rfl (mz_aload_n d_Mo_beginSending_50 rfl (mz_getI (k := 29) cl_10 d_Mo_beginSending_51 (by decide) wf_Mo_137 rfl (hF 30 0 (by decide)) rfl (mz_callV (As := [.int (mz_i M19 (30, 0) 29)]) (st := []) (hF 30 0 (by decide)) rfl (mzClOf cl_10) 0 0 d_Mo_beginSending_54 cs_Mo_finish wl_Mo_292 wi_Mo_finish wse_Mo_finish (Nat.le_of_ble_eq_true rfl) (Nat.le_refl _) (Nat.le_refl _) (MzC.mono (tm_Mo_finish (d := d) hF  hL20 (h25.2 hc29)) (fun r9 B9 M26 hq28 => by obtain ⟨rfl, hL27, rfl, hq28⟩ := hq28; exact ⟨none, rfl, (mz_vret d_Mo_beginSending_57 rfl ⟨rfl, hL27, rfl, hq28⟩)⟩)))))))))))))⟩)))))))))))))))))))))))))))
def mm_Mo_retrieve : MzT := (⟨"ParcelLineModel", "retrieve", "(I)V"⟩, prog_14_method_52_code, 6, (Option.none : Option Jvm.ClassFile.FieldType))
theorem cs_Mo_retrieve {mm : MzT} : mzCall mm mm_Mo_retrieve 1 := ⟨wn_Mo, wco_Mo_retrieve, by decide +kernel, by decide⟩
theorem d_Mo_retrieve_0 : decode mm_Mo_retrieve.2.1 0 = .ok (.aload_n 0, 1) := by decide +kernel
theorem d_Mo_retrieve_1 : decode mm_Mo_retrieve.2.1 1 = .ok (.getfield 249, 3) := by decide +kernel
theorem d_Mo_retrieve_4 : decode mm_Mo_retrieve.2.1 4 = .ok (.ifCond .lt 19, 3) := by decide +kernel
theorem d_Mo_retrieve_7 : decode mm_Mo_retrieve.2.1 7 = .ok (.aload_n 0, 1) := by decide +kernel
theorem d_Mo_retrieve_8 : decode mm_Mo_retrieve.2.1 8 = .ok (.getfield 38, 3) := by decide +kernel
theorem d_Mo_retrieve_11 : decode mm_Mo_retrieve.2.1 11 = .ok (.aload_n 0, 1) := by decide +kernel
theorem d_Mo_retrieve_12 : decode mm_Mo_retrieve.2.1 12 = .ok (.getfield 249, 3) := by decide +kernel
theorem d_Mo_retrieve_15 : decode mm_Mo_retrieve.2.1 15 = .ok (.baload, 1) := by decide +kernel
theorem d_Mo_retrieve_16 : decode mm_Mo_retrieve.2.1 16 = .ok (.ifCond .eq 7, 3) := by decide +kernel
theorem d_Mo_retrieve_19 : decode mm_Mo_retrieve.2.1 19 = .ok (.iconst 1, 1) := by decide +kernel
theorem d_Mo_retrieve_20 : decode mm_Mo_retrieve.2.1 20 = .ok (.goto 4, 3) := by decide +kernel
theorem d_Mo_retrieve_23 : decode mm_Mo_retrieve.2.1 23 = .ok (.iconst 0, 1) := by decide +kernel
theorem d_Mo_retrieve_24 : decode mm_Mo_retrieve.2.1 24 = .ok (.istore_n 2, 1) := by decide +kernel
theorem d_Mo_retrieve_25 : decode mm_Mo_retrieve.2.1 25 = .ok (.iload_n 2, 1) := by decide +kernel
theorem d_Mo_retrieve_26 : decode mm_Mo_retrieve.2.1 26 = .ok (.ifCond .ne 9, 3) := by decide +kernel
theorem d_Mo_retrieve_29 : decode mm_Mo_retrieve.2.1 29 = .ok (.sipush 550, 3) := by decide +kernel
theorem d_Mo_retrieve_32 : decode mm_Mo_retrieve.2.1 32 = .ok (.goto 58, 3) := by decide +kernel
theorem d_Mo_retrieve_35 : decode mm_Mo_retrieve.2.1 35 = .ok (.aload_n 0, 1) := by decide +kernel
theorem d_Mo_retrieve_36 : decode mm_Mo_retrieve.2.1 36 = .ok (.aload_n 0, 1) := by decide +kernel
theorem d_Mo_retrieve_37 : decode mm_Mo_retrieve.2.1 37 = .ok (.getfield 249, 3) := by decide +kernel
theorem d_Mo_retrieve_40 : decode mm_Mo_retrieve.2.1 40 = .ok (.invokevirtual 301, 3) := by decide +kernel
theorem d_Mo_retrieve_43 : decode mm_Mo_retrieve.2.1 43 = .ok (.ifCond .eq 9, 3) := by decide +kernel
theorem d_Mo_retrieve_46 : decode mm_Mo_retrieve.2.1 46 = .ok (.sipush 450, 3) := by decide +kernel
theorem d_Mo_retrieve_49 : decode mm_Mo_retrieve.2.1 49 = .ok (.goto 41, 3) := by decide +kernel
theorem d_Mo_retrieve_52 : decode mm_Mo_retrieve.2.1 52 = .ok (.aload_n 0, 1) := by decide +kernel
theorem d_Mo_retrieve_53 : decode mm_Mo_retrieve.2.1 53 = .ok (.getfield 95, 3) := by decide +kernel
theorem d_Mo_retrieve_56 : decode mm_Mo_retrieve.2.1 56 = .ok (.aload_n 0, 1) := by decide +kernel
theorem d_Mo_retrieve_57 : decode mm_Mo_retrieve.2.1 57 = .ok (.getfield 137, 3) := by decide +kernel
theorem d_Mo_retrieve_60 : decode mm_Mo_retrieve.2.1 60 = .ok (.baload, 1) := by decide +kernel
theorem d_Mo_retrieve_61 : decode mm_Mo_retrieve.2.1 61 = .ok (.ifCond .ne 9, 3) := by decide +kernel
theorem d_Mo_retrieve_64 : decode mm_Mo_retrieve.2.1 64 = .ok (.sipush 425, 3) := by decide +kernel
theorem d_Mo_retrieve_67 : decode mm_Mo_retrieve.2.1 67 = .ok (.goto 23, 3) := by decide +kernel
theorem d_Mo_retrieve_70 : decode mm_Mo_retrieve.2.1 70 = .ok (.iload_n 1, 1) := by decide +kernel
theorem d_Mo_retrieve_71 : decode mm_Mo_retrieve.2.1 71 = .ok (.aload_n 0, 1) := by decide +kernel
theorem d_Mo_retrieve_72 : decode mm_Mo_retrieve.2.1 72 = .ok (.getfield 47, 3) := by decide +kernel
theorem d_Mo_retrieve_75 : decode mm_Mo_retrieve.2.1 75 = .ok (.aload_n 0, 1) := by decide +kernel
theorem d_Mo_retrieve_76 : decode mm_Mo_retrieve.2.1 76 = .ok (.getfield 249, 3) := by decide +kernel
theorem d_Mo_retrieve_79 : decode mm_Mo_retrieve.2.1 79 = .ok (.iaload, 1) := by decide +kernel
theorem d_Mo_retrieve_80 : decode mm_Mo_retrieve.2.1 80 = .ok (.if_icmp .le 9, 3) := by decide +kernel
theorem d_Mo_retrieve_83 : decode mm_Mo_retrieve.2.1 83 = .ok (.sipush 554, 3) := by decide +kernel
theorem d_Mo_retrieve_86 : decode mm_Mo_retrieve.2.1 86 = .ok (.goto 4, 3) := by decide +kernel
theorem d_Mo_retrieve_89 : decode mm_Mo_retrieve.2.1 89 = .ok (.iconst 0, 1) := by decide +kernel
theorem d_Mo_retrieve_90 : decode mm_Mo_retrieve.2.1 90 = .ok (.istore_n 3, 1) := by decide +kernel
theorem d_Mo_retrieve_91 : decode mm_Mo_retrieve.2.1 91 = .ok (.iload_n 3, 1) := by decide +kernel
theorem d_Mo_retrieve_92 : decode mm_Mo_retrieve.2.1 92 = .ok (.ifCond .le 9, 3) := by decide +kernel
theorem d_Mo_retrieve_95 : decode mm_Mo_retrieve.2.1 95 = .ok (.aload_n 0, 1) := by decide +kernel
theorem d_Mo_retrieve_96 : decode mm_Mo_retrieve.2.1 96 = .ok (.iload_n 3, 1) := by decide +kernel
theorem d_Mo_retrieve_97 : decode mm_Mo_retrieve.2.1 97 = .ok (.invokevirtual 218, 3) := by decide +kernel
theorem d_Mo_retrieve_100 : decode mm_Mo_retrieve.2.1 100 = .ok (.return_, 1) := by decide +kernel
theorem d_Mo_retrieve_101 : decode mm_Mo_retrieve.2.1 101 = .ok (.aload_n 0, 1) := by decide +kernel
theorem d_Mo_retrieve_102 : decode mm_Mo_retrieve.2.1 102 = .ok (.getfield 107, 3) := by decide +kernel
theorem d_Mo_retrieve_105 : decode mm_Mo_retrieve.2.1 105 = .ok (.aload_n 0, 1) := by decide +kernel
theorem d_Mo_retrieve_106 : decode mm_Mo_retrieve.2.1 106 = .ok (.getfield 137, 3) := by decide +kernel
theorem d_Mo_retrieve_109 : decode mm_Mo_retrieve.2.1 109 = .ok (.iconst 0, 1) := by decide +kernel
theorem d_Mo_retrieve_110 : decode mm_Mo_retrieve.2.1 110 = .ok (.iastore, 1) := by decide +kernel
theorem d_Mo_retrieve_111 : decode mm_Mo_retrieve.2.1 111 = .ok (.iload_n 1, 1) := by decide +kernel
theorem d_Mo_retrieve_112 : decode mm_Mo_retrieve.2.1 112 = .ok (.istore 4, 2) := by decide +kernel
theorem d_Mo_retrieve_114 : decode mm_Mo_retrieve.2.1 114 = .ok (.iload 4, 2) := by decide +kernel
theorem d_Mo_retrieve_116 : decode mm_Mo_retrieve.2.1 116 = .ok (.aload_n 0, 1) := by decide +kernel
theorem d_Mo_retrieve_117 : decode mm_Mo_retrieve.2.1 117 = .ok (.getfield 47, 3) := by decide +kernel
theorem d_Mo_retrieve_120 : decode mm_Mo_retrieve.2.1 120 = .ok (.aload_n 0, 1) := by decide +kernel
theorem d_Mo_retrieve_121 : decode mm_Mo_retrieve.2.1 121 = .ok (.getfield 249, 3) := by decide +kernel
theorem d_Mo_retrieve_124 : decode mm_Mo_retrieve.2.1 124 = .ok (.iaload, 1) := by decide +kernel
theorem d_Mo_retrieve_125 : decode mm_Mo_retrieve.2.1 125 = .ok (.if_icmp .ge 57, 3) := by decide +kernel
theorem d_Mo_retrieve_128 : decode mm_Mo_retrieve.2.1 128 = .ok (.aload_n 0, 1) := by decide +kernel
theorem d_Mo_retrieve_129 : decode mm_Mo_retrieve.2.1 129 = .ok (.getfield 53, 3) := by decide +kernel
theorem d_Mo_retrieve_132 : decode mm_Mo_retrieve.2.1 132 = .ok (.bipush 24, 2) := by decide +kernel
theorem d_Mo_retrieve_134 : decode mm_Mo_retrieve.2.1 134 = .ok (.aload_n 0, 1) := by decide +kernel
theorem d_Mo_retrieve_135 : decode mm_Mo_retrieve.2.1 135 = .ok (.getfield 249, 3) := by decide +kernel
theorem d_Mo_retrieve_138 : decode mm_Mo_retrieve.2.1 138 = .ok (.imul, 1) := by decide +kernel
theorem d_Mo_retrieve_139 : decode mm_Mo_retrieve.2.1 139 = .ok (.iload 4, 2) := by decide +kernel
theorem d_Mo_retrieve_141 : decode mm_Mo_retrieve.2.1 141 = .ok (.iadd, 1) := by decide +kernel
theorem d_Mo_retrieve_142 : decode mm_Mo_retrieve.2.1 142 = .ok (.iaload, 1) := by decide +kernel
theorem d_Mo_retrieve_143 : decode mm_Mo_retrieve.2.1 143 = .ok (.istore 5, 2) := by decide +kernel
theorem d_Mo_retrieve_145 : decode mm_Mo_retrieve.2.1 145 = .ok (.iload 5, 2) := by decide +kernel
theorem d_Mo_retrieve_147 : decode mm_Mo_retrieve.2.1 147 = .ok (.bipush 10, 2) := by decide +kernel
theorem d_Mo_retrieve_149 : decode mm_Mo_retrieve.2.1 149 = .ok (.if_icmp .ne 21, 3) := by decide +kernel
theorem d_Mo_retrieve_152 : decode mm_Mo_retrieve.2.1 152 = .ok (.aload_n 0, 1) := by decide +kernel
theorem d_Mo_retrieve_153 : decode mm_Mo_retrieve.2.1 153 = .ok (.getfield 92, 3) := by decide +kernel
theorem d_Mo_retrieve_156 : decode mm_Mo_retrieve.2.1 156 = .ok (.aload_n 0, 1) := by decide +kernel
theorem d_Mo_retrieve_157 : decode mm_Mo_retrieve.2.1 157 = .ok (.getfield 137, 3) := by decide +kernel
theorem d_Mo_retrieve_160 : decode mm_Mo_retrieve.2.1 160 = .ok (.baload, 1) := by decide +kernel
theorem d_Mo_retrieve_161 : decode mm_Mo_retrieve.2.1 161 = .ok (.ifCond .eq 9, 3) := by decide +kernel
theorem d_Mo_retrieve_164 : decode mm_Mo_retrieve.2.1 164 = .ok (.aload_n 0, 1) := by decide +kernel
theorem d_Mo_retrieve_165 : decode mm_Mo_retrieve.2.1 165 = .ok (.bipush 13, 2) := by decide +kernel
theorem d_Mo_retrieve_167 : decode mm_Mo_retrieve.2.1 167 = .ok (.invokevirtual 295, 3) := by decide +kernel
theorem d_Mo_retrieve_170 : decode mm_Mo_retrieve.2.1 170 = .ok (.aload_n 0, 1) := by decide +kernel
theorem d_Mo_retrieve_171 : decode mm_Mo_retrieve.2.1 171 = .ok (.iload 5, 2) := by decide +kernel
theorem d_Mo_retrieve_173 : decode mm_Mo_retrieve.2.1 173 = .ok (.invokevirtual 295, 3) := by decide +kernel
theorem d_Mo_retrieve_176 : decode mm_Mo_retrieve.2.1 176 = .ok (.iinc 4 1, 3) := by decide +kernel
theorem d_Mo_retrieve_179 : decode mm_Mo_retrieve.2.1 179 = .ok (.goto (-65), 3) := by decide +kernel
theorem d_Mo_retrieve_182 : decode mm_Mo_retrieve.2.1 182 = .ok (.aload_n 0, 1) := by decide +kernel
theorem d_Mo_retrieve_183 : decode mm_Mo_retrieve.2.1 183 = .ok (.aload_n 0, 1) := by decide +kernel
theorem d_Mo_retrieve_184 : decode mm_Mo_retrieve.2.1 184 = .ok (.getfield 249, 3) := by decide +kernel
theorem d_Mo_retrieve_187 : decode mm_Mo_retrieve.2.1 187 = .ok (.invokevirtual 298, 3) := by decide +kernel
theorem d_Mo_retrieve_190 : decode mm_Mo_retrieve.2.1 190 = .ok (.return_, 1) := by decide +kernel
def wp_Mo_retrieve_170  (H114 : Int32 → MzM → Prop) (K : MzM → Prop) (y4 : Int32) (y5 : Int32) (M : MzM) : Prop := wp_Mo_addOut  y5 M (fun M56 => H114 (y4 + (1 : Int32)) M56)
def wp_Mo_retrieve_114   (K : MzM → Prop) : Nat → Int32 → MzM → Prop
  | 0, _, _ => False
  | r0 + 1, y4, M => (∃ j35 : Nat, (mz_i M (30, 0) 33).toInt = (j35 : Int) ∧ j35 < 16 ∧ (((mz_i M (36, 0) j35) ≤ y4 → wp_Mo_beginSending  (mz_i M (30, 0) 33) M (fun M39 => K M39)) ∧ (¬ (mz_i M (36, 0) j35) ≤ y4 → (∃ j42 : Nat, (((24 : Int32) * (mz_i M (30, 0) 33)) + y4).toInt = (j42 : Int) ∧ j42 < 384 ∧ ((¬ (mz_i M (38, 0) j42) = (10 : Int32) → wp_Mo_retrieve_170  (wp_Mo_retrieve_114   K r0) K y4 (mz_i M (38, 0) j42) M) ∧ ((mz_i M (38, 0) j42) = (10 : Int32) → (∃ j46 : Nat, (mz_i M (30, 0) 29).toInt = (j46 : Int) ∧ j46 < 2 ∧ (((mz_i M (51, 0) j46) = 0 → wp_Mo_retrieve_170  (wp_Mo_retrieve_114   K r0) K y4 (mz_i M (38, 0) j42) M) ∧ (¬ (mz_i M (51, 0) j46) = 0 → wp_Mo_addOut  (13 : Int32) M (fun M50 => wp_Mo_retrieve_170  (wp_Mo_retrieve_114   K r0) K y4 (mz_i M (38, 0) j42) M50))))))))))
def wp_Mo_retrieve_90   (K : MzM → Prop) (y1 : Int32) (ys0 : Int32) (M : MzM) : Prop := ((ys0 ≤ 0 → (∃ j26 : Nat, (mz_i M (30, 0) 29).toInt = (j26 : Int) ∧ j26 < 2 ∧ ∀ M23 : MzM, M23 = mz_si M (56, 0) j26 (0 : Int32) → (∃ r29 : Nat, wp_Mo_retrieve_114   K r29 y1 M23))) ∧ (¬ ys0 ≤ 0 → wp_Mo_answer  ys0 M (fun M31 => K M31)))
def wp_Mo_retrieve_24   (K : MzM → Prop) (y1 : Int32) (ys0 : Int32) (M : MzM) : Prop := ((¬ ys0 = 0 → wp_Mo_written  (mz_i M (30, 0) 33) M (fun v10 M7 => ((v10 = 0 → (∃ j11 : Nat, (mz_i M7 (30, 0) 29).toInt = (j11 : Int) ∧ j11 < 2 ∧ ((¬ (mz_i M7 (52, 0) j11) = 0 → (∃ j15 : Nat, (mz_i M7 (30, 0) 33).toInt = (j15 : Int) ∧ j15 < 16 ∧ ((y1 ≤ (mz_i M7 (36, 0) j15) → wp_Mo_retrieve_90   K y1 (0 : Int32) M7) ∧ (¬ y1 ≤ (mz_i M7 (36, 0) j15) → wp_Mo_retrieve_90   K y1 (554 : Int32) M7)))) ∧ ((mz_i M7 (52, 0) j11) = 0 → wp_Mo_retrieve_90   K y1 (425 : Int32) M7)))) ∧ (¬ v10 = 0 → wp_Mo_retrieve_90   K y1 (450 : Int32) M7)))) ∧ (ys0 = 0 → wp_Mo_retrieve_90   K y1 (550 : Int32) M))
def wp_Mo_retrieve_23   (K : MzM → Prop) (y1 : Int32) (M : MzM) : Prop := wp_Mo_retrieve_24   K y1 (0 : Int32) M
def wp_Mo_retrieve  (a1 : Int32) (M : MzM) (K : MzM → Prop) : Prop := (((mz_i M (30, 0) 33) < 0 → wp_Mo_retrieve_23   K a1 M) ∧ (¬ (mz_i M (30, 0) 33) < 0 → (∃ j1 : Nat, (mz_i M (30, 0) 33).toInt = (j1 : Int) ∧ j1 < 16 ∧ (((mz_i M (33, 0) j1) = 0 → wp_Mo_retrieve_23   K a1 M) ∧ (¬ (mz_i M (33, 0) j1) = 0 → wp_Mo_retrieve_24   K a1 (1 : Int32) M)))))
theorem tm_Mo_retrieve_170 {G : MzG} {B : MzB} {d : Nat} {K : MzM → Prop} (hF : mzLive B)   {H114 : Int32 → MzM → Prop} (hH114 : ∀ (y4 : Int32) (M : MzM), mzLnk M → H114 y4 M → MzS G B (d + 5) mm_Mo_retrieve M (0, 0) (mzK0 B K) 114 [(0, .ref (mz_ad B (30, 0))), (4, .int y4)] []) (y4 : Int32) (y5 : Int32) (M : MzM) (hL : mzLnk M) (h : wp_Mo_retrieve_170  H114 K y4 y5 M) : MzS G B (d + 5) mm_Mo_retrieve M (0, 0) (mzK0 B K) 170 [(0, .ref (mz_ad B (30, 0))), (4, .int y4), (5, .int y5)] [] := by
  unfold wp_Mo_retrieve_170 at h
  exact (mz_aload_n d_Mo_retrieve_170 rfl (mz_iload d_Mo_retrieve_171 rfl (mz_callV (As := [.int y5]) (st := []) (hF 30 0 (by decide)) rfl (mzClOf cl_10) 0 0 d_Mo_retrieve_173 cs_Mo_addOut wl_Mo_295 wi_Mo_addOut wse_Mo_addOut (Nat.le_of_ble_eq_true rfl) (Nat.le_refl _) (Nat.le_refl _) (MzC.mono (tm_Mo_addOut (d := (d + 4)) hF  hL h) (fun r9 B9 M56 hq58 => by obtain ⟨rfl, hL57, rfl, hq58⟩ := hq58; exact ⟨none, rfl, (mz_iinc (y4 + (1 : Int32)) d_Mo_retrieve_176 rfl (by decide) rfl (mz_goto 114 d_Mo_retrieve_179 rfl (MzS.loc [(0, .ref (mz_ad B (30, 0))), (4, .int (y4 + (1 : Int32)))] ⟨rfl, rfl, trivial⟩ (hH114 (y4 + (1 : Int32)) M56 hL57 hq58))))⟩)))))
theorem tm_Mo_retrieve_114 {G : MzG} {B : MzB} {d : Nat} {K : MzM → Prop} (hF : mzLive B)     : ∀ (r0 : Nat) (y4 : Int32) (M : MzM), mzLnk M → wp_Mo_retrieve_114   K r0 y4 M → MzS G B (d + 5) mm_Mo_retrieve M (0, 0) (mzK0 B K) 114 [(0, .ref (mz_ad B (30, 0))), (4, .int y4)] [] := by
  intro r0
  induction r0 with
  | zero => intro y4 M hL h; exact False.elim h
  | succ r0 hH114 =>
    intro y4 M hL h
    unfold wp_Mo_retrieve_114 at h
    exact (mz_iload d_Mo_retrieve_114 rfl (mz_aload_n d_Mo_retrieve_116 rfl (mz_getR (k := 6) (a := (36, 0)) cl_10 d_Mo_retrieve_117 (by decide) wf_Mo_47 rfl (hF 30 0 (by decide)) rfl (hL (30, 0) 6 (36, 0) rfl (by decide)) (mz_aload_n d_Mo_retrieve_120 rfl (mz_getI (k := 33) cl_10 d_Mo_retrieve_121 (by decide) wf_Mo_249 rfl (hF 30 0 (by decide)) rfl (match h with | ⟨j35, h36, h37, h38⟩ => mz_iald j35 d_Mo_retrieve_124 (hF 36 0 (by decide)) rfl h36 h37 (mz_icmp_ge 182 d_Mo_retrieve_125 rfl (fun hc55 => (mz_aload_n d_Mo_retrieve_182 rfl (mz_aload_n d_Mo_retrieve_183 rfl (mz_getI (k := 33) cl_10 d_Mo_retrieve_184 (by decide) wf_Mo_249 rfl (hF 30 0 (by decide)) rfl (mz_callV (As := [.int (mz_i M (30, 0) 33)]) (st := []) (hF 30 0 (by decide)) rfl (mzClOf cl_10) 0 0 d_Mo_retrieve_187 cs_Mo_beginSending wl_Mo_298 wi_Mo_beginSending wse_Mo_beginSending (Nat.le_of_ble_eq_true rfl) (Nat.le_refl _) (Nat.le_refl _) (MzC.mono (tm_Mo_beginSending (d := d) hF  hL (h38.1 hc55)) (fun r9 B9 M39 hq41 => by obtain ⟨rfl, hL40, rfl, hq41⟩ := hq41; exact ⟨none, rfl, (mz_vret d_Mo_retrieve_190 rfl ⟨rfl, hL40, rfl, hq41⟩)⟩))))))) (fun hc55 => (mz_aload_n d_Mo_retrieve_128 rfl (mz_getR (k := 8) (a := (38, 0)) cl_10 d_Mo_retrieve_129 (by decide) wf_Mo_53 rfl (hF 30 0 (by decide)) rfl (hL (30, 0) 8 (38, 0) rfl (by decide)) (mz_bipush (24 : Int32) d_Mo_retrieve_132 (by decide) (mz_aload_n d_Mo_retrieve_134 rfl (mz_getI (k := 33) cl_10 d_Mo_retrieve_135 (by decide) wf_Mo_249 rfl (hF 30 0 (by decide)) rfl (mz_imul d_Mo_retrieve_138 (mz_iload d_Mo_retrieve_139 rfl (mz_iadd d_Mo_retrieve_141 (match (h38.2 hc55) with | ⟨j42, h43, h44, h45⟩ => mz_iald j42 d_Mo_retrieve_142 (hF 38 0 (by decide)) rfl h43 h44 (mz_istore d_Mo_retrieve_143 (by decide) (mz_iload d_Mo_retrieve_145 rfl (mz_bipush (10 : Int32) d_Mo_retrieve_147 (by decide) (mz_icmp_ne 170 d_Mo_retrieve_149 rfl (fun hc54 => (MzS.loc [(0, .ref (mz_ad B (30, 0))), (4, .int y4), (5, .int (mz_i M (38, 0) j42))] ⟨rfl, rfl, rfl, trivial⟩ (tm_Mo_retrieve_170 hF  hH114 y4 (mz_i M (38, 0) j42) M hL (h45.1 hc54)))) (fun hc54 => (mz_aload_n d_Mo_retrieve_152 rfl (mz_getR (k := 21) (a := (51, 0)) cl_10 d_Mo_retrieve_153 (by decide) wf_Mo_92 rfl (hF 30 0 (by decide)) rfl (hL (30, 0) 21 (51, 0) rfl (by decide)) (mz_aload_n d_Mo_retrieve_156 rfl (mz_getI (k := 29) cl_10 d_Mo_retrieve_157 (by decide) wf_Mo_137 rfl (hF 30 0 (by decide)) rfl (match (h45.2 hc54) with | ⟨j46, h47, h48, h49⟩ => mz_zald j46 d_Mo_retrieve_160 (hF 51 0 (by decide)) rfl h47 h48 (mz_if_eq 170 d_Mo_retrieve_161 rfl (fun hc53 => (MzS.loc [(0, .ref (mz_ad B (30, 0))), (4, .int y4), (5, .int (mz_i M (38, 0) j42))] ⟨rfl, rfl, rfl, trivial⟩ (tm_Mo_retrieve_170 hF  hH114 y4 (mz_i M (38, 0) j42) M hL (h49.1 hc53)))) (fun hc53 => (mz_aload_n d_Mo_retrieve_164 rfl (mz_bipush (13 : Int32) d_Mo_retrieve_165 (by decide) (mz_callV (As := [.int (13 : Int32)]) (st := []) (hF 30 0 (by decide)) rfl (mzClOf cl_10) 0 0 d_Mo_retrieve_167 cs_Mo_addOut wl_Mo_295 wi_Mo_addOut wse_Mo_addOut (Nat.le_of_ble_eq_true rfl) (Nat.le_refl _) (Nat.le_refl _) (MzC.mono (tm_Mo_addOut (d := (d + 4)) hF  hL (h49.2 hc53)) (fun r9 B9 M50 hq52 => by obtain ⟨rfl, hL51, rfl, hq52⟩ := hq52; exact ⟨none, rfl, (MzS.loc [(0, .ref (mz_ad B (30, 0))), (4, .int y4), (5, .int (mz_i M (38, 0) j42))] ⟨rfl, rfl, rfl, trivial⟩ (tm_Mo_retrieve_170 hF  hH114 y4 (mz_i M (38, 0) j42) M50 hL51 hq52))⟩))))))))))))))))))))))))))))))))))
theorem tm_Mo_retrieve_90 {G : MzG} {B : MzB} {d : Nat} {K : MzM → Prop} (hF : mzLive B)     (y1 : Int32) (ys0 : Int32) (M : MzM) (hL : mzLnk M) (h : wp_Mo_retrieve_90   K y1 ys0 M) : MzS G B (d + 5) mm_Mo_retrieve M (0, 0) (mzK0 B K) 90 [(0, .ref (mz_ad B (30, 0))), (1, .int y1)] [.int ys0] := by
  unfold wp_Mo_retrieve_90 at h
  exact (mz_istore_n d_Mo_retrieve_90 (by decide) (mz_iload_n d_Mo_retrieve_91 rfl (mz_if_le 101 d_Mo_retrieve_92 rfl (fun hc34 => (mz_aload_n d_Mo_retrieve_101 rfl (mz_getR (k := 26) (a := (56, 0)) cl_10 d_Mo_retrieve_102 (by decide) wf_Mo_107 rfl (hF 30 0 (by decide)) rfl (hL (30, 0) 26 (56, 0) rfl (by decide)) (mz_aload_n d_Mo_retrieve_105 rfl (mz_getI (k := 29) cl_10 d_Mo_retrieve_106 (by decide) wf_Mo_137 rfl (hF 30 0 (by decide)) rfl (mz_iconst (0 : Int32) d_Mo_retrieve_109 (by decide) (match (h.1 hc34) with | ⟨j26, h27, h28, h25⟩ => mz_iast j26 d_Mo_retrieve_110 (hF 56 0 (by decide)) rfl h27 h28 (let M23 : MzM := mz_si M (56, 0) j26 (0 : Int32); (mz_iload_n d_Mo_retrieve_111 rfl (mz_istore d_Mo_retrieve_112 (by decide) (MzS.loc [(0, .ref (mz_ad B (30, 0))), (4, .int y1)] ⟨rfl, rfl, trivial⟩ (match (h25 M23 rfl) with | ⟨r29, h30⟩ => tm_Mo_retrieve_114 hF   r29 y1 M23 hL h30)))))))))))) (fun hc34 => (mz_aload_n d_Mo_retrieve_95 rfl (mz_iload_n d_Mo_retrieve_96 rfl (mz_callV (As := [.int ys0]) (st := []) (hF 30 0 (by decide)) rfl (mzClOf cl_10) 0 0 d_Mo_retrieve_97 cs_Mo_answer wl_Mo_218 wi_Mo_answer wse_Mo_answer (Nat.le_of_ble_eq_true rfl) (Nat.le_refl _) (Nat.le_refl _) (MzC.mono (tm_Mo_answer (d := (d + 2)) hF  hL (h.2 hc34)) (fun r9 B9 M31 hq33 => by obtain ⟨rfl, hL32, rfl, hq33⟩ := hq33; exact ⟨none, rfl, (mz_vret d_Mo_retrieve_100 rfl ⟨rfl, hL32, rfl, hq33⟩)⟩)))))))))
theorem tm_Mo_retrieve_24 {G : MzG} {B : MzB} {d : Nat} {K : MzM → Prop} (hF : mzLive B)     (y1 : Int32) (ys0 : Int32) (M : MzM) (hL : mzLnk M) (h : wp_Mo_retrieve_24   K y1 ys0 M) : MzS G B (d + 5) mm_Mo_retrieve M (0, 0) (mzK0 B K) 24 [(0, .ref (mz_ad B (30, 0))), (1, .int y1)] [.int ys0] := by
  unfold wp_Mo_retrieve_24 at h
  exact (mz_istore_n d_Mo_retrieve_24 (by decide) (mz_iload_n d_Mo_retrieve_25 rfl (mz_if_ne 35 d_Mo_retrieve_26 rfl (fun hc22 => (mz_aload_n d_Mo_retrieve_35 rfl (mz_aload_n d_Mo_retrieve_36 rfl (mz_getI (k := 33) cl_10 d_Mo_retrieve_37 (by decide) wf_Mo_249 rfl (hF 30 0 (by decide)) rfl (mz_callV (As := [.int (mz_i M (30, 0) 33)]) (st := []) (hF 30 0 (by decide)) rfl (mzClOf cl_10) 0 0 d_Mo_retrieve_40 cs_Mo_written wl_Mo_301 wi_Mo_written wse_Mo_written (Nat.le_of_ble_eq_true rfl) (Nat.le_refl _) (Nat.le_refl _) (MzC.mono (tm_Mo_written (d := (d + 4)) hF  hL (h.1 hc22)) (fun r9 B9 M7 hq9 => by obtain ⟨rfl, hL8, v10, rfl, hq9⟩ := hq9; exact ⟨_, rfl, (mz_if_eq 52 d_Mo_retrieve_43 rfl (fun hc21 => (mz_aload_n d_Mo_retrieve_52 rfl (mz_getR (k := 22) (a := (52, 0)) cl_10 d_Mo_retrieve_53 (by decide) wf_Mo_95 rfl (hF 30 0 (by decide)) rfl (hL8 (30, 0) 22 (52, 0) rfl (by decide)) (mz_aload_n d_Mo_retrieve_56 rfl (mz_getI (k := 29) cl_10 d_Mo_retrieve_57 (by decide) wf_Mo_137 rfl (hF 30 0 (by decide)) rfl (match (hq9.1 hc21) with | ⟨j11, h12, h13, h14⟩ => mz_zald j11 d_Mo_retrieve_60 (hF 52 0 (by decide)) rfl h12 h13 (mz_if_ne 70 d_Mo_retrieve_61 rfl (fun hc20 => (mz_iload_n d_Mo_retrieve_70 rfl (mz_aload_n d_Mo_retrieve_71 rfl (mz_getR (k := 6) (a := (36, 0)) cl_10 d_Mo_retrieve_72 (by decide) wf_Mo_47 rfl (hF 30 0 (by decide)) rfl (hL8 (30, 0) 6 (36, 0) rfl (by decide)) (mz_aload_n d_Mo_retrieve_75 rfl (mz_getI (k := 33) cl_10 d_Mo_retrieve_76 (by decide) wf_Mo_249 rfl (hF 30 0 (by decide)) rfl (match (h14.1 hc20) with | ⟨j15, h16, h17, h18⟩ => mz_iald j15 d_Mo_retrieve_79 (hF 36 0 (by decide)) rfl h16 h17 (mz_icmp_le 89 d_Mo_retrieve_80 rfl (fun hc19 => (mz_iconst (0 : Int32) d_Mo_retrieve_89 (by decide) (MzS.loc [(0, .ref (mz_ad B (30, 0))), (1, .int y1)] ⟨rfl, rfl, trivial⟩ (tm_Mo_retrieve_90 hF   y1 (0 : Int32) M7 hL8 (h18.1 hc19))))) (fun hc19 => (mz_sipush (554 : Int32) d_Mo_retrieve_83 (by decide) (mz_goto 90 d_Mo_retrieve_86 rfl (MzS.loc [(0, .ref (mz_ad B (30, 0))), (1, .int y1)] ⟨rfl, rfl, trivial⟩ (tm_Mo_retrieve_90 hF   y1 (554 : Int32) M7 hL8 (h18.2 hc19)))))))))))))) (fun hc20 => (mz_sipush (425 : Int32) d_Mo_retrieve_64 (by decide) (mz_goto 90 d_Mo_retrieve_67 rfl (MzS.loc [(0, .ref (mz_ad B (30, 0))), (1, .int y1)] ⟨rfl, rfl, trivial⟩ (tm_Mo_retrieve_90 hF   y1 (425 : Int32) M7 hL8 (h14.2 hc20))))))))))))) (fun hc21 => (mz_sipush (450 : Int32) d_Mo_retrieve_46 (by decide) (mz_goto 90 d_Mo_retrieve_49 rfl (MzS.loc [(0, .ref (mz_ad B (30, 0))), (1, .int y1)] ⟨rfl, rfl, trivial⟩ (tm_Mo_retrieve_90 hF   y1 (450 : Int32) M7 hL8 (hq9.2 hc21)))))))⟩))))))) (fun hc22 => (mz_sipush (550 : Int32) d_Mo_retrieve_29 (by decide) (mz_goto 90 d_Mo_retrieve_32 rfl (MzS.loc [(0, .ref (mz_ad B (30, 0))), (1, .int y1)] ⟨rfl, rfl, trivial⟩ (tm_Mo_retrieve_90 hF   y1 (550 : Int32) M hL (h.2 hc22)))))))))
theorem tm_Mo_retrieve_23 {G : MzG} {B : MzB} {d : Nat} {K : MzM → Prop} (hF : mzLive B)     (y1 : Int32) (M : MzM) (hL : mzLnk M) (h : wp_Mo_retrieve_23   K y1 M) : MzS G B (d + 5) mm_Mo_retrieve M (0, 0) (mzK0 B K) 23 [(0, .ref (mz_ad B (30, 0))), (1, .int y1)] [] := by
  unfold wp_Mo_retrieve_23 at h
  exact (mz_iconst (0 : Int32) d_Mo_retrieve_23 (by decide) (MzS.loc [(0, .ref (mz_ad B (30, 0))), (1, .int y1)] ⟨rfl, rfl, trivial⟩ (tm_Mo_retrieve_24 hF   y1 (0 : Int32) M hL h)))
theorem tm_Mo_retrieve {G : MzG} {B : MzB} {d : Nat} {K : MzM → Prop} (hF : mzLive B)   {a1 : Int32} {M : MzM} (hL : mzLnk M) (h : wp_Mo_retrieve  a1 M K) : MzC G B (d + 5) mm_Mo_retrieve [.ref (mz_ad B (30, 0)), .int a1] M (0, 0) (mzK0 B K) := by
  unfold wp_Mo_retrieve at h
  exact MzC.of rfl (Nat.le_of_ble_eq_true rfl) (show MzS G B (d + 5) mm_Mo_retrieve M (0, 0) (mzK0 B K) 0 [(0, .ref (mz_ad B (30, 0))), (1, .int a1)] [] from (mz_aload_n d_Mo_retrieve_0 rfl (mz_getI (k := 33) cl_10 d_Mo_retrieve_1 (by decide) wf_Mo_249 rfl (hF 30 0 (by decide)) rfl (mz_if_lt 23 d_Mo_retrieve_4 rfl (fun hc6 => (MzS.loc [(0, .ref (mz_ad B (30, 0))), (1, .int a1)] ⟨rfl, rfl, trivial⟩ (tm_Mo_retrieve_23 hF   a1 M hL (h.1 hc6)))) (fun hc6 => (mz_aload_n d_Mo_retrieve_7 rfl (mz_getR (k := 3) (a := (33, 0)) cl_10 d_Mo_retrieve_8 (by decide) wf_Mo_38 rfl (hF 30 0 (by decide)) rfl (hL (30, 0) 3 (33, 0) rfl (by decide)) (mz_aload_n d_Mo_retrieve_11 rfl (mz_getI (k := 33) cl_10 d_Mo_retrieve_12 (by decide) wf_Mo_249 rfl (hF 30 0 (by decide)) rfl (match (h.2 hc6) with | ⟨j1, h2, h3, h4⟩ => mz_zald j1 d_Mo_retrieve_15 (hF 33 0 (by decide)) rfl h2 h3 (mz_if_eq 23 d_Mo_retrieve_16 rfl (fun hc5 => (MzS.loc [(0, .ref (mz_ad B (30, 0))), (1, .int a1)] ⟨rfl, rfl, trivial⟩ (tm_Mo_retrieve_23 hF   a1 M hL (h4.1 hc5)))) (fun hc5 => (mz_iconst (1 : Int32) d_Mo_retrieve_19 (by decide) (mz_goto 24 d_Mo_retrieve_20 rfl (MzS.loc [(0, .ref (mz_ad B (30, 0))), (1, .int a1)] ⟨rfl, rfl, trivial⟩ (tm_Mo_retrieve_24 hF   a1 (1 : Int32) M hL (h4.2 hc5)))))))))))))))))
def mm_Mo_freeNode : MzT := (⟨"ParcelLineModel", "freeNode", "()I"⟩, prog_14_method_39_code, 2, (Option.some Jvm.ClassFile.FieldType.int))
theorem cs_Mo_freeNode {mm : MzT} : mzCall mm mm_Mo_freeNode 0 := ⟨wn_Mo, wco_Mo_freeNode, by decide +kernel, by decide⟩
theorem d_Mo_freeNode_0 : decode mm_Mo_freeNode.2.1 0 = .ok (.iconst 1, 1) := by decide +kernel
theorem d_Mo_freeNode_1 : decode mm_Mo_freeNode.2.1 1 = .ok (.istore_n 1, 1) := by decide +kernel
theorem d_Mo_freeNode_2 : decode mm_Mo_freeNode.2.1 2 = .ok (.iload_n 1, 1) := by decide +kernel
theorem d_Mo_freeNode_3 : decode mm_Mo_freeNode.2.1 3 = .ok (.bipush 16, 2) := by decide +kernel
theorem d_Mo_freeNode_5 : decode mm_Mo_freeNode.2.1 5 = .ok (.if_icmp .ge 20, 3) := by decide +kernel
theorem d_Mo_freeNode_8 : decode mm_Mo_freeNode.2.1 8 = .ok (.aload_n 0, 1) := by decide +kernel
theorem d_Mo_freeNode_9 : decode mm_Mo_freeNode.2.1 9 = .ok (.getfield 34, 3) := by decide +kernel
theorem d_Mo_freeNode_12 : decode mm_Mo_freeNode.2.1 12 = .ok (.iload_n 1, 1) := by decide +kernel
theorem d_Mo_freeNode_13 : decode mm_Mo_freeNode.2.1 13 = .ok (.baload, 1) := by decide +kernel
theorem d_Mo_freeNode_14 : decode mm_Mo_freeNode.2.1 14 = .ok (.ifCond .ne 5, 3) := by decide +kernel
theorem d_Mo_freeNode_17 : decode mm_Mo_freeNode.2.1 17 = .ok (.iload_n 1, 1) := by decide +kernel
theorem d_Mo_freeNode_18 : decode mm_Mo_freeNode.2.1 18 = .ok (.ireturn, 1) := by decide +kernel
theorem d_Mo_freeNode_19 : decode mm_Mo_freeNode.2.1 19 = .ok (.iinc 1 1, 3) := by decide +kernel
theorem d_Mo_freeNode_22 : decode mm_Mo_freeNode.2.1 22 = .ok (.goto (-20), 3) := by decide +kernel
theorem d_Mo_freeNode_25 : decode mm_Mo_freeNode.2.1 25 = .ok (.iconst (-1), 1) := by decide +kernel
theorem d_Mo_freeNode_26 : decode mm_Mo_freeNode.2.1 26 = .ok (.ireturn, 1) := by decide +kernel
def wp_Mo_freeNode_2   (K : Int32 → MzM → Prop) : Nat → Int32 → MzM → Prop
  | 0, _, _ => False
  | r0 + 1, y1, M => (((16 : Int32) ≤ y1 → K (-1 : Int32) M) ∧ (¬ (16 : Int32) ≤ y1 → (∃ j3 : Nat, y1.toInt = (j3 : Int) ∧ j3 < 16 ∧ ((¬ (mz_i M (32, 0) j3) = 0 → (wp_Mo_freeNode_2   K r0) (y1 + (1 : Int32)) M) ∧ ((mz_i M (32, 0) j3) = 0 → K y1 M)))))
def wp_Mo_freeNode   (M : MzM) (K : Int32 → MzM → Prop) : Prop := (∃ r1 : Nat, wp_Mo_freeNode_2   K r1 (1 : Int32) M)
theorem tm_Mo_freeNode_2 {G : MzG} {B : MzB} {d : Nat} {K : Int32 → MzM → Prop} (hF : mzLive B)     : ∀ (r0 : Nat) (y1 : Int32) (M : MzM), mzLnk M → wp_Mo_freeNode_2   K r0 y1 M → MzS G B d mm_Mo_freeNode M (0, 0) (mzK1 B K) 2 [(0, .ref (mz_ad B (30, 0))), (1, .int y1)] [] := by
  intro r0
  induction r0 with
  | zero => intro y1 M hL h; exact False.elim h
  | succ r0 hH2 =>
    intro y1 M hL h
    unfold wp_Mo_freeNode_2 at h
    exact (mz_iload_n d_Mo_freeNode_2 rfl (mz_bipush (16 : Int32) d_Mo_freeNode_3 (by decide) (mz_icmp_ge 25 d_Mo_freeNode_5 rfl (fun hc8 => (mz_iconst (-1 : Int32) d_Mo_freeNode_25 (by decide) (mz_iret .int d_Mo_freeNode_26 rfl rfl ⟨rfl, hL, _, rfl, (h.1 hc8)⟩))) (fun hc8 => (mz_aload_n d_Mo_freeNode_8 rfl (mz_getR (k := 2) (a := (32, 0)) cl_10 d_Mo_freeNode_9 (by decide) wf_Mo_34 rfl (hF 30 0 (by decide)) rfl (hL (30, 0) 2 (32, 0) rfl (by decide)) (mz_iload_n d_Mo_freeNode_12 rfl (match (h.2 hc8) with | ⟨j3, h4, h5, h6⟩ => mz_zald j3 d_Mo_freeNode_13 (hF 32 0 (by decide)) rfl h4 h5 (mz_if_ne 19 d_Mo_freeNode_14 rfl (fun hc7 => (mz_iinc (y1 + (1 : Int32)) d_Mo_freeNode_19 rfl (by decide) rfl (mz_goto 2 d_Mo_freeNode_22 rfl (MzS.loc [(0, .ref (mz_ad B (30, 0))), (1, .int (y1 + (1 : Int32)))] ⟨rfl, rfl, trivial⟩ (hH2 (y1 + (1 : Int32)) M hL (h6.1 hc7)))))) (fun hc7 => (mz_iload_n d_Mo_freeNode_17 rfl (mz_iret .int d_Mo_freeNode_18 rfl rfl ⟨rfl, hL, _, rfl, (h6.2 hc7)⟩))))))))))))
theorem tm_Mo_freeNode {G : MzG} {B : MzB} {d : Nat} {K : Int32 → MzM → Prop} (hF : mzLive B)    {M : MzM} (hL : mzLnk M) (h : wp_Mo_freeNode   M K) : MzC G B d mm_Mo_freeNode [.ref (mz_ad B (30, 0))] M (0, 0) (mzK1 B K) := by
  unfold wp_Mo_freeNode at h
  exact MzC.of rfl (Nat.le_of_ble_eq_true rfl) (show MzS G B d mm_Mo_freeNode M (0, 0) (mzK1 B K) 0 [(0, .ref (mz_ad B (30, 0)))] [] from (mz_iconst (1 : Int32) d_Mo_freeNode_0 (by decide) (mz_istore_n d_Mo_freeNode_1 (by decide) (MzS.loc [(0, .ref (mz_ad B (30, 0))), (1, .int (1 : Int32))] ⟨rfl, rfl, trivial⟩ (match h with | ⟨r1, h2⟩ => tm_Mo_freeNode_2 hF   r1 (1 : Int32) M hL h2)))))
def mm_Mo_moved : MzT := (⟨"ParcelLineModel", "moved", "(I)Z"⟩, prog_14_method_41_code, 2, (Option.some Jvm.ClassFile.FieldType.boolean))
theorem cs_Mo_moved {mm : MzT} : mzCall mm mm_Mo_moved 1 := ⟨wn_Mo, wco_Mo_moved, by decide +kernel, by decide⟩
theorem d_Mo_moved_0 : decode mm_Mo_moved.2.1 0 = .ok (.aload_n 0, 1) := by decide +kernel
theorem d_Mo_moved_1 : decode mm_Mo_moved.2.1 1 = .ok (.getfield 98, 3) := by decide +kernel
theorem d_Mo_moved_4 : decode mm_Mo_moved.2.1 4 = .ok (.iconst 0, 1) := by decide +kernel
theorem d_Mo_moved_5 : decode mm_Mo_moved.2.1 5 = .ok (.iaload, 1) := by decide +kernel
theorem d_Mo_moved_6 : decode mm_Mo_moved.2.1 6 = .ok (.ifCond .le 13, 3) := by decide +kernel
theorem d_Mo_moved_9 : decode mm_Mo_moved.2.1 9 = .ok (.aload_n 0, 1) := by decide +kernel
theorem d_Mo_moved_10 : decode mm_Mo_moved.2.1 10 = .ok (.getfield 101, 3) := by decide +kernel
theorem d_Mo_moved_13 : decode mm_Mo_moved.2.1 13 = .ok (.iconst 0, 1) := by decide +kernel
theorem d_Mo_moved_14 : decode mm_Mo_moved.2.1 14 = .ok (.iaload, 1) := by decide +kernel
theorem d_Mo_moved_15 : decode mm_Mo_moved.2.1 15 = .ok (.iload_n 1, 1) := by decide +kernel
theorem d_Mo_moved_16 : decode mm_Mo_moved.2.1 16 = .ok (.if_icmp .eq 22, 3) := by decide +kernel
theorem d_Mo_moved_19 : decode mm_Mo_moved.2.1 19 = .ok (.aload_n 0, 1) := by decide +kernel
theorem d_Mo_moved_20 : decode mm_Mo_moved.2.1 20 = .ok (.getfield 98, 3) := by decide +kernel
theorem d_Mo_moved_23 : decode mm_Mo_moved.2.1 23 = .ok (.iconst 1, 1) := by decide +kernel
theorem d_Mo_moved_24 : decode mm_Mo_moved.2.1 24 = .ok (.iaload, 1) := by decide +kernel
theorem d_Mo_moved_25 : decode mm_Mo_moved.2.1 25 = .ok (.ifCond .le 17, 3) := by decide +kernel
theorem d_Mo_moved_28 : decode mm_Mo_moved.2.1 28 = .ok (.aload_n 0, 1) := by decide +kernel
theorem d_Mo_moved_29 : decode mm_Mo_moved.2.1 29 = .ok (.getfield 101, 3) := by decide +kernel
theorem d_Mo_moved_32 : decode mm_Mo_moved.2.1 32 = .ok (.iconst 1, 1) := by decide +kernel
theorem d_Mo_moved_33 : decode mm_Mo_moved.2.1 33 = .ok (.iaload, 1) := by decide +kernel
theorem d_Mo_moved_34 : decode mm_Mo_moved.2.1 34 = .ok (.iload_n 1, 1) := by decide +kernel
theorem d_Mo_moved_35 : decode mm_Mo_moved.2.1 35 = .ok (.if_icmp .ne 7, 3) := by decide +kernel
theorem d_Mo_moved_38 : decode mm_Mo_moved.2.1 38 = .ok (.iconst 1, 1) := by decide +kernel
theorem d_Mo_moved_39 : decode mm_Mo_moved.2.1 39 = .ok (.goto 4, 3) := by decide +kernel
theorem d_Mo_moved_42 : decode mm_Mo_moved.2.1 42 = .ok (.iconst 0, 1) := by decide +kernel
theorem d_Mo_moved_43 : decode mm_Mo_moved.2.1 43 = .ok (.ireturn, 1) := by decide +kernel
def wp_Mo_moved_19   (K : Int32 → MzM → Prop) (y1 : Int32) (M : MzM) : Prop := (((mz_i M (53, 0) 1) ≤ 0 → K (0 : Int32) M) ∧ (¬ (mz_i M (53, 0) 1) ≤ 0 → ((¬ (mz_i M (54, 0) 1) = y1 → K (0 : Int32) M) ∧ ((mz_i M (54, 0) 1) = y1 → K (1 : Int32) M))))
def wp_Mo_moved  (a1 : Int32) (M : MzM) (K : Int32 → MzM → Prop) : Prop := (((mz_i M (53, 0) 0) ≤ 0 → wp_Mo_moved_19   K a1 M) ∧ (¬ (mz_i M (53, 0) 0) ≤ 0 → (((mz_i M (54, 0) 0) = a1 → K (1 : Int32) M) ∧ (¬ (mz_i M (54, 0) 0) = a1 → wp_Mo_moved_19   K a1 M))))
theorem tm_Mo_moved_19 {G : MzG} {B : MzB} {d : Nat} {K : Int32 → MzM → Prop} (hF : mzLive B)     (y1 : Int32) (M : MzM) (hL : mzLnk M) (h : wp_Mo_moved_19   K y1 M) : MzS G B d mm_Mo_moved M (0, 0) (mzK1 B K) 19 [(0, .ref (mz_ad B (30, 0))), (1, .int y1)] [] := by
  unfold wp_Mo_moved_19 at h
  exact (mz_aload_n d_Mo_moved_19 rfl (mz_getR (k := 23) (a := (53, 0)) cl_10 d_Mo_moved_20 (by decide) wf_Mo_98 rfl (hF 30 0 (by decide)) rfl (hL (30, 0) 23 (53, 0) rfl (by decide)) (mz_iconst (1 : Int32) d_Mo_moved_23 (by decide) (mz_iald 1 d_Mo_moved_24 (hF 53 0 (by decide)) rfl (by decide) (by decide) (mz_if_le 42 d_Mo_moved_25 rfl (fun hc4 => (mz_iconst (0 : Int32) d_Mo_moved_42 (by decide) (mz_iret .boolean d_Mo_moved_43 rfl rfl ⟨rfl, hL, _, rfl, (h.1 hc4)⟩))) (fun hc4 => (mz_aload_n d_Mo_moved_28 rfl (mz_getR (k := 24) (a := (54, 0)) cl_10 d_Mo_moved_29 (by decide) wf_Mo_101 rfl (hF 30 0 (by decide)) rfl (hL (30, 0) 24 (54, 0) rfl (by decide)) (mz_iconst (1 : Int32) d_Mo_moved_32 (by decide) (mz_iald 1 d_Mo_moved_33 (hF 54 0 (by decide)) rfl (by decide) (by decide) (mz_iload_n d_Mo_moved_34 rfl (mz_icmp_ne 42 d_Mo_moved_35 rfl (fun hc3 => (mz_iconst (0 : Int32) d_Mo_moved_42 (by decide) (mz_iret .boolean d_Mo_moved_43 rfl rfl ⟨rfl, hL, _, rfl, ((h.2 hc4).1 hc3)⟩))) (fun hc3 => (mz_iconst (1 : Int32) d_Mo_moved_38 (by decide) (mz_goto 43 d_Mo_moved_39 rfl (mz_iret .boolean d_Mo_moved_43 rfl rfl ⟨rfl, hL, _, rfl, ((h.2 hc4).2 hc3)⟩))))))))))))))))
theorem tm_Mo_moved {G : MzG} {B : MzB} {d : Nat} {K : Int32 → MzM → Prop} (hF : mzLive B)   {a1 : Int32} {M : MzM} (hL : mzLnk M) (h : wp_Mo_moved  a1 M K) : MzC G B d mm_Mo_moved [.ref (mz_ad B (30, 0)), .int a1] M (0, 0) (mzK1 B K) := by
  unfold wp_Mo_moved at h
  exact MzC.of rfl (Nat.le_of_ble_eq_true rfl) (show MzS G B d mm_Mo_moved M (0, 0) (mzK1 B K) 0 [(0, .ref (mz_ad B (30, 0))), (1, .int a1)] [] from (mz_aload_n d_Mo_moved_0 rfl (mz_getR (k := 23) (a := (53, 0)) cl_10 d_Mo_moved_1 (by decide) wf_Mo_98 rfl (hF 30 0 (by decide)) rfl (hL (30, 0) 23 (53, 0) rfl (by decide)) (mz_iconst (0 : Int32) d_Mo_moved_4 (by decide) (mz_iald 0 d_Mo_moved_5 (hF 53 0 (by decide)) rfl (by decide) (by decide) (mz_if_le 19 d_Mo_moved_6 rfl (fun hc2 => (MzS.loc [(0, .ref (mz_ad B (30, 0))), (1, .int a1)] ⟨rfl, rfl, trivial⟩ (tm_Mo_moved_19 hF   a1 M hL (h.1 hc2)))) (fun hc2 => (mz_aload_n d_Mo_moved_9 rfl (mz_getR (k := 24) (a := (54, 0)) cl_10 d_Mo_moved_10 (by decide) wf_Mo_101 rfl (hF 30 0 (by decide)) rfl (hL (30, 0) 24 (54, 0) rfl (by decide)) (mz_iconst (0 : Int32) d_Mo_moved_13 (by decide) (mz_iald 0 d_Mo_moved_14 (hF 54 0 (by decide)) rfl (by decide) (by decide) (mz_iload_n d_Mo_moved_15 rfl (mz_icmp_eq 38 d_Mo_moved_16 rfl (fun hc1 => (mz_iconst (1 : Int32) d_Mo_moved_38 (by decide) (mz_goto 43 d_Mo_moved_39 rfl (mz_iret .boolean d_Mo_moved_43 rfl rfl ⟨rfl, hL, _, rfl, ((h.2 hc2).1 hc1)⟩)))) (fun hc1 => (MzS.loc [(0, .ref (mz_ad B (30, 0))), (1, .int a1)] ⟨rfl, rfl, trivial⟩ (tm_Mo_moved_19 hF   a1 M hL ((h.2 hc2).2 hc1)))))))))))))))))
