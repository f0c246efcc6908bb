def mm_Store_lineage : MzT := (⟨"ParcelLine$Store", "lineage", "(I[I)I"⟩, prog_12_method_12_code, 5, (Option.some Jvm.ClassFile.FieldType.int))
theorem cs_Store_lineage {mm : MzT} : mzCall mm mm_Store_lineage 2 := ⟨wn_Store, wco_Store_lineage, by decide +kernel, by decide⟩
theorem d_Store_lineage_0 : decode mm_Store_lineage.2.1 0 = .ok (.iconst 0, 1) := by decide +kernel
theorem d_Store_lineage_1 : decode mm_Store_lineage.2.1 1 = .ok (.istore_n 3, 1) := by decide +kernel
theorem d_Store_lineage_2 : decode mm_Store_lineage.2.1 2 = .ok (.iload_n 1, 1) := by decide +kernel
theorem d_Store_lineage_3 : decode mm_Store_lineage.2.1 3 = .ok (.istore 4, 2) := by decide +kernel
theorem d_Store_lineage_5 : decode mm_Store_lineage.2.1 5 = .ok (.iload_n 3, 1) := by decide +kernel
theorem d_Store_lineage_6 : decode mm_Store_lineage.2.1 6 = .ok (.aload_n 2, 1) := by decide +kernel
theorem d_Store_lineage_7 : decode mm_Store_lineage.2.1 7 = .ok (.arraylength, 1) := by decide +kernel
theorem d_Store_lineage_8 : decode mm_Store_lineage.2.1 8 = .ok (.if_icmp .ge 38, 3) := by decide +kernel
theorem d_Store_lineage_11 : decode mm_Store_lineage.2.1 11 = .ok (.iload 4, 2) := by decide +kernel
theorem d_Store_lineage_13 : decode mm_Store_lineage.2.1 13 = .ok (.ifCond .le 33, 3) := by decide +kernel
theorem d_Store_lineage_16 : decode mm_Store_lineage.2.1 16 = .ok (.iload 4, 2) := by decide +kernel
theorem d_Store_lineage_18 : decode mm_Store_lineage.2.1 18 = .ok (.bipush 16, 2) := by decide +kernel
theorem d_Store_lineage_20 : decode mm_Store_lineage.2.1 20 = .ok (.if_icmp .ge 26, 3) := by decide +kernel
theorem d_Store_lineage_23 : decode mm_Store_lineage.2.1 23 = .ok (.aload_n 2, 1) := by decide +kernel
theorem d_Store_lineage_24 : decode mm_Store_lineage.2.1 24 = .ok (.iload_n 3, 1) := by decide +kernel
theorem d_Store_lineage_25 : decode mm_Store_lineage.2.1 25 = .ok (.iload 4, 2) := by decide +kernel
theorem d_Store_lineage_27 : decode mm_Store_lineage.2.1 27 = .ok (.iastore, 1) := by decide +kernel
theorem d_Store_lineage_28 : decode mm_Store_lineage.2.1 28 = .ok (.iinc 3 1, 3) := by decide +kernel
theorem d_Store_lineage_31 : decode mm_Store_lineage.2.1 31 = .ok (.aload_n 0, 1) := by decide +kernel
theorem d_Store_lineage_32 : decode mm_Store_lineage.2.1 32 = .ok (.getfield 11, 3) := by decide +kernel
theorem d_Store_lineage_35 : decode mm_Store_lineage.2.1 35 = .ok (.iload 4, 2) := by decide +kernel
theorem d_Store_lineage_37 : decode mm_Store_lineage.2.1 37 = .ok (.aaload, 1) := by decide +kernel
theorem d_Store_lineage_38 : decode mm_Store_lineage.2.1 38 = .ok (.getfield 22, 3) := by decide +kernel
theorem d_Store_lineage_41 : decode mm_Store_lineage.2.1 41 = .ok (.istore 4, 2) := by decide +kernel
theorem d_Store_lineage_43 : decode mm_Store_lineage.2.1 43 = .ok (.goto (-38), 3) := by decide +kernel
theorem d_Store_lineage_46 : decode mm_Store_lineage.2.1 46 = .ok (.iload_n 3, 1) := by decide +kernel
theorem d_Store_lineage_47 : decode mm_Store_lineage.2.1 47 = .ok (.ireturn, 1) := by decide +kernel
def wp_Store_lineage_5 (x : Nat)  (K : Int32 → MzM → Prop) : Nat → Int32 → Int32 → MzM → Prop
  | 0, _, _, _ => False
  | r0 + 1, y3, y4, M => (((16 : Int32) ≤ y3 → K y3 M) ∧ (¬ (16 : Int32) ≤ y3 → ((y4 ≤ 0 → K y3 M) ∧ (¬ y4 ≤ 0 → (((16 : Int32) ≤ y4 → K y3 M) ∧ (¬ (16 : Int32) ≤ y4 → (∃ j6 : Nat, y3.toInt = (j6 : Int) ∧ j6 < 16 ∧ ∀ M3 : MzM, M3 = mz_si M (18, x) j6 y4 → (∃ j9 : Nat, y4.toInt = (j9 : Int) ∧ j9 < 16 ∧ (wp_Store_lineage_5 x  K r0) (y3 + (1 : Int32)) (mz_i M3 (3, j9) 2) M3))))))))
def wp_Store_lineage (x : Nat) (a1 : Int32) (M : MzM) (K : Int32 → MzM → Prop) : Prop := (∃ r1 : Nat, wp_Store_lineage_5 x  K r1 (0 : Int32) a1 M)
theorem tm_Store_lineage_5 {G : MzG} {B : MzB} {d : Nat} {K : Int32 → MzM → Prop} (hF : mzLive false B) {x : Nat} (hx : x < 2)   : ∀ (r0 : Nat) (y3 : Int32) (y4 : Int32) (M : MzM), mzLnk false M → wp_Store_lineage_5 x  K r0 y3 y4 M → MzS G B d mm_Store_lineage M (0, 0) (mzK1 false B K) 5 [(0, .ref (mz_ad B (1, 0))), (2, .ref (mz_ad B (18, x))), (3, .int y3), (4, .int y4)] [] := by
  intro r0
  induction r0 with
  | zero => intro y3 y4 M hL h; exact False.elim h
  | succ r0 hH5 =>
    intro y3 y4 M hL h
    unfold wp_Store_lineage_5 at h
    exact (mz_iload_n d_Store_lineage_5 rfl (mz_aload_n d_Store_lineage_6 rfl (mz_alen (16 : Int32) d_Store_lineage_7 (hF 18 x rfl hx) rfl (by decide) (mz_icmp_ge 46 d_Store_lineage_8 rfl (fun hc15 => (mz_iload_n d_Store_lineage_46 rfl (mz_iret .int d_Store_lineage_47 rfl rfl ⟨rfl, hL, _, rfl, (h.1 hc15)⟩))) (fun hc15 => (mz_iload d_Store_lineage_11 rfl (mz_if_le 46 d_Store_lineage_13 rfl (fun hc14 => (mz_iload_n d_Store_lineage_46 rfl (mz_iret .int d_Store_lineage_47 rfl rfl ⟨rfl, hL, _, rfl, ((h.2 hc15).1 hc14)⟩))) (fun hc14 => (mz_iload d_Store_lineage_16 rfl (mz_bipush (16 : Int32) d_Store_lineage_18 (by decide) (mz_icmp_ge 46 d_Store_lineage_20 rfl (fun hc13 => (mz_iload_n d_Store_lineage_46 rfl (mz_iret .int d_Store_lineage_47 rfl rfl ⟨rfl, hL, _, rfl, (((h.2 hc15).2 hc14).1 hc13)⟩))) (fun hc13 => (mz_aload_n d_Store_lineage_23 rfl (mz_iload_n d_Store_lineage_24 rfl (mz_iload d_Store_lineage_25 rfl (match (((h.2 hc15).2 hc14).2 hc13) with | ⟨j6, h7, h8, h5⟩ => mz_iast j6 d_Store_lineage_27 (hF 18 x rfl hx) rfl h7 h8 (let M3 : MzM := mz_si M (18, x) j6 y4; (mz_iinc (y3 + (1 : Int32)) d_Store_lineage_28 rfl (by decide) rfl (mz_aload_n d_Store_lineage_31 rfl (mz_getR (k := 0) (a := (2, 0)) cl_1 d_Store_lineage_32 (by decide) wf_Store_11 rfl (hF 1 0 rfl (by decide)) rfl (hL (1, 0) 0 (2, 0) rfl rfl (by decide)) (mz_iload d_Store_lineage_35 rfl (match (h5 M3 rfl) with | ⟨j9, h10, h11, h12⟩ => mz_aald (a := (3, j9)) j9 d_Store_lineage_37 (hF 2 0 rfl (by decide)) rfl h10 h11 (hL (2, 0) j9 (3, j9) rfl (mzLk_2 h11) (by decide)) (mz_getIN (k := 2) cl_2 d_Store_lineage_38 (by decide) wf_Store_22 rfl (hF 3 j9 rfl h11) rfl (mz_istore d_Store_lineage_41 (by decide) (mz_goto 5 d_Store_lineage_43 rfl (MzS.loc [(0, .ref (mz_ad B (1, 0))), (2, .ref (mz_ad B (18, x))), (3, .int (y3 + (1 : Int32))), (4, .int (mz_i M3 (3, j9) 2))] ⟨rfl, rfl, rfl, rfl, trivial⟩ (hH5 (y3 + (1 : Int32)) (mz_i M3 (3, j9) 2) M3 hL h12)))))))))))))))))))))))))))
theorem tm_Store_lineage {G : MzG} {B : MzB} {d : Nat} {K : Int32 → MzM → Prop} (hF : mzLive false B) {x : Nat} (hx : x < 2) {a1 : Int32} {M : MzM} (hL : mzLnk false M) (h : wp_Store_lineage x a1 M K) : MzC G B d mm_Store_lineage [.ref (mz_ad B (1, 0)), .int a1, .ref (mz_ad B (18, x))] M (0, 0) (mzK1 false B K) := by
  unfold wp_Store_lineage at h
  exact MzC.of rfl (Nat.le_of_ble_eq_true rfl) (show MzS G B d mm_Store_lineage M (0, 0) (mzK1 false B K) 0 [(0, .ref (mz_ad B (1, 0))), (1, .int a1), (2, .ref (mz_ad B (18, x)))] [] from (mz_iconst (0 : Int32) d_Store_lineage_0 (by decide) (mz_istore_n d_Store_lineage_1 (by decide) (mz_iload_n d_Store_lineage_2 rfl (mz_istore d_Store_lineage_3 (by decide) (MzS.loc [(0, .ref (mz_ad B (1, 0))), (2, .ref (mz_ad B (18, x))), (3, .int (0 : Int32)), (4, .int a1)] ⟨rfl, rfl, rfl, rfl, trivial⟩ (match h with | ⟨r1, h2⟩ => tm_Store_lineage_5 hF hx  r1 (0 : Int32) a1 M hL h2)))))))
def mm_Rep_writeStep : MzT := (⟨"ParcelLine$Replies", "writeStep", "(I)V"⟩, prog_10_method_7_code, 4, (Option.none : Option Jvm.ClassFile.FieldType))
theorem cs_Rep_writeStep {mm : MzT} : mzCall mm mm_Rep_writeStep 1 := ⟨wn_Rep, wco_Rep_writeStep, by decide +kernel, by decide⟩
theorem d_Rep_writeStep_0 : decode mm_Rep_writeStep.2.1 0 = .ok (.aload_n 0, 1) := by decide +kernel
theorem d_Rep_writeStep_1 : decode mm_Rep_writeStep.2.1 1 = .ok (.bipush 47, 2) := by decide +kernel
theorem d_Rep_writeStep_3 : decode mm_Rep_writeStep.2.1 3 = .ok (.invokevirtual 28, 3) := by decide +kernel
theorem d_Rep_writeStep_6 : decode mm_Rep_writeStep.2.1 6 = .ok (.iload_n 1, 1) := by decide +kernel
theorem d_Rep_writeStep_7 : decode mm_Rep_writeStep.2.1 7 = .ok (.istore_n 2, 1) := by decide +kernel
theorem d_Rep_writeStep_8 : decode mm_Rep_writeStep.2.1 8 = .ok (.iconst 0, 1) := by decide +kernel
theorem d_Rep_writeStep_9 : decode mm_Rep_writeStep.2.1 9 = .ok (.istore_n 3, 1) := by decide +kernel
theorem d_Rep_writeStep_10 : decode mm_Rep_writeStep.2.1 10 = .ok (.iload_n 3, 1) := by decide +kernel
theorem d_Rep_writeStep_11 : decode mm_Rep_writeStep.2.1 11 = .ok (.iconst 3, 1) := by decide +kernel
theorem d_Rep_writeStep_12 : decode mm_Rep_writeStep.2.1 12 = .ok (.if_icmp .ge 28, 3) := by decide +kernel
theorem d_Rep_writeStep_15 : decode mm_Rep_writeStep.2.1 15 = .ok (.iload_n 2, 1) := by decide +kernel
theorem d_Rep_writeStep_16 : decode mm_Rep_writeStep.2.1 16 = .ok (.ifCond .le 24, 3) := by decide +kernel
theorem d_Rep_writeStep_19 : decode mm_Rep_writeStep.2.1 19 = .ok (.aload_n 0, 1) := by decide +kernel
theorem d_Rep_writeStep_20 : decode mm_Rep_writeStep.2.1 20 = .ok (.iload_n 2, 1) := by decide +kernel
theorem d_Rep_writeStep_21 : decode mm_Rep_writeStep.2.1 21 = .ok (.sipush 128, 3) := by decide +kernel
theorem d_Rep_writeStep_24 : decode mm_Rep_writeStep.2.1 24 = .ok (.irem, 1) := by decide +kernel
theorem d_Rep_writeStep_25 : decode mm_Rep_writeStep.2.1 25 = .ok (.invokevirtual 28, 3) := by decide +kernel
theorem d_Rep_writeStep_28 : decode mm_Rep_writeStep.2.1 28 = .ok (.iload_n 2, 1) := by decide +kernel
theorem d_Rep_writeStep_29 : decode mm_Rep_writeStep.2.1 29 = .ok (.sipush 128, 3) := by decide +kernel
theorem d_Rep_writeStep_32 : decode mm_Rep_writeStep.2.1 32 = .ok (.idiv, 1) := by decide +kernel
theorem d_Rep_writeStep_33 : decode mm_Rep_writeStep.2.1 33 = .ok (.istore_n 2, 1) := by decide +kernel
theorem d_Rep_writeStep_34 : decode mm_Rep_writeStep.2.1 34 = .ok (.iinc 3 1, 3) := by decide +kernel
theorem d_Rep_writeStep_37 : decode mm_Rep_writeStep.2.1 37 = .ok (.goto (-27), 3) := by decide +kernel
theorem d_Rep_writeStep_40 : decode mm_Rep_writeStep.2.1 40 = .ok (.return_, 1) := by decide +kernel
def wp_Rep_writeStep_10 (x : Nat)  (K : MzM → Prop) : Nat → Int32 → Int32 → MzM → Prop
  | 0, _, _, _ => False
  | r0 + 1, y2, y3, M => (((3 : Int32) ≤ y3 → K M) ∧ (¬ (3 : Int32) ≤ y3 → ((y2 ≤ 0 → K M) ∧ (¬ y2 ≤ 0 → wp_Rep_write x (y2 - y2 / (128 : Int32) * (128 : Int32)) M (fun M6 => (wp_Rep_writeStep_10 x  K r0) (y2 / (128 : Int32)) (y3 + (1 : Int32)) M6)))))
def wp_Rep_writeStep (x : Nat) (a1 : Int32) (M : MzM) (K : MzM → Prop) : Prop := wp_Rep_write x (47 : Int32) M (fun M1 => (∃ r4 : Nat, wp_Rep_writeStep_10 x  K r4 a1 (0 : Int32) M1))
theorem tm_Rep_writeStep_10 {G : MzG} {B : MzB} {d : Nat} {K : MzM → Prop} (hF : mzLive false B) {x : Nat} (hx : x < 2)   : ∀ (r0 : Nat) (y2 : Int32) (y3 : Int32) (M : MzM), mzLnk false M → wp_Rep_writeStep_10 x  K r0 y2 y3 M → MzS G B (d + 1) mm_Rep_writeStep M (0, 0) (mzK0 false B K) 10 [(0, .ref (mz_ad B (9, x))), (2, .int y2), (3, .int y3)] [] := by
  intro r0
  induction r0 with
  | zero => intro y2 y3 M hL h; exact False.elim h
  | succ r0 hH10 =>
    intro y2 y3 M hL h
    unfold wp_Rep_writeStep_10 at h
    exact (mz_iload_n d_Rep_writeStep_10 rfl (mz_iconst (3 : Int32) d_Rep_writeStep_11 (by decide) (mz_icmp_ge 40 d_Rep_writeStep_12 rfl (fun hc10 => (mz_vret d_Rep_writeStep_40 rfl ⟨rfl, hL, rfl, (h.1 hc10)⟩)) (fun hc10 => (mz_iload_n d_Rep_writeStep_15 rfl (mz_if_le 40 d_Rep_writeStep_16 rfl (fun hc9 => (mz_vret d_Rep_writeStep_40 rfl ⟨rfl, hL, rfl, ((h.2 hc10).1 hc9)⟩)) (fun hc9 => (mz_aload_n d_Rep_writeStep_19 rfl (mz_iload_n d_Rep_writeStep_20 rfl (mz_sipush (128 : Int32) d_Rep_writeStep_21 (by decide) (mz_irem d_Rep_writeStep_24 (by decide) (mz_callV (As := [.int (y2 - y2 / (128 : Int32) * (128 : Int32))]) (st := []) (hF 9 x rfl hx) rfl (mzClOf cl_5) 0 0 d_Rep_writeStep_25 cs_Rep_write wl_Rep_28 wi_Rep_write wse_Rep_write (Nat.le_of_ble_eq_true rfl) (Nat.zero_le _) (Nat.zero_le _) (MzC.mono (tm_Rep_write (d := d) hF hx hL ((h.2 hc10).2 hc9)) (fun r9 B9 M6 hq8 => by obtain ⟨rfl, hL7, rfl, hq8⟩ := hq8; exact ⟨none, rfl, (mz_iload_n d_Rep_writeStep_28 rfl (mz_sipush (128 : Int32) d_Rep_writeStep_29 (by decide) (mz_idiv d_Rep_writeStep_32 (by decide) (mz_istore_n d_Rep_writeStep_33 (by decide) (mz_iinc (y3 + (1 : Int32)) d_Rep_writeStep_34 rfl (by decide) rfl (mz_goto 10 d_Rep_writeStep_37 rfl (MzS.loc [(0, .ref (mz_ad B (9, x))), (2, .int (y2 / (128 : Int32))), (3, .int (y3 + (1 : Int32)))] ⟨rfl, rfl, rfl, trivial⟩ (hH10 (y2 / (128 : Int32)) (y3 + (1 : Int32)) M6 hL7 hq8))))))))⟩))))))))))))))
theorem tm_Rep_writeStep {G : MzG} {B : MzB} {d : Nat} {K : MzM → Prop} (hF : mzLive false B) {x : Nat} (hx : x < 2) {a1 : Int32} {M : MzM} (hL : mzLnk false M) (h : wp_Rep_writeStep x a1 M K) : MzC G B (d + 1) mm_Rep_writeStep [.ref (mz_ad B (9, x)), .int a1] M (0, 0) (mzK0 false B K) := by
  unfold wp_Rep_writeStep at h
  exact MzC.of rfl (Nat.le_of_ble_eq_true rfl) (show MzS G B (d + 1) mm_Rep_writeStep M (0, 0) (mzK0 false B K) 0 [(0, .ref (mz_ad B (9, x))), (1, .int a1)] [] from (mz_aload_n d_Rep_writeStep_0 rfl (mz_bipush (47 : Int32) d_Rep_writeStep_1 (by decide) (mz_callV (As := [.int (47 : Int32)]) (st := []) (hF 9 x rfl hx) rfl (mzClOf cl_5) 0 0 d_Rep_writeStep_3 cs_Rep_write wl_Rep_28 wi_Rep_write wse_Rep_write (Nat.le_of_ble_eq_true rfl) (Nat.zero_le _) (Nat.zero_le _) (MzC.mono (tm_Rep_write (d := d) hF hx hL h) (fun r9 B9 M1 hq3 => by obtain ⟨rfl, hL2, rfl, hq3⟩ := hq3; exact ⟨none, rfl, (mz_iload_n d_Rep_writeStep_6 rfl (mz_istore_n d_Rep_writeStep_7 (by decide) (mz_iconst (0 : Int32) d_Rep_writeStep_8 (by decide) (mz_istore_n d_Rep_writeStep_9 (by decide) (MzS.loc [(0, .ref (mz_ad B (9, x))), (2, .int a1), (3, .int (0 : Int32))] ⟨rfl, rfl, rfl, trivial⟩ (match hq3 with | ⟨r4, h5⟩ => tm_Rep_writeStep_10 hF hx  r4 a1 (0 : Int32) M1 hL2 h5))))))⟩))))))
def mm_Rep_end : MzT := (⟨"ParcelLine$Replies", "end", "()V"⟩, prog_10_method_8_code, 1, (Option.none : Option Jvm.ClassFile.FieldType))
theorem cs_Rep_end {mm : MzT} : mzCall mm mm_Rep_end 0 := ⟨wn_Rep, wco_Rep_end, by decide +kernel, by decide⟩
theorem d_Rep_end_0 : decode mm_Rep_end.2.1 0 = .ok (.aload_n 0, 1) := by decide +kernel
theorem d_Rep_end_1 : decode mm_Rep_end.2.1 1 = .ok (.bipush 13, 2) := by decide +kernel
theorem d_Rep_end_3 : decode mm_Rep_end.2.1 3 = .ok (.invokevirtual 28, 3) := by decide +kernel
theorem d_Rep_end_6 : decode mm_Rep_end.2.1 6 = .ok (.aload_n 0, 1) := by decide +kernel
theorem d_Rep_end_7 : decode mm_Rep_end.2.1 7 = .ok (.bipush 10, 2) := by decide +kernel
theorem d_Rep_end_9 : decode mm_Rep_end.2.1 9 = .ok (.invokevirtual 28, 3) := by decide +kernel
theorem d_Rep_end_12 : decode mm_Rep_end.2.1 12 = .ok (.aload_n 0, 1) := by decide +kernel
theorem d_Rep_end_13 : decode mm_Rep_end.2.1 13 = .ok (.invokevirtual 32, 3) := by decide +kernel
theorem d_Rep_end_16 : decode mm_Rep_end.2.1 16 = .ok (.return_, 1) := by decide +kernel
def wp_Rep_end (x : Nat)  (M : MzM) (K : MzM → Prop) : Prop := wp_Rep_write x (13 : Int32) M (fun M1 => wp_Rep_write x (10 : Int32) M1 (fun M4 => wp_Rep_keepDraft x  M4 (fun M7 => K M7)))
theorem tm_Rep_end {G : MzG} {B : MzB} {d : Nat} {K : MzM → Prop} (hF : mzLive false B) {x : Nat} (hx : x < 2)  {M : MzM} (hL : mzLnk false M) (h : wp_Rep_end x  M K) : MzC G B (d + 1) mm_Rep_end [.ref (mz_ad B (9, x))] M (0, 0) (mzK0 false B K) := by
  unfold wp_Rep_end at h
  exact MzC.of rfl (Nat.le_of_ble_eq_true rfl) (show MzS G B (d + 1) mm_Rep_end M (0, 0) (mzK0 false B K) 0 [(0, .ref (mz_ad B (9, x)))] [] from (mz_aload_n d_Rep_end_0 rfl (mz_bipush (13 : Int32) d_Rep_end_1 (by decide) (mz_callV (As := [.int (13 : Int32)]) (st := []) (hF 9 x rfl hx) rfl (mzClOf cl_5) 0 0 d_Rep_end_3 cs_Rep_write wl_Rep_28 wi_Rep_write wse_Rep_write (Nat.le_of_ble_eq_true rfl) (Nat.zero_le _) (Nat.zero_le _) (MzC.mono (tm_Rep_write (d := d) hF hx hL h) (fun r9 B9 M1 hq3 => by obtain ⟨rfl, hL2, rfl, hq3⟩ := hq3; exact ⟨none, rfl, (mz_aload_n d_Rep_end_6 rfl (mz_bipush (10 : Int32) d_Rep_end_7 (by decide) (mz_callV (As := [.int (10 : Int32)]) (st := []) (hF 9 x rfl hx) rfl (mzClOf cl_5) 0 0 d_Rep_end_9 cs_Rep_write wl_Rep_28 wi_Rep_write wse_Rep_write (Nat.le_of_ble_eq_true rfl) (Nat.zero_le _) (Nat.zero_le _) (MzC.mono (tm_Rep_write (d := d) hF hx hL2 hq3) (fun r9 B9 M4 hq6 => by obtain ⟨rfl, hL5, rfl, hq6⟩ := hq6; exact ⟨none, rfl, (mz_aload_n d_Rep_end_12 rfl (mz_callV (As := []) (st := []) (hF 9 x rfl hx) rfl (mzClOf cl_5) 0 0 d_Rep_end_13 cs_Rep_keepDraft wl_Rep_32 wi_Rep_keepDraft wse_Rep_keepDraft (Nat.le_of_ble_eq_true rfl) (Nat.zero_le _) (Nat.zero_le _) (MzC.mono (tm_Rep_keepDraft (d := d) hF hx hL5 hq6) (fun r9 B9 M7 hq9 => by obtain ⟨rfl, hL8, rfl, hq9⟩ := hq9; exact ⟨none, rfl, (mz_vret d_Rep_end_16 rfl ⟨rfl, hL8, rfl, hq9⟩)⟩))))⟩)))))⟩))))))
def mm_Ses_answer : MzT := (⟨"ParcelLine$Session", "answer", "(I)V"⟩, prog_11_method_9_code, 4, (Option.none : Option Jvm.ClassFile.FieldType))
theorem cs_Ses_answer {mm : MzT} : mzCall mm mm_Ses_answer 1 := ⟨wn_Ses, wco_Ses_answer, by decide +kernel, by decide⟩
theorem d_Ses_answer_0 : decode mm_Ses_answer.2.1 0 = .ok (.aload_n 0, 1) := by decide +kernel
theorem d_Ses_answer_1 : decode mm_Ses_answer.2.1 1 = .ok (.getfield 22, 3) := by decide +kernel
theorem d_Ses_answer_4 : decode mm_Ses_answer.2.1 4 = .ok (.iload_n 1, 1) := by decide +kernel
theorem d_Ses_answer_5 : decode mm_Ses_answer.2.1 5 = .ok (.invokevirtual 172, 3) := by decide +kernel
theorem d_Ses_answer_8 : decode mm_Ses_answer.2.1 8 = .ok (.iload_n 1, 1) := by decide +kernel
theorem d_Ses_answer_9 : decode mm_Ses_answer.2.1 9 = .ok (.sipush 213, 3) := by decide +kernel
theorem d_Ses_answer_12 : decode mm_Ses_answer.2.1 12 = .ok (.if_icmp .ne 14, 3) := by decide +kernel
theorem d_Ses_answer_15 : decode mm_Ses_answer.2.1 15 = .ok (.aload_n 0, 1) := by decide +kernel
theorem d_Ses_answer_16 : decode mm_Ses_answer.2.1 16 = .ok (.getfield 22, 3) := by decide +kernel
theorem d_Ses_answer_19 : decode mm_Ses_answer.2.1 19 = .ok (.aload_n 0, 1) := by decide +kernel
theorem d_Ses_answer_20 : decode mm_Ses_answer.2.1 20 = .ok (.getfield 175, 3) := by decide +kernel
theorem d_Ses_answer_23 : decode mm_Ses_answer.2.1 23 = .ok (.invokevirtual 178, 3) := by decide +kernel
theorem d_Ses_answer_26 : decode mm_Ses_answer.2.1 26 = .ok (.iload_n 1, 1) := by decide +kernel
theorem d_Ses_answer_27 : decode mm_Ses_answer.2.1 27 = .ok (.sipush 257, 3) := by decide +kernel
theorem d_Ses_answer_30 : decode mm_Ses_answer.2.1 30 = .ok (.if_icmp .ne 79, 3) := by decide +kernel
theorem d_Ses_answer_33 : decode mm_Ses_answer.2.1 33 = .ok (.aload_n 0, 1) := by decide +kernel
theorem d_Ses_answer_34 : decode mm_Ses_answer.2.1 34 = .ok (.getfield 22, 3) := by decide +kernel
theorem d_Ses_answer_37 : decode mm_Ses_answer.2.1 37 = .ok (.bipush 32, 2) := by decide +kernel
theorem d_Ses_answer_39 : decode mm_Ses_answer.2.1 39 = .ok (.invokevirtual 181, 3) := by decide +kernel
theorem d_Ses_answer_42 : decode mm_Ses_answer.2.1 42 = .ok (.aload_n 0, 1) := by decide +kernel
theorem d_Ses_answer_43 : decode mm_Ses_answer.2.1 43 = .ok (.getfield 15, 3) := by decide +kernel
theorem d_Ses_answer_46 : decode mm_Ses_answer.2.1 46 = .ok (.aload_n 0, 1) := by decide +kernel
theorem d_Ses_answer_47 : decode mm_Ses_answer.2.1 47 = .ok (.getfield 184, 3) := by decide +kernel
theorem d_Ses_answer_50 : decode mm_Ses_answer.2.1 50 = .ok (.aload_n 0, 1) := by decide +kernel
theorem d_Ses_answer_51 : decode mm_Ses_answer.2.1 51 = .ok (.getfield 49, 3) := by decide +kernel
theorem d_Ses_answer_54 : decode mm_Ses_answer.2.1 54 = .ok (.invokevirtual 187, 3) := by decide +kernel
theorem d_Ses_answer_57 : decode mm_Ses_answer.2.1 57 = .ok (.istore_n 2, 1) := by decide +kernel
theorem d_Ses_answer_58 : decode mm_Ses_answer.2.1 58 = .ok (.iload_n 2, 1) := by decide +kernel
theorem d_Ses_answer_59 : decode mm_Ses_answer.2.1 59 = .ok (.ifCond .ne 12, 3) := by decide +kernel
theorem d_Ses_answer_62 : decode mm_Ses_answer.2.1 62 = .ok (.aload_n 0, 1) := by decide +kernel
theorem d_Ses_answer_63 : decode mm_Ses_answer.2.1 63 = .ok (.getfield 22, 3) := by decide +kernel
theorem d_Ses_answer_66 : decode mm_Ses_answer.2.1 66 = .ok (.bipush 47, 2) := by decide +kernel
theorem d_Ses_answer_68 : decode mm_Ses_answer.2.1 68 = .ok (.invokevirtual 181, 3) := by decide +kernel
theorem d_Ses_answer_71 : decode mm_Ses_answer.2.1 71 = .ok (.iload_n 2, 1) := by decide +kernel
theorem d_Ses_answer_72 : decode mm_Ses_answer.2.1 72 = .ok (.iconst 1, 1) := by decide +kernel
theorem d_Ses_answer_73 : decode mm_Ses_answer.2.1 73 = .ok (.isub, 1) := by decide +kernel
theorem d_Ses_answer_74 : decode mm_Ses_answer.2.1 74 = .ok (.istore_n 3, 1) := by decide +kernel
theorem d_Ses_answer_75 : decode mm_Ses_answer.2.1 75 = .ok (.iload_n 3, 1) := by decide +kernel
theorem d_Ses_answer_76 : decode mm_Ses_answer.2.1 76 = .ok (.ifCond .lt 33, 3) := by decide +kernel
theorem d_Ses_answer_79 : decode mm_Ses_answer.2.1 79 = .ok (.aload_n 0, 1) := by decide +kernel
theorem d_Ses_answer_80 : decode mm_Ses_answer.2.1 80 = .ok (.getfield 22, 3) := by decide +kernel
theorem d_Ses_answer_83 : decode mm_Ses_answer.2.1 83 = .ok (.aload_n 0, 1) := by decide +kernel
theorem d_Ses_answer_84 : decode mm_Ses_answer.2.1 84 = .ok (.getfield 15, 3) := by decide +kernel
theorem d_Ses_answer_87 : decode mm_Ses_answer.2.1 87 = .ok (.getfield 190, 3) := by decide +kernel
theorem d_Ses_answer_90 : decode mm_Ses_answer.2.1 90 = .ok (.aload_n 0, 1) := by decide +kernel
theorem d_Ses_answer_91 : decode mm_Ses_answer.2.1 91 = .ok (.getfield 49, 3) := by decide +kernel
theorem d_Ses_answer_94 : decode mm_Ses_answer.2.1 94 = .ok (.iload_n 3, 1) := by decide +kernel
theorem d_Ses_answer_95 : decode mm_Ses_answer.2.1 95 = .ok (.iaload, 1) := by decide +kernel
theorem d_Ses_answer_96 : decode mm_Ses_answer.2.1 96 = .ok (.aaload, 1) := by decide +kernel
theorem d_Ses_answer_97 : decode mm_Ses_answer.2.1 97 = .ok (.getfield 194, 3) := by decide +kernel
theorem d_Ses_answer_100 : decode mm_Ses_answer.2.1 100 = .ok (.invokevirtual 197, 3) := by decide +kernel
theorem d_Ses_answer_103 : decode mm_Ses_answer.2.1 103 = .ok (.iinc 3 (-1), 3) := by decide +kernel
theorem d_Ses_answer_106 : decode mm_Ses_answer.2.1 106 = .ok (.goto (-31), 3) := by decide +kernel
theorem d_Ses_answer_109 : decode mm_Ses_answer.2.1 109 = .ok (.aload_n 0, 1) := by decide +kernel
theorem d_Ses_answer_110 : decode mm_Ses_answer.2.1 110 = .ok (.getfield 22, 3) := by decide +kernel
theorem d_Ses_answer_113 : decode mm_Ses_answer.2.1 113 = .ok (.invokevirtual 200, 3) := by decide +kernel
theorem d_Ses_answer_116 : decode mm_Ses_answer.2.1 116 = .ok (.return_, 1) := by decide +kernel
def wp_Ses_answer_75 (x : Nat)  (K : MzM → Prop) : Nat → Int32 → MzM → Prop
  | 0, _, _ => False
  | r0 + 1, y3, M => ((y3 < 0 → wp_Rep_end x  M (fun M25 => K M25)) ∧ (¬ y3 < 0 → (∃ j28 : Nat, y3.toInt = (j28 : Int) ∧ j28 < 16 ∧ (∃ j32 : Nat, (mz_i M (18, x) j28).toInt = (j32 : Int) ∧ j32 < 16 ∧ wp_Rep_writeStep x (mz_i M (3, j32) 3) M (fun M36 => (wp_Ses_answer_75 x  K r0) (y3 + (-1 : Int32)) M36)))))
def wp_Ses_answer_71 (x : Nat)  (K : MzM → Prop) (y2 : Int32) (M : MzM) : Prop := (∃ r23 : Nat, wp_Ses_answer_75 x  K r23 (y2 - (1 : Int32)) M)
def wp_Ses_answer_26 (x : Nat)  (K : MzM → Prop) (y1 : Int32) (M : MzM) : Prop := ((¬ y1 = (257 : Int32) → wp_Rep_end x  M (fun M8 => K M8)) ∧ (y1 = (257 : Int32) → wp_Rep_write x (32 : Int32) M (fun M11 => wp_Store_lineage x (mz_i M11 (8, x) 15) M11 (fun v17 M14 => ((¬ v17 = 0 → wp_Ses_answer_71 x  K v17 M14) ∧ (v17 = 0 → wp_Rep_write x (47 : Int32) M14 (fun M18 => wp_Ses_answer_71 x  K v17 M18)))))))
def wp_Ses_answer (x : Nat) (a1 : Int32) (M : MzM) (K : MzM → Prop) : Prop := wp_Rep_begin x a1 M (fun M1 => ((¬ a1 = (213 : Int32) → wp_Ses_answer_26 x  K a1 M1) ∧ (a1 = (213 : Int32) → wp_Rep_writeNumber x (mz_i M1 (8, x) 14) M1 (fun M4 => wp_Ses_answer_26 x  K a1 M4))))
theorem tm_Ses_answer_75 {G : MzG} {B : MzB} {d : Nat} {K : MzM → Prop} (hF : mzLive false B) {x : Nat} (hx : x < 2)   : ∀ (r0 : Nat) (y3 : Int32) (M : MzM), mzLnk false M → wp_Ses_answer_75 x  K r0 y3 M → MzS G B (d + 2) mm_Ses_answer M (0, 0) (mzK0 false B K) 75 [(0, .ref (mz_ad B (8, x))), (3, .int y3)] [] := by
  intro r0
  induction r0 with
  | zero => intro y3 M hL h; exact False.elim h
  | succ r0 hH75 =>
    intro y3 M hL h
    unfold wp_Ses_answer_75 at h
    exact (mz_iload_n d_Ses_answer_75 rfl (mz_if_lt 109 d_Ses_answer_76 rfl (fun hc39 => (mz_aload_n d_Ses_answer_109 rfl (mz_getR (k := 2) (a := (9, x)) cl_4 d_Ses_answer_110 (by decide) wf_Ses_22 rfl (hF 8 x rfl hx) rfl (hL (8, x) 2 (9, x) rfl rfl hx) (mz_callV (As := []) (st := []) (hF 9 x rfl hx) rfl (mzClOf cl_5) 0 0 d_Ses_answer_113 cs_Rep_end wl_Ses_200 wi_Rep_end wse_Rep_end (Nat.le_of_ble_eq_true rfl) (Nat.zero_le _) (Nat.zero_le _) (MzC.mono (tm_Rep_end (d := d) hF hx hL (h.1 hc39)) (fun r9 B9 M25 hq27 => by obtain ⟨rfl, hL26, rfl, hq27⟩ := hq27; exact ⟨none, rfl, (mz_vret d_Ses_answer_116 rfl ⟨rfl, hL26, rfl, hq27⟩)⟩)))))) (fun hc39 => (mz_aload_n d_Ses_answer_79 rfl (mz_getR (k := 2) (a := (9, x)) cl_4 d_Ses_answer_80 (by decide) wf_Ses_22 rfl (hF 8 x rfl hx) rfl (hL (8, x) 2 (9, x) rfl rfl hx) (mz_aload_n d_Ses_answer_83 rfl (mz_getR (k := 1) (a := (1, 0)) cl_4 d_Ses_answer_84 (by decide) wf_Ses_15 rfl (hF 8 x rfl hx) rfl (hL (8, x) 1 (1, 0) rfl rfl hx) (mz_getRN (k := 0) (a := (2, 0)) cl_1 d_Ses_answer_87 (by decide) wf_Ses_190 rfl (hF 1 0 rfl (by decide)) rfl (hL (1, 0) 0 (2, 0) rfl rfl (by decide)) (mz_aload_n d_Ses_answer_90 rfl (mz_getR (k := 6) (a := (18, x)) cl_4 d_Ses_answer_91 (by decide) wf_Ses_49 rfl (hF 8 x rfl hx) rfl (hL (8, x) 6 (18, x) rfl rfl hx) (mz_iload_n d_Ses_answer_94 rfl (match (h.2 hc39) with | ⟨j28, h29, h30, h31⟩ => mz_iald j28 d_Ses_answer_95 (hF 18 x rfl hx) rfl h29 h30 (match h31 with | ⟨j32, h33, h34, h35⟩ => mz_aald (a := (3, j32)) j32 d_Ses_answer_96 (hF 2 0 rfl (by decide)) rfl h33 h34 (hL (2, 0) j32 (3, j32) rfl (mzLk_2 h34) (by decide)) (mz_getIN (k := 3) cl_2 d_Ses_answer_97 (by decide) wf_Ses_194 rfl (hF 3 j32 rfl h34) rfl (mz_callV (As := [.int (mz_i M (3, j32) 3)]) (st := []) (hF 9 x rfl hx) rfl (mzClOf cl_5) 0 0 d_Ses_answer_100 cs_Rep_writeStep wl_Ses_197 wi_Rep_writeStep wse_Rep_writeStep (Nat.le_of_ble_eq_true rfl) (Nat.zero_le _) (Nat.zero_le _) (MzC.mono (tm_Rep_writeStep (d := d) hF hx hL h35) (fun r9 B9 M36 hq38 => by obtain ⟨rfl, hL37, rfl, hq38⟩ := hq38; exact ⟨none, rfl, (mz_iinc (y3 + (-1 : Int32)) d_Ses_answer_103 rfl (by decide) rfl (mz_goto 75 d_Ses_answer_106 rfl (MzS.loc [(0, .ref (mz_ad B (8, x))), (3, .int (y3 + (-1 : Int32)))] ⟨rfl, rfl, trivial⟩ (hH75 (y3 + (-1 : Int32)) M36 hL37 hq38))))⟩)))))))))))))))))
theorem tm_Ses_answer_71 {G : MzG} {B : MzB} {d : Nat} {K : MzM → Prop} (hF : mzLive false B) {x : Nat} (hx : x < 2)   (y2 : Int32) (M : MzM) (hL : mzLnk false M) (h : wp_Ses_answer_71 x  K y2 M) : MzS G B (d + 2) mm_Ses_answer M (0, 0) (mzK0 false B K) 71 [(0, .ref (mz_ad B (8, x))), (2, .int y2)] [] := by
  unfold wp_Ses_answer_71 at h
  exact (mz_iload_n d_Ses_answer_71 rfl (mz_iconst (1 : Int32) d_Ses_answer_72 (by decide) (mz_isub d_Ses_answer_73 (mz_istore_n d_Ses_answer_74 (by decide) (MzS.loc [(0, .ref (mz_ad B (8, x))), (3, .int (y2 - (1 : Int32)))] ⟨rfl, rfl, trivial⟩ (match h with | ⟨r23, h24⟩ => tm_Ses_answer_75 hF hx  r23 (y2 - (1 : Int32)) M hL h24))))))
theorem tm_Ses_answer_26 {G : MzG} {B : MzB} {d : Nat} {K : MzM → Prop} (hF : mzLive false B) {x : Nat} (hx : x < 2)   (y1 : Int32) (M : MzM) (hL : mzLnk false M) (h : wp_Ses_answer_26 x  K y1 M) : MzS G B (d + 2) mm_Ses_answer M (0, 0) (mzK0 false B K) 26 [(0, .ref (mz_ad B (8, x))), (1, .int y1)] [] := by
  unfold wp_Ses_answer_26 at h
  exact (mz_iload_n d_Ses_answer_26 rfl (mz_sipush (257 : Int32) d_Ses_answer_27 (by decide) (mz_icmp_ne 109 d_Ses_answer_30 rfl (fun hc22 => (mz_aload_n d_Ses_answer_109 rfl (mz_getR (k := 2) (a := (9, x)) cl_4 d_Ses_answer_110 (by decide) wf_Ses_22 rfl (hF 8 x rfl hx) rfl (hL (8, x) 2 (9, x) rfl rfl hx) (mz_callV (As := []) (st := []) (hF 9 x rfl hx) rfl (mzClOf cl_5) 0 0 d_Ses_answer_113 cs_Rep_end wl_Ses_200 wi_Rep_end wse_Rep_end (Nat.le_of_ble_eq_true rfl) (Nat.zero_le _) (Nat.zero_le _) (MzC.mono (tm_Rep_end (d := d) hF hx hL (h.1 hc22)) (fun r9 B9 M8 hq10 => by obtain ⟨rfl, hL9, rfl, hq10⟩ := hq10; exact ⟨none, rfl, (mz_vret d_Ses_answer_116 rfl ⟨rfl, hL9, rfl, hq10⟩)⟩)))))) (fun hc22 => (mz_aload_n d_Ses_answer_33 rfl (mz_getR (k := 2) (a := (9, x)) cl_4 d_Ses_answer_34 (by decide) wf_Ses_22 rfl (hF 8 x rfl hx) rfl (hL (8, x) 2 (9, x) rfl rfl hx) (mz_bipush (32 : Int32) d_Ses_answer_37 (by decide) (mz_callV (As := [.int (32 : Int32)]) (st := []) (hF 9 x rfl hx) rfl (mzClOf cl_5) 0 0 d_Ses_answer_39 cs_Rep_write wl_Ses_181 wi_Rep_write wse_Rep_write (Nat.le_of_ble_eq_true rfl) (Nat.zero_le _) (Nat.zero_le _) (MzC.mono (tm_Rep_write (d := (d + 1)) hF hx hL (h.2 hc22)) (fun r9 B9 M11 hq13 => by obtain ⟨rfl, hL12, rfl, hq13⟩ := hq13; exact ⟨none, rfl, (mz_aload_n d_Ses_answer_42 rfl (mz_getR (k := 1) (a := (1, 0)) cl_4 d_Ses_answer_43 (by decide) wf_Ses_15 rfl (hF 8 x rfl hx) rfl (hL12 (8, x) 1 (1, 0) rfl rfl hx) (mz_aload_n d_Ses_answer_46 rfl (mz_getI (k := 15) cl_4 d_Ses_answer_47 (by decide) wf_Ses_184 rfl (hF 8 x rfl hx) rfl (mz_aload_n d_Ses_answer_50 rfl (mz_getR (k := 6) (a := (18, x)) cl_4 d_Ses_answer_51 (by decide) wf_Ses_49 rfl (hF 8 x rfl hx) rfl (hL12 (8, x) 6 (18, x) rfl rfl hx) (mz_callV (As := [.int (mz_i M11 (8, x) 15), .ref (mz_ad B (18, x))]) (st := []) (hF 1 0 rfl (by decide)) rfl (mzClOf cl_1) 0 0 d_Ses_answer_54 cs_Store_lineage wl_Ses_187 wi_Store_lineage wse_Store_lineage (Nat.le_of_ble_eq_true rfl) (Nat.zero_le _) (Nat.zero_le _) (MzC.mono (tm_Store_lineage (d := (d + 1)) hF hx hL12 hq13) (fun r9 B9 M14 hq16 => by obtain ⟨rfl, hL15, v17, rfl, hq16⟩ := hq16; exact ⟨_, rfl, (mz_istore_n d_Ses_answer_57 (by decide) (mz_iload_n d_Ses_answer_58 rfl (mz_if_ne 71 d_Ses_answer_59 rfl (fun hc21 => (MzS.loc [(0, .ref (mz_ad B (8, x))), (2, .int v17)] ⟨rfl, rfl, trivial⟩ (tm_Ses_answer_71 hF hx  v17 M14 hL15 (hq16.1 hc21)))) (fun hc21 => (mz_aload_n d_Ses_answer_62 rfl (mz_getR (k := 2) (a := (9, x)) cl_4 d_Ses_answer_63 (by decide) wf_Ses_22 rfl (hF 8 x rfl hx) rfl (hL15 (8, x) 2 (9, x) rfl rfl hx) (mz_bipush (47 : Int32) d_Ses_answer_66 (by decide) (mz_callV (As := [.int (47 : Int32)]) (st := []) (hF 9 x rfl hx) rfl (mzClOf cl_5) 0 0 d_Ses_answer_68 cs_Rep_write wl_Ses_181 wi_Rep_write wse_Rep_write (Nat.le_of_ble_eq_true rfl) (Nat.zero_le _) (Nat.zero_le _) (MzC.mono (tm_Rep_write (d := (d + 1)) hF hx hL15 (hq16.2 hc21)) (fun r9 B9 M18 hq20 => by obtain ⟨rfl, hL19, rfl, hq20⟩ := hq20; exact ⟨none, rfl, (MzS.loc [(0, .ref (mz_ad B (8, x))), (2, .int v17)] ⟨rfl, rfl, trivial⟩ (tm_Ses_answer_71 hF hx  v17 M18 hL19 hq20))⟩))))))))))⟩)))))))))⟩))))))))))
theorem tm_Ses_answer {G : MzG} {B : MzB} {d : Nat} {K : MzM → Prop} (hF : mzLive false B) {x : Nat} (hx : x < 2) {a1 : Int32} {M : MzM} (hL : mzLnk false M) (h : wp_Ses_answer x a1 M K) : MzC G B (d + 2) mm_Ses_answer [.ref (mz_ad B (8, x)), .int a1] M (0, 0) (mzK0 false B K) := by
  unfold wp_Ses_answer at h
  exact MzC.of rfl (Nat.le_of_ble_eq_true rfl) (show MzS G B (d + 2) mm_Ses_answer M (0, 0) (mzK0 false B K) 0 [(0, .ref (mz_ad B (8, x))), (1, .int a1)] [] from (mz_aload_n d_Ses_answer_0 rfl (mz_getR (k := 2) (a := (9, x)) cl_4 d_Ses_answer_1 (by decide) wf_Ses_22 rfl (hF 8 x rfl hx) rfl (hL (8, x) 2 (9, x) rfl rfl hx) (mz_iload_n d_Ses_answer_4 rfl (mz_callV (As := [.int a1]) (st := []) (hF 9 x rfl hx) rfl (mzClOf cl_5) 0 0 d_Ses_answer_5 cs_Rep_begin wl_Ses_172 wi_Rep_begin wse_Rep_begin (Nat.le_of_ble_eq_true rfl) (Nat.zero_le _) (Nat.zero_le _) (MzC.mono (tm_Rep_begin (d := d) hF hx hL h) (fun r9 B9 M1 hq3 => by obtain ⟨rfl, hL2, rfl, hq3⟩ := hq3; exact ⟨none, rfl, (mz_iload_n d_Ses_answer_8 rfl (mz_sipush (213 : Int32) d_Ses_answer_9 (by decide) (mz_icmp_ne 26 d_Ses_answer_12 rfl (fun hc7 => (MzS.loc [(0, .ref (mz_ad B (8, x))), (1, .int a1)] ⟨rfl, rfl, trivial⟩ (tm_Ses_answer_26 hF hx  a1 M1 hL2 (hq3.1 hc7)))) (fun hc7 => (mz_aload_n d_Ses_answer_15 rfl (mz_getR (k := 2) (a := (9, x)) cl_4 d_Ses_answer_16 (by decide) wf_Ses_22 rfl (hF 8 x rfl hx) rfl (hL2 (8, x) 2 (9, x) rfl rfl hx) (mz_aload_n d_Ses_answer_19 rfl (mz_getI (k := 14) cl_4 d_Ses_answer_20 (by decide) wf_Ses_175 rfl (hF 8 x rfl hx) rfl (mz_callV (As := [.int (mz_i M1 (8, x) 14)]) (st := []) (hF 9 x rfl hx) rfl (mzClOf cl_5) 0 0 d_Ses_answer_23 cs_Rep_writeNumber wl_Ses_178 wi_Rep_writeNumber wse_Rep_writeNumber (Nat.le_of_ble_eq_true rfl) (Nat.zero_le _) (Nat.zero_le _) (MzC.mono (tm_Rep_writeNumber (d := d) hF hx hL2 (hq3.2 hc7)) (fun r9 B9 M4 hq6 => by obtain ⟨rfl, hL5, rfl, hq6⟩ := hq6; exact ⟨none, rfl, (MzS.loc [(0, .ref (mz_ad B (8, x))), (1, .int a1)] ⟨rfl, rfl, trivial⟩ (tm_Ses_answer_26 hF hx  a1 M4 hL5 hq6))⟩)))))))))))⟩)))))))
def mm_Way_isSpent : MzT := (⟨"ParcelLine$DataWay", "isSpent", "()Z"⟩, prog_6_method_8_code, 1, (Option.some Jvm.ClassFile.FieldType.boolean))
theorem cs_Way_isSpent {mm : MzT} : mzCall mm mm_Way_isSpent 0 := ⟨wn_Way, wco_Way_isSpent, by decide +kernel, by decide⟩
theorem d_Way_isSpent_0 : decode mm_Way_isSpent.2.1 0 = .ok (.aload_n 0, 1) := by decide +kernel
theorem d_Way_isSpent_1 : decode mm_Way_isSpent.2.1 1 = .ok (.getfield 64, 3) := by decide +kernel
theorem d_Way_isSpent_4 : decode mm_Way_isSpent.2.1 4 = .ok (.aload_n 0, 1) := by decide +kernel
theorem d_Way_isSpent_5 : decode mm_Way_isSpent.2.1 5 = .ok (.getfield 15, 3) := by decide +kernel
theorem d_Way_isSpent_8 : decode mm_Way_isSpent.2.1 8 = .ok (.if_icmp .lt 7, 3) := by decide +kernel
theorem d_Way_isSpent_11 : decode mm_Way_isSpent.2.1 11 = .ok (.iconst 1, 1) := by decide +kernel
theorem d_Way_isSpent_12 : decode mm_Way_isSpent.2.1 12 = .ok (.goto 4, 3) := by decide +kernel
theorem d_Way_isSpent_15 : decode mm_Way_isSpent.2.1 15 = .ok (.iconst 0, 1) := by decide +kernel
theorem d_Way_isSpent_16 : decode mm_Way_isSpent.2.1 16 = .ok (.ireturn, 1) := by decide +kernel
def wp_Way_isSpent (x : Nat)  (M : MzM) (K : Int32 → MzM → Prop) : Prop := (((mz_i M (16, x) 6) < (mz_i M (16, x) 7) → K (0 : Int32) M) ∧ (¬ (mz_i M (16, x) 6) < (mz_i M (16, x) 7) → K (1 : Int32) M))
theorem tm_Way_isSpent {G : MzG} {B : MzB} {d : Nat} {K : Int32 → MzM → Prop} (hF : mzLive false B) {x : Nat} (hx : x < 2)  {M : MzM} (hL : mzLnk false M) (h : wp_Way_isSpent x  M K) : MzC G B d mm_Way_isSpent [.ref (mz_ad B (16, x))] M (0, 0) (mzK1 false B K) := by
  unfold wp_Way_isSpent at h
  exact MzC.of rfl (Nat.le_of_ble_eq_true rfl) (show MzS G B d mm_Way_isSpent M (0, 0) (mzK1 false B K) 0 [(0, .ref (mz_ad B (16, x)))] [] from (mz_aload_n d_Way_isSpent_0 rfl (mz_getI (k := 6) cl_8 d_Way_isSpent_1 (by decide) wf_Way_64 rfl (hF 16 x rfl hx) rfl (mz_aload_n d_Way_isSpent_4 rfl (mz_getI (k := 7) cl_8 d_Way_isSpent_5 (by decide) wf_Way_15 rfl (hF 16 x rfl hx) rfl (mz_icmp_lt 15 d_Way_isSpent_8 rfl (fun hc1 => (mz_iconst (0 : Int32) d_Way_isSpent_15 (by decide) (mz_iret .boolean d_Way_isSpent_16 rfl rfl ⟨rfl, hL, _, rfl, (h.1 hc1)⟩))) (fun hc1 => (mz_iconst (1 : Int32) d_Way_isSpent_11 (by decide) (mz_goto 16 d_Way_isSpent_12 rfl (mz_iret .boolean d_Way_isSpent_16 rfl rfl ⟨rfl, hL, _, rfl, (h.2 hc1)⟩))))))))))
def mm_Ses_endIfSpent : MzT := (⟨"ParcelLine$Session", "endIfSpent", "()V"⟩, prog_11_method_8_code, 1, (Option.none : Option Jvm.ClassFile.FieldType))
theorem cs_Ses_endIfSpent {mm : MzT} : mzCall mm mm_Ses_endIfSpent 0 := ⟨wn_Ses, wco_Ses_endIfSpent, by decide +kernel, by decide⟩
theorem d_Ses_endIfSpent_0 : decode mm_Ses_endIfSpent.2.1 0 = .ok (.aload_n 0, 1) := by decide +kernel
theorem d_Ses_endIfSpent_1 : decode mm_Ses_endIfSpent.2.1 1 = .ok (.getfield 45, 3) := by decide +kernel
theorem d_Ses_endIfSpent_4 : decode mm_Ses_endIfSpent.2.1 4 = .ok (.getfield 152, 3) := by decide +kernel
theorem d_Ses_endIfSpent_7 : decode mm_Ses_endIfSpent.2.1 7 = .ok (.iconst 1, 1) := by decide +kernel
theorem d_Ses_endIfSpent_8 : decode mm_Ses_endIfSpent.2.1 8 = .ok (.if_icmp .ne 27, 3) := by decide +kernel
theorem d_Ses_endIfSpent_11 : decode mm_Ses_endIfSpent.2.1 11 = .ok (.aload_n 0, 1) := by decide +kernel
theorem d_Ses_endIfSpent_12 : decode mm_Ses_endIfSpent.2.1 12 = .ok (.getfield 45, 3) := by decide +kernel
theorem d_Ses_endIfSpent_15 : decode mm_Ses_endIfSpent.2.1 15 = .ok (.invokevirtual 168, 3) := by decide +kernel
theorem d_Ses_endIfSpent_18 : decode mm_Ses_endIfSpent.2.1 18 = .ok (.ifCond .eq 17, 3) := by decide +kernel
theorem d_Ses_endIfSpent_21 : decode mm_Ses_endIfSpent.2.1 21 = .ok (.aload_n 0, 1) := by decide +kernel
theorem d_Ses_endIfSpent_22 : decode mm_Ses_endIfSpent.2.1 22 = .ok (.getfield 45, 3) := by decide +kernel
theorem d_Ses_endIfSpent_25 : decode mm_Ses_endIfSpent.2.1 25 = .ok (.invokevirtual 121, 3) := by decide +kernel
theorem d_Ses_endIfSpent_28 : decode mm_Ses_endIfSpent.2.1 28 = .ok (.aload_n 0, 1) := by decide +kernel
theorem d_Ses_endIfSpent_29 : decode mm_Ses_endIfSpent.2.1 29 = .ok (.sipush 226, 3) := by decide +kernel
theorem d_Ses_endIfSpent_32 : decode mm_Ses_endIfSpent.2.1 32 = .ok (.invokevirtual 114, 3) := by decide +kernel
theorem d_Ses_endIfSpent_35 : decode mm_Ses_endIfSpent.2.1 35 = .ok (.return_, 1) := by decide +kernel
def wp_Ses_endIfSpent (x : Nat)  (M : MzM) (K : MzM → Prop) : Prop := ((¬ (mz_i M (16, x) 1) = (1 : Int32) → K M) ∧ ((mz_i M (16, x) 1) = (1 : Int32) → wp_Way_isSpent x  M (fun v4 M1 => ((v4 = 0 → K M1) ∧ (¬ v4 = 0 → wp_Way_end x  M1 (fun M5 => wp_Ses_answer x (226 : Int32) M5 (fun M8 => K M8)))))))
theorem tm_Ses_endIfSpent {G : MzG} {B : MzB} {d : Nat} {K : MzM → Prop} (hF : mzLive false B) {x : Nat} (hx : x < 2)  {M : MzM} (hL : mzLnk false M) (h : wp_Ses_endIfSpent x  M K) : MzC G B (d + 3) mm_Ses_endIfSpent [.ref (mz_ad B (8, x))] M (0, 0) (mzK0 false B K) := by
  unfold wp_Ses_endIfSpent at h
  exact MzC.of rfl (Nat.le_of_ble_eq_true rfl) (show MzS G B (d + 3) mm_Ses_endIfSpent M (0, 0) (mzK0 false B K) 0 [(0, .ref (mz_ad B (8, x)))] [] from (mz_aload_n d_Ses_endIfSpent_0 rfl (mz_getR (k := 5) (a := (16, x)) cl_4 d_Ses_endIfSpent_1 (by decide) wf_Ses_45 rfl (hF 8 x rfl hx) rfl (hL (8, x) 5 (16, x) rfl rfl hx) (mz_getIN (k := 1) cl_8 d_Ses_endIfSpent_4 (by decide) wf_Ses_152 rfl (hF 16 x rfl hx) rfl (mz_iconst (1 : Int32) d_Ses_endIfSpent_7 (by decide) (mz_icmp_ne 35 d_Ses_endIfSpent_8 rfl (fun hc12 => (mz_vret d_Ses_endIfSpent_35 rfl ⟨rfl, hL, rfl, (h.1 hc12)⟩)) (fun hc12 => (mz_aload_n d_Ses_endIfSpent_11 rfl (mz_getR (k := 5) (a := (16, x)) cl_4 d_Ses_endIfSpent_12 (by decide) wf_Ses_45 rfl (hF 8 x rfl hx) rfl (hL (8, x) 5 (16, x) rfl rfl hx) (mz_callV (As := []) (st := []) (hF 16 x rfl hx) rfl (mzClOf cl_8) 0 0 d_Ses_endIfSpent_15 cs_Way_isSpent wl_Ses_168 wi_Way_isSpent wse_Way_isSpent (Nat.le_of_ble_eq_true rfl) (Nat.zero_le _) (Nat.zero_le _) (MzC.mono (tm_Way_isSpent (d := (d + 2)) hF hx hL (h.2 hc12)) (fun r9 B9 M1 hq3 => by obtain ⟨rfl, hL2, v4, rfl, hq3⟩ := hq3; exact ⟨_, rfl, (mz_if_eq 35 d_Ses_endIfSpent_18 rfl (fun hc11 => (mz_vret d_Ses_endIfSpent_35 rfl ⟨rfl, hL2, rfl, (hq3.1 hc11)⟩)) (fun hc11 => (mz_aload_n d_Ses_endIfSpent_21 rfl (mz_getR (k := 5) (a := (16, x)) cl_4 d_Ses_endIfSpent_22 (by decide) wf_Ses_45 rfl (hF 8 x rfl hx) rfl (hL2 (8, x) 5 (16, x) rfl rfl hx) (mz_callV (As := []) (st := []) (hF 16 x rfl hx) rfl (mzClOf cl_8) 0 0 d_Ses_endIfSpent_25 cs_Way_end wl_Ses_121 wi_Way_end wse_Way_end (Nat.le_of_ble_eq_true rfl) (Nat.zero_le _) (Nat.zero_le _) (MzC.mono (tm_Way_end (d := (d + 1)) hF hx hL2 (hq3.2 hc11)) (fun r9 B9 M5 hq7 => by obtain ⟨rfl, hL6, rfl, hq7⟩ := hq7; exact ⟨none, rfl, (mz_aload_n d_Ses_endIfSpent_28 rfl (mz_sipush (226 : Int32) d_Ses_endIfSpent_29 (by decide) (mz_callV (As := [.int (226 : Int32)]) (st := []) (hF 8 x rfl hx) rfl (mzClOf cl_4) 0 0 d_Ses_endIfSpent_32 cs_Ses_answer wl_Ses_114 wi_Ses_answer wse_Ses_answer (Nat.le_of_ble_eq_true rfl) (Nat.zero_le _) (Nat.zero_le _) (MzC.mono (tm_Ses_answer (d := d) hF hx hL6 hq7) (fun r9 B9 M8 hq10 => by obtain ⟨rfl, hL9, rfl, hq10⟩ := hq10; exact ⟨none, rfl, (mz_vret d_Ses_endIfSpent_35 rfl ⟨rfl, hL9, rfl, hq10⟩)⟩)))))⟩)))))))⟩))))))))))))
