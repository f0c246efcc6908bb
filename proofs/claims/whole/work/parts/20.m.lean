def mm_Mo_depth : MzT := (⟨"ParcelLineModel", "depth", "(I)I"⟩, prog_14_method_16_code, 4, (Option.some Jvm.ClassFile.FieldType.int))
theorem cs_Mo_depth {mm : MzT} : mzCall mm mm_Mo_depth 1 := ⟨wn_Mo, wco_Mo_depth, by decide +kernel, by decide⟩
theorem d_Mo_depth_0 : decode mm_Mo_depth.2.1 0 = .ok (.iconst 0, 1) := by decide +kernel
theorem d_Mo_depth_1 : decode mm_Mo_depth.2.1 1 = .ok (.istore_n 2, 1) := by decide +kernel
theorem d_Mo_depth_2 : decode mm_Mo_depth.2.1 2 = .ok (.iload_n 1, 1) := by decide +kernel
theorem d_Mo_depth_3 : decode mm_Mo_depth.2.1 3 = .ok (.istore_n 3, 1) := by decide +kernel
theorem d_Mo_depth_4 : decode mm_Mo_depth.2.1 4 = .ok (.aload_n 0, 1) := by decide +kernel
theorem d_Mo_depth_5 : decode mm_Mo_depth.2.1 5 = .ok (.getfield 41, 3) := by decide +kernel
theorem d_Mo_depth_8 : decode mm_Mo_depth.2.1 8 = .ok (.iload_n 3, 1) := by decide +kernel
theorem d_Mo_depth_9 : decode mm_Mo_depth.2.1 9 = .ok (.iaload, 1) := by decide +kernel
theorem d_Mo_depth_10 : decode mm_Mo_depth.2.1 10 = .ok (.ifCond .lt 16, 3) := by decide +kernel
theorem d_Mo_depth_13 : decode mm_Mo_depth.2.1 13 = .ok (.aload_n 0, 1) := by decide +kernel
theorem d_Mo_depth_14 : decode mm_Mo_depth.2.1 14 = .ok (.getfield 41, 3) := by decide +kernel
theorem d_Mo_depth_17 : decode mm_Mo_depth.2.1 17 = .ok (.iload_n 3, 1) := by decide +kernel
theorem d_Mo_depth_18 : decode mm_Mo_depth.2.1 18 = .ok (.iaload, 1) := by decide +kernel
theorem d_Mo_depth_19 : decode mm_Mo_depth.2.1 19 = .ok (.istore_n 3, 1) := by decide +kernel
theorem d_Mo_depth_20 : decode mm_Mo_depth.2.1 20 = .ok (.iinc 2 1, 3) := by decide +kernel
theorem d_Mo_depth_23 : decode mm_Mo_depth.2.1 23 = .ok (.goto (-19), 3) := by decide +kernel
theorem d_Mo_depth_26 : decode mm_Mo_depth.2.1 26 = .ok (.iload_n 2, 1) := by decide +kernel
theorem d_Mo_depth_27 : decode mm_Mo_depth.2.1 27 = .ok (.ireturn, 1) := by decide +kernel
def wp_Mo_depth_4   (K : Int32 → MzM → Prop) : Nat → Int32 → Int32 → MzM → Prop
  | 0, _, _, _ => False
  | r0 + 1, y2, y3, M => (∃ j3 : Nat, y3.toInt = (j3 : Int) ∧ j3 < 16 ∧ (((mz_i M (34, 0) j3) < 0 → K y2 M) ∧ (¬ (mz_i M (34, 0) j3) < 0 → (∃ j7 : Nat, y3.toInt = (j7 : Int) ∧ j7 < 16 ∧ (wp_Mo_depth_4   K r0) (y2 + (1 : Int32)) (mz_i M (34, 0) j7) M))))
def wp_Mo_depth  (a1 : Int32) (M : MzM) (K : Int32 → MzM → Prop) : Prop := (∃ r1 : Nat, wp_Mo_depth_4   K r1 (0 : Int32) a1 M)
theorem tm_Mo_depth_4 {G : MzG} {B : MzB} {d : Nat} {K : Int32 → MzM → Prop} (hF : mzLive B)     : ∀ (r0 : Nat) (y2 : Int32) (y3 : Int32) (M : MzM), mzLnk M → wp_Mo_depth_4   K r0 y2 y3 M → MzS G B d mm_Mo_depth M (0, 0) (mzK1 B K) 4 [(0, .ref (mz_ad B (30, 0))), (2, .int y2), (3, .int y3)] [] := by
  intro r0
  induction r0 with
  | zero => intro y2 y3 M hL h; exact False.elim h
  | succ r0 hH4 =>
    intro y2 y3 M hL h
    unfold wp_Mo_depth_4 at h
    exact (mz_aload_n d_Mo_depth_4 rfl (mz_getR (k := 4) (a := (34, 0)) cl_10 d_Mo_depth_5 (by decide) wf_Mo_41 rfl (hF 30 0 (by decide)) rfl (hL (30, 0) 4 (34, 0) rfl (by decide)) (mz_iload_n d_Mo_depth_8 rfl (match h with | ⟨j3, h4, h5, h6⟩ => mz_iald j3 d_Mo_depth_9 (hF 34 0 (by decide)) rfl h4 h5 (mz_if_lt 26 d_Mo_depth_10 rfl (fun hc11 => (mz_iload_n d_Mo_depth_26 rfl (mz_iret .int d_Mo_depth_27 rfl rfl ⟨rfl, hL, _, rfl, (h6.1 hc11)⟩))) (fun hc11 => (mz_aload_n d_Mo_depth_13 rfl (mz_getR (k := 4) (a := (34, 0)) cl_10 d_Mo_depth_14 (by decide) wf_Mo_41 rfl (hF 30 0 (by decide)) rfl (hL (30, 0) 4 (34, 0) rfl (by decide)) (mz_iload_n d_Mo_depth_17 rfl (match (h6.2 hc11) with | ⟨j7, h8, h9, h10⟩ => mz_iald j7 d_Mo_depth_18 (hF 34 0 (by decide)) rfl h8 h9 (mz_istore_n d_Mo_depth_19 (by decide) (mz_iinc (y2 + (1 : Int32)) d_Mo_depth_20 rfl (by decide) rfl (mz_goto 4 d_Mo_depth_23 rfl (MzS.loc [(0, .ref (mz_ad B (30, 0))), (2, .int (y2 + (1 : Int32))), (3, .int (mz_i M (34, 0) j7))] ⟨rfl, rfl, rfl, trivial⟩ (hH4 (y2 + (1 : Int32)) (mz_i M (34, 0) j7) M hL h10)))))))))))))))
theorem tm_Mo_depth {G : MzG} {B : MzB} {d : Nat} {K : Int32 → MzM → Prop} (hF : mzLive B)   {a1 : Int32} {M : MzM} (hL : mzLnk M) (h : wp_Mo_depth  a1 M K) : MzC G B d mm_Mo_depth [.ref (mz_ad B (30, 0)), .int a1] M (0, 0) (mzK1 B K) := by
  unfold wp_Mo_depth at h
  exact MzC.of rfl (Nat.le_of_ble_eq_true rfl) (show MzS G B d mm_Mo_depth M (0, 0) (mzK1 B K) 0 [(0, .ref (mz_ad B (30, 0))), (1, .int a1)] [] from (mz_iconst (0 : Int32) d_Mo_depth_0 (by decide) (mz_istore_n d_Mo_depth_1 (by decide) (mz_iload_n d_Mo_depth_2 rfl (mz_istore_n d_Mo_depth_3 (by decide) (MzS.loc [(0, .ref (mz_ad B (30, 0))), (2, .int (0 : Int32)), (3, .int a1)] ⟨rfl, rfl, rfl, trivial⟩ (match h with | ⟨r1, h2⟩ => tm_Mo_depth_4 hF   r1 (0 : Int32) a1 M hL h2)))))))
def mm_Mo_above : MzT := (⟨"ParcelLineModel", "above", "(II)I"⟩, prog_14_method_17_code, 5, (Option.some Jvm.ClassFile.FieldType.int))
theorem cs_Mo_above {mm : MzT} : mzCall mm mm_Mo_above 2 := ⟨wn_Mo, wco_Mo_above, by decide +kernel, by decide⟩
theorem d_Mo_above_0 : decode mm_Mo_above.2.1 0 = .ok (.iload_n 1, 1) := by decide +kernel
theorem d_Mo_above_1 : decode mm_Mo_above.2.1 1 = .ok (.istore_n 3, 1) := by decide +kernel
theorem d_Mo_above_2 : decode mm_Mo_above.2.1 2 = .ok (.iconst 0, 1) := by decide +kernel
theorem d_Mo_above_3 : decode mm_Mo_above.2.1 3 = .ok (.istore 4, 2) := by decide +kernel
theorem d_Mo_above_5 : decode mm_Mo_above.2.1 5 = .ok (.iload 4, 2) := by decide +kernel
theorem d_Mo_above_7 : decode mm_Mo_above.2.1 7 = .ok (.iload_n 2, 1) := by decide +kernel
theorem d_Mo_above_8 : decode mm_Mo_above.2.1 8 = .ok (.if_icmp .ge 16, 3) := by decide +kernel
theorem d_Mo_above_11 : decode mm_Mo_above.2.1 11 = .ok (.aload_n 0, 1) := by decide +kernel
theorem d_Mo_above_12 : decode mm_Mo_above.2.1 12 = .ok (.getfield 41, 3) := by decide +kernel
theorem d_Mo_above_15 : decode mm_Mo_above.2.1 15 = .ok (.iload_n 3, 1) := by decide +kernel
theorem d_Mo_above_16 : decode mm_Mo_above.2.1 16 = .ok (.iaload, 1) := by decide +kernel
theorem d_Mo_above_17 : decode mm_Mo_above.2.1 17 = .ok (.istore_n 3, 1) := by decide +kernel
theorem d_Mo_above_18 : decode mm_Mo_above.2.1 18 = .ok (.iinc 4 1, 3) := by decide +kernel
theorem d_Mo_above_21 : decode mm_Mo_above.2.1 21 = .ok (.goto (-16), 3) := by decide +kernel
theorem d_Mo_above_24 : decode mm_Mo_above.2.1 24 = .ok (.iload_n 3, 1) := by decide +kernel
theorem d_Mo_above_25 : decode mm_Mo_above.2.1 25 = .ok (.ireturn, 1) := by decide +kernel
def wp_Mo_above_5   (K : Int32 → MzM → Prop) : Nat → Int32 → Int32 → Int32 → MzM → Prop
  | 0, _, _, _, _ => False
  | r0 + 1, y2, y3, y4, M => ((y2 ≤ y4 → K y3 M) ∧ (¬ y2 ≤ y4 → (∃ j3 : Nat, y3.toInt = (j3 : Int) ∧ j3 < 16 ∧ (wp_Mo_above_5   K r0) y2 (mz_i M (34, 0) j3) (y4 + (1 : Int32)) M)))
def wp_Mo_above  (a1 : Int32) (a2 : Int32) (M : MzM) (K : Int32 → MzM → Prop) : Prop := (∃ r1 : Nat, wp_Mo_above_5   K r1 a2 a1 (0 : Int32) M)
theorem tm_Mo_above_5 {G : MzG} {B : MzB} {d : Nat} {K : Int32 → MzM → Prop} (hF : mzLive B)     : ∀ (r0 : Nat) (y2 : Int32) (y3 : Int32) (y4 : Int32) (M : MzM), mzLnk M → wp_Mo_above_5   K r0 y2 y3 y4 M → MzS G B d mm_Mo_above M (0, 0) (mzK1 B K) 5 [(0, .ref (mz_ad B (30, 0))), (2, .int y2), (3, .int y3), (4, .int y4)] [] := by
  intro r0
  induction r0 with
  | zero => intro y2 y3 y4 M hL h; exact False.elim h
  | succ r0 hH5 =>
    intro y2 y3 y4 M hL h
    unfold wp_Mo_above_5 at h
    exact (mz_iload d_Mo_above_5 rfl (mz_iload_n d_Mo_above_7 rfl (mz_icmp_ge 24 d_Mo_above_8 rfl (fun hc7 => (mz_iload_n d_Mo_above_24 rfl (mz_iret .int d_Mo_above_25 rfl rfl ⟨rfl, hL, _, rfl, (h.1 hc7)⟩))) (fun hc7 => (mz_aload_n d_Mo_above_11 rfl (mz_getR (k := 4) (a := (34, 0)) cl_10 d_Mo_above_12 (by decide) wf_Mo_41 rfl (hF 30 0 (by decide)) rfl (hL (30, 0) 4 (34, 0) rfl (by decide)) (mz_iload_n d_Mo_above_15 rfl (match (h.2 hc7) with | ⟨j3, h4, h5, h6⟩ => mz_iald j3 d_Mo_above_16 (hF 34 0 (by decide)) rfl h4 h5 (mz_istore_n d_Mo_above_17 (by decide) (mz_iinc (y4 + (1 : Int32)) d_Mo_above_18 rfl (by decide) rfl (mz_goto 5 d_Mo_above_21 rfl (MzS.loc [(0, .ref (mz_ad B (30, 0))), (2, .int y2), (3, .int (mz_i M (34, 0) j3)), (4, .int (y4 + (1 : Int32)))] ⟨rfl, rfl, rfl, rfl, trivial⟩ (hH5 y2 (mz_i M (34, 0) j3) (y4 + (1 : Int32)) M hL h6)))))))))))))
theorem tm_Mo_above {G : MzG} {B : MzB} {d : Nat} {K : Int32 → MzM → Prop} (hF : mzLive B)   {a1 : Int32} {a2 : Int32} {M : MzM} (hL : mzLnk M) (h : wp_Mo_above  a1 a2 M K) : MzC G B d mm_Mo_above [.ref (mz_ad B (30, 0)), .int a1, .int a2] M (0, 0) (mzK1 B K) := by
  unfold wp_Mo_above at h
  exact MzC.of rfl (Nat.le_of_ble_eq_true rfl) (show MzS G B d mm_Mo_above M (0, 0) (mzK1 B K) 0 [(0, .ref (mz_ad B (30, 0))), (1, .int a1), (2, .int a2)] [] from (mz_iload_n d_Mo_above_0 rfl (mz_istore_n d_Mo_above_1 (by decide) (mz_iconst (0 : Int32) d_Mo_above_2 (by decide) (mz_istore d_Mo_above_3 (by decide) (MzS.loc [(0, .ref (mz_ad B (30, 0))), (2, .int a2), (3, .int a1), (4, .int (0 : Int32))] ⟨rfl, rfl, rfl, rfl, trivial⟩ (match h with | ⟨r1, h2⟩ => tm_Mo_above_5 hF   r1 a2 a1 (0 : Int32) M hL h2)))))))
def mm_Mo_replyPath : MzT := (⟨"ParcelLineModel", "replyPath", "(I)V"⟩, prog_14_method_18_code, 6, (Option.none : Option Jvm.ClassFile.FieldType))
theorem cs_Mo_replyPath {mm : MzT} : mzCall mm mm_Mo_replyPath 1 := ⟨wn_Mo, wco_Mo_replyPath, by decide +kernel, by decide⟩
theorem d_Mo_replyPath_0 : decode mm_Mo_replyPath.2.1 0 = .ok (.aload_n 0, 1) := by decide +kernel
theorem d_Mo_replyPath_1 : decode mm_Mo_replyPath.2.1 1 = .ok (.sipush 257, 3) := by decide +kernel
theorem d_Mo_replyPath_4 : decode mm_Mo_replyPath.2.1 4 = .ok (.invokevirtual 146, 3) := by decide +kernel
theorem d_Mo_replyPath_7 : decode mm_Mo_replyPath.2.1 7 = .ok (.aload_n 0, 1) := by decide +kernel
theorem d_Mo_replyPath_8 : decode mm_Mo_replyPath.2.1 8 = .ok (.iload_n 1, 1) := by decide +kernel
theorem d_Mo_replyPath_9 : decode mm_Mo_replyPath.2.1 9 = .ok (.invokevirtual 162, 3) := by decide +kernel
theorem d_Mo_replyPath_12 : decode mm_Mo_replyPath.2.1 12 = .ok (.istore_n 2, 1) := by decide +kernel
theorem d_Mo_replyPath_13 : decode mm_Mo_replyPath.2.1 13 = .ok (.iload_n 2, 1) := by decide +kernel
theorem d_Mo_replyPath_14 : decode mm_Mo_replyPath.2.1 14 = .ok (.ifCond .ne 7, 3) := by decide +kernel
theorem d_Mo_replyPath_17 : decode mm_Mo_replyPath.2.1 17 = .ok (.iconst 1, 1) := by decide +kernel
theorem d_Mo_replyPath_18 : decode mm_Mo_replyPath.2.1 18 = .ok (.goto 4, 3) := by decide +kernel
theorem d_Mo_replyPath_21 : decode mm_Mo_replyPath.2.1 21 = .ok (.iconst 0, 1) := by decide +kernel
theorem d_Mo_replyPath_22 : decode mm_Mo_replyPath.2.1 22 = .ok (.istore_n 3, 1) := by decide +kernel
theorem d_Mo_replyPath_23 : decode mm_Mo_replyPath.2.1 23 = .ok (.iconst 0, 1) := by decide +kernel
theorem d_Mo_replyPath_24 : decode mm_Mo_replyPath.2.1 24 = .ok (.istore 4, 2) := by decide +kernel
theorem d_Mo_replyPath_26 : decode mm_Mo_replyPath.2.1 26 = .ok (.iload 4, 2) := by decide +kernel
theorem d_Mo_replyPath_28 : decode mm_Mo_replyPath.2.1 28 = .ok (.iload_n 2, 1) := by decide +kernel
theorem d_Mo_replyPath_29 : decode mm_Mo_replyPath.2.1 29 = .ok (.if_icmp .ge 29, 3) := by decide +kernel
theorem d_Mo_replyPath_32 : decode mm_Mo_replyPath.2.1 32 = .ok (.iload_n 3, 1) := by decide +kernel
theorem d_Mo_replyPath_33 : decode mm_Mo_replyPath.2.1 33 = .ok (.iconst 1, 1) := by decide +kernel
theorem d_Mo_replyPath_34 : decode mm_Mo_replyPath.2.1 34 = .ok (.iadd, 1) := by decide +kernel
theorem d_Mo_replyPath_35 : decode mm_Mo_replyPath.2.1 35 = .ok (.aload_n 0, 1) := by decide +kernel
theorem d_Mo_replyPath_36 : decode mm_Mo_replyPath.2.1 36 = .ok (.getfield 44, 3) := by decide +kernel
theorem d_Mo_replyPath_39 : decode mm_Mo_replyPath.2.1 39 = .ok (.aload_n 0, 1) := by decide +kernel
theorem d_Mo_replyPath_40 : decode mm_Mo_replyPath.2.1 40 = .ok (.iload_n 1, 1) := by decide +kernel
theorem d_Mo_replyPath_41 : decode mm_Mo_replyPath.2.1 41 = .ok (.iload 4, 2) := by decide +kernel
theorem d_Mo_replyPath_43 : decode mm_Mo_replyPath.2.1 43 = .ok (.invokevirtual 166, 3) := by decide +kernel
theorem d_Mo_replyPath_46 : decode mm_Mo_replyPath.2.1 46 = .ok (.iaload, 1) := by decide +kernel
theorem d_Mo_replyPath_47 : decode mm_Mo_replyPath.2.1 47 = .ok (.invokestatic 170, 3) := by decide +kernel
theorem d_Mo_replyPath_50 : decode mm_Mo_replyPath.2.1 50 = .ok (.iadd, 1) := by decide +kernel
theorem d_Mo_replyPath_51 : decode mm_Mo_replyPath.2.1 51 = .ok (.istore_n 3, 1) := by decide +kernel
theorem d_Mo_replyPath_52 : decode mm_Mo_replyPath.2.1 52 = .ok (.iinc 4 1, 3) := by decide +kernel
theorem d_Mo_replyPath_55 : decode mm_Mo_replyPath.2.1 55 = .ok (.goto (-29), 3) := by decide +kernel
theorem d_Mo_replyPath_58 : decode mm_Mo_replyPath.2.1 58 = .ok (.aload_n 0, 1) := by decide +kernel
theorem d_Mo_replyPath_59 : decode mm_Mo_replyPath.2.1 59 = .ok (.aload_n 0, 1) := by decide +kernel
theorem d_Mo_replyPath_60 : decode mm_Mo_replyPath.2.1 60 = .ok (.getfield 137, 3) := by decide +kernel
theorem d_Mo_replyPath_63 : decode mm_Mo_replyPath.2.1 63 = .ok (.bipush 6, 2) := by decide +kernel
theorem d_Mo_replyPath_65 : decode mm_Mo_replyPath.2.1 65 = .ok (.iload_n 3, 1) := by decide +kernel
theorem d_Mo_replyPath_66 : decode mm_Mo_replyPath.2.1 66 = .ok (.iadd, 1) := by decide +kernel
theorem d_Mo_replyPath_67 : decode mm_Mo_replyPath.2.1 67 = .ok (.invokevirtual 149, 3) := by decide +kernel
theorem d_Mo_replyPath_70 : decode mm_Mo_replyPath.2.1 70 = .ok (.ifCond .ne 4, 3) := by decide +kernel
theorem d_Mo_replyPath_73 : decode mm_Mo_replyPath.2.1 73 = .ok (.return_, 1) := by decide +kernel
theorem d_Mo_replyPath_74 : decode mm_Mo_replyPath.2.1 74 = .ok (.aload_n 0, 1) := by decide +kernel
theorem d_Mo_replyPath_75 : decode mm_Mo_replyPath.2.1 75 = .ok (.sipush 257, 3) := by decide +kernel
theorem d_Mo_replyPath_78 : decode mm_Mo_replyPath.2.1 78 = .ok (.invokevirtual 153, 3) := by decide +kernel
theorem d_Mo_replyPath_81 : decode mm_Mo_replyPath.2.1 81 = .ok (.aload_n 0, 1) := by decide +kernel
theorem d_Mo_replyPath_82 : decode mm_Mo_replyPath.2.1 82 = .ok (.aload_n 0, 1) := by decide +kernel
theorem d_Mo_replyPath_83 : decode mm_Mo_replyPath.2.1 83 = .ok (.getfield 137, 3) := by decide +kernel
theorem d_Mo_replyPath_86 : decode mm_Mo_replyPath.2.1 86 = .ok (.bipush 32, 2) := by decide +kernel
theorem d_Mo_replyPath_88 : decode mm_Mo_replyPath.2.1 88 = .ok (.invokevirtual 140, 3) := by decide +kernel
theorem d_Mo_replyPath_91 : decode mm_Mo_replyPath.2.1 91 = .ok (.iload_n 2, 1) := by decide +kernel
theorem d_Mo_replyPath_92 : decode mm_Mo_replyPath.2.1 92 = .ok (.ifCond .ne 13, 3) := by decide +kernel
theorem d_Mo_replyPath_95 : decode mm_Mo_replyPath.2.1 95 = .ok (.aload_n 0, 1) := by decide +kernel
theorem d_Mo_replyPath_96 : decode mm_Mo_replyPath.2.1 96 = .ok (.aload_n 0, 1) := by decide +kernel
theorem d_Mo_replyPath_97 : decode mm_Mo_replyPath.2.1 97 = .ok (.getfield 137, 3) := by decide +kernel
theorem d_Mo_replyPath_100 : decode mm_Mo_replyPath.2.1 100 = .ok (.bipush 47, 2) := by decide +kernel
theorem d_Mo_replyPath_102 : decode mm_Mo_replyPath.2.1 102 = .ok (.invokevirtual 140, 3) := by decide +kernel
theorem d_Mo_replyPath_105 : decode mm_Mo_replyPath.2.1 105 = .ok (.iload_n 2, 1) := by decide +kernel
theorem d_Mo_replyPath_106 : decode mm_Mo_replyPath.2.1 106 = .ok (.iconst 1, 1) := by decide +kernel
theorem d_Mo_replyPath_107 : decode mm_Mo_replyPath.2.1 107 = .ok (.isub, 1) := by decide +kernel
theorem d_Mo_replyPath_108 : decode mm_Mo_replyPath.2.1 108 = .ok (.istore 4, 2) := by decide +kernel
theorem d_Mo_replyPath_110 : decode mm_Mo_replyPath.2.1 110 = .ok (.iload 4, 2) := by decide +kernel
theorem d_Mo_replyPath_112 : decode mm_Mo_replyPath.2.1 112 = .ok (.ifCond .lt 63, 3) := by decide +kernel
theorem d_Mo_replyPath_115 : decode mm_Mo_replyPath.2.1 115 = .ok (.aload_n 0, 1) := by decide +kernel
theorem d_Mo_replyPath_116 : decode mm_Mo_replyPath.2.1 116 = .ok (.aload_n 0, 1) := by decide +kernel
theorem d_Mo_replyPath_117 : decode mm_Mo_replyPath.2.1 117 = .ok (.getfield 137, 3) := by decide +kernel
theorem d_Mo_replyPath_120 : decode mm_Mo_replyPath.2.1 120 = .ok (.bipush 47, 2) := by decide +kernel
theorem d_Mo_replyPath_122 : decode mm_Mo_replyPath.2.1 122 = .ok (.invokevirtual 140, 3) := by decide +kernel
theorem d_Mo_replyPath_125 : decode mm_Mo_replyPath.2.1 125 = .ok (.aload_n 0, 1) := by decide +kernel
theorem d_Mo_replyPath_126 : decode mm_Mo_replyPath.2.1 126 = .ok (.getfield 44, 3) := by decide +kernel
theorem d_Mo_replyPath_129 : decode mm_Mo_replyPath.2.1 129 = .ok (.aload_n 0, 1) := by decide +kernel
theorem d_Mo_replyPath_130 : decode mm_Mo_replyPath.2.1 130 = .ok (.iload_n 1, 1) := by decide +kernel
theorem d_Mo_replyPath_131 : decode mm_Mo_replyPath.2.1 131 = .ok (.iload 4, 2) := by decide +kernel
theorem d_Mo_replyPath_133 : decode mm_Mo_replyPath.2.1 133 = .ok (.invokevirtual 166, 3) := by decide +kernel
theorem d_Mo_replyPath_136 : decode mm_Mo_replyPath.2.1 136 = .ok (.iaload, 1) := by decide +kernel
theorem d_Mo_replyPath_137 : decode mm_Mo_replyPath.2.1 137 = .ok (.istore 5, 2) := by decide +kernel
theorem d_Mo_replyPath_139 : decode mm_Mo_replyPath.2.1 139 = .ok (.iload 5, 2) := by decide +kernel
theorem d_Mo_replyPath_141 : decode mm_Mo_replyPath.2.1 141 = .ok (.ifCond .le 28, 3) := by decide +kernel
theorem d_Mo_replyPath_144 : decode mm_Mo_replyPath.2.1 144 = .ok (.aload_n 0, 1) := by decide +kernel
theorem d_Mo_replyPath_145 : decode mm_Mo_replyPath.2.1 145 = .ok (.aload_n 0, 1) := by decide +kernel
theorem d_Mo_replyPath_146 : decode mm_Mo_replyPath.2.1 146 = .ok (.getfield 137, 3) := by decide +kernel
theorem d_Mo_replyPath_149 : decode mm_Mo_replyPath.2.1 149 = .ok (.iload 5, 2) := by decide +kernel
theorem d_Mo_replyPath_151 : decode mm_Mo_replyPath.2.1 151 = .ok (.sipush 128, 3) := by decide +kernel
theorem d_Mo_replyPath_154 : decode mm_Mo_replyPath.2.1 154 = .ok (.irem, 1) := by decide +kernel
theorem d_Mo_replyPath_155 : decode mm_Mo_replyPath.2.1 155 = .ok (.invokevirtual 140, 3) := by decide +kernel
theorem d_Mo_replyPath_158 : decode mm_Mo_replyPath.2.1 158 = .ok (.iload 5, 2) := by decide +kernel
theorem d_Mo_replyPath_160 : decode mm_Mo_replyPath.2.1 160 = .ok (.sipush 128, 3) := by decide +kernel
theorem d_Mo_replyPath_163 : decode mm_Mo_replyPath.2.1 163 = .ok (.idiv, 1) := by decide +kernel
theorem d_Mo_replyPath_164 : decode mm_Mo_replyPath.2.1 164 = .ok (.istore 5, 2) := by decide +kernel
theorem d_Mo_replyPath_166 : decode mm_Mo_replyPath.2.1 166 = .ok (.goto (-27), 3) := by decide +kernel
theorem d_Mo_replyPath_169 : decode mm_Mo_replyPath.2.1 169 = .ok (.iinc 4 (-1), 3) := by decide +kernel
theorem d_Mo_replyPath_172 : decode mm_Mo_replyPath.2.1 172 = .ok (.goto (-62), 3) := by decide +kernel
theorem d_Mo_replyPath_175 : decode mm_Mo_replyPath.2.1 175 = .ok (.aload_n 0, 1) := by decide +kernel
theorem d_Mo_replyPath_176 : decode mm_Mo_replyPath.2.1 176 = .ok (.invokevirtual 156, 3) := by decide +kernel
theorem d_Mo_replyPath_179 : decode mm_Mo_replyPath.2.1 179 = .ok (.return_, 1) := by decide +kernel
def wp_Mo_replyPath_139  (H110 : Int32 → Int32 → MzM → Prop) (K : MzM → Prop) : Nat → Int32 → Int32 → Int32 → MzM → Prop
  | 0, _, _, _, _ => False
  | r0 + 1, y1, y4, y5, M => ((y5 ≤ 0 → H110 y1 (y4 + (-1 : Int32)) M) ∧ (¬ y5 ≤ 0 → wp_Mo_put  (mz_i M (30, 0) 29) (y5 - y5 / (128 : Int32) * (128 : Int32)) M (fun M58 => (wp_Mo_replyPath_139  H110 K r0) y1 y4 (y5 / (128 : Int32)) M58)))
def wp_Mo_replyPath_110   (K : MzM → Prop) : Nat → Int32 → Int32 → MzM → Prop
  | 0, _, _, _ => False
  | r0 + 1, y1, y4, M => ((y4 < 0 → wp_Mo_putEnd   M (fun M41 => K M41)) ∧ (¬ y4 < 0 → wp_Mo_put  (mz_i M (30, 0) 29) (47 : Int32) M (fun M44 => wp_Mo_above  y1 y4 M44 (fun v50 M47 => (∃ j51 : Nat, v50.toInt = (j51 : Int) ∧ j51 < 16 ∧ (∃ r55 : Nat, wp_Mo_replyPath_139  (wp_Mo_replyPath_110   K r0) K r55 y1 y4 (mz_i M47 (35, 0) j51) M47))))))
def wp_Mo_replyPath_105   (K : MzM → Prop) (y1 : Int32) (y2 : Int32) (M : MzM) : Prop := (∃ r39 : Nat, wp_Mo_replyPath_110   K r39 y1 (y2 - (1 : Int32)) M)
def wp_Mo_replyPath_26   (K : MzM → Prop) : Nat → Int32 → Int32 → Int32 → Int32 → MzM → Prop
  | 0, _, _, _, _, _ => False
  | r0 + 1, y1, y2, y3, y4, M => ((y2 ≤ y4 → wp_Mo_hasRoom  (mz_i M (30, 0) 29) ((6 : Int32) + y3) M (fun v14 M11 => ((¬ v14 = 0 → wp_Mo_putCode  (257 : Int32) M11 (fun M15 => wp_Mo_put  (mz_i M15 (30, 0) 29) (32 : Int32) M15 (fun M18 => ((¬ y2 = 0 → wp_Mo_replyPath_105   K y1 y2 M18) ∧ (y2 = 0 → wp_Mo_put  (mz_i M18 (30, 0) 29) (47 : Int32) M18 (fun M21 => wp_Mo_replyPath_105   K y1 y2 M21)))))) ∧ (v14 = 0 → K M11)))) ∧ (¬ y2 ≤ y4 → wp_Mo_above  y1 y4 M (fun v29 M26 => (∃ j30 : Nat, v29.toInt = (j30 : Int) ∧ j30 < 16 ∧ wp_Mo_lettersOf  (mz_i M26 (35, 0) j30) M26 (fun v37 M34 => (wp_Mo_replyPath_26   K r0) y1 y2 ((y3 + (1 : Int32)) + v37) (y4 + (1 : Int32)) M34)))))
def wp_Mo_replyPath_22   (K : MzM → Prop) (y1 : Int32) (y2 : Int32) (ys0 : Int32) (M : MzM) : Prop := (∃ r9 : Nat, wp_Mo_replyPath_26   K r9 y1 y2 ys0 (0 : Int32) M)
def wp_Mo_replyPath  (a1 : Int32) (M : MzM) (K : MzM → Prop) : Prop := wp_Mo_answered  (257 : Int32) M (fun M1 => wp_Mo_depth  a1 M1 (fun v7 M4 => ((¬ v7 = 0 → wp_Mo_replyPath_22   K a1 v7 (0 : Int32) M4) ∧ (v7 = 0 → wp_Mo_replyPath_22   K a1 v7 (1 : Int32) M4))))
theorem tm_Mo_replyPath_139 {G : MzG} {B : MzB} {d : Nat} {K : MzM → Prop} (hF : mzLive B)   {H110 : Int32 → Int32 → MzM → Prop} (hH110 : ∀ (y1 : Int32) (y4 : Int32) (M : MzM), mzLnk M → H110 y1 y4 M → MzS G B (d + 2) mm_Mo_replyPath M (0, 0) (mzK0 B K) 110 [(0, .ref (mz_ad B (30, 0))), (1, .int y1), (4, .int y4)] []) : ∀ (r0 : Nat) (y1 : Int32) (y4 : Int32) (y5 : Int32) (M : MzM), mzLnk M → wp_Mo_replyPath_139  H110 K r0 y1 y4 y5 M → MzS G B (d + 2) mm_Mo_replyPath M (0, 0) (mzK0 B K) 139 [(0, .ref (mz_ad B (30, 0))), (1, .int y1), (4, .int y4), (5, .int y5)] [] := by
  intro r0
  induction r0 with
  | zero => intro y1 y4 y5 M hL h; exact False.elim h
  | succ r0 hH139 =>
    intro y1 y4 y5 M hL h
    unfold wp_Mo_replyPath_139 at h
    exact (mz_iload d_Mo_replyPath_139 rfl (mz_if_le 169 d_Mo_replyPath_141 rfl (fun hc61 => (mz_iinc (y4 + (-1 : Int32)) d_Mo_replyPath_169 rfl (by decide) rfl (mz_goto 110 d_Mo_replyPath_172 rfl (MzS.loc [(0, .ref (mz_ad B (30, 0))), (1, .int y1), (4, .int (y4 + (-1 : Int32)))] ⟨rfl, rfl, rfl, trivial⟩ (hH110 y1 (y4 + (-1 : Int32)) M hL (h.1 hc61)))))) (fun hc61 => (mz_aload_n d_Mo_replyPath_144 rfl (mz_aload_n d_Mo_replyPath_145 rfl (mz_getI (k := 29) cl_10 d_Mo_replyPath_146 (by decide) wf_Mo_137 rfl (hF 30 0 (by decide)) rfl (mz_iload d_Mo_replyPath_149 rfl (mz_sipush (128 : Int32) d_Mo_replyPath_151 (by decide) (mz_irem d_Mo_replyPath_154 (by decide) (mz_callV (As := [.int (mz_i M (30, 0) 29), .int (y5 - y5 / (128 : Int32) * (128 : Int32))]) (st := []) (hF 30 0 (by decide)) rfl (mzClOf cl_10) 0 0 d_Mo_replyPath_155 cs_Mo_put wl_Mo_140 wi_Mo_put wse_Mo_put (Nat.le_of_ble_eq_true rfl) (Nat.le_refl _) (Nat.le_refl _) (MzC.mono (tm_Mo_put (d := (d + 1)) hF  hL (h.2 hc61)) (fun r9 B9 M58 hq60 => by obtain ⟨rfl, hL59, rfl, hq60⟩ := hq60; exact ⟨none, rfl, (mz_iload d_Mo_replyPath_158 rfl (mz_sipush (128 : Int32) d_Mo_replyPath_160 (by decide) (mz_idiv d_Mo_replyPath_163 (by decide) (mz_istore d_Mo_replyPath_164 (by decide) (mz_goto 139 d_Mo_replyPath_166 rfl (MzS.loc [(0, .ref (mz_ad B (30, 0))), (1, .int y1), (4, .int y4), (5, .int (y5 / (128 : Int32)))] ⟨rfl, rfl, rfl, rfl, trivial⟩ (hH139 y1 y4 (y5 / (128 : Int32)) M58 hL59 hq60)))))))⟩))))))))))))
theorem tm_Mo_replyPath_110 {G : MzG} {B : MzB} {d : Nat} {K : MzM → Prop} (hF : mzLive B)     : ∀ (r0 : Nat) (y1 : Int32) (y4 : Int32) (M : MzM), mzLnk M → wp_Mo_replyPath_110   K r0 y1 y4 M → MzS G B (d + 2) mm_Mo_replyPath M (0, 0) (mzK0 B K) 110 [(0, .ref (mz_ad B (30, 0))), (1, .int y1), (4, .int y4)] [] := by
  intro r0
  induction r0 with
  | zero => intro y1 y4 M hL h; exact False.elim h
  | succ r0 hH110 =>
    intro y1 y4 M hL h
    unfold wp_Mo_replyPath_110 at h
    exact (mz_iload d_Mo_replyPath_110 rfl (mz_if_lt 175 d_Mo_replyPath_112 rfl (fun hc57 => (mz_aload_n d_Mo_replyPath_175 rfl (mz_callV (As := []) (st := []) (hF 30 0 (by decide)) rfl (mzClOf cl_10) 0 0 d_Mo_replyPath_176 cs_Mo_putEnd wl_Mo_156 wi_Mo_putEnd wse_Mo_putEnd (Nat.le_of_ble_eq_true rfl) (Nat.le_refl _) (Nat.le_refl _) (MzC.mono (tm_Mo_putEnd (d := d) hF  hL (h.1 hc57)) (fun r9 B9 M41 hq43 => by obtain ⟨rfl, hL42, rfl, hq43⟩ := hq43; exact ⟨none, rfl, (mz_vret d_Mo_replyPath_179 rfl ⟨rfl, hL42, rfl, hq43⟩)⟩))))) (fun hc57 => (mz_aload_n d_Mo_replyPath_115 rfl (mz_aload_n d_Mo_replyPath_116 rfl (mz_getI (k := 29) cl_10 d_Mo_replyPath_117 (by decide) wf_Mo_137 rfl (hF 30 0 (by decide)) rfl (mz_bipush (47 : Int32) d_Mo_replyPath_120 (by decide) (mz_callV (As := [.int (mz_i M (30, 0) 29), .int (47 : Int32)]) (st := []) (hF 30 0 (by decide)) rfl (mzClOf cl_10) 0 0 d_Mo_replyPath_122 cs_Mo_put wl_Mo_140 wi_Mo_put wse_Mo_put (Nat.le_of_ble_eq_true rfl) (Nat.le_refl _) (Nat.le_refl _) (MzC.mono (tm_Mo_put (d := (d + 1)) hF  hL (h.2 hc57)) (fun r9 B9 M44 hq46 => by obtain ⟨rfl, hL45, rfl, hq46⟩ := hq46; exact ⟨none, rfl, (mz_aload_n d_Mo_replyPath_125 rfl (mz_getR (k := 5) (a := (35, 0)) cl_10 d_Mo_replyPath_126 (by decide) wf_Mo_44 rfl (hF 30 0 (by decide)) rfl (hL45 (30, 0) 5 (35, 0) rfl (by decide)) (mz_aload_n d_Mo_replyPath_129 rfl (mz_iload_n d_Mo_replyPath_130 rfl (mz_iload d_Mo_replyPath_131 rfl (mz_callV (As := [.int y1, .int y4]) (st := [.ref (mz_ad B (35, 0))]) (hF 30 0 (by decide)) rfl (mzClOf cl_10) 0 0 d_Mo_replyPath_133 cs_Mo_above wl_Mo_166 wi_Mo_above wse_Mo_above (Nat.le_of_ble_eq_true rfl) (Nat.le_refl _) (Nat.le_refl _) (MzC.mono (tm_Mo_above (d := (d + 1)) hF  hL45 hq46) (fun r9 B9 M47 hq49 => by obtain ⟨rfl, hL48, v50, rfl, hq49⟩ := hq49; exact ⟨_, rfl, (match hq49 with | ⟨j51, h52, h53, h54⟩ => mz_iald j51 d_Mo_replyPath_136 (hF 35 0 (by decide)) rfl h52 h53 (mz_istore d_Mo_replyPath_137 (by decide) (MzS.loc [(0, .ref (mz_ad B (30, 0))), (1, .int y1), (4, .int y4), (5, .int (mz_i M47 (35, 0) j51))] ⟨rfl, rfl, rfl, rfl, trivial⟩ (match h54 with | ⟨r55, h56⟩ => tm_Mo_replyPath_139 hF  hH110 r55 y1 y4 (mz_i M47 (35, 0) j51) M47 hL48 h56))))⟩))))))))⟩))))))))))
theorem tm_Mo_replyPath_105 {G : MzG} {B : MzB} {d : Nat} {K : MzM → Prop} (hF : mzLive B)     (y1 : Int32) (y2 : Int32) (M : MzM) (hL : mzLnk M) (h : wp_Mo_replyPath_105   K y1 y2 M) : MzS G B (d + 2) mm_Mo_replyPath M (0, 0) (mzK0 B K) 105 [(0, .ref (mz_ad B (30, 0))), (1, .int y1), (2, .int y2)] [] := by
  unfold wp_Mo_replyPath_105 at h
  exact (mz_iload_n d_Mo_replyPath_105 rfl (mz_iconst (1 : Int32) d_Mo_replyPath_106 (by decide) (mz_isub d_Mo_replyPath_107 (mz_istore d_Mo_replyPath_108 (by decide) (MzS.loc [(0, .ref (mz_ad B (30, 0))), (1, .int y1), (4, .int (y2 - (1 : Int32)))] ⟨rfl, rfl, rfl, trivial⟩ (match h with | ⟨r39, h40⟩ => tm_Mo_replyPath_110 hF   r39 y1 (y2 - (1 : Int32)) M hL h40))))))
theorem tm_Mo_replyPath_26 {G : MzG} {B : MzB} {d : Nat} {K : MzM → Prop} (hF : mzLive B)     : ∀ (r0 : Nat) (y1 : Int32) (y2 : Int32) (y3 : Int32) (y4 : Int32) (M : MzM), mzLnk M → wp_Mo_replyPath_26   K r0 y1 y2 y3 y4 M → MzS G B (d + 2) mm_Mo_replyPath M (0, 0) (mzK0 B K) 26 [(0, .ref (mz_ad B (30, 0))), (1, .int y1), (2, .int y2), (3, .int y3), (4, .int y4)] [] := by
  intro r0
  induction r0 with
  | zero => intro y1 y2 y3 y4 M hL h; exact False.elim h
  | succ r0 hH26 =>
    intro y1 y2 y3 y4 M hL h
    unfold wp_Mo_replyPath_26 at h
    exact (mz_iload d_Mo_replyPath_26 rfl (mz_iload_n d_Mo_replyPath_28 rfl (mz_icmp_ge 58 d_Mo_replyPath_29 rfl (fun hc38 => (mz_aload_n d_Mo_replyPath_58 rfl (mz_aload_n d_Mo_replyPath_59 rfl (mz_getI (k := 29) cl_10 d_Mo_replyPath_60 (by decide) wf_Mo_137 rfl (hF 30 0 (by decide)) rfl (mz_bipush (6 : Int32) d_Mo_replyPath_63 (by decide) (mz_iload_n d_Mo_replyPath_65 rfl (mz_iadd d_Mo_replyPath_66 (mz_callV (As := [.int (mz_i M (30, 0) 29), .int ((6 : Int32) + y3)]) (st := []) (hF 30 0 (by decide)) rfl (mzClOf cl_10) 0 0 d_Mo_replyPath_67 cs_Mo_hasRoom wl_Mo_149 wi_Mo_hasRoom wse_Mo_hasRoom (Nat.le_of_ble_eq_true rfl) (Nat.le_refl _) (Nat.le_refl _) (MzC.mono (tm_Mo_hasRoom (d := (d + 1)) hF  hL (h.1 hc38)) (fun r9 B9 M11 hq13 => by obtain ⟨rfl, hL12, v14, rfl, hq13⟩ := hq13; exact ⟨_, rfl, (mz_if_ne 74 d_Mo_replyPath_70 rfl (fun hc25 => (mz_aload_n d_Mo_replyPath_74 rfl (mz_sipush (257 : Int32) d_Mo_replyPath_75 (by decide) (mz_callV (As := [.int (257 : Int32)]) (st := []) (hF 30 0 (by decide)) rfl (mzClOf cl_10) 0 0 d_Mo_replyPath_78 cs_Mo_putCode wl_Mo_153 wi_Mo_putCode wse_Mo_putCode (Nat.le_of_ble_eq_true rfl) (Nat.le_refl _) (Nat.le_refl _) (MzC.mono (tm_Mo_putCode (d := d) hF  hL12 (hq13.1 hc25)) (fun r9 B9 M15 hq17 => by obtain ⟨rfl, hL16, rfl, hq17⟩ := hq17; exact ⟨none, rfl, (mz_aload_n d_Mo_replyPath_81 rfl (mz_aload_n d_Mo_replyPath_82 rfl (mz_getI (k := 29) cl_10 d_Mo_replyPath_83 (by decide) wf_Mo_137 rfl (hF 30 0 (by decide)) rfl (mz_bipush (32 : Int32) d_Mo_replyPath_86 (by decide) (mz_callV (As := [.int (mz_i M15 (30, 0) 29), .int (32 : Int32)]) (st := []) (hF 30 0 (by decide)) rfl (mzClOf cl_10) 0 0 d_Mo_replyPath_88 cs_Mo_put wl_Mo_140 wi_Mo_put wse_Mo_put (Nat.le_of_ble_eq_true rfl) (Nat.le_refl _) (Nat.le_refl _) (MzC.mono (tm_Mo_put (d := (d + 1)) hF  hL16 hq17) (fun r9 B9 M18 hq20 => by obtain ⟨rfl, hL19, rfl, hq20⟩ := hq20; exact ⟨none, rfl, (mz_iload_n d_Mo_replyPath_91 rfl (mz_if_ne 105 d_Mo_replyPath_92 rfl (fun hc24 => (MzS.loc [(0, .ref (mz_ad B (30, 0))), (1, .int y1), (2, .int y2)] ⟨rfl, rfl, rfl, trivial⟩ (tm_Mo_replyPath_105 hF   y1 y2 M18 hL19 (hq20.1 hc24)))) (fun hc24 => (mz_aload_n d_Mo_replyPath_95 rfl (mz_aload_n d_Mo_replyPath_96 rfl (mz_getI (k := 29) cl_10 d_Mo_replyPath_97 (by decide) wf_Mo_137 rfl (hF 30 0 (by decide)) rfl (mz_bipush (47 : Int32) d_Mo_replyPath_100 (by decide) (mz_callV (As := [.int (mz_i M18 (30, 0) 29), .int (47 : Int32)]) (st := []) (hF 30 0 (by decide)) rfl (mzClOf cl_10) 0 0 d_Mo_replyPath_102 cs_Mo_put wl_Mo_140 wi_Mo_put wse_Mo_put (Nat.le_of_ble_eq_true rfl) (Nat.le_refl _) (Nat.le_refl _) (MzC.mono (tm_Mo_put (d := (d + 1)) hF  hL19 (hq20.2 hc24)) (fun r9 B9 M21 hq23 => by obtain ⟨rfl, hL22, rfl, hq23⟩ := hq23; exact ⟨none, rfl, (MzS.loc [(0, .ref (mz_ad B (30, 0))), (1, .int y1), (2, .int y2)] ⟨rfl, rfl, rfl, trivial⟩ (tm_Mo_replyPath_105 hF   y1 y2 M21 hL22 hq23))⟩))))))))))⟩)))))))⟩)))))) (fun hc25 => (mz_vret d_Mo_replyPath_73 rfl ⟨rfl, hL12, rfl, (hq13.2 hc25)⟩)))⟩)))))))))) (fun hc38 => (mz_iload_n d_Mo_replyPath_32 rfl (mz_iconst (1 : Int32) d_Mo_replyPath_33 (by decide) (mz_iadd d_Mo_replyPath_34 (mz_aload_n d_Mo_replyPath_35 rfl (mz_getR (k := 5) (a := (35, 0)) cl_10 d_Mo_replyPath_36 (by decide) wf_Mo_44 rfl (hF 30 0 (by decide)) rfl (hL (30, 0) 5 (35, 0) rfl (by decide)) (mz_aload_n d_Mo_replyPath_39 rfl (mz_iload_n d_Mo_replyPath_40 rfl (mz_iload d_Mo_replyPath_41 rfl (mz_callV (As := [.int y1, .int y4]) (st := [.ref (mz_ad B (35, 0)), .int (y3 + (1 : Int32))]) (hF 30 0 (by decide)) rfl (mzClOf cl_10) 0 0 d_Mo_replyPath_43 cs_Mo_above wl_Mo_166 wi_Mo_above wse_Mo_above (Nat.le_of_ble_eq_true rfl) (Nat.le_refl _) (Nat.le_refl _) (MzC.mono (tm_Mo_above (d := (d + 1)) hF  hL (h.2 hc38)) (fun r9 B9 M26 hq28 => by obtain ⟨rfl, hL27, v29, rfl, hq28⟩ := hq28; exact ⟨_, rfl, (match hq28 with | ⟨j30, h31, h32, h33⟩ => mz_iald j30 d_Mo_replyPath_46 (hF 35 0 (by decide)) rfl h31 h32 (mz_callS (As := [.int (mz_i M26 (35, 0) j30)]) (st := [.int (y3 + (1 : Int32))]) 0 0 d_Mo_replyPath_47 cs_Mo_lettersOf wl_Mo_170 ws_Mo_lettersOf (Nat.le_of_ble_eq_true rfl) (Nat.le_refl _) (Nat.le_refl _) (MzC.mono (tm_Mo_lettersOf (d := (d + 1)) hF  hL27 h33) (fun r9 B9 M34 hq36 => by obtain ⟨rfl, hL35, v37, rfl, hq36⟩ := hq36; exact ⟨_, rfl, (mz_iadd d_Mo_replyPath_50 (mz_istore_n d_Mo_replyPath_51 (by decide) (mz_iinc (y4 + (1 : Int32)) d_Mo_replyPath_52 rfl (by decide) rfl (mz_goto 26 d_Mo_replyPath_55 rfl (MzS.loc [(0, .ref (mz_ad B (30, 0))), (1, .int y1), (2, .int y2), (3, .int ((y3 + (1 : Int32)) + v37)), (4, .int (y4 + (1 : Int32)))] ⟨rfl, rfl, rfl, rfl, rfl, trivial⟩ (hH26 y1 y2 ((y3 + (1 : Int32)) + v37) (y4 + (1 : Int32)) M34 hL35 hq36))))))⟩))))⟩)))))))))))))))
theorem tm_Mo_replyPath_22 {G : MzG} {B : MzB} {d : Nat} {K : MzM → Prop} (hF : mzLive B)     (y1 : Int32) (y2 : Int32) (ys0 : Int32) (M : MzM) (hL : mzLnk M) (h : wp_Mo_replyPath_22   K y1 y2 ys0 M) : MzS G B (d + 2) mm_Mo_replyPath M (0, 0) (mzK0 B K) 22 [(0, .ref (mz_ad B (30, 0))), (1, .int y1), (2, .int y2)] [.int ys0] := by
  unfold wp_Mo_replyPath_22 at h
  exact (mz_istore_n d_Mo_replyPath_22 (by decide) (mz_iconst (0 : Int32) d_Mo_replyPath_23 (by decide) (mz_istore d_Mo_replyPath_24 (by decide) (MzS.loc [(0, .ref (mz_ad B (30, 0))), (1, .int y1), (2, .int y2), (3, .int ys0), (4, .int (0 : Int32))] ⟨rfl, rfl, rfl, rfl, rfl, trivial⟩ (match h with | ⟨r9, h10⟩ => tm_Mo_replyPath_26 hF   r9 y1 y2 ys0 (0 : Int32) M hL h10)))))
theorem tm_Mo_replyPath {G : MzG} {B : MzB} {d : Nat} {K : MzM → Prop} (hF : mzLive B)   {a1 : Int32} {M : MzM} (hL : mzLnk M) (h : wp_Mo_replyPath  a1 M K) : MzC G B (d + 2) mm_Mo_replyPath [.ref (mz_ad B (30, 0)), .int a1] M (0, 0) (mzK0 B K) := by
  unfold wp_Mo_replyPath at h
  exact MzC.of rfl (Nat.le_of_ble_eq_true rfl) (show MzS G B (d + 2) mm_Mo_replyPath M (0, 0) (mzK0 B K) 0 [(0, .ref (mz_ad B (30, 0))), (1, .int a1)] [] from (mz_aload_n d_Mo_replyPath_0 rfl (mz_sipush (257 : Int32) d_Mo_replyPath_1 (by decide) (mz_callV (As := [.int (257 : Int32)]) (st := []) (hF 30 0 (by decide)) rfl (mzClOf cl_10) 0 0 d_Mo_replyPath_4 cs_Mo_answered wl_Mo_146 wi_Mo_answered wse_Mo_answered (Nat.le_of_ble_eq_true rfl) (Nat.le_refl _) (Nat.le_refl _) (MzC.mono (tm_Mo_answered (d := (d + 1)) hF  hL h) (fun r9 B9 M1 hq3 => by obtain ⟨rfl, hL2, rfl, hq3⟩ := hq3; exact ⟨none, rfl, (mz_aload_n d_Mo_replyPath_7 rfl (mz_iload_n d_Mo_replyPath_8 rfl (mz_callV (As := [.int a1]) (st := []) (hF 30 0 (by decide)) rfl (mzClOf cl_10) 0 0 d_Mo_replyPath_9 cs_Mo_depth wl_Mo_162 wi_Mo_depth wse_Mo_depth (Nat.le_of_ble_eq_true rfl) (Nat.le_refl _) (Nat.le_refl _) (MzC.mono (tm_Mo_depth (d := (d + 1)) hF  hL2 hq3) (fun r9 B9 M4 hq6 => by obtain ⟨rfl, hL5, v7, rfl, hq6⟩ := hq6; exact ⟨_, rfl, (mz_istore_n d_Mo_replyPath_12 (by decide) (mz_iload_n d_Mo_replyPath_13 rfl (mz_if_ne 21 d_Mo_replyPath_14 rfl (fun hc8 => (mz_iconst (0 : Int32) d_Mo_replyPath_21 (by decide) (MzS.loc [(0, .ref (mz_ad B (30, 0))), (1, .int a1), (2, .int v7)] ⟨rfl, rfl, rfl, trivial⟩ (tm_Mo_replyPath_22 hF   a1 v7 (0 : Int32) M4 hL5 (hq6.1 hc8))))) (fun hc8 => (mz_iconst (1 : Int32) d_Mo_replyPath_17 (by decide) (mz_goto 22 d_Mo_replyPath_18 rfl (MzS.loc [(0, .ref (mz_ad B (30, 0))), (1, .int a1), (2, .int v7)] ⟨rfl, rfl, rfl, trivial⟩ (tm_Mo_replyPath_22 hF   a1 v7 (1 : Int32) M4 hL5 (hq6.2 hc8)))))))))⟩)))))⟩))))))
def mm_Mo_ch : MzT := (⟨"ParcelLineModel", "ch", "(I)I"⟩, prog_14_method_23_code, 2, (Option.some Jvm.ClassFile.FieldType.int))
theorem cs_Mo_ch {mm : MzT} : mzCall mm mm_Mo_ch 1 := ⟨wn_Mo, wco_Mo_ch, by decide +kernel, by decide⟩
theorem d_Mo_ch_0 : decode mm_Mo_ch.2.1 0 = .ok (.iload_n 1, 1) := by decide +kernel
theorem d_Mo_ch_1 : decode mm_Mo_ch.2.1 1 = .ok (.aload_n 0, 1) := by decide +kernel
theorem d_Mo_ch_2 : decode mm_Mo_ch.2.1 2 = .ok (.getfield 62, 3) := by decide +kernel
theorem d_Mo_ch_5 : decode mm_Mo_ch.2.1 5 = .ok (.aload_n 0, 1) := by decide +kernel
theorem d_Mo_ch_6 : decode mm_Mo_ch.2.1 6 = .ok (.getfield 137, 3) := by decide +kernel
theorem d_Mo_ch_9 : decode mm_Mo_ch.2.1 9 = .ok (.iaload, 1) := by decide +kernel
theorem d_Mo_ch_10 : decode mm_Mo_ch.2.1 10 = .ok (.if_icmp .ge 20, 3) := by decide +kernel
theorem d_Mo_ch_13 : decode mm_Mo_ch.2.1 13 = .ok (.aload_n 0, 1) := by decide +kernel
theorem d_Mo_ch_14 : decode mm_Mo_ch.2.1 14 = .ok (.getfield 68, 3) := by decide +kernel
theorem d_Mo_ch_17 : decode mm_Mo_ch.2.1 17 = .ok (.bipush 30, 2) := by decide +kernel
theorem d_Mo_ch_19 : decode mm_Mo_ch.2.1 19 = .ok (.aload_n 0, 1) := by decide +kernel
theorem d_Mo_ch_20 : decode mm_Mo_ch.2.1 20 = .ok (.getfield 137, 3) := by decide +kernel
theorem d_Mo_ch_23 : decode mm_Mo_ch.2.1 23 = .ok (.imul, 1) := by decide +kernel
theorem d_Mo_ch_24 : decode mm_Mo_ch.2.1 24 = .ok (.iload_n 1, 1) := by decide +kernel
theorem d_Mo_ch_25 : decode mm_Mo_ch.2.1 25 = .ok (.iadd, 1) := by decide +kernel
theorem d_Mo_ch_26 : decode mm_Mo_ch.2.1 26 = .ok (.iaload, 1) := by decide +kernel
theorem d_Mo_ch_27 : decode mm_Mo_ch.2.1 27 = .ok (.goto 4, 3) := by decide +kernel
theorem d_Mo_ch_30 : decode mm_Mo_ch.2.1 30 = .ok (.iconst (-1), 1) := by decide +kernel
theorem d_Mo_ch_31 : decode mm_Mo_ch.2.1 31 = .ok (.ireturn, 1) := by decide +kernel
def wp_Mo_ch  (a1 : Int32) (M : MzM) (K : Int32 → MzM → Prop) : Prop := (∃ j1 : Nat, (mz_i M (30, 0) 29).toInt = (j1 : Int) ∧ j1 < 2 ∧ (((mz_i M (41, 0) j1) ≤ a1 → K (-1 : Int32) M) ∧ (¬ (mz_i M (41, 0) j1) ≤ a1 → (∃ j5 : Nat, (((30 : Int32) * (mz_i M (30, 0) 29)) + a1).toInt = (j5 : Int) ∧ j5 < 60 ∧ K (mz_i M (43, 0) j5) M))))
theorem tm_Mo_ch {G : MzG} {B : MzB} {d : Nat} {K : Int32 → MzM → Prop} (hF : mzLive B)   {a1 : Int32} {M : MzM} (hL : mzLnk M) (h : wp_Mo_ch  a1 M K) : MzC G B d mm_Mo_ch [.ref (mz_ad B (30, 0)), .int a1] M (0, 0) (mzK1 B K) := by
  unfold wp_Mo_ch at h
  exact MzC.of rfl (Nat.le_of_ble_eq_true rfl) (show MzS G B d mm_Mo_ch M (0, 0) (mzK1 B K) 0 [(0, .ref (mz_ad B (30, 0))), (1, .int a1)] [] from (mz_iload_n d_Mo_ch_0 rfl (mz_aload_n d_Mo_ch_1 rfl (mz_getR (k := 11) (a := (41, 0)) cl_10 d_Mo_ch_2 (by decide) wf_Mo_62 rfl (hF 30 0 (by decide)) rfl (hL (30, 0) 11 (41, 0) rfl (by decide)) (mz_aload_n d_Mo_ch_5 rfl (mz_getI (k := 29) cl_10 d_Mo_ch_6 (by decide) wf_Mo_137 rfl (hF 30 0 (by decide)) rfl (match h with | ⟨j1, h2, h3, h4⟩ => mz_iald j1 d_Mo_ch_9 (hF 41 0 (by decide)) rfl h2 h3 (mz_icmp_ge 30 d_Mo_ch_10 rfl (fun hc9 => (mz_iconst (-1 : Int32) d_Mo_ch_30 (by decide) (mz_iret .int d_Mo_ch_31 rfl rfl ⟨rfl, hL, _, rfl, (h4.1 hc9)⟩))) (fun hc9 => (mz_aload_n d_Mo_ch_13 rfl (mz_getR (k := 13) (a := (43, 0)) cl_10 d_Mo_ch_14 (by decide) wf_Mo_68 rfl (hF 30 0 (by decide)) rfl (hL (30, 0) 13 (43, 0) rfl (by decide)) (mz_bipush (30 : Int32) d_Mo_ch_17 (by decide) (mz_aload_n d_Mo_ch_19 rfl (mz_getI (k := 29) cl_10 d_Mo_ch_20 (by decide) wf_Mo_137 rfl (hF 30 0 (by decide)) rfl (mz_imul d_Mo_ch_23 (mz_iload_n d_Mo_ch_24 rfl (mz_iadd d_Mo_ch_25 (match (h4.2 hc9) with | ⟨j5, h6, h7, h8⟩ => mz_iald j5 d_Mo_ch_26 (hF 43 0 (by decide)) rfl h6 h7 (mz_goto 31 d_Mo_ch_27 rfl (mz_iret .int d_Mo_ch_31 rfl rfl ⟨rfl, hL, _, rfl, h8⟩))))))))))))))))))))
def mm_Mo_command : MzT := (⟨"ParcelLineModel", "command", "()I"⟩, prog_14_method_24_code, 5, (Option.some Jvm.ClassFile.FieldType.int))
theorem cs_Mo_command {mm : MzT} : mzCall mm mm_Mo_command 0 := ⟨wn_Mo, wco_Mo_command, by decide +kernel, by decide⟩
theorem d_Mo_command_0 : decode mm_Mo_command.2.1 0 = .ok (.iconst 0, 1) := by decide +kernel
theorem d_Mo_command_1 : decode mm_Mo_command.2.1 1 = .ok (.istore_n 1, 1) := by decide +kernel
theorem d_Mo_command_2 : decode mm_Mo_command.2.1 2 = .ok (.iconst 0, 1) := by decide +kernel
theorem d_Mo_command_3 : decode mm_Mo_command.2.1 3 = .ok (.istore_n 2, 1) := by decide +kernel
theorem d_Mo_command_4 : decode mm_Mo_command.2.1 4 = .ok (.iload_n 1, 1) := by decide +kernel
theorem d_Mo_command_5 : decode mm_Mo_command.2.1 5 = .ok (.aload_n 0, 1) := by decide +kernel
theorem d_Mo_command_6 : decode mm_Mo_command.2.1 6 = .ok (.getfield 62, 3) := by decide +kernel
theorem d_Mo_command_9 : decode mm_Mo_command.2.1 9 = .ok (.aload_n 0, 1) := by decide +kernel
theorem d_Mo_command_10 : decode mm_Mo_command.2.1 10 = .ok (.getfield 137, 3) := by decide +kernel
theorem d_Mo_command_13 : decode mm_Mo_command.2.1 13 = .ok (.iaload, 1) := by decide +kernel
theorem d_Mo_command_14 : decode mm_Mo_command.2.1 14 = .ok (.if_icmp .ge 91, 3) := by decide +kernel
theorem d_Mo_command_17 : decode mm_Mo_command.2.1 17 = .ok (.aload_n 0, 1) := by decide +kernel
theorem d_Mo_command_18 : decode mm_Mo_command.2.1 18 = .ok (.iload_n 1, 1) := by decide +kernel
theorem d_Mo_command_19 : decode mm_Mo_command.2.1 19 = .ok (.invokevirtual 189, 3) := by decide +kernel
theorem d_Mo_command_22 : decode mm_Mo_command.2.1 22 = .ok (.bipush 32, 2) := by decide +kernel
theorem d_Mo_command_24 : decode mm_Mo_command.2.1 24 = .ok (.if_icmp .eq 81, 3) := by decide +kernel
theorem d_Mo_command_27 : decode mm_Mo_command.2.1 27 = .ok (.aload_n 0, 1) := by decide +kernel
theorem d_Mo_command_28 : decode mm_Mo_command.2.1 28 = .ok (.iload_n 1, 1) := by decide +kernel
theorem d_Mo_command_29 : decode mm_Mo_command.2.1 29 = .ok (.invokevirtual 189, 3) := by decide +kernel
theorem d_Mo_command_32 : decode mm_Mo_command.2.1 32 = .ok (.istore_n 3, 1) := by decide +kernel
theorem d_Mo_command_33 : decode mm_Mo_command.2.1 33 = .ok (.iload_n 3, 1) := by decide +kernel
theorem d_Mo_command_34 : decode mm_Mo_command.2.1 34 = .ok (.bipush 97, 2) := by decide +kernel
theorem d_Mo_command_36 : decode mm_Mo_command.2.1 36 = .ok (.if_icmp .lt 16, 3) := by decide +kernel
theorem d_Mo_command_39 : decode mm_Mo_command.2.1 39 = .ok (.iload_n 3, 1) := by decide +kernel
theorem d_Mo_command_40 : decode mm_Mo_command.2.1 40 = .ok (.bipush 122, 2) := by decide +kernel
theorem d_Mo_command_42 : decode mm_Mo_command.2.1 42 = .ok (.if_icmp .gt 10, 3) := by decide +kernel
theorem d_Mo_command_45 : decode mm_Mo_command.2.1 45 = .ok (.iload_n 3, 1) := by decide +kernel
theorem d_Mo_command_46 : decode mm_Mo_command.2.1 46 = .ok (.bipush 32, 2) := by decide +kernel
theorem d_Mo_command_48 : decode mm_Mo_command.2.1 48 = .ok (.isub, 1) := by decide +kernel
theorem d_Mo_command_49 : decode mm_Mo_command.2.1 49 = .ok (.goto 4, 3) := by decide +kernel
theorem d_Mo_command_52 : decode mm_Mo_command.2.1 52 = .ok (.iload_n 3, 1) := by decide +kernel
theorem d_Mo_command_53 : decode mm_Mo_command.2.1 53 = .ok (.istore_n 3, 1) := by decide +kernel
theorem d_Mo_command_54 : decode mm_Mo_command.2.1 54 = .ok (.iload_n 1, 1) := by decide +kernel
theorem d_Mo_command_55 : decode mm_Mo_command.2.1 55 = .ok (.iconst 4, 1) := by decide +kernel
theorem d_Mo_command_56 : decode mm_Mo_command.2.1 56 = .ok (.if_icmp .ge 24, 3) := by decide +kernel
theorem d_Mo_command_59 : decode mm_Mo_command.2.1 59 = .ok (.iload_n 3, 1) := by decide +kernel
theorem d_Mo_command_60 : decode mm_Mo_command.2.1 60 = .ok (.ifCond .le 20, 3) := by decide +kernel
theorem d_Mo_command_63 : decode mm_Mo_command.2.1 63 = .ok (.iload_n 3, 1) := by decide +kernel
theorem d_Mo_command_64 : decode mm_Mo_command.2.1 64 = .ok (.sipush 128, 3) := by decide +kernel
theorem d_Mo_command_67 : decode mm_Mo_command.2.1 67 = .ok (.if_icmp .ge 13, 3) := by decide +kernel
theorem d_Mo_command_70 : decode mm_Mo_command.2.1 70 = .ok (.sipush 128, 3) := by decide +kernel
theorem d_Mo_command_73 : decode mm_Mo_command.2.1 73 = .ok (.iload_n 2, 1) := by decide +kernel
theorem d_Mo_command_74 : decode mm_Mo_command.2.1 74 = .ok (.imul, 1) := by decide +kernel
theorem d_Mo_command_75 : decode mm_Mo_command.2.1 75 = .ok (.iload_n 3, 1) := by decide +kernel
theorem d_Mo_command_76 : decode mm_Mo_command.2.1 76 = .ok (.iadd, 1) := by decide +kernel
theorem d_Mo_command_77 : decode mm_Mo_command.2.1 77 = .ok (.goto 4, 3) := by decide +kernel
theorem d_Mo_command_80 : decode mm_Mo_command.2.1 80 = .ok (.iconst (-1), 1) := by decide +kernel
theorem d_Mo_command_81 : decode mm_Mo_command.2.1 81 = .ok (.istore_n 2, 1) := by decide +kernel
theorem d_Mo_command_82 : decode mm_Mo_command.2.1 82 = .ok (.iload_n 2, 1) := by decide +kernel
theorem d_Mo_command_83 : decode mm_Mo_command.2.1 83 = .ok (.ifCond .ge 16, 3) := by decide +kernel
theorem d_Mo_command_86 : decode mm_Mo_command.2.1 86 = .ok (.aload_n 0, 1) := by decide +kernel
theorem d_Mo_command_87 : decode mm_Mo_command.2.1 87 = .ok (.getfield 62, 3) := by decide +kernel
theorem d_Mo_command_90 : decode mm_Mo_command.2.1 90 = .ok (.aload_n 0, 1) := by decide +kernel
theorem d_Mo_command_91 : decode mm_Mo_command.2.1 91 = .ok (.getfield 137, 3) := by decide +kernel
theorem d_Mo_command_94 : decode mm_Mo_command.2.1 94 = .ok (.iaload, 1) := by decide +kernel
theorem d_Mo_command_95 : decode mm_Mo_command.2.1 95 = .ok (.istore_n 1, 1) := by decide +kernel
theorem d_Mo_command_96 : decode mm_Mo_command.2.1 96 = .ok (.goto 6, 3) := by decide +kernel
theorem d_Mo_command_99 : decode mm_Mo_command.2.1 99 = .ok (.iinc 1 1, 3) := by decide +kernel
theorem d_Mo_command_102 : decode mm_Mo_command.2.1 102 = .ok (.goto (-98), 3) := by decide +kernel
theorem d_Mo_command_105 : decode mm_Mo_command.2.1 105 = .ok (.aload_n 0, 1) := by decide +kernel
theorem d_Mo_command_106 : decode mm_Mo_command.2.1 106 = .ok (.iload_n 1, 1) := by decide +kernel
theorem d_Mo_command_107 : decode mm_Mo_command.2.1 107 = .ok (.iconst 1, 1) := by decide +kernel
theorem d_Mo_command_108 : decode mm_Mo_command.2.1 108 = .ok (.iadd, 1) := by decide +kernel
theorem d_Mo_command_109 : decode mm_Mo_command.2.1 109 = .ok (.putfield 192, 3) := by decide +kernel
theorem d_Mo_command_112 : decode mm_Mo_command.2.1 112 = .ok (.iconst 0, 1) := by decide +kernel
theorem d_Mo_command_113 : decode mm_Mo_command.2.1 113 = .ok (.istore_n 3, 1) := by decide +kernel
theorem d_Mo_command_114 : decode mm_Mo_command.2.1 114 = .ok (.iconst 1, 1) := by decide +kernel
theorem d_Mo_command_115 : decode mm_Mo_command.2.1 115 = .ok (.istore 4, 2) := by decide +kernel
theorem d_Mo_command_117 : decode mm_Mo_command.2.1 117 = .ok (.iload 4, 2) := by decide +kernel
theorem d_Mo_command_119 : decode mm_Mo_command.2.1 119 = .ok (.bipush 21, 2) := by decide +kernel
theorem d_Mo_command_121 : decode mm_Mo_command.2.1 121 = .ok (.if_icmp .gt 27, 3) := by decide +kernel
theorem d_Mo_command_124 : decode mm_Mo_command.2.1 124 = .ok (.iload_n 2, 1) := by decide +kernel
theorem d_Mo_command_125 : decode mm_Mo_command.2.1 125 = .ok (.ifCond .le 17, 3) := by decide +kernel
theorem d_Mo_command_128 : decode mm_Mo_command.2.1 128 = .ok (.aload_n 0, 1) := by decide +kernel
theorem d_Mo_command_129 : decode mm_Mo_command.2.1 129 = .ok (.getfield 28, 3) := by decide +kernel
theorem d_Mo_command_132 : decode mm_Mo_command.2.1 132 = .ok (.iload 4, 2) := by decide +kernel
theorem d_Mo_command_134 : decode mm_Mo_command.2.1 134 = .ok (.iaload, 1) := by decide +kernel
theorem d_Mo_command_135 : decode mm_Mo_command.2.1 135 = .ok (.iload_n 2, 1) := by decide +kernel
theorem d_Mo_command_136 : decode mm_Mo_command.2.1 136 = .ok (.if_icmp .ne 6, 3) := by decide +kernel
theorem d_Mo_command_139 : decode mm_Mo_command.2.1 139 = .ok (.iload 4, 2) := by decide +kernel
theorem d_Mo_command_141 : decode mm_Mo_command.2.1 141 = .ok (.istore_n 3, 1) := by decide +kernel
theorem d_Mo_command_142 : decode mm_Mo_command.2.1 142 = .ok (.iinc 4 1, 3) := by decide +kernel
theorem d_Mo_command_145 : decode mm_Mo_command.2.1 145 = .ok (.goto (-28), 3) := by decide +kernel
theorem d_Mo_command_148 : decode mm_Mo_command.2.1 148 = .ok (.iload_n 3, 1) := by decide +kernel
theorem d_Mo_command_149 : decode mm_Mo_command.2.1 149 = .ok (.ireturn, 1) := by decide +kernel
def wp_Mo_command_102  (H4 : Int32 → Int32 → MzM → Prop) (K : Int32 → MzM → Prop) (y1 : Int32) (y2 : Int32) (M : MzM) : Prop := H4 y1 y2 M
def wp_Mo_command_81  (H4 : Int32 → Int32 → MzM → Prop) (K : Int32 → MzM → Prop) (y1 : Int32) (ys0 : Int32) (M : MzM) : Prop := ((0 ≤ ys0 → wp_Mo_command_102  H4 K (y1 + (1 : Int32)) ys0 M) ∧ (¬ 0 ≤ ys0 → (∃ j32 : Nat, (mz_i M (30, 0) 29).toInt = (j32 : Int) ∧ j32 < 2 ∧ wp_Mo_command_102  H4 K (mz_i M (41, 0) j32) ys0 M)))
def wp_Mo_command_80  (H4 : Int32 → Int32 → MzM → Prop) (K : Int32 → MzM → Prop) (y1 : Int32) (M : MzM) : Prop := wp_Mo_command_81  H4 K y1 (-1 : Int32) M
def wp_Mo_command_53  (H4 : Int32 → Int32 → MzM → Prop) (K : Int32 → MzM → Prop) (y1 : Int32) (y2 : Int32) (ys0 : Int32) (M : MzM) : Prop := (((4 : Int32) ≤ y1 → wp_Mo_command_80  H4 K y1 M) ∧ (¬ (4 : Int32) ≤ y1 → ((ys0 ≤ 0 → wp_Mo_command_80  H4 K y1 M) ∧ (¬ ys0 ≤ 0 → (((128 : Int32) ≤ ys0 → wp_Mo_command_80  H4 K y1 M) ∧ (¬ (128 : Int32) ≤ ys0 → wp_Mo_command_81  H4 K y1 (((128 : Int32) * y2) + ys0) M))))))
def wp_Mo_command_52  (H4 : Int32 → Int32 → MzM → Prop) (K : Int32 → MzM → Prop) (y1 : Int32) (y2 : Int32) (y3 : Int32) (M : MzM) : Prop := wp_Mo_command_53  H4 K y1 y2 y3 M
def wp_Mo_command_142  (H117 : Int32 → Int32 → Int32 → MzM → Prop) (K : Int32 → MzM → Prop) (y2 : Int32) (y3 : Int32) (y4 : Int32) (M : MzM) : Prop := H117 y2 y3 (y4 + (1 : Int32)) M
def wp_Mo_command_117   (K : Int32 → MzM → Prop) : Nat → Int32 → Int32 → Int32 → MzM → Prop
  | 0, _, _, _, _ => False
  | r0 + 1, y2, y3, y4, M => (((21 : Int32) < y4 → K y3 M) ∧ (¬ (21 : Int32) < y4 → ((y2 ≤ 0 → wp_Mo_command_142  (wp_Mo_command_117   K r0) K y2 y3 y4 M) ∧ (¬ y2 ≤ 0 → (∃ j25 : Nat, y4.toInt = (j25 : Int) ∧ j25 < 22 ∧ ((¬ (mz_i M (31, 0) j25) = y2 → wp_Mo_command_142  (wp_Mo_command_117   K r0) K y2 y3 y4 M) ∧ ((mz_i M (31, 0) j25) = y2 → wp_Mo_command_142  (wp_Mo_command_117   K r0) K y2 y4 y4 M)))))))
def wp_Mo_command_105   (K : Int32 → MzM → Prop) (y1 : Int32) (y2 : Int32) (M : MzM) : Prop := (∀ M19 : MzM, M19 = mz_si M (30, 0) 32 (y1 + (1 : Int32)) → (∃ r20 : Nat, wp_Mo_command_117   K r20 y2 (0 : Int32) (1 : Int32) M19))
def wp_Mo_command_4   (K : Int32 → MzM → Prop) : Nat → Int32 → Int32 → MzM → Prop
  | 0, _, _, _ => False
  | r0 + 1, y1, y2, M => (∃ j3 : Nat, (mz_i M (30, 0) 29).toInt = (j3 : Int) ∧ j3 < 2 ∧ (((mz_i M (41, 0) j3) ≤ y1 → wp_Mo_command_105   K y1 y2 M) ∧ (¬ (mz_i M (41, 0) j3) ≤ y1 → wp_Mo_ch  y1 M (fun v10 M7 => ((v10 = (32 : Int32) → wp_Mo_command_105   K y1 y2 M7) ∧ (¬ v10 = (32 : Int32) → wp_Mo_ch  y1 M7 (fun v14 M11 => ((v14 < (97 : Int32) → wp_Mo_command_52  (wp_Mo_command_4   K r0) K y1 y2 v14 M11) ∧ (¬ v14 < (97 : Int32) → (((122 : Int32) < v14 → wp_Mo_command_52  (wp_Mo_command_4   K r0) K y1 y2 v14 M11) ∧ (¬ (122 : Int32) < v14 → wp_Mo_command_53  (wp_Mo_command_4   K r0) K y1 y2 (v14 - (32 : Int32)) M11)))))))))))
def wp_Mo_command   (M : MzM) (K : Int32 → MzM → Prop) : Prop := (∃ r1 : Nat, wp_Mo_command_4   K r1 (0 : Int32) (0 : Int32) M)
theorem tm_Mo_command_102 {G : MzG} {B : MzB} {d : Nat} {K : Int32 → MzM → Prop} (hF : mzLive B)   {H4 : Int32 → Int32 → MzM → Prop} (hH4 : ∀ (y1 : Int32) (y2 : Int32) (M : MzM), mzLnk M → H4 y1 y2 M → MzS G B (d + 1) mm_Mo_command M (0, 0) (mzK1 B K) 4 [(0, .ref (mz_ad B (30, 0))), (1, .int y1), (2, .int y2)] []) (y1 : Int32) (y2 : Int32) (M : MzM) (hL : mzLnk M) (h : wp_Mo_command_102  H4 K y1 y2 M) : MzS G B (d + 1) mm_Mo_command M (0, 0) (mzK1 B K) 102 [(0, .ref (mz_ad B (30, 0))), (1, .int y1), (2, .int y2)] [] := by
  unfold wp_Mo_command_102 at h
  exact (mz_goto 4 d_Mo_command_102 rfl (MzS.loc [(0, .ref (mz_ad B (30, 0))), (1, .int y1), (2, .int y2)] ⟨rfl, rfl, rfl, trivial⟩ (hH4 y1 y2 M hL h)))
theorem tm_Mo_command_81 {G : MzG} {B : MzB} {d : Nat} {K : Int32 → MzM → Prop} (hF : mzLive B)   {H4 : Int32 → Int32 → MzM → Prop} (hH4 : ∀ (y1 : Int32) (y2 : Int32) (M : MzM), mzLnk M → H4 y1 y2 M → MzS G B (d + 1) mm_Mo_command M (0, 0) (mzK1 B K) 4 [(0, .ref (mz_ad B (30, 0))), (1, .int y1), (2, .int y2)] []) (y1 : Int32) (ys0 : Int32) (M : MzM) (hL : mzLnk M) (h : wp_Mo_command_81  H4 K y1 ys0 M) : MzS G B (d + 1) mm_Mo_command M (0, 0) (mzK1 B K) 81 [(0, .ref (mz_ad B (30, 0))), (1, .int y1)] [.int ys0] := by
  unfold wp_Mo_command_81 at h
  exact (mz_istore_n d_Mo_command_81 (by decide) (mz_iload_n d_Mo_command_82 rfl (mz_if_ge 99 d_Mo_command_83 rfl (fun hc36 => (mz_iinc (y1 + (1 : Int32)) d_Mo_command_99 rfl (by decide) rfl (MzS.loc [(0, .ref (mz_ad B (30, 0))), (1, .int (y1 + (1 : Int32))), (2, .int ys0)] ⟨rfl, rfl, rfl, trivial⟩ (tm_Mo_command_102 hF  hH4 (y1 + (1 : Int32)) ys0 M hL (h.1 hc36))))) (fun hc36 => (mz_aload_n d_Mo_command_86 rfl (mz_getR (k := 11) (a := (41, 0)) cl_10 d_Mo_command_87 (by decide) wf_Mo_62 rfl (hF 30 0 (by decide)) rfl (hL (30, 0) 11 (41, 0) rfl (by decide)) (mz_aload_n d_Mo_command_90 rfl (mz_getI (k := 29) cl_10 d_Mo_command_91 (by decide) wf_Mo_137 rfl (hF 30 0 (by decide)) rfl (match (h.2 hc36) with | ⟨j32, h33, h34, h35⟩ => mz_iald j32 d_Mo_command_94 (hF 41 0 (by decide)) rfl h33 h34 (mz_istore_n d_Mo_command_95 (by decide) (mz_goto 102 d_Mo_command_96 rfl (MzS.loc [(0, .ref (mz_ad B (30, 0))), (1, .int (mz_i M (41, 0) j32)), (2, .int ys0)] ⟨rfl, rfl, rfl, trivial⟩ (tm_Mo_command_102 hF  hH4 (mz_i M (41, 0) j32) ys0 M hL h35)))))))))))))
theorem tm_Mo_command_80 {G : MzG} {B : MzB} {d : Nat} {K : Int32 → MzM → Prop} (hF : mzLive B)   {H4 : Int32 → Int32 → MzM → Prop} (hH4 : ∀ (y1 : Int32) (y2 : Int32) (M : MzM), mzLnk M → H4 y1 y2 M → MzS G B (d + 1) mm_Mo_command M (0, 0) (mzK1 B K) 4 [(0, .ref (mz_ad B (30, 0))), (1, .int y1), (2, .int y2)] []) (y1 : Int32) (M : MzM) (hL : mzLnk M) (h : wp_Mo_command_80  H4 K y1 M) : MzS G B (d + 1) mm_Mo_command M (0, 0) (mzK1 B K) 80 [(0, .ref (mz_ad B (30, 0))), (1, .int y1)] [] := by
  unfold wp_Mo_command_80 at h
  exact (mz_iconst (-1 : Int32) d_Mo_command_80 (by decide) (MzS.loc [(0, .ref (mz_ad B (30, 0))), (1, .int y1)] ⟨rfl, rfl, trivial⟩ (tm_Mo_command_81 hF  hH4 y1 (-1 : Int32) M hL h)))
theorem tm_Mo_command_53 {G : MzG} {B : MzB} {d : Nat} {K : Int32 → MzM → Prop} (hF : mzLive B)   {H4 : Int32 → Int32 → MzM → Prop} (hH4 : ∀ (y1 : Int32) (y2 : Int32) (M : MzM), mzLnk M → H4 y1 y2 M → MzS G B (d + 1) mm_Mo_command M (0, 0) (mzK1 B K) 4 [(0, .ref (mz_ad B (30, 0))), (1, .int y1), (2, .int y2)] []) (y1 : Int32) (y2 : Int32) (ys0 : Int32) (M : MzM) (hL : mzLnk M) (h : wp_Mo_command_53  H4 K y1 y2 ys0 M) : MzS G B (d + 1) mm_Mo_command M (0, 0) (mzK1 B K) 53 [(0, .ref (mz_ad B (30, 0))), (1, .int y1), (2, .int y2)] [.int ys0] := by
  unfold wp_Mo_command_53 at h
  exact (mz_istore_n d_Mo_command_53 (by decide) (mz_iload_n d_Mo_command_54 rfl (mz_iconst (4 : Int32) d_Mo_command_55 (by decide) (mz_icmp_ge 80 d_Mo_command_56 rfl (fun hc24 => (MzS.loc [(0, .ref (mz_ad B (30, 0))), (1, .int y1)] ⟨rfl, rfl, trivial⟩ (tm_Mo_command_80 hF  hH4 y1 M hL (h.1 hc24)))) (fun hc24 => (mz_iload_n d_Mo_command_59 rfl (mz_if_le 80 d_Mo_command_60 rfl (fun hc23 => (MzS.loc [(0, .ref (mz_ad B (30, 0))), (1, .int y1)] ⟨rfl, rfl, trivial⟩ (tm_Mo_command_80 hF  hH4 y1 M hL ((h.2 hc24).1 hc23)))) (fun hc23 => (mz_iload_n d_Mo_command_63 rfl (mz_sipush (128 : Int32) d_Mo_command_64 (by decide) (mz_icmp_ge 80 d_Mo_command_67 rfl (fun hc22 => (MzS.loc [(0, .ref (mz_ad B (30, 0))), (1, .int y1)] ⟨rfl, rfl, trivial⟩ (tm_Mo_command_80 hF  hH4 y1 M hL (((h.2 hc24).2 hc23).1 hc22)))) (fun hc22 => (mz_sipush (128 : Int32) d_Mo_command_70 (by decide) (mz_iload_n d_Mo_command_73 rfl (mz_imul d_Mo_command_74 (mz_iload_n d_Mo_command_75 rfl (mz_iadd d_Mo_command_76 (mz_goto 81 d_Mo_command_77 rfl (MzS.loc [(0, .ref (mz_ad B (30, 0))), (1, .int y1)] ⟨rfl, rfl, trivial⟩ (tm_Mo_command_81 hF  hH4 y1 (((128 : Int32) * y2) + ys0) M hL (((h.2 hc24).2 hc23).2 hc22)))))))))))))))))))))
theorem tm_Mo_command_52 {G : MzG} {B : MzB} {d : Nat} {K : Int32 → MzM → Prop} (hF : mzLive B)   {H4 : Int32 → Int32 → MzM → Prop} (hH4 : ∀ (y1 : Int32) (y2 : Int32) (M : MzM), mzLnk M → H4 y1 y2 M → MzS G B (d + 1) mm_Mo_command M (0, 0) (mzK1 B K) 4 [(0, .ref (mz_ad B (30, 0))), (1, .int y1), (2, .int y2)] []) (y1 : Int32) (y2 : Int32) (y3 : Int32) (M : MzM) (hL : mzLnk M) (h : wp_Mo_command_52  H4 K y1 y2 y3 M) : MzS G B (d + 1) mm_Mo_command M (0, 0) (mzK1 B K) 52 [(0, .ref (mz_ad B (30, 0))), (1, .int y1), (2, .int y2), (3, .int y3)] [] := by
  unfold wp_Mo_command_52 at h
  exact (mz_iload_n d_Mo_command_52 rfl (MzS.loc [(0, .ref (mz_ad B (30, 0))), (1, .int y1), (2, .int y2)] ⟨rfl, rfl, rfl, trivial⟩ (tm_Mo_command_53 hF  hH4 y1 y2 y3 M hL h)))
theorem tm_Mo_command_142 {G : MzG} {B : MzB} {d : Nat} {K : Int32 → MzM → Prop} (hF : mzLive B)   {H117 : Int32 → Int32 → Int32 → MzM → Prop} (hH117 : ∀ (y2 : Int32) (y3 : Int32) (y4 : Int32) (M : MzM), mzLnk M → H117 y2 y3 y4 M → MzS G B (d + 1) mm_Mo_command M (0, 0) (mzK1 B K) 117 [(0, .ref (mz_ad B (30, 0))), (2, .int y2), (3, .int y3), (4, .int y4)] []) (y2 : Int32) (y3 : Int32) (y4 : Int32) (M : MzM) (hL : mzLnk M) (h : wp_Mo_command_142  H117 K y2 y3 y4 M) : MzS G B (d + 1) mm_Mo_command M (0, 0) (mzK1 B K) 142 [(0, .ref (mz_ad B (30, 0))), (2, .int y2), (3, .int y3), (4, .int y4)] [] := by
  unfold wp_Mo_command_142 at h
  exact (mz_iinc (y4 + (1 : Int32)) d_Mo_command_142 rfl (by decide) rfl (mz_goto 117 d_Mo_command_145 rfl (MzS.loc [(0, .ref (mz_ad B (30, 0))), (2, .int y2), (3, .int y3), (4, .int (y4 + (1 : Int32)))] ⟨rfl, rfl, rfl, rfl, trivial⟩ (hH117 y2 y3 (y4 + (1 : Int32)) M hL h))))
theorem tm_Mo_command_117 {G : MzG} {B : MzB} {d : Nat} {K : Int32 → MzM → Prop} (hF : mzLive B)     : ∀ (r0 : Nat) (y2 : Int32) (y3 : Int32) (y4 : Int32) (M : MzM), mzLnk M → wp_Mo_command_117   K r0 y2 y3 y4 M → MzS G B (d + 1) mm_Mo_command M (0, 0) (mzK1 B K) 117 [(0, .ref (mz_ad B (30, 0))), (2, .int y2), (3, .int y3), (4, .int y4)] [] := by
  intro r0
  induction r0 with
  | zero => intro y2 y3 y4 M hL h; exact False.elim h
  | succ r0 hH117 =>
    intro y2 y3 y4 M hL h
    unfold wp_Mo_command_117 at h
    exact (mz_iload d_Mo_command_117 rfl (mz_bipush (21 : Int32) d_Mo_command_119 (by decide) (mz_icmp_gt 148 d_Mo_command_121 rfl (fun hc31 => (mz_iload_n d_Mo_command_148 rfl (mz_iret .int d_Mo_command_149 rfl rfl ⟨rfl, hL, _, rfl, (h.1 hc31)⟩))) (fun hc31 => (mz_iload_n d_Mo_command_124 rfl (mz_if_le 142 d_Mo_command_125 rfl (fun hc30 => (MzS.loc [(0, .ref (mz_ad B (30, 0))), (2, .int y2), (3, .int y3), (4, .int y4)] ⟨rfl, rfl, rfl, rfl, trivial⟩ (tm_Mo_command_142 hF  hH117 y2 y3 y4 M hL ((h.2 hc31).1 hc30)))) (fun hc30 => (mz_aload_n d_Mo_command_128 rfl (mz_getR (k := 0) (a := (31, 0)) cl_10 d_Mo_command_129 (by decide) wf_Mo_28 rfl (hF 30 0 (by decide)) rfl (hL (30, 0) 0 (31, 0) rfl (by decide)) (mz_iload d_Mo_command_132 rfl (match ((h.2 hc31).2 hc30) with | ⟨j25, h26, h27, h28⟩ => mz_iald j25 d_Mo_command_134 (hF 31 0 (by decide)) rfl h26 h27 (mz_iload_n d_Mo_command_135 rfl (mz_icmp_ne 142 d_Mo_command_136 rfl (fun hc29 => (MzS.loc [(0, .ref (mz_ad B (30, 0))), (2, .int y2), (3, .int y3), (4, .int y4)] ⟨rfl, rfl, rfl, rfl, trivial⟩ (tm_Mo_command_142 hF  hH117 y2 y3 y4 M hL (h28.1 hc29)))) (fun hc29 => (mz_iload d_Mo_command_139 rfl (mz_istore_n d_Mo_command_141 (by decide) (MzS.loc [(0, .ref (mz_ad B (30, 0))), (2, .int y2), (3, .int y4), (4, .int y4)] ⟨rfl, rfl, rfl, rfl, trivial⟩ (tm_Mo_command_142 hF  hH117 y2 y4 y4 M hL (h28.2 hc29)))))))))))))))))))
theorem tm_Mo_command_105 {G : MzG} {B : MzB} {d : Nat} {K : Int32 → MzM → Prop} (hF : mzLive B)     (y1 : Int32) (y2 : Int32) (M : MzM) (hL : mzLnk M) (h : wp_Mo_command_105   K y1 y2 M) : MzS G B (d + 1) mm_Mo_command M (0, 0) (mzK1 B K) 105 [(0, .ref (mz_ad B (30, 0))), (1, .int y1), (2, .int y2)] [] := by
  unfold wp_Mo_command_105 at h
  exact (mz_aload_n d_Mo_command_105 rfl (mz_iload_n d_Mo_command_106 rfl (mz_iconst (1 : Int32) d_Mo_command_107 (by decide) (mz_iadd d_Mo_command_108 (mz_putI (k := 32) cl_10 d_Mo_command_109 (by decide) wf_Mo_192 rfl rfl rfl rfl (hF 30 0 (by decide)) rfl (let M19 : MzM := mz_si M (30, 0) 32 (y1 + (1 : Int32)); (mz_iconst (0 : Int32) d_Mo_command_112 (by decide) (mz_istore_n d_Mo_command_113 (by decide) (mz_iconst (1 : Int32) d_Mo_command_114 (by decide) (mz_istore d_Mo_command_115 (by decide) (MzS.loc [(0, .ref (mz_ad B (30, 0))), (2, .int y2), (3, .int (0 : Int32)), (4, .int (1 : Int32))] ⟨rfl, rfl, rfl, rfl, trivial⟩ (match (h M19 rfl) with | ⟨r20, h21⟩ => tm_Mo_command_117 hF   r20 y2 (0 : Int32) (1 : Int32) M19 hL h21))))))))))))
theorem tm_Mo_command_4 {G : MzG} {B : MzB} {d : Nat} {K : Int32 → MzM → Prop} (hF : mzLive B)     : ∀ (r0 : Nat) (y1 : Int32) (y2 : Int32) (M : MzM), mzLnk M → wp_Mo_command_4   K r0 y1 y2 M → MzS G B (d + 1) mm_Mo_command M (0, 0) (mzK1 B K) 4 [(0, .ref (mz_ad B (30, 0))), (1, .int y1), (2, .int y2)] [] := by
  intro r0
  induction r0 with
  | zero => intro y1 y2 M hL h; exact False.elim h
  | succ r0 hH4 =>
    intro y1 y2 M hL h
    unfold wp_Mo_command_4 at h
    exact (mz_iload_n d_Mo_command_4 rfl (mz_aload_n d_Mo_command_5 rfl (mz_getR (k := 11) (a := (41, 0)) cl_10 d_Mo_command_6 (by decide) wf_Mo_62 rfl (hF 30 0 (by decide)) rfl (hL (30, 0) 11 (41, 0) rfl (by decide)) (mz_aload_n d_Mo_command_9 rfl (mz_getI (k := 29) cl_10 d_Mo_command_10 (by decide) wf_Mo_137 rfl (hF 30 0 (by decide)) rfl (match h with | ⟨j3, h4, h5, h6⟩ => mz_iald j3 d_Mo_command_13 (hF 41 0 (by decide)) rfl h4 h5 (mz_icmp_ge 105 d_Mo_command_14 rfl (fun hc18 => (MzS.loc [(0, .ref (mz_ad B (30, 0))), (1, .int y1), (2, .int y2)] ⟨rfl, rfl, rfl, trivial⟩ (tm_Mo_command_105 hF   y1 y2 M hL (h6.1 hc18)))) (fun hc18 => (mz_aload_n d_Mo_command_17 rfl (mz_iload_n d_Mo_command_18 rfl (mz_callV (As := [.int y1]) (st := []) (hF 30 0 (by decide)) rfl (mzClOf cl_10) 0 0 d_Mo_command_19 cs_Mo_ch wl_Mo_189 wi_Mo_ch wse_Mo_ch (Nat.le_of_ble_eq_true rfl) (Nat.le_refl _) (Nat.le_refl _) (MzC.mono (tm_Mo_ch (d := d) hF  hL (h6.2 hc18)) (fun r9 B9 M7 hq9 => by obtain ⟨rfl, hL8, v10, rfl, hq9⟩ := hq9; exact ⟨_, rfl, (mz_bipush (32 : Int32) d_Mo_command_22 (by decide) (mz_icmp_eq 105 d_Mo_command_24 rfl (fun hc17 => (MzS.loc [(0, .ref (mz_ad B (30, 0))), (1, .int y1), (2, .int y2)] ⟨rfl, rfl, rfl, trivial⟩ (tm_Mo_command_105 hF   y1 y2 M7 hL8 (hq9.1 hc17)))) (fun hc17 => (mz_aload_n d_Mo_command_27 rfl (mz_iload_n d_Mo_command_28 rfl (mz_callV (As := [.int y1]) (st := []) (hF 30 0 (by decide)) rfl (mzClOf cl_10) 0 0 d_Mo_command_29 cs_Mo_ch wl_Mo_189 wi_Mo_ch wse_Mo_ch (Nat.le_of_ble_eq_true rfl) (Nat.le_refl _) (Nat.le_refl _) (MzC.mono (tm_Mo_ch (d := d) hF  hL8 (hq9.2 hc17)) (fun r9 B9 M11 hq13 => by obtain ⟨rfl, hL12, v14, rfl, hq13⟩ := hq13; exact ⟨_, rfl, (mz_istore_n d_Mo_command_32 (by decide) (mz_iload_n d_Mo_command_33 rfl (mz_bipush (97 : Int32) d_Mo_command_34 (by decide) (mz_icmp_lt 52 d_Mo_command_36 rfl (fun hc16 => (MzS.loc [(0, .ref (mz_ad B (30, 0))), (1, .int y1), (2, .int y2), (3, .int v14)] ⟨rfl, rfl, rfl, rfl, trivial⟩ (tm_Mo_command_52 hF  hH4 y1 y2 v14 M11 hL12 (hq13.1 hc16)))) (fun hc16 => (mz_iload_n d_Mo_command_39 rfl (mz_bipush (122 : Int32) d_Mo_command_40 (by decide) (mz_icmp_gt 52 d_Mo_command_42 rfl (fun hc15 => (MzS.loc [(0, .ref (mz_ad B (30, 0))), (1, .int y1), (2, .int y2), (3, .int v14)] ⟨rfl, rfl, rfl, rfl, trivial⟩ (tm_Mo_command_52 hF  hH4 y1 y2 v14 M11 hL12 ((hq13.2 hc16).1 hc15)))) (fun hc15 => (mz_iload_n d_Mo_command_45 rfl (mz_bipush (32 : Int32) d_Mo_command_46 (by decide) (mz_isub d_Mo_command_48 (mz_goto 53 d_Mo_command_49 rfl (MzS.loc [(0, .ref (mz_ad B (30, 0))), (1, .int y1), (2, .int y2)] ⟨rfl, rfl, rfl, trivial⟩ (tm_Mo_command_53 hF  hH4 y1 y2 (v14 - (32 : Int32)) M11 hL12 ((hq13.2 hc16).2 hc15))))))))))))))))⟩))))))))⟩)))))))))))))
theorem tm_Mo_command {G : MzG} {B : MzB} {d : Nat} {K : Int32 → MzM → Prop} (hF : mzLive B)    {M : MzM} (hL : mzLnk M) (h : wp_Mo_command   M K) : MzC G B (d + 1) mm_Mo_command [.ref (mz_ad B (30, 0))] M (0, 0) (mzK1 B K) := by
  unfold wp_Mo_command at h
  exact MzC.of rfl (Nat.le_of_ble_eq_true rfl) (show MzS G B (d + 1) mm_Mo_command M (0, 0) (mzK1 B K) 0 [(0, .ref (mz_ad B (30, 0)))] [] from (mz_iconst (0 : Int32) d_Mo_command_0 (by decide) (mz_istore_n d_Mo_command_1 (by decide) (mz_iconst (0 : Int32) d_Mo_command_2 (by decide) (mz_istore_n d_Mo_command_3 (by decide) (MzS.loc [(0, .ref (mz_ad B (30, 0))), (1, .int (0 : Int32)), (2, .int (0 : Int32))] ⟨rfl, rfl, rfl, trivial⟩ (match h with | ⟨r1, h2⟩ => tm_Mo_command_4 hF   r1 (0 : Int32) (0 : Int32) M hL h2)))))))
def mm_Mo_hasArgument : MzT := (⟨"ParcelLineModel", "hasArgument", "()Z"⟩, prog_14_method_25_code, 1, (Option.some Jvm.ClassFile.FieldType.boolean))
theorem cs_Mo_hasArgument {mm : MzT} : mzCall mm mm_Mo_hasArgument 0 := ⟨wn_Mo, wco_Mo_hasArgument, by decide +kernel, by decide⟩
theorem d_Mo_hasArgument_0 : decode mm_Mo_hasArgument.2.1 0 = .ok (.aload_n 0, 1) := by decide +kernel
theorem d_Mo_hasArgument_1 : decode mm_Mo_hasArgument.2.1 1 = .ok (.getfield 192, 3) := by decide +kernel
theorem d_Mo_hasArgument_4 : decode mm_Mo_hasArgument.2.1 4 = .ok (.aload_n 0, 1) := by decide +kernel
theorem d_Mo_hasArgument_5 : decode mm_Mo_hasArgument.2.1 5 = .ok (.getfield 62, 3) := by decide +kernel
theorem d_Mo_hasArgument_8 : decode mm_Mo_hasArgument.2.1 8 = .ok (.aload_n 0, 1) := by decide +kernel
theorem d_Mo_hasArgument_9 : decode mm_Mo_hasArgument.2.1 9 = .ok (.getfield 137, 3) := by decide +kernel
theorem d_Mo_hasArgument_12 : decode mm_Mo_hasArgument.2.1 12 = .ok (.iaload, 1) := by decide +kernel
theorem d_Mo_hasArgument_13 : decode mm_Mo_hasArgument.2.1 13 = .ok (.if_icmp .gt 7, 3) := by decide +kernel
theorem d_Mo_hasArgument_16 : decode mm_Mo_hasArgument.2.1 16 = .ok (.iconst 1, 1) := by decide +kernel
theorem d_Mo_hasArgument_17 : decode mm_Mo_hasArgument.2.1 17 = .ok (.goto 4, 3) := by decide +kernel
theorem d_Mo_hasArgument_20 : decode mm_Mo_hasArgument.2.1 20 = .ok (.iconst 0, 1) := by decide +kernel
theorem d_Mo_hasArgument_21 : decode mm_Mo_hasArgument.2.1 21 = .ok (.ireturn, 1) := by decide +kernel
def wp_Mo_hasArgument   (M : MzM) (K : Int32 → MzM → Prop) : Prop := (∃ j1 : Nat, (mz_i M (30, 0) 29).toInt = (j1 : Int) ∧ j1 < 2 ∧ (((mz_i M (41, 0) j1) < (mz_i M (30, 0) 32) → K (0 : Int32) M) ∧ (¬ (mz_i M (41, 0) j1) < (mz_i M (30, 0) 32) → K (1 : Int32) M)))
theorem tm_Mo_hasArgument {G : MzG} {B : MzB} {d : Nat} {K : Int32 → MzM → Prop} (hF : mzLive B)    {M : MzM} (hL : mzLnk M) (h : wp_Mo_hasArgument   M K) : MzC G B d mm_Mo_hasArgument [.ref (mz_ad B (30, 0))] M (0, 0) (mzK1 B K) := by
  unfold wp_Mo_hasArgument at h
  exact MzC.of rfl (Nat.le_of_ble_eq_true rfl) (show MzS G B d mm_Mo_hasArgument M (0, 0) (mzK1 B K) 0 [(0, .ref (mz_ad B (30, 0)))] [] from (mz_aload_n d_Mo_hasArgument_0 rfl (mz_getI (k := 32) cl_10 d_Mo_hasArgument_1 (by decide) wf_Mo_192 rfl (hF 30 0 (by decide)) rfl (mz_aload_n d_Mo_hasArgument_4 rfl (mz_getR (k := 11) (a := (41, 0)) cl_10 d_Mo_hasArgument_5 (by decide) wf_Mo_62 rfl (hF 30 0 (by decide)) rfl (hL (30, 0) 11 (41, 0) rfl (by decide)) (mz_aload_n d_Mo_hasArgument_8 rfl (mz_getI (k := 29) cl_10 d_Mo_hasArgument_9 (by decide) wf_Mo_137 rfl (hF 30 0 (by decide)) rfl (match h with | ⟨j1, h2, h3, h4⟩ => mz_iald j1 d_Mo_hasArgument_12 (hF 41 0 (by decide)) rfl h2 h3 (mz_icmp_gt 20 d_Mo_hasArgument_13 rfl (fun hc5 => (mz_iconst (0 : Int32) d_Mo_hasArgument_20 (by decide) (mz_iret .boolean d_Mo_hasArgument_21 rfl rfl ⟨rfl, hL, _, rfl, (h4.1 hc5)⟩))) (fun hc5 => (mz_iconst (1 : Int32) d_Mo_hasArgument_16 (by decide) (mz_goto 21 d_Mo_hasArgument_17 rfl (mz_iret .boolean d_Mo_hasArgument_21 rfl rfl ⟨rfl, hL, _, rfl, (h4.2 hc5)⟩)))))))))))))
