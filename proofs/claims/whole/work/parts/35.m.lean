def mm_Mo_fill : MzT := (⟨"ParcelLineModel", "fill", "(IIII)Z"⟩, prog_14_method_71_code, 7, (Option.some Jvm.ClassFile.FieldType.boolean))
theorem cs_Mo_fill {mm : MzT} : mzCall mm mm_Mo_fill 4 := ⟨wn_Mo, wco_Mo_fill, by decide +kernel, by decide⟩
theorem d_Mo_fill_0 : decode mm_Mo_fill.2.1 0 = .ok (.aload_n 0, 1) := by decide +kernel
theorem d_Mo_fill_1 : decode mm_Mo_fill.2.1 1 = .ok (.iconst 0, 1) := by decide +kernel
theorem d_Mo_fill_2 : decode mm_Mo_fill.2.1 2 = .ok (.putfield 126, 3) := by decide +kernel
theorem d_Mo_fill_5 : decode mm_Mo_fill.2.1 5 = .ok (.iload_n 1, 1) := by decide +kernel
theorem d_Mo_fill_6 : decode mm_Mo_fill.2.1 6 = .ok (.ifCond .lt 25, 3) := by decide +kernel
theorem d_Mo_fill_9 : decode mm_Mo_fill.2.1 9 = .ok (.iload_n 1, 1) := by decide +kernel
theorem d_Mo_fill_10 : decode mm_Mo_fill.2.1 10 = .ok (.iconst 2, 1) := by decide +kernel
theorem d_Mo_fill_11 : decode mm_Mo_fill.2.1 11 = .ok (.if_icmp .gt 20, 3) := by decide +kernel
theorem d_Mo_fill_14 : decode mm_Mo_fill.2.1 14 = .ok (.iload_n 2, 1) := by decide +kernel
theorem d_Mo_fill_15 : decode mm_Mo_fill.2.1 15 = .ok (.ifCond .lt 16, 3) := by decide +kernel
theorem d_Mo_fill_18 : decode mm_Mo_fill.2.1 18 = .ok (.iload_n 2, 1) := by decide +kernel
theorem d_Mo_fill_19 : decode mm_Mo_fill.2.1 19 = .ok (.bipush 24, 2) := by decide +kernel
theorem d_Mo_fill_21 : decode mm_Mo_fill.2.1 21 = .ok (.if_icmp .gt 10, 3) := by decide +kernel
theorem d_Mo_fill_24 : decode mm_Mo_fill.2.1 24 = .ok (.aload_n 0, 1) := by decide +kernel
theorem d_Mo_fill_25 : decode mm_Mo_fill.2.1 25 = .ok (.getfield 319, 3) := by decide +kernel
theorem d_Mo_fill_28 : decode mm_Mo_fill.2.1 28 = .ok (.ifCond .eq 5, 3) := by decide +kernel
theorem d_Mo_fill_31 : decode mm_Mo_fill.2.1 31 = .ok (.iconst 0, 1) := by decide +kernel
theorem d_Mo_fill_32 : decode mm_Mo_fill.2.1 32 = .ok (.ireturn, 1) := by decide +kernel
theorem d_Mo_fill_33 : decode mm_Mo_fill.2.1 33 = .ok (.iload_n 3, 1) := by decide +kernel
theorem d_Mo_fill_34 : decode mm_Mo_fill.2.1 34 = .ok (.istore 5, 2) := by decide +kernel
theorem d_Mo_fill_36 : decode mm_Mo_fill.2.1 36 = .ok (.iconst 0, 1) := by decide +kernel
theorem d_Mo_fill_37 : decode mm_Mo_fill.2.1 37 = .ok (.istore 6, 2) := by decide +kernel
theorem d_Mo_fill_39 : decode mm_Mo_fill.2.1 39 = .ok (.iload 6, 2) := by decide +kernel
theorem d_Mo_fill_41 : decode mm_Mo_fill.2.1 41 = .ok (.iload_n 2, 1) := by decide +kernel
theorem d_Mo_fill_42 : decode mm_Mo_fill.2.1 42 = .ok (.if_icmp .ge 34, 3) := by decide +kernel
theorem d_Mo_fill_45 : decode mm_Mo_fill.2.1 45 = .ok (.aload_n 0, 1) := by decide +kernel
theorem d_Mo_fill_46 : decode mm_Mo_fill.2.1 46 = .ok (.getfield 119, 3) := by decide +kernel
theorem d_Mo_fill_49 : decode mm_Mo_fill.2.1 49 = .ok (.bipush 24, 2) := by decide +kernel
theorem d_Mo_fill_51 : decode mm_Mo_fill.2.1 51 = .ok (.iload_n 1, 1) := by decide +kernel
theorem d_Mo_fill_52 : decode mm_Mo_fill.2.1 52 = .ok (.imul, 1) := by decide +kernel
theorem d_Mo_fill_53 : decode mm_Mo_fill.2.1 53 = .ok (.iload 6, 2) := by decide +kernel
theorem d_Mo_fill_55 : decode mm_Mo_fill.2.1 55 = .ok (.iadd, 1) := by decide +kernel
theorem d_Mo_fill_56 : decode mm_Mo_fill.2.1 56 = .ok (.iload 5, 2) := by decide +kernel
theorem d_Mo_fill_58 : decode mm_Mo_fill.2.1 58 = .ok (.sipush 255, 3) := by decide +kernel
theorem d_Mo_fill_61 : decode mm_Mo_fill.2.1 61 = .ok (.iand, 1) := by decide +kernel
theorem d_Mo_fill_62 : decode mm_Mo_fill.2.1 62 = .ok (.iastore, 1) := by decide +kernel
theorem d_Mo_fill_63 : decode mm_Mo_fill.2.1 63 = .ok (.iload 5, 2) := by decide +kernel
theorem d_Mo_fill_65 : decode mm_Mo_fill.2.1 65 = .ok (.iload 4, 2) := by decide +kernel
theorem d_Mo_fill_67 : decode mm_Mo_fill.2.1 67 = .ok (.iadd, 1) := by decide +kernel
theorem d_Mo_fill_68 : decode mm_Mo_fill.2.1 68 = .ok (.istore 5, 2) := by decide +kernel
theorem d_Mo_fill_70 : decode mm_Mo_fill.2.1 70 = .ok (.iinc 6 1, 3) := by decide +kernel
theorem d_Mo_fill_73 : decode mm_Mo_fill.2.1 73 = .ok (.goto (-34), 3) := by decide +kernel
theorem d_Mo_fill_76 : decode mm_Mo_fill.2.1 76 = .ok (.aload_n 0, 1) := by decide +kernel
theorem d_Mo_fill_77 : decode mm_Mo_fill.2.1 77 = .ok (.getfield 116, 3) := by decide +kernel
theorem d_Mo_fill_80 : decode mm_Mo_fill.2.1 80 = .ok (.iload_n 1, 1) := by decide +kernel
theorem d_Mo_fill_81 : decode mm_Mo_fill.2.1 81 = .ok (.iload_n 2, 1) := by decide +kernel
theorem d_Mo_fill_82 : decode mm_Mo_fill.2.1 82 = .ok (.iastore, 1) := by decide +kernel
theorem d_Mo_fill_83 : decode mm_Mo_fill.2.1 83 = .ok (.iconst 1, 1) := by decide +kernel
theorem d_Mo_fill_84 : decode mm_Mo_fill.2.1 84 = .ok (.ireturn, 1) := by decide +kernel
def wp_Mo_fill_39   (K : Int32 → MzM → Prop) : Nat → Int32 → Int32 → Int32 → Int32 → Int32 → MzM → Prop
  | 0, _, _, _, _, _, _ => False
  | r0 + 1, y1, y2, y4, y5, y6, M => ((y2 ≤ y6 → (∃ j12 : Nat, y1.toInt = (j12 : Int) ∧ j12 < 3 ∧ ∀ M9 : MzM, M9 = mz_si M (59, 0) j12 y2 → K (1 : Int32) M9)) ∧ (¬ y2 ≤ y6 → (∃ j18 : Nat, (((24 : Int32) * y1) + y6).toInt = (j18 : Int) ∧ j18 < 72 ∧ ∀ M15 : MzM, M15 = mz_si M (60, 0) j18 (y5 &&& (255 : Int32)) → (wp_Mo_fill_39   K r0) y1 y2 y4 (y5 + y4) (y6 + (1 : Int32)) M15)))
def wp_Mo_fill  (a1 : Int32) (a2 : Int32) (a3 : Int32) (a4 : Int32) (M : MzM) (K : Int32 → MzM → Prop) : Prop := (∀ M1 : MzM, M1 = mz_si M (30, 0) 1 (0 : Int32) → ((a1 < 0 → K (0 : Int32) M1) ∧ (¬ a1 < 0 → (((2 : Int32) < a1 → K (0 : Int32) M1) ∧ (¬ (2 : Int32) < a1 → ((a2 < 0 → K (0 : Int32) M1) ∧ (¬ a2 < 0 → (((24 : Int32) < a2 → K (0 : Int32) M1) ∧ (¬ (24 : Int32) < a2 → (((mz_i M1 (30, 0) 38) = 0 → (∃ r2 : Nat, wp_Mo_fill_39   K r2 a1 a2 a4 a3 (0 : Int32) M1)) ∧ (¬ (mz_i M1 (30, 0) 38) = 0 → K (0 : Int32) M1)))))))))))
theorem tm_Mo_fill_39 {G : MzG} {B : MzB} {d : Nat} {K : Int32 → MzM → Prop} (hF : mzLive B)     : ∀ (r0 : Nat) (y1 : Int32) (y2 : Int32) (y4 : Int32) (y5 : Int32) (y6 : Int32) (M : MzM), mzLnk M → wp_Mo_fill_39   K r0 y1 y2 y4 y5 y6 M → MzS G B d mm_Mo_fill M (0, 0) (mzK1 B K) 39 [(0, .ref (mz_ad B (30, 0))), (1, .int y1), (2, .int y2), (4, .int y4), (5, .int y5), (6, .int y6)] [] := by
  intro r0
  induction r0 with
  | zero => intro y1 y2 y4 y5 y6 M hL h; exact False.elim h
  | succ r0 hH39 =>
    intro y1 y2 y4 y5 y6 M hL h
    unfold wp_Mo_fill_39 at h
    exact (mz_iload d_Mo_fill_39 rfl (mz_iload_n d_Mo_fill_41 rfl (mz_icmp_ge 76 d_Mo_fill_42 rfl (fun hc21 => (mz_aload_n d_Mo_fill_76 rfl (mz_getR (k := 36) (a := (59, 0)) cl_10 d_Mo_fill_77 (by decide) wf_Mo_116 rfl (hF 30 0 (by decide)) rfl (hL (30, 0) 36 (59, 0) rfl (by decide)) (mz_iload_n d_Mo_fill_80 rfl (mz_iload_n d_Mo_fill_81 rfl (match (h.1 hc21) with | ⟨j12, h13, h14, h11⟩ => mz_iast j12 d_Mo_fill_82 (hF 59 0 (by decide)) rfl h13 h14 (let M9 : MzM := mz_si M (59, 0) j12 y2; (mz_iconst (1 : Int32) d_Mo_fill_83 (by decide) (mz_iret .boolean d_Mo_fill_84 rfl rfl ⟨rfl, hL, _, rfl, (h11 M9 rfl)⟩))))))))) (fun hc21 => (mz_aload_n d_Mo_fill_45 rfl (mz_getR (k := 37) (a := (60, 0)) cl_10 d_Mo_fill_46 (by decide) wf_Mo_119 rfl (hF 30 0 (by decide)) rfl (hL (30, 0) 37 (60, 0) rfl (by decide)) (mz_bipush (24 : Int32) d_Mo_fill_49 (by decide) (mz_iload_n d_Mo_fill_51 rfl (mz_imul d_Mo_fill_52 (mz_iload d_Mo_fill_53 rfl (mz_iadd d_Mo_fill_55 (mz_iload d_Mo_fill_56 rfl (mz_sipush (255 : Int32) d_Mo_fill_58 (by decide) (mz_iand d_Mo_fill_61 (match (h.2 hc21) with | ⟨j18, h19, h20, h17⟩ => mz_iast j18 d_Mo_fill_62 (hF 60 0 (by decide)) rfl h19 h20 (let M15 : MzM := mz_si M (60, 0) j18 (y5 &&& (255 : Int32)); (mz_iload d_Mo_fill_63 rfl (mz_iload d_Mo_fill_65 rfl (mz_iadd d_Mo_fill_67 (mz_istore d_Mo_fill_68 (by decide) (mz_iinc (y6 + (1 : Int32)) d_Mo_fill_70 rfl (by decide) rfl (mz_goto 39 d_Mo_fill_73 rfl (MzS.loc [(0, .ref (mz_ad B (30, 0))), (1, .int y1), (2, .int y2), (4, .int y4), (5, .int (y5 + y4)), (6, .int (y6 + (1 : Int32)))] ⟨rfl, rfl, rfl, rfl, rfl, rfl, trivial⟩ (hH39 y1 y2 y4 (y5 + y4) (y6 + (1 : Int32)) M15 hL (h17 M15 rfl)))))))))))))))))))))))))
theorem tm_Mo_fill {G : MzG} {B : MzB} {d : Nat} {K : Int32 → MzM → Prop} (hF : mzLive B)   {a1 : Int32} {a2 : Int32} {a3 : Int32} {a4 : Int32} {M : MzM} (hL : mzLnk M) (h : wp_Mo_fill  a1 a2 a3 a4 M K) : MzC G B d mm_Mo_fill [.ref (mz_ad B (30, 0)), .int a1, .int a2, .int a3, .int a4] M (0, 0) (mzK1 B K) := by
  unfold wp_Mo_fill at h
  exact MzC.of rfl (Nat.le_of_ble_eq_true rfl) (show MzS G B d mm_Mo_fill M (0, 0) (mzK1 B K) 0 [(0, .ref (mz_ad B (30, 0))), (1, .int a1), (2, .int a2), (3, .int a3), (4, .int a4)] [] from (mz_aload_n d_Mo_fill_0 rfl (mz_iconst (0 : Int32) d_Mo_fill_1 (by decide) (mz_putI (k := 1) cl_10 d_Mo_fill_2 (by decide) wf_Mo_126 rfl rfl rfl rfl (hF 30 0 (by decide)) rfl (let M1 : MzM := mz_si M (30, 0) 1 (0 : Int32); (mz_iload_n d_Mo_fill_5 rfl (mz_if_lt 31 d_Mo_fill_6 rfl (fun hc8 => (mz_iconst (0 : Int32) d_Mo_fill_31 (by decide) (mz_iret .boolean d_Mo_fill_32 rfl rfl ⟨rfl, hL, _, rfl, ((h M1 rfl).1 hc8)⟩))) (fun hc8 => (mz_iload_n d_Mo_fill_9 rfl (mz_iconst (2 : Int32) d_Mo_fill_10 (by decide) (mz_icmp_gt 31 d_Mo_fill_11 rfl (fun hc7 => (mz_iconst (0 : Int32) d_Mo_fill_31 (by decide) (mz_iret .boolean d_Mo_fill_32 rfl rfl ⟨rfl, hL, _, rfl, (((h M1 rfl).2 hc8).1 hc7)⟩))) (fun hc7 => (mz_iload_n d_Mo_fill_14 rfl (mz_if_lt 31 d_Mo_fill_15 rfl (fun hc6 => (mz_iconst (0 : Int32) d_Mo_fill_31 (by decide) (mz_iret .boolean d_Mo_fill_32 rfl rfl ⟨rfl, hL, _, rfl, ((((h M1 rfl).2 hc8).2 hc7).1 hc6)⟩))) (fun hc6 => (mz_iload_n d_Mo_fill_18 rfl (mz_bipush (24 : Int32) d_Mo_fill_19 (by decide) (mz_icmp_gt 31 d_Mo_fill_21 rfl (fun hc5 => (mz_iconst (0 : Int32) d_Mo_fill_31 (by decide) (mz_iret .boolean d_Mo_fill_32 rfl rfl ⟨rfl, hL, _, rfl, (((((h M1 rfl).2 hc8).2 hc7).2 hc6).1 hc5)⟩))) (fun hc5 => (mz_aload_n d_Mo_fill_24 rfl (mz_getI (k := 38) cl_10 d_Mo_fill_25 (by decide) wf_Mo_319 rfl (hF 30 0 (by decide)) rfl (mz_if_eq 33 d_Mo_fill_28 rfl (fun hc4 => (mz_iload_n d_Mo_fill_33 rfl (mz_istore d_Mo_fill_34 (by decide) (mz_iconst (0 : Int32) d_Mo_fill_36 (by decide) (mz_istore d_Mo_fill_37 (by decide) (MzS.loc [(0, .ref (mz_ad B (30, 0))), (1, .int a1), (2, .int a2), (4, .int a4), (5, .int a3), (6, .int (0 : Int32))] ⟨rfl, rfl, rfl, rfl, rfl, rfl, trivial⟩ (match ((((((h M1 rfl).2 hc8).2 hc7).2 hc6).2 hc5).1 hc4) with | ⟨r2, h3⟩ => tm_Mo_fill_39 hF   r2 a1 a2 a4 a3 (0 : Int32) M1 hL h3))))))) (fun hc4 => (mz_iconst (0 : Int32) d_Mo_fill_31 (by decide) (mz_iret .boolean d_Mo_fill_32 rfl rfl ⟨rfl, hL, _, rfl, ((((((h M1 rfl).2 hc8).2 hc7).2 hc6).2 hc5).2 hc4)⟩)))))))))))))))))))))))))
def mm_Mo_shelf : MzT := (⟨"ParcelLineModel", "shelf", "(II)I"⟩, prog_14_method_72_code, 3, (Option.some Jvm.ClassFile.FieldType.int))
theorem cs_Mo_shelf {mm : MzT} : mzCall mm mm_Mo_shelf 2 := ⟨wn_Mo, wco_Mo_shelf, by decide +kernel, by decide⟩
theorem d_Mo_shelf_0 : decode mm_Mo_shelf.2.1 0 = .ok (.aload_n 0, 1) := by decide +kernel
theorem d_Mo_shelf_1 : decode mm_Mo_shelf.2.1 1 = .ok (.iconst 0, 1) := by decide +kernel
theorem d_Mo_shelf_2 : decode mm_Mo_shelf.2.1 2 = .ok (.putfield 126, 3) := by decide +kernel
theorem d_Mo_shelf_5 : decode mm_Mo_shelf.2.1 5 = .ok (.iload_n 1, 1) := by decide +kernel
theorem d_Mo_shelf_6 : decode mm_Mo_shelf.2.1 6 = .ok (.ifCond .lt 8, 3) := by decide +kernel
theorem d_Mo_shelf_9 : decode mm_Mo_shelf.2.1 9 = .ok (.iload_n 1, 1) := by decide +kernel
theorem d_Mo_shelf_10 : decode mm_Mo_shelf.2.1 10 = .ok (.iconst 2, 1) := by decide +kernel
theorem d_Mo_shelf_11 : decode mm_Mo_shelf.2.1 11 = .ok (.if_icmp .le 5, 3) := by decide +kernel
theorem d_Mo_shelf_14 : decode mm_Mo_shelf.2.1 14 = .ok (.iconst (-1), 1) := by decide +kernel
theorem d_Mo_shelf_15 : decode mm_Mo_shelf.2.1 15 = .ok (.ireturn, 1) := by decide +kernel
theorem d_Mo_shelf_16 : decode mm_Mo_shelf.2.1 16 = .ok (.iload_n 2, 1) := by decide +kernel
theorem d_Mo_shelf_17 : decode mm_Mo_shelf.2.1 17 = .ok (.iconst (-1), 1) := by decide +kernel
theorem d_Mo_shelf_18 : decode mm_Mo_shelf.2.1 18 = .ok (.if_icmp .ne 12, 3) := by decide +kernel
theorem d_Mo_shelf_21 : decode mm_Mo_shelf.2.1 21 = .ok (.aload_n 0, 1) := by decide +kernel
theorem d_Mo_shelf_22 : decode mm_Mo_shelf.2.1 22 = .ok (.getfield 116, 3) := by decide +kernel
theorem d_Mo_shelf_25 : decode mm_Mo_shelf.2.1 25 = .ok (.iload_n 1, 1) := by decide +kernel
theorem d_Mo_shelf_26 : decode mm_Mo_shelf.2.1 26 = .ok (.iaload, 1) := by decide +kernel
theorem d_Mo_shelf_27 : decode mm_Mo_shelf.2.1 27 = .ok (.goto 32, 3) := by decide +kernel
theorem d_Mo_shelf_30 : decode mm_Mo_shelf.2.1 30 = .ok (.iload_n 2, 1) := by decide +kernel
theorem d_Mo_shelf_31 : decode mm_Mo_shelf.2.1 31 = .ok (.ifCond .lt 27, 3) := by decide +kernel
theorem d_Mo_shelf_34 : decode mm_Mo_shelf.2.1 34 = .ok (.iload_n 2, 1) := by decide +kernel
theorem d_Mo_shelf_35 : decode mm_Mo_shelf.2.1 35 = .ok (.aload_n 0, 1) := by decide +kernel
theorem d_Mo_shelf_36 : decode mm_Mo_shelf.2.1 36 = .ok (.getfield 116, 3) := by decide +kernel
theorem d_Mo_shelf_39 : decode mm_Mo_shelf.2.1 39 = .ok (.iload_n 1, 1) := by decide +kernel
theorem d_Mo_shelf_40 : decode mm_Mo_shelf.2.1 40 = .ok (.iaload, 1) := by decide +kernel
theorem d_Mo_shelf_41 : decode mm_Mo_shelf.2.1 41 = .ok (.if_icmp .ge 17, 3) := by decide +kernel
theorem d_Mo_shelf_44 : decode mm_Mo_shelf.2.1 44 = .ok (.aload_n 0, 1) := by decide +kernel
theorem d_Mo_shelf_45 : decode mm_Mo_shelf.2.1 45 = .ok (.getfield 119, 3) := by decide +kernel
theorem d_Mo_shelf_48 : decode mm_Mo_shelf.2.1 48 = .ok (.bipush 24, 2) := by decide +kernel
theorem d_Mo_shelf_50 : decode mm_Mo_shelf.2.1 50 = .ok (.iload_n 1, 1) := by decide +kernel
theorem d_Mo_shelf_51 : decode mm_Mo_shelf.2.1 51 = .ok (.imul, 1) := by decide +kernel
theorem d_Mo_shelf_52 : decode mm_Mo_shelf.2.1 52 = .ok (.iload_n 2, 1) := by decide +kernel
theorem d_Mo_shelf_53 : decode mm_Mo_shelf.2.1 53 = .ok (.iadd, 1) := by decide +kernel
theorem d_Mo_shelf_54 : decode mm_Mo_shelf.2.1 54 = .ok (.iaload, 1) := by decide +kernel
theorem d_Mo_shelf_55 : decode mm_Mo_shelf.2.1 55 = .ok (.goto 4, 3) := by decide +kernel
theorem d_Mo_shelf_58 : decode mm_Mo_shelf.2.1 58 = .ok (.iconst (-1), 1) := by decide +kernel
theorem d_Mo_shelf_59 : decode mm_Mo_shelf.2.1 59 = .ok (.ireturn, 1) := by decide +kernel
def wp_Mo_shelf  (a1 : Int32) (a2 : Int32) (M : MzM) (K : Int32 → MzM → Prop) : Prop := (∀ M1 : MzM, M1 = mz_si M (30, 0) 1 (0 : Int32) → ((a1 < 0 → K (-1 : Int32) M1) ∧ (¬ a1 < 0 → ((a1 ≤ (2 : Int32) → ((¬ a2 = (-1 : Int32) → ((a2 < 0 → K (-1 : Int32) M1) ∧ (¬ a2 < 0 → (∃ j2 : Nat, a1.toInt = (j2 : Int) ∧ j2 < 3 ∧ (((mz_i M1 (59, 0) j2) ≤ a2 → K (-1 : Int32) M1) ∧ (¬ (mz_i M1 (59, 0) j2) ≤ a2 → (∃ j6 : Nat, (((24 : Int32) * a1) + a2).toInt = (j6 : Int) ∧ j6 < 72 ∧ K (mz_i M1 (60, 0) j6) M1))))))) ∧ (a2 = (-1 : Int32) → (∃ j12 : Nat, a1.toInt = (j12 : Int) ∧ j12 < 3 ∧ K (mz_i M1 (59, 0) j12) M1)))) ∧ (¬ a1 ≤ (2 : Int32) → K (-1 : Int32) M1)))))
theorem tm_Mo_shelf {G : MzG} {B : MzB} {d : Nat} {K : Int32 → MzM → Prop} (hF : mzLive B)   {a1 : Int32} {a2 : Int32} {M : MzM} (hL : mzLnk M) (h : wp_Mo_shelf  a1 a2 M K) : MzC G B d mm_Mo_shelf [.ref (mz_ad B (30, 0)), .int a1, .int a2] M (0, 0) (mzK1 B K) := by
  unfold wp_Mo_shelf at h
  exact MzC.of rfl (Nat.le_of_ble_eq_true rfl) (show MzS G B d mm_Mo_shelf M (0, 0) (mzK1 B K) 0 [(0, .ref (mz_ad B (30, 0))), (1, .int a1), (2, .int a2)] [] from (mz_aload_n d_Mo_shelf_0 rfl (mz_iconst (0 : Int32) d_Mo_shelf_1 (by decide) (mz_putI (k := 1) cl_10 d_Mo_shelf_2 (by decide) wf_Mo_126 rfl rfl rfl rfl (hF 30 0 (by decide)) rfl (let M1 : MzM := mz_si M (30, 0) 1 (0 : Int32); (mz_iload_n d_Mo_shelf_5 rfl (mz_if_lt 14 d_Mo_shelf_6 rfl (fun hc18 => (mz_iconst (-1 : Int32) d_Mo_shelf_14 (by decide) (mz_iret .int d_Mo_shelf_15 rfl rfl ⟨rfl, hL, _, rfl, ((h M1 rfl).1 hc18)⟩))) (fun hc18 => (mz_iload_n d_Mo_shelf_9 rfl (mz_iconst (2 : Int32) d_Mo_shelf_10 (by decide) (mz_icmp_le 16 d_Mo_shelf_11 rfl (fun hc17 => (mz_iload_n d_Mo_shelf_16 rfl (mz_iconst (-1 : Int32) d_Mo_shelf_17 (by decide) (mz_icmp_ne 30 d_Mo_shelf_18 rfl (fun hc16 => (mz_iload_n d_Mo_shelf_30 rfl (mz_if_lt 58 d_Mo_shelf_31 rfl (fun hc11 => (mz_iconst (-1 : Int32) d_Mo_shelf_58 (by decide) (mz_iret .int d_Mo_shelf_59 rfl rfl ⟨rfl, hL, _, rfl, (((((h M1 rfl).2 hc18).1 hc17).1 hc16).1 hc11)⟩))) (fun hc11 => (mz_iload_n d_Mo_shelf_34 rfl (mz_aload_n d_Mo_shelf_35 rfl (mz_getR (k := 36) (a := (59, 0)) cl_10 d_Mo_shelf_36 (by decide) wf_Mo_116 rfl (hF 30 0 (by decide)) rfl (hL (30, 0) 36 (59, 0) rfl (by decide)) (mz_iload_n d_Mo_shelf_39 rfl (match (((((h M1 rfl).2 hc18).1 hc17).1 hc16).2 hc11) with | ⟨j2, h3, h4, h5⟩ => mz_iald j2 d_Mo_shelf_40 (hF 59 0 (by decide)) rfl h3 h4 (mz_icmp_ge 58 d_Mo_shelf_41 rfl (fun hc10 => (mz_iconst (-1 : Int32) d_Mo_shelf_58 (by decide) (mz_iret .int d_Mo_shelf_59 rfl rfl ⟨rfl, hL, _, rfl, (h5.1 hc10)⟩))) (fun hc10 => (mz_aload_n d_Mo_shelf_44 rfl (mz_getR (k := 37) (a := (60, 0)) cl_10 d_Mo_shelf_45 (by decide) wf_Mo_119 rfl (hF 30 0 (by decide)) rfl (hL (30, 0) 37 (60, 0) rfl (by decide)) (mz_bipush (24 : Int32) d_Mo_shelf_48 (by decide) (mz_iload_n d_Mo_shelf_50 rfl (mz_imul d_Mo_shelf_51 (mz_iload_n d_Mo_shelf_52 rfl (mz_iadd d_Mo_shelf_53 (match (h5.2 hc10) with | ⟨j6, h7, h8, h9⟩ => mz_iald j6 d_Mo_shelf_54 (hF 60 0 (by decide)) rfl h7 h8 (mz_goto 59 d_Mo_shelf_55 rfl (mz_iret .int d_Mo_shelf_59 rfl rfl ⟨rfl, hL, _, rfl, h9⟩))))))))))))))))))))) (fun hc16 => (mz_aload_n d_Mo_shelf_21 rfl (mz_getR (k := 36) (a := (59, 0)) cl_10 d_Mo_shelf_22 (by decide) wf_Mo_116 rfl (hF 30 0 (by decide)) rfl (hL (30, 0) 36 (59, 0) rfl (by decide)) (mz_iload_n d_Mo_shelf_25 rfl (match ((((h M1 rfl).2 hc18).1 hc17).2 hc16) with | ⟨j12, h13, h14, h15⟩ => mz_iald j12 d_Mo_shelf_26 (hF 59 0 (by decide)) rfl h13 h14 (mz_goto 59 d_Mo_shelf_27 rfl (mz_iret .int d_Mo_shelf_59 rfl rfl ⟨rfl, hL, _, rfl, h15⟩))))))))))) (fun hc17 => (mz_iconst (-1 : Int32) d_Mo_shelf_14 (by decide) (mz_iret .int d_Mo_shelf_15 rfl rfl ⟨rfl, hL, _, rfl, (((h M1 rfl).2 hc18).2 hc17)⟩))))))))))))))
def mm_Mo_isName : MzT := (⟨"ParcelLineModel", "isName", "(I)Z"⟩, prog_14_method_73_code, 4, (Option.some Jvm.ClassFile.FieldType.boolean))
theorem cs_Mo_isName {mm : MzT} : mzCall mm mm_Mo_isName 1 := ⟨wn_Mo, wco_Mo_isName, by decide +kernel, by decide⟩
theorem d_Mo_isName_0 : decode mm_Mo_isName.2.1 0 = .ok (.iload_n 0, 1) := by decide +kernel
theorem d_Mo_isName_1 : decode mm_Mo_isName.2.1 1 = .ok (.ifCond .le 10, 3) := by decide +kernel
theorem d_Mo_isName_4 : decode mm_Mo_isName.2.1 4 = .ok (.iload_n 0, 1) := by decide +kernel
theorem d_Mo_isName_5 : decode mm_Mo_isName.2.1 5 = .ok (.ldc_w 335, 3) := by decide +kernel
theorem d_Mo_isName_8 : decode mm_Mo_isName.2.1 8 = .ok (.if_icmp .lt 5, 3) := by decide +kernel
theorem d_Mo_isName_11 : decode mm_Mo_isName.2.1 11 = .ok (.iconst 0, 1) := by decide +kernel
theorem d_Mo_isName_12 : decode mm_Mo_isName.2.1 12 = .ok (.ireturn, 1) := by decide +kernel
theorem d_Mo_isName_13 : decode mm_Mo_isName.2.1 13 = .ok (.iload_n 0, 1) := by decide +kernel
theorem d_Mo_isName_14 : decode mm_Mo_isName.2.1 14 = .ok (.sipush 128, 3) := by decide +kernel
theorem d_Mo_isName_17 : decode mm_Mo_isName.2.1 17 = .ok (.irem, 1) := by decide +kernel
theorem d_Mo_isName_18 : decode mm_Mo_isName.2.1 18 = .ok (.istore_n 1, 1) := by decide +kernel
theorem d_Mo_isName_19 : decode mm_Mo_isName.2.1 19 = .ok (.iload_n 0, 1) := by decide +kernel
theorem d_Mo_isName_20 : decode mm_Mo_isName.2.1 20 = .ok (.sipush 128, 3) := by decide +kernel
theorem d_Mo_isName_23 : decode mm_Mo_isName.2.1 23 = .ok (.idiv, 1) := by decide +kernel
theorem d_Mo_isName_24 : decode mm_Mo_isName.2.1 24 = .ok (.sipush 128, 3) := by decide +kernel
theorem d_Mo_isName_27 : decode mm_Mo_isName.2.1 27 = .ok (.irem, 1) := by decide +kernel
theorem d_Mo_isName_28 : decode mm_Mo_isName.2.1 28 = .ok (.istore_n 2, 1) := by decide +kernel
theorem d_Mo_isName_29 : decode mm_Mo_isName.2.1 29 = .ok (.iload_n 0, 1) := by decide +kernel
theorem d_Mo_isName_30 : decode mm_Mo_isName.2.1 30 = .ok (.sipush 16384, 3) := by decide +kernel
theorem d_Mo_isName_33 : decode mm_Mo_isName.2.1 33 = .ok (.idiv, 1) := by decide +kernel
theorem d_Mo_isName_34 : decode mm_Mo_isName.2.1 34 = .ok (.istore_n 3, 1) := by decide +kernel
theorem d_Mo_isName_35 : decode mm_Mo_isName.2.1 35 = .ok (.iload_n 1, 1) := by decide +kernel
theorem d_Mo_isName_36 : decode mm_Mo_isName.2.1 36 = .ok (.invokestatic 195, 3) := by decide +kernel
theorem d_Mo_isName_39 : decode mm_Mo_isName.2.1 39 = .ok (.ifCond .eq 33, 3) := by decide +kernel
theorem d_Mo_isName_42 : decode mm_Mo_isName.2.1 42 = .ok (.iload_n 2, 1) := by decide +kernel
theorem d_Mo_isName_43 : decode mm_Mo_isName.2.1 43 = .ok (.ifCond .ne 7, 3) := by decide +kernel
theorem d_Mo_isName_46 : decode mm_Mo_isName.2.1 46 = .ok (.iload_n 3, 1) := by decide +kernel
theorem d_Mo_isName_47 : decode mm_Mo_isName.2.1 47 = .ok (.ifCond .eq 21, 3) := by decide +kernel
theorem d_Mo_isName_50 : decode mm_Mo_isName.2.1 50 = .ok (.iload_n 2, 1) := by decide +kernel
theorem d_Mo_isName_51 : decode mm_Mo_isName.2.1 51 = .ok (.invokestatic 195, 3) := by decide +kernel
theorem d_Mo_isName_54 : decode mm_Mo_isName.2.1 54 = .ok (.ifCond .eq 18, 3) := by decide +kernel
theorem d_Mo_isName_57 : decode mm_Mo_isName.2.1 57 = .ok (.iload_n 3, 1) := by decide +kernel
theorem d_Mo_isName_58 : decode mm_Mo_isName.2.1 58 = .ok (.ifCond .eq 10, 3) := by decide +kernel
theorem d_Mo_isName_61 : decode mm_Mo_isName.2.1 61 = .ok (.iload_n 3, 1) := by decide +kernel
theorem d_Mo_isName_62 : decode mm_Mo_isName.2.1 62 = .ok (.invokestatic 195, 3) := by decide +kernel
theorem d_Mo_isName_65 : decode mm_Mo_isName.2.1 65 = .ok (.ifCond .eq 7, 3) := by decide +kernel
theorem d_Mo_isName_68 : decode mm_Mo_isName.2.1 68 = .ok (.iconst 1, 1) := by decide +kernel
theorem d_Mo_isName_69 : decode mm_Mo_isName.2.1 69 = .ok (.goto 4, 3) := by decide +kernel
theorem d_Mo_isName_72 : decode mm_Mo_isName.2.1 72 = .ok (.iconst 0, 1) := by decide +kernel
theorem d_Mo_isName_73 : decode mm_Mo_isName.2.1 73 = .ok (.ireturn, 1) := by decide +kernel
def wp_Mo_isName_50   (K : Int32 → MzM → Prop) (y2 : Int32) (y3 : Int32) (M : MzM) : Prop := wp_Mo_isLetter  y2 M (fun v13 M10 => ((v13 = 0 → K (0 : Int32) M10) ∧ (¬ v13 = 0 → ((y3 = 0 → K (1 : Int32) M10) ∧ (¬ y3 = 0 → wp_Mo_isLetter  y3 M10 (fun v17 M14 => ((v17 = 0 → K (0 : Int32) M14) ∧ (¬ v17 = 0 → K (1 : Int32) M14))))))))
def wp_Mo_isName  (a0 : Int32) (M : MzM) (K : Int32 → MzM → Prop) : Prop := ((a0 ≤ 0 → K (0 : Int32) M) ∧ (¬ a0 ≤ 0 → ((a0 < (2097152 : Int32) → wp_Mo_isLetter  (a0 - a0 / (128 : Int32) * (128 : Int32)) M (fun v4 M1 => ((v4 = 0 → K (0 : Int32) M1) ∧ (¬ v4 = 0 → ((¬ ((a0 / (128 : Int32)) - (a0 / (128 : Int32)) / (128 : Int32) * (128 : Int32)) = 0 → wp_Mo_isName_50   K ((a0 / (128 : Int32)) - (a0 / (128 : Int32)) / (128 : Int32) * (128 : Int32)) (a0 / (16384 : Int32)) M1) ∧ (((a0 / (128 : Int32)) - (a0 / (128 : Int32)) / (128 : Int32) * (128 : Int32)) = 0 → (((a0 / (16384 : Int32)) = 0 → K (1 : Int32) M1) ∧ (¬ (a0 / (16384 : Int32)) = 0 → wp_Mo_isName_50   K ((a0 / (128 : Int32)) - (a0 / (128 : Int32)) / (128 : Int32) * (128 : Int32)) (a0 / (16384 : Int32)) M1)))))))) ∧ (¬ a0 < (2097152 : Int32) → K (0 : Int32) M))))
theorem tm_Mo_isName_50 {G : MzG} {B : MzB} {d : Nat} {K : Int32 → MzM → Prop} (hF : mzLive B)     (y2 : Int32) (y3 : Int32) (M : MzM) (hL : mzLnk M) (h : wp_Mo_isName_50   K y2 y3 M) : MzS G B (d + 1) mm_Mo_isName M (0, 0) (mzK1 B K) 50 [(2, .int y2), (3, .int y3)] [] := by
  unfold wp_Mo_isName_50 at h
  exact (mz_iload_n d_Mo_isName_50 rfl (mz_callS (As := [.int y2]) (st := []) 0 0 d_Mo_isName_51 cs_Mo_isLetter wl_Mo_195 ws_Mo_isLetter (Nat.le_of_ble_eq_true rfl) (Nat.le_refl _) (Nat.le_refl _) (MzC.mono (tm_Mo_isLetter (d := d) hF  hL h) (fun r9 B9 M10 hq12 => by obtain ⟨rfl, hL11, v13, rfl, hq12⟩ := hq12; exact ⟨_, rfl, (mz_if_eq 72 d_Mo_isName_54 rfl (fun hc20 => (mz_iconst (0 : Int32) d_Mo_isName_72 (by decide) (mz_iret .boolean d_Mo_isName_73 rfl rfl ⟨rfl, hL11, _, rfl, (hq12.1 hc20)⟩))) (fun hc20 => (mz_iload_n d_Mo_isName_57 rfl (mz_if_eq 68 d_Mo_isName_58 rfl (fun hc19 => (mz_iconst (1 : Int32) d_Mo_isName_68 (by decide) (mz_goto 73 d_Mo_isName_69 rfl (mz_iret .boolean d_Mo_isName_73 rfl rfl ⟨rfl, hL11, _, rfl, ((hq12.2 hc20).1 hc19)⟩)))) (fun hc19 => (mz_iload_n d_Mo_isName_61 rfl (mz_callS (As := [.int y3]) (st := []) 0 0 d_Mo_isName_62 cs_Mo_isLetter wl_Mo_195 ws_Mo_isLetter (Nat.le_of_ble_eq_true rfl) (Nat.le_refl _) (Nat.le_refl _) (MzC.mono (tm_Mo_isLetter (d := d) hF  hL11 ((hq12.2 hc20).2 hc19)) (fun r9 B9 M14 hq16 => by obtain ⟨rfl, hL15, v17, rfl, hq16⟩ := hq16; exact ⟨_, rfl, (mz_if_eq 72 d_Mo_isName_65 rfl (fun hc18 => (mz_iconst (0 : Int32) d_Mo_isName_72 (by decide) (mz_iret .boolean d_Mo_isName_73 rfl rfl ⟨rfl, hL15, _, rfl, (hq16.1 hc18)⟩))) (fun hc18 => (mz_iconst (1 : Int32) d_Mo_isName_68 (by decide) (mz_goto 73 d_Mo_isName_69 rfl (mz_iret .boolean d_Mo_isName_73 rfl rfl ⟨rfl, hL15, _, rfl, (hq16.2 hc18)⟩)))))⟩)))))))))⟩))))
theorem tm_Mo_isName {G : MzG} {B : MzB} {d : Nat} {K : Int32 → MzM → Prop} (hF : mzLive B)   {a0 : Int32} {M : MzM} (hL : mzLnk M) (h : wp_Mo_isName  a0 M K) : MzC G B (d + 1) mm_Mo_isName [.int a0] M (0, 0) (mzK1 B K) := by
  unfold wp_Mo_isName at h
  exact MzC.of rfl (Nat.le_of_ble_eq_true rfl) (show MzS G B (d + 1) mm_Mo_isName M (0, 0) (mzK1 B K) 0 [(0, .int a0)] [] from (mz_iload_n d_Mo_isName_0 rfl (mz_if_le 11 d_Mo_isName_1 rfl (fun hc9 => (mz_iconst (0 : Int32) d_Mo_isName_11 (by decide) (mz_iret .boolean d_Mo_isName_12 rfl rfl ⟨rfl, hL, _, rfl, (h.1 hc9)⟩))) (fun hc9 => (mz_iload_n d_Mo_isName_4 rfl (mz_ldcw (v := (2097152 : Int32)) d_Mo_isName_5 wk_Mo_335 (mz_icmp_lt 13 d_Mo_isName_8 rfl (fun hc8 => (mz_iload_n d_Mo_isName_13 rfl (mz_sipush (128 : Int32) d_Mo_isName_14 (by decide) (mz_irem d_Mo_isName_17 (by decide) (mz_istore_n d_Mo_isName_18 (by decide) (mz_iload_n d_Mo_isName_19 rfl (mz_sipush (128 : Int32) d_Mo_isName_20 (by decide) (mz_idiv d_Mo_isName_23 (by decide) (mz_sipush (128 : Int32) d_Mo_isName_24 (by decide) (mz_irem d_Mo_isName_27 (by decide) (mz_istore_n d_Mo_isName_28 (by decide) (mz_iload_n d_Mo_isName_29 rfl (mz_sipush (16384 : Int32) d_Mo_isName_30 (by decide) (mz_idiv d_Mo_isName_33 (by decide) (mz_istore_n d_Mo_isName_34 (by decide) (mz_iload_n d_Mo_isName_35 rfl (mz_callS (As := [.int (a0 - a0 / (128 : Int32) * (128 : Int32))]) (st := []) 0 0 d_Mo_isName_36 cs_Mo_isLetter wl_Mo_195 ws_Mo_isLetter (Nat.le_of_ble_eq_true rfl) (Nat.le_refl _) (Nat.le_refl _) (MzC.mono (tm_Mo_isLetter (d := d) hF  hL ((h.2 hc9).1 hc8)) (fun r9 B9 M1 hq3 => by obtain ⟨rfl, hL2, v4, rfl, hq3⟩ := hq3; exact ⟨_, rfl, (mz_if_eq 72 d_Mo_isName_39 rfl (fun hc7 => (mz_iconst (0 : Int32) d_Mo_isName_72 (by decide) (mz_iret .boolean d_Mo_isName_73 rfl rfl ⟨rfl, hL2, _, rfl, (hq3.1 hc7)⟩))) (fun hc7 => (mz_iload_n d_Mo_isName_42 rfl (mz_if_ne 50 d_Mo_isName_43 rfl (fun hc6 => (MzS.loc [(2, .int ((a0 / (128 : Int32)) - (a0 / (128 : Int32)) / (128 : Int32) * (128 : Int32))), (3, .int (a0 / (16384 : Int32)))] ⟨rfl, rfl, trivial⟩ (tm_Mo_isName_50 hF   ((a0 / (128 : Int32)) - (a0 / (128 : Int32)) / (128 : Int32) * (128 : Int32)) (a0 / (16384 : Int32)) M1 hL2 ((hq3.2 hc7).1 hc6)))) (fun hc6 => (mz_iload_n d_Mo_isName_46 rfl (mz_if_eq 68 d_Mo_isName_47 rfl (fun hc5 => (mz_iconst (1 : Int32) d_Mo_isName_68 (by decide) (mz_goto 73 d_Mo_isName_69 rfl (mz_iret .boolean d_Mo_isName_73 rfl rfl ⟨rfl, hL2, _, rfl, (((hq3.2 hc7).2 hc6).1 hc5)⟩)))) (fun hc5 => (MzS.loc [(2, .int ((a0 / (128 : Int32)) - (a0 / (128 : Int32)) / (128 : Int32) * (128 : Int32))), (3, .int (a0 / (16384 : Int32)))] ⟨rfl, rfl, trivial⟩ (tm_Mo_isName_50 hF   ((a0 / (128 : Int32)) - (a0 / (128 : Int32)) / (128 : Int32) * (128 : Int32)) (a0 / (16384 : Int32)) M1 hL2 (((hq3.2 hc7).2 hc6).2 hc5)))))))))))⟩))))))))))))))))))) (fun hc8 => (mz_iconst (0 : Int32) d_Mo_isName_11 (by decide) (mz_iret .boolean d_Mo_isName_12 rfl rfl ⟨rfl, hL, _, rfl, ((h.2 hc9).2 hc8)⟩))))))))))
def mm_Mo_job : MzT := (⟨"ParcelLineModel", "job", "(ZIII)V"⟩, prog_14_method_74_code, 5, (Option.none : Option Jvm.ClassFile.FieldType))
theorem cs_Mo_job {mm : MzT} : mzCall mm mm_Mo_job 4 := ⟨wn_Mo, wco_Mo_job, by decide +kernel, by decide⟩
theorem d_Mo_job_0 : decode mm_Mo_job.2.1 0 = .ok (.aload_n 0, 1) := by decide +kernel
theorem d_Mo_job_1 : decode mm_Mo_job.2.1 1 = .ok (.iconst 0, 1) := by decide +kernel
theorem d_Mo_job_2 : decode mm_Mo_job.2.1 2 = .ok (.putfield 126, 3) := by decide +kernel
theorem d_Mo_job_5 : decode mm_Mo_job.2.1 5 = .ok (.iload_n 2, 1) := by decide +kernel
theorem d_Mo_job_6 : decode mm_Mo_job.2.1 6 = .ok (.ifCond .lt 34, 3) := by decide +kernel
theorem d_Mo_job_9 : decode mm_Mo_job.2.1 9 = .ok (.iload_n 2, 1) := by decide +kernel
theorem d_Mo_job_10 : decode mm_Mo_job.2.1 10 = .ok (.iconst 2, 1) := by decide +kernel
theorem d_Mo_job_11 : decode mm_Mo_job.2.1 11 = .ok (.if_icmp .gt 29, 3) := by decide +kernel
theorem d_Mo_job_14 : decode mm_Mo_job.2.1 14 = .ok (.iload_n 3, 1) := by decide +kernel
theorem d_Mo_job_15 : decode mm_Mo_job.2.1 15 = .ok (.invokestatic 336, 3) := by decide +kernel
theorem d_Mo_job_18 : decode mm_Mo_job.2.1 18 = .ok (.ifCond .eq 22, 3) := by decide +kernel
theorem d_Mo_job_21 : decode mm_Mo_job.2.1 21 = .ok (.iload_n 3, 1) := by decide +kernel
theorem d_Mo_job_22 : decode mm_Mo_job.2.1 22 = .ok (.ldc_w 339, 3) := by decide +kernel
theorem d_Mo_job_25 : decode mm_Mo_job.2.1 25 = .ok (.if_icmp .eq 15, 3) := by decide +kernel
theorem d_Mo_job_28 : decode mm_Mo_job.2.1 28 = .ok (.iload 4, 2) := by decide +kernel
theorem d_Mo_job_30 : decode mm_Mo_job.2.1 30 = .ok (.ifCond .lt 10, 3) := by decide +kernel
theorem d_Mo_job_33 : decode mm_Mo_job.2.1 33 = .ok (.iload 4, 2) := by decide +kernel
theorem d_Mo_job_35 : decode mm_Mo_job.2.1 35 = .ok (.bipush 9, 2) := by decide +kernel
theorem d_Mo_job_37 : decode mm_Mo_job.2.1 37 = .ok (.if_icmp .le 11, 3) := by decide +kernel
theorem d_Mo_job_40 : decode mm_Mo_job.2.1 40 = .ok (.aload_n 0, 1) := by decide +kernel
theorem d_Mo_job_41 : decode mm_Mo_job.2.1 41 = .ok (.iconst 1, 1) := by decide +kernel
theorem d_Mo_job_42 : decode mm_Mo_job.2.1 42 = .ok (.putfield 126, 3) := by decide +kernel
theorem d_Mo_job_45 : decode mm_Mo_job.2.1 45 = .ok (.goto 15, 3) := by decide +kernel
theorem d_Mo_job_48 : decode mm_Mo_job.2.1 48 = .ok (.aload_n 0, 1) := by decide +kernel
theorem d_Mo_job_49 : decode mm_Mo_job.2.1 49 = .ok (.getfield 319, 3) := by decide +kernel
theorem d_Mo_job_52 : decode mm_Mo_job.2.1 52 = .ok (.ifCond .eq 8, 3) := by decide +kernel
theorem d_Mo_job_55 : decode mm_Mo_job.2.1 55 = .ok (.aload_n 0, 1) := by decide +kernel
theorem d_Mo_job_56 : decode mm_Mo_job.2.1 56 = .ok (.iconst 2, 1) := by decide +kernel
theorem d_Mo_job_57 : decode mm_Mo_job.2.1 57 = .ok (.putfield 126, 3) := by decide +kernel
theorem d_Mo_job_60 : decode mm_Mo_job.2.1 60 = .ok (.aload_n 0, 1) := by decide +kernel
theorem d_Mo_job_61 : decode mm_Mo_job.2.1 61 = .ok (.getfield 126, 3) := by decide +kernel
theorem d_Mo_job_64 : decode mm_Mo_job.2.1 64 = .ok (.ifCond .eq 4, 3) := by decide +kernel
theorem d_Mo_job_67 : decode mm_Mo_job.2.1 67 = .ok (.return_, 1) := by decide +kernel
theorem d_Mo_job_68 : decode mm_Mo_job.2.1 68 = .ok (.aload_n 0, 1) := by decide +kernel
theorem d_Mo_job_69 : decode mm_Mo_job.2.1 69 = .ok (.iconst 1, 1) := by decide +kernel
theorem d_Mo_job_70 : decode mm_Mo_job.2.1 70 = .ok (.putfield 319, 3) := by decide +kernel
theorem d_Mo_job_73 : decode mm_Mo_job.2.1 73 = .ok (.aload_n 0, 1) := by decide +kernel
theorem d_Mo_job_74 : decode mm_Mo_job.2.1 74 = .ok (.iload_n 1, 1) := by decide +kernel
theorem d_Mo_job_75 : decode mm_Mo_job.2.1 75 = .ok (.putfield 340, 3) := by decide +kernel
theorem d_Mo_job_78 : decode mm_Mo_job.2.1 78 = .ok (.aload_n 0, 1) := by decide +kernel
theorem d_Mo_job_79 : decode mm_Mo_job.2.1 79 = .ok (.iload_n 2, 1) := by decide +kernel
theorem d_Mo_job_80 : decode mm_Mo_job.2.1 80 = .ok (.putfield 343, 3) := by decide +kernel
theorem d_Mo_job_83 : decode mm_Mo_job.2.1 83 = .ok (.aload_n 0, 1) := by decide +kernel
theorem d_Mo_job_84 : decode mm_Mo_job.2.1 84 = .ok (.iload_n 3, 1) := by decide +kernel
theorem d_Mo_job_85 : decode mm_Mo_job.2.1 85 = .ok (.putfield 346, 3) := by decide +kernel
theorem d_Mo_job_88 : decode mm_Mo_job.2.1 88 = .ok (.aload_n 0, 1) := by decide +kernel
theorem d_Mo_job_89 : decode mm_Mo_job.2.1 89 = .ok (.iload 4, 2) := by decide +kernel
theorem d_Mo_job_91 : decode mm_Mo_job.2.1 91 = .ok (.putfield 323, 3) := by decide +kernel
theorem d_Mo_job_94 : decode mm_Mo_job.2.1 94 = .ok (.aload_n 0, 1) := by decide +kernel
theorem d_Mo_job_95 : decode mm_Mo_job.2.1 95 = .ok (.iconst 0, 1) := by decide +kernel
theorem d_Mo_job_96 : decode mm_Mo_job.2.1 96 = .ok (.putfield 326, 3) := by decide +kernel
theorem d_Mo_job_99 : decode mm_Mo_job.2.1 99 = .ok (.aload_n 0, 1) := by decide +kernel
theorem d_Mo_job_100 : decode mm_Mo_job.2.1 100 = .ok (.iconst 1, 1) := by decide +kernel
theorem d_Mo_job_101 : decode mm_Mo_job.2.1 101 = .ok (.invokevirtual 329, 3) := by decide +kernel
theorem d_Mo_job_104 : decode mm_Mo_job.2.1 104 = .ok (.return_, 1) := by decide +kernel
def wp_Mo_job_60   (K : MzM → Prop) (y1 : Int32) (y2 : Int32) (y3 : Int32) (y4 : Int32) (M : MzM) : Prop := (((mz_i M (30, 0) 1) = 0 → (∀ M15 : MzM, M15 = mz_si M (30, 0) 38 (1 : Int32) → ((y1 = 0 ∨ y1 = 1) ∧ ∀ M16 : MzM, M16 = mz_si M15 (30, 0) 39 y1 → (∀ M17 : MzM, M17 = mz_si M16 (30, 0) 40 y2 → (∀ M18 : MzM, M18 = mz_si M17 (30, 0) 41 y3 → (∀ M19 : MzM, M19 = mz_si M18 (30, 0) 42 y4 → (∀ M20 : MzM, M20 = mz_si M19 (30, 0) 43 (0 : Int32) → wp_Mo_cutSession  (1 : Int32) M20 (fun M21 => K M21)))))))) ∧ (¬ (mz_i M (30, 0) 1) = 0 → K M))
def wp_Mo_job_40   (K : MzM → Prop) (y1 : Int32) (y2 : Int32) (y3 : Int32) (y4 : Int32) (M : MzM) : Prop := (∀ M14 : MzM, M14 = mz_si M (30, 0) 1 (1 : Int32) → wp_Mo_job_60   K y1 y2 y3 y4 M14)
def wp_Mo_job  (a1 : Int32) (a2 : Int32) (a3 : Int32) (a4 : Int32) (M : MzM) (K : MzM → Prop) : Prop := (∀ M1 : MzM, M1 = mz_si M (30, 0) 1 (0 : Int32) → ((a2 < 0 → wp_Mo_job_40   K a1 a2 a3 a4 M1) ∧ (¬ a2 < 0 → (((2 : Int32) < a2 → wp_Mo_job_40   K a1 a2 a3 a4 M1) ∧ (¬ (2 : Int32) < a2 → wp_Mo_isName  a3 M1 (fun v5 M2 => ((v5 = 0 → wp_Mo_job_40   K a1 a2 a3 a4 M2) ∧ (¬ v5 = 0 → ((a3 = (1849076 : Int32) → wp_Mo_job_40   K a1 a2 a3 a4 M2) ∧ (¬ a3 = (1849076 : Int32) → ((a4 < 0 → wp_Mo_job_40   K a1 a2 a3 a4 M2) ∧ (¬ a4 < 0 → ((a4 ≤ (9 : Int32) → (((mz_i M2 (30, 0) 38) = 0 → wp_Mo_job_60   K a1 a2 a3 a4 M2) ∧ (¬ (mz_i M2 (30, 0) 38) = 0 → (∀ M6 : MzM, M6 = mz_si M2 (30, 0) 1 (2 : Int32) → wp_Mo_job_60   K a1 a2 a3 a4 M6)))) ∧ (¬ a4 ≤ (9 : Int32) → wp_Mo_job_40   K a1 a2 a3 a4 M2))))))))))))))
theorem tm_Mo_job_60 {G : MzG} {B : MzB} {d : Nat} {K : MzM → Prop} (hF : mzLive B)     (y1 : Int32) (y2 : Int32) (y3 : Int32) (y4 : Int32) (M : MzM) (hL : mzLnk M) (h : wp_Mo_job_60   K y1 y2 y3 y4 M) : MzS G B (d + 4) mm_Mo_job M (0, 0) (mzK0 B K) 60 [(0, .ref (mz_ad B (30, 0))), (1, .int y1), (2, .int y2), (3, .int y3), (4, .int y4)] [] := by
  unfold wp_Mo_job_60 at h
  exact (mz_aload_n d_Mo_job_60 rfl (mz_getI (k := 1) cl_10 d_Mo_job_61 (by decide) wf_Mo_126 rfl (hF 30 0 (by decide)) rfl (mz_if_eq 68 d_Mo_job_64 rfl (fun hc24 => (mz_aload_n d_Mo_job_68 rfl (mz_iconst (1 : Int32) d_Mo_job_69 (by decide) (mz_putI (k := 38) cl_10 d_Mo_job_70 (by decide) wf_Mo_319 rfl rfl rfl rfl (hF 30 0 (by decide)) rfl (let M15 : MzM := mz_si M (30, 0) 38 (1 : Int32); (mz_aload_n d_Mo_job_73 rfl (mz_iload_n d_Mo_job_74 rfl (mz_putI (k := 39) cl_10 d_Mo_job_75 (by decide) wf_Mo_340 rfl rfl (mz_bo ((h.1 hc24) M15 rfl).1).1 (mz_bo ((h.1 hc24) M15 rfl).1).2 (hF 30 0 (by decide)) rfl (let M16 : MzM := mz_si M15 (30, 0) 39 y1; (mz_aload_n d_Mo_job_78 rfl (mz_iload_n d_Mo_job_79 rfl (mz_putI (k := 40) cl_10 d_Mo_job_80 (by decide) wf_Mo_343 rfl rfl rfl rfl (hF 30 0 (by decide)) rfl (let M17 : MzM := mz_si M16 (30, 0) 40 y2; (mz_aload_n d_Mo_job_83 rfl (mz_iload_n d_Mo_job_84 rfl (mz_putI (k := 41) cl_10 d_Mo_job_85 (by decide) wf_Mo_346 rfl rfl rfl rfl (hF 30 0 (by decide)) rfl (let M18 : MzM := mz_si M17 (30, 0) 41 y3; (mz_aload_n d_Mo_job_88 rfl (mz_iload d_Mo_job_89 rfl (mz_putI (k := 42) cl_10 d_Mo_job_91 (by decide) wf_Mo_323 rfl rfl rfl rfl (hF 30 0 (by decide)) rfl (let M19 : MzM := mz_si M18 (30, 0) 42 y4; (mz_aload_n d_Mo_job_94 rfl (mz_iconst (0 : Int32) d_Mo_job_95 (by decide) (mz_putI (k := 43) cl_10 d_Mo_job_96 (by decide) wf_Mo_326 rfl rfl rfl rfl (hF 30 0 (by decide)) rfl (let M20 : MzM := mz_si M19 (30, 0) 43 (0 : Int32); (mz_aload_n d_Mo_job_99 rfl (mz_iconst (1 : Int32) d_Mo_job_100 (by decide) (mz_callV (As := [.int (1 : Int32)]) (st := []) (hF 30 0 (by decide)) rfl (mzClOf cl_10) 0 0 d_Mo_job_101 cs_Mo_cutSession wl_Mo_329 wi_Mo_cutSession wse_Mo_cutSession (Nat.le_of_ble_eq_true rfl) (Nat.le_refl _) (Nat.le_refl _) (MzC.mono (tm_Mo_cutSession (d := d) hF  hL (((((((h.1 hc24) M15 rfl).2 M16 rfl) M17 rfl) M18 rfl) M19 rfl) M20 rfl)) (fun r9 B9 M21 hq23 => by obtain ⟨rfl, hL22, rfl, hq23⟩ := hq23; exact ⟨none, rfl, (mz_vret d_Mo_job_104 rfl ⟨rfl, hL22, rfl, hq23⟩)⟩)))))))))))))))))))))))))))))) (fun hc24 => (mz_vret d_Mo_job_67 rfl ⟨rfl, hL, rfl, (h.2 hc24)⟩)))))
theorem tm_Mo_job_40 {G : MzG} {B : MzB} {d : Nat} {K : MzM → Prop} (hF : mzLive B)     (y1 : Int32) (y2 : Int32) (y3 : Int32) (y4 : Int32) (M : MzM) (hL : mzLnk M) (h : wp_Mo_job_40   K y1 y2 y3 y4 M) : MzS G B (d + 4) mm_Mo_job M (0, 0) (mzK0 B K) 40 [(0, .ref (mz_ad B (30, 0))), (1, .int y1), (2, .int y2), (3, .int y3), (4, .int y4)] [] := by
  unfold wp_Mo_job_40 at h
  exact (mz_aload_n d_Mo_job_40 rfl (mz_iconst (1 : Int32) d_Mo_job_41 (by decide) (mz_putI (k := 1) cl_10 d_Mo_job_42 (by decide) wf_Mo_126 rfl rfl rfl rfl (hF 30 0 (by decide)) rfl (let M14 : MzM := mz_si M (30, 0) 1 (1 : Int32); (mz_goto 60 d_Mo_job_45 rfl (MzS.loc [(0, .ref (mz_ad B (30, 0))), (1, .int y1), (2, .int y2), (3, .int y3), (4, .int y4)] ⟨rfl, rfl, rfl, rfl, rfl, trivial⟩ (tm_Mo_job_60 hF   y1 y2 y3 y4 M14 hL (h M14 rfl))))))))
theorem tm_Mo_job {G : MzG} {B : MzB} {d : Nat} {K : MzM → Prop} (hF : mzLive B)   {a1 : Int32} {a2 : Int32} {a3 : Int32} {a4 : Int32} {M : MzM} (hL : mzLnk M) (h : wp_Mo_job  a1 a2 a3 a4 M K) : MzC G B (d + 4) mm_Mo_job [.ref (mz_ad B (30, 0)), .int a1, .int a2, .int a3, .int a4] M (0, 0) (mzK0 B K) := by
  unfold wp_Mo_job at h
  exact MzC.of rfl (Nat.le_of_ble_eq_true rfl) (show MzS G B (d + 4) mm_Mo_job M (0, 0) (mzK0 B K) 0 [(0, .ref (mz_ad B (30, 0))), (1, .int a1), (2, .int a2), (3, .int a3), (4, .int a4)] [] from (mz_aload_n d_Mo_job_0 rfl (mz_iconst (0 : Int32) d_Mo_job_1 (by decide) (mz_putI (k := 1) cl_10 d_Mo_job_2 (by decide) wf_Mo_126 rfl rfl rfl rfl (hF 30 0 (by decide)) rfl (let M1 : MzM := mz_si M (30, 0) 1 (0 : Int32); (mz_iload_n d_Mo_job_5 rfl (mz_if_lt 40 d_Mo_job_6 rfl (fun hc13 => (MzS.loc [(0, .ref (mz_ad B (30, 0))), (1, .int a1), (2, .int a2), (3, .int a3), (4, .int a4)] ⟨rfl, rfl, rfl, rfl, rfl, trivial⟩ (tm_Mo_job_40 hF   a1 a2 a3 a4 M1 hL ((h M1 rfl).1 hc13)))) (fun hc13 => (mz_iload_n d_Mo_job_9 rfl (mz_iconst (2 : Int32) d_Mo_job_10 (by decide) (mz_icmp_gt 40 d_Mo_job_11 rfl (fun hc12 => (MzS.loc [(0, .ref (mz_ad B (30, 0))), (1, .int a1), (2, .int a2), (3, .int a3), (4, .int a4)] ⟨rfl, rfl, rfl, rfl, rfl, trivial⟩ (tm_Mo_job_40 hF   a1 a2 a3 a4 M1 hL (((h M1 rfl).2 hc13).1 hc12)))) (fun hc12 => (mz_iload_n d_Mo_job_14 rfl (mz_callS (As := [.int a3]) (st := []) 0 0 d_Mo_job_15 cs_Mo_isName wl_Mo_336 ws_Mo_isName (Nat.le_of_ble_eq_true rfl) (Nat.le_refl _) (Nat.le_refl _) (MzC.mono (tm_Mo_isName (d := (d + 2)) hF  hL (((h M1 rfl).2 hc13).2 hc12)) (fun r9 B9 M2 hq4 => by obtain ⟨rfl, hL3, v5, rfl, hq4⟩ := hq4; exact ⟨_, rfl, (mz_if_eq 40 d_Mo_job_18 rfl (fun hc11 => (MzS.loc [(0, .ref (mz_ad B (30, 0))), (1, .int a1), (2, .int a2), (3, .int a3), (4, .int a4)] ⟨rfl, rfl, rfl, rfl, rfl, trivial⟩ (tm_Mo_job_40 hF   a1 a2 a3 a4 M2 hL3 (hq4.1 hc11)))) (fun hc11 => (mz_iload_n d_Mo_job_21 rfl (mz_ldcw (v := (1849076 : Int32)) d_Mo_job_22 wk_Mo_339 (mz_icmp_eq 40 d_Mo_job_25 rfl (fun hc10 => (MzS.loc [(0, .ref (mz_ad B (30, 0))), (1, .int a1), (2, .int a2), (3, .int a3), (4, .int a4)] ⟨rfl, rfl, rfl, rfl, rfl, trivial⟩ (tm_Mo_job_40 hF   a1 a2 a3 a4 M2 hL3 ((hq4.2 hc11).1 hc10)))) (fun hc10 => (mz_iload d_Mo_job_28 rfl (mz_if_lt 40 d_Mo_job_30 rfl (fun hc9 => (MzS.loc [(0, .ref (mz_ad B (30, 0))), (1, .int a1), (2, .int a2), (3, .int a3), (4, .int a4)] ⟨rfl, rfl, rfl, rfl, rfl, trivial⟩ (tm_Mo_job_40 hF   a1 a2 a3 a4 M2 hL3 (((hq4.2 hc11).2 hc10).1 hc9)))) (fun hc9 => (mz_iload d_Mo_job_33 rfl (mz_bipush (9 : Int32) d_Mo_job_35 (by decide) (mz_icmp_le 48 d_Mo_job_37 rfl (fun hc8 => (mz_aload_n d_Mo_job_48 rfl (mz_getI (k := 38) cl_10 d_Mo_job_49 (by decide) wf_Mo_319 rfl (hF 30 0 (by decide)) rfl (mz_if_eq 60 d_Mo_job_52 rfl (fun hc7 => (MzS.loc [(0, .ref (mz_ad B (30, 0))), (1, .int a1), (2, .int a2), (3, .int a3), (4, .int a4)] ⟨rfl, rfl, rfl, rfl, rfl, trivial⟩ (tm_Mo_job_60 hF   a1 a2 a3 a4 M2 hL3 (((((hq4.2 hc11).2 hc10).2 hc9).1 hc8).1 hc7)))) (fun hc7 => (mz_aload_n d_Mo_job_55 rfl (mz_iconst (2 : Int32) d_Mo_job_56 (by decide) (mz_putI (k := 1) cl_10 d_Mo_job_57 (by decide) wf_Mo_126 rfl rfl rfl rfl (hF 30 0 (by decide)) rfl (let M6 : MzM := mz_si M2 (30, 0) 1 (2 : Int32); (MzS.loc [(0, .ref (mz_ad B (30, 0))), (1, .int a1), (2, .int a2), (3, .int a3), (4, .int a4)] ⟨rfl, rfl, rfl, rfl, rfl, trivial⟩ (tm_Mo_job_60 hF   a1 a2 a3 a4 M6 hL3 ((((((hq4.2 hc11).2 hc10).2 hc9).1 hc8).2 hc7) M6 rfl)))))))))))) (fun hc8 => (MzS.loc [(0, .ref (mz_ad B (30, 0))), (1, .int a1), (2, .int a2), (3, .int a3), (4, .int a4)] ⟨rfl, rfl, rfl, rfl, rfl, trivial⟩ (tm_Mo_job_40 hF   a1 a2 a3 a4 M2 hL3 ((((hq4.2 hc11).2 hc10).2 hc9).2 hc8))))))))))))))))⟩))))))))))))))))
def mm_Mo_say : MzT := (⟨"ParcelLineModel", "say", "(IIII)I"⟩, prog_14_method_75_code, 7, (Option.some Jvm.ClassFile.FieldType.int))
theorem cs_Mo_say {mm : MzT} : mzCall mm mm_Mo_say 4 := ⟨wn_Mo, wco_Mo_say, by decide +kernel, by decide⟩
theorem d_Mo_say_0 : decode mm_Mo_say.2.1 0 = .ok (.aload_n 0, 1) := by decide +kernel
theorem d_Mo_say_1 : decode mm_Mo_say.2.1 1 = .ok (.getfield 28, 3) := by decide +kernel
theorem d_Mo_say_4 : decode mm_Mo_say.2.1 4 = .ok (.iload_n 1, 1) := by decide +kernel
theorem d_Mo_say_5 : decode mm_Mo_say.2.1 5 = .ok (.iaload, 1) := by decide +kernel
theorem d_Mo_say_6 : decode mm_Mo_say.2.1 6 = .ok (.istore 5, 2) := by decide +kernel
theorem d_Mo_say_8 : decode mm_Mo_say.2.1 8 = .ok (.iconst 3, 1) := by decide +kernel
theorem d_Mo_say_9 : decode mm_Mo_say.2.1 9 = .ok (.istore 6, 2) := by decide +kernel
theorem d_Mo_say_11 : decode mm_Mo_say.2.1 11 = .ok (.iload 6, 2) := by decide +kernel
theorem d_Mo_say_13 : decode mm_Mo_say.2.1 13 = .ok (.ifCond .lt 36, 3) := by decide +kernel
theorem d_Mo_say_16 : decode mm_Mo_say.2.1 16 = .ok (.iload 5, 2) := by decide +kernel
theorem d_Mo_say_18 : decode mm_Mo_say.2.1 18 = .ok (.bipush 7, 2) := by decide +kernel
theorem d_Mo_say_20 : decode mm_Mo_say.2.1 20 = .ok (.iload 6, 2) := by decide +kernel
theorem d_Mo_say_22 : decode mm_Mo_say.2.1 22 = .ok (.imul, 1) := by decide +kernel
theorem d_Mo_say_23 : decode mm_Mo_say.2.1 23 = .ok (.ishr, 1) := by decide +kernel
theorem d_Mo_say_24 : decode mm_Mo_say.2.1 24 = .ok (.ifCond .le 19, 3) := by decide +kernel
theorem d_Mo_say_27 : decode mm_Mo_say.2.1 27 = .ok (.aload_n 0, 1) := by decide +kernel
theorem d_Mo_say_28 : decode mm_Mo_say.2.1 28 = .ok (.iconst 1, 1) := by decide +kernel
theorem d_Mo_say_29 : decode mm_Mo_say.2.1 29 = .ok (.iload 5, 2) := by decide +kernel
theorem d_Mo_say_31 : decode mm_Mo_say.2.1 31 = .ok (.bipush 7, 2) := by decide +kernel
theorem d_Mo_say_33 : decode mm_Mo_say.2.1 33 = .ok (.iload 6, 2) := by decide +kernel
theorem d_Mo_say_35 : decode mm_Mo_say.2.1 35 = .ok (.imul, 1) := by decide +kernel
theorem d_Mo_say_36 : decode mm_Mo_say.2.1 36 = .ok (.ishr, 1) := by decide +kernel
theorem d_Mo_say_37 : decode mm_Mo_say.2.1 37 = .ok (.bipush 127, 2) := by decide +kernel
theorem d_Mo_say_39 : decode mm_Mo_say.2.1 39 = .ok (.iand, 1) := by decide +kernel
theorem d_Mo_say_40 : decode mm_Mo_say.2.1 40 = .ok (.invokevirtual 186, 3) := by decide +kernel
theorem d_Mo_say_43 : decode mm_Mo_say.2.1 43 = .ok (.iinc 6 (-1), 3) := by decide +kernel
theorem d_Mo_say_46 : decode mm_Mo_say.2.1 46 = .ok (.goto (-35), 3) := by decide +kernel
theorem d_Mo_say_49 : decode mm_Mo_say.2.1 49 = .ok (.iload_n 1, 1) := by decide +kernel
theorem d_Mo_say_50 : decode mm_Mo_say.2.1 50 = .ok (.bipush 10, 2) := by decide +kernel
theorem d_Mo_say_52 : decode mm_Mo_say.2.1 52 = .ok (.if_icmp .eq 10, 3) := by decide +kernel
theorem d_Mo_say_55 : decode mm_Mo_say.2.1 55 = .ok (.aload_n 0, 1) := by decide +kernel
theorem d_Mo_say_56 : decode mm_Mo_say.2.1 56 = .ok (.iconst 1, 1) := by decide +kernel
theorem d_Mo_say_57 : decode mm_Mo_say.2.1 57 = .ok (.bipush 32, 2) := by decide +kernel
theorem d_Mo_say_59 : decode mm_Mo_say.2.1 59 = .ok (.invokevirtual 186, 3) := by decide +kernel
theorem d_Mo_say_62 : decode mm_Mo_say.2.1 62 = .ok (.iload_n 2, 1) := by decide +kernel
theorem d_Mo_say_63 : decode mm_Mo_say.2.1 63 = .ok (.ifCond .le 9, 3) := by decide +kernel
theorem d_Mo_say_66 : decode mm_Mo_say.2.1 66 = .ok (.aload_n 0, 1) := by decide +kernel
theorem d_Mo_say_67 : decode mm_Mo_say.2.1 67 = .ok (.iconst 1, 1) := by decide +kernel
theorem d_Mo_say_68 : decode mm_Mo_say.2.1 68 = .ok (.iload_n 2, 1) := by decide +kernel
theorem d_Mo_say_69 : decode mm_Mo_say.2.1 69 = .ok (.invokevirtual 186, 3) := by decide +kernel
theorem d_Mo_say_72 : decode mm_Mo_say.2.1 72 = .ok (.iload_n 3, 1) := by decide +kernel
theorem d_Mo_say_73 : decode mm_Mo_say.2.1 73 = .ok (.istore 6, 2) := by decide +kernel
theorem d_Mo_say_75 : decode mm_Mo_say.2.1 75 = .ok (.iload 6, 2) := by decide +kernel
theorem d_Mo_say_77 : decode mm_Mo_say.2.1 77 = .ok (.ifCond .le 25, 3) := by decide +kernel
theorem d_Mo_say_80 : decode mm_Mo_say.2.1 80 = .ok (.aload_n 0, 1) := by decide +kernel
theorem d_Mo_say_81 : decode mm_Mo_say.2.1 81 = .ok (.iconst 1, 1) := by decide +kernel
theorem d_Mo_say_82 : decode mm_Mo_say.2.1 82 = .ok (.iload 6, 2) := by decide +kernel
theorem d_Mo_say_84 : decode mm_Mo_say.2.1 84 = .ok (.sipush 128, 3) := by decide +kernel
theorem d_Mo_say_87 : decode mm_Mo_say.2.1 87 = .ok (.irem, 1) := by decide +kernel
theorem d_Mo_say_88 : decode mm_Mo_say.2.1 88 = .ok (.invokevirtual 186, 3) := by decide +kernel
theorem d_Mo_say_91 : decode mm_Mo_say.2.1 91 = .ok (.iload 6, 2) := by decide +kernel
theorem d_Mo_say_93 : decode mm_Mo_say.2.1 93 = .ok (.sipush 128, 3) := by decide +kernel
theorem d_Mo_say_96 : decode mm_Mo_say.2.1 96 = .ok (.idiv, 1) := by decide +kernel
theorem d_Mo_say_97 : decode mm_Mo_say.2.1 97 = .ok (.istore 6, 2) := by decide +kernel
theorem d_Mo_say_99 : decode mm_Mo_say.2.1 99 = .ok (.goto (-24), 3) := by decide +kernel
theorem d_Mo_say_102 : decode mm_Mo_say.2.1 102 = .ok (.iload 4, 2) := by decide +kernel
theorem d_Mo_say_104 : decode mm_Mo_say.2.1 104 = .ok (.bipush 9, 2) := by decide +kernel
theorem d_Mo_say_106 : decode mm_Mo_say.2.1 106 = .ok (.if_icmp .le 16, 3) := by decide +kernel
theorem d_Mo_say_109 : decode mm_Mo_say.2.1 109 = .ok (.aload_n 0, 1) := by decide +kernel
theorem d_Mo_say_110 : decode mm_Mo_say.2.1 110 = .ok (.iconst 1, 1) := by decide +kernel
theorem d_Mo_say_111 : decode mm_Mo_say.2.1 111 = .ok (.bipush 48, 2) := by decide +kernel
theorem d_Mo_say_113 : decode mm_Mo_say.2.1 113 = .ok (.iload 4, 2) := by decide +kernel
theorem d_Mo_say_115 : decode mm_Mo_say.2.1 115 = .ok (.bipush 10, 2) := by decide +kernel
theorem d_Mo_say_117 : decode mm_Mo_say.2.1 117 = .ok (.idiv, 1) := by decide +kernel
theorem d_Mo_say_118 : decode mm_Mo_say.2.1 118 = .ok (.iadd, 1) := by decide +kernel
theorem d_Mo_say_119 : decode mm_Mo_say.2.1 119 = .ok (.invokevirtual 186, 3) := by decide +kernel
theorem d_Mo_say_122 : decode mm_Mo_say.2.1 122 = .ok (.iload 4, 2) := by decide +kernel
theorem d_Mo_say_124 : decode mm_Mo_say.2.1 124 = .ok (.ifCond .lt 16, 3) := by decide +kernel
theorem d_Mo_say_127 : decode mm_Mo_say.2.1 127 = .ok (.aload_n 0, 1) := by decide +kernel
theorem d_Mo_say_128 : decode mm_Mo_say.2.1 128 = .ok (.iconst 1, 1) := by decide +kernel
theorem d_Mo_say_129 : decode mm_Mo_say.2.1 129 = .ok (.bipush 48, 2) := by decide +kernel
theorem d_Mo_say_131 : decode mm_Mo_say.2.1 131 = .ok (.iload 4, 2) := by decide +kernel
theorem d_Mo_say_133 : decode mm_Mo_say.2.1 133 = .ok (.bipush 10, 2) := by decide +kernel
theorem d_Mo_say_135 : decode mm_Mo_say.2.1 135 = .ok (.irem, 1) := by decide +kernel
theorem d_Mo_say_136 : decode mm_Mo_say.2.1 136 = .ok (.iadd, 1) := by decide +kernel
theorem d_Mo_say_137 : decode mm_Mo_say.2.1 137 = .ok (.invokevirtual 186, 3) := by decide +kernel
theorem d_Mo_say_140 : decode mm_Mo_say.2.1 140 = .ok (.aload_n 0, 1) := by decide +kernel
theorem d_Mo_say_141 : decode mm_Mo_say.2.1 141 = .ok (.iconst 1, 1) := by decide +kernel
theorem d_Mo_say_142 : decode mm_Mo_say.2.1 142 = .ok (.bipush 13, 2) := by decide +kernel
theorem d_Mo_say_144 : decode mm_Mo_say.2.1 144 = .ok (.invokevirtual 186, 3) := by decide +kernel
theorem d_Mo_say_147 : decode mm_Mo_say.2.1 147 = .ok (.aload_n 0, 1) := by decide +kernel
theorem d_Mo_say_148 : decode mm_Mo_say.2.1 148 = .ok (.iconst 1, 1) := by decide +kernel
theorem d_Mo_say_149 : decode mm_Mo_say.2.1 149 = .ok (.bipush 10, 2) := by decide +kernel
theorem d_Mo_say_151 : decode mm_Mo_say.2.1 151 = .ok (.invokevirtual 186, 3) := by decide +kernel
theorem d_Mo_say_154 : decode mm_Mo_say.2.1 154 = .ok (.aload_n 0, 1) := by decide +kernel
theorem d_Mo_say_155 : decode mm_Mo_say.2.1 155 = .ok (.getfield 143, 3) := by decide +kernel
theorem d_Mo_say_158 : decode mm_Mo_say.2.1 158 = .ok (.ireturn, 1) := by decide +kernel
def wp_Mo_say_43  (H11 : Int32 → Int32 → Int32 → Int32 → Int32 → Int32 → MzM → Prop) (K : Int32 → MzM → Prop) (y1 : Int32) (y2 : Int32) (y3 : Int32) (y4 : Int32) (y5 : Int32) (y6 : Int32) (M : MzM) : Prop := H11 y1 y2 y3 y4 y5 (y6 + (-1 : Int32)) M
def wp_Mo_say_140   (K : Int32 → MzM → Prop)  (M : MzM) : Prop := wp_Mo_take1  (1 : Int32) (13 : Int32) M (fun M34 => wp_Mo_take1  (1 : Int32) (10 : Int32) M34 (fun M37 => K (mz_i M37 (30, 0) 30) M37))
def wp_Mo_say_122   (K : Int32 → MzM → Prop) (y4 : Int32) (M : MzM) : Prop := ((y4 < 0 → wp_Mo_say_140   K  M) ∧ (¬ y4 < 0 → wp_Mo_take1  (1 : Int32) ((48 : Int32) + (y4 - y4 / (10 : Int32) * (10 : Int32))) M (fun M30 => wp_Mo_say_140   K  M30)))
def wp_Mo_say_75   (K : Int32 → MzM → Prop) : Nat → Int32 → Int32 → MzM → Prop
  | 0, _, _, _ => False
  | r0 + 1, y4, y6, M => ((y6 ≤ 0 → ((y4 ≤ (9 : Int32) → wp_Mo_say_122   K y4 M) ∧ (¬ y4 ≤ (9 : Int32) → wp_Mo_take1  (1 : Int32) ((48 : Int32) + (y4 / (10 : Int32))) M (fun M22 => wp_Mo_say_122   K y4 M22)))) ∧ (¬ y6 ≤ 0 → wp_Mo_take1  (1 : Int32) (y6 - y6 / (128 : Int32) * (128 : Int32)) M (fun M26 => (wp_Mo_say_75   K r0) y4 (y6 / (128 : Int32)) M26)))
def wp_Mo_say_72   (K : Int32 → MzM → Prop) (y3 : Int32) (y4 : Int32) (M : MzM) : Prop := (∃ r20 : Nat, wp_Mo_say_75   K r20 y4 y3 M)
def wp_Mo_say_62   (K : Int32 → MzM → Prop) (y2 : Int32) (y3 : Int32) (y4 : Int32) (M : MzM) : Prop := ((y2 ≤ 0 → wp_Mo_say_72   K y3 y4 M) ∧ (¬ y2 ≤ 0 → wp_Mo_take1  (1 : Int32) y2 M (fun M16 => wp_Mo_say_72   K y3 y4 M16)))
def wp_Mo_say_11   (K : Int32 → MzM → Prop) : Nat → Int32 → Int32 → Int32 → Int32 → Int32 → Int32 → MzM → Prop
  | 0, _, _, _, _, _, _, _ => False
  | r0 + 1, y1, y2, y3, y4, y5, y6, M => ((y6 < 0 → ((y1 = (10 : Int32) → wp_Mo_say_62   K y2 y3 y4 M) ∧ (¬ y1 = (10 : Int32) → wp_Mo_take1  (1 : Int32) (32 : Int32) M (fun M7 => wp_Mo_say_62   K y2 y3 y4 M7)))) ∧ (¬ y6 < 0 → (((y5 >>> (((7 : Int32) * y6) &&& 31)) ≤ 0 → wp_Mo_say_43  (wp_Mo_say_11   K r0) K y1 y2 y3 y4 y5 y6 M) ∧ (¬ (y5 >>> (((7 : Int32) * y6) &&& 31)) ≤ 0 → wp_Mo_take1  (1 : Int32) ((y5 >>> (((7 : Int32) * y6) &&& 31)) &&& (127 : Int32)) M (fun M11 => wp_Mo_say_43  (wp_Mo_say_11   K r0) K y1 y2 y3 y4 y5 y6 M11)))))
def wp_Mo_say  (a1 : Int32) (a2 : Int32) (a3 : Int32) (a4 : Int32) (M : MzM) (K : Int32 → MzM → Prop) : Prop := (∃ j1 : Nat, a1.toInt = (j1 : Int) ∧ j1 < 22 ∧ (∃ r5 : Nat, wp_Mo_say_11   K r5 a1 a2 a3 a4 (mz_i M (31, 0) j1) (3 : Int32) M))
theorem tm_Mo_say_43 {G : MzG} {B : MzB} {d : Nat} {K : Int32 → MzM → Prop} (hF : mzLive B)   {H11 : Int32 → Int32 → Int32 → Int32 → Int32 → Int32 → MzM → Prop} (hH11 : ∀ (y1 : Int32) (y2 : Int32) (y3 : Int32) (y4 : Int32) (y5 : Int32) (y6 : Int32) (M : MzM), mzLnk M → H11 y1 y2 y3 y4 y5 y6 M → MzS G B (d + 10) mm_Mo_say M (0, 0) (mzK1 B K) 11 [(0, .ref (mz_ad B (30, 0))), (1, .int y1), (2, .int y2), (3, .int y3), (4, .int y4), (5, .int y5), (6, .int y6)] []) (y1 : Int32) (y2 : Int32) (y3 : Int32) (y4 : Int32) (y5 : Int32) (y6 : Int32) (M : MzM) (hL : mzLnk M) (h : wp_Mo_say_43  H11 K y1 y2 y3 y4 y5 y6 M) : MzS G B (d + 10) mm_Mo_say M (0, 0) (mzK1 B K) 43 [(0, .ref (mz_ad B (30, 0))), (1, .int y1), (2, .int y2), (3, .int y3), (4, .int y4), (5, .int y5), (6, .int y6)] [] := by
  unfold wp_Mo_say_43 at h
  exact (mz_iinc (y6 + (-1 : Int32)) d_Mo_say_43 rfl (by decide) rfl (mz_goto 11 d_Mo_say_46 rfl (MzS.loc [(0, .ref (mz_ad B (30, 0))), (1, .int y1), (2, .int y2), (3, .int y3), (4, .int y4), (5, .int y5), (6, .int (y6 + (-1 : Int32)))] ⟨rfl, rfl, rfl, rfl, rfl, rfl, rfl, trivial⟩ (hH11 y1 y2 y3 y4 y5 (y6 + (-1 : Int32)) M hL h))))
theorem tm_Mo_say_140 {G : MzG} {B : MzB} {d : Nat} {K : Int32 → MzM → Prop} (hF : mzLive B)      (M : MzM) (hL : mzLnk M) (h : wp_Mo_say_140   K  M) : MzS G B (d + 10) mm_Mo_say M (0, 0) (mzK1 B K) 140 [(0, .ref (mz_ad B (30, 0)))] [] := by
  unfold wp_Mo_say_140 at h
  exact (mz_aload_n d_Mo_say_140 rfl (mz_iconst (1 : Int32) d_Mo_say_141 (by decide) (mz_bipush (13 : Int32) d_Mo_say_142 (by decide) (mz_callV (As := [.int (1 : Int32), .int (13 : Int32)]) (st := []) (hF 30 0 (by decide)) rfl (mzClOf cl_10) 0 0 d_Mo_say_144 cs_Mo_take1 wl_Mo_186 wi_Mo_take1 wse_Mo_take1 (Nat.le_of_ble_eq_true rfl) (Nat.le_refl _) (Nat.le_refl _) (MzC.mono (tm_Mo_take1 (d := d) hF  hL h) (fun r9 B9 M34 hq36 => by obtain ⟨rfl, hL35, rfl, hq36⟩ := hq36; exact ⟨none, rfl, (mz_aload_n d_Mo_say_147 rfl (mz_iconst (1 : Int32) d_Mo_say_148 (by decide) (mz_bipush (10 : Int32) d_Mo_say_149 (by decide) (mz_callV (As := [.int (1 : Int32), .int (10 : Int32)]) (st := []) (hF 30 0 (by decide)) rfl (mzClOf cl_10) 0 0 d_Mo_say_151 cs_Mo_take1 wl_Mo_186 wi_Mo_take1 wse_Mo_take1 (Nat.le_of_ble_eq_true rfl) (Nat.le_refl _) (Nat.le_refl _) (MzC.mono (tm_Mo_take1 (d := d) hF  hL35 hq36) (fun r9 B9 M37 hq39 => by obtain ⟨rfl, hL38, rfl, hq39⟩ := hq39; exact ⟨none, rfl, (mz_aload_n d_Mo_say_154 rfl (mz_getI (k := 30) cl_10 d_Mo_say_155 (by decide) wf_Mo_143 rfl (hF 30 0 (by decide)) rfl (mz_iret .int d_Mo_say_158 rfl rfl ⟨rfl, hL38, _, rfl, hq39⟩)))⟩))))))⟩))))))
theorem tm_Mo_say_122 {G : MzG} {B : MzB} {d : Nat} {K : Int32 → MzM → Prop} (hF : mzLive B)     (y4 : Int32) (M : MzM) (hL : mzLnk M) (h : wp_Mo_say_122   K y4 M) : MzS G B (d + 10) mm_Mo_say M (0, 0) (mzK1 B K) 122 [(0, .ref (mz_ad B (30, 0))), (4, .int y4)] [] := by
  unfold wp_Mo_say_122 at h
  exact (mz_iload d_Mo_say_122 rfl (mz_if_lt 140 d_Mo_say_124 rfl (fun hc33 => (MzS.loc [(0, .ref (mz_ad B (30, 0)))] ⟨rfl, trivial⟩ (tm_Mo_say_140 hF    M hL (h.1 hc33)))) (fun hc33 => (mz_aload_n d_Mo_say_127 rfl (mz_iconst (1 : Int32) d_Mo_say_128 (by decide) (mz_bipush (48 : Int32) d_Mo_say_129 (by decide) (mz_iload d_Mo_say_131 rfl (mz_bipush (10 : Int32) d_Mo_say_133 (by decide) (mz_irem d_Mo_say_135 (by decide) (mz_iadd d_Mo_say_136 (mz_callV (As := [.int (1 : Int32), .int ((48 : Int32) + (y4 - y4 / (10 : Int32) * (10 : Int32)))]) (st := []) (hF 30 0 (by decide)) rfl (mzClOf cl_10) 0 0 d_Mo_say_137 cs_Mo_take1 wl_Mo_186 wi_Mo_take1 wse_Mo_take1 (Nat.le_of_ble_eq_true rfl) (Nat.le_refl _) (Nat.le_refl _) (MzC.mono (tm_Mo_take1 (d := d) hF  hL (h.2 hc33)) (fun r9 B9 M30 hq32 => by obtain ⟨rfl, hL31, rfl, hq32⟩ := hq32; exact ⟨none, rfl, (MzS.loc [(0, .ref (mz_ad B (30, 0)))] ⟨rfl, trivial⟩ (tm_Mo_say_140 hF    M30 hL31 hq32))⟩)))))))))))))
theorem tm_Mo_say_75 {G : MzG} {B : MzB} {d : Nat} {K : Int32 → MzM → Prop} (hF : mzLive B)     : ∀ (r0 : Nat) (y4 : Int32) (y6 : Int32) (M : MzM), mzLnk M → wp_Mo_say_75   K r0 y4 y6 M → MzS G B (d + 10) mm_Mo_say M (0, 0) (mzK1 B K) 75 [(0, .ref (mz_ad B (30, 0))), (4, .int y4), (6, .int y6)] [] := by
  intro r0
  induction r0 with
  | zero => intro y4 y6 M hL h; exact False.elim h
  | succ r0 hH75 =>
    intro y4 y6 M hL h
    unfold wp_Mo_say_75 at h
    exact (mz_iload d_Mo_say_75 rfl (mz_if_le 102 d_Mo_say_77 rfl (fun hc29 => (mz_iload d_Mo_say_102 rfl (mz_bipush (9 : Int32) d_Mo_say_104 (by decide) (mz_icmp_le 122 d_Mo_say_106 rfl (fun hc25 => (MzS.loc [(0, .ref (mz_ad B (30, 0))), (4, .int y4)] ⟨rfl, rfl, trivial⟩ (tm_Mo_say_122 hF   y4 M hL ((h.1 hc29).1 hc25)))) (fun hc25 => (mz_aload_n d_Mo_say_109 rfl (mz_iconst (1 : Int32) d_Mo_say_110 (by decide) (mz_bipush (48 : Int32) d_Mo_say_111 (by decide) (mz_iload d_Mo_say_113 rfl (mz_bipush (10 : Int32) d_Mo_say_115 (by decide) (mz_idiv d_Mo_say_117 (by decide) (mz_iadd d_Mo_say_118 (mz_callV (As := [.int (1 : Int32), .int ((48 : Int32) + (y4 / (10 : Int32)))]) (st := []) (hF 30 0 (by decide)) rfl (mzClOf cl_10) 0 0 d_Mo_say_119 cs_Mo_take1 wl_Mo_186 wi_Mo_take1 wse_Mo_take1 (Nat.le_of_ble_eq_true rfl) (Nat.le_refl _) (Nat.le_refl _) (MzC.mono (tm_Mo_take1 (d := d) hF  hL ((h.1 hc29).2 hc25)) (fun r9 B9 M22 hq24 => by obtain ⟨rfl, hL23, rfl, hq24⟩ := hq24; exact ⟨none, rfl, (MzS.loc [(0, .ref (mz_ad B (30, 0))), (4, .int y4)] ⟨rfl, rfl, trivial⟩ (tm_Mo_say_122 hF   y4 M22 hL23 hq24))⟩))))))))))))))) (fun hc29 => (mz_aload_n d_Mo_say_80 rfl (mz_iconst (1 : Int32) d_Mo_say_81 (by decide) (mz_iload d_Mo_say_82 rfl (mz_sipush (128 : Int32) d_Mo_say_84 (by decide) (mz_irem d_Mo_say_87 (by decide) (mz_callV (As := [.int (1 : Int32), .int (y6 - y6 / (128 : Int32) * (128 : Int32))]) (st := []) (hF 30 0 (by decide)) rfl (mzClOf cl_10) 0 0 d_Mo_say_88 cs_Mo_take1 wl_Mo_186 wi_Mo_take1 wse_Mo_take1 (Nat.le_of_ble_eq_true rfl) (Nat.le_refl _) (Nat.le_refl _) (MzC.mono (tm_Mo_take1 (d := d) hF  hL (h.2 hc29)) (fun r9 B9 M26 hq28 => by obtain ⟨rfl, hL27, rfl, hq28⟩ := hq28; exact ⟨none, rfl, (mz_iload d_Mo_say_91 rfl (mz_sipush (128 : Int32) d_Mo_say_93 (by decide) (mz_idiv d_Mo_say_96 (by decide) (mz_istore d_Mo_say_97 (by decide) (mz_goto 75 d_Mo_say_99 rfl (MzS.loc [(0, .ref (mz_ad B (30, 0))), (4, .int y4), (6, .int (y6 / (128 : Int32)))] ⟨rfl, rfl, rfl, trivial⟩ (hH75 y4 (y6 / (128 : Int32)) M26 hL27 hq28)))))))⟩)))))))))))
theorem tm_Mo_say_72 {G : MzG} {B : MzB} {d : Nat} {K : Int32 → MzM → Prop} (hF : mzLive B)     (y3 : Int32) (y4 : Int32) (M : MzM) (hL : mzLnk M) (h : wp_Mo_say_72   K y3 y4 M) : MzS G B (d + 10) mm_Mo_say M (0, 0) (mzK1 B K) 72 [(0, .ref (mz_ad B (30, 0))), (3, .int y3), (4, .int y4)] [] := by
  unfold wp_Mo_say_72 at h
  exact (mz_iload_n d_Mo_say_72 rfl (mz_istore d_Mo_say_73 (by decide) (MzS.loc [(0, .ref (mz_ad B (30, 0))), (4, .int y4), (6, .int y3)] ⟨rfl, rfl, rfl, trivial⟩ (match h with | ⟨r20, h21⟩ => tm_Mo_say_75 hF   r20 y4 y3 M hL h21))))
theorem tm_Mo_say_62 {G : MzG} {B : MzB} {d : Nat} {K : Int32 → MzM → Prop} (hF : mzLive B)     (y2 : Int32) (y3 : Int32) (y4 : Int32) (M : MzM) (hL : mzLnk M) (h : wp_Mo_say_62   K y2 y3 y4 M) : MzS G B (d + 10) mm_Mo_say M (0, 0) (mzK1 B K) 62 [(0, .ref (mz_ad B (30, 0))), (2, .int y2), (3, .int y3), (4, .int y4)] [] := by
  unfold wp_Mo_say_62 at h
  exact (mz_iload_n d_Mo_say_62 rfl (mz_if_le 72 d_Mo_say_63 rfl (fun hc19 => (MzS.loc [(0, .ref (mz_ad B (30, 0))), (3, .int y3), (4, .int y4)] ⟨rfl, rfl, rfl, trivial⟩ (tm_Mo_say_72 hF   y3 y4 M hL (h.1 hc19)))) (fun hc19 => (mz_aload_n d_Mo_say_66 rfl (mz_iconst (1 : Int32) d_Mo_say_67 (by decide) (mz_iload_n d_Mo_say_68 rfl (mz_callV (As := [.int (1 : Int32), .int y2]) (st := []) (hF 30 0 (by decide)) rfl (mzClOf cl_10) 0 0 d_Mo_say_69 cs_Mo_take1 wl_Mo_186 wi_Mo_take1 wse_Mo_take1 (Nat.le_of_ble_eq_true rfl) (Nat.le_refl _) (Nat.le_refl _) (MzC.mono (tm_Mo_take1 (d := d) hF  hL (h.2 hc19)) (fun r9 B9 M16 hq18 => by obtain ⟨rfl, hL17, rfl, hq18⟩ := hq18; exact ⟨none, rfl, (MzS.loc [(0, .ref (mz_ad B (30, 0))), (3, .int y3), (4, .int y4)] ⟨rfl, rfl, rfl, trivial⟩ (tm_Mo_say_72 hF   y3 y4 M16 hL17 hq18))⟩)))))))))
theorem tm_Mo_say_11 {G : MzG} {B : MzB} {d : Nat} {K : Int32 → MzM → Prop} (hF : mzLive B)     : ∀ (r0 : Nat) (y1 : Int32) (y2 : Int32) (y3 : Int32) (y4 : Int32) (y5 : Int32) (y6 : Int32) (M : MzM), mzLnk M → wp_Mo_say_11   K r0 y1 y2 y3 y4 y5 y6 M → MzS G B (d + 10) mm_Mo_say M (0, 0) (mzK1 B K) 11 [(0, .ref (mz_ad B (30, 0))), (1, .int y1), (2, .int y2), (3, .int y3), (4, .int y4), (5, .int y5), (6, .int y6)] [] := by
  intro r0
  induction r0 with
  | zero => intro y1 y2 y3 y4 y5 y6 M hL h; exact False.elim h
  | succ r0 hH11 =>
    intro y1 y2 y3 y4 y5 y6 M hL h
    unfold wp_Mo_say_11 at h
    exact (mz_iload d_Mo_say_11 rfl (mz_if_lt 49 d_Mo_say_13 rfl (fun hc15 => (mz_iload_n d_Mo_say_49 rfl (mz_bipush (10 : Int32) d_Mo_say_50 (by decide) (mz_icmp_eq 62 d_Mo_say_52 rfl (fun hc10 => (MzS.loc [(0, .ref (mz_ad B (30, 0))), (2, .int y2), (3, .int y3), (4, .int y4)] ⟨rfl, rfl, rfl, rfl, trivial⟩ (tm_Mo_say_62 hF   y2 y3 y4 M hL ((h.1 hc15).1 hc10)))) (fun hc10 => (mz_aload_n d_Mo_say_55 rfl (mz_iconst (1 : Int32) d_Mo_say_56 (by decide) (mz_bipush (32 : Int32) d_Mo_say_57 (by decide) (mz_callV (As := [.int (1 : Int32), .int (32 : Int32)]) (st := []) (hF 30 0 (by decide)) rfl (mzClOf cl_10) 0 0 d_Mo_say_59 cs_Mo_take1 wl_Mo_186 wi_Mo_take1 wse_Mo_take1 (Nat.le_of_ble_eq_true rfl) (Nat.le_refl _) (Nat.le_refl _) (MzC.mono (tm_Mo_take1 (d := d) hF  hL ((h.1 hc15).2 hc10)) (fun r9 B9 M7 hq9 => by obtain ⟨rfl, hL8, rfl, hq9⟩ := hq9; exact ⟨none, rfl, (MzS.loc [(0, .ref (mz_ad B (30, 0))), (2, .int y2), (3, .int y3), (4, .int y4)] ⟨rfl, rfl, rfl, rfl, trivial⟩ (tm_Mo_say_62 hF   y2 y3 y4 M7 hL8 hq9))⟩))))))))))) (fun hc15 => (mz_iload d_Mo_say_16 rfl (mz_bipush (7 : Int32) d_Mo_say_18 (by decide) (mz_iload d_Mo_say_20 rfl (mz_imul d_Mo_say_22 (mz_ishr d_Mo_say_23 (mz_if_le 43 d_Mo_say_24 rfl (fun hc14 => (MzS.loc [(0, .ref (mz_ad B (30, 0))), (1, .int y1), (2, .int y2), (3, .int y3), (4, .int y4), (5, .int y5), (6, .int y6)] ⟨rfl, rfl, rfl, rfl, rfl, rfl, rfl, trivial⟩ (tm_Mo_say_43 hF  hH11 y1 y2 y3 y4 y5 y6 M hL ((h.2 hc15).1 hc14)))) (fun hc14 => (mz_aload_n d_Mo_say_27 rfl (mz_iconst (1 : Int32) d_Mo_say_28 (by decide) (mz_iload d_Mo_say_29 rfl (mz_bipush (7 : Int32) d_Mo_say_31 (by decide) (mz_iload d_Mo_say_33 rfl (mz_imul d_Mo_say_35 (mz_ishr d_Mo_say_36 (mz_bipush (127 : Int32) d_Mo_say_37 (by decide) (mz_iand d_Mo_say_39 (mz_callV (As := [.int (1 : Int32), .int ((y5 >>> (((7 : Int32) * y6) &&& 31)) &&& (127 : Int32))]) (st := []) (hF 30 0 (by decide)) rfl (mzClOf cl_10) 0 0 d_Mo_say_40 cs_Mo_take1 wl_Mo_186 wi_Mo_take1 wse_Mo_take1 (Nat.le_of_ble_eq_true rfl) (Nat.le_refl _) (Nat.le_refl _) (MzC.mono (tm_Mo_take1 (d := d) hF  hL ((h.2 hc15).2 hc14)) (fun r9 B9 M11 hq13 => by obtain ⟨rfl, hL12, rfl, hq13⟩ := hq13; exact ⟨none, rfl, (MzS.loc [(0, .ref (mz_ad B (30, 0))), (1, .int y1), (2, .int y2), (3, .int y3), (4, .int y4), (5, .int y5), (6, .int y6)] ⟨rfl, rfl, rfl, rfl, rfl, rfl, rfl, trivial⟩ (tm_Mo_say_43 hF  hH11 y1 y2 y3 y4 y5 y6 M11 hL12 hq13))⟩))))))))))))))))))))))
theorem tm_Mo_say {G : MzG} {B : MzB} {d : Nat} {K : Int32 → MzM → Prop} (hF : mzLive B)   {a1 : Int32} {a2 : Int32} {a3 : Int32} {a4 : Int32} {M : MzM} (hL : mzLnk M) (h : wp_Mo_say  a1 a2 a3 a4 M K) : MzC G B (d + 10) mm_Mo_say [.ref (mz_ad B (30, 0)), .int a1, .int a2, .int a3, .int a4] M (0, 0) (mzK1 B K) := by
  unfold wp_Mo_say at h
  exact MzC.of rfl (Nat.le_of_ble_eq_true rfl) (show MzS G B (d + 10) mm_Mo_say M (0, 0) (mzK1 B K) 0 [(0, .ref (mz_ad B (30, 0))), (1, .int a1), (2, .int a2), (3, .int a3), (4, .int a4)] [] from (mz_aload_n d_Mo_say_0 rfl (mz_getR (k := 0) (a := (31, 0)) cl_10 d_Mo_say_1 (by decide) wf_Mo_28 rfl (hF 30 0 (by decide)) rfl (hL (30, 0) 0 (31, 0) rfl (by decide)) (mz_iload_n d_Mo_say_4 rfl (match h with | ⟨j1, h2, h3, h4⟩ => mz_iald j1 d_Mo_say_5 (hF 31 0 (by decide)) rfl h2 h3 (mz_istore d_Mo_say_6 (by decide) (mz_iconst (3 : Int32) d_Mo_say_8 (by decide) (mz_istore d_Mo_say_9 (by decide) (MzS.loc [(0, .ref (mz_ad B (30, 0))), (1, .int a1), (2, .int a2), (3, .int a3), (4, .int a4), (5, .int (mz_i M (31, 0) j1)), (6, .int (3 : Int32))] ⟨rfl, rfl, rfl, rfl, rfl, rfl, rfl, trivial⟩ (match h4 with | ⟨r5, h6⟩ => tm_Mo_say_11 hF   r5 a1 a2 a3 a4 (mz_i M (31, 0) j1) (3 : Int32) M hL h6))))))))))
def mm_Mo_three : MzT := (⟨"ParcelLineModel", "three", "(III)I"⟩, prog_14_method_76_code, 3, (Option.some Jvm.ClassFile.FieldType.int))
theorem cs_Mo_three {mm : MzT} : mzCall mm mm_Mo_three 3 := ⟨wn_Mo, wco_Mo_three, by decide +kernel, by decide⟩
theorem d_Mo_three_0 : decode mm_Mo_three.2.1 0 = .ok (.iload_n 0, 1) := by decide +kernel
theorem d_Mo_three_1 : decode mm_Mo_three.2.1 1 = .ok (.sipush 128, 3) := by decide +kernel
theorem d_Mo_three_4 : decode mm_Mo_three.2.1 4 = .ok (.iload_n 1, 1) := by decide +kernel
theorem d_Mo_three_5 : decode mm_Mo_three.2.1 5 = .ok (.imul, 1) := by decide +kernel
theorem d_Mo_three_6 : decode mm_Mo_three.2.1 6 = .ok (.iadd, 1) := by decide +kernel
theorem d_Mo_three_7 : decode mm_Mo_three.2.1 7 = .ok (.sipush 16384, 3) := by decide +kernel
theorem d_Mo_three_10 : decode mm_Mo_three.2.1 10 = .ok (.iload_n 2, 1) := by decide +kernel
theorem d_Mo_three_11 : decode mm_Mo_three.2.1 11 = .ok (.imul, 1) := by decide +kernel
theorem d_Mo_three_12 : decode mm_Mo_three.2.1 12 = .ok (.iadd, 1) := by decide +kernel
theorem d_Mo_three_13 : decode mm_Mo_three.2.1 13 = .ok (.ireturn, 1) := by decide +kernel
def wp_Mo_three  (a0 : Int32) (a1 : Int32) (a2 : Int32) (M : MzM) (K : Int32 → MzM → Prop) : Prop := K ((a0 + ((128 : Int32) * a1)) + ((16384 : Int32) * a2)) M
theorem tm_Mo_three {G : MzG} {B : MzB} {d : Nat} {K : Int32 → MzM → Prop} (hF : mzLive B)   {a0 : Int32} {a1 : Int32} {a2 : Int32} {M : MzM} (hL : mzLnk M) (h : wp_Mo_three  a0 a1 a2 M K) : MzC G B d mm_Mo_three [.int a0, .int a1, .int a2] M (0, 0) (mzK1 B K) := by
  unfold wp_Mo_three at h
  exact MzC.of rfl (Nat.le_of_ble_eq_true rfl) (show MzS G B d mm_Mo_three M (0, 0) (mzK1 B K) 0 [(0, .int a0), (1, .int a1), (2, .int a2)] [] from (mz_iload_n d_Mo_three_0 rfl (mz_sipush (128 : Int32) d_Mo_three_1 (by decide) (mz_iload_n d_Mo_three_4 rfl (mz_imul d_Mo_three_5 (mz_iadd d_Mo_three_6 (mz_sipush (16384 : Int32) d_Mo_three_7 (by decide) (mz_iload_n d_Mo_three_10 rfl (mz_imul d_Mo_three_11 (mz_iadd d_Mo_three_12 (mz_iret .int d_Mo_three_13 rfl rfl ⟨rfl, hL, _, rfl, h⟩)))))))))))
