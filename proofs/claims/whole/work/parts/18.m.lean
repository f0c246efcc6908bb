def mm_PL_fill : MzT := (⟨"ParcelLine", "fill", "(IIII)Z"⟩, prog_1_method_14_code, 7, (Option.some Jvm.ClassFile.FieldType.boolean))
theorem cs_PL_fill {mm : MzT} : mzCall mm mm_PL_fill 4 := ⟨wn_PL, wco_PL_fill, by decide +kernel, by decide⟩
theorem d_PL_fill_0 : decode mm_PL_fill.2.1 0 = .ok (.iload_n 1, 1) := by decide +kernel
theorem d_PL_fill_1 : decode mm_PL_fill.2.1 1 = .ok (.invokestatic 150, 3) := by decide +kernel
theorem d_PL_fill_4 : decode mm_PL_fill.2.1 4 = .ok (.ifCond .eq 23, 3) := by decide +kernel
theorem d_PL_fill_7 : decode mm_PL_fill.2.1 7 = .ok (.iload_n 2, 1) := by decide +kernel
theorem d_PL_fill_8 : decode mm_PL_fill.2.1 8 = .ok (.ifCond .lt 19, 3) := by decide +kernel
theorem d_PL_fill_11 : decode mm_PL_fill.2.1 11 = .ok (.iload_n 2, 1) := by decide +kernel
theorem d_PL_fill_12 : decode mm_PL_fill.2.1 12 = .ok (.bipush 24, 2) := by decide +kernel
theorem d_PL_fill_14 : decode mm_PL_fill.2.1 14 = .ok (.if_icmp .gt 13, 3) := by decide +kernel
theorem d_PL_fill_17 : decode mm_PL_fill.2.1 17 = .ok (.aload_n 0, 1) := by decide +kernel
theorem d_PL_fill_18 : decode mm_PL_fill.2.1 18 = .ok (.getfield 37, 3) := by decide +kernel
theorem d_PL_fill_21 : decode mm_PL_fill.2.1 21 = .ok (.getfield 153, 3) := by decide +kernel
theorem d_PL_fill_24 : decode mm_PL_fill.2.1 24 = .ok (.ifCond .eq 5, 3) := by decide +kernel
theorem d_PL_fill_27 : decode mm_PL_fill.2.1 27 = .ok (.iconst 0, 1) := by decide +kernel
theorem d_PL_fill_28 : decode mm_PL_fill.2.1 28 = .ok (.ireturn, 1) := by decide +kernel
theorem d_PL_fill_29 : decode mm_PL_fill.2.1 29 = .ok (.aload_n 0, 1) := by decide +kernel
theorem d_PL_fill_30 : decode mm_PL_fill.2.1 30 = .ok (.getfield 27, 3) := by decide +kernel
theorem d_PL_fill_33 : decode mm_PL_fill.2.1 33 = .ok (.iload_n 1, 1) := by decide +kernel
theorem d_PL_fill_34 : decode mm_PL_fill.2.1 34 = .ok (.aaload, 1) := by decide +kernel
theorem d_PL_fill_35 : decode mm_PL_fill.2.1 35 = .ok (.astore 5, 2) := by decide +kernel
theorem d_PL_fill_37 : decode mm_PL_fill.2.1 37 = .ok (.aload 5, 2) := by decide +kernel
theorem d_PL_fill_39 : decode mm_PL_fill.2.1 39 = .ok (.iconst 0, 1) := by decide +kernel
theorem d_PL_fill_40 : decode mm_PL_fill.2.1 40 = .ok (.putfield 132, 3) := by decide +kernel
theorem d_PL_fill_43 : decode mm_PL_fill.2.1 43 = .ok (.iconst 0, 1) := by decide +kernel
theorem d_PL_fill_44 : decode mm_PL_fill.2.1 44 = .ok (.istore 6, 2) := by decide +kernel
theorem d_PL_fill_46 : decode mm_PL_fill.2.1 46 = .ok (.iload 6, 2) := by decide +kernel
theorem d_PL_fill_48 : decode mm_PL_fill.2.1 48 = .ok (.iload_n 2, 1) := by decide +kernel
theorem d_PL_fill_49 : decode mm_PL_fill.2.1 49 = .ok (.if_icmp .ge 25, 3) := by decide +kernel
theorem d_PL_fill_52 : decode mm_PL_fill.2.1 52 = .ok (.aload 5, 2) := by decide +kernel
theorem d_PL_fill_54 : decode mm_PL_fill.2.1 54 = .ok (.iload_n 3, 1) := by decide +kernel
theorem d_PL_fill_55 : decode mm_PL_fill.2.1 55 = .ok (.iload 6, 2) := by decide +kernel
theorem d_PL_fill_57 : decode mm_PL_fill.2.1 57 = .ok (.iload 4, 2) := by decide +kernel
theorem d_PL_fill_59 : decode mm_PL_fill.2.1 59 = .ok (.imul, 1) := by decide +kernel
theorem d_PL_fill_60 : decode mm_PL_fill.2.1 60 = .ok (.iadd, 1) := by decide +kernel
theorem d_PL_fill_61 : decode mm_PL_fill.2.1 61 = .ok (.sipush 255, 3) := by decide +kernel
theorem d_PL_fill_64 : decode mm_PL_fill.2.1 64 = .ok (.iand, 1) := by decide +kernel
theorem d_PL_fill_65 : decode mm_PL_fill.2.1 65 = .ok (.invokevirtual 156, 3) := by decide +kernel
theorem d_PL_fill_68 : decode mm_PL_fill.2.1 68 = .ok (.iinc 6 1, 3) := by decide +kernel
theorem d_PL_fill_71 : decode mm_PL_fill.2.1 71 = .ok (.goto (-25), 3) := by decide +kernel
theorem d_PL_fill_74 : decode mm_PL_fill.2.1 74 = .ok (.iconst 1, 1) := by decide +kernel
theorem d_PL_fill_75 : decode mm_PL_fill.2.1 75 = .ok (.ireturn, 1) := by decide +kernel
def wp_PL_fill_46   (K : Int32 → MzM → Prop) : Nat → Int32 → Int32 → Int32 → Nat → Int32 → MzM → Prop
  | 0, _, _, _, _, _, _ => False
  | r0 + 1, y2, y3, y4, q5, y6, M => (q5 < 3 ∧ ((y2 ≤ y6 → K (1 : Int32) M) ∧ (¬ y2 ≤ y6 → wp_Row_adds q5 ((y3 + (y6 * y4)) &&& (255 : Int32)) M (fun M16 => (wp_PL_fill_46   K r0) y2 y3 y4 q5 (y6 + (1 : Int32)) M16))))
def wp_PL_fill  (a1 : Int32) (a2 : Int32) (a3 : Int32) (a4 : Int32) (M : MzM) (K : Int32 → MzM → Prop) : Prop := wp_PL_isShelf  a1 M (fun v4 M1 => ((v4 = 0 → K (0 : Int32) M1) ∧ (¬ v4 = 0 → ((a2 < 0 → K (0 : Int32) M1) ∧ (¬ a2 < 0 → (((24 : Int32) < a2 → K (0 : Int32) M1) ∧ (¬ (24 : Int32) < a2 → (((mz_i M1 (22, 0) 2) = 0 → (∃ j5 : Nat, a1.toInt = (j5 : Int) ∧ j5 < 3 ∧ (∀ M9 : MzM, M9 = mz_si M1 (20, j5) 1 (0 : Int32) → (∃ r10 : Nat, wp_PL_fill_46   K r10 a2 a3 a4 j5 (0 : Int32) M9)))) ∧ (¬ (mz_i M1 (22, 0) 2) = 0 → K (0 : Int32) M1)))))))))
theorem tm_PL_fill_46 {G : MzG} {B : MzB} {d : Nat} {K : Int32 → MzM → Prop} (hF : mzLive B)     : ∀ (r0 : Nat) (y2 : Int32) (y3 : Int32) (y4 : Int32) (q5 : Nat) (y6 : Int32) (M : MzM), mzLnk M → wp_PL_fill_46   K r0 y2 y3 y4 q5 y6 M → MzS G B (d + 1) mm_PL_fill M (0, 0) (mzK1 B K) 46 [(2, .int y2), (3, .int y3), (4, .int y4), (5, .ref (mz_ad B (20, q5))), (6, .int y6)] [] := by
  intro r0
  induction r0 with
  | zero => intro y2 y3 y4 q5 y6 M hL h; exact False.elim h
  | succ r0 hH46 =>
    intro y2 y3 y4 q5 y6 M hL h
    unfold wp_PL_fill_46 at h
    exact (mz_iload d_PL_fill_46 rfl (mz_iload_n d_PL_fill_48 rfl (mz_icmp_ge 74 d_PL_fill_49 rfl (fun hc19 => (mz_iconst (1 : Int32) d_PL_fill_74 (by decide) (mz_iret .boolean d_PL_fill_75 rfl rfl ⟨rfl, hL, _, rfl, (h.2.1 hc19)⟩))) (fun hc19 => (mz_aload d_PL_fill_52 rfl (mz_iload_n d_PL_fill_54 rfl (mz_iload d_PL_fill_55 rfl (mz_iload d_PL_fill_57 rfl (mz_imul d_PL_fill_59 (mz_iadd d_PL_fill_60 (mz_sipush (255 : Int32) d_PL_fill_61 (by decide) (mz_iand d_PL_fill_64 (mz_callV (As := [.int ((y3 + (y6 * y4)) &&& (255 : Int32))]) (st := []) (hF 20 q5 (h.1)) rfl (mzClOf cl_3) 0 0 d_PL_fill_65 cs_Row_add wl_PL_156 wi_Row_add wse_Row_add (Nat.le_of_ble_eq_true rfl) (Nat.le_refl _) (Nat.le_refl _) (MzC.mono (tm_Row_adds (d := d) hF (h.1) hL (h.2.2 hc19)) (fun r9 B9 M16 hq18 => by obtain ⟨rfl, hL17, rfl, hq18⟩ := hq18; exact ⟨none, rfl, (mz_iinc (y6 + (1 : Int32)) d_PL_fill_68 rfl (by decide) rfl (mz_goto 46 d_PL_fill_71 rfl (MzS.loc [(2, .int y2), (3, .int y3), (4, .int y4), (5, .ref (mz_ad B (20, q5))), (6, .int (y6 + (1 : Int32)))] ⟨rfl, rfl, rfl, rfl, rfl, trivial⟩ (hH46 y2 y3 y4 q5 (y6 + (1 : Int32)) M16 hL17 hq18))))⟩)))))))))))))))
theorem tm_PL_fill {G : MzG} {B : MzB} {d : Nat} {K : Int32 → MzM → Prop} (hF : mzLive B)   {a1 : Int32} {a2 : Int32} {a3 : Int32} {a4 : Int32} {M : MzM} (hL : mzLnk M) (h : wp_PL_fill  a1 a2 a3 a4 M K) : MzC G B (d + 1) mm_PL_fill [.ref (mz_ad B (0, 0)), .int a1, .int a2, .int a3, .int a4] M (0, 0) (mzK1 B K) := by
  unfold wp_PL_fill at h
  exact MzC.of rfl (Nat.le_of_ble_eq_true rfl) (show MzS G B (d + 1) mm_PL_fill M (0, 0) (mzK1 B K) 0 [(0, .ref (mz_ad B (0, 0))), (1, .int a1), (2, .int a2), (3, .int a3), (4, .int a4)] [] from (mz_iload_n d_PL_fill_0 rfl (mz_callS (As := [.int a1]) (st := []) 0 0 d_PL_fill_1 cs_PL_isShelf wl_PL_150 ws_PL_isShelf (Nat.le_of_ble_eq_true rfl) (Nat.le_refl _) (Nat.le_refl _) (MzC.mono (tm_PL_isShelf (d := d) hF  hL h) (fun r9 B9 M1 hq3 => by obtain ⟨rfl, hL2, v4, rfl, hq3⟩ := hq3; exact ⟨_, rfl, (mz_if_eq 27 d_PL_fill_4 rfl (fun hc15 => (mz_iconst (0 : Int32) d_PL_fill_27 (by decide) (mz_iret .boolean d_PL_fill_28 rfl rfl ⟨rfl, hL2, _, rfl, (hq3.1 hc15)⟩))) (fun hc15 => (mz_iload_n d_PL_fill_7 rfl (mz_if_lt 27 d_PL_fill_8 rfl (fun hc14 => (mz_iconst (0 : Int32) d_PL_fill_27 (by decide) (mz_iret .boolean d_PL_fill_28 rfl rfl ⟨rfl, hL2, _, rfl, ((hq3.2 hc15).1 hc14)⟩))) (fun hc14 => (mz_iload_n d_PL_fill_11 rfl (mz_bipush (24 : Int32) d_PL_fill_12 (by decide) (mz_icmp_gt 27 d_PL_fill_14 rfl (fun hc13 => (mz_iconst (0 : Int32) d_PL_fill_27 (by decide) (mz_iret .boolean d_PL_fill_28 rfl rfl ⟨rfl, hL2, _, rfl, (((hq3.2 hc15).2 hc14).1 hc13)⟩))) (fun hc13 => (mz_aload_n d_PL_fill_17 rfl (mz_getR (k := 3) (a := (22, 0)) cl_0 d_PL_fill_18 (by decide) wf_PL_37 rfl (hF 0 0 (by decide)) rfl (hL2 (0, 0) 3 (22, 0) rfl (by decide)) (mz_getIN (k := 2) cl_9 d_PL_fill_21 (by decide) wf_PL_153 rfl (hF 22 0 (by decide)) rfl (mz_if_eq 29 d_PL_fill_24 rfl (fun hc12 => (mz_aload_n d_PL_fill_29 rfl (mz_getR (k := 2) (a := (19, 0)) cl_0 d_PL_fill_30 (by decide) wf_PL_27 rfl (hF 0 0 (by decide)) rfl (hL2 (0, 0) 2 (19, 0) rfl (by decide)) (mz_iload_n d_PL_fill_33 rfl (match ((((hq3.2 hc15).2 hc14).2 hc13).1 hc12) with | ⟨j5, h6, h7, h8⟩ => mz_aald (a := (20, j5)) j5 d_PL_fill_34 (hF 19 0 (by decide)) rfl h6 h7 (hL2 (19, 0) j5 (20, j5) (mzLk_19 h7) (by decide)) (mz_astore d_PL_fill_35 (by decide) (mz_aload d_PL_fill_37 rfl (mz_iconst (0 : Int32) d_PL_fill_39 (by decide) (mz_putIN (k := 1) cl_3 d_PL_fill_40 (by decide) wf_PL_132 rfl rfl rfl rfl (hF 20 j5 h7) rfl (let M9 : MzM := mz_si M1 (20, j5) 1 (0 : Int32); (mz_iconst (0 : Int32) d_PL_fill_43 (by decide) (mz_istore d_PL_fill_44 (by decide) (MzS.loc [(2, .int a2), (3, .int a3), (4, .int a4), (5, .ref (mz_ad B (20, j5))), (6, .int (0 : Int32))] ⟨rfl, rfl, rfl, rfl, rfl, trivial⟩ (match (h8 M9 rfl) with | ⟨r10, h11⟩ => tm_PL_fill_46 hF   r10 a2 a3 a4 j5 (0 : Int32) M9 hL2 h11)))))))))))))) (fun hc12 => (mz_iconst (0 : Int32) d_PL_fill_27 (by decide) (mz_iret .boolean d_PL_fill_28 rfl rfl ⟨rfl, hL2, _, rfl, ((((hq3.2 hc15).2 hc14).2 hc13).2 hc12)⟩))))))))))))))))⟩)))))
def mm_PL_shelf : MzT := (⟨"ParcelLine", "shelf", "(II)I"⟩, prog_1_method_15_code, 3, (Option.some Jvm.ClassFile.FieldType.int))
theorem cs_PL_shelf {mm : MzT} : mzCall mm mm_PL_shelf 2 := ⟨wn_PL, wco_PL_shelf, by decide +kernel, by decide⟩
theorem d_PL_shelf_0 : decode mm_PL_shelf.2.1 0 = .ok (.iload_n 1, 1) := by decide +kernel
theorem d_PL_shelf_1 : decode mm_PL_shelf.2.1 1 = .ok (.invokestatic 150, 3) := by decide +kernel
theorem d_PL_shelf_4 : decode mm_PL_shelf.2.1 4 = .ok (.ifCond .ne 5, 3) := by decide +kernel
theorem d_PL_shelf_7 : decode mm_PL_shelf.2.1 7 = .ok (.iconst (-1), 1) := by decide +kernel
theorem d_PL_shelf_8 : decode mm_PL_shelf.2.1 8 = .ok (.ireturn, 1) := by decide +kernel
theorem d_PL_shelf_9 : decode mm_PL_shelf.2.1 9 = .ok (.iload_n 2, 1) := by decide +kernel
theorem d_PL_shelf_10 : decode mm_PL_shelf.2.1 10 = .ok (.iconst (-1), 1) := by decide +kernel
theorem d_PL_shelf_11 : decode mm_PL_shelf.2.1 11 = .ok (.if_icmp .ne 15, 3) := by decide +kernel
theorem d_PL_shelf_14 : decode mm_PL_shelf.2.1 14 = .ok (.aload_n 0, 1) := by decide +kernel
theorem d_PL_shelf_15 : decode mm_PL_shelf.2.1 15 = .ok (.getfield 27, 3) := by decide +kernel
theorem d_PL_shelf_18 : decode mm_PL_shelf.2.1 18 = .ok (.iload_n 1, 1) := by decide +kernel
theorem d_PL_shelf_19 : decode mm_PL_shelf.2.1 19 = .ok (.aaload, 1) := by decide +kernel
theorem d_PL_shelf_20 : decode mm_PL_shelf.2.1 20 = .ok (.getfield 132, 3) := by decide +kernel
theorem d_PL_shelf_23 : decode mm_PL_shelf.2.1 23 = .ok (.goto 13, 3) := by decide +kernel
theorem d_PL_shelf_26 : decode mm_PL_shelf.2.1 26 = .ok (.aload_n 0, 1) := by decide +kernel
theorem d_PL_shelf_27 : decode mm_PL_shelf.2.1 27 = .ok (.getfield 27, 3) := by decide +kernel
theorem d_PL_shelf_30 : decode mm_PL_shelf.2.1 30 = .ok (.iload_n 1, 1) := by decide +kernel
theorem d_PL_shelf_31 : decode mm_PL_shelf.2.1 31 = .ok (.aaload, 1) := by decide +kernel
theorem d_PL_shelf_32 : decode mm_PL_shelf.2.1 32 = .ok (.iload_n 2, 1) := by decide +kernel
theorem d_PL_shelf_33 : decode mm_PL_shelf.2.1 33 = .ok (.invokevirtual 143, 3) := by decide +kernel
theorem d_PL_shelf_36 : decode mm_PL_shelf.2.1 36 = .ok (.ireturn, 1) := by decide +kernel
def wp_PL_shelf  (a1 : Int32) (a2 : Int32) (M : MzM) (K : Int32 → MzM → Prop) : Prop := wp_PL_isShelf  a1 M (fun v4 M1 => ((¬ v4 = 0 → ((¬ a2 = (-1 : Int32) → (∃ j5 : Nat, a1.toInt = (j5 : Int) ∧ j5 < 3 ∧ wp_Row_ats j5 a2 M1 (fun v12 M9 => K v12 M9))) ∧ (a2 = (-1 : Int32) → (∃ j13 : Nat, a1.toInt = (j13 : Int) ∧ j13 < 3 ∧ K (mz_i M1 (20, j13) 1) M1)))) ∧ (v4 = 0 → K (-1 : Int32) M1)))
theorem tm_PL_shelf {G : MzG} {B : MzB} {d : Nat} {K : Int32 → MzM → Prop} (hF : mzLive B)   {a1 : Int32} {a2 : Int32} {M : MzM} (hL : mzLnk M) (h : wp_PL_shelf  a1 a2 M K) : MzC G B (d + 1) mm_PL_shelf [.ref (mz_ad B (0, 0)), .int a1, .int a2] M (0, 0) (mzK1 B K) := by
  unfold wp_PL_shelf at h
  exact MzC.of rfl (Nat.le_of_ble_eq_true rfl) (show MzS G B (d + 1) mm_PL_shelf M (0, 0) (mzK1 B K) 0 [(0, .ref (mz_ad B (0, 0))), (1, .int a1), (2, .int a2)] [] from (mz_iload_n d_PL_shelf_0 rfl (mz_callS (As := [.int a1]) (st := []) 0 0 d_PL_shelf_1 cs_PL_isShelf wl_PL_150 ws_PL_isShelf (Nat.le_of_ble_eq_true rfl) (Nat.le_refl _) (Nat.le_refl _) (MzC.mono (tm_PL_isShelf (d := d) hF  hL h) (fun r9 B9 M1 hq3 => by obtain ⟨rfl, hL2, v4, rfl, hq3⟩ := hq3; exact ⟨_, rfl, (mz_if_ne 9 d_PL_shelf_4 rfl (fun hc18 => (mz_iload_n d_PL_shelf_9 rfl (mz_iconst (-1 : Int32) d_PL_shelf_10 (by decide) (mz_icmp_ne 26 d_PL_shelf_11 rfl (fun hc17 => (mz_aload_n d_PL_shelf_26 rfl (mz_getR (k := 2) (a := (19, 0)) cl_0 d_PL_shelf_27 (by decide) wf_PL_27 rfl (hF 0 0 (by decide)) rfl (hL2 (0, 0) 2 (19, 0) rfl (by decide)) (mz_iload_n d_PL_shelf_30 rfl (match ((hq3.1 hc18).1 hc17) with | ⟨j5, h6, h7, h8⟩ => mz_aald (a := (20, j5)) j5 d_PL_shelf_31 (hF 19 0 (by decide)) rfl h6 h7 (hL2 (19, 0) j5 (20, j5) (mzLk_19 h7) (by decide)) (mz_iload_n d_PL_shelf_32 rfl (mz_callV (As := [.int a2]) (st := []) (hF 20 j5 h7) rfl (mzClOf cl_3) 0 0 d_PL_shelf_33 cs_Row_at wl_PL_143 wi_Row_at wse_Row_at (Nat.le_of_ble_eq_true rfl) (Nat.le_refl _) (Nat.le_refl _) (MzC.mono (tm_Row_ats (d := d) hF h7 hL2 h8) (fun r9 B9 M9 hq11 => by obtain ⟨rfl, hL10, v12, rfl, hq11⟩ := hq11; exact ⟨_, rfl, (mz_iret .int d_PL_shelf_36 rfl rfl ⟨rfl, hL10, _, rfl, hq11⟩)⟩))))))))) (fun hc17 => (mz_aload_n d_PL_shelf_14 rfl (mz_getR (k := 2) (a := (19, 0)) cl_0 d_PL_shelf_15 (by decide) wf_PL_27 rfl (hF 0 0 (by decide)) rfl (hL2 (0, 0) 2 (19, 0) rfl (by decide)) (mz_iload_n d_PL_shelf_18 rfl (match ((hq3.1 hc18).2 hc17) with | ⟨j13, h14, h15, h16⟩ => mz_aald (a := (20, j13)) j13 d_PL_shelf_19 (hF 19 0 (by decide)) rfl h14 h15 (hL2 (19, 0) j13 (20, j13) (mzLk_19 h15) (by decide)) (mz_getIN (k := 1) cl_3 d_PL_shelf_20 (by decide) wf_PL_132 rfl (hF 20 j13 h15) rfl (mz_goto 36 d_PL_shelf_23 rfl (mz_iret .int d_PL_shelf_36 rfl rfl ⟨rfl, hL2, _, rfl, h16⟩)))))))))))) (fun hc18 => (mz_iconst (-1 : Int32) d_PL_shelf_7 (by decide) (mz_iret .int d_PL_shelf_8 rfl rfl ⟨rfl, hL2, _, rfl, (hq3.2 hc18)⟩))))⟩)))))
def mm_PL_isName : MzT := (⟨"ParcelLine", "isName", "(I)Z"⟩, prog_1_method_21_code, 3, (Option.some Jvm.ClassFile.FieldType.boolean))
theorem cs_PL_isName {mm : MzT} : mzCall mm mm_PL_isName 1 := ⟨wn_PL, wco_PL_isName, by decide +kernel, by decide⟩
theorem d_PL_isName_0 : decode mm_PL_isName.2.1 0 = .ok (.iload_n 0, 1) := by decide +kernel
theorem d_PL_isName_1 : decode mm_PL_isName.2.1 1 = .ok (.istore_n 1, 1) := by decide +kernel
theorem d_PL_isName_2 : decode mm_PL_isName.2.1 2 = .ok (.iconst 0, 1) := by decide +kernel
theorem d_PL_isName_3 : decode mm_PL_isName.2.1 3 = .ok (.istore_n 2, 1) := by decide +kernel
theorem d_PL_isName_4 : decode mm_PL_isName.2.1 4 = .ok (.iload_n 2, 1) := by decide +kernel
theorem d_PL_isName_5 : decode mm_PL_isName.2.1 5 = .ok (.iconst 3, 1) := by decide +kernel
theorem d_PL_isName_6 : decode mm_PL_isName.2.1 6 = .ok (.if_icmp .ge 32, 3) := by decide +kernel
theorem d_PL_isName_9 : decode mm_PL_isName.2.1 9 = .ok (.iload_n 1, 1) := by decide +kernel
theorem d_PL_isName_10 : decode mm_PL_isName.2.1 10 = .ok (.ifCond .le 28, 3) := by decide +kernel
theorem d_PL_isName_13 : decode mm_PL_isName.2.1 13 = .ok (.iload_n 1, 1) := by decide +kernel
theorem d_PL_isName_14 : decode mm_PL_isName.2.1 14 = .ok (.sipush 128, 3) := by decide +kernel
theorem d_PL_isName_17 : decode mm_PL_isName.2.1 17 = .ok (.irem, 1) := by decide +kernel
theorem d_PL_isName_18 : decode mm_PL_isName.2.1 18 = .ok (.invokestatic 206, 3) := by decide +kernel
theorem d_PL_isName_21 : decode mm_PL_isName.2.1 21 = .ok (.ifCond .ne 5, 3) := by decide +kernel
theorem d_PL_isName_24 : decode mm_PL_isName.2.1 24 = .ok (.iconst 0, 1) := by decide +kernel
theorem d_PL_isName_25 : decode mm_PL_isName.2.1 25 = .ok (.ireturn, 1) := by decide +kernel
theorem d_PL_isName_26 : decode mm_PL_isName.2.1 26 = .ok (.iload_n 1, 1) := by decide +kernel
theorem d_PL_isName_27 : decode mm_PL_isName.2.1 27 = .ok (.sipush 128, 3) := by decide +kernel
theorem d_PL_isName_30 : decode mm_PL_isName.2.1 30 = .ok (.idiv, 1) := by decide +kernel
theorem d_PL_isName_31 : decode mm_PL_isName.2.1 31 = .ok (.istore_n 1, 1) := by decide +kernel
theorem d_PL_isName_32 : decode mm_PL_isName.2.1 32 = .ok (.iinc 2 1, 3) := by decide +kernel
theorem d_PL_isName_35 : decode mm_PL_isName.2.1 35 = .ok (.goto (-31), 3) := by decide +kernel
theorem d_PL_isName_38 : decode mm_PL_isName.2.1 38 = .ok (.iload_n 0, 1) := by decide +kernel
theorem d_PL_isName_39 : decode mm_PL_isName.2.1 39 = .ok (.ifCond .le 11, 3) := by decide +kernel
theorem d_PL_isName_42 : decode mm_PL_isName.2.1 42 = .ok (.iload_n 1, 1) := by decide +kernel
theorem d_PL_isName_43 : decode mm_PL_isName.2.1 43 = .ok (.ifCond .ne 7, 3) := by decide +kernel
theorem d_PL_isName_46 : decode mm_PL_isName.2.1 46 = .ok (.iconst 1, 1) := by decide +kernel
theorem d_PL_isName_47 : decode mm_PL_isName.2.1 47 = .ok (.goto 4, 3) := by decide +kernel
theorem d_PL_isName_50 : decode mm_PL_isName.2.1 50 = .ok (.iconst 0, 1) := by decide +kernel
theorem d_PL_isName_51 : decode mm_PL_isName.2.1 51 = .ok (.ireturn, 1) := by decide +kernel
def wp_PL_isName_4   (K : Int32 → MzM → Prop) : Nat → Int32 → Int32 → Int32 → MzM → Prop
  | 0, _, _, _, _ => False
  | r0 + 1, y0, y1, y2, M => (((3 : Int32) ≤ y2 → ((y0 ≤ 0 → K (0 : Int32) M) ∧ (¬ y0 ≤ 0 → ((¬ y1 = 0 → K (0 : Int32) M) ∧ (y1 = 0 → K (1 : Int32) M))))) ∧ (¬ (3 : Int32) ≤ y2 → ((y1 ≤ 0 → ((y0 ≤ 0 → K (0 : Int32) M) ∧ (¬ y0 ≤ 0 → ((¬ y1 = 0 → K (0 : Int32) M) ∧ (y1 = 0 → K (1 : Int32) M))))) ∧ (¬ y1 ≤ 0 → wp_PL_isNameByte  (y1 - y1 / (128 : Int32) * (128 : Int32)) M (fun v10 M7 => ((¬ v10 = 0 → (wp_PL_isName_4   K r0) y0 (y1 / (128 : Int32)) (y2 + (1 : Int32)) M7) ∧ (v10 = 0 → K (0 : Int32) M7)))))))
def wp_PL_isName  (a0 : Int32) (M : MzM) (K : Int32 → MzM → Prop) : Prop := (∃ r1 : Nat, wp_PL_isName_4   K r1 a0 a0 (0 : Int32) M)
theorem tm_PL_isName_4 {G : MzG} {B : MzB} {d : Nat} {K : Int32 → MzM → Prop} (hF : mzLive B)     : ∀ (r0 : Nat) (y0 : Int32) (y1 : Int32) (y2 : Int32) (M : MzM), mzLnk M → wp_PL_isName_4   K r0 y0 y1 y2 M → MzS G B (d + 1) mm_PL_isName M (0, 0) (mzK1 B K) 4 [(0, .int y0), (1, .int y1), (2, .int y2)] [] := by
  intro r0
  induction r0 with
  | zero => intro y0 y1 y2 M hL h; exact False.elim h
  | succ r0 hH4 =>
    intro y0 y1 y2 M hL h
    unfold wp_PL_isName_4 at h
    exact (mz_iload_n d_PL_isName_4 rfl (mz_iconst (3 : Int32) d_PL_isName_5 (by decide) (mz_icmp_ge 38 d_PL_isName_6 rfl (fun hc13 => (mz_iload_n d_PL_isName_38 rfl (mz_if_le 50 d_PL_isName_39 rfl (fun hc4 => (mz_iconst (0 : Int32) d_PL_isName_50 (by decide) (mz_iret .boolean d_PL_isName_51 rfl rfl ⟨rfl, hL, _, rfl, ((h.1 hc13).1 hc4)⟩))) (fun hc4 => (mz_iload_n d_PL_isName_42 rfl (mz_if_ne 50 d_PL_isName_43 rfl (fun hc3 => (mz_iconst (0 : Int32) d_PL_isName_50 (by decide) (mz_iret .boolean d_PL_isName_51 rfl rfl ⟨rfl, hL, _, rfl, (((h.1 hc13).2 hc4).1 hc3)⟩))) (fun hc3 => (mz_iconst (1 : Int32) d_PL_isName_46 (by decide) (mz_goto 51 d_PL_isName_47 rfl (mz_iret .boolean d_PL_isName_51 rfl rfl ⟨rfl, hL, _, rfl, (((h.1 hc13).2 hc4).2 hc3)⟩)))))))))) (fun hc13 => (mz_iload_n d_PL_isName_9 rfl (mz_if_le 38 d_PL_isName_10 rfl (fun hc12 => (mz_iload_n d_PL_isName_38 rfl (mz_if_le 50 d_PL_isName_39 rfl (fun hc6 => (mz_iconst (0 : Int32) d_PL_isName_50 (by decide) (mz_iret .boolean d_PL_isName_51 rfl rfl ⟨rfl, hL, _, rfl, (((h.2 hc13).1 hc12).1 hc6)⟩))) (fun hc6 => (mz_iload_n d_PL_isName_42 rfl (mz_if_ne 50 d_PL_isName_43 rfl (fun hc5 => (mz_iconst (0 : Int32) d_PL_isName_50 (by decide) (mz_iret .boolean d_PL_isName_51 rfl rfl ⟨rfl, hL, _, rfl, ((((h.2 hc13).1 hc12).2 hc6).1 hc5)⟩))) (fun hc5 => (mz_iconst (1 : Int32) d_PL_isName_46 (by decide) (mz_goto 51 d_PL_isName_47 rfl (mz_iret .boolean d_PL_isName_51 rfl rfl ⟨rfl, hL, _, rfl, ((((h.2 hc13).1 hc12).2 hc6).2 hc5)⟩)))))))))) (fun hc12 => (mz_iload_n d_PL_isName_13 rfl (mz_sipush (128 : Int32) d_PL_isName_14 (by decide) (mz_irem d_PL_isName_17 (by decide) (mz_callS (As := [.int (y1 - y1 / (128 : Int32) * (128 : Int32))]) (st := []) 0 0 d_PL_isName_18 cs_PL_isNameByte wl_PL_206 ws_PL_isNameByte (Nat.le_of_ble_eq_true rfl) (Nat.le_refl _) (Nat.le_refl _) (MzC.mono (tm_PL_isNameByte (d := d) hF  hL ((h.2 hc13).2 hc12)) (fun r9 B9 M7 hq9 => by obtain ⟨rfl, hL8, v10, rfl, hq9⟩ := hq9; exact ⟨_, rfl, (mz_if_ne 26 d_PL_isName_21 rfl (fun hc11 => (mz_iload_n d_PL_isName_26 rfl (mz_sipush (128 : Int32) d_PL_isName_27 (by decide) (mz_idiv d_PL_isName_30 (by decide) (mz_istore_n d_PL_isName_31 (by decide) (mz_iinc (y2 + (1 : Int32)) d_PL_isName_32 rfl (by decide) rfl (mz_goto 4 d_PL_isName_35 rfl (MzS.loc [(0, .int y0), (1, .int (y1 / (128 : Int32))), (2, .int (y2 + (1 : Int32)))] ⟨rfl, rfl, rfl, trivial⟩ (hH4 y0 (y1 / (128 : Int32)) (y2 + (1 : Int32)) M7 hL8 (hq9.1 hc11)))))))))) (fun hc11 => (mz_iconst (0 : Int32) d_PL_isName_24 (by decide) (mz_iret .boolean d_PL_isName_25 rfl rfl ⟨rfl, hL8, _, rfl, (hq9.2 hc11)⟩))))⟩)))))))))))))
theorem tm_PL_isName {G : MzG} {B : MzB} {d : Nat} {K : Int32 → MzM → Prop} (hF : mzLive B)   {a0 : Int32} {M : MzM} (hL : mzLnk M) (h : wp_PL_isName  a0 M K) : MzC G B (d + 1) mm_PL_isName [.int a0] M (0, 0) (mzK1 B K) := by
  unfold wp_PL_isName at h
  exact MzC.of rfl (Nat.le_of_ble_eq_true rfl) (show MzS G B (d + 1) mm_PL_isName M (0, 0) (mzK1 B K) 0 [(0, .int a0)] [] from (mz_iload_n d_PL_isName_0 rfl (mz_istore_n d_PL_isName_1 (by decide) (mz_iconst (0 : Int32) d_PL_isName_2 (by decide) (mz_istore_n d_PL_isName_3 (by decide) (MzS.loc [(0, .int a0), (1, .int a0), (2, .int (0 : Int32))] ⟨rfl, rfl, rfl, trivial⟩ (match h with | ⟨r1, h2⟩ => tm_PL_isName_4 hF   r1 a0 a0 (0 : Int32) M hL h2)))))))
def mm_Cop_start : MzT := (⟨"ParcelLine$Copier", "start", "(ZLParcelLine$ByteRow;II)V"⟩, prog_5_method_2_code, 5, (Option.none : Option Jvm.ClassFile.FieldType))
theorem cs_Cop_start {mm : MzT} : mzCall mm mm_Cop_start 4 := ⟨wn_Cop, wco_Cop_start, by decide +kernel, by decide⟩
theorem d_Cop_start_0 : decode mm_Cop_start.2.1 0 = .ok (.aload_n 0, 1) := by decide +kernel
theorem d_Cop_start_1 : decode mm_Cop_start.2.1 1 = .ok (.iconst 1, 1) := by decide +kernel
theorem d_Cop_start_2 : decode mm_Cop_start.2.1 2 = .ok (.putfield 19, 3) := by decide +kernel
theorem d_Cop_start_5 : decode mm_Cop_start.2.1 5 = .ok (.aload_n 0, 1) := by decide +kernel
theorem d_Cop_start_6 : decode mm_Cop_start.2.1 6 = .ok (.iload_n 1, 1) := by decide +kernel
theorem d_Cop_start_7 : decode mm_Cop_start.2.1 7 = .ok (.putfield 23, 3) := by decide +kernel
theorem d_Cop_start_10 : decode mm_Cop_start.2.1 10 = .ok (.aload_n 0, 1) := by decide +kernel
theorem d_Cop_start_11 : decode mm_Cop_start.2.1 11 = .ok (.aload_n 2, 1) := by decide +kernel
theorem d_Cop_start_12 : decode mm_Cop_start.2.1 12 = .ok (.putfield 15, 3) := by decide +kernel
theorem d_Cop_start_15 : decode mm_Cop_start.2.1 15 = .ok (.aload_n 0, 1) := by decide +kernel
theorem d_Cop_start_16 : decode mm_Cop_start.2.1 16 = .ok (.iload_n 3, 1) := by decide +kernel
theorem d_Cop_start_17 : decode mm_Cop_start.2.1 17 = .ok (.putfield 26, 3) := by decide +kernel
theorem d_Cop_start_20 : decode mm_Cop_start.2.1 20 = .ok (.aload_n 0, 1) := by decide +kernel
theorem d_Cop_start_21 : decode mm_Cop_start.2.1 21 = .ok (.iload 4, 2) := by decide +kernel
theorem d_Cop_start_23 : decode mm_Cop_start.2.1 23 = .ok (.putfield 30, 3) := by decide +kernel
theorem d_Cop_start_26 : decode mm_Cop_start.2.1 26 = .ok (.aload_n 0, 1) := by decide +kernel
theorem d_Cop_start_27 : decode mm_Cop_start.2.1 27 = .ok (.iconst 0, 1) := by decide +kernel
theorem d_Cop_start_28 : decode mm_Cop_start.2.1 28 = .ok (.putfield 33, 3) := by decide +kernel
theorem d_Cop_start_31 : decode mm_Cop_start.2.1 31 = .ok (.aload_n 0, 1) := by decide +kernel
theorem d_Cop_start_32 : decode mm_Cop_start.2.1 32 = .ok (.iconst 0, 1) := by decide +kernel
theorem d_Cop_start_33 : decode mm_Cop_start.2.1 33 = .ok (.putfield 36, 3) := by decide +kernel
theorem d_Cop_start_36 : decode mm_Cop_start.2.1 36 = .ok (.aload_n 0, 1) := by decide +kernel
theorem d_Cop_start_37 : decode mm_Cop_start.2.1 37 = .ok (.iconst 0, 1) := by decide +kernel
theorem d_Cop_start_38 : decode mm_Cop_start.2.1 38 = .ok (.putfield 39, 3) := by decide +kernel
theorem d_Cop_start_41 : decode mm_Cop_start.2.1 41 = .ok (.return_, 1) := by decide +kernel
def wp_Cop_start (p2 : Nat) (a1 : Int32) (a3 : Int32) (a4 : Int32) (M : MzM) (K : MzM → Prop) : Prop := (∀ M1 : MzM, M1 = mz_si M (22, 0) 2 (1 : Int32) → ((a1 = 0 ∨ a1 = 1) ∧ ∀ M2 : MzM, M2 = mz_si M1 (22, 0) 3 a1 → (∀ M3 : MzM, M3 = mz_sr M2 (22, 0) 1 (some (20, p2)) → (∀ M5 : MzM, M5 = mz_si M3 (22, 0) 4 a3 → (∀ M6 : MzM, M6 = mz_si M5 (22, 0) 5 a4 → (∀ M7 : MzM, M7 = mz_si M6 (22, 0) 6 (0 : Int32) → (∀ M8 : MzM, M8 = mz_si M7 (22, 0) 7 (0 : Int32) → (∀ M9 : MzM, M9 = mz_si M8 (22, 0) 8 (0 : Int32) → K M9))))))))
theorem tm_Cop_start {G : MzG} {B : MzB} {d : Nat} {K : MzM → Prop} (hF : mzLive B) {p2 : Nat} (hp2 : p2 < 3) {a1 : Int32} {a3 : Int32} {a4 : Int32} {M : MzM} (hL : mzLnk M) (h : wp_Cop_start p2 a1 a3 a4 M K) : MzC G B d mm_Cop_start [.ref (mz_ad B (22, 0)), .int a1, .ref (mz_ad B (20, p2)), .int a3, .int a4] M (0, 0) (mzK0 B K) := by
  unfold wp_Cop_start at h
  exact MzC.of rfl (Nat.le_of_ble_eq_true rfl) (show MzS G B d mm_Cop_start M (0, 0) (mzK0 B K) 0 [(0, .ref (mz_ad B (22, 0))), (1, .int a1), (2, .ref (mz_ad B (20, p2))), (3, .int a3), (4, .int a4)] [] from (mz_aload_n d_Cop_start_0 rfl (mz_iconst (1 : Int32) d_Cop_start_1 (by decide) (mz_putI (k := 2) cl_9 d_Cop_start_2 (by decide) wf_Cop_19 rfl rfl rfl rfl (hF 22 0 (by decide)) rfl (let M1 : MzM := mz_si M (22, 0) 2 (1 : Int32); (mz_aload_n d_Cop_start_5 rfl (mz_iload_n d_Cop_start_6 rfl (mz_putI (k := 3) cl_9 d_Cop_start_7 (by decide) wf_Cop_23 rfl rfl (mz_bo (h M1 rfl).1).1 (mz_bo (h M1 rfl).1).2 (hF 22 0 (by decide)) rfl (let M2 : MzM := mz_si M1 (22, 0) 3 a1; (mz_aload_n d_Cop_start_10 rfl (mz_aload_n d_Cop_start_11 rfl (mz_putR (k := 1) (x := (some (20, p2))) cl_9 d_Cop_start_12 (by decide) wf_Cop_15 rfl rfl rfl rfl (hF 22 0 (by decide)) rfl (have hL4 := mzLnk.sr (k := 1) (x := (some (20, p2))) (i := (22, 0)) hL rfl; let M3 : MzM := mz_sr M2 (22, 0) 1 (some (20, p2)); (mz_aload_n d_Cop_start_15 rfl (mz_iload_n d_Cop_start_16 rfl (mz_putI (k := 4) cl_9 d_Cop_start_17 (by decide) wf_Cop_26 rfl rfl rfl rfl (hF 22 0 (by decide)) rfl (let M5 : MzM := mz_si M3 (22, 0) 4 a3; (mz_aload_n d_Cop_start_20 rfl (mz_iload d_Cop_start_21 rfl (mz_putI (k := 5) cl_9 d_Cop_start_23 (by decide) wf_Cop_30 rfl rfl rfl rfl (hF 22 0 (by decide)) rfl (let M6 : MzM := mz_si M5 (22, 0) 5 a4; (mz_aload_n d_Cop_start_26 rfl (mz_iconst (0 : Int32) d_Cop_start_27 (by decide) (mz_putI (k := 6) cl_9 d_Cop_start_28 (by decide) wf_Cop_33 rfl rfl rfl rfl (hF 22 0 (by decide)) rfl (let M7 : MzM := mz_si M6 (22, 0) 6 (0 : Int32); (mz_aload_n d_Cop_start_31 rfl (mz_iconst (0 : Int32) d_Cop_start_32 (by decide) (mz_putI (k := 7) cl_9 d_Cop_start_33 (by decide) wf_Cop_36 rfl rfl rfl rfl (hF 22 0 (by decide)) rfl (let M8 : MzM := mz_si M7 (22, 0) 7 (0 : Int32); (mz_aload_n d_Cop_start_36 rfl (mz_iconst (0 : Int32) d_Cop_start_37 (by decide) (mz_putI (k := 8) cl_9 d_Cop_start_38 (by decide) wf_Cop_39 rfl rfl rfl rfl (hF 22 0 (by decide)) rfl (let M9 : MzM := mz_si M8 (22, 0) 8 (0 : Int32); (mz_vret d_Cop_start_41 rfl ⟨rfl, hL4, rfl, ((((((((h M1 rfl).2 M2 rfl) M3 rfl) M5 rfl) M6 rfl) M7 rfl) M8 rfl) M9 rfl)⟩))))))))))))))))))))))))))))))))))
def mm_Cop_finish : MzT := (⟨"ParcelLine$Copier", "finish", "(I)I"⟩, prog_5_method_4_code, 2, (Option.some Jvm.ClassFile.FieldType.int))
theorem cs_Cop_finish {mm : MzT} : mzCall mm mm_Cop_finish 1 := ⟨wn_Cop, wco_Cop_finish, by decide +kernel, by decide⟩
theorem d_Cop_finish_0 : decode mm_Cop_finish.2.1 0 = .ok (.aload_n 0, 1) := by decide +kernel
theorem d_Cop_finish_1 : decode mm_Cop_finish.2.1 1 = .ok (.iconst 0, 1) := by decide +kernel
theorem d_Cop_finish_2 : decode mm_Cop_finish.2.1 2 = .ok (.putfield 19, 3) := by decide +kernel
theorem d_Cop_finish_5 : decode mm_Cop_finish.2.1 5 = .ok (.iload_n 1, 1) := by decide +kernel
theorem d_Cop_finish_6 : decode mm_Cop_finish.2.1 6 = .ok (.ireturn, 1) := by decide +kernel
def wp_Cop_finish  (a1 : Int32) (M : MzM) (K : Int32 → MzM → Prop) : Prop := (∀ M1 : MzM, M1 = mz_si M (22, 0) 2 (0 : Int32) → K a1 M1)
theorem tm_Cop_finish {G : MzG} {B : MzB} {d : Nat} {K : Int32 → MzM → Prop} (hF : mzLive B)   {a1 : Int32} {M : MzM} (hL : mzLnk M) (h : wp_Cop_finish  a1 M K) : MzC G B d mm_Cop_finish [.ref (mz_ad B (22, 0)), .int a1] M (0, 0) (mzK1 B K) := by
  unfold wp_Cop_finish at h
  exact MzC.of rfl (Nat.le_of_ble_eq_true rfl) (show MzS G B d mm_Cop_finish M (0, 0) (mzK1 B K) 0 [(0, .ref (mz_ad B (22, 0))), (1, .int a1)] [] from (mz_aload_n d_Cop_finish_0 rfl (mz_iconst (0 : Int32) d_Cop_finish_1 (by decide) (mz_putI (k := 2) cl_9 d_Cop_finish_2 (by decide) wf_Cop_19 rfl rfl rfl rfl (hF 22 0 (by decide)) rfl (let M1 : MzM := mz_si M (22, 0) 2 (0 : Int32); (mz_iload_n d_Cop_finish_5 rfl (mz_iret .int d_Cop_finish_6 rfl rfl ⟨rfl, hL, _, rfl, (h M1 rfl)⟩)))))))
def mm_Cop_goTo : MzT := (⟨"ParcelLine$Copier", "goTo", "(I)I"⟩, prog_5_method_5_code, 2, (Option.some Jvm.ClassFile.FieldType.int))
theorem cs_Cop_goTo {mm : MzT} : mzCall mm mm_Cop_goTo 1 := ⟨wn_Cop, wco_Cop_goTo, by decide +kernel, by decide⟩
theorem d_Cop_goTo_0 : decode mm_Cop_goTo.2.1 0 = .ok (.aload_n 0, 1) := by decide +kernel
theorem d_Cop_goTo_1 : decode mm_Cop_goTo.2.1 1 = .ok (.iload_n 1, 1) := by decide +kernel
theorem d_Cop_goTo_2 : decode mm_Cop_goTo.2.1 2 = .ok (.putfield 33, 3) := by decide +kernel
theorem d_Cop_goTo_5 : decode mm_Cop_goTo.2.1 5 = .ok (.aload_n 0, 1) := by decide +kernel
theorem d_Cop_goTo_6 : decode mm_Cop_goTo.2.1 6 = .ok (.getfield 33, 3) := by decide +kernel
theorem d_Cop_goTo_9 : decode mm_Cop_goTo.2.1 9 = .ok (.ireturn, 1) := by decide +kernel
def wp_Cop_goTo  (a1 : Int32) (M : MzM) (K : Int32 → MzM → Prop) : Prop := (∀ M1 : MzM, M1 = mz_si M (22, 0) 6 a1 → K (mz_i M1 (22, 0) 6) M1)
theorem tm_Cop_goTo {G : MzG} {B : MzB} {d : Nat} {K : Int32 → MzM → Prop} (hF : mzLive B)   {a1 : Int32} {M : MzM} (hL : mzLnk M) (h : wp_Cop_goTo  a1 M K) : MzC G B d mm_Cop_goTo [.ref (mz_ad B (22, 0)), .int a1] M (0, 0) (mzK1 B K) := by
  unfold wp_Cop_goTo at h
  exact MzC.of rfl (Nat.le_of_ble_eq_true rfl) (show MzS G B d mm_Cop_goTo M (0, 0) (mzK1 B K) 0 [(0, .ref (mz_ad B (22, 0))), (1, .int a1)] [] from (mz_aload_n d_Cop_goTo_0 rfl (mz_iload_n d_Cop_goTo_1 rfl (mz_putI (k := 6) cl_9 d_Cop_goTo_2 (by decide) wf_Cop_33 rfl rfl rfl rfl (hF 22 0 (by decide)) rfl (let M1 : MzM := mz_si M (22, 0) 6 a1; (mz_aload_n d_Cop_goTo_5 rfl (mz_getI (k := 6) cl_9 d_Cop_goTo_6 (by decide) wf_Cop_33 rfl (hF 22 0 (by decide)) rfl (mz_iret .int d_Cop_goTo_9 rfl rfl ⟨rfl, hL, _, rfl, (h M1 rfl)⟩))))))))
def mm_Cop_digitsOf : MzT := (⟨"ParcelLine$Copier", "digitsOf", "(I)I"⟩, prog_5_method_7_code, 1, (Option.some Jvm.ClassFile.FieldType.int))
theorem cs_Cop_digitsOf {mm : MzT} : mzCall mm mm_Cop_digitsOf 1 := ⟨wn_Cop, wco_Cop_digitsOf, by decide +kernel, by decide⟩
theorem d_Cop_digitsOf_0 : decode mm_Cop_digitsOf.2.1 0 = .ok (.iload_n 0, 1) := by decide +kernel
theorem d_Cop_digitsOf_1 : decode mm_Cop_digitsOf.2.1 1 = .ok (.bipush 10, 2) := by decide +kernel
theorem d_Cop_digitsOf_3 : decode mm_Cop_digitsOf.2.1 3 = .ok (.if_icmp .ge 10, 3) := by decide +kernel
theorem d_Cop_digitsOf_6 : decode mm_Cop_digitsOf.2.1 6 = .ok (.bipush 48, 2) := by decide +kernel
theorem d_Cop_digitsOf_8 : decode mm_Cop_digitsOf.2.1 8 = .ok (.iload_n 0, 1) := by decide +kernel
theorem d_Cop_digitsOf_9 : decode mm_Cop_digitsOf.2.1 9 = .ok (.iadd, 1) := by decide +kernel
theorem d_Cop_digitsOf_10 : decode mm_Cop_digitsOf.2.1 10 = .ok (.goto 22, 3) := by decide +kernel
theorem d_Cop_digitsOf_13 : decode mm_Cop_digitsOf.2.1 13 = .ok (.bipush 48, 2) := by decide +kernel
theorem d_Cop_digitsOf_15 : decode mm_Cop_digitsOf.2.1 15 = .ok (.iload_n 0, 1) := by decide +kernel
theorem d_Cop_digitsOf_16 : decode mm_Cop_digitsOf.2.1 16 = .ok (.bipush 10, 2) := by decide +kernel
theorem d_Cop_digitsOf_18 : decode mm_Cop_digitsOf.2.1 18 = .ok (.idiv, 1) := by decide +kernel
theorem d_Cop_digitsOf_19 : decode mm_Cop_digitsOf.2.1 19 = .ok (.iadd, 1) := by decide +kernel
theorem d_Cop_digitsOf_20 : decode mm_Cop_digitsOf.2.1 20 = .ok (.bipush 48, 2) := by decide +kernel
theorem d_Cop_digitsOf_22 : decode mm_Cop_digitsOf.2.1 22 = .ok (.iload_n 0, 1) := by decide +kernel
theorem d_Cop_digitsOf_23 : decode mm_Cop_digitsOf.2.1 23 = .ok (.bipush 10, 2) := by decide +kernel
theorem d_Cop_digitsOf_25 : decode mm_Cop_digitsOf.2.1 25 = .ok (.irem, 1) := by decide +kernel
theorem d_Cop_digitsOf_26 : decode mm_Cop_digitsOf.2.1 26 = .ok (.iadd, 1) := by decide +kernel
theorem d_Cop_digitsOf_27 : decode mm_Cop_digitsOf.2.1 27 = .ok (.sipush 128, 3) := by decide +kernel
theorem d_Cop_digitsOf_30 : decode mm_Cop_digitsOf.2.1 30 = .ok (.imul, 1) := by decide +kernel
theorem d_Cop_digitsOf_31 : decode mm_Cop_digitsOf.2.1 31 = .ok (.iadd, 1) := by decide +kernel
theorem d_Cop_digitsOf_32 : decode mm_Cop_digitsOf.2.1 32 = .ok (.ireturn, 1) := by decide +kernel
def wp_Cop_digitsOf  (a0 : Int32) (M : MzM) (K : Int32 → MzM → Prop) : Prop := (((10 : Int32) ≤ a0 → K (((48 : Int32) + (a0 / (10 : Int32))) + (((48 : Int32) + (a0 - a0 / (10 : Int32) * (10 : Int32))) * (128 : Int32))) M) ∧ (¬ (10 : Int32) ≤ a0 → K ((48 : Int32) + a0) M))
theorem tm_Cop_digitsOf {G : MzG} {B : MzB} {d : Nat} {K : Int32 → MzM → Prop} (hF : mzLive B)   {a0 : Int32} {M : MzM} (hL : mzLnk M) (h : wp_Cop_digitsOf  a0 M K) : MzC G B d mm_Cop_digitsOf [.int a0] M (0, 0) (mzK1 B K) := by
  unfold wp_Cop_digitsOf at h
  exact MzC.of rfl (Nat.le_of_ble_eq_true rfl) (show MzS G B d mm_Cop_digitsOf M (0, 0) (mzK1 B K) 0 [(0, .int a0)] [] from (mz_iload_n d_Cop_digitsOf_0 rfl (mz_bipush (10 : Int32) d_Cop_digitsOf_1 (by decide) (mz_icmp_ge 13 d_Cop_digitsOf_3 rfl (fun hc1 => (mz_bipush (48 : Int32) d_Cop_digitsOf_13 (by decide) (mz_iload_n d_Cop_digitsOf_15 rfl (mz_bipush (10 : Int32) d_Cop_digitsOf_16 (by decide) (mz_idiv d_Cop_digitsOf_18 (by decide) (mz_iadd d_Cop_digitsOf_19 (mz_bipush (48 : Int32) d_Cop_digitsOf_20 (by decide) (mz_iload_n d_Cop_digitsOf_22 rfl (mz_bipush (10 : Int32) d_Cop_digitsOf_23 (by decide) (mz_irem d_Cop_digitsOf_25 (by decide) (mz_iadd d_Cop_digitsOf_26 (mz_sipush (128 : Int32) d_Cop_digitsOf_27 (by decide) (mz_imul d_Cop_digitsOf_30 (mz_iadd d_Cop_digitsOf_31 (mz_iret .int d_Cop_digitsOf_32 rfl rfl ⟨rfl, hL, _, rfl, (h.1 hc1)⟩))))))))))))))) (fun hc1 => (mz_bipush (48 : Int32) d_Cop_digitsOf_6 (by decide) (mz_iload_n d_Cop_digitsOf_8 rfl (mz_iadd d_Cop_digitsOf_9 (mz_goto 32 d_Cop_digitsOf_10 rfl (mz_iret .int d_Cop_digitsOf_32 rfl rfl ⟨rfl, hL, _, rfl, (h.2 hc1)⟩))))))))))
def mm_Cop_bringByte : MzT := (⟨"ParcelLine$Copier", "bringByte", "()I"⟩, prog_5_method_12_code, 2, (Option.some Jvm.ClassFile.FieldType.int))
theorem cs_Cop_bringByte {mm : MzT} : mzCall mm mm_Cop_bringByte 0 := ⟨wn_Cop, wco_Cop_bringByte, by decide +kernel, by decide⟩
theorem d_Cop_bringByte_0 : decode mm_Cop_bringByte.2.1 0 = .ok (.aload_n 0, 1) := by decide +kernel
theorem d_Cop_bringByte_1 : decode mm_Cop_bringByte.2.1 1 = .ok (.getfield 9, 3) := by decide +kernel
theorem d_Cop_bringByte_4 : decode mm_Cop_bringByte.2.1 4 = .ok (.getfield 102, 3) := by decide +kernel
theorem d_Cop_bringByte_7 : decode mm_Cop_bringByte.2.1 7 = .ok (.getfield 106, 3) := by decide +kernel
theorem d_Cop_bringByte_10 : decode mm_Cop_bringByte.2.1 10 = .ok (.iconst 2, 1) := by decide +kernel
theorem d_Cop_bringByte_11 : decode mm_Cop_bringByte.2.1 11 = .ok (.if_icmp .ne 16, 3) := by decide +kernel
theorem d_Cop_bringByte_14 : decode mm_Cop_bringByte.2.1 14 = .ok (.aload_n 0, 1) := by decide +kernel
theorem d_Cop_bringByte_15 : decode mm_Cop_bringByte.2.1 15 = .ok (.getfield 9, 3) := by decide +kernel
theorem d_Cop_bringByte_18 : decode mm_Cop_bringByte.2.1 18 = .ok (.getfield 102, 3) := by decide +kernel
theorem d_Cop_bringByte_21 : decode mm_Cop_bringByte.2.1 21 = .ok (.getfield 117, 3) := by decide +kernel
theorem d_Cop_bringByte_24 : decode mm_Cop_bringByte.2.1 24 = .ok (.ifnonnull 9, 3) := by decide +kernel
theorem d_Cop_bringByte_27 : decode mm_Cop_bringByte.2.1 27 = .ok (.aload_n 0, 1) := by decide +kernel
theorem d_Cop_bringByte_28 : decode mm_Cop_bringByte.2.1 28 = .ok (.iconst 5, 1) := by decide +kernel
theorem d_Cop_bringByte_29 : decode mm_Cop_bringByte.2.1 29 = .ok (.invokevirtual 79, 3) := by decide +kernel
theorem d_Cop_bringByte_32 : decode mm_Cop_bringByte.2.1 32 = .ok (.ireturn, 1) := by decide +kernel
theorem d_Cop_bringByte_33 : decode mm_Cop_bringByte.2.1 33 = .ok (.aload_n 0, 1) := by decide +kernel
theorem d_Cop_bringByte_34 : decode mm_Cop_bringByte.2.1 34 = .ok (.getfield 9, 3) := by decide +kernel
theorem d_Cop_bringByte_37 : decode mm_Cop_bringByte.2.1 37 = .ok (.getfield 102, 3) := by decide +kernel
theorem d_Cop_bringByte_40 : decode mm_Cop_bringByte.2.1 40 = .ok (.getfield 117, 3) := by decide +kernel
theorem d_Cop_bringByte_43 : decode mm_Cop_bringByte.2.1 43 = .ok (.getfield 121, 3) := by decide +kernel
theorem d_Cop_bringByte_46 : decode mm_Cop_bringByte.2.1 46 = .ok (.getfield 85, 3) := by decide +kernel
theorem d_Cop_bringByte_49 : decode mm_Cop_bringByte.2.1 49 = .ok (.istore_n 1, 1) := by decide +kernel
theorem d_Cop_bringByte_50 : decode mm_Cop_bringByte.2.1 50 = .ok (.iload_n 1, 1) := by decide +kernel
theorem d_Cop_bringByte_51 : decode mm_Cop_bringByte.2.1 51 = .ok (.aload_n 0, 1) := by decide +kernel
theorem d_Cop_bringByte_52 : decode mm_Cop_bringByte.2.1 52 = .ok (.getfield 15, 3) := by decide +kernel
theorem d_Cop_bringByte_55 : decode mm_Cop_bringByte.2.1 55 = .ok (.getfield 85, 3) := by decide +kernel
theorem d_Cop_bringByte_58 : decode mm_Cop_bringByte.2.1 58 = .ok (.if_icmp .ge 27, 3) := by decide +kernel
theorem d_Cop_bringByte_61 : decode mm_Cop_bringByte.2.1 61 = .ok (.aload_n 0, 1) := by decide +kernel
theorem d_Cop_bringByte_62 : decode mm_Cop_bringByte.2.1 62 = .ok (.getfield 9, 3) := by decide +kernel
theorem d_Cop_bringByte_65 : decode mm_Cop_bringByte.2.1 65 = .ok (.getfield 102, 3) := by decide +kernel
theorem d_Cop_bringByte_68 : decode mm_Cop_bringByte.2.1 68 = .ok (.aload_n 0, 1) := by decide +kernel
theorem d_Cop_bringByte_69 : decode mm_Cop_bringByte.2.1 69 = .ok (.getfield 15, 3) := by decide +kernel
theorem d_Cop_bringByte_72 : decode mm_Cop_bringByte.2.1 72 = .ok (.iload_n 1, 1) := by decide +kernel
theorem d_Cop_bringByte_73 : decode mm_Cop_bringByte.2.1 73 = .ok (.invokevirtual 126, 3) := by decide +kernel
theorem d_Cop_bringByte_76 : decode mm_Cop_bringByte.2.1 76 = .ok (.invokevirtual 129, 3) := by decide +kernel
theorem d_Cop_bringByte_79 : decode mm_Cop_bringByte.2.1 79 = .ok (.aload_n 0, 1) := by decide +kernel
theorem d_Cop_bringByte_80 : decode mm_Cop_bringByte.2.1 80 = .ok (.iconst 2, 1) := by decide +kernel
theorem d_Cop_bringByte_81 : decode mm_Cop_bringByte.2.1 81 = .ok (.invokevirtual 70, 3) := by decide +kernel
theorem d_Cop_bringByte_84 : decode mm_Cop_bringByte.2.1 84 = .ok (.ireturn, 1) := by decide +kernel
theorem d_Cop_bringByte_85 : decode mm_Cop_bringByte.2.1 85 = .ok (.aload_n 0, 1) := by decide +kernel
theorem d_Cop_bringByte_86 : decode mm_Cop_bringByte.2.1 86 = .ok (.getfield 9, 3) := by decide +kernel
theorem d_Cop_bringByte_89 : decode mm_Cop_bringByte.2.1 89 = .ok (.invokevirtual 132, 3) := by decide +kernel
theorem d_Cop_bringByte_92 : decode mm_Cop_bringByte.2.1 92 = .ok (.aload_n 0, 1) := by decide +kernel
theorem d_Cop_bringByte_93 : decode mm_Cop_bringByte.2.1 93 = .ok (.iconst 3, 1) := by decide +kernel
theorem d_Cop_bringByte_94 : decode mm_Cop_bringByte.2.1 94 = .ok (.invokevirtual 70, 3) := by decide +kernel
theorem d_Cop_bringByte_97 : decode mm_Cop_bringByte.2.1 97 = .ok (.ireturn, 1) := by decide +kernel
def wp_Cop_bringByte   (M : MzM) (K : Int32 → MzM → Prop) : Prop := ((¬ (mz_i M (16, 1) 1) = (2 : Int32) → wp_Cop_finish  (5 : Int32) M (fun v4 M1 => K v4 M1)) ∧ ((mz_i M (16, 1) 1) = (2 : Int32) → ((mz_r M (16, 1) 4 = none → wp_Cop_finish  (5 : Int32) M (fun v11 M8 => K v11 M8)) ∧ (∀ n5 : Nat, n5 < 16 → mz_r M (16, 1) 4 = some (3, n5) → ((mz_r M (16, 1) 4 = none → False) ∧ (∀ n12 : Nat, n12 < 16 → mz_r M (16, 1) 4 = some (3, n12) → ((mz_r M (22, 0) 1 = none → False) ∧ (∀ n15 : Nat, n15 < 3 → mz_r M (22, 0) 1 = some (20, n15) → (((mz_i M (20, n15) 1) ≤ (mz_i M (4, n12) 1) → wp_Ses_clientCloses 1  M (fun M18 => wp_Cop_goTo  (3 : Int32) M18 (fun v24 M21 => K v24 M21))) ∧ (¬ (mz_i M (20, n15) 1) ≤ (mz_i M (4, n12) 1) → ((mz_r M (22, 0) 1 = none → False) ∧ (∀ n25 : Nat, n25 < 3 → mz_r M (22, 0) 1 = some (20, n25) → wp_Row_ats n25 (mz_i M (4, n12) 1) M (fun v31 M28 => wp_Way_receiveByte 1 v31 M28 (fun M32 => wp_Cop_goTo  (2 : Int32) M32 (fun v38 M35 => K v38 M35)))) ∧ (mz_r M (22, 0) 1 = none ∨ ∃ n25 : Nat, n25 < 3 ∧ mz_r M (22, 0) 1 = some (20, n25)))))) ∧ (mz_r M (22, 0) 1 = none ∨ ∃ n15 : Nat, n15 < 3 ∧ mz_r M (22, 0) 1 = some (20, n15)))) ∧ (mz_r M (16, 1) 4 = none ∨ ∃ n12 : Nat, n12 < 16 ∧ mz_r M (16, 1) 4 = some (3, n12)))) ∧ (mz_r M (16, 1) 4 = none ∨ ∃ n5 : Nat, n5 < 16 ∧ mz_r M (16, 1) 4 = some (3, n5)))))
theorem tm_Cop_bringByte {G : MzG} {B : MzB} {d : Nat} {K : Int32 → MzM → Prop} (hF : mzLive B)    {M : MzM} (hL : mzLnk M) (h : wp_Cop_bringByte   M K) : MzC G B (d + 4) mm_Cop_bringByte [.ref (mz_ad B (22, 0))] M (0, 0) (mzK1 B K) := by
  unfold wp_Cop_bringByte at h
  exact MzC.of rfl (Nat.le_of_ble_eq_true rfl) (show MzS G B (d + 4) mm_Cop_bringByte M (0, 0) (mzK1 B K) 0 [(0, .ref (mz_ad B (22, 0)))] [] from (mz_aload_n d_Cop_bringByte_0 rfl (mz_getR (k := 0) (a := (8, 1)) cl_9 d_Cop_bringByte_1 (by decide) wf_Cop_9 rfl (hF 22 0 (by decide)) rfl (hL (22, 0) 0 (8, 1) rfl (by decide)) (mz_getRN (k := 5) (a := (16, 1)) cl_4 d_Cop_bringByte_4 (by decide) wf_Cop_102 rfl (hF 8 1 (by decide)) rfl (hL (8, 1) 5 (16, 1) rfl (by decide)) (mz_getIN (k := 1) cl_8 d_Cop_bringByte_7 (by decide) wf_Cop_106 rfl (hF 16 1 (by decide)) rfl (mz_iconst (2 : Int32) d_Cop_bringByte_10 (by decide) (mz_icmp_ne 27 d_Cop_bringByte_11 rfl (fun hc48 => (mz_aload_n d_Cop_bringByte_27 rfl (mz_iconst (5 : Int32) d_Cop_bringByte_28 (by decide) (mz_callV (As := [.int (5 : Int32)]) (st := []) (hF 22 0 (by decide)) rfl (mzClOf cl_9) 0 0 d_Cop_bringByte_29 cs_Cop_finish wl_Cop_79 wi_Cop_finish wse_Cop_finish (Nat.le_of_ble_eq_true rfl) (Nat.le_refl _) (Nat.le_refl _) (MzC.mono (tm_Cop_finish (d := (d + 3)) hF  hL (h.1 hc48)) (fun r9 B9 M1 hq3 => by obtain ⟨rfl, hL2, v4, rfl, hq3⟩ := hq3; exact ⟨_, rfl, (mz_iret .int d_Cop_bringByte_32 rfl rfl ⟨rfl, hL2, _, rfl, hq3⟩)⟩)))))) (fun hc48 => (mz_aload_n d_Cop_bringByte_14 rfl (mz_getR (k := 0) (a := (8, 1)) cl_9 d_Cop_bringByte_15 (by decide) wf_Cop_9 rfl (hF 22 0 (by decide)) rfl (hL (22, 0) 0 (8, 1) rfl (by decide)) (mz_getRN (k := 5) (a := (16, 1)) cl_4 d_Cop_bringByte_18 (by decide) wf_Cop_102 rfl (hF 8 1 (by decide)) rfl (hL (8, 1) 5 (16, 1) rfl (by decide)) (match (h.2 hc48) with | ⟨ha46, _, Or.inl he7⟩ => mz_getON (k := 4) cl_8 d_Cop_bringByte_21 (by decide) wf_Cop_117 rfl (hF 16 1 (by decide)) rfl he7 (mz_ifnonnullN d_Cop_bringByte_24 (mz_aload_n d_Cop_bringByte_27 rfl (mz_iconst (5 : Int32) d_Cop_bringByte_28 (by decide) (mz_callV (As := [.int (5 : Int32)]) (st := []) (hF 22 0 (by decide)) rfl (mzClOf cl_9) 0 0 d_Cop_bringByte_29 cs_Cop_finish wl_Cop_79 wi_Cop_finish wse_Cop_finish (Nat.le_of_ble_eq_true rfl) (Nat.le_refl _) (Nat.le_refl _) (MzC.mono (tm_Cop_finish (d := (d + 3)) hF  hL (ha46 he7)) (fun r9 B9 M8 hq10 => by obtain ⟨rfl, hL9, v11, rfl, hq10⟩ := hq10; exact ⟨_, rfl, (mz_iret .int d_Cop_bringByte_32 rfl rfl ⟨rfl, hL9, _, rfl, hq10⟩)⟩)))))) | ⟨_, hb47, Or.inr ⟨n5, hn6, he7⟩⟩ => mz_getRN (k := 4) cl_8 d_Cop_bringByte_21 (by decide) wf_Cop_117 rfl (hF 16 1 (by decide)) rfl he7 (mz_ifnonnull 33 d_Cop_bringByte_24 rfl (mz_aload_n d_Cop_bringByte_33 rfl (mz_getR (k := 0) (a := (8, 1)) cl_9 d_Cop_bringByte_34 (by decide) wf_Cop_9 rfl (hF 22 0 (by decide)) rfl (hL (22, 0) 0 (8, 1) rfl (by decide)) (mz_getRN (k := 5) (a := (16, 1)) cl_4 d_Cop_bringByte_37 (by decide) wf_Cop_102 rfl (hF 8 1 (by decide)) rfl (hL (8, 1) 5 (16, 1) rfl (by decide)) (match (hb47 n5 hn6 he7) with | ⟨ha44, _, Or.inl he14⟩ => mz_getON (k := 4) cl_8 d_Cop_bringByte_40 (by decide) wf_Cop_117 rfl (hF 16 1 (by decide)) rfl he14 (False.elim (ha44 he14)) | ⟨_, hb45, Or.inr ⟨n12, hn13, he14⟩⟩ => mz_getRN (k := 4) cl_8 d_Cop_bringByte_40 (by decide) wf_Cop_117 rfl (hF 16 1 (by decide)) rfl he14 (mz_getRN (k := 0) (a := (4, n12)) cl_2 d_Cop_bringByte_43 (by decide) wf_Cop_121 rfl (hF 3 n12 hn13) rfl (hL (3, n12) 0 (4, n12) rfl hn13) (mz_getIN (k := 1) cl_3 d_Cop_bringByte_46 (by decide) wf_Cop_85 rfl (hF 4 n12 hn13) rfl (mz_istore_n d_Cop_bringByte_49 (by decide) (mz_iload_n d_Cop_bringByte_50 rfl (mz_aload_n d_Cop_bringByte_51 rfl (match (hb45 n12 hn13 he14) with | ⟨ha42, _, Or.inl he17⟩ => mz_getO (k := 1) cl_9 d_Cop_bringByte_52 (by decide) wf_Cop_15 rfl (hF 22 0 (by decide)) rfl he17 (False.elim (ha42 he17)) | ⟨_, hb43, Or.inr ⟨n15, hn16, he17⟩⟩ => mz_getR (k := 1) cl_9 d_Cop_bringByte_52 (by decide) wf_Cop_15 rfl (hF 22 0 (by decide)) rfl he17 (mz_getIN (k := 1) cl_3 d_Cop_bringByte_55 (by decide) wf_Cop_85 rfl (hF 20 n15 hn16) rfl (mz_icmp_ge 85 d_Cop_bringByte_58 rfl (fun hc41 => (mz_aload_n d_Cop_bringByte_85 rfl (mz_getR (k := 0) (a := (8, 1)) cl_9 d_Cop_bringByte_86 (by decide) wf_Cop_9 rfl (hF 22 0 (by decide)) rfl (hL (22, 0) 0 (8, 1) rfl (by decide)) (mz_callV (As := []) (st := []) (hF 8 1 (by decide)) rfl (mzClOf cl_4) 0 0 d_Cop_bringByte_89 cs_Ses_clientCloses wl_Cop_132 wi_Ses_clientCloses wse_Ses_clientCloses (Nat.le_of_ble_eq_true rfl) (Nat.le_refl _) (Nat.le_refl _) (MzC.mono (tm_Ses_clientCloses (d := d) hF (by decide) hL ((hb43 n15 hn16 he17).1 hc41)) (fun r9 B9 M18 hq20 => by obtain ⟨rfl, hL19, rfl, hq20⟩ := hq20; exact ⟨none, rfl, (mz_aload_n d_Cop_bringByte_92 rfl (mz_iconst (3 : Int32) d_Cop_bringByte_93 (by decide) (mz_callV (As := [.int (3 : Int32)]) (st := []) (hF 22 0 (by decide)) rfl (mzClOf cl_9) 0 0 d_Cop_bringByte_94 cs_Cop_goTo wl_Cop_70 wi_Cop_goTo wse_Cop_goTo (Nat.le_of_ble_eq_true rfl) (Nat.le_refl _) (Nat.le_refl _) (MzC.mono (tm_Cop_goTo (d := (d + 3)) hF  hL19 hq20) (fun r9 B9 M21 hq23 => by obtain ⟨rfl, hL22, v24, rfl, hq23⟩ := hq23; exact ⟨_, rfl, (mz_iret .int d_Cop_bringByte_97 rfl rfl ⟨rfl, hL22, _, rfl, hq23⟩)⟩)))))⟩)))))) (fun hc41 => (mz_aload_n d_Cop_bringByte_61 rfl (mz_getR (k := 0) (a := (8, 1)) cl_9 d_Cop_bringByte_62 (by decide) wf_Cop_9 rfl (hF 22 0 (by decide)) rfl (hL (22, 0) 0 (8, 1) rfl (by decide)) (mz_getRN (k := 5) (a := (16, 1)) cl_4 d_Cop_bringByte_65 (by decide) wf_Cop_102 rfl (hF 8 1 (by decide)) rfl (hL (8, 1) 5 (16, 1) rfl (by decide)) (mz_aload_n d_Cop_bringByte_68 rfl (match ((hb43 n15 hn16 he17).2 hc41) with | ⟨ha39, _, Or.inl he27⟩ => mz_getO (k := 1) cl_9 d_Cop_bringByte_69 (by decide) wf_Cop_15 rfl (hF 22 0 (by decide)) rfl he27 (mz_iload_n d_Cop_bringByte_72 rfl (False.elim (ha39 he27))) | ⟨_, hb40, Or.inr ⟨n25, hn26, he27⟩⟩ => mz_getR (k := 1) cl_9 d_Cop_bringByte_69 (by decide) wf_Cop_15 rfl (hF 22 0 (by decide)) rfl he27 (mz_iload_n d_Cop_bringByte_72 rfl (mz_callV (As := [.int (mz_i M (4, n12) 1)]) (st := [.ref (mz_ad B (16, 1))]) (hF 20 n25 hn26) rfl (mzClOf cl_3) 0 0 d_Cop_bringByte_73 cs_Row_at wl_Cop_126 wi_Row_at wse_Row_at (Nat.le_of_ble_eq_true rfl) (Nat.le_refl _) (Nat.le_refl _) (MzC.mono (tm_Row_ats (d := (d + 3)) hF hn26 hL (hb40 n25 hn26 he27)) (fun r9 B9 M28 hq30 => by obtain ⟨rfl, hL29, v31, rfl, hq30⟩ := hq30; exact ⟨_, rfl, (mz_callV (As := [.int v31]) (st := []) (hF 16 1 (by decide)) rfl (mzClOf cl_8) 0 0 d_Cop_bringByte_76 cs_Way_receiveByte wl_Cop_129 wi_Way_receiveByte wse_Way_receiveByte (Nat.le_of_ble_eq_true rfl) (Nat.le_refl _) (Nat.le_refl _) (MzC.mono (tm_Way_receiveByte (d := (d + 2)) hF (by decide) hL29 hq30) (fun r9 B9 M32 hq34 => by obtain ⟨rfl, hL33, rfl, hq34⟩ := hq34; exact ⟨none, rfl, (mz_aload_n d_Cop_bringByte_79 rfl (mz_iconst (2 : Int32) d_Cop_bringByte_80 (by decide) (mz_callV (As := [.int (2 : Int32)]) (st := []) (hF 22 0 (by decide)) rfl (mzClOf cl_9) 0 0 d_Cop_bringByte_81 cs_Cop_goTo wl_Cop_70 wi_Cop_goTo wse_Cop_goTo (Nat.le_of_ble_eq_true rfl) (Nat.le_refl _) (Nat.le_refl _) (MzC.mono (tm_Cop_goTo (d := (d + 3)) hF  hL33 hq34) (fun r9 B9 M35 hq37 => by obtain ⟨rfl, hL36, v38, rfl, hq37⟩ := hq37; exact ⟨_, rfl, (mz_iret .int d_Cop_bringByte_84 rfl rfl ⟨rfl, hL36, _, rfl, hq37⟩)⟩)))))⟩)))⟩)))))))))))))))))))))))))))))))))))
def mm_Cop_fetchByte : MzT := (⟨"ParcelLine$Copier", "fetchByte", "()I"⟩, prog_5_method_11_code, 1, (Option.some Jvm.ClassFile.FieldType.int))
theorem cs_Cop_fetchByte {mm : MzT} : mzCall mm mm_Cop_fetchByte 0 := ⟨wn_Cop, wco_Cop_fetchByte, by decide +kernel, by decide⟩
theorem d_Cop_fetchByte_0 : decode mm_Cop_fetchByte.2.1 0 = .ok (.aload_n 0, 1) := by decide +kernel
theorem d_Cop_fetchByte_1 : decode mm_Cop_fetchByte.2.1 1 = .ok (.getfield 9, 3) := by decide +kernel
theorem d_Cop_fetchByte_4 : decode mm_Cop_fetchByte.2.1 4 = .ok (.getfield 102, 3) := by decide +kernel
theorem d_Cop_fetchByte_7 : decode mm_Cop_fetchByte.2.1 7 = .ok (.getfield 106, 3) := by decide +kernel
theorem d_Cop_fetchByte_10 : decode mm_Cop_fetchByte.2.1 10 = .ok (.iconst 1, 1) := by decide +kernel
theorem d_Cop_fetchByte_11 : decode mm_Cop_fetchByte.2.1 11 = .ok (.if_icmp .ne 23, 3) := by decide +kernel
theorem d_Cop_fetchByte_14 : decode mm_Cop_fetchByte.2.1 14 = .ok (.aload_n 0, 1) := by decide +kernel
theorem d_Cop_fetchByte_15 : decode mm_Cop_fetchByte.2.1 15 = .ok (.getfield 15, 3) := by decide +kernel
theorem d_Cop_fetchByte_18 : decode mm_Cop_fetchByte.2.1 18 = .ok (.aload_n 0, 1) := by decide +kernel
theorem d_Cop_fetchByte_19 : decode mm_Cop_fetchByte.2.1 19 = .ok (.getfield 9, 3) := by decide +kernel
theorem d_Cop_fetchByte_22 : decode mm_Cop_fetchByte.2.1 22 = .ok (.invokevirtual 111, 3) := by decide +kernel
theorem d_Cop_fetchByte_25 : decode mm_Cop_fetchByte.2.1 25 = .ok (.invokevirtual 114, 3) := by decide +kernel
theorem d_Cop_fetchByte_28 : decode mm_Cop_fetchByte.2.1 28 = .ok (.aload_n 0, 1) := by decide +kernel
theorem d_Cop_fetchByte_29 : decode mm_Cop_fetchByte.2.1 29 = .ok (.iconst 2, 1) := by decide +kernel
theorem d_Cop_fetchByte_30 : decode mm_Cop_fetchByte.2.1 30 = .ok (.invokevirtual 70, 3) := by decide +kernel
theorem d_Cop_fetchByte_33 : decode mm_Cop_fetchByte.2.1 33 = .ok (.ireturn, 1) := by decide +kernel
theorem d_Cop_fetchByte_34 : decode mm_Cop_fetchByte.2.1 34 = .ok (.aload_n 0, 1) := by decide +kernel
theorem d_Cop_fetchByte_35 : decode mm_Cop_fetchByte.2.1 35 = .ok (.aload_n 0, 1) := by decide +kernel
theorem d_Cop_fetchByte_36 : decode mm_Cop_fetchByte.2.1 36 = .ok (.getfield 15, 3) := by decide +kernel
theorem d_Cop_fetchByte_39 : decode mm_Cop_fetchByte.2.1 39 = .ok (.getfield 85, 3) := by decide +kernel
theorem d_Cop_fetchByte_42 : decode mm_Cop_fetchByte.2.1 42 = .ok (.aload_n 0, 1) := by decide +kernel
theorem d_Cop_fetchByte_43 : decode mm_Cop_fetchByte.2.1 43 = .ok (.getfield 39, 3) := by decide +kernel
theorem d_Cop_fetchByte_46 : decode mm_Cop_fetchByte.2.1 46 = .ok (.if_icmp .ne 7, 3) := by decide +kernel
theorem d_Cop_fetchByte_49 : decode mm_Cop_fetchByte.2.1 49 = .ok (.iconst 4, 1) := by decide +kernel
theorem d_Cop_fetchByte_50 : decode mm_Cop_fetchByte.2.1 50 = .ok (.goto 4, 3) := by decide +kernel
theorem d_Cop_fetchByte_53 : decode mm_Cop_fetchByte.2.1 53 = .ok (.iconst 5, 1) := by decide +kernel
theorem d_Cop_fetchByte_54 : decode mm_Cop_fetchByte.2.1 54 = .ok (.invokevirtual 79, 3) := by decide +kernel
theorem d_Cop_fetchByte_57 : decode mm_Cop_fetchByte.2.1 57 = .ok (.ireturn, 1) := by decide +kernel
def wp_Cop_fetchByte   (M : MzM) (K : Int32 → MzM → Prop) : Prop := ((¬ (mz_i M (16, 1) 1) = (1 : Int32) → ((mz_r M (22, 0) 1 = none → False) ∧ (∀ n1 : Nat, n1 < 3 → mz_r M (22, 0) 1 = some (20, n1) → ((¬ (mz_i M (20, n1) 1) = (mz_i M (22, 0) 8) → wp_Cop_finish  (5 : Int32) M (fun v7 M4 => K v7 M4)) ∧ ((mz_i M (20, n1) 1) = (mz_i M (22, 0) 8) → wp_Cop_finish  (4 : Int32) M (fun v11 M8 => K v11 M8)))) ∧ (mz_r M (22, 0) 1 = none ∨ ∃ n1 : Nat, n1 < 3 ∧ mz_r M (22, 0) 1 = some (20, n1)))) ∧ ((mz_i M (16, 1) 1) = (1 : Int32) → ((mz_r M (22, 0) 1 = none → wp_Ses_sendByte 1  M (fun v21 M18 => False)) ∧ (∀ n15 : Nat, n15 < 3 → mz_r M (22, 0) 1 = some (20, n15) → wp_Ses_sendByte 1  M (fun v25 M22 => wp_Row_adds n15 v25 M22 (fun M26 => wp_Cop_goTo  (2 : Int32) M26 (fun v32 M29 => K v32 M29)))) ∧ (mz_r M (22, 0) 1 = none ∨ ∃ n15 : Nat, n15 < 3 ∧ mz_r M (22, 0) 1 = some (20, n15)))))
theorem tm_Cop_fetchByte {G : MzG} {B : MzB} {d : Nat} {K : Int32 → MzM → Prop} (hF : mzLive B)    {M : MzM} (hL : mzLnk M) (h : wp_Cop_fetchByte   M K) : MzC G B (d + 5) mm_Cop_fetchByte [.ref (mz_ad B (22, 0))] M (0, 0) (mzK1 B K) := by
  unfold wp_Cop_fetchByte at h
  exact MzC.of rfl (Nat.le_of_ble_eq_true rfl) (show MzS G B (d + 5) mm_Cop_fetchByte M (0, 0) (mzK1 B K) 0 [(0, .ref (mz_ad B (22, 0)))] [] from (mz_aload_n d_Cop_fetchByte_0 rfl (mz_getR (k := 0) (a := (8, 1)) cl_9 d_Cop_fetchByte_1 (by decide) wf_Cop_9 rfl (hF 22 0 (by decide)) rfl (hL (22, 0) 0 (8, 1) rfl (by decide)) (mz_getRN (k := 5) (a := (16, 1)) cl_4 d_Cop_fetchByte_4 (by decide) wf_Cop_102 rfl (hF 8 1 (by decide)) rfl (hL (8, 1) 5 (16, 1) rfl (by decide)) (mz_getIN (k := 1) cl_8 d_Cop_fetchByte_7 (by decide) wf_Cop_106 rfl (hF 16 1 (by decide)) rfl (mz_iconst (1 : Int32) d_Cop_fetchByte_10 (by decide) (mz_icmp_ne 34 d_Cop_fetchByte_11 rfl (fun hc35 => (mz_aload_n d_Cop_fetchByte_34 rfl (mz_aload_n d_Cop_fetchByte_35 rfl (match (h.1 hc35) with | ⟨ha13, _, Or.inl he3⟩ => mz_getO (k := 1) cl_9 d_Cop_fetchByte_36 (by decide) wf_Cop_15 rfl (hF 22 0 (by decide)) rfl he3 (False.elim (ha13 he3)) | ⟨_, hb14, Or.inr ⟨n1, hn2, he3⟩⟩ => mz_getR (k := 1) cl_9 d_Cop_fetchByte_36 (by decide) wf_Cop_15 rfl (hF 22 0 (by decide)) rfl he3 (mz_getIN (k := 1) cl_3 d_Cop_fetchByte_39 (by decide) wf_Cop_85 rfl (hF 20 n1 hn2) rfl (mz_aload_n d_Cop_fetchByte_42 rfl (mz_getI (k := 8) cl_9 d_Cop_fetchByte_43 (by decide) wf_Cop_39 rfl (hF 22 0 (by decide)) rfl (mz_icmp_ne 53 d_Cop_fetchByte_46 rfl (fun hc12 => (mz_iconst (5 : Int32) d_Cop_fetchByte_53 (by decide) (mz_callV (As := [.int (5 : Int32)]) (st := []) (hF 22 0 (by decide)) rfl (mzClOf cl_9) 0 0 d_Cop_fetchByte_54 cs_Cop_finish wl_Cop_79 wi_Cop_finish wse_Cop_finish (Nat.le_of_ble_eq_true rfl) (Nat.le_refl _) (Nat.le_refl _) (MzC.mono (tm_Cop_finish (d := (d + 4)) hF  hL ((hb14 n1 hn2 he3).1 hc12)) (fun r9 B9 M4 hq6 => by obtain ⟨rfl, hL5, v7, rfl, hq6⟩ := hq6; exact ⟨_, rfl, (mz_iret .int d_Cop_fetchByte_57 rfl rfl ⟨rfl, hL5, _, rfl, hq6⟩)⟩))))) (fun hc12 => (mz_iconst (4 : Int32) d_Cop_fetchByte_49 (by decide) (mz_goto 54 d_Cop_fetchByte_50 rfl (mz_callV (As := [.int (4 : Int32)]) (st := []) (hF 22 0 (by decide)) rfl (mzClOf cl_9) 0 0 d_Cop_fetchByte_54 cs_Cop_finish wl_Cop_79 wi_Cop_finish wse_Cop_finish (Nat.le_of_ble_eq_true rfl) (Nat.le_refl _) (Nat.le_refl _) (MzC.mono (tm_Cop_finish (d := (d + 4)) hF  hL ((hb14 n1 hn2 he3).2 hc12)) (fun r9 B9 M8 hq10 => by obtain ⟨rfl, hL9, v11, rfl, hq10⟩ := hq10; exact ⟨_, rfl, (mz_iret .int d_Cop_fetchByte_57 rfl rfl ⟨rfl, hL9, _, rfl, hq10⟩)⟩)))))))))))))) (fun hc35 => (mz_aload_n d_Cop_fetchByte_14 rfl (match (h.2 hc35) with | ⟨ha33, _, Or.inl he17⟩ => mz_getO (k := 1) cl_9 d_Cop_fetchByte_15 (by decide) wf_Cop_15 rfl (hF 22 0 (by decide)) rfl he17 (mz_aload_n d_Cop_fetchByte_18 rfl (mz_getR (k := 0) (a := (8, 1)) cl_9 d_Cop_fetchByte_19 (by decide) wf_Cop_9 rfl (hF 22 0 (by decide)) rfl (hL (22, 0) 0 (8, 1) rfl (by decide)) (mz_callV (As := []) (st := [.null]) (hF 8 1 (by decide)) rfl (mzClOf cl_4) 0 0 d_Cop_fetchByte_22 cs_Ses_sendByte wl_Cop_111 wi_Ses_sendByte wse_Ses_sendByte (Nat.le_of_ble_eq_true rfl) (Nat.le_refl _) (Nat.le_refl _) (MzC.mono (tm_Ses_sendByte (d := d) hF (by decide) hL (ha33 he17)) (fun r9 B9 M18 hq20 => by obtain ⟨rfl, hL19, v21, rfl, hq20⟩ := hq20; exact ⟨_, rfl, (False.elim hq20)⟩))))) | ⟨_, hb34, Or.inr ⟨n15, hn16, he17⟩⟩ => mz_getR (k := 1) cl_9 d_Cop_fetchByte_15 (by decide) wf_Cop_15 rfl (hF 22 0 (by decide)) rfl he17 (mz_aload_n d_Cop_fetchByte_18 rfl (mz_getR (k := 0) (a := (8, 1)) cl_9 d_Cop_fetchByte_19 (by decide) wf_Cop_9 rfl (hF 22 0 (by decide)) rfl (hL (22, 0) 0 (8, 1) rfl (by decide)) (mz_callV (As := []) (st := [.ref (mz_ad B (20, n15))]) (hF 8 1 (by decide)) rfl (mzClOf cl_4) 0 0 d_Cop_fetchByte_22 cs_Ses_sendByte wl_Cop_111 wi_Ses_sendByte wse_Ses_sendByte (Nat.le_of_ble_eq_true rfl) (Nat.le_refl _) (Nat.le_refl _) (MzC.mono (tm_Ses_sendByte (d := d) hF (by decide) hL (hb34 n15 hn16 he17)) (fun r9 B9 M22 hq24 => by obtain ⟨rfl, hL23, v25, rfl, hq24⟩ := hq24; exact ⟨_, rfl, (mz_callV (As := [.int v25]) (st := []) (hF 20 n15 hn16) rfl (mzClOf cl_3) 0 0 d_Cop_fetchByte_25 cs_Row_add wl_Cop_114 wi_Row_add wse_Row_add (Nat.le_of_ble_eq_true rfl) (Nat.le_refl _) (Nat.le_refl _) (MzC.mono (tm_Row_adds (d := (d + 4)) hF hn16 hL23 hq24) (fun r9 B9 M26 hq28 => by obtain ⟨rfl, hL27, rfl, hq28⟩ := hq28; exact ⟨none, rfl, (mz_aload_n d_Cop_fetchByte_28 rfl (mz_iconst (2 : Int32) d_Cop_fetchByte_29 (by decide) (mz_callV (As := [.int (2 : Int32)]) (st := []) (hF 22 0 (by decide)) rfl (mzClOf cl_9) 0 0 d_Cop_fetchByte_30 cs_Cop_goTo wl_Cop_70 wi_Cop_goTo wse_Cop_goTo (Nat.le_of_ble_eq_true rfl) (Nat.le_refl _) (Nat.le_refl _) (MzC.mono (tm_Cop_goTo (d := (d + 4)) hF  hL27 hq28) (fun r9 B9 M29 hq31 => by obtain ⟨rfl, hL30, v32, rfl, hq31⟩ := hq31; exact ⟨_, rfl, (mz_iret .int d_Cop_fetchByte_33 rfl rfl ⟨rfl, hL30, _, rfl, hq31⟩)⟩)))))⟩)))⟩)))))))))))))))
def mm_Mo_keep : MzT := (⟨"ParcelLineModel", "keep", "(II)V"⟩, prog_14_method_6_code, 3, (Option.none : Option Jvm.ClassFile.FieldType))
theorem cs_Mo_keep {mm : MzT} : mzCall mm mm_Mo_keep 2 := ⟨wn_Mo, wco_Mo_keep, by decide +kernel, by decide⟩
theorem d_Mo_keep_0 : decode mm_Mo_keep.2.1 0 = .ok (.aload_n 0, 1) := by decide +kernel
theorem d_Mo_keep_1 : decode mm_Mo_keep.2.1 1 = .ok (.getfield 47, 3) := by decide +kernel
theorem d_Mo_keep_4 : decode mm_Mo_keep.2.1 4 = .ok (.iload_n 1, 1) := by decide +kernel
theorem d_Mo_keep_5 : decode mm_Mo_keep.2.1 5 = .ok (.iaload, 1) := by decide +kernel
theorem d_Mo_keep_6 : decode mm_Mo_keep.2.1 6 = .ok (.bipush 24, 2) := by decide +kernel
theorem d_Mo_keep_8 : decode mm_Mo_keep.2.1 8 = .ok (.if_icmp .ne 4, 3) := by decide +kernel
theorem d_Mo_keep_11 : decode mm_Mo_keep.2.1 11 = .ok (.return_, 1) := by decide +kernel
theorem d_Mo_keep_12 : decode mm_Mo_keep.2.1 12 = .ok (.aload_n 0, 1) := by decide +kernel
theorem d_Mo_keep_13 : decode mm_Mo_keep.2.1 13 = .ok (.getfield 53, 3) := by decide +kernel
theorem d_Mo_keep_16 : decode mm_Mo_keep.2.1 16 = .ok (.bipush 24, 2) := by decide +kernel
theorem d_Mo_keep_18 : decode mm_Mo_keep.2.1 18 = .ok (.iload_n 1, 1) := by decide +kernel
theorem d_Mo_keep_19 : decode mm_Mo_keep.2.1 19 = .ok (.imul, 1) := by decide +kernel
theorem d_Mo_keep_20 : decode mm_Mo_keep.2.1 20 = .ok (.aload_n 0, 1) := by decide +kernel
theorem d_Mo_keep_21 : decode mm_Mo_keep.2.1 21 = .ok (.getfield 47, 3) := by decide +kernel
theorem d_Mo_keep_24 : decode mm_Mo_keep.2.1 24 = .ok (.iload_n 1, 1) := by decide +kernel
theorem d_Mo_keep_25 : decode mm_Mo_keep.2.1 25 = .ok (.iaload, 1) := by decide +kernel
theorem d_Mo_keep_26 : decode mm_Mo_keep.2.1 26 = .ok (.iadd, 1) := by decide +kernel
theorem d_Mo_keep_27 : decode mm_Mo_keep.2.1 27 = .ok (.iload_n 2, 1) := by decide +kernel
theorem d_Mo_keep_28 : decode mm_Mo_keep.2.1 28 = .ok (.iastore, 1) := by decide +kernel
theorem d_Mo_keep_29 : decode mm_Mo_keep.2.1 29 = .ok (.aload_n 0, 1) := by decide +kernel
theorem d_Mo_keep_30 : decode mm_Mo_keep.2.1 30 = .ok (.getfield 47, 3) := by decide +kernel
theorem d_Mo_keep_33 : decode mm_Mo_keep.2.1 33 = .ok (.iload_n 1, 1) := by decide +kernel
theorem d_Mo_keep_34 : decode mm_Mo_keep.2.1 34 = .ok (.dup2, 1) := by decide +kernel
theorem d_Mo_keep_35 : decode mm_Mo_keep.2.1 35 = .ok (.iaload, 1) := by decide +kernel
theorem d_Mo_keep_36 : decode mm_Mo_keep.2.1 36 = .ok (.iconst 1, 1) := by decide +kernel
theorem d_Mo_keep_37 : decode mm_Mo_keep.2.1 37 = .ok (.iadd, 1) := by decide +kernel
theorem d_Mo_keep_38 : decode mm_Mo_keep.2.1 38 = .ok (.iastore, 1) := by decide +kernel
theorem d_Mo_keep_39 : decode mm_Mo_keep.2.1 39 = .ok (.return_, 1) := by decide +kernel
def wp_Mo_keep  (a1 : Int32) (a2 : Int32) (M : MzM) (K : MzM → Prop) : Prop := (∃ j1 : Nat, a1.toInt = (j1 : Int) ∧ j1 < 16 ∧ ((¬ (mz_i M (36, 0) j1) = (24 : Int32) → (∃ j5 : Nat, a1.toInt = (j5 : Int) ∧ j5 < 16 ∧ (∃ j12 : Nat, (((24 : Int32) * a1) + (mz_i M (36, 0) j5)).toInt = (j12 : Int) ∧ j12 < 384 ∧ ∀ M9 : MzM, M9 = mz_si M (38, 0) j12 a2 → (∃ j15 : Nat, a1.toInt = (j15 : Int) ∧ j15 < 16 ∧ (∃ j22 : Nat, a1.toInt = (j22 : Int) ∧ j22 < 16 ∧ ∀ M19 : MzM, M19 = mz_si M9 (36, 0) j22 ((mz_i M9 (36, 0) j15) + (1 : Int32)) → K M19))))) ∧ ((mz_i M (36, 0) j1) = (24 : Int32) → K M)))
theorem tm_Mo_keep {G : MzG} {B : MzB} {d : Nat} {K : MzM → Prop} (hF : mzLive B)   {a1 : Int32} {a2 : Int32} {M : MzM} (hL : mzLnk M) (h : wp_Mo_keep  a1 a2 M K) : MzC G B d mm_Mo_keep [.ref (mz_ad B (30, 0)), .int a1, .int a2] M (0, 0) (mzK0 B K) := by
  unfold wp_Mo_keep at h
  exact MzC.of rfl (Nat.le_of_ble_eq_true rfl) (show MzS G B d mm_Mo_keep M (0, 0) (mzK0 B K) 0 [(0, .ref (mz_ad B (30, 0))), (1, .int a1), (2, .int a2)] [] from (mz_aload_n d_Mo_keep_0 rfl (mz_getR (k := 6) (a := (36, 0)) cl_10 d_Mo_keep_1 (by decide) wf_Mo_47 rfl (hF 30 0 (by decide)) rfl (hL (30, 0) 6 (36, 0) rfl (by decide)) (mz_iload_n d_Mo_keep_4 rfl (match h with | ⟨j1, h2, h3, h4⟩ => mz_iald j1 d_Mo_keep_5 (hF 36 0 (by decide)) rfl h2 h3 (mz_bipush (24 : Int32) d_Mo_keep_6 (by decide) (mz_icmp_ne 12 d_Mo_keep_8 rfl (fun hc25 => (mz_aload_n d_Mo_keep_12 rfl (mz_getR (k := 8) (a := (38, 0)) cl_10 d_Mo_keep_13 (by decide) wf_Mo_53 rfl (hF 30 0 (by decide)) rfl (hL (30, 0) 8 (38, 0) rfl (by decide)) (mz_bipush (24 : Int32) d_Mo_keep_16 (by decide) (mz_iload_n d_Mo_keep_18 rfl (mz_imul d_Mo_keep_19 (mz_aload_n d_Mo_keep_20 rfl (mz_getR (k := 6) (a := (36, 0)) cl_10 d_Mo_keep_21 (by decide) wf_Mo_47 rfl (hF 30 0 (by decide)) rfl (hL (30, 0) 6 (36, 0) rfl (by decide)) (mz_iload_n d_Mo_keep_24 rfl (match (h4.1 hc25) with | ⟨j5, h6, h7, h8⟩ => mz_iald j5 d_Mo_keep_25 (hF 36 0 (by decide)) rfl h6 h7 (mz_iadd d_Mo_keep_26 (mz_iload_n d_Mo_keep_27 rfl (match h8 with | ⟨j12, h13, h14, h11⟩ => mz_iast j12 d_Mo_keep_28 (hF 38 0 (by decide)) rfl h13 h14 (let M9 : MzM := mz_si M (38, 0) j12 a2; (mz_aload_n d_Mo_keep_29 rfl (mz_getR (k := 6) (a := (36, 0)) cl_10 d_Mo_keep_30 (by decide) wf_Mo_47 rfl (hF 30 0 (by decide)) rfl (hL (30, 0) 6 (36, 0) rfl (by decide)) (mz_iload_n d_Mo_keep_33 rfl (mz_dup2 d_Mo_keep_34 rfl rfl (match (h11 M9 rfl) with | ⟨j15, h16, h17, h18⟩ => mz_iald j15 d_Mo_keep_35 (hF 36 0 (by decide)) rfl h16 h17 (mz_iconst (1 : Int32) d_Mo_keep_36 (by decide) (mz_iadd d_Mo_keep_37 (match h18 with | ⟨j22, h23, h24, h21⟩ => mz_iast j22 d_Mo_keep_38 (hF 36 0 (by decide)) rfl h23 h24 (let M19 : MzM := mz_si M9 (36, 0) j22 ((mz_i M9 (36, 0) j15) + (1 : Int32)); (mz_vret d_Mo_keep_39 rfl ⟨rfl, hL, rfl, (h21 M19 rfl)⟩)))))))))))))))))))))))) (fun hc25 => (mz_vret d_Mo_keep_11 rfl ⟨rfl, hL, rfl, (h4.2 hc25)⟩)))))))))
