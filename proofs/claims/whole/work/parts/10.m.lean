def mm_Node_isIn : MzT := (⟨"ParcelLine$Node", "isIn", "(I)Z"⟩, prog_8_method_2_code, 2, (Option.some Jvm.ClassFile.FieldType.boolean))
theorem cs_Node_isIn {mm : MzT} : mzCall mm mm_Node_isIn 1 := ⟨wn_Node, wco_Node_isIn, by decide +kernel, by decide⟩
theorem d_Node_isIn_0 : decode mm_Node_isIn.2.1 0 = .ok (.aload_n 0, 1) := by decide +kernel
theorem d_Node_isIn_1 : decode mm_Node_isIn.2.1 1 = .ok (.getfield 18, 3) := by decide +kernel
theorem d_Node_isIn_4 : decode mm_Node_isIn.2.1 4 = .ok (.ifCond .eq 15, 3) := by decide +kernel
theorem d_Node_isIn_7 : decode mm_Node_isIn.2.1 7 = .ok (.aload_n 0, 1) := by decide +kernel
theorem d_Node_isIn_8 : decode mm_Node_isIn.2.1 8 = .ok (.getfield 22, 3) := by decide +kernel
theorem d_Node_isIn_11 : decode mm_Node_isIn.2.1 11 = .ok (.iload_n 1, 1) := by decide +kernel
theorem d_Node_isIn_12 : decode mm_Node_isIn.2.1 12 = .ok (.if_icmp .ne 7, 3) := by decide +kernel
theorem d_Node_isIn_15 : decode mm_Node_isIn.2.1 15 = .ok (.iconst 1, 1) := by decide +kernel
theorem d_Node_isIn_16 : decode mm_Node_isIn.2.1 16 = .ok (.goto 4, 3) := by decide +kernel
theorem d_Node_isIn_19 : decode mm_Node_isIn.2.1 19 = .ok (.iconst 0, 1) := by decide +kernel
theorem d_Node_isIn_20 : decode mm_Node_isIn.2.1 20 = .ok (.ireturn, 1) := by decide +kernel
def wp_Node_isIn (n : Nat) (a1 : Int32) (M : MzM) (K : Int32 → MzM → Prop) : Prop := (((mz_i M (3, n) 1) = 0 → K (0 : Int32) M) ∧ (¬ (mz_i M (3, n) 1) = 0 → ((¬ (mz_i M (3, n) 2) = a1 → K (0 : Int32) M) ∧ ((mz_i M (3, n) 2) = a1 → K (1 : Int32) M))))
theorem tm_Node_isIn {G : MzG} {B : MzB} {d : Nat} {K : Int32 → MzM → Prop} (hF : mzLive B) {n : Nat} (hn : n < 16) {a1 : Int32} {M : MzM} (hL : mzLnk M) (h : wp_Node_isIn n a1 M K) : MzC G B d mm_Node_isIn [.ref (mz_ad B (3, n)), .int a1] M (0, 0) (mzK1 B K) := by
  unfold wp_Node_isIn at h
  exact MzC.of rfl (Nat.le_of_ble_eq_true rfl) (show MzS G B d mm_Node_isIn M (0, 0) (mzK1 B K) 0 [(0, .ref (mz_ad B (3, n))), (1, .int a1)] [] from (mz_aload_n d_Node_isIn_0 rfl (mz_getI (k := 1) cl_2 d_Node_isIn_1 (by decide) wf_Node_18 rfl (hF 3 n hn) rfl (mz_if_eq 19 d_Node_isIn_4 rfl (fun hc2 => (mz_iconst (0 : Int32) d_Node_isIn_19 (by decide) (mz_iret .boolean d_Node_isIn_20 rfl rfl ⟨rfl, hL, _, rfl, (h.1 hc2)⟩))) (fun hc2 => (mz_aload_n d_Node_isIn_7 rfl (mz_getI (k := 2) cl_2 d_Node_isIn_8 (by decide) wf_Node_22 rfl (hF 3 n hn) rfl (mz_iload_n d_Node_isIn_11 rfl (mz_icmp_ne 19 d_Node_isIn_12 rfl (fun hc1 => (mz_iconst (0 : Int32) d_Node_isIn_19 (by decide) (mz_iret .boolean d_Node_isIn_20 rfl rfl ⟨rfl, hL, _, rfl, ((h.2 hc2).1 hc1)⟩))) (fun hc1 => (mz_iconst (1 : Int32) d_Node_isIn_15 (by decide) (mz_goto 20 d_Node_isIn_16 rfl (mz_iret .boolean d_Node_isIn_20 rfl rfl ⟨rfl, hL, _, rfl, ((h.2 hc2).2 hc1)⟩)))))))))))))
def mm_Store_childNamed : MzT := (⟨"ParcelLine$Store", "childNamed", "(II)I"⟩, prog_12_method_7_code, 4, (Option.some Jvm.ClassFile.FieldType.int))
theorem cs_Store_childNamed {mm : MzT} : mzCall mm mm_Store_childNamed 2 := ⟨wn_Store, wco_Store_childNamed, by decide +kernel, by decide⟩
theorem d_Store_childNamed_0 : decode mm_Store_childNamed.2.1 0 = .ok (.iconst 1, 1) := by decide +kernel
theorem d_Store_childNamed_1 : decode mm_Store_childNamed.2.1 1 = .ok (.istore_n 3, 1) := by decide +kernel
theorem d_Store_childNamed_2 : decode mm_Store_childNamed.2.1 2 = .ok (.iload_n 3, 1) := by decide +kernel
theorem d_Store_childNamed_3 : decode mm_Store_childNamed.2.1 3 = .ok (.bipush 16, 2) := by decide +kernel
theorem d_Store_childNamed_5 : decode mm_Store_childNamed.2.1 5 = .ok (.if_icmp .ge 37, 3) := by decide +kernel
theorem d_Store_childNamed_8 : decode mm_Store_childNamed.2.1 8 = .ok (.aload_n 0, 1) := by decide +kernel
theorem d_Store_childNamed_9 : decode mm_Store_childNamed.2.1 9 = .ok (.getfield 11, 3) := by decide +kernel
theorem d_Store_childNamed_12 : decode mm_Store_childNamed.2.1 12 = .ok (.iload_n 3, 1) := by decide +kernel
theorem d_Store_childNamed_13 : decode mm_Store_childNamed.2.1 13 = .ok (.aaload, 1) := by decide +kernel
theorem d_Store_childNamed_14 : decode mm_Store_childNamed.2.1 14 = .ok (.iload_n 1, 1) := by decide +kernel
theorem d_Store_childNamed_15 : decode mm_Store_childNamed.2.1 15 = .ok (.invokevirtual 33, 3) := by decide +kernel
theorem d_Store_childNamed_18 : decode mm_Store_childNamed.2.1 18 = .ok (.ifCond .eq 18, 3) := by decide +kernel
theorem d_Store_childNamed_21 : decode mm_Store_childNamed.2.1 21 = .ok (.aload_n 0, 1) := by decide +kernel
theorem d_Store_childNamed_22 : decode mm_Store_childNamed.2.1 22 = .ok (.getfield 11, 3) := by decide +kernel
theorem d_Store_childNamed_25 : decode mm_Store_childNamed.2.1 25 = .ok (.iload_n 3, 1) := by decide +kernel
theorem d_Store_childNamed_26 : decode mm_Store_childNamed.2.1 26 = .ok (.aaload, 1) := by decide +kernel
theorem d_Store_childNamed_27 : decode mm_Store_childNamed.2.1 27 = .ok (.getfield 36, 3) := by decide +kernel
theorem d_Store_childNamed_30 : decode mm_Store_childNamed.2.1 30 = .ok (.iload_n 2, 1) := by decide +kernel
theorem d_Store_childNamed_31 : decode mm_Store_childNamed.2.1 31 = .ok (.if_icmp .ne 5, 3) := by decide +kernel
theorem d_Store_childNamed_34 : decode mm_Store_childNamed.2.1 34 = .ok (.iload_n 3, 1) := by decide +kernel
theorem d_Store_childNamed_35 : decode mm_Store_childNamed.2.1 35 = .ok (.ireturn, 1) := by decide +kernel
theorem d_Store_childNamed_36 : decode mm_Store_childNamed.2.1 36 = .ok (.iinc 3 1, 3) := by decide +kernel
theorem d_Store_childNamed_39 : decode mm_Store_childNamed.2.1 39 = .ok (.goto (-37), 3) := by decide +kernel
theorem d_Store_childNamed_42 : decode mm_Store_childNamed.2.1 42 = .ok (.iconst (-1), 1) := by decide +kernel
theorem d_Store_childNamed_43 : decode mm_Store_childNamed.2.1 43 = .ok (.ireturn, 1) := by decide +kernel
def wp_Store_childNamed_36  (H2 : Int32 → Int32 → Int32 → MzM → Prop) (K : Int32 → MzM → Prop) (y1 : Int32) (y2 : Int32) (y3 : Int32) (M : MzM) : Prop := H2 y1 y2 (y3 + (1 : Int32)) M
def wp_Store_childNamed_2   (K : Int32 → MzM → Prop) : Nat → Int32 → Int32 → Int32 → MzM → Prop
  | 0, _, _, _, _ => False
  | r0 + 1, y1, y2, y3, M => (((16 : Int32) ≤ y3 → K (-1 : Int32) M) ∧ (¬ (16 : Int32) ≤ y3 → (∃ j3 : Nat, y3.toInt = (j3 : Int) ∧ j3 < 16 ∧ wp_Node_isIn j3 y1 M (fun v10 M7 => ((v10 = 0 → wp_Store_childNamed_36  (wp_Store_childNamed_2   K r0) K y1 y2 y3 M7) ∧ (¬ v10 = 0 → (∃ j11 : Nat, y3.toInt = (j11 : Int) ∧ j11 < 16 ∧ ((¬ (mz_i M7 (3, j11) 3) = y2 → wp_Store_childNamed_36  (wp_Store_childNamed_2   K r0) K y1 y2 y3 M7) ∧ ((mz_i M7 (3, j11) 3) = y2 → K y3 M7)))))))))
def wp_Store_childNamed  (a1 : Int32) (a2 : Int32) (M : MzM) (K : Int32 → MzM → Prop) : Prop := (∃ r1 : Nat, wp_Store_childNamed_2   K r1 a1 a2 (1 : Int32) M)
theorem tm_Store_childNamed_36 {G : MzG} {B : MzB} {d : Nat} {K : Int32 → MzM → Prop} (hF : mzLive B)   {H2 : Int32 → Int32 → Int32 → MzM → Prop} (hH2 : ∀ (y1 : Int32) (y2 : Int32) (y3 : Int32) (M : MzM), mzLnk M → H2 y1 y2 y3 M → MzS G B (d + 1) mm_Store_childNamed M (0, 0) (mzK1 B K) 2 [(0, .ref (mz_ad B (1, 0))), (1, .int y1), (2, .int y2), (3, .int y3)] []) (y1 : Int32) (y2 : Int32) (y3 : Int32) (M : MzM) (hL : mzLnk M) (h : wp_Store_childNamed_36  H2 K y1 y2 y3 M) : MzS G B (d + 1) mm_Store_childNamed M (0, 0) (mzK1 B K) 36 [(0, .ref (mz_ad B (1, 0))), (1, .int y1), (2, .int y2), (3, .int y3)] [] := by
  unfold wp_Store_childNamed_36 at h
  exact (mz_iinc (y3 + (1 : Int32)) d_Store_childNamed_36 rfl (by decide) rfl (mz_goto 2 d_Store_childNamed_39 rfl (MzS.loc [(0, .ref (mz_ad B (1, 0))), (1, .int y1), (2, .int y2), (3, .int (y3 + (1 : Int32)))] ⟨rfl, rfl, rfl, rfl, trivial⟩ (hH2 y1 y2 (y3 + (1 : Int32)) M hL h))))
theorem tm_Store_childNamed_2 {G : MzG} {B : MzB} {d : Nat} {K : Int32 → MzM → Prop} (hF : mzLive B)     : ∀ (r0 : Nat) (y1 : Int32) (y2 : Int32) (y3 : Int32) (M : MzM), mzLnk M → wp_Store_childNamed_2   K r0 y1 y2 y3 M → MzS G B (d + 1) mm_Store_childNamed M (0, 0) (mzK1 B K) 2 [(0, .ref (mz_ad B (1, 0))), (1, .int y1), (2, .int y2), (3, .int y3)] [] := by
  intro r0
  induction r0 with
  | zero => intro y1 y2 y3 M hL h; exact False.elim h
  | succ r0 hH2 =>
    intro y1 y2 y3 M hL h
    unfold wp_Store_childNamed_2 at h
    exact (mz_iload_n d_Store_childNamed_2 rfl (mz_bipush (16 : Int32) d_Store_childNamed_3 (by decide) (mz_icmp_ge 42 d_Store_childNamed_5 rfl (fun hc17 => (mz_iconst (-1 : Int32) d_Store_childNamed_42 (by decide) (mz_iret .int d_Store_childNamed_43 rfl rfl ⟨rfl, hL, _, rfl, (h.1 hc17)⟩))) (fun hc17 => (mz_aload_n d_Store_childNamed_8 rfl (mz_getR (k := 0) (a := (2, 0)) cl_1 d_Store_childNamed_9 (by decide) wf_Store_11 rfl (hF 1 0 (by decide)) rfl (hL (1, 0) 0 (2, 0) rfl (by decide)) (mz_iload_n d_Store_childNamed_12 rfl (match (h.2 hc17) with | ⟨j3, h4, h5, h6⟩ => mz_aald (a := (3, j3)) j3 d_Store_childNamed_13 (hF 2 0 (by decide)) rfl h4 h5 (hL (2, 0) j3 (3, j3) (mzLk_2 h5) (by decide)) (mz_iload_n d_Store_childNamed_14 rfl (mz_callV (As := [.int y1]) (st := []) (hF 3 j3 h5) rfl (mzClOf cl_2) 0 0 d_Store_childNamed_15 cs_Node_isIn wl_Store_33 wi_Node_isIn wse_Node_isIn (Nat.le_of_ble_eq_true rfl) (Nat.le_refl _) (Nat.le_refl _) (MzC.mono (tm_Node_isIn (d := d) hF h5 hL h6) (fun r9 B9 M7 hq9 => by obtain ⟨rfl, hL8, v10, rfl, hq9⟩ := hq9; exact ⟨_, rfl, (mz_if_eq 36 d_Store_childNamed_18 rfl (fun hc16 => (MzS.loc [(0, .ref (mz_ad B (1, 0))), (1, .int y1), (2, .int y2), (3, .int y3)] ⟨rfl, rfl, rfl, rfl, trivial⟩ (tm_Store_childNamed_36 hF  hH2 y1 y2 y3 M7 hL8 (hq9.1 hc16)))) (fun hc16 => (mz_aload_n d_Store_childNamed_21 rfl (mz_getR (k := 0) (a := (2, 0)) cl_1 d_Store_childNamed_22 (by decide) wf_Store_11 rfl (hF 1 0 (by decide)) rfl (hL8 (1, 0) 0 (2, 0) rfl (by decide)) (mz_iload_n d_Store_childNamed_25 rfl (match (hq9.2 hc16) with | ⟨j11, h12, h13, h14⟩ => mz_aald (a := (3, j11)) j11 d_Store_childNamed_26 (hF 2 0 (by decide)) rfl h12 h13 (hL8 (2, 0) j11 (3, j11) (mzLk_2 h13) (by decide)) (mz_getIN (k := 3) cl_2 d_Store_childNamed_27 (by decide) wf_Store_36 rfl (hF 3 j11 h13) rfl (mz_iload_n d_Store_childNamed_30 rfl (mz_icmp_ne 36 d_Store_childNamed_31 rfl (fun hc15 => (MzS.loc [(0, .ref (mz_ad B (1, 0))), (1, .int y1), (2, .int y2), (3, .int y3)] ⟨rfl, rfl, rfl, rfl, trivial⟩ (tm_Store_childNamed_36 hF  hH2 y1 y2 y3 M7 hL8 (h14.1 hc15)))) (fun hc15 => (mz_iload_n d_Store_childNamed_34 rfl (mz_iret .int d_Store_childNamed_35 rfl rfl ⟨rfl, hL8, _, rfl, (h14.2 hc15)⟩))))))))))))⟩))))))))))))
theorem tm_Store_childNamed {G : MzG} {B : MzB} {d : Nat} {K : Int32 → MzM → Prop} (hF : mzLive B)   {a1 : Int32} {a2 : Int32} {M : MzM} (hL : mzLnk M) (h : wp_Store_childNamed  a1 a2 M K) : MzC G B (d + 1) mm_Store_childNamed [.ref (mz_ad B (1, 0)), .int a1, .int a2] M (0, 0) (mzK1 B K) := by
  unfold wp_Store_childNamed at h
  exact MzC.of rfl (Nat.le_of_ble_eq_true rfl) (show MzS G B (d + 1) mm_Store_childNamed M (0, 0) (mzK1 B K) 0 [(0, .ref (mz_ad B (1, 0))), (1, .int a1), (2, .int a2)] [] from (mz_iconst (1 : Int32) d_Store_childNamed_0 (by decide) (mz_istore_n d_Store_childNamed_1 (by decide) (MzS.loc [(0, .ref (mz_ad B (1, 0))), (1, .int a1), (2, .int a2), (3, .int (1 : Int32))] ⟨rfl, rfl, rfl, rfl, trivial⟩ (match h with | ⟨r1, h2⟩ => tm_Store_childNamed_2 hF   r1 a1 a2 (1 : Int32) M hL h2)))))
def mm_Row_at : MzT := (⟨"ParcelLine$ByteRow", "at", "(I)I"⟩, prog_3_method_3_code, 2, (Option.some Jvm.ClassFile.FieldType.int))
theorem cs_Row_at {mm : MzT} : mzCall mm mm_Row_at 1 := ⟨wn_Row, wco_Row_at, by decide +kernel, by decide⟩
theorem d_Row_at_0 : decode mm_Row_at.2.1 0 = .ok (.iload_n 1, 1) := by decide +kernel
theorem d_Row_at_1 : decode mm_Row_at.2.1 1 = .ok (.ifCond .lt 26, 3) := by decide +kernel
theorem d_Row_at_4 : decode mm_Row_at.2.1 4 = .ok (.iload_n 1, 1) := by decide +kernel
theorem d_Row_at_5 : decode mm_Row_at.2.1 5 = .ok (.aload_n 0, 1) := by decide +kernel
theorem d_Row_at_6 : decode mm_Row_at.2.1 6 = .ok (.getfield 15, 3) := by decide +kernel
theorem d_Row_at_9 : decode mm_Row_at.2.1 9 = .ok (.if_icmp .ge 18, 3) := by decide +kernel
theorem d_Row_at_12 : decode mm_Row_at.2.1 12 = .ok (.iload_n 1, 1) := by decide +kernel
theorem d_Row_at_13 : decode mm_Row_at.2.1 13 = .ok (.bipush 24, 2) := by decide +kernel
theorem d_Row_at_15 : decode mm_Row_at.2.1 15 = .ok (.if_icmp .ge 12, 3) := by decide +kernel
theorem d_Row_at_18 : decode mm_Row_at.2.1 18 = .ok (.aload_n 0, 1) := by decide +kernel
theorem d_Row_at_19 : decode mm_Row_at.2.1 19 = .ok (.getfield 9, 3) := by decide +kernel
theorem d_Row_at_22 : decode mm_Row_at.2.1 22 = .ok (.iload_n 1, 1) := by decide +kernel
theorem d_Row_at_23 : decode mm_Row_at.2.1 23 = .ok (.iaload, 1) := by decide +kernel
theorem d_Row_at_24 : decode mm_Row_at.2.1 24 = .ok (.goto 4, 3) := by decide +kernel
theorem d_Row_at_27 : decode mm_Row_at.2.1 27 = .ok (.iconst (-1), 1) := by decide +kernel
theorem d_Row_at_28 : decode mm_Row_at.2.1 28 = .ok (.ireturn, 1) := by decide +kernel
def wp_Row_at (n : Nat) (a1 : Int32) (M : MzM) (K : Int32 → MzM → Prop) : Prop := ((a1 < 0 → K (-1 : Int32) M) ∧ (¬ a1 < 0 → (((mz_i M (4, n) 1) ≤ a1 → K (-1 : Int32) M) ∧ (¬ (mz_i M (4, n) 1) ≤ a1 → (((24 : Int32) ≤ a1 → K (-1 : Int32) M) ∧ (¬ (24 : Int32) ≤ a1 → (∃ j1 : Nat, a1.toInt = (j1 : Int) ∧ j1 < 24 ∧ K (mz_i M (5, n) j1) M)))))))
theorem tm_Row_at {G : MzG} {B : MzB} {d : Nat} {K : Int32 → MzM → Prop} (hF : mzLive B) {n : Nat} (hn : n < 16) {a1 : Int32} {M : MzM} (hL : mzLnk M) (h : wp_Row_at n a1 M K) : MzC G B d mm_Row_at [.ref (mz_ad B (4, n)), .int a1] M (0, 0) (mzK1 B K) := by
  unfold wp_Row_at at h
  exact MzC.of rfl (Nat.le_of_ble_eq_true rfl) (show MzS G B d mm_Row_at M (0, 0) (mzK1 B K) 0 [(0, .ref (mz_ad B (4, n))), (1, .int a1)] [] from (mz_iload_n d_Row_at_0 rfl (mz_if_lt 27 d_Row_at_1 rfl (fun hc7 => (mz_iconst (-1 : Int32) d_Row_at_27 (by decide) (mz_iret .int d_Row_at_28 rfl rfl ⟨rfl, hL, _, rfl, (h.1 hc7)⟩))) (fun hc7 => (mz_iload_n d_Row_at_4 rfl (mz_aload_n d_Row_at_5 rfl (mz_getI (k := 1) cl_3 d_Row_at_6 (by decide) wf_Row_15 rfl (hF 4 n hn) rfl (mz_icmp_ge 27 d_Row_at_9 rfl (fun hc6 => (mz_iconst (-1 : Int32) d_Row_at_27 (by decide) (mz_iret .int d_Row_at_28 rfl rfl ⟨rfl, hL, _, rfl, ((h.2 hc7).1 hc6)⟩))) (fun hc6 => (mz_iload_n d_Row_at_12 rfl (mz_bipush (24 : Int32) d_Row_at_13 (by decide) (mz_icmp_ge 27 d_Row_at_15 rfl (fun hc5 => (mz_iconst (-1 : Int32) d_Row_at_27 (by decide) (mz_iret .int d_Row_at_28 rfl rfl ⟨rfl, hL, _, rfl, (((h.2 hc7).2 hc6).1 hc5)⟩))) (fun hc5 => (mz_aload_n d_Row_at_18 rfl (mz_getR (k := 0) (a := (5, n)) cl_3 d_Row_at_19 (by decide) wf_Row_9 rfl (hF 4 n hn) rfl (hL (4, n) 0 (5, n) rfl hn) (mz_iload_n d_Row_at_22 rfl (match (((h.2 hc7).2 hc6).2 hc5) with | ⟨j1, h2, h3, h4⟩ => mz_iald j1 d_Row_at_23 (hF 5 n hn) rfl h2 h3 (mz_goto 28 d_Row_at_24 rfl (mz_iret .int d_Row_at_28 rfl rfl ⟨rfl, hL, _, rfl, h4⟩)))))))))))))))))))
def wp_Row_ats (k : Nat) (a1 : Int32) (M : MzM) (K : Int32 → MzM → Prop) : Prop := ((a1 < 0 → K (-1 : Int32) M) ∧ (¬ a1 < 0 → (((mz_i M (20, k) 1) ≤ a1 → K (-1 : Int32) M) ∧ (¬ (mz_i M (20, k) 1) ≤ a1 → (((24 : Int32) ≤ a1 → K (-1 : Int32) M) ∧ (¬ (24 : Int32) ≤ a1 → (∃ j1 : Nat, a1.toInt = (j1 : Int) ∧ j1 < 24 ∧ K (mz_i M (21, k) j1) M)))))))
theorem tm_Row_ats {G : MzG} {B : MzB} {d : Nat} {K : Int32 → MzM → Prop} (hF : mzLive B) {k : Nat} (hk : k < 3) {a1 : Int32} {M : MzM} (hL : mzLnk M) (h : wp_Row_ats k a1 M K) : MzC G B d mm_Row_at [.ref (mz_ad B (20, k)), .int a1] M (0, 0) (mzK1 B K) := by
  unfold wp_Row_ats at h
  exact MzC.of rfl (Nat.le_of_ble_eq_true rfl) (show MzS G B d mm_Row_at M (0, 0) (mzK1 B K) 0 [(0, .ref (mz_ad B (20, k))), (1, .int a1)] [] from (mz_iload_n d_Row_at_0 rfl (mz_if_lt 27 d_Row_at_1 rfl (fun hc7 => (mz_iconst (-1 : Int32) d_Row_at_27 (by decide) (mz_iret .int d_Row_at_28 rfl rfl ⟨rfl, hL, _, rfl, (h.1 hc7)⟩))) (fun hc7 => (mz_iload_n d_Row_at_4 rfl (mz_aload_n d_Row_at_5 rfl (mz_getI (k := 1) cl_3 d_Row_at_6 (by decide) wf_Row_15 rfl (hF 20 k hk) rfl (mz_icmp_ge 27 d_Row_at_9 rfl (fun hc6 => (mz_iconst (-1 : Int32) d_Row_at_27 (by decide) (mz_iret .int d_Row_at_28 rfl rfl ⟨rfl, hL, _, rfl, ((h.2 hc7).1 hc6)⟩))) (fun hc6 => (mz_iload_n d_Row_at_12 rfl (mz_bipush (24 : Int32) d_Row_at_13 (by decide) (mz_icmp_ge 27 d_Row_at_15 rfl (fun hc5 => (mz_iconst (-1 : Int32) d_Row_at_27 (by decide) (mz_iret .int d_Row_at_28 rfl rfl ⟨rfl, hL, _, rfl, (((h.2 hc7).2 hc6).1 hc5)⟩))) (fun hc5 => (mz_aload_n d_Row_at_18 rfl (mz_getR (k := 0) (a := (21, k)) cl_3 d_Row_at_19 (by decide) wf_Row_9 rfl (hF 20 k hk) rfl (hL (20, k) 0 (21, k) rfl hk) (mz_iload_n d_Row_at_22 rfl (match (((h.2 hc7).2 hc6).2 hc5) with | ⟨j1, h2, h3, h4⟩ => mz_iald j1 d_Row_at_23 (hF 21 k hk) rfl h2 h3 (mz_goto 28 d_Row_at_24 rfl (mz_iret .int d_Row_at_28 rfl rfl ⟨rfl, hL, _, rfl, h4⟩)))))))))))))))))))
def mm_Row_add : MzT := (⟨"ParcelLine$ByteRow", "add", "(I)V"⟩, prog_3_method_2_code, 2, (Option.none : Option Jvm.ClassFile.FieldType))
theorem cs_Row_add {mm : MzT} : mzCall mm mm_Row_add 1 := ⟨wn_Row, wco_Row_add, by decide +kernel, by decide⟩
theorem d_Row_add_0 : decode mm_Row_add.2.1 0 = .ok (.aload_n 0, 1) := by decide +kernel
theorem d_Row_add_1 : decode mm_Row_add.2.1 1 = .ok (.getfield 15, 3) := by decide +kernel
theorem d_Row_add_4 : decode mm_Row_add.2.1 4 = .ok (.bipush 24, 2) := by decide +kernel
theorem d_Row_add_6 : decode mm_Row_add.2.1 6 = .ok (.if_icmp .ge 23, 3) := by decide +kernel
theorem d_Row_add_9 : decode mm_Row_add.2.1 9 = .ok (.aload_n 0, 1) := by decide +kernel
theorem d_Row_add_10 : decode mm_Row_add.2.1 10 = .ok (.getfield 9, 3) := by decide +kernel
theorem d_Row_add_13 : decode mm_Row_add.2.1 13 = .ok (.aload_n 0, 1) := by decide +kernel
theorem d_Row_add_14 : decode mm_Row_add.2.1 14 = .ok (.getfield 15, 3) := by decide +kernel
theorem d_Row_add_17 : decode mm_Row_add.2.1 17 = .ok (.iload_n 1, 1) := by decide +kernel
theorem d_Row_add_18 : decode mm_Row_add.2.1 18 = .ok (.iastore, 1) := by decide +kernel
theorem d_Row_add_19 : decode mm_Row_add.2.1 19 = .ok (.aload_n 0, 1) := by decide +kernel
theorem d_Row_add_20 : decode mm_Row_add.2.1 20 = .ok (.dup, 1) := by decide +kernel
theorem d_Row_add_21 : decode mm_Row_add.2.1 21 = .ok (.getfield 15, 3) := by decide +kernel
theorem d_Row_add_24 : decode mm_Row_add.2.1 24 = .ok (.iconst 1, 1) := by decide +kernel
theorem d_Row_add_25 : decode mm_Row_add.2.1 25 = .ok (.iadd, 1) := by decide +kernel
theorem d_Row_add_26 : decode mm_Row_add.2.1 26 = .ok (.putfield 15, 3) := by decide +kernel
theorem d_Row_add_29 : decode mm_Row_add.2.1 29 = .ok (.return_, 1) := by decide +kernel
def wp_Row_add (n : Nat) (a1 : Int32) (M : MzM) (K : MzM → Prop) : Prop := (((24 : Int32) ≤ (mz_i M (4, n) 1) → K M) ∧ (¬ (24 : Int32) ≤ (mz_i M (4, n) 1) → (∃ j4 : Nat, (mz_i M (4, n) 1).toInt = (j4 : Int) ∧ j4 < 24 ∧ ∀ M1 : MzM, M1 = mz_si M (5, n) j4 a1 → (∀ M7 : MzM, M7 = mz_si M1 (4, n) 1 ((mz_i M1 (4, n) 1) + (1 : Int32)) → K M7))))
theorem tm_Row_add {G : MzG} {B : MzB} {d : Nat} {K : MzM → Prop} (hF : mzLive B) {n : Nat} (hn : n < 16) {a1 : Int32} {M : MzM} (hL : mzLnk M) (h : wp_Row_add n a1 M K) : MzC G B d mm_Row_add [.ref (mz_ad B (4, n)), .int a1] M (0, 0) (mzK0 B K) := by
  unfold wp_Row_add at h
  exact MzC.of rfl (Nat.le_of_ble_eq_true rfl) (show MzS G B d mm_Row_add M (0, 0) (mzK0 B K) 0 [(0, .ref (mz_ad B (4, n))), (1, .int a1)] [] from (mz_aload_n d_Row_add_0 rfl (mz_getI (k := 1) cl_3 d_Row_add_1 (by decide) wf_Row_15 rfl (hF 4 n hn) rfl (mz_bipush (24 : Int32) d_Row_add_4 (by decide) (mz_icmp_ge 29 d_Row_add_6 rfl (fun hc8 => (mz_vret d_Row_add_29 rfl ⟨rfl, hL, rfl, (h.1 hc8)⟩)) (fun hc8 => (mz_aload_n d_Row_add_9 rfl (mz_getR (k := 0) (a := (5, n)) cl_3 d_Row_add_10 (by decide) wf_Row_9 rfl (hF 4 n hn) rfl (hL (4, n) 0 (5, n) rfl hn) (mz_aload_n d_Row_add_13 rfl (mz_getI (k := 1) cl_3 d_Row_add_14 (by decide) wf_Row_15 rfl (hF 4 n hn) rfl (mz_iload_n d_Row_add_17 rfl (match (h.2 hc8) with | ⟨j4, h5, h6, h3⟩ => mz_iast j4 d_Row_add_18 (hF 5 n hn) rfl h5 h6 (let M1 : MzM := mz_si M (5, n) j4 a1; (mz_aload_n d_Row_add_19 rfl (mz_dup d_Row_add_20 rfl (mz_getI (k := 1) cl_3 d_Row_add_21 (by decide) wf_Row_15 rfl (hF 4 n hn) rfl (mz_iconst (1 : Int32) d_Row_add_24 (by decide) (mz_iadd d_Row_add_25 (mz_putI (k := 1) cl_3 d_Row_add_26 (by decide) wf_Row_15 rfl rfl rfl rfl (hF 4 n hn) rfl (let M7 : MzM := mz_si M1 (4, n) 1 ((mz_i M1 (4, n) 1) + (1 : Int32)); (mz_vret d_Row_add_29 rfl ⟨rfl, hL, rfl, ((h3 M1 rfl) M7 rfl)⟩)))))))))))))))))))))
def wp_Row_adds (k : Nat) (a1 : Int32) (M : MzM) (K : MzM → Prop) : Prop := (((24 : Int32) ≤ (mz_i M (20, k) 1) → K M) ∧ (¬ (24 : Int32) ≤ (mz_i M (20, k) 1) → (∃ j4 : Nat, (mz_i M (20, k) 1).toInt = (j4 : Int) ∧ j4 < 24 ∧ ∀ M1 : MzM, M1 = mz_si M (21, k) j4 a1 → (∀ M7 : MzM, M7 = mz_si M1 (20, k) 1 ((mz_i M1 (20, k) 1) + (1 : Int32)) → K M7))))
theorem tm_Row_adds {G : MzG} {B : MzB} {d : Nat} {K : MzM → Prop} (hF : mzLive B) {k : Nat} (hk : k < 3) {a1 : Int32} {M : MzM} (hL : mzLnk M) (h : wp_Row_adds k a1 M K) : MzC G B d mm_Row_add [.ref (mz_ad B (20, k)), .int a1] M (0, 0) (mzK0 B K) := by
  unfold wp_Row_adds at h
  exact MzC.of rfl (Nat.le_of_ble_eq_true rfl) (show MzS G B d mm_Row_add M (0, 0) (mzK0 B K) 0 [(0, .ref (mz_ad B (20, k))), (1, .int a1)] [] from (mz_aload_n d_Row_add_0 rfl (mz_getI (k := 1) cl_3 d_Row_add_1 (by decide) wf_Row_15 rfl (hF 20 k hk) rfl (mz_bipush (24 : Int32) d_Row_add_4 (by decide) (mz_icmp_ge 29 d_Row_add_6 rfl (fun hc8 => (mz_vret d_Row_add_29 rfl ⟨rfl, hL, rfl, (h.1 hc8)⟩)) (fun hc8 => (mz_aload_n d_Row_add_9 rfl (mz_getR (k := 0) (a := (21, k)) cl_3 d_Row_add_10 (by decide) wf_Row_9 rfl (hF 20 k hk) rfl (hL (20, k) 0 (21, k) rfl hk) (mz_aload_n d_Row_add_13 rfl (mz_getI (k := 1) cl_3 d_Row_add_14 (by decide) wf_Row_15 rfl (hF 20 k hk) rfl (mz_iload_n d_Row_add_17 rfl (match (h.2 hc8) with | ⟨j4, h5, h6, h3⟩ => mz_iast j4 d_Row_add_18 (hF 21 k hk) rfl h5 h6 (let M1 : MzM := mz_si M (21, k) j4 a1; (mz_aload_n d_Row_add_19 rfl (mz_dup d_Row_add_20 rfl (mz_getI (k := 1) cl_3 d_Row_add_21 (by decide) wf_Row_15 rfl (hF 20 k hk) rfl (mz_iconst (1 : Int32) d_Row_add_24 (by decide) (mz_iadd d_Row_add_25 (mz_putI (k := 1) cl_3 d_Row_add_26 (by decide) wf_Row_15 rfl rfl rfl rfl (hF 20 k hk) rfl (let M7 : MzM := mz_si M1 (20, k) 1 ((mz_i M1 (20, k) 1) + (1 : Int32)); (mz_vret d_Row_add_29 rfl ⟨rfl, hL, rfl, ((h3 M1 rfl) M7 rfl)⟩)))))))))))))))))))))
