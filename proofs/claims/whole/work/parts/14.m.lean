def mm_Ses_makeDirectory : MzT := (⟨"ParcelLine$Session", "makeDirectory", "()I"⟩, prog_11_method_27_code, 1, (Option.some Jvm.ClassFile.FieldType.int))
theorem cs_Ses_makeDirectory {mm : MzT} : mzCall mm mm_Ses_makeDirectory 0 := ⟨wn_Ses, wco_Ses_makeDirectory, by decide +kernel, by decide⟩
theorem d_Ses_makeDirectory_0 : decode mm_Ses_makeDirectory.2.1 0 = .ok (.aload_n 0, 1) := by decide +kernel
theorem d_Ses_makeDirectory_1 : decode mm_Ses_makeDirectory.2.1 1 = .ok (.getfield 59, 3) := by decide +kernel
theorem d_Ses_makeDirectory_4 : decode mm_Ses_makeDirectory.2.1 4 = .ok (.iconst (-1), 1) := by decide +kernel
theorem d_Ses_makeDirectory_5 : decode mm_Ses_makeDirectory.2.1 5 = .ok (.if_icmp .ne 7, 3) := by decide +kernel
theorem d_Ses_makeDirectory_8 : decode mm_Ses_makeDirectory.2.1 8 = .ok (.sipush 550, 3) := by decide +kernel
theorem d_Ses_makeDirectory_11 : decode mm_Ses_makeDirectory.2.1 11 = .ok (.ireturn, 1) := by decide +kernel
theorem d_Ses_makeDirectory_12 : decode mm_Ses_makeDirectory.2.1 12 = .ok (.aload_n 0, 1) := by decide +kernel
theorem d_Ses_makeDirectory_13 : decode mm_Ses_makeDirectory.2.1 13 = .ok (.aload_n 0, 1) := by decide +kernel
theorem d_Ses_makeDirectory_14 : decode mm_Ses_makeDirectory.2.1 14 = .ok (.getfield 15, 3) := by decide +kernel
theorem d_Ses_makeDirectory_17 : decode mm_Ses_makeDirectory.2.1 17 = .ok (.iconst 1, 1) := by decide +kernel
theorem d_Ses_makeDirectory_18 : decode mm_Ses_makeDirectory.2.1 18 = .ok (.aload_n 0, 1) := by decide +kernel
theorem d_Ses_makeDirectory_19 : decode mm_Ses_makeDirectory.2.1 19 = .ok (.getfield 59, 3) := by decide +kernel
theorem d_Ses_makeDirectory_22 : decode mm_Ses_makeDirectory.2.1 22 = .ok (.aload_n 0, 1) := by decide +kernel
theorem d_Ses_makeDirectory_23 : decode mm_Ses_makeDirectory.2.1 23 = .ok (.getfield 38, 3) := by decide +kernel
theorem d_Ses_makeDirectory_26 : decode mm_Ses_makeDirectory.2.1 26 = .ok (.invokevirtual 254, 3) := by decide +kernel
theorem d_Ses_makeDirectory_29 : decode mm_Ses_makeDirectory.2.1 29 = .ok (.invokevirtual 351, 3) := by decide +kernel
theorem d_Ses_makeDirectory_32 : decode mm_Ses_makeDirectory.2.1 32 = .ok (.putfield 184, 3) := by decide +kernel
theorem d_Ses_makeDirectory_35 : decode mm_Ses_makeDirectory.2.1 35 = .ok (.aload_n 0, 1) := by decide +kernel
theorem d_Ses_makeDirectory_36 : decode mm_Ses_makeDirectory.2.1 36 = .ok (.getfield 184, 3) := by decide +kernel
theorem d_Ses_makeDirectory_39 : decode mm_Ses_makeDirectory.2.1 39 = .ok (.iconst (-1), 1) := by decide +kernel
theorem d_Ses_makeDirectory_40 : decode mm_Ses_makeDirectory.2.1 40 = .ok (.if_icmp .ne 9, 3) := by decide +kernel
theorem d_Ses_makeDirectory_43 : decode mm_Ses_makeDirectory.2.1 43 = .ok (.sipush 552, 3) := by decide +kernel
theorem d_Ses_makeDirectory_46 : decode mm_Ses_makeDirectory.2.1 46 = .ok (.goto 6, 3) := by decide +kernel
theorem d_Ses_makeDirectory_49 : decode mm_Ses_makeDirectory.2.1 49 = .ok (.sipush 257, 3) := by decide +kernel
theorem d_Ses_makeDirectory_52 : decode mm_Ses_makeDirectory.2.1 52 = .ok (.ireturn, 1) := by decide +kernel
def wp_Ses_makeDirectory (x : Nat)  (M : MzM) (K : Int32 → MzM → Prop) : Prop := ((¬ (mz_i M (8, x) 13) = (-1 : Int32) → wp_Path_newName x  M (fun v4 M1 => wp_Store_make  (1 : Int32) (mz_i M (8, x) 13) v4 M1 (fun v8 M5 => (∀ M9 : MzM, M9 = mz_si M5 (8, x) 15 v8 → ((¬ (mz_i M9 (8, x) 15) = (-1 : Int32) → K (257 : Int32) M9) ∧ ((mz_i M9 (8, x) 15) = (-1 : Int32) → K (552 : Int32) M9)))))) ∧ ((mz_i M (8, x) 13) = (-1 : Int32) → K (550 : Int32) M))
theorem tm_Ses_makeDirectory {G : MzG} {B : MzB} {d : Nat} {K : Int32 → MzM → Prop} (hF : mzLive B) {x : Nat} (hx : x < 2)  {M : MzM} (hL : mzLnk M) (h : wp_Ses_makeDirectory x  M K) : MzC G B (d + 1) mm_Ses_makeDirectory [.ref (mz_ad B (8, x))] M (0, 0) (mzK1 B K) := by
  unfold wp_Ses_makeDirectory at h
  exact MzC.of rfl (Nat.le_of_ble_eq_true rfl) (show MzS G B (d + 1) mm_Ses_makeDirectory M (0, 0) (mzK1 B K) 0 [(0, .ref (mz_ad B (8, x)))] [] from (mz_aload_n d_Ses_makeDirectory_0 rfl (mz_getI (k := 13) cl_4 d_Ses_makeDirectory_1 (by decide) wf_Ses_59 rfl (hF 8 x hx) rfl (mz_iconst (-1 : Int32) d_Ses_makeDirectory_4 (by decide) (mz_icmp_ne 12 d_Ses_makeDirectory_5 rfl (fun hc11 => (mz_aload_n d_Ses_makeDirectory_12 rfl (mz_aload_n d_Ses_makeDirectory_13 rfl (mz_getR (k := 1) (a := (1, 0)) cl_4 d_Ses_makeDirectory_14 (by decide) wf_Ses_15 rfl (hF 8 x hx) rfl (hL (8, x) 1 (1, 0) rfl hx) (mz_iconst (1 : Int32) d_Ses_makeDirectory_17 (by decide) (mz_aload_n d_Ses_makeDirectory_18 rfl (mz_getI (k := 13) cl_4 d_Ses_makeDirectory_19 (by decide) wf_Ses_59 rfl (hF 8 x hx) rfl (mz_aload_n d_Ses_makeDirectory_22 rfl (mz_getR (k := 4) (a := (14, x)) cl_4 d_Ses_makeDirectory_23 (by decide) wf_Ses_38 rfl (hF 8 x hx) rfl (hL (8, x) 4 (14, x) rfl hx) (mz_callV (As := []) (st := [.int (mz_i M (8, x) 13), .int (1 : Int32), .ref (mz_ad B (1, 0)), .ref (mz_ad B (8, x))]) (hF 14 x hx) rfl (mzClOf cl_7) 0 0 d_Ses_makeDirectory_26 cs_Path_newName wl_Ses_254 wi_Path_newName wse_Path_newName (Nat.le_of_ble_eq_true rfl) (Nat.le_refl _) (Nat.le_refl _) (MzC.mono (tm_Path_newName (d := d) hF hx hL (h.1 hc11)) (fun r9 B9 M1 hq3 => by obtain ⟨rfl, hL2, v4, rfl, hq3⟩ := hq3; exact ⟨_, rfl, (mz_callV (As := [.int (1 : Int32), .int (mz_i M (8, x) 13), .int v4]) (st := [.ref (mz_ad B (8, x))]) (hF 1 0 (by decide)) rfl (mzClOf cl_1) 0 0 d_Ses_makeDirectory_29 cs_Store_make wl_Ses_351 wi_Store_make wse_Store_make (Nat.le_of_ble_eq_true rfl) (Nat.le_refl _) (Nat.le_refl _) (MzC.mono (tm_Store_make (d := d) hF  hL2 hq3) (fun r9 B9 M5 hq7 => by obtain ⟨rfl, hL6, v8, rfl, hq7⟩ := hq7; exact ⟨_, rfl, (mz_putI (k := 15) cl_4 d_Ses_makeDirectory_32 (by decide) wf_Ses_184 rfl rfl rfl rfl (hF 8 x hx) rfl (let M9 : MzM := mz_si M5 (8, x) 15 v8; (mz_aload_n d_Ses_makeDirectory_35 rfl (mz_getI (k := 15) cl_4 d_Ses_makeDirectory_36 (by decide) wf_Ses_184 rfl (hF 8 x hx) rfl (mz_iconst (-1 : Int32) d_Ses_makeDirectory_39 (by decide) (mz_icmp_ne 49 d_Ses_makeDirectory_40 rfl (fun hc10 => (mz_sipush (257 : Int32) d_Ses_makeDirectory_49 (by decide) (mz_iret .int d_Ses_makeDirectory_52 rfl rfl ⟨rfl, hL6, _, rfl, ((hq7 M9 rfl).1 hc10)⟩))) (fun hc10 => (mz_sipush (552 : Int32) d_Ses_makeDirectory_43 (by decide) (mz_goto 52 d_Ses_makeDirectory_46 rfl (mz_iret .int d_Ses_makeDirectory_52 rfl rfl ⟨rfl, hL6, _, rfl, ((hq7 M9 rfl).2 hc10)⟩))))))))))⟩)))⟩)))))))))))) (fun hc11 => (mz_sipush (550 : Int32) d_Ses_makeDirectory_8 (by decide) (mz_iret .int d_Ses_makeDirectory_11 rfl rfl ⟨rfl, hL, _, rfl, (h.2 hc11)⟩))))))))
def mm_Store_countIn : MzT := (⟨"ParcelLine$Store", "countIn", "(I)I"⟩, prog_12_method_6_code, 4, (Option.some Jvm.ClassFile.FieldType.int))
theorem cs_Store_countIn {mm : MzT} : mzCall mm mm_Store_countIn 1 := ⟨wn_Store, wco_Store_countIn, by decide +kernel, by decide⟩
theorem d_Store_countIn_0 : decode mm_Store_countIn.2.1 0 = .ok (.iconst 0, 1) := by decide +kernel
theorem d_Store_countIn_1 : decode mm_Store_countIn.2.1 1 = .ok (.istore_n 2, 1) := by decide +kernel
theorem d_Store_countIn_2 : decode mm_Store_countIn.2.1 2 = .ok (.iconst 1, 1) := by decide +kernel
theorem d_Store_countIn_3 : decode mm_Store_countIn.2.1 3 = .ok (.istore_n 3, 1) := by decide +kernel
theorem d_Store_countIn_4 : decode mm_Store_countIn.2.1 4 = .ok (.iload_n 3, 1) := by decide +kernel
theorem d_Store_countIn_5 : decode mm_Store_countIn.2.1 5 = .ok (.bipush 16, 2) := by decide +kernel
theorem d_Store_countIn_7 : decode mm_Store_countIn.2.1 7 = .ok (.if_icmp .ge 25, 3) := by decide +kernel
theorem d_Store_countIn_10 : decode mm_Store_countIn.2.1 10 = .ok (.aload_n 0, 1) := by decide +kernel
theorem d_Store_countIn_11 : decode mm_Store_countIn.2.1 11 = .ok (.getfield 11, 3) := by decide +kernel
theorem d_Store_countIn_14 : decode mm_Store_countIn.2.1 14 = .ok (.iload_n 3, 1) := by decide +kernel
theorem d_Store_countIn_15 : decode mm_Store_countIn.2.1 15 = .ok (.aaload, 1) := by decide +kernel
theorem d_Store_countIn_16 : decode mm_Store_countIn.2.1 16 = .ok (.iload_n 1, 1) := by decide +kernel
theorem d_Store_countIn_17 : decode mm_Store_countIn.2.1 17 = .ok (.invokevirtual 33, 3) := by decide +kernel
theorem d_Store_countIn_20 : decode mm_Store_countIn.2.1 20 = .ok (.ifCond .eq 6, 3) := by decide +kernel
theorem d_Store_countIn_23 : decode mm_Store_countIn.2.1 23 = .ok (.iinc 2 1, 3) := by decide +kernel
theorem d_Store_countIn_26 : decode mm_Store_countIn.2.1 26 = .ok (.iinc 3 1, 3) := by decide +kernel
theorem d_Store_countIn_29 : decode mm_Store_countIn.2.1 29 = .ok (.goto (-25), 3) := by decide +kernel
theorem d_Store_countIn_32 : decode mm_Store_countIn.2.1 32 = .ok (.iload_n 2, 1) := by decide +kernel
theorem d_Store_countIn_33 : decode mm_Store_countIn.2.1 33 = .ok (.ireturn, 1) := by decide +kernel
def wp_Store_countIn_26  (H4 : Int32 → Int32 → Int32 → MzM → Prop) (K : Int32 → MzM → Prop) (y1 : Int32) (y2 : Int32) (y3 : Int32) (M : MzM) : Prop := H4 y1 y2 (y3 + (1 : Int32)) M
def wp_Store_countIn_4   (K : Int32 → MzM → Prop) : Nat → Int32 → Int32 → Int32 → MzM → Prop
  | 0, _, _, _, _ => False
  | r0 + 1, y1, y2, y3, M => (((16 : Int32) ≤ y3 → K y2 M) ∧ (¬ (16 : Int32) ≤ y3 → (∃ j3 : Nat, y3.toInt = (j3 : Int) ∧ j3 < 16 ∧ wp_Node_isIn j3 y1 M (fun v10 M7 => ((v10 = 0 → wp_Store_countIn_26  (wp_Store_countIn_4   K r0) K y1 y2 y3 M7) ∧ (¬ v10 = 0 → wp_Store_countIn_26  (wp_Store_countIn_4   K r0) K y1 (y2 + (1 : Int32)) y3 M7))))))
def wp_Store_countIn  (a1 : Int32) (M : MzM) (K : Int32 → MzM → Prop) : Prop := (∃ r1 : Nat, wp_Store_countIn_4   K r1 a1 (0 : Int32) (1 : Int32) M)
theorem tm_Store_countIn_26 {G : MzG} {B : MzB} {d : Nat} {K : Int32 → MzM → Prop} (hF : mzLive B)   {H4 : Int32 → Int32 → Int32 → MzM → Prop} (hH4 : ∀ (y1 : Int32) (y2 : Int32) (y3 : Int32) (M : MzM), mzLnk M → H4 y1 y2 y3 M → MzS G B (d + 1) mm_Store_countIn M (0, 0) (mzK1 B K) 4 [(0, .ref (mz_ad B (1, 0))), (1, .int y1), (2, .int y2), (3, .int y3)] []) (y1 : Int32) (y2 : Int32) (y3 : Int32) (M : MzM) (hL : mzLnk M) (h : wp_Store_countIn_26  H4 K y1 y2 y3 M) : MzS G B (d + 1) mm_Store_countIn M (0, 0) (mzK1 B K) 26 [(0, .ref (mz_ad B (1, 0))), (1, .int y1), (2, .int y2), (3, .int y3)] [] := by
  unfold wp_Store_countIn_26 at h
  exact (mz_iinc (y3 + (1 : Int32)) d_Store_countIn_26 rfl (by decide) rfl (mz_goto 4 d_Store_countIn_29 rfl (MzS.loc [(0, .ref (mz_ad B (1, 0))), (1, .int y1), (2, .int y2), (3, .int (y3 + (1 : Int32)))] ⟨rfl, rfl, rfl, rfl, trivial⟩ (hH4 y1 y2 (y3 + (1 : Int32)) M hL h))))
theorem tm_Store_countIn_4 {G : MzG} {B : MzB} {d : Nat} {K : Int32 → MzM → Prop} (hF : mzLive B)     : ∀ (r0 : Nat) (y1 : Int32) (y2 : Int32) (y3 : Int32) (M : MzM), mzLnk M → wp_Store_countIn_4   K r0 y1 y2 y3 M → MzS G B (d + 1) mm_Store_countIn M (0, 0) (mzK1 B K) 4 [(0, .ref (mz_ad B (1, 0))), (1, .int y1), (2, .int y2), (3, .int y3)] [] := by
  intro r0
  induction r0 with
  | zero => intro y1 y2 y3 M hL h; exact False.elim h
  | succ r0 hH4 =>
    intro y1 y2 y3 M hL h
    unfold wp_Store_countIn_4 at h
    exact (mz_iload_n d_Store_countIn_4 rfl (mz_bipush (16 : Int32) d_Store_countIn_5 (by decide) (mz_icmp_ge 32 d_Store_countIn_7 rfl (fun hc12 => (mz_iload_n d_Store_countIn_32 rfl (mz_iret .int d_Store_countIn_33 rfl rfl ⟨rfl, hL, _, rfl, (h.1 hc12)⟩))) (fun hc12 => (mz_aload_n d_Store_countIn_10 rfl (mz_getR (k := 0) (a := (2, 0)) cl_1 d_Store_countIn_11 (by decide) wf_Store_11 rfl (hF 1 0 (by decide)) rfl (hL (1, 0) 0 (2, 0) rfl (by decide)) (mz_iload_n d_Store_countIn_14 rfl (match (h.2 hc12) with | ⟨j3, h4, h5, h6⟩ => mz_aald (a := (3, j3)) j3 d_Store_countIn_15 (hF 2 0 (by decide)) rfl h4 h5 (hL (2, 0) j3 (3, j3) (mzLk_2 h5) (by decide)) (mz_iload_n d_Store_countIn_16 rfl (mz_callV (As := [.int y1]) (st := []) (hF 3 j3 h5) rfl (mzClOf cl_2) 0 0 d_Store_countIn_17 cs_Node_isIn wl_Store_33 wi_Node_isIn wse_Node_isIn (Nat.le_of_ble_eq_true rfl) (Nat.le_refl _) (Nat.le_refl _) (MzC.mono (tm_Node_isIn (d := d) hF h5 hL h6) (fun r9 B9 M7 hq9 => by obtain ⟨rfl, hL8, v10, rfl, hq9⟩ := hq9; exact ⟨_, rfl, (mz_if_eq 26 d_Store_countIn_20 rfl (fun hc11 => (MzS.loc [(0, .ref (mz_ad B (1, 0))), (1, .int y1), (2, .int y2), (3, .int y3)] ⟨rfl, rfl, rfl, rfl, trivial⟩ (tm_Store_countIn_26 hF  hH4 y1 y2 y3 M7 hL8 (hq9.1 hc11)))) (fun hc11 => (mz_iinc (y2 + (1 : Int32)) d_Store_countIn_23 rfl (by decide) rfl (MzS.loc [(0, .ref (mz_ad B (1, 0))), (1, .int y1), (2, .int (y2 + (1 : Int32))), (3, .int y3)] ⟨rfl, rfl, rfl, rfl, trivial⟩ (tm_Store_countIn_26 hF  hH4 y1 (y2 + (1 : Int32)) y3 M7 hL8 (hq9.2 hc11))))))⟩))))))))))))
theorem tm_Store_countIn {G : MzG} {B : MzB} {d : Nat} {K : Int32 → MzM → Prop} (hF : mzLive B)   {a1 : Int32} {M : MzM} (hL : mzLnk M) (h : wp_Store_countIn  a1 M K) : MzC G B (d + 1) mm_Store_countIn [.ref (mz_ad B (1, 0)), .int a1] M (0, 0) (mzK1 B K) := by
  unfold wp_Store_countIn at h
  exact MzC.of rfl (Nat.le_of_ble_eq_true rfl) (show MzS G B (d + 1) mm_Store_countIn M (0, 0) (mzK1 B K) 0 [(0, .ref (mz_ad B (1, 0))), (1, .int a1)] [] from (mz_iconst (0 : Int32) d_Store_countIn_0 (by decide) (mz_istore_n d_Store_countIn_1 (by decide) (mz_iconst (1 : Int32) d_Store_countIn_2 (by decide) (mz_istore_n d_Store_countIn_3 (by decide) (MzS.loc [(0, .ref (mz_ad B (1, 0))), (1, .int a1), (2, .int (0 : Int32)), (3, .int (1 : Int32))] ⟨rfl, rfl, rfl, rfl, trivial⟩ (match h with | ⟨r1, h2⟩ => tm_Store_countIn_4 hF   r1 a1 (0 : Int32) (1 : Int32) M hL h2)))))))
def mm_Store_isCurrent : MzT := (⟨"ParcelLine$Store", "isCurrent", "(I)Z"⟩, prog_12_method_10_code, 3, (Option.some Jvm.ClassFile.FieldType.boolean))
theorem cs_Store_isCurrent {mm : MzT} : mzCall mm mm_Store_isCurrent 1 := ⟨wn_Store, wco_Store_isCurrent, by decide +kernel, by decide⟩
theorem d_Store_isCurrent_0 : decode mm_Store_isCurrent.2.1 0 = .ok (.iconst 0, 1) := by decide +kernel
theorem d_Store_isCurrent_1 : decode mm_Store_isCurrent.2.1 1 = .ok (.istore_n 2, 1) := by decide +kernel
theorem d_Store_isCurrent_2 : decode mm_Store_isCurrent.2.1 2 = .ok (.iload_n 2, 1) := by decide +kernel
theorem d_Store_isCurrent_3 : decode mm_Store_isCurrent.2.1 3 = .ok (.iconst 2, 1) := by decide +kernel
theorem d_Store_isCurrent_4 : decode mm_Store_isCurrent.2.1 4 = .ok (.if_icmp .ge 21, 3) := by decide +kernel
theorem d_Store_isCurrent_7 : decode mm_Store_isCurrent.2.1 7 = .ok (.aload_n 0, 1) := by decide +kernel
theorem d_Store_isCurrent_8 : decode mm_Store_isCurrent.2.1 8 = .ok (.getfield 25, 3) := by decide +kernel
theorem d_Store_isCurrent_11 : decode mm_Store_isCurrent.2.1 11 = .ok (.iload_n 2, 1) := by decide +kernel
theorem d_Store_isCurrent_12 : decode mm_Store_isCurrent.2.1 12 = .ok (.iaload, 1) := by decide +kernel
theorem d_Store_isCurrent_13 : decode mm_Store_isCurrent.2.1 13 = .ok (.iload_n 1, 1) := by decide +kernel
theorem d_Store_isCurrent_14 : decode mm_Store_isCurrent.2.1 14 = .ok (.if_icmp .ne 5, 3) := by decide +kernel
theorem d_Store_isCurrent_17 : decode mm_Store_isCurrent.2.1 17 = .ok (.iconst 1, 1) := by decide +kernel
theorem d_Store_isCurrent_18 : decode mm_Store_isCurrent.2.1 18 = .ok (.ireturn, 1) := by decide +kernel
theorem d_Store_isCurrent_19 : decode mm_Store_isCurrent.2.1 19 = .ok (.iinc 2 1, 3) := by decide +kernel
theorem d_Store_isCurrent_22 : decode mm_Store_isCurrent.2.1 22 = .ok (.goto (-20), 3) := by decide +kernel
theorem d_Store_isCurrent_25 : decode mm_Store_isCurrent.2.1 25 = .ok (.iconst 0, 1) := by decide +kernel
theorem d_Store_isCurrent_26 : decode mm_Store_isCurrent.2.1 26 = .ok (.ireturn, 1) := by decide +kernel
def wp_Store_isCurrent_2   (K : Int32 → MzM → Prop) : Nat → Int32 → Int32 → MzM → Prop
  | 0, _, _, _ => False
  | r0 + 1, y1, y2, M => (((2 : Int32) ≤ y2 → K (0 : Int32) M) ∧ (¬ (2 : Int32) ≤ y2 → (∃ j3 : Nat, y2.toInt = (j3 : Int) ∧ j3 < 2 ∧ ((¬ (mz_i M (6, 0) j3) = y1 → (wp_Store_isCurrent_2   K r0) y1 (y2 + (1 : Int32)) M) ∧ ((mz_i M (6, 0) j3) = y1 → K (1 : Int32) M)))))
def wp_Store_isCurrent  (a1 : Int32) (M : MzM) (K : Int32 → MzM → Prop) : Prop := (∃ r1 : Nat, wp_Store_isCurrent_2   K r1 a1 (0 : Int32) M)
theorem tm_Store_isCurrent_2 {G : MzG} {B : MzB} {d : Nat} {K : Int32 → MzM → Prop} (hF : mzLive B)     : ∀ (r0 : Nat) (y1 : Int32) (y2 : Int32) (M : MzM), mzLnk M → wp_Store_isCurrent_2   K r0 y1 y2 M → MzS G B d mm_Store_isCurrent M (0, 0) (mzK1 B K) 2 [(0, .ref (mz_ad B (1, 0))), (1, .int y1), (2, .int y2)] [] := by
  intro r0
  induction r0 with
  | zero => intro y1 y2 M hL h; exact False.elim h
  | succ r0 hH2 =>
    intro y1 y2 M hL h
    unfold wp_Store_isCurrent_2 at h
    exact (mz_iload_n d_Store_isCurrent_2 rfl (mz_iconst (2 : Int32) d_Store_isCurrent_3 (by decide) (mz_icmp_ge 25 d_Store_isCurrent_4 rfl (fun hc8 => (mz_iconst (0 : Int32) d_Store_isCurrent_25 (by decide) (mz_iret .boolean d_Store_isCurrent_26 rfl rfl ⟨rfl, hL, _, rfl, (h.1 hc8)⟩))) (fun hc8 => (mz_aload_n d_Store_isCurrent_7 rfl (mz_getR (k := 1) (a := (6, 0)) cl_1 d_Store_isCurrent_8 (by decide) wf_Store_25 rfl (hF 1 0 (by decide)) rfl (hL (1, 0) 1 (6, 0) rfl (by decide)) (mz_iload_n d_Store_isCurrent_11 rfl (match (h.2 hc8) with | ⟨j3, h4, h5, h6⟩ => mz_iald j3 d_Store_isCurrent_12 (hF 6 0 (by decide)) rfl h4 h5 (mz_iload_n d_Store_isCurrent_13 rfl (mz_icmp_ne 19 d_Store_isCurrent_14 rfl (fun hc7 => (mz_iinc (y2 + (1 : Int32)) d_Store_isCurrent_19 rfl (by decide) rfl (mz_goto 2 d_Store_isCurrent_22 rfl (MzS.loc [(0, .ref (mz_ad B (1, 0))), (1, .int y1), (2, .int (y2 + (1 : Int32)))] ⟨rfl, rfl, rfl, trivial⟩ (hH2 y1 (y2 + (1 : Int32)) M hL (h6.1 hc7)))))) (fun hc7 => (mz_iconst (1 : Int32) d_Store_isCurrent_17 (by decide) (mz_iret .boolean d_Store_isCurrent_18 rfl rfl ⟨rfl, hL, _, rfl, (h6.2 hc7)⟩)))))))))))))
theorem tm_Store_isCurrent {G : MzG} {B : MzB} {d : Nat} {K : Int32 → MzM → Prop} (hF : mzLive B)   {a1 : Int32} {M : MzM} (hL : mzLnk M) (h : wp_Store_isCurrent  a1 M K) : MzC G B d mm_Store_isCurrent [.ref (mz_ad B (1, 0)), .int a1] M (0, 0) (mzK1 B K) := by
  unfold wp_Store_isCurrent at h
  exact MzC.of rfl (Nat.le_of_ble_eq_true rfl) (show MzS G B d mm_Store_isCurrent M (0, 0) (mzK1 B K) 0 [(0, .ref (mz_ad B (1, 0))), (1, .int a1)] [] from (mz_iconst (0 : Int32) d_Store_isCurrent_0 (by decide) (mz_istore_n d_Store_isCurrent_1 (by decide) (MzS.loc [(0, .ref (mz_ad B (1, 0))), (1, .int a1), (2, .int (0 : Int32))] ⟨rfl, rfl, rfl, trivial⟩ (match h with | ⟨r1, h2⟩ => tm_Store_isCurrent_2 hF   r1 a1 (0 : Int32) M hL h2)))))
def mm_Ses_removeDirectory : MzT := (⟨"ParcelLine$Session", "removeDirectory", "()I"⟩, prog_11_method_28_code, 1, (Option.some Jvm.ClassFile.FieldType.int))
theorem cs_Ses_removeDirectory {mm : MzT} : mzCall mm mm_Ses_removeDirectory 0 := ⟨wn_Ses, wco_Ses_removeDirectory, by decide +kernel, by decide⟩
theorem d_Ses_removeDirectory_0 : decode mm_Ses_removeDirectory.2.1 0 = .ok (.aload_n 0, 1) := by decide +kernel
theorem d_Ses_removeDirectory_1 : decode mm_Ses_removeDirectory.2.1 1 = .ok (.getfield 15, 3) := by decide +kernel
theorem d_Ses_removeDirectory_4 : decode mm_Ses_removeDirectory.2.1 4 = .ok (.aload_n 0, 1) := by decide +kernel
theorem d_Ses_removeDirectory_5 : decode mm_Ses_removeDirectory.2.1 5 = .ok (.getfield 56, 3) := by decide +kernel
theorem d_Ses_removeDirectory_8 : decode mm_Ses_removeDirectory.2.1 8 = .ok (.invokevirtual 257, 3) := by decide +kernel
theorem d_Ses_removeDirectory_11 : decode mm_Ses_removeDirectory.2.1 11 = .ok (.ifCond .eq 10, 3) := by decide +kernel
theorem d_Ses_removeDirectory_14 : decode mm_Ses_removeDirectory.2.1 14 = .ok (.aload_n 0, 1) := by decide +kernel
theorem d_Ses_removeDirectory_15 : decode mm_Ses_removeDirectory.2.1 15 = .ok (.getfield 56, 3) := by decide +kernel
theorem d_Ses_removeDirectory_18 : decode mm_Ses_removeDirectory.2.1 18 = .ok (.ifCond .ne 7, 3) := by decide +kernel
theorem d_Ses_removeDirectory_21 : decode mm_Ses_removeDirectory.2.1 21 = .ok (.sipush 550, 3) := by decide +kernel
theorem d_Ses_removeDirectory_24 : decode mm_Ses_removeDirectory.2.1 24 = .ok (.ireturn, 1) := by decide +kernel
theorem d_Ses_removeDirectory_25 : decode mm_Ses_removeDirectory.2.1 25 = .ok (.aload_n 0, 1) := by decide +kernel
theorem d_Ses_removeDirectory_26 : decode mm_Ses_removeDirectory.2.1 26 = .ok (.getfield 15, 3) := by decide +kernel
theorem d_Ses_removeDirectory_29 : decode mm_Ses_removeDirectory.2.1 29 = .ok (.aload_n 0, 1) := by decide +kernel
theorem d_Ses_removeDirectory_30 : decode mm_Ses_removeDirectory.2.1 30 = .ok (.getfield 56, 3) := by decide +kernel
theorem d_Ses_removeDirectory_33 : decode mm_Ses_removeDirectory.2.1 33 = .ok (.invokevirtual 360, 3) := by decide +kernel
theorem d_Ses_removeDirectory_36 : decode mm_Ses_removeDirectory.2.1 36 = .ok (.ifCond .gt 17, 3) := by decide +kernel
theorem d_Ses_removeDirectory_39 : decode mm_Ses_removeDirectory.2.1 39 = .ok (.aload_n 0, 1) := by decide +kernel
theorem d_Ses_removeDirectory_40 : decode mm_Ses_removeDirectory.2.1 40 = .ok (.getfield 15, 3) := by decide +kernel
theorem d_Ses_removeDirectory_43 : decode mm_Ses_removeDirectory.2.1 43 = .ok (.aload_n 0, 1) := by decide +kernel
theorem d_Ses_removeDirectory_44 : decode mm_Ses_removeDirectory.2.1 44 = .ok (.getfield 56, 3) := by decide +kernel
theorem d_Ses_removeDirectory_47 : decode mm_Ses_removeDirectory.2.1 47 = .ok (.invokevirtual 363, 3) := by decide +kernel
theorem d_Ses_removeDirectory_50 : decode mm_Ses_removeDirectory.2.1 50 = .ok (.ifCond .eq 7, 3) := by decide +kernel
theorem d_Ses_removeDirectory_53 : decode mm_Ses_removeDirectory.2.1 53 = .ok (.sipush 550, 3) := by decide +kernel
theorem d_Ses_removeDirectory_56 : decode mm_Ses_removeDirectory.2.1 56 = .ok (.ireturn, 1) := by decide +kernel
theorem d_Ses_removeDirectory_57 : decode mm_Ses_removeDirectory.2.1 57 = .ok (.aload_n 0, 1) := by decide +kernel
theorem d_Ses_removeDirectory_58 : decode mm_Ses_removeDirectory.2.1 58 = .ok (.getfield 15, 3) := by decide +kernel
theorem d_Ses_removeDirectory_61 : decode mm_Ses_removeDirectory.2.1 61 = .ok (.getfield 190, 3) := by decide +kernel
theorem d_Ses_removeDirectory_64 : decode mm_Ses_removeDirectory.2.1 64 = .ok (.aload_n 0, 1) := by decide +kernel
theorem d_Ses_removeDirectory_65 : decode mm_Ses_removeDirectory.2.1 65 = .ok (.getfield 56, 3) := by decide +kernel
theorem d_Ses_removeDirectory_68 : decode mm_Ses_removeDirectory.2.1 68 = .ok (.aaload, 1) := by decide +kernel
theorem d_Ses_removeDirectory_69 : decode mm_Ses_removeDirectory.2.1 69 = .ok (.iconst 0, 1) := by decide +kernel
theorem d_Ses_removeDirectory_70 : decode mm_Ses_removeDirectory.2.1 70 = .ok (.putfield 357, 3) := by decide +kernel
theorem d_Ses_removeDirectory_73 : decode mm_Ses_removeDirectory.2.1 73 = .ok (.sipush 250, 3) := by decide +kernel
theorem d_Ses_removeDirectory_76 : decode mm_Ses_removeDirectory.2.1 76 = .ok (.ireturn, 1) := by decide +kernel
def wp_Ses_removeDirectory (x : Nat)  (M : MzM) (K : Int32 → MzM → Prop) : Prop := wp_Store_isDirectory  (mz_i M (8, x) 12) M (fun v4 M1 => ((v4 = 0 → K (550 : Int32) M1) ∧ (¬ v4 = 0 → ((¬ (mz_i M1 (8, x) 12) = 0 → wp_Store_countIn  (mz_i M1 (8, x) 12) M1 (fun v8 M5 => ((0 < v8 → K (550 : Int32) M5) ∧ (¬ 0 < v8 → wp_Store_isCurrent  (mz_i M5 (8, x) 12) M5 (fun v12 M9 => ((v12 = 0 → (∃ j13 : Nat, (mz_i M9 (8, x) 12).toInt = (j13 : Int) ∧ j13 < 16 ∧ (∀ M17 : MzM, M17 = mz_si M9 (3, j13) 1 (0 : Int32) → K (250 : Int32) M17))) ∧ (¬ v12 = 0 → K (550 : Int32) M9))))))) ∧ ((mz_i M1 (8, x) 12) = 0 → K (550 : Int32) M1)))))
theorem tm_Ses_removeDirectory {G : MzG} {B : MzB} {d : Nat} {K : Int32 → MzM → Prop} (hF : mzLive B) {x : Nat} (hx : x < 2)  {M : MzM} (hL : mzLnk M) (h : wp_Ses_removeDirectory x  M K) : MzC G B (d + 2) mm_Ses_removeDirectory [.ref (mz_ad B (8, x))] M (0, 0) (mzK1 B K) := by
  unfold wp_Ses_removeDirectory at h
  exact MzC.of rfl (Nat.le_of_ble_eq_true rfl) (show MzS G B (d + 2) mm_Ses_removeDirectory M (0, 0) (mzK1 B K) 0 [(0, .ref (mz_ad B (8, x)))] [] from (mz_aload_n d_Ses_removeDirectory_0 rfl (mz_getR (k := 1) (a := (1, 0)) cl_4 d_Ses_removeDirectory_1 (by decide) wf_Ses_15 rfl (hF 8 x hx) rfl (hL (8, x) 1 (1, 0) rfl hx) (mz_aload_n d_Ses_removeDirectory_4 rfl (mz_getI (k := 12) cl_4 d_Ses_removeDirectory_5 (by decide) wf_Ses_56 rfl (hF 8 x hx) rfl (mz_callV (As := [.int (mz_i M (8, x) 12)]) (st := []) (hF 1 0 (by decide)) rfl (mzClOf cl_1) 0 0 d_Ses_removeDirectory_8 cs_Store_isDirectory wl_Ses_257 wi_Store_isDirectory wse_Store_isDirectory (Nat.le_of_ble_eq_true rfl) (Nat.le_refl _) (Nat.le_refl _) (MzC.mono (tm_Store_isDirectory (d := (d + 1)) hF  hL h) (fun r9 B9 M1 hq3 => by obtain ⟨rfl, hL2, v4, rfl, hq3⟩ := hq3; exact ⟨_, rfl, (mz_if_eq 21 d_Ses_removeDirectory_11 rfl (fun hc21 => (mz_sipush (550 : Int32) d_Ses_removeDirectory_21 (by decide) (mz_iret .int d_Ses_removeDirectory_24 rfl rfl ⟨rfl, hL2, _, rfl, (hq3.1 hc21)⟩))) (fun hc21 => (mz_aload_n d_Ses_removeDirectory_14 rfl (mz_getI (k := 12) cl_4 d_Ses_removeDirectory_15 (by decide) wf_Ses_56 rfl (hF 8 x hx) rfl (mz_if_ne 25 d_Ses_removeDirectory_18 rfl (fun hc20 => (mz_aload_n d_Ses_removeDirectory_25 rfl (mz_getR (k := 1) (a := (1, 0)) cl_4 d_Ses_removeDirectory_26 (by decide) wf_Ses_15 rfl (hF 8 x hx) rfl (hL2 (8, x) 1 (1, 0) rfl hx) (mz_aload_n d_Ses_removeDirectory_29 rfl (mz_getI (k := 12) cl_4 d_Ses_removeDirectory_30 (by decide) wf_Ses_56 rfl (hF 8 x hx) rfl (mz_callV (As := [.int (mz_i M1 (8, x) 12)]) (st := []) (hF 1 0 (by decide)) rfl (mzClOf cl_1) 0 0 d_Ses_removeDirectory_33 cs_Store_countIn wl_Ses_360 wi_Store_countIn wse_Store_countIn (Nat.le_of_ble_eq_true rfl) (Nat.le_refl _) (Nat.le_refl _) (MzC.mono (tm_Store_countIn (d := d) hF  hL2 ((hq3.2 hc21).1 hc20)) (fun r9 B9 M5 hq7 => by obtain ⟨rfl, hL6, v8, rfl, hq7⟩ := hq7; exact ⟨_, rfl, (mz_if_gt 53 d_Ses_removeDirectory_36 rfl (fun hc19 => (mz_sipush (550 : Int32) d_Ses_removeDirectory_53 (by decide) (mz_iret .int d_Ses_removeDirectory_56 rfl rfl ⟨rfl, hL6, _, rfl, (hq7.1 hc19)⟩))) (fun hc19 => (mz_aload_n d_Ses_removeDirectory_39 rfl (mz_getR (k := 1) (a := (1, 0)) cl_4 d_Ses_removeDirectory_40 (by decide) wf_Ses_15 rfl (hF 8 x hx) rfl (hL6 (8, x) 1 (1, 0) rfl hx) (mz_aload_n d_Ses_removeDirectory_43 rfl (mz_getI (k := 12) cl_4 d_Ses_removeDirectory_44 (by decide) wf_Ses_56 rfl (hF 8 x hx) rfl (mz_callV (As := [.int (mz_i M5 (8, x) 12)]) (st := []) (hF 1 0 (by decide)) rfl (mzClOf cl_1) 0 0 d_Ses_removeDirectory_47 cs_Store_isCurrent wl_Ses_363 wi_Store_isCurrent wse_Store_isCurrent (Nat.le_of_ble_eq_true rfl) (Nat.le_refl _) (Nat.le_refl _) (MzC.mono (tm_Store_isCurrent (d := (d + 1)) hF  hL6 (hq7.2 hc19)) (fun r9 B9 M9 hq11 => by obtain ⟨rfl, hL10, v12, rfl, hq11⟩ := hq11; exact ⟨_, rfl, (mz_if_eq 57 d_Ses_removeDirectory_50 rfl (fun hc18 => (mz_aload_n d_Ses_removeDirectory_57 rfl (mz_getR (k := 1) (a := (1, 0)) cl_4 d_Ses_removeDirectory_58 (by decide) wf_Ses_15 rfl (hF 8 x hx) rfl (hL10 (8, x) 1 (1, 0) rfl hx) (mz_getRN (k := 0) (a := (2, 0)) cl_1 d_Ses_removeDirectory_61 (by decide) wf_Ses_190 rfl (hF 1 0 (by decide)) rfl (hL10 (1, 0) 0 (2, 0) rfl (by decide)) (mz_aload_n d_Ses_removeDirectory_64 rfl (mz_getI (k := 12) cl_4 d_Ses_removeDirectory_65 (by decide) wf_Ses_56 rfl (hF 8 x hx) rfl (match (hq11.1 hc18) with | ⟨j13, h14, h15, h16⟩ => mz_aald (a := (3, j13)) j13 d_Ses_removeDirectory_68 (hF 2 0 (by decide)) rfl h14 h15 (hL10 (2, 0) j13 (3, j13) (mzLk_2 h15) (by decide)) (mz_iconst (0 : Int32) d_Ses_removeDirectory_69 (by decide) (mz_putIN (k := 1) cl_2 d_Ses_removeDirectory_70 (by decide) wf_Ses_357 rfl rfl rfl rfl (hF 3 j13 h15) rfl (let M17 : MzM := mz_si M9 (3, j13) 1 (0 : Int32); (mz_sipush (250 : Int32) d_Ses_removeDirectory_73 (by decide) (mz_iret .int d_Ses_removeDirectory_76 rfl rfl ⟨rfl, hL10, _, rfl, (h16 M17 rfl)⟩)))))))))))) (fun hc18 => (mz_sipush (550 : Int32) d_Ses_removeDirectory_53 (by decide) (mz_iret .int d_Ses_removeDirectory_56 rfl rfl ⟨rfl, hL10, _, rfl, (hq11.2 hc18)⟩))))⟩)))))))))⟩)))))))) (fun hc20 => (mz_sipush (550 : Int32) d_Ses_removeDirectory_21 (by decide) (mz_iret .int d_Ses_removeDirectory_24 rfl rfl ⟨rfl, hL2, _, rfl, ((hq3.2 hc21).2 hc20)⟩))))))))⟩))))))))
def mm_Ses_chooseForRename : MzT := (⟨"ParcelLine$Session", "chooseForRename", "()I"⟩, prog_11_method_29_code, 1, (Option.some Jvm.ClassFile.FieldType.int))
theorem cs_Ses_chooseForRename {mm : MzT} : mzCall mm mm_Ses_chooseForRename 0 := ⟨wn_Ses, wco_Ses_chooseForRename, by decide +kernel, by decide⟩
theorem d_Ses_chooseForRename_0 : decode mm_Ses_chooseForRename.2.1 0 = .ok (.aload_n 0, 1) := by decide +kernel
theorem d_Ses_chooseForRename_1 : decode mm_Ses_chooseForRename.2.1 1 = .ok (.getfield 56, 3) := by decide +kernel
theorem d_Ses_chooseForRename_4 : decode mm_Ses_chooseForRename.2.1 4 = .ok (.iconst (-1), 1) := by decide +kernel
theorem d_Ses_chooseForRename_5 : decode mm_Ses_chooseForRename.2.1 5 = .ok (.if_icmp .eq 10, 3) := by decide +kernel
theorem d_Ses_chooseForRename_8 : decode mm_Ses_chooseForRename.2.1 8 = .ok (.aload_n 0, 1) := by decide +kernel
theorem d_Ses_chooseForRename_9 : decode mm_Ses_chooseForRename.2.1 9 = .ok (.getfield 56, 3) := by decide +kernel
theorem d_Ses_chooseForRename_12 : decode mm_Ses_chooseForRename.2.1 12 = .ok (.ifCond .ne 7, 3) := by decide +kernel
theorem d_Ses_chooseForRename_15 : decode mm_Ses_chooseForRename.2.1 15 = .ok (.sipush 550, 3) := by decide +kernel
theorem d_Ses_chooseForRename_18 : decode mm_Ses_chooseForRename.2.1 18 = .ok (.ireturn, 1) := by decide +kernel
theorem d_Ses_chooseForRename_19 : decode mm_Ses_chooseForRename.2.1 19 = .ok (.aload_n 0, 1) := by decide +kernel
theorem d_Ses_chooseForRename_20 : decode mm_Ses_chooseForRename.2.1 20 = .ok (.aload_n 0, 1) := by decide +kernel
theorem d_Ses_chooseForRename_21 : decode mm_Ses_chooseForRename.2.1 21 = .ok (.getfield 56, 3) := by decide +kernel
theorem d_Ses_chooseForRename_24 : decode mm_Ses_chooseForRename.2.1 24 = .ok (.putfield 53, 3) := by decide +kernel
theorem d_Ses_chooseForRename_27 : decode mm_Ses_chooseForRename.2.1 27 = .ok (.sipush 350, 3) := by decide +kernel
theorem d_Ses_chooseForRename_30 : decode mm_Ses_chooseForRename.2.1 30 = .ok (.ireturn, 1) := by decide +kernel
def wp_Ses_chooseForRename (x : Nat)  (M : MzM) (K : Int32 → MzM → Prop) : Prop := (((mz_i M (8, x) 12) = (-1 : Int32) → K (550 : Int32) M) ∧ (¬ (mz_i M (8, x) 12) = (-1 : Int32) → ((¬ (mz_i M (8, x) 12) = 0 → (∀ M1 : MzM, M1 = mz_si M (8, x) 10 (mz_i M (8, x) 12) → K (350 : Int32) M1)) ∧ ((mz_i M (8, x) 12) = 0 → K (550 : Int32) M))))
theorem tm_Ses_chooseForRename {G : MzG} {B : MzB} {d : Nat} {K : Int32 → MzM → Prop} (hF : mzLive B) {x : Nat} (hx : x < 2)  {M : MzM} (hL : mzLnk M) (h : wp_Ses_chooseForRename x  M K) : MzC G B d mm_Ses_chooseForRename [.ref (mz_ad B (8, x))] M (0, 0) (mzK1 B K) := by
  unfold wp_Ses_chooseForRename at h
  exact MzC.of rfl (Nat.le_of_ble_eq_true rfl) (show MzS G B d mm_Ses_chooseForRename M (0, 0) (mzK1 B K) 0 [(0, .ref (mz_ad B (8, x)))] [] from (mz_aload_n d_Ses_chooseForRename_0 rfl (mz_getI (k := 12) cl_4 d_Ses_chooseForRename_1 (by decide) wf_Ses_56 rfl (hF 8 x hx) rfl (mz_iconst (-1 : Int32) d_Ses_chooseForRename_4 (by decide) (mz_icmp_eq 15 d_Ses_chooseForRename_5 rfl (fun hc3 => (mz_sipush (550 : Int32) d_Ses_chooseForRename_15 (by decide) (mz_iret .int d_Ses_chooseForRename_18 rfl rfl ⟨rfl, hL, _, rfl, (h.1 hc3)⟩))) (fun hc3 => (mz_aload_n d_Ses_chooseForRename_8 rfl (mz_getI (k := 12) cl_4 d_Ses_chooseForRename_9 (by decide) wf_Ses_56 rfl (hF 8 x hx) rfl (mz_if_ne 19 d_Ses_chooseForRename_12 rfl (fun hc2 => (mz_aload_n d_Ses_chooseForRename_19 rfl (mz_aload_n d_Ses_chooseForRename_20 rfl (mz_getI (k := 12) cl_4 d_Ses_chooseForRename_21 (by decide) wf_Ses_56 rfl (hF 8 x hx) rfl (mz_putI (k := 10) cl_4 d_Ses_chooseForRename_24 (by decide) wf_Ses_53 rfl rfl rfl rfl (hF 8 x hx) rfl (let M1 : MzM := mz_si M (8, x) 10 (mz_i M (8, x) 12); (mz_sipush (350 : Int32) d_Ses_chooseForRename_27 (by decide) (mz_iret .int d_Ses_chooseForRename_30 rfl rfl ⟨rfl, hL, _, rfl, (((h.2 hc3).1 hc2) M1 rfl)⟩)))))))) (fun hc2 => (mz_sipush (550 : Int32) d_Ses_chooseForRename_15 (by decide) (mz_iret .int d_Ses_chooseForRename_18 rfl rfl ⟨rfl, hL, _, rfl, ((h.2 hc3).2 hc2)⟩))))))))))))
def mm_Store_isThere : MzT := (⟨"ParcelLine$Store", "isThere", "(I)Z"⟩, prog_12_method_2_code, 2, (Option.some Jvm.ClassFile.FieldType.boolean))
theorem cs_Store_isThere {mm : MzT} : mzCall mm mm_Store_isThere 1 := ⟨wn_Store, wco_Store_isThere, by decide +kernel, by decide⟩
theorem d_Store_isThere_0 : decode mm_Store_isThere.2.1 0 = .ok (.iload_n 1, 1) := by decide +kernel
theorem d_Store_isThere_1 : decode mm_Store_isThere.2.1 1 = .ok (.ifCond .lt 25, 3) := by decide +kernel
theorem d_Store_isThere_4 : decode mm_Store_isThere.2.1 4 = .ok (.iload_n 1, 1) := by decide +kernel
theorem d_Store_isThere_5 : decode mm_Store_isThere.2.1 5 = .ok (.bipush 16, 2) := by decide +kernel
theorem d_Store_isThere_7 : decode mm_Store_isThere.2.1 7 = .ok (.if_icmp .ge 19, 3) := by decide +kernel
theorem d_Store_isThere_10 : decode mm_Store_isThere.2.1 10 = .ok (.aload_n 0, 1) := by decide +kernel
theorem d_Store_isThere_11 : decode mm_Store_isThere.2.1 11 = .ok (.getfield 11, 3) := by decide +kernel
theorem d_Store_isThere_14 : decode mm_Store_isThere.2.1 14 = .ok (.iload_n 1, 1) := by decide +kernel
theorem d_Store_isThere_15 : decode mm_Store_isThere.2.1 15 = .ok (.aaload, 1) := by decide +kernel
theorem d_Store_isThere_16 : decode mm_Store_isThere.2.1 16 = .ok (.getfield 18, 3) := by decide +kernel
theorem d_Store_isThere_19 : decode mm_Store_isThere.2.1 19 = .ok (.ifCond .eq 7, 3) := by decide +kernel
theorem d_Store_isThere_22 : decode mm_Store_isThere.2.1 22 = .ok (.iconst 1, 1) := by decide +kernel
theorem d_Store_isThere_23 : decode mm_Store_isThere.2.1 23 = .ok (.goto 4, 3) := by decide +kernel
theorem d_Store_isThere_26 : decode mm_Store_isThere.2.1 26 = .ok (.iconst 0, 1) := by decide +kernel
theorem d_Store_isThere_27 : decode mm_Store_isThere.2.1 27 = .ok (.ireturn, 1) := by decide +kernel
def wp_Store_isThere  (a1 : Int32) (M : MzM) (K : Int32 → MzM → Prop) : Prop := ((a1 < 0 → K (0 : Int32) M) ∧ (¬ a1 < 0 → (((16 : Int32) ≤ a1 → K (0 : Int32) M) ∧ (¬ (16 : Int32) ≤ a1 → (∃ j1 : Nat, a1.toInt = (j1 : Int) ∧ j1 < 16 ∧ (((mz_i M (3, j1) 1) = 0 → K (0 : Int32) M) ∧ (¬ (mz_i M (3, j1) 1) = 0 → K (1 : Int32) M)))))))
theorem tm_Store_isThere {G : MzG} {B : MzB} {d : Nat} {K : Int32 → MzM → Prop} (hF : mzLive B)   {a1 : Int32} {M : MzM} (hL : mzLnk M) (h : wp_Store_isThere  a1 M K) : MzC G B d mm_Store_isThere [.ref (mz_ad B (1, 0)), .int a1] M (0, 0) (mzK1 B K) := by
  unfold wp_Store_isThere at h
  exact MzC.of rfl (Nat.le_of_ble_eq_true rfl) (show MzS G B d mm_Store_isThere M (0, 0) (mzK1 B K) 0 [(0, .ref (mz_ad B (1, 0))), (1, .int a1)] [] from (mz_iload_n d_Store_isThere_0 rfl (mz_if_lt 26 d_Store_isThere_1 rfl (fun hc7 => (mz_iconst (0 : Int32) d_Store_isThere_26 (by decide) (mz_iret .boolean d_Store_isThere_27 rfl rfl ⟨rfl, hL, _, rfl, (h.1 hc7)⟩))) (fun hc7 => (mz_iload_n d_Store_isThere_4 rfl (mz_bipush (16 : Int32) d_Store_isThere_5 (by decide) (mz_icmp_ge 26 d_Store_isThere_7 rfl (fun hc6 => (mz_iconst (0 : Int32) d_Store_isThere_26 (by decide) (mz_iret .boolean d_Store_isThere_27 rfl rfl ⟨rfl, hL, _, rfl, ((h.2 hc7).1 hc6)⟩))) (fun hc6 => (mz_aload_n d_Store_isThere_10 rfl (mz_getR (k := 0) (a := (2, 0)) cl_1 d_Store_isThere_11 (by decide) wf_Store_11 rfl (hF 1 0 (by decide)) rfl (hL (1, 0) 0 (2, 0) rfl (by decide)) (mz_iload_n d_Store_isThere_14 rfl (match ((h.2 hc7).2 hc6) with | ⟨j1, h2, h3, h4⟩ => mz_aald (a := (3, j1)) j1 d_Store_isThere_15 (hF 2 0 (by decide)) rfl h2 h3 (hL (2, 0) j1 (3, j1) (mzLk_2 h3) (by decide)) (mz_getIN (k := 1) cl_2 d_Store_isThere_16 (by decide) wf_Store_18 rfl (hF 3 j1 h3) rfl (mz_if_eq 26 d_Store_isThere_19 rfl (fun hc5 => (mz_iconst (0 : Int32) d_Store_isThere_26 (by decide) (mz_iret .boolean d_Store_isThere_27 rfl rfl ⟨rfl, hL, _, rfl, (h4.1 hc5)⟩))) (fun hc5 => (mz_iconst (1 : Int32) d_Store_isThere_22 (by decide) (mz_goto 27 d_Store_isThere_23 rfl (mz_iret .boolean d_Store_isThere_27 rfl rfl ⟨rfl, hL, _, rfl, (h4.2 hc5)⟩))))))))))))))))))
def mm_Store_isWithin : MzT := (⟨"ParcelLine$Store", "isWithin", "(II)Z"⟩, prog_12_method_11_code, 5, (Option.some Jvm.ClassFile.FieldType.boolean))
theorem cs_Store_isWithin {mm : MzT} : mzCall mm mm_Store_isWithin 2 := ⟨wn_Store, wco_Store_isWithin, by decide +kernel, by decide⟩
theorem d_Store_isWithin_0 : decode mm_Store_isWithin.2.1 0 = .ok (.iload_n 1, 1) := by decide +kernel
theorem d_Store_isWithin_1 : decode mm_Store_isWithin.2.1 1 = .ok (.istore_n 3, 1) := by decide +kernel
theorem d_Store_isWithin_2 : decode mm_Store_isWithin.2.1 2 = .ok (.iconst 0, 1) := by decide +kernel
theorem d_Store_isWithin_3 : decode mm_Store_isWithin.2.1 3 = .ok (.istore 4, 2) := by decide +kernel
theorem d_Store_isWithin_5 : decode mm_Store_isWithin.2.1 5 = .ok (.iload 4, 2) := by decide +kernel
theorem d_Store_isWithin_7 : decode mm_Store_isWithin.2.1 7 = .ok (.bipush 16, 2) := by decide +kernel
theorem d_Store_isWithin_9 : decode mm_Store_isWithin.2.1 9 = .ok (.if_icmp .ge 36, 3) := by decide +kernel
theorem d_Store_isWithin_12 : decode mm_Store_isWithin.2.1 12 = .ok (.iload_n 3, 1) := by decide +kernel
theorem d_Store_isWithin_13 : decode mm_Store_isWithin.2.1 13 = .ok (.ifCond .le 32, 3) := by decide +kernel
theorem d_Store_isWithin_16 : decode mm_Store_isWithin.2.1 16 = .ok (.iload_n 3, 1) := by decide +kernel
theorem d_Store_isWithin_17 : decode mm_Store_isWithin.2.1 17 = .ok (.bipush 16, 2) := by decide +kernel
theorem d_Store_isWithin_19 : decode mm_Store_isWithin.2.1 19 = .ok (.if_icmp .ge 26, 3) := by decide +kernel
theorem d_Store_isWithin_22 : decode mm_Store_isWithin.2.1 22 = .ok (.iload_n 3, 1) := by decide +kernel
theorem d_Store_isWithin_23 : decode mm_Store_isWithin.2.1 23 = .ok (.iload_n 2, 1) := by decide +kernel
theorem d_Store_isWithin_24 : decode mm_Store_isWithin.2.1 24 = .ok (.if_icmp .ne 5, 3) := by decide +kernel
theorem d_Store_isWithin_27 : decode mm_Store_isWithin.2.1 27 = .ok (.iconst 1, 1) := by decide +kernel
theorem d_Store_isWithin_28 : decode mm_Store_isWithin.2.1 28 = .ok (.ireturn, 1) := by decide +kernel
theorem d_Store_isWithin_29 : decode mm_Store_isWithin.2.1 29 = .ok (.aload_n 0, 1) := by decide +kernel
theorem d_Store_isWithin_30 : decode mm_Store_isWithin.2.1 30 = .ok (.getfield 11, 3) := by decide +kernel
theorem d_Store_isWithin_33 : decode mm_Store_isWithin.2.1 33 = .ok (.iload_n 3, 1) := by decide +kernel
theorem d_Store_isWithin_34 : decode mm_Store_isWithin.2.1 34 = .ok (.aaload, 1) := by decide +kernel
theorem d_Store_isWithin_35 : decode mm_Store_isWithin.2.1 35 = .ok (.getfield 22, 3) := by decide +kernel
theorem d_Store_isWithin_38 : decode mm_Store_isWithin.2.1 38 = .ok (.istore_n 3, 1) := by decide +kernel
theorem d_Store_isWithin_39 : decode mm_Store_isWithin.2.1 39 = .ok (.iinc 4 1, 3) := by decide +kernel
theorem d_Store_isWithin_42 : decode mm_Store_isWithin.2.1 42 = .ok (.goto (-37), 3) := by decide +kernel
theorem d_Store_isWithin_45 : decode mm_Store_isWithin.2.1 45 = .ok (.iconst 0, 1) := by decide +kernel
theorem d_Store_isWithin_46 : decode mm_Store_isWithin.2.1 46 = .ok (.ireturn, 1) := by decide +kernel
def wp_Store_isWithin_5   (K : Int32 → MzM → Prop) : Nat → Int32 → Int32 → Int32 → MzM → Prop
  | 0, _, _, _, _ => False
  | r0 + 1, y2, y3, y4, M => (((16 : Int32) ≤ y4 → K (0 : Int32) M) ∧ (¬ (16 : Int32) ≤ y4 → ((y3 ≤ 0 → K (0 : Int32) M) ∧ (¬ y3 ≤ 0 → (((16 : Int32) ≤ y3 → K (0 : Int32) M) ∧ (¬ (16 : Int32) ≤ y3 → ((¬ y3 = y2 → (∃ j3 : Nat, y3.toInt = (j3 : Int) ∧ j3 < 16 ∧ (wp_Store_isWithin_5   K r0) y2 (mz_i M (3, j3) 2) (y4 + (1 : Int32)) M)) ∧ (y3 = y2 → K (1 : Int32) M))))))))
def wp_Store_isWithin  (a1 : Int32) (a2 : Int32) (M : MzM) (K : Int32 → MzM → Prop) : Prop := (∃ r1 : Nat, wp_Store_isWithin_5   K r1 a2 a1 (0 : Int32) M)
theorem tm_Store_isWithin_5 {G : MzG} {B : MzB} {d : Nat} {K : Int32 → MzM → Prop} (hF : mzLive B)     : ∀ (r0 : Nat) (y2 : Int32) (y3 : Int32) (y4 : Int32) (M : MzM), mzLnk M → wp_Store_isWithin_5   K r0 y2 y3 y4 M → MzS G B d mm_Store_isWithin M (0, 0) (mzK1 B K) 5 [(0, .ref (mz_ad B (1, 0))), (2, .int y2), (3, .int y3), (4, .int y4)] [] := by
  intro r0
  induction r0 with
  | zero => intro y2 y3 y4 M hL h; exact False.elim h
  | succ r0 hH5 =>
    intro y2 y3 y4 M hL h
    unfold wp_Store_isWithin_5 at h
    exact (mz_iload d_Store_isWithin_5 rfl (mz_bipush (16 : Int32) d_Store_isWithin_7 (by decide) (mz_icmp_ge 45 d_Store_isWithin_9 rfl (fun hc10 => (mz_iconst (0 : Int32) d_Store_isWithin_45 (by decide) (mz_iret .boolean d_Store_isWithin_46 rfl rfl ⟨rfl, hL, _, rfl, (h.1 hc10)⟩))) (fun hc10 => (mz_iload_n d_Store_isWithin_12 rfl (mz_if_le 45 d_Store_isWithin_13 rfl (fun hc9 => (mz_iconst (0 : Int32) d_Store_isWithin_45 (by decide) (mz_iret .boolean d_Store_isWithin_46 rfl rfl ⟨rfl, hL, _, rfl, ((h.2 hc10).1 hc9)⟩))) (fun hc9 => (mz_iload_n d_Store_isWithin_16 rfl (mz_bipush (16 : Int32) d_Store_isWithin_17 (by decide) (mz_icmp_ge 45 d_Store_isWithin_19 rfl (fun hc8 => (mz_iconst (0 : Int32) d_Store_isWithin_45 (by decide) (mz_iret .boolean d_Store_isWithin_46 rfl rfl ⟨rfl, hL, _, rfl, (((h.2 hc10).2 hc9).1 hc8)⟩))) (fun hc8 => (mz_iload_n d_Store_isWithin_22 rfl (mz_iload_n d_Store_isWithin_23 rfl (mz_icmp_ne 29 d_Store_isWithin_24 rfl (fun hc7 => (mz_aload_n d_Store_isWithin_29 rfl (mz_getR (k := 0) (a := (2, 0)) cl_1 d_Store_isWithin_30 (by decide) wf_Store_11 rfl (hF 1 0 (by decide)) rfl (hL (1, 0) 0 (2, 0) rfl (by decide)) (mz_iload_n d_Store_isWithin_33 rfl (match ((((h.2 hc10).2 hc9).2 hc8).1 hc7) with | ⟨j3, h4, h5, h6⟩ => mz_aald (a := (3, j3)) j3 d_Store_isWithin_34 (hF 2 0 (by decide)) rfl h4 h5 (hL (2, 0) j3 (3, j3) (mzLk_2 h5) (by decide)) (mz_getIN (k := 2) cl_2 d_Store_isWithin_35 (by decide) wf_Store_22 rfl (hF 3 j3 h5) rfl (mz_istore_n d_Store_isWithin_38 (by decide) (mz_iinc (y4 + (1 : Int32)) d_Store_isWithin_39 rfl (by decide) rfl (mz_goto 5 d_Store_isWithin_42 rfl (MzS.loc [(0, .ref (mz_ad B (1, 0))), (2, .int y2), (3, .int (mz_i M (3, j3) 2)), (4, .int (y4 + (1 : Int32)))] ⟨rfl, rfl, rfl, rfl, trivial⟩ (hH5 y2 (mz_i M (3, j3) 2) (y4 + (1 : Int32)) M hL h6))))))))))) (fun hc7 => (mz_iconst (1 : Int32) d_Store_isWithin_27 (by decide) (mz_iret .boolean d_Store_isWithin_28 rfl rfl ⟨rfl, hL, _, rfl, ((((h.2 hc10).2 hc9).2 hc8).2 hc7)⟩)))))))))))))))))
theorem tm_Store_isWithin {G : MzG} {B : MzB} {d : Nat} {K : Int32 → MzM → Prop} (hF : mzLive B)   {a1 : Int32} {a2 : Int32} {M : MzM} (hL : mzLnk M) (h : wp_Store_isWithin  a1 a2 M K) : MzC G B d mm_Store_isWithin [.ref (mz_ad B (1, 0)), .int a1, .int a2] M (0, 0) (mzK1 B K) := by
  unfold wp_Store_isWithin at h
  exact MzC.of rfl (Nat.le_of_ble_eq_true rfl) (show MzS G B d mm_Store_isWithin M (0, 0) (mzK1 B K) 0 [(0, .ref (mz_ad B (1, 0))), (1, .int a1), (2, .int a2)] [] from (mz_iload_n d_Store_isWithin_0 rfl (mz_istore_n d_Store_isWithin_1 (by decide) (mz_iconst (0 : Int32) d_Store_isWithin_2 (by decide) (mz_istore d_Store_isWithin_3 (by decide) (MzS.loc [(0, .ref (mz_ad B (1, 0))), (2, .int a2), (3, .int a1), (4, .int (0 : Int32))] ⟨rfl, rfl, rfl, rfl, trivial⟩ (match h with | ⟨r1, h2⟩ => tm_Store_isWithin_5 hF   r1 a2 a1 (0 : Int32) M hL h2)))))))
def mm_Ses_rename : MzT := (⟨"ParcelLine$Session", "rename", "()I"⟩, prog_11_method_30_code, 2, (Option.some Jvm.ClassFile.FieldType.int))
theorem cs_Ses_rename {mm : MzT} : mzCall mm mm_Ses_rename 0 := ⟨wn_Ses, wco_Ses_rename, by decide +kernel, by decide⟩
theorem d_Ses_rename_0 : decode mm_Ses_rename.2.1 0 = .ok (.aload_n 0, 1) := by decide +kernel
theorem d_Ses_rename_1 : decode mm_Ses_rename.2.1 1 = .ok (.getfield 53, 3) := by decide +kernel
theorem d_Ses_rename_4 : decode mm_Ses_rename.2.1 4 = .ok (.iconst (-1), 1) := by decide +kernel
theorem d_Ses_rename_5 : decode mm_Ses_rename.2.1 5 = .ok (.if_icmp .ne 7, 3) := by decide +kernel
theorem d_Ses_rename_8 : decode mm_Ses_rename.2.1 8 = .ok (.sipush 503, 3) := by decide +kernel
theorem d_Ses_rename_11 : decode mm_Ses_rename.2.1 11 = .ok (.ireturn, 1) := by decide +kernel
theorem d_Ses_rename_12 : decode mm_Ses_rename.2.1 12 = .ok (.aload_n 0, 1) := by decide +kernel
theorem d_Ses_rename_13 : decode mm_Ses_rename.2.1 13 = .ok (.getfield 15, 3) := by decide +kernel
theorem d_Ses_rename_16 : decode mm_Ses_rename.2.1 16 = .ok (.aload_n 0, 1) := by decide +kernel
theorem d_Ses_rename_17 : decode mm_Ses_rename.2.1 17 = .ok (.getfield 53, 3) := by decide +kernel
theorem d_Ses_rename_20 : decode mm_Ses_rename.2.1 20 = .ok (.invokevirtual 366, 3) := by decide +kernel
theorem d_Ses_rename_23 : decode mm_Ses_rename.2.1 23 = .ok (.ifCond .eq 29, 3) := by decide +kernel
theorem d_Ses_rename_26 : decode mm_Ses_rename.2.1 26 = .ok (.aload_n 0, 1) := by decide +kernel
theorem d_Ses_rename_27 : decode mm_Ses_rename.2.1 27 = .ok (.getfield 59, 3) := by decide +kernel
theorem d_Ses_rename_30 : decode mm_Ses_rename.2.1 30 = .ok (.iconst (-1), 1) := by decide +kernel
theorem d_Ses_rename_31 : decode mm_Ses_rename.2.1 31 = .ok (.if_icmp .eq 21, 3) := by decide +kernel
theorem d_Ses_rename_34 : decode mm_Ses_rename.2.1 34 = .ok (.aload_n 0, 1) := by decide +kernel
theorem d_Ses_rename_35 : decode mm_Ses_rename.2.1 35 = .ok (.getfield 15, 3) := by decide +kernel
theorem d_Ses_rename_38 : decode mm_Ses_rename.2.1 38 = .ok (.aload_n 0, 1) := by decide +kernel
theorem d_Ses_rename_39 : decode mm_Ses_rename.2.1 39 = .ok (.getfield 59, 3) := by decide +kernel
theorem d_Ses_rename_42 : decode mm_Ses_rename.2.1 42 = .ok (.aload_n 0, 1) := by decide +kernel
theorem d_Ses_rename_43 : decode mm_Ses_rename.2.1 43 = .ok (.getfield 53, 3) := by decide +kernel
theorem d_Ses_rename_46 : decode mm_Ses_rename.2.1 46 = .ok (.invokevirtual 369, 3) := by decide +kernel
theorem d_Ses_rename_49 : decode mm_Ses_rename.2.1 49 = .ok (.ifCond .eq 7, 3) := by decide +kernel
theorem d_Ses_rename_52 : decode mm_Ses_rename.2.1 52 = .ok (.sipush 550, 3) := by decide +kernel
theorem d_Ses_rename_55 : decode mm_Ses_rename.2.1 55 = .ok (.ireturn, 1) := by decide +kernel
theorem d_Ses_rename_56 : decode mm_Ses_rename.2.1 56 = .ok (.aload_n 0, 1) := by decide +kernel
theorem d_Ses_rename_57 : decode mm_Ses_rename.2.1 57 = .ok (.getfield 15, 3) := by decide +kernel
theorem d_Ses_rename_60 : decode mm_Ses_rename.2.1 60 = .ok (.getfield 190, 3) := by decide +kernel
theorem d_Ses_rename_63 : decode mm_Ses_rename.2.1 63 = .ok (.aload_n 0, 1) := by decide +kernel
theorem d_Ses_rename_64 : decode mm_Ses_rename.2.1 64 = .ok (.getfield 53, 3) := by decide +kernel
theorem d_Ses_rename_67 : decode mm_Ses_rename.2.1 67 = .ok (.aaload, 1) := by decide +kernel
theorem d_Ses_rename_68 : decode mm_Ses_rename.2.1 68 = .ok (.astore_n 1, 1) := by decide +kernel
theorem d_Ses_rename_69 : decode mm_Ses_rename.2.1 69 = .ok (.aload_n 1, 1) := by decide +kernel
theorem d_Ses_rename_70 : decode mm_Ses_rename.2.1 70 = .ok (.invokevirtual 348, 3) := by decide +kernel
theorem d_Ses_rename_73 : decode mm_Ses_rename.2.1 73 = .ok (.ifCond .eq 7, 3) := by decide +kernel
theorem d_Ses_rename_76 : decode mm_Ses_rename.2.1 76 = .ok (.sipush 450, 3) := by decide +kernel
theorem d_Ses_rename_79 : decode mm_Ses_rename.2.1 79 = .ok (.ireturn, 1) := by decide +kernel
theorem d_Ses_rename_80 : decode mm_Ses_rename.2.1 80 = .ok (.aload_n 1, 1) := by decide +kernel
theorem d_Ses_rename_81 : decode mm_Ses_rename.2.1 81 = .ok (.aload_n 0, 1) := by decide +kernel
theorem d_Ses_rename_82 : decode mm_Ses_rename.2.1 82 = .ok (.getfield 59, 3) := by decide +kernel
theorem d_Ses_rename_85 : decode mm_Ses_rename.2.1 85 = .ok (.putfield 373, 3) := by decide +kernel
theorem d_Ses_rename_88 : decode mm_Ses_rename.2.1 88 = .ok (.aload_n 1, 1) := by decide +kernel
theorem d_Ses_rename_89 : decode mm_Ses_rename.2.1 89 = .ok (.aload_n 0, 1) := by decide +kernel
theorem d_Ses_rename_90 : decode mm_Ses_rename.2.1 90 = .ok (.getfield 38, 3) := by decide +kernel
theorem d_Ses_rename_93 : decode mm_Ses_rename.2.1 93 = .ok (.invokevirtual 254, 3) := by decide +kernel
theorem d_Ses_rename_96 : decode mm_Ses_rename.2.1 96 = .ok (.putfield 194, 3) := by decide +kernel
theorem d_Ses_rename_99 : decode mm_Ses_rename.2.1 99 = .ok (.sipush 250, 3) := by decide +kernel
theorem d_Ses_rename_102 : decode mm_Ses_rename.2.1 102 = .ok (.ireturn, 1) := by decide +kernel
def wp_Ses_rename (x : Nat)  (M : MzM) (K : Int32 → MzM → Prop) : Prop := ((¬ (mz_i M (8, x) 10) = (-1 : Int32) → wp_Store_isThere  (mz_i M (8, x) 10) M (fun v4 M1 => ((v4 = 0 → K (550 : Int32) M1) ∧ (¬ v4 = 0 → (((mz_i M1 (8, x) 13) = (-1 : Int32) → K (550 : Int32) M1) ∧ (¬ (mz_i M1 (8, x) 13) = (-1 : Int32) → wp_Store_isWithin  (mz_i M1 (8, x) 13) (mz_i M1 (8, x) 10) M1 (fun v8 M5 => ((v8 = 0 → (∃ j9 : Nat, (mz_i M5 (8, x) 10).toInt = (j9 : Int) ∧ j9 < 16 ∧ wp_Node_isBusy j9  M5 (fun v16 M13 => ((v16 = 0 → (∀ M17 : MzM, M17 = mz_si M13 (3, j9) 2 (mz_i M13 (8, x) 13) → wp_Path_newName x  M17 (fun v21 M18 => (∀ M22 : MzM, M22 = mz_si M18 (3, j9) 3 v21 → K (250 : Int32) M22)))) ∧ (¬ v16 = 0 → K (450 : Int32) M13))))) ∧ (¬ v8 = 0 → K (550 : Int32) M5))))))))) ∧ ((mz_i M (8, x) 10) = (-1 : Int32) → K (503 : Int32) M))
theorem tm_Ses_rename {G : MzG} {B : MzB} {d : Nat} {K : Int32 → MzM → Prop} (hF : mzLive B) {x : Nat} (hx : x < 2)  {M : MzM} (hL : mzLnk M) (h : wp_Ses_rename x  M K) : MzC G B (d + 1) mm_Ses_rename [.ref (mz_ad B (8, x))] M (0, 0) (mzK1 B K) := by
  unfold wp_Ses_rename at h
  exact MzC.of rfl (Nat.le_of_ble_eq_true rfl) (show MzS G B (d + 1) mm_Ses_rename M (0, 0) (mzK1 B K) 0 [(0, .ref (mz_ad B (8, x)))] [] from (mz_aload_n d_Ses_rename_0 rfl (mz_getI (k := 10) cl_4 d_Ses_rename_1 (by decide) wf_Ses_53 rfl (hF 8 x hx) rfl (mz_iconst (-1 : Int32) d_Ses_rename_4 (by decide) (mz_icmp_ne 12 d_Ses_rename_5 rfl (fun hc27 => (mz_aload_n d_Ses_rename_12 rfl (mz_getR (k := 1) (a := (1, 0)) cl_4 d_Ses_rename_13 (by decide) wf_Ses_15 rfl (hF 8 x hx) rfl (hL (8, x) 1 (1, 0) rfl hx) (mz_aload_n d_Ses_rename_16 rfl (mz_getI (k := 10) cl_4 d_Ses_rename_17 (by decide) wf_Ses_53 rfl (hF 8 x hx) rfl (mz_callV (As := [.int (mz_i M (8, x) 10)]) (st := []) (hF 1 0 (by decide)) rfl (mzClOf cl_1) 0 0 d_Ses_rename_20 cs_Store_isThere wl_Ses_366 wi_Store_isThere wse_Store_isThere (Nat.le_of_ble_eq_true rfl) (Nat.le_refl _) (Nat.le_refl _) (MzC.mono (tm_Store_isThere (d := d) hF  hL (h.1 hc27)) (fun r9 B9 M1 hq3 => by obtain ⟨rfl, hL2, v4, rfl, hq3⟩ := hq3; exact ⟨_, rfl, (mz_if_eq 52 d_Ses_rename_23 rfl (fun hc26 => (mz_sipush (550 : Int32) d_Ses_rename_52 (by decide) (mz_iret .int d_Ses_rename_55 rfl rfl ⟨rfl, hL2, _, rfl, (hq3.1 hc26)⟩))) (fun hc26 => (mz_aload_n d_Ses_rename_26 rfl (mz_getI (k := 13) cl_4 d_Ses_rename_27 (by decide) wf_Ses_59 rfl (hF 8 x hx) rfl (mz_iconst (-1 : Int32) d_Ses_rename_30 (by decide) (mz_icmp_eq 52 d_Ses_rename_31 rfl (fun hc25 => (mz_sipush (550 : Int32) d_Ses_rename_52 (by decide) (mz_iret .int d_Ses_rename_55 rfl rfl ⟨rfl, hL2, _, rfl, ((hq3.2 hc26).1 hc25)⟩))) (fun hc25 => (mz_aload_n d_Ses_rename_34 rfl (mz_getR (k := 1) (a := (1, 0)) cl_4 d_Ses_rename_35 (by decide) wf_Ses_15 rfl (hF 8 x hx) rfl (hL2 (8, x) 1 (1, 0) rfl hx) (mz_aload_n d_Ses_rename_38 rfl (mz_getI (k := 13) cl_4 d_Ses_rename_39 (by decide) wf_Ses_59 rfl (hF 8 x hx) rfl (mz_aload_n d_Ses_rename_42 rfl (mz_getI (k := 10) cl_4 d_Ses_rename_43 (by decide) wf_Ses_53 rfl (hF 8 x hx) rfl (mz_callV (As := [.int (mz_i M1 (8, x) 13), .int (mz_i M1 (8, x) 10)]) (st := []) (hF 1 0 (by decide)) rfl (mzClOf cl_1) 0 0 d_Ses_rename_46 cs_Store_isWithin wl_Ses_369 wi_Store_isWithin wse_Store_isWithin (Nat.le_of_ble_eq_true rfl) (Nat.le_refl _) (Nat.le_refl _) (MzC.mono (tm_Store_isWithin (d := d) hF  hL2 ((hq3.2 hc26).2 hc25)) (fun r9 B9 M5 hq7 => by obtain ⟨rfl, hL6, v8, rfl, hq7⟩ := hq7; exact ⟨_, rfl, (mz_if_eq 56 d_Ses_rename_49 rfl (fun hc24 => (mz_aload_n d_Ses_rename_56 rfl (mz_getR (k := 1) (a := (1, 0)) cl_4 d_Ses_rename_57 (by decide) wf_Ses_15 rfl (hF 8 x hx) rfl (hL6 (8, x) 1 (1, 0) rfl hx) (mz_getRN (k := 0) (a := (2, 0)) cl_1 d_Ses_rename_60 (by decide) wf_Ses_190 rfl (hF 1 0 (by decide)) rfl (hL6 (1, 0) 0 (2, 0) rfl (by decide)) (mz_aload_n d_Ses_rename_63 rfl (mz_getI (k := 10) cl_4 d_Ses_rename_64 (by decide) wf_Ses_53 rfl (hF 8 x hx) rfl (match (hq7.1 hc24) with | ⟨j9, h10, h11, h12⟩ => mz_aald (a := (3, j9)) j9 d_Ses_rename_67 (hF 2 0 (by decide)) rfl h10 h11 (hL6 (2, 0) j9 (3, j9) (mzLk_2 h11) (by decide)) (mz_astore_n d_Ses_rename_68 (by decide) (mz_aload_n d_Ses_rename_69 rfl (mz_callV (As := []) (st := []) (hF 3 j9 h11) rfl (mzClOf cl_2) 0 0 d_Ses_rename_70 cs_Node_isBusy wl_Ses_348 wi_Node_isBusy wse_Node_isBusy (Nat.le_of_ble_eq_true rfl) (Nat.le_refl _) (Nat.le_refl _) (MzC.mono (tm_Node_isBusy (d := d) hF h11 hL6 h12) (fun r9 B9 M13 hq15 => by obtain ⟨rfl, hL14, v16, rfl, hq15⟩ := hq15; exact ⟨_, rfl, (mz_if_eq 80 d_Ses_rename_73 rfl (fun hc23 => (mz_aload_n d_Ses_rename_80 rfl (mz_aload_n d_Ses_rename_81 rfl (mz_getI (k := 13) cl_4 d_Ses_rename_82 (by decide) wf_Ses_59 rfl (hF 8 x hx) rfl (mz_putIN (k := 2) cl_2 d_Ses_rename_85 (by decide) wf_Ses_373 rfl rfl rfl rfl (hF 3 j9 h11) rfl (let M17 : MzM := mz_si M13 (3, j9) 2 (mz_i M13 (8, x) 13); (mz_aload_n d_Ses_rename_88 rfl (mz_aload_n d_Ses_rename_89 rfl (mz_getR (k := 4) (a := (14, x)) cl_4 d_Ses_rename_90 (by decide) wf_Ses_38 rfl (hF 8 x hx) rfl (hL14 (8, x) 4 (14, x) rfl hx) (mz_callV (As := []) (st := [.ref (mz_ad B (3, j9))]) (hF 14 x hx) rfl (mzClOf cl_7) 0 0 d_Ses_rename_93 cs_Path_newName wl_Ses_254 wi_Path_newName wse_Path_newName (Nat.le_of_ble_eq_true rfl) (Nat.le_refl _) (Nat.le_refl _) (MzC.mono (tm_Path_newName (d := d) hF hx hL14 ((hq15.1 hc23) M17 rfl)) (fun r9 B9 M18 hq20 => by obtain ⟨rfl, hL19, v21, rfl, hq20⟩ := hq20; exact ⟨_, rfl, (mz_putIN (k := 3) cl_2 d_Ses_rename_96 (by decide) wf_Ses_194 rfl rfl rfl rfl (hF 3 j9 h11) rfl (let M22 : MzM := mz_si M18 (3, j9) 3 v21; (mz_sipush (250 : Int32) d_Ses_rename_99 (by decide) (mz_iret .int d_Ses_rename_102 rfl rfl ⟨rfl, hL19, _, rfl, (hq20 M22 rfl)⟩))))⟩)))))))))))) (fun hc23 => (mz_sipush (450 : Int32) d_Ses_rename_76 (by decide) (mz_iret .int d_Ses_rename_79 rfl rfl ⟨rfl, hL14, _, rfl, (hq15.2 hc23)⟩))))⟩)))))))))))) (fun hc24 => (mz_sipush (550 : Int32) d_Ses_rename_52 (by decide) (mz_iret .int d_Ses_rename_55 rfl rfl ⟨rfl, hL6, _, rfl, (hq7.2 hc24)⟩))))⟩))))))))))))))))⟩)))))))) (fun hc27 => (mz_sipush (503 : Int32) d_Ses_rename_8 (by decide) (mz_iret .int d_Ses_rename_11 rfl rfl ⟨rfl, hL, _, rfl, (h.2 hc27)⟩))))))))
def mm_Ses_logOut : MzT := (⟨"ParcelLine$Session", "logOut", "()V"⟩, prog_11_method_4_code, 1, (Option.none : Option Jvm.ClassFile.FieldType))
theorem cs_Ses_logOut {mm : MzT} : mzCall mm mm_Ses_logOut 0 := ⟨wn_Ses, wco_Ses_logOut, by decide +kernel, by decide⟩
theorem d_Ses_logOut_0 : decode mm_Ses_logOut.2.1 0 = .ok (.aload_n 0, 1) := by decide +kernel
theorem d_Ses_logOut_1 : decode mm_Ses_logOut.2.1 1 = .ok (.iconst 0, 1) := by decide +kernel
theorem d_Ses_logOut_2 : decode mm_Ses_logOut.2.1 2 = .ok (.putfield 140, 3) := by decide +kernel
theorem d_Ses_logOut_5 : decode mm_Ses_logOut.2.1 5 = .ok (.aload_n 0, 1) := by decide +kernel
theorem d_Ses_logOut_6 : decode mm_Ses_logOut.2.1 6 = .ok (.getfield 15, 3) := by decide +kernel
theorem d_Ses_logOut_9 : decode mm_Ses_logOut.2.1 9 = .ok (.getfield 143, 3) := by decide +kernel
theorem d_Ses_logOut_12 : decode mm_Ses_logOut.2.1 12 = .ok (.aload_n 0, 1) := by decide +kernel
theorem d_Ses_logOut_13 : decode mm_Ses_logOut.2.1 13 = .ok (.getfield 9, 3) := by decide +kernel
theorem d_Ses_logOut_16 : decode mm_Ses_logOut.2.1 16 = .ok (.iconst (-1), 1) := by decide +kernel
theorem d_Ses_logOut_17 : decode mm_Ses_logOut.2.1 17 = .ok (.iastore, 1) := by decide +kernel
theorem d_Ses_logOut_18 : decode mm_Ses_logOut.2.1 18 = .ok (.return_, 1) := by decide +kernel
def wp_Ses_logOut (x : Nat)  (M : MzM) (K : MzM → Prop) : Prop := (∀ M1 : MzM, M1 = mz_si M (8, x) 7 (0 : Int32) → (∃ j5 : Nat, (mz_i M1 (8, x) 0).toInt = (j5 : Int) ∧ j5 < 2 ∧ ∀ M2 : MzM, M2 = mz_si M1 (6, 0) j5 (-1 : Int32) → K M2))
theorem tm_Ses_logOut {G : MzG} {B : MzB} {d : Nat} {K : MzM → Prop} (hF : mzLive B) {x : Nat} (hx : x < 2)  {M : MzM} (hL : mzLnk M) (h : wp_Ses_logOut x  M K) : MzC G B d mm_Ses_logOut [.ref (mz_ad B (8, x))] M (0, 0) (mzK0 B K) := by
  unfold wp_Ses_logOut at h
  exact MzC.of rfl (Nat.le_of_ble_eq_true rfl) (show MzS G B d mm_Ses_logOut M (0, 0) (mzK0 B K) 0 [(0, .ref (mz_ad B (8, x)))] [] from (mz_aload_n d_Ses_logOut_0 rfl (mz_iconst (0 : Int32) d_Ses_logOut_1 (by decide) (mz_putI (k := 7) cl_4 d_Ses_logOut_2 (by decide) wf_Ses_140 rfl rfl rfl rfl (hF 8 x hx) rfl (let M1 : MzM := mz_si M (8, x) 7 (0 : Int32); (mz_aload_n d_Ses_logOut_5 rfl (mz_getR (k := 1) (a := (1, 0)) cl_4 d_Ses_logOut_6 (by decide) wf_Ses_15 rfl (hF 8 x hx) rfl (hL (8, x) 1 (1, 0) rfl hx) (mz_getRN (k := 1) (a := (6, 0)) cl_1 d_Ses_logOut_9 (by decide) wf_Ses_143 rfl (hF 1 0 (by decide)) rfl (hL (1, 0) 1 (6, 0) rfl (by decide)) (mz_aload_n d_Ses_logOut_12 rfl (mz_getI (k := 0) cl_4 d_Ses_logOut_13 (by decide) wf_Ses_9 rfl (hF 8 x hx) rfl (mz_iconst (-1 : Int32) d_Ses_logOut_16 (by decide) (match (h M1 rfl) with | ⟨j5, h6, h7, h4⟩ => mz_iast j5 d_Ses_logOut_17 (hF 6 0 (by decide)) rfl h6 h7 (let M2 : MzM := mz_si M1 (6, 0) j5 (-1 : Int32); (mz_vret d_Ses_logOut_18 rfl ⟨rfl, hL, rfl, (h4 M2 rfl)⟩))))))))))))))
def mm_Row_add : MzT := (⟨"ParcelLine$ByteRow", "add", "(I)V"⟩, prog_3_method_2_code, 2, (Option.none : Option Jvm.ClassFile.FieldType))
theorem cs_Row_add {mm : MzT} : mzCall mm mm_Row_add 1 := ⟨wn_Row, wco_Row_add, by decide +kernel, by decide⟩
theorem d_Row_add_0 : decode mm_Row_add.2.1 0 = .ok (.aload_n 0, 1) := by decide +kernel
theorem d_Row_add_1 : decode mm_Row_add.2.1 1 = .ok (.getfield 15, 3) := by decide +kernel
theorem d_Row_add_4 : decode mm_Row_add.2.1 4 = .ok (.bipush 24, 2) := by decide +kernel
theorem d_Row_add_6 : decode mm_Row_add.2.1 6 = .ok (.if_icmp .ge 23, 3) := by decide +kernel
theorem d_Row_add_9 : decode mm_Row_add.2.1 9 = .ok (.aload_n 0, 1) := by decide +kernel
theorem d_Row_add_10 : decode mm_Row_add.2.1 10 = .ok (.getfield 9, 3) := by decide +kernel
theorem d_Row_add_13 : decode mm_Row_add.2.1 13 = .ok (.aload_n 0, 1) := by decide +kernel
theorem d_Row_add_14 : decode mm_Row_add.2.1 14 = .ok (.getfield 15, 3) := by decide +kernel
theorem d_Row_add_17 : decode mm_Row_add.2.1 17 = .ok (.iload_n 1, 1) := by decide +kernel
theorem d_Row_add_18 : decode mm_Row_add.2.1 18 = .ok (.iastore, 1) := by decide +kernel
theorem d_Row_add_19 : decode mm_Row_add.2.1 19 = .ok (.aload_n 0, 1) := by decide +kernel
theorem d_Row_add_20 : decode mm_Row_add.2.1 20 = .ok (.dup, 1) := by decide +kernel
theorem d_Row_add_21 : decode mm_Row_add.2.1 21 = .ok (.getfield 15, 3) := by decide +kernel
theorem d_Row_add_24 : decode mm_Row_add.2.1 24 = .ok (.iconst 1, 1) := by decide +kernel
theorem d_Row_add_25 : decode mm_Row_add.2.1 25 = .ok (.iadd, 1) := by decide +kernel
theorem d_Row_add_26 : decode mm_Row_add.2.1 26 = .ok (.putfield 15, 3) := by decide +kernel
theorem d_Row_add_29 : decode mm_Row_add.2.1 29 = .ok (.return_, 1) := by decide +kernel
def wp_Row_add (n : Nat) (a1 : Int32) (M : MzM) (K : MzM → Prop) : Prop := (((24 : Int32) ≤ (mz_i M (4, n) 1) → K M) ∧ (¬ (24 : Int32) ≤ (mz_i M (4, n) 1) → (∃ j4 : Nat, (mz_i M (4, n) 1).toInt = (j4 : Int) ∧ j4 < 24 ∧ ∀ M1 : MzM, M1 = mz_si M (5, n) j4 a1 → (∀ M7 : MzM, M7 = mz_si M1 (4, n) 1 ((mz_i M1 (4, n) 1) + (1 : Int32)) → K M7))))
theorem tm_Row_add {G : MzG} {B : MzB} {d : Nat} {K : MzM → Prop} (hF : mzLive B) {n : Nat} (hn : n < 16) {a1 : Int32} {M : MzM} (hL : mzLnk M) (h : wp_Row_add n a1 M K) : MzC G B d mm_Row_add [.ref (mz_ad B (4, n)), .int a1] M (0, 0) (mzK0 B K) := by
  unfold wp_Row_add at h
  exact MzC.of rfl (Nat.le_of_ble_eq_true rfl) (show MzS G B d mm_Row_add M (0, 0) (mzK0 B K) 0 [(0, .ref (mz_ad B (4, n))), (1, .int a1)] [] from (mz_aload_n d_Row_add_0 rfl (mz_getI (k := 1) cl_3 d_Row_add_1 (by decide) wf_Row_15 rfl (hF 4 n hn) rfl (mz_bipush (24 : Int32) d_Row_add_4 (by decide) (mz_icmp_ge 29 d_Row_add_6 rfl (fun hc8 => (mz_vret d_Row_add_29 rfl ⟨rfl, hL, rfl, (h.1 hc8)⟩)) (fun hc8 => (mz_aload_n d_Row_add_9 rfl (mz_getR (k := 0) (a := (5, n)) cl_3 d_Row_add_10 (by decide) wf_Row_9 rfl (hF 4 n hn) rfl (hL (4, n) 0 (5, n) rfl hn) (mz_aload_n d_Row_add_13 rfl (mz_getI (k := 1) cl_3 d_Row_add_14 (by decide) wf_Row_15 rfl (hF 4 n hn) rfl (mz_iload_n d_Row_add_17 rfl (match (h.2 hc8) with | ⟨j4, h5, h6, h3⟩ => mz_iast j4 d_Row_add_18 (hF 5 n hn) rfl h5 h6 (let M1 : MzM := mz_si M (5, n) j4 a1; (mz_aload_n d_Row_add_19 rfl (mz_dup d_Row_add_20 rfl (mz_getI (k := 1) cl_3 d_Row_add_21 (by decide) wf_Row_15 rfl (hF 4 n hn) rfl (mz_iconst (1 : Int32) d_Row_add_24 (by decide) (mz_iadd d_Row_add_25 (mz_putI (k := 1) cl_3 d_Row_add_26 (by decide) wf_Row_15 rfl rfl rfl rfl (hF 4 n hn) rfl (let M7 : MzM := mz_si M1 (4, n) 1 ((mz_i M1 (4, n) 1) + (1 : Int32)); (mz_vret d_Row_add_29 rfl ⟨rfl, hL, rfl, ((h3 M1 rfl) M7 rfl)⟩)))))))))))))))))))))
def wp_Row_adds (k : Nat) (a1 : Int32) (M : MzM) (K : MzM → Prop) : Prop := (((24 : Int32) ≤ (mz_i M (20, k) 1) → K M) ∧ (¬ (24 : Int32) ≤ (mz_i M (20, k) 1) → (∃ j4 : Nat, (mz_i M (20, k) 1).toInt = (j4 : Int) ∧ j4 < 24 ∧ ∀ M1 : MzM, M1 = mz_si M (21, k) j4 a1 → (∀ M7 : MzM, M7 = mz_si M1 (20, k) 1 ((mz_i M1 (20, k) 1) + (1 : Int32)) → K M7))))
theorem tm_Row_adds {G : MzG} {B : MzB} {d : Nat} {K : MzM → Prop} (hF : mzLive B) {k : Nat} (hk : k < 3) {a1 : Int32} {M : MzM} (hL : mzLnk M) (h : wp_Row_adds k a1 M K) : MzC G B d mm_Row_add [.ref (mz_ad B (20, k)), .int a1] M (0, 0) (mzK0 B K) := by
  unfold wp_Row_adds at h
  exact MzC.of rfl (Nat.le_of_ble_eq_true rfl) (show MzS G B d mm_Row_add M (0, 0) (mzK0 B K) 0 [(0, .ref (mz_ad B (20, k))), (1, .int a1)] [] from (mz_aload_n d_Row_add_0 rfl (mz_getI (k := 1) cl_3 d_Row_add_1 (by decide) wf_Row_15 rfl (hF 20 k hk) rfl (mz_bipush (24 : Int32) d_Row_add_4 (by decide) (mz_icmp_ge 29 d_Row_add_6 rfl (fun hc8 => (mz_vret d_Row_add_29 rfl ⟨rfl, hL, rfl, (h.1 hc8)⟩)) (fun hc8 => (mz_aload_n d_Row_add_9 rfl (mz_getR (k := 0) (a := (21, k)) cl_3 d_Row_add_10 (by decide) wf_Row_9 rfl (hF 20 k hk) rfl (hL (20, k) 0 (21, k) rfl hk) (mz_aload_n d_Row_add_13 rfl (mz_getI (k := 1) cl_3 d_Row_add_14 (by decide) wf_Row_15 rfl (hF 20 k hk) rfl (mz_iload_n d_Row_add_17 rfl (match (h.2 hc8) with | ⟨j4, h5, h6, h3⟩ => mz_iast j4 d_Row_add_18 (hF 21 k hk) rfl h5 h6 (let M1 : MzM := mz_si M (21, k) j4 a1; (mz_aload_n d_Row_add_19 rfl (mz_dup d_Row_add_20 rfl (mz_getI (k := 1) cl_3 d_Row_add_21 (by decide) wf_Row_15 rfl (hF 20 k hk) rfl (mz_iconst (1 : Int32) d_Row_add_24 (by decide) (mz_iadd d_Row_add_25 (mz_putI (k := 1) cl_3 d_Row_add_26 (by decide) wf_Row_15 rfl rfl rfl rfl (hF 20 k hk) rfl (let M7 : MzM := mz_si M1 (20, k) 1 ((mz_i M1 (20, k) 1) + (1 : Int32)); (mz_vret d_Row_add_29 rfl ⟨rfl, hL, rfl, ((h3 M1 rfl) M7 rfl)⟩)))))))))))))))))))))
