def wp_PL_isSession  (a0 : Int32) (M : MzM) (K : Int32 → MzM → Prop) : Prop := ((a0 < 0 → K (0 : Int32) M) ∧ (¬ a0 < 0 → (((2 : Int32) ≤ a0 → K (0 : Int32) M) ∧ (¬ (2 : Int32) ≤ a0 → K (1 : Int32) M))))
theorem tm_PL_isSession {G : MzG} {B : MzB} {d : Nat} {K : Int32 → MzM → Prop} (hF : mzLive false B)   {a0 : Int32} {M : MzM} (hL : mzLnk false M) (h : wp_PL_isSession  a0 M K) : MzC G B d mm_PL_isSession [.int a0] M (0, 0) (mzK1 false B K) := by
  unfold wp_PL_isSession at h
  exact MzC.of rfl (Nat.le_of_ble_eq_true rfl) (show MzS G B d mm_PL_isSession M (0, 0) (mzK1 false B K) 0 [(0, .int a0)] [] from (mz_iload_n d_PL_isSession_0 rfl (mz_if_lt 13 d_PL_isSession_1 rfl (fun hc2 => (mz_iconst (0 : Int32) d_PL_isSession_13 (by decide) (mz_iret .boolean d_PL_isSession_14 rfl rfl ⟨rfl, hL, _, rfl, (h.1 hc2)⟩))) (fun hc2 => (mz_iload_n d_PL_isSession_4 rfl (mz_iconst (2 : Int32) d_PL_isSession_5 (by decide) (mz_icmp_ge 13 d_PL_isSession_6 rfl (fun hc1 => (mz_iconst (0 : Int32) d_PL_isSession_13 (by decide) (mz_iret .boolean d_PL_isSession_14 rfl rfl ⟨rfl, hL, _, rfl, ((h.2 hc2).1 hc1)⟩))) (fun hc1 => (mz_iconst (1 : Int32) d_PL_isSession_9 (by decide) (mz_goto 14 d_PL_isSession_10 rfl (mz_iret .boolean d_PL_isSession_14 rfl rfl ⟨rfl, hL, _, rfl, ((h.2 hc2).2 hc1)⟩)))))))))))
def mm_Lin_keep : MzT := (⟨"ParcelLine$LineReader", "keep", "(I)V"⟩, prog_7_method_7_code, 2, (Option.none : Option Jvm.ClassFile.FieldType))
theorem cs_Lin_keep {mm : MzT} : mzCall mm mm_Lin_keep 1 := ⟨wn_Lin, wco_Lin_keep, by decide +kernel, by decide⟩
theorem d_Lin_keep_0 : decode mm_Lin_keep.2.1 0 = .ok (.aload_n 0, 1) := by decide +kernel
theorem d_Lin_keep_1 : decode mm_Lin_keep.2.1 1 = .ok (.getfield 30, 3) := by decide +kernel
theorem d_Lin_keep_4 : decode mm_Lin_keep.2.1 4 = .ok (.bipush 30, 2) := by decide +kernel
theorem d_Lin_keep_6 : decode mm_Lin_keep.2.1 6 = .ok (.if_icmp .lt 9, 3) := by decide +kernel
theorem d_Lin_keep_9 : decode mm_Lin_keep.2.1 9 = .ok (.aload_n 0, 1) := by decide +kernel
theorem d_Lin_keep_10 : decode mm_Lin_keep.2.1 10 = .ok (.iconst 1, 1) := by decide +kernel
theorem d_Lin_keep_11 : decode mm_Lin_keep.2.1 11 = .ok (.putfield 33, 3) := by decide +kernel
theorem d_Lin_keep_14 : decode mm_Lin_keep.2.1 14 = .ok (.return_, 1) := by decide +kernel
theorem d_Lin_keep_15 : decode mm_Lin_keep.2.1 15 = .ok (.aload_n 0, 1) := by decide +kernel
theorem d_Lin_keep_16 : decode mm_Lin_keep.2.1 16 = .ok (.getfield 15, 3) := by decide +kernel
theorem d_Lin_keep_19 : decode mm_Lin_keep.2.1 19 = .ok (.aload_n 0, 1) := by decide +kernel
theorem d_Lin_keep_20 : decode mm_Lin_keep.2.1 20 = .ok (.getfield 30, 3) := by decide +kernel
theorem d_Lin_keep_23 : decode mm_Lin_keep.2.1 23 = .ok (.iload_n 1, 1) := by decide +kernel
theorem d_Lin_keep_24 : decode mm_Lin_keep.2.1 24 = .ok (.iastore, 1) := by decide +kernel
theorem d_Lin_keep_25 : decode mm_Lin_keep.2.1 25 = .ok (.aload_n 0, 1) := by decide +kernel
theorem d_Lin_keep_26 : decode mm_Lin_keep.2.1 26 = .ok (.dup, 1) := by decide +kernel
theorem d_Lin_keep_27 : decode mm_Lin_keep.2.1 27 = .ok (.getfield 30, 3) := by decide +kernel
theorem d_Lin_keep_30 : decode mm_Lin_keep.2.1 30 = .ok (.iconst 1, 1) := by decide +kernel
theorem d_Lin_keep_31 : decode mm_Lin_keep.2.1 31 = .ok (.iadd, 1) := by decide +kernel
theorem d_Lin_keep_32 : decode mm_Lin_keep.2.1 32 = .ok (.putfield 30, 3) := by decide +kernel
theorem d_Lin_keep_35 : decode mm_Lin_keep.2.1 35 = .ok (.return_, 1) := by decide +kernel
def wp_Lin_keep (x : Nat) (a1 : Int32) (M : MzM) (K : MzM → Prop) : Prop := (((mz_i M (12, x) 2) < (30 : Int32) → (∃ j4 : Nat, (mz_i M (12, x) 2).toInt = (j4 : Int) ∧ j4 < 30 ∧ ∀ M1 : MzM, M1 = mz_si M (13, x) j4 a1 → (∀ M7 : MzM, M7 = mz_si M1 (12, x) 2 ((mz_i M1 (12, x) 2) + (1 : Int32)) → K M7))) ∧ (¬ (mz_i M (12, x) 2) < (30 : Int32) → (∀ M8 : MzM, M8 = mz_si M (12, x) 3 (1 : Int32) → K M8)))
theorem tm_Lin_keep {G : MzG} {B : MzB} {d : Nat} {K : MzM → Prop} (hF : mzLive false B) {x : Nat} (hx : x < 2) {a1 : Int32} {M : MzM} (hL : mzLnk false M) (h : wp_Lin_keep x a1 M K) : MzC G B d mm_Lin_keep [.ref (mz_ad B (12, x)), .int a1] M (0, 0) (mzK0 false B K) := by
  unfold wp_Lin_keep at h
  exact MzC.of rfl (Nat.le_of_ble_eq_true rfl) (show MzS G B d mm_Lin_keep M (0, 0) (mzK0 false B K) 0 [(0, .ref (mz_ad B (12, x))), (1, .int a1)] [] from (mz_aload_n d_Lin_keep_0 rfl (mz_getI (k := 2) cl_6 d_Lin_keep_1 (by decide) wf_Lin_30 rfl (hF 12 x rfl hx) rfl (mz_bipush (30 : Int32) d_Lin_keep_4 (by decide) (mz_icmp_lt 15 d_Lin_keep_6 rfl (fun hc9 => (mz_aload_n d_Lin_keep_15 rfl (mz_getR (k := 1) (a := (13, x)) cl_6 d_Lin_keep_16 (by decide) wf_Lin_15 rfl (hF 12 x rfl hx) rfl (hL (12, x) 1 (13, x) rfl rfl hx) (mz_aload_n d_Lin_keep_19 rfl (mz_getI (k := 2) cl_6 d_Lin_keep_20 (by decide) wf_Lin_30 rfl (hF 12 x rfl hx) rfl (mz_iload_n d_Lin_keep_23 rfl (match (h.1 hc9) with | ⟨j4, h5, h6, h3⟩ => mz_iast j4 d_Lin_keep_24 (hF 13 x rfl hx) rfl h5 h6 (let M1 : MzM := mz_si M (13, x) j4 a1; (mz_aload_n d_Lin_keep_25 rfl (mz_dup d_Lin_keep_26 rfl (mz_getI (k := 2) cl_6 d_Lin_keep_27 (by decide) wf_Lin_30 rfl (hF 12 x rfl hx) rfl (mz_iconst (1 : Int32) d_Lin_keep_30 (by decide) (mz_iadd d_Lin_keep_31 (mz_putI (k := 2) cl_6 d_Lin_keep_32 (by decide) wf_Lin_30 rfl rfl rfl rfl (hF 12 x rfl hx) rfl (let M7 : MzM := mz_si M1 (12, x) 2 ((mz_i M1 (12, x) 2) + (1 : Int32)); (mz_vret d_Lin_keep_35 rfl ⟨rfl, hL, rfl, ((h3 M1 rfl) M7 rfl)⟩)))))))))))))))) (fun hc9 => (mz_aload_n d_Lin_keep_9 rfl (mz_iconst (1 : Int32) d_Lin_keep_10 (by decide) (mz_putI (k := 3) cl_6 d_Lin_keep_11 (by decide) wf_Lin_33 rfl rfl rfl rfl (hF 12 x rfl hx) rfl (let M8 : MzM := mz_si M (12, x) 3 (1 : Int32); (mz_vret d_Lin_keep_14 rfl ⟨rfl, hL, rfl, ((h.2 hc9) M8 rfl)⟩)))))))))))
def mm_Lin_readLineByte : MzT := (⟨"ParcelLine$LineReader", "readLineByte", "(I)Z"⟩, prog_7_method_6_code, 3, (Option.some Jvm.ClassFile.FieldType.boolean))
theorem cs_Lin_readLineByte {mm : MzT} : mzCall mm mm_Lin_readLineByte 1 := ⟨wn_Lin, wco_Lin_readLineByte, by decide +kernel, by decide⟩
theorem d_Lin_readLineByte_0 : decode mm_Lin_readLineByte.2.1 0 = .ok (.aload_n 0, 1) := by decide +kernel
theorem d_Lin_readLineByte_1 : decode mm_Lin_readLineByte.2.1 1 = .ok (.getfield 23, 3) := by decide +kernel
theorem d_Lin_readLineByte_4 : decode mm_Lin_readLineByte.2.1 4 = .ok (.istore_n 2, 1) := by decide +kernel
theorem d_Lin_readLineByte_5 : decode mm_Lin_readLineByte.2.1 5 = .ok (.aload_n 0, 1) := by decide +kernel
theorem d_Lin_readLineByte_6 : decode mm_Lin_readLineByte.2.1 6 = .ok (.iconst 0, 1) := by decide +kernel
theorem d_Lin_readLineByte_7 : decode mm_Lin_readLineByte.2.1 7 = .ok (.putfield 23, 3) := by decide +kernel
theorem d_Lin_readLineByte_10 : decode mm_Lin_readLineByte.2.1 10 = .ok (.iload_n 2, 1) := by decide +kernel
theorem d_Lin_readLineByte_11 : decode mm_Lin_readLineByte.2.1 11 = .ok (.ifCond .eq 11, 3) := by decide +kernel
theorem d_Lin_readLineByte_14 : decode mm_Lin_readLineByte.2.1 14 = .ok (.iload_n 1, 1) := by decide +kernel
theorem d_Lin_readLineByte_15 : decode mm_Lin_readLineByte.2.1 15 = .ok (.bipush 10, 2) := by decide +kernel
theorem d_Lin_readLineByte_17 : decode mm_Lin_readLineByte.2.1 17 = .ok (.if_icmp .ne 5, 3) := by decide +kernel
theorem d_Lin_readLineByte_20 : decode mm_Lin_readLineByte.2.1 20 = .ok (.iconst 1, 1) := by decide +kernel
theorem d_Lin_readLineByte_21 : decode mm_Lin_readLineByte.2.1 21 = .ok (.ireturn, 1) := by decide +kernel
theorem d_Lin_readLineByte_22 : decode mm_Lin_readLineByte.2.1 22 = .ok (.iload_n 2, 1) := by decide +kernel
theorem d_Lin_readLineByte_23 : decode mm_Lin_readLineByte.2.1 23 = .ok (.ifCond .eq 16, 3) := by decide +kernel
theorem d_Lin_readLineByte_26 : decode mm_Lin_readLineByte.2.1 26 = .ok (.iload_n 1, 1) := by decide +kernel
theorem d_Lin_readLineByte_27 : decode mm_Lin_readLineByte.2.1 27 = .ok (.ifCond .ne 12, 3) := by decide +kernel
theorem d_Lin_readLineByte_30 : decode mm_Lin_readLineByte.2.1 30 = .ok (.aload_n 0, 1) := by decide +kernel
theorem d_Lin_readLineByte_31 : decode mm_Lin_readLineByte.2.1 31 = .ok (.bipush 13, 2) := by decide +kernel
theorem d_Lin_readLineByte_33 : decode mm_Lin_readLineByte.2.1 33 = .ok (.invokevirtual 47, 3) := by decide +kernel
theorem d_Lin_readLineByte_36 : decode mm_Lin_readLineByte.2.1 36 = .ok (.goto 22, 3) := by decide +kernel
theorem d_Lin_readLineByte_39 : decode mm_Lin_readLineByte.2.1 39 = .ok (.iload_n 1, 1) := by decide +kernel
theorem d_Lin_readLineByte_40 : decode mm_Lin_readLineByte.2.1 40 = .ok (.bipush 13, 2) := by decide +kernel
theorem d_Lin_readLineByte_42 : decode mm_Lin_readLineByte.2.1 42 = .ok (.if_icmp .ne 11, 3) := by decide +kernel
theorem d_Lin_readLineByte_45 : decode mm_Lin_readLineByte.2.1 45 = .ok (.aload_n 0, 1) := by decide +kernel
theorem d_Lin_readLineByte_46 : decode mm_Lin_readLineByte.2.1 46 = .ok (.iconst 1, 1) := by decide +kernel
theorem d_Lin_readLineByte_47 : decode mm_Lin_readLineByte.2.1 47 = .ok (.putfield 23, 3) := by decide +kernel
theorem d_Lin_readLineByte_50 : decode mm_Lin_readLineByte.2.1 50 = .ok (.goto 8, 3) := by decide +kernel
theorem d_Lin_readLineByte_53 : decode mm_Lin_readLineByte.2.1 53 = .ok (.aload_n 0, 1) := by decide +kernel
theorem d_Lin_readLineByte_54 : decode mm_Lin_readLineByte.2.1 54 = .ok (.iload_n 1, 1) := by decide +kernel
theorem d_Lin_readLineByte_55 : decode mm_Lin_readLineByte.2.1 55 = .ok (.invokevirtual 47, 3) := by decide +kernel
theorem d_Lin_readLineByte_58 : decode mm_Lin_readLineByte.2.1 58 = .ok (.iconst 0, 1) := by decide +kernel
theorem d_Lin_readLineByte_59 : decode mm_Lin_readLineByte.2.1 59 = .ok (.ireturn, 1) := by decide +kernel
def wp_Lin_readLineByte_39 (x : Nat)  (K : Int32 → MzM → Prop) (y1 : Int32) (M : MzM) : Prop := ((¬ y1 = (13 : Int32) → wp_Lin_keep x y1 M (fun M9 => K (0 : Int32) M9)) ∧ (y1 = (13 : Int32) → (∀ M12 : MzM, M12 = mz_si M (12, x) 5 (1 : Int32) → K (0 : Int32) M12)))
def wp_Lin_readLineByte_22 (x : Nat)  (K : Int32 → MzM → Prop) (y1 : Int32) (y2 : Int32) (M : MzM) : Prop := ((y2 = 0 → wp_Lin_readLineByte_39 x  K y1 M) ∧ (¬ y2 = 0 → ((¬ y1 = 0 → wp_Lin_readLineByte_39 x  K y1 M) ∧ (y1 = 0 → wp_Lin_keep x (13 : Int32) M (fun M4 => K (0 : Int32) M4)))))
def wp_Lin_readLineByte (x : Nat) (a1 : Int32) (M : MzM) (K : Int32 → MzM → Prop) : Prop := (∀ M1 : MzM, M1 = mz_si M (12, x) 5 (0 : Int32) → (((mz_i M (12, x) 5) = 0 → wp_Lin_readLineByte_22 x  K a1 (mz_i M (12, x) 5) M1) ∧ (¬ (mz_i M (12, x) 5) = 0 → ((¬ a1 = (10 : Int32) → wp_Lin_readLineByte_22 x  K a1 (mz_i M (12, x) 5) M1) ∧ (a1 = (10 : Int32) → K (1 : Int32) M1)))))
theorem tm_Lin_readLineByte_39 {G : MzG} {B : MzB} {d : Nat} {K : Int32 → MzM → Prop} (hF : mzLive false B) {x : Nat} (hx : x < 2)   (y1 : Int32) (M : MzM) (hL : mzLnk false M) (h : wp_Lin_readLineByte_39 x  K y1 M) : MzS G B (d + 1) mm_Lin_readLineByte M (0, 0) (mzK1 false B K) 39 [(0, .ref (mz_ad B (12, x))), (1, .int y1)] [] := by
  unfold wp_Lin_readLineByte_39 at h
  exact (mz_iload_n d_Lin_readLineByte_39 rfl (mz_bipush (13 : Int32) d_Lin_readLineByte_40 (by decide) (mz_icmp_ne 53 d_Lin_readLineByte_42 rfl (fun hc13 => (mz_aload_n d_Lin_readLineByte_53 rfl (mz_iload_n d_Lin_readLineByte_54 rfl (mz_callV (As := [.int y1]) (st := []) (hF 12 x rfl hx) rfl (mzClOf cl_6) 0 0 d_Lin_readLineByte_55 cs_Lin_keep wl_Lin_47 wi_Lin_keep wse_Lin_keep (Nat.le_of_ble_eq_true rfl) (Nat.zero_le _) (Nat.zero_le _) (MzC.mono (tm_Lin_keep (d := d) hF hx hL (h.1 hc13)) (fun r9 B9 M9 hq11 => by obtain ⟨rfl, hL10, rfl, hq11⟩ := hq11; exact ⟨none, rfl, (mz_iconst (0 : Int32) d_Lin_readLineByte_58 (by decide) (mz_iret .boolean d_Lin_readLineByte_59 rfl rfl ⟨rfl, hL10, _, rfl, hq11⟩))⟩)))))) (fun hc13 => (mz_aload_n d_Lin_readLineByte_45 rfl (mz_iconst (1 : Int32) d_Lin_readLineByte_46 (by decide) (mz_putI (k := 5) cl_6 d_Lin_readLineByte_47 (by decide) wf_Lin_23 rfl rfl rfl rfl (hF 12 x rfl hx) rfl (let M12 : MzM := mz_si M (12, x) 5 (1 : Int32); (mz_goto 58 d_Lin_readLineByte_50 rfl (mz_iconst (0 : Int32) d_Lin_readLineByte_58 (by decide) (mz_iret .boolean d_Lin_readLineByte_59 rfl rfl ⟨rfl, hL, _, rfl, ((h.2 hc13) M12 rfl)⟩)))))))))))
theorem tm_Lin_readLineByte_22 {G : MzG} {B : MzB} {d : Nat} {K : Int32 → MzM → Prop} (hF : mzLive false B) {x : Nat} (hx : x < 2)   (y1 : Int32) (y2 : Int32) (M : MzM) (hL : mzLnk false M) (h : wp_Lin_readLineByte_22 x  K y1 y2 M) : MzS G B (d + 1) mm_Lin_readLineByte M (0, 0) (mzK1 false B K) 22 [(0, .ref (mz_ad B (12, x))), (1, .int y1), (2, .int y2)] [] := by
  unfold wp_Lin_readLineByte_22 at h
  exact (mz_iload_n d_Lin_readLineByte_22 rfl (mz_if_eq 39 d_Lin_readLineByte_23 rfl (fun hc8 => (MzS.loc [(0, .ref (mz_ad B (12, x))), (1, .int y1)] ⟨rfl, rfl, trivial⟩ (tm_Lin_readLineByte_39 hF hx  y1 M hL (h.1 hc8)))) (fun hc8 => (mz_iload_n d_Lin_readLineByte_26 rfl (mz_if_ne 39 d_Lin_readLineByte_27 rfl (fun hc7 => (MzS.loc [(0, .ref (mz_ad B (12, x))), (1, .int y1)] ⟨rfl, rfl, trivial⟩ (tm_Lin_readLineByte_39 hF hx  y1 M hL ((h.2 hc8).1 hc7)))) (fun hc7 => (mz_aload_n d_Lin_readLineByte_30 rfl (mz_bipush (13 : Int32) d_Lin_readLineByte_31 (by decide) (mz_callV (As := [.int (13 : Int32)]) (st := []) (hF 12 x rfl hx) rfl (mzClOf cl_6) 0 0 d_Lin_readLineByte_33 cs_Lin_keep wl_Lin_47 wi_Lin_keep wse_Lin_keep (Nat.le_of_ble_eq_true rfl) (Nat.zero_le _) (Nat.zero_le _) (MzC.mono (tm_Lin_keep (d := d) hF hx hL ((h.2 hc8).2 hc7)) (fun r9 B9 M4 hq6 => by obtain ⟨rfl, hL5, rfl, hq6⟩ := hq6; exact ⟨none, rfl, (mz_goto 58 d_Lin_readLineByte_36 rfl (mz_iconst (0 : Int32) d_Lin_readLineByte_58 (by decide) (mz_iret .boolean d_Lin_readLineByte_59 rfl rfl ⟨rfl, hL5, _, rfl, hq6⟩)))⟩)))))))))))
theorem tm_Lin_readLineByte {G : MzG} {B : MzB} {d : Nat} {K : Int32 → MzM → Prop} (hF : mzLive false B) {x : Nat} (hx : x < 2) {a1 : Int32} {M : MzM} (hL : mzLnk false M) (h : wp_Lin_readLineByte x a1 M K) : MzC G B (d + 1) mm_Lin_readLineByte [.ref (mz_ad B (12, x)), .int a1] M (0, 0) (mzK1 false B K) := by
  unfold wp_Lin_readLineByte at h
  exact MzC.of rfl (Nat.le_of_ble_eq_true rfl) (show MzS G B (d + 1) mm_Lin_readLineByte M (0, 0) (mzK1 false B K) 0 [(0, .ref (mz_ad B (12, x))), (1, .int a1)] [] from (mz_aload_n d_Lin_readLineByte_0 rfl (mz_getI (k := 5) cl_6 d_Lin_readLineByte_1 (by decide) wf_Lin_23 rfl (hF 12 x rfl hx) rfl (mz_istore_n d_Lin_readLineByte_4 (by decide) (mz_aload_n d_Lin_readLineByte_5 rfl (mz_iconst (0 : Int32) d_Lin_readLineByte_6 (by decide) (mz_putI (k := 5) cl_6 d_Lin_readLineByte_7 (by decide) wf_Lin_23 rfl rfl rfl rfl (hF 12 x rfl hx) rfl (let M1 : MzM := mz_si M (12, x) 5 (0 : Int32); (mz_iload_n d_Lin_readLineByte_10 rfl (mz_if_eq 22 d_Lin_readLineByte_11 rfl (fun hc3 => (MzS.loc [(0, .ref (mz_ad B (12, x))), (1, .int a1), (2, .int (mz_i M (12, x) 5))] ⟨rfl, rfl, rfl, trivial⟩ (tm_Lin_readLineByte_22 hF hx  a1 (mz_i M (12, x) 5) M1 hL ((h M1 rfl).1 hc3)))) (fun hc3 => (mz_iload_n d_Lin_readLineByte_14 rfl (mz_bipush (10 : Int32) d_Lin_readLineByte_15 (by decide) (mz_icmp_ne 22 d_Lin_readLineByte_17 rfl (fun hc2 => (MzS.loc [(0, .ref (mz_ad B (12, x))), (1, .int a1), (2, .int (mz_i M (12, x) 5))] ⟨rfl, rfl, rfl, trivial⟩ (tm_Lin_readLineByte_22 hF hx  a1 (mz_i M (12, x) 5) M1 hL (((h M1 rfl).2 hc3).1 hc2)))) (fun hc2 => (mz_iconst (1 : Int32) d_Lin_readLineByte_20 (by decide) (mz_iret .boolean d_Lin_readLineByte_21 rfl rfl ⟨rfl, hL, _, rfl, (((h M1 rfl).2 hc3).2 hc2)⟩)))))))))))))))))
def mm_Rep_write : MzT := (⟨"ParcelLine$Replies", "write", "(I)V"⟩, prog_10_method_4_code, 2, (Option.none : Option Jvm.ClassFile.FieldType))
theorem cs_Rep_write {mm : MzT} : mzCall mm mm_Rep_write 1 := ⟨wn_Rep, wco_Rep_write, by decide +kernel, by decide⟩
theorem d_Rep_write_0 : decode mm_Rep_write.2.1 0 = .ok (.aload_n 0, 1) := by decide +kernel
theorem d_Rep_write_1 : decode mm_Rep_write.2.1 1 = .ok (.getfield 25, 3) := by decide +kernel
theorem d_Rep_write_4 : decode mm_Rep_write.2.1 4 = .ok (.bipush 66, 2) := by decide +kernel
theorem d_Rep_write_6 : decode mm_Rep_write.2.1 6 = .ok (.if_icmp .ge 23, 3) := by decide +kernel
theorem d_Rep_write_9 : decode mm_Rep_write.2.1 9 = .ok (.aload_n 0, 1) := by decide +kernel
theorem d_Rep_write_10 : decode mm_Rep_write.2.1 10 = .ok (.getfield 15, 3) := by decide +kernel
theorem d_Rep_write_13 : decode mm_Rep_write.2.1 13 = .ok (.aload_n 0, 1) := by decide +kernel
theorem d_Rep_write_14 : decode mm_Rep_write.2.1 14 = .ok (.getfield 25, 3) := by decide +kernel
theorem d_Rep_write_17 : decode mm_Rep_write.2.1 17 = .ok (.iload_n 1, 1) := by decide +kernel
theorem d_Rep_write_18 : decode mm_Rep_write.2.1 18 = .ok (.iastore, 1) := by decide +kernel
theorem d_Rep_write_19 : decode mm_Rep_write.2.1 19 = .ok (.aload_n 0, 1) := by decide +kernel
theorem d_Rep_write_20 : decode mm_Rep_write.2.1 20 = .ok (.dup, 1) := by decide +kernel
theorem d_Rep_write_21 : decode mm_Rep_write.2.1 21 = .ok (.getfield 25, 3) := by decide +kernel
theorem d_Rep_write_24 : decode mm_Rep_write.2.1 24 = .ok (.iconst 1, 1) := by decide +kernel
theorem d_Rep_write_25 : decode mm_Rep_write.2.1 25 = .ok (.iadd, 1) := by decide +kernel
theorem d_Rep_write_26 : decode mm_Rep_write.2.1 26 = .ok (.putfield 25, 3) := by decide +kernel
theorem d_Rep_write_29 : decode mm_Rep_write.2.1 29 = .ok (.return_, 1) := by decide +kernel
def wp_Rep_write (x : Nat) (a1 : Int32) (M : MzM) (K : MzM → Prop) : Prop := (((66 : Int32) ≤ (mz_i M (9, x) 4) → K M) ∧ (¬ (66 : Int32) ≤ (mz_i M (9, x) 4) → (∃ j4 : Nat, (mz_i M (9, x) 4).toInt = (j4 : Int) ∧ j4 < 66 ∧ ∀ M1 : MzM, M1 = mz_si M (11, x) j4 a1 → (∀ M7 : MzM, M7 = mz_si M1 (9, x) 4 ((mz_i M1 (9, x) 4) + (1 : Int32)) → K M7))))
theorem tm_Rep_write {G : MzG} {B : MzB} {d : Nat} {K : MzM → Prop} (hF : mzLive false B) {x : Nat} (hx : x < 2) {a1 : Int32} {M : MzM} (hL : mzLnk false M) (h : wp_Rep_write x a1 M K) : MzC G B d mm_Rep_write [.ref (mz_ad B (9, x)), .int a1] M (0, 0) (mzK0 false B K) := by
  unfold wp_Rep_write at h
  exact MzC.of rfl (Nat.le_of_ble_eq_true rfl) (show MzS G B d mm_Rep_write M (0, 0) (mzK0 false B K) 0 [(0, .ref (mz_ad B (9, x))), (1, .int a1)] [] from (mz_aload_n d_Rep_write_0 rfl (mz_getI (k := 4) cl_5 d_Rep_write_1 (by decide) wf_Rep_25 rfl (hF 9 x rfl hx) rfl (mz_bipush (66 : Int32) d_Rep_write_4 (by decide) (mz_icmp_ge 29 d_Rep_write_6 rfl (fun hc8 => (mz_vret d_Rep_write_29 rfl ⟨rfl, hL, rfl, (h.1 hc8)⟩)) (fun hc8 => (mz_aload_n d_Rep_write_9 rfl (mz_getR (k := 3) (a := (11, x)) cl_5 d_Rep_write_10 (by decide) wf_Rep_15 rfl (hF 9 x rfl hx) rfl (hL (9, x) 3 (11, x) rfl rfl hx) (mz_aload_n d_Rep_write_13 rfl (mz_getI (k := 4) cl_5 d_Rep_write_14 (by decide) wf_Rep_25 rfl (hF 9 x rfl hx) rfl (mz_iload_n d_Rep_write_17 rfl (match (h.2 hc8) with | ⟨j4, h5, h6, h3⟩ => mz_iast j4 d_Rep_write_18 (hF 11 x rfl hx) rfl h5 h6 (let M1 : MzM := mz_si M (11, x) j4 a1; (mz_aload_n d_Rep_write_19 rfl (mz_dup d_Rep_write_20 rfl (mz_getI (k := 4) cl_5 d_Rep_write_21 (by decide) wf_Rep_25 rfl (hF 9 x rfl hx) rfl (mz_iconst (1 : Int32) d_Rep_write_24 (by decide) (mz_iadd d_Rep_write_25 (mz_putI (k := 4) cl_5 d_Rep_write_26 (by decide) wf_Rep_25 rfl rfl rfl rfl (hF 9 x rfl hx) rfl (let M7 : MzM := mz_si M1 (9, x) 4 ((mz_i M1 (9, x) 4) + (1 : Int32)); (mz_vret d_Rep_write_29 rfl ⟨rfl, hL, rfl, ((h3 M1 rfl) M7 rfl)⟩)))))))))))))))))))))
def mm_Rep_keepDraft : MzT := (⟨"ParcelLine$Replies", "keepDraft", "()V"⟩, prog_10_method_10_code, 2, (Option.none : Option Jvm.ClassFile.FieldType))
theorem cs_Rep_keepDraft {mm : MzT} : mzCall mm mm_Rep_keepDraft 0 := ⟨wn_Rep, wco_Rep_keepDraft, by decide +kernel, by decide⟩
theorem d_Rep_keepDraft_0 : decode mm_Rep_keepDraft.2.1 0 = .ok (.aload_n 0, 1) := by decide +kernel
theorem d_Rep_keepDraft_1 : decode mm_Rep_keepDraft.2.1 1 = .ok (.getfield 22, 3) := by decide +kernel
theorem d_Rep_keepDraft_4 : decode mm_Rep_keepDraft.2.1 4 = .ok (.aload_n 0, 1) := by decide +kernel
theorem d_Rep_keepDraft_5 : decode mm_Rep_keepDraft.2.1 5 = .ok (.getfield 25, 3) := by decide +kernel
theorem d_Rep_keepDraft_8 : decode mm_Rep_keepDraft.2.1 8 = .ok (.iadd, 1) := by decide +kernel
theorem d_Rep_keepDraft_9 : decode mm_Rep_keepDraft.2.1 9 = .ok (.sipush 200, 3) := by decide +kernel
theorem d_Rep_keepDraft_12 : decode mm_Rep_keepDraft.2.1 12 = .ok (.if_icmp .le 4, 3) := by decide +kernel
theorem d_Rep_keepDraft_15 : decode mm_Rep_keepDraft.2.1 15 = .ok (.return_, 1) := by decide +kernel
theorem d_Rep_keepDraft_16 : decode mm_Rep_keepDraft.2.1 16 = .ok (.iconst 0, 1) := by decide +kernel
theorem d_Rep_keepDraft_17 : decode mm_Rep_keepDraft.2.1 17 = .ok (.istore_n 1, 1) := by decide +kernel
theorem d_Rep_keepDraft_18 : decode mm_Rep_keepDraft.2.1 18 = .ok (.iload_n 1, 1) := by decide +kernel
theorem d_Rep_keepDraft_19 : decode mm_Rep_keepDraft.2.1 19 = .ok (.aload_n 0, 1) := by decide +kernel
theorem d_Rep_keepDraft_20 : decode mm_Rep_keepDraft.2.1 20 = .ok (.getfield 25, 3) := by decide +kernel
theorem d_Rep_keepDraft_23 : decode mm_Rep_keepDraft.2.1 23 = .ok (.if_icmp .ge 43, 3) := by decide +kernel
theorem d_Rep_keepDraft_26 : decode mm_Rep_keepDraft.2.1 26 = .ok (.aload_n 0, 1) := by decide +kernel
theorem d_Rep_keepDraft_27 : decode mm_Rep_keepDraft.2.1 27 = .ok (.getfield 9, 3) := by decide +kernel
theorem d_Rep_keepDraft_30 : decode mm_Rep_keepDraft.2.1 30 = .ok (.aload_n 0, 1) := by decide +kernel
theorem d_Rep_keepDraft_31 : decode mm_Rep_keepDraft.2.1 31 = .ok (.getfield 18, 3) := by decide +kernel
theorem d_Rep_keepDraft_34 : decode mm_Rep_keepDraft.2.1 34 = .ok (.aload_n 0, 1) := by decide +kernel
theorem d_Rep_keepDraft_35 : decode mm_Rep_keepDraft.2.1 35 = .ok (.getfield 22, 3) := by decide +kernel
theorem d_Rep_keepDraft_38 : decode mm_Rep_keepDraft.2.1 38 = .ok (.iadd, 1) := by decide +kernel
theorem d_Rep_keepDraft_39 : decode mm_Rep_keepDraft.2.1 39 = .ok (.sipush 200, 3) := by decide +kernel
theorem d_Rep_keepDraft_42 : decode mm_Rep_keepDraft.2.1 42 = .ok (.irem, 1) := by decide +kernel
theorem d_Rep_keepDraft_43 : decode mm_Rep_keepDraft.2.1 43 = .ok (.aload_n 0, 1) := by decide +kernel
theorem d_Rep_keepDraft_44 : decode mm_Rep_keepDraft.2.1 44 = .ok (.getfield 15, 3) := by decide +kernel
theorem d_Rep_keepDraft_47 : decode mm_Rep_keepDraft.2.1 47 = .ok (.iload_n 1, 1) := by decide +kernel
theorem d_Rep_keepDraft_48 : decode mm_Rep_keepDraft.2.1 48 = .ok (.iaload, 1) := by decide +kernel
theorem d_Rep_keepDraft_49 : decode mm_Rep_keepDraft.2.1 49 = .ok (.iastore, 1) := by decide +kernel
theorem d_Rep_keepDraft_50 : decode mm_Rep_keepDraft.2.1 50 = .ok (.aload_n 0, 1) := by decide +kernel
theorem d_Rep_keepDraft_51 : decode mm_Rep_keepDraft.2.1 51 = .ok (.dup, 1) := by decide +kernel
theorem d_Rep_keepDraft_52 : decode mm_Rep_keepDraft.2.1 52 = .ok (.getfield 22, 3) := by decide +kernel
theorem d_Rep_keepDraft_55 : decode mm_Rep_keepDraft.2.1 55 = .ok (.iconst 1, 1) := by decide +kernel
theorem d_Rep_keepDraft_56 : decode mm_Rep_keepDraft.2.1 56 = .ok (.iadd, 1) := by decide +kernel
theorem d_Rep_keepDraft_57 : decode mm_Rep_keepDraft.2.1 57 = .ok (.putfield 22, 3) := by decide +kernel
theorem d_Rep_keepDraft_60 : decode mm_Rep_keepDraft.2.1 60 = .ok (.iinc 1 1, 3) := by decide +kernel
theorem d_Rep_keepDraft_63 : decode mm_Rep_keepDraft.2.1 63 = .ok (.goto (-45), 3) := by decide +kernel
theorem d_Rep_keepDraft_66 : decode mm_Rep_keepDraft.2.1 66 = .ok (.return_, 1) := by decide +kernel
def wp_Rep_keepDraft_18 (x : Nat)  (K : MzM → Prop) : Nat → Int32 → MzM → Prop
  | 0, _, _ => False
  | r0 + 1, y1, M => (((mz_i M (9, x) 4) ≤ y1 → K M) ∧ (¬ (mz_i M (9, x) 4) ≤ y1 → (∃ j4 : Nat, y1.toInt = (j4 : Int) ∧ j4 < 66 ∧ (∃ j11 : Nat, (((mz_i M (9, x) 1) + (mz_i M (9, x) 2)) - ((mz_i M (9, x) 1) + (mz_i M (9, x) 2)) / (200 : Int32) * (200 : Int32)).toInt = (j11 : Int) ∧ j11 < 200 ∧ ∀ M8 : MzM, M8 = mz_si M (10, x) j11 (mz_i M (11, x) j4) → (∀ M14 : MzM, M14 = mz_si M8 (9, x) 2 ((mz_i M8 (9, x) 2) + (1 : Int32)) → (wp_Rep_keepDraft_18 x  K r0) (y1 + (1 : Int32)) M14)))))
def wp_Rep_keepDraft (x : Nat)  (M : MzM) (K : MzM → Prop) : Prop := ((((mz_i M (9, x) 2) + (mz_i M (9, x) 4)) ≤ (200 : Int32) → (∃ r1 : Nat, wp_Rep_keepDraft_18 x  K r1 (0 : Int32) M)) ∧ (¬ ((mz_i M (9, x) 2) + (mz_i M (9, x) 4)) ≤ (200 : Int32) → K M))
theorem tm_Rep_keepDraft_18 {G : MzG} {B : MzB} {d : Nat} {K : MzM → Prop} (hF : mzLive false B) {x : Nat} (hx : x < 2)   : ∀ (r0 : Nat) (y1 : Int32) (M : MzM), mzLnk false M → wp_Rep_keepDraft_18 x  K r0 y1 M → MzS G B d mm_Rep_keepDraft M (0, 0) (mzK0 false B K) 18 [(0, .ref (mz_ad B (9, x))), (1, .int y1)] [] := by
  intro r0
  induction r0 with
  | zero => intro y1 M hL h; exact False.elim h
  | succ r0 hH18 =>
    intro y1 M hL h
    unfold wp_Rep_keepDraft_18 at h
    exact (mz_iload_n d_Rep_keepDraft_18 rfl (mz_aload_n d_Rep_keepDraft_19 rfl (mz_getI (k := 4) cl_5 d_Rep_keepDraft_20 (by decide) wf_Rep_25 rfl (hF 9 x rfl hx) rfl (mz_icmp_ge 66 d_Rep_keepDraft_23 rfl (fun hc15 => (mz_vret d_Rep_keepDraft_66 rfl ⟨rfl, hL, rfl, (h.1 hc15)⟩)) (fun hc15 => (mz_aload_n d_Rep_keepDraft_26 rfl (mz_getR (k := 0) (a := (10, x)) cl_5 d_Rep_keepDraft_27 (by decide) wf_Rep_9 rfl (hF 9 x rfl hx) rfl (hL (9, x) 0 (10, x) rfl rfl hx) (mz_aload_n d_Rep_keepDraft_30 rfl (mz_getI (k := 1) cl_5 d_Rep_keepDraft_31 (by decide) wf_Rep_18 rfl (hF 9 x rfl hx) rfl (mz_aload_n d_Rep_keepDraft_34 rfl (mz_getI (k := 2) cl_5 d_Rep_keepDraft_35 (by decide) wf_Rep_22 rfl (hF 9 x rfl hx) rfl (mz_iadd d_Rep_keepDraft_38 (mz_sipush (200 : Int32) d_Rep_keepDraft_39 (by decide) (mz_irem d_Rep_keepDraft_42 (by decide) (mz_aload_n d_Rep_keepDraft_43 rfl (mz_getR (k := 3) (a := (11, x)) cl_5 d_Rep_keepDraft_44 (by decide) wf_Rep_15 rfl (hF 9 x rfl hx) rfl (hL (9, x) 3 (11, x) rfl rfl hx) (mz_iload_n d_Rep_keepDraft_47 rfl (match (h.2 hc15) with | ⟨j4, h5, h6, h7⟩ => mz_iald j4 d_Rep_keepDraft_48 (hF 11 x rfl hx) rfl h5 h6 (match h7 with | ⟨j11, h12, h13, h10⟩ => mz_iast j11 d_Rep_keepDraft_49 (hF 10 x rfl hx) rfl h12 h13 (let M8 : MzM := mz_si M (10, x) j11 (mz_i M (11, x) j4); (mz_aload_n d_Rep_keepDraft_50 rfl (mz_dup d_Rep_keepDraft_51 rfl (mz_getI (k := 2) cl_5 d_Rep_keepDraft_52 (by decide) wf_Rep_22 rfl (hF 9 x rfl hx) rfl (mz_iconst (1 : Int32) d_Rep_keepDraft_55 (by decide) (mz_iadd d_Rep_keepDraft_56 (mz_putI (k := 2) cl_5 d_Rep_keepDraft_57 (by decide) wf_Rep_22 rfl rfl rfl rfl (hF 9 x rfl hx) rfl (let M14 : MzM := mz_si M8 (9, x) 2 ((mz_i M8 (9, x) 2) + (1 : Int32)); (mz_iinc (y1 + (1 : Int32)) d_Rep_keepDraft_60 rfl (by decide) rfl (mz_goto 18 d_Rep_keepDraft_63 rfl (MzS.loc [(0, .ref (mz_ad B (9, x))), (1, .int (y1 + (1 : Int32)))] ⟨rfl, rfl, trivial⟩ (hH18 (y1 + (1 : Int32)) M14 hL ((h10 M8 rfl) M14 rfl))))))))))))))))))))))))))))))))
theorem tm_Rep_keepDraft {G : MzG} {B : MzB} {d : Nat} {K : MzM → Prop} (hF : mzLive false B) {x : Nat} (hx : x < 2)  {M : MzM} (hL : mzLnk false M) (h : wp_Rep_keepDraft x  M K) : MzC G B d mm_Rep_keepDraft [.ref (mz_ad B (9, x))] M (0, 0) (mzK0 false B K) := by
  unfold wp_Rep_keepDraft at h
  exact MzC.of rfl (Nat.le_of_ble_eq_true rfl) (show MzS G B d mm_Rep_keepDraft M (0, 0) (mzK0 false B K) 0 [(0, .ref (mz_ad B (9, x)))] [] from (mz_aload_n d_Rep_keepDraft_0 rfl (mz_getI (k := 2) cl_5 d_Rep_keepDraft_1 (by decide) wf_Rep_22 rfl (hF 9 x rfl hx) rfl (mz_aload_n d_Rep_keepDraft_4 rfl (mz_getI (k := 4) cl_5 d_Rep_keepDraft_5 (by decide) wf_Rep_25 rfl (hF 9 x rfl hx) rfl (mz_iadd d_Rep_keepDraft_8 (mz_sipush (200 : Int32) d_Rep_keepDraft_9 (by decide) (mz_icmp_le 16 d_Rep_keepDraft_12 rfl (fun hc3 => (mz_iconst (0 : Int32) d_Rep_keepDraft_16 (by decide) (mz_istore_n d_Rep_keepDraft_17 (by decide) (MzS.loc [(0, .ref (mz_ad B (9, x))), (1, .int (0 : Int32))] ⟨rfl, rfl, trivial⟩ (match (h.1 hc3) with | ⟨r1, h2⟩ => tm_Rep_keepDraft_18 hF hx  r1 (0 : Int32) M hL h2))))) (fun hc3 => (mz_vret d_Rep_keepDraft_15 rfl ⟨rfl, hL, rfl, (h.2 hc3)⟩))))))))))
def mm_Rep_answerOrder : MzT := (⟨"ParcelLine$Replies", "answerOrder", "(II)V"⟩, prog_10_method_9_code, 3, (Option.none : Option Jvm.ClassFile.FieldType))
theorem cs_Rep_answerOrder {mm : MzT} : mzCall mm mm_Rep_answerOrder 2 := ⟨wn_Rep, wco_Rep_answerOrder, by decide +kernel, by decide⟩
theorem d_Rep_answerOrder_0 : decode mm_Rep_answerOrder.2.1 0 = .ok (.aload_n 0, 1) := by decide +kernel
theorem d_Rep_answerOrder_1 : decode mm_Rep_answerOrder.2.1 1 = .ok (.iconst 0, 1) := by decide +kernel
theorem d_Rep_answerOrder_2 : decode mm_Rep_answerOrder.2.1 2 = .ok (.putfield 25, 3) := by decide +kernel
theorem d_Rep_answerOrder_5 : decode mm_Rep_answerOrder.2.1 5 = .ok (.aload_n 0, 1) := by decide +kernel
theorem d_Rep_answerOrder_6 : decode mm_Rep_answerOrder.2.1 6 = .ok (.sipush 255, 3) := by decide +kernel
theorem d_Rep_answerOrder_9 : decode mm_Rep_answerOrder.2.1 9 = .ok (.invokevirtual 28, 3) := by decide +kernel
theorem d_Rep_answerOrder_12 : decode mm_Rep_answerOrder.2.1 12 = .ok (.aload_n 0, 1) := by decide +kernel
theorem d_Rep_answerOrder_13 : decode mm_Rep_answerOrder.2.1 13 = .ok (.iload_n 1, 1) := by decide +kernel
theorem d_Rep_answerOrder_14 : decode mm_Rep_answerOrder.2.1 14 = .ok (.invokevirtual 28, 3) := by decide +kernel
theorem d_Rep_answerOrder_17 : decode mm_Rep_answerOrder.2.1 17 = .ok (.aload_n 0, 1) := by decide +kernel
theorem d_Rep_answerOrder_18 : decode mm_Rep_answerOrder.2.1 18 = .ok (.iload_n 2, 1) := by decide +kernel
theorem d_Rep_answerOrder_19 : decode mm_Rep_answerOrder.2.1 19 = .ok (.invokevirtual 28, 3) := by decide +kernel
theorem d_Rep_answerOrder_22 : decode mm_Rep_answerOrder.2.1 22 = .ok (.aload_n 0, 1) := by decide +kernel
theorem d_Rep_answerOrder_23 : decode mm_Rep_answerOrder.2.1 23 = .ok (.invokevirtual 32, 3) := by decide +kernel
theorem d_Rep_answerOrder_26 : decode mm_Rep_answerOrder.2.1 26 = .ok (.return_, 1) := by decide +kernel
def wp_Rep_answerOrder (x : Nat) (a1 : Int32) (a2 : Int32) (M : MzM) (K : MzM → Prop) : Prop := (∀ M1 : MzM, M1 = mz_si M (9, x) 4 (0 : Int32) → wp_Rep_write x (255 : Int32) M1 (fun M2 => wp_Rep_write x a1 M2 (fun M5 => wp_Rep_write x a2 M5 (fun M8 => wp_Rep_keepDraft x  M8 (fun M11 => K M11)))))
theorem tm_Rep_answerOrder {G : MzG} {B : MzB} {d : Nat} {K : MzM → Prop} (hF : mzLive false B) {x : Nat} (hx : x < 2) {a1 : Int32} {a2 : Int32} {M : MzM} (hL : mzLnk false M) (h : wp_Rep_answerOrder x a1 a2 M K) : MzC G B (d + 1) mm_Rep_answerOrder [.ref (mz_ad B (9, x)), .int a1, .int a2] M (0, 0) (mzK0 false B K) := by
  unfold wp_Rep_answerOrder at h
  exact MzC.of rfl (Nat.le_of_ble_eq_true rfl) (show MzS G B (d + 1) mm_Rep_answerOrder M (0, 0) (mzK0 false B K) 0 [(0, .ref (mz_ad B (9, x))), (1, .int a1), (2, .int a2)] [] from (mz_aload_n d_Rep_answerOrder_0 rfl (mz_iconst (0 : Int32) d_Rep_answerOrder_1 (by decide) (mz_putI (k := 4) cl_5 d_Rep_answerOrder_2 (by decide) wf_Rep_25 rfl rfl rfl rfl (hF 9 x rfl hx) rfl (let M1 : MzM := mz_si M (9, x) 4 (0 : Int32); (mz_aload_n d_Rep_answerOrder_5 rfl (mz_sipush (255 : Int32) d_Rep_answerOrder_6 (by decide) (mz_callV (As := [.int (255 : Int32)]) (st := []) (hF 9 x rfl hx) rfl (mzClOf cl_5) 0 0 d_Rep_answerOrder_9 cs_Rep_write wl_Rep_28 wi_Rep_write wse_Rep_write (Nat.le_of_ble_eq_true rfl) (Nat.zero_le _) (Nat.zero_le _) (MzC.mono (tm_Rep_write (d := d) hF hx hL (h M1 rfl)) (fun r9 B9 M2 hq4 => by obtain ⟨rfl, hL3, rfl, hq4⟩ := hq4; exact ⟨none, rfl, (mz_aload_n d_Rep_answerOrder_12 rfl (mz_iload_n d_Rep_answerOrder_13 rfl (mz_callV (As := [.int a1]) (st := []) (hF 9 x rfl hx) rfl (mzClOf cl_5) 0 0 d_Rep_answerOrder_14 cs_Rep_write wl_Rep_28 wi_Rep_write wse_Rep_write (Nat.le_of_ble_eq_true rfl) (Nat.zero_le _) (Nat.zero_le _) (MzC.mono (tm_Rep_write (d := d) hF hx hL3 hq4) (fun r9 B9 M5 hq7 => by obtain ⟨rfl, hL6, rfl, hq7⟩ := hq7; exact ⟨none, rfl, (mz_aload_n d_Rep_answerOrder_17 rfl (mz_iload_n d_Rep_answerOrder_18 rfl (mz_callV (As := [.int a2]) (st := []) (hF 9 x rfl hx) rfl (mzClOf cl_5) 0 0 d_Rep_answerOrder_19 cs_Rep_write wl_Rep_28 wi_Rep_write wse_Rep_write (Nat.le_of_ble_eq_true rfl) (Nat.zero_le _) (Nat.zero_le _) (MzC.mono (tm_Rep_write (d := d) hF hx hL6 hq7) (fun r9 B9 M8 hq10 => by obtain ⟨rfl, hL9, rfl, hq10⟩ := hq10; exact ⟨none, rfl, (mz_aload_n d_Rep_answerOrder_22 rfl (mz_callV (As := []) (st := []) (hF 9 x rfl hx) rfl (mzClOf cl_5) 0 0 d_Rep_answerOrder_23 cs_Rep_keepDraft wl_Rep_32 wi_Rep_keepDraft wse_Rep_keepDraft (Nat.le_of_ble_eq_true rfl) (Nat.zero_le _) (Nat.zero_le _) (MzC.mono (tm_Rep_keepDraft (d := d) hF hx hL9 hq10) (fun r9 B9 M11 hq13 => by obtain ⟨rfl, hL12, rfl, hq13⟩ := hq13; exact ⟨none, rfl, (mz_vret d_Rep_answerOrder_26 rfl ⟨rfl, hL12, rfl, hq13⟩)⟩))))⟩)))))⟩)))))⟩))))))))))
def mm_Lin_answerOrder : MzT := (⟨"ParcelLine$LineReader", "answerOrder", "(II)V"⟩, prog_7_method_5_code, 3, (Option.none : Option Jvm.ClassFile.FieldType))
theorem cs_Lin_answerOrder {mm : MzT} : mzCall mm mm_Lin_answerOrder 2 := ⟨wn_Lin, wco_Lin_answerOrder, by decide +kernel, by decide⟩
theorem d_Lin_answerOrder_0 : decode mm_Lin_answerOrder.2.1 0 = .ok (.iload_n 1, 1) := by decide +kernel
theorem d_Lin_answerOrder_1 : decode mm_Lin_answerOrder.2.1 1 = .ok (.sipush 253, 3) := by decide +kernel
theorem d_Lin_answerOrder_4 : decode mm_Lin_answerOrder.2.1 4 = .ok (.if_icmp .ne 14, 3) := by decide +kernel
theorem d_Lin_answerOrder_7 : decode mm_Lin_answerOrder.2.1 7 = .ok (.aload_n 0, 1) := by decide +kernel
theorem d_Lin_answerOrder_8 : decode mm_Lin_answerOrder.2.1 8 = .ok (.getfield 9, 3) := by decide +kernel
theorem d_Lin_answerOrder_11 : decode mm_Lin_answerOrder.2.1 11 = .ok (.sipush 252, 3) := by decide +kernel
theorem d_Lin_answerOrder_14 : decode mm_Lin_answerOrder.2.1 14 = .ok (.iload_n 2, 1) := by decide +kernel
theorem d_Lin_answerOrder_15 : decode mm_Lin_answerOrder.2.1 15 = .ok (.invokevirtual 44, 3) := by decide +kernel
theorem d_Lin_answerOrder_18 : decode mm_Lin_answerOrder.2.1 18 = .ok (.iload_n 1, 1) := by decide +kernel
theorem d_Lin_answerOrder_19 : decode mm_Lin_answerOrder.2.1 19 = .ok (.sipush 251, 3) := by decide +kernel
theorem d_Lin_answerOrder_22 : decode mm_Lin_answerOrder.2.1 22 = .ok (.if_icmp .ne 14, 3) := by decide +kernel
theorem d_Lin_answerOrder_25 : decode mm_Lin_answerOrder.2.1 25 = .ok (.aload_n 0, 1) := by decide +kernel
theorem d_Lin_answerOrder_26 : decode mm_Lin_answerOrder.2.1 26 = .ok (.getfield 9, 3) := by decide +kernel
theorem d_Lin_answerOrder_29 : decode mm_Lin_answerOrder.2.1 29 = .ok (.sipush 254, 3) := by decide +kernel
theorem d_Lin_answerOrder_32 : decode mm_Lin_answerOrder.2.1 32 = .ok (.iload_n 2, 1) := by decide +kernel
theorem d_Lin_answerOrder_33 : decode mm_Lin_answerOrder.2.1 33 = .ok (.invokevirtual 44, 3) := by decide +kernel
theorem d_Lin_answerOrder_36 : decode mm_Lin_answerOrder.2.1 36 = .ok (.return_, 1) := by decide +kernel
def wp_Lin_answerOrder_18 (x : Nat)  (K : MzM → Prop) (y1 : Int32) (y2 : Int32) (M : MzM) : Prop := ((¬ y1 = (251 : Int32) → K M) ∧ (y1 = (251 : Int32) → wp_Rep_answerOrder x (254 : Int32) y2 M (fun M5 => K M5)))
def wp_Lin_answerOrder (x : Nat) (a1 : Int32) (a2 : Int32) (M : MzM) (K : MzM → Prop) : Prop := ((¬ a1 = (253 : Int32) → wp_Lin_answerOrder_18 x  K a1 a2 M) ∧ (a1 = (253 : Int32) → wp_Rep_answerOrder x (252 : Int32) a2 M (fun M1 => wp_Lin_answerOrder_18 x  K a1 a2 M1)))
theorem tm_Lin_answerOrder_18 {G : MzG} {B : MzB} {d : Nat} {K : MzM → Prop} (hF : mzLive false B) {x : Nat} (hx : x < 2)   (y1 : Int32) (y2 : Int32) (M : MzM) (hL : mzLnk false M) (h : wp_Lin_answerOrder_18 x  K y1 y2 M) : MzS G B (d + 2) mm_Lin_answerOrder M (0, 0) (mzK0 false B K) 18 [(0, .ref (mz_ad B (12, x))), (1, .int y1), (2, .int y2)] [] := by
  unfold wp_Lin_answerOrder_18 at h
  exact (mz_iload_n d_Lin_answerOrder_18 rfl (mz_sipush (251 : Int32) d_Lin_answerOrder_19 (by decide) (mz_icmp_ne 36 d_Lin_answerOrder_22 rfl (fun hc8 => (mz_vret d_Lin_answerOrder_36 rfl ⟨rfl, hL, rfl, (h.1 hc8)⟩)) (fun hc8 => (mz_aload_n d_Lin_answerOrder_25 rfl (mz_getR (k := 0) (a := (9, x)) cl_6 d_Lin_answerOrder_26 (by decide) wf_Lin_9 rfl (hF 12 x rfl hx) rfl (hL (12, x) 0 (9, x) rfl rfl hx) (mz_sipush (254 : Int32) d_Lin_answerOrder_29 (by decide) (mz_iload_n d_Lin_answerOrder_32 rfl (mz_callV (As := [.int (254 : Int32), .int y2]) (st := []) (hF 9 x rfl hx) rfl (mzClOf cl_5) 0 0 d_Lin_answerOrder_33 cs_Rep_answerOrder wl_Lin_44 wi_Rep_answerOrder wse_Rep_answerOrder (Nat.le_of_ble_eq_true rfl) (Nat.zero_le _) (Nat.zero_le _) (MzC.mono (tm_Rep_answerOrder (d := d) hF hx hL (h.2 hc8)) (fun r9 B9 M5 hq7 => by obtain ⟨rfl, hL6, rfl, hq7⟩ := hq7; exact ⟨none, rfl, (mz_vret d_Lin_answerOrder_36 rfl ⟨rfl, hL6, rfl, hq7⟩)⟩)))))))))))
theorem tm_Lin_answerOrder {G : MzG} {B : MzB} {d : Nat} {K : MzM → Prop} (hF : mzLive false B) {x : Nat} (hx : x < 2) {a1 : Int32} {a2 : Int32} {M : MzM} (hL : mzLnk false M) (h : wp_Lin_answerOrder x a1 a2 M K) : MzC G B (d + 2) mm_Lin_answerOrder [.ref (mz_ad B (12, x)), .int a1, .int a2] M (0, 0) (mzK0 false B K) := by
  unfold wp_Lin_answerOrder at h
  exact MzC.of rfl (Nat.le_of_ble_eq_true rfl) (show MzS G B (d + 2) mm_Lin_answerOrder M (0, 0) (mzK0 false B K) 0 [(0, .ref (mz_ad B (12, x))), (1, .int a1), (2, .int a2)] [] from (mz_iload_n d_Lin_answerOrder_0 rfl (mz_sipush (253 : Int32) d_Lin_answerOrder_1 (by decide) (mz_icmp_ne 18 d_Lin_answerOrder_4 rfl (fun hc4 => (MzS.loc [(0, .ref (mz_ad B (12, x))), (1, .int a1), (2, .int a2)] ⟨rfl, rfl, rfl, trivial⟩ (tm_Lin_answerOrder_18 hF hx  a1 a2 M hL (h.1 hc4)))) (fun hc4 => (mz_aload_n d_Lin_answerOrder_7 rfl (mz_getR (k := 0) (a := (9, x)) cl_6 d_Lin_answerOrder_8 (by decide) wf_Lin_9 rfl (hF 12 x rfl hx) rfl (hL (12, x) 0 (9, x) rfl rfl hx) (mz_sipush (252 : Int32) d_Lin_answerOrder_11 (by decide) (mz_iload_n d_Lin_answerOrder_14 rfl (mz_callV (As := [.int (252 : Int32), .int a2]) (st := []) (hF 9 x rfl hx) rfl (mzClOf cl_5) 0 0 d_Lin_answerOrder_15 cs_Rep_answerOrder wl_Lin_44 wi_Rep_answerOrder wse_Rep_answerOrder (Nat.le_of_ble_eq_true rfl) (Nat.zero_le _) (Nat.zero_le _) (MzC.mono (tm_Rep_answerOrder (d := d) hF hx hL (h.2 hc4)) (fun r9 B9 M1 hq3 => by obtain ⟨rfl, hL2, rfl, hq3⟩ := hq3; exact ⟨none, rfl, (MzS.loc [(0, .ref (mz_ad B (12, x))), (1, .int a1), (2, .int a2)] ⟨rfl, rfl, rfl, trivial⟩ (tm_Lin_answerOrder_18 hF hx  a1 a2 M1 hL2 hq3))⟩))))))))))))
def mm_Lin_readByte : MzT := (⟨"ParcelLine$LineReader", "readByte", "(I)Z"⟩, prog_7_method_4_code, 3, (Option.some Jvm.ClassFile.FieldType.boolean))
theorem cs_Lin_readByte {mm : MzT} : mzCall mm mm_Lin_readByte 1 := ⟨wn_Lin, wco_Lin_readByte, by decide +kernel, by decide⟩
theorem d_Lin_readByte_0 : decode mm_Lin_readByte.2.1 0 = .ok (.aload_n 0, 1) := by decide +kernel
theorem d_Lin_readByte_1 : decode mm_Lin_readByte.2.1 1 = .ok (.getfield 19, 3) := by decide +kernel
theorem d_Lin_readByte_4 : decode mm_Lin_readByte.2.1 4 = .ok (.istore_n 2, 1) := by decide +kernel
theorem d_Lin_readByte_5 : decode mm_Lin_readByte.2.1 5 = .ok (.aload_n 0, 1) := by decide +kernel
theorem d_Lin_readByte_6 : decode mm_Lin_readByte.2.1 6 = .ok (.iconst 0, 1) := by decide +kernel
theorem d_Lin_readByte_7 : decode mm_Lin_readByte.2.1 7 = .ok (.putfield 19, 3) := by decide +kernel
theorem d_Lin_readByte_10 : decode mm_Lin_readByte.2.1 10 = .ok (.iload_n 2, 1) := by decide +kernel
theorem d_Lin_readByte_11 : decode mm_Lin_readByte.2.1 11 = .ok (.ifCond .ne 25, 3) := by decide +kernel
theorem d_Lin_readByte_14 : decode mm_Lin_readByte.2.1 14 = .ok (.iload_n 1, 1) := by decide +kernel
theorem d_Lin_readByte_15 : decode mm_Lin_readByte.2.1 15 = .ok (.sipush 255, 3) := by decide +kernel
theorem d_Lin_readByte_18 : decode mm_Lin_readByte.2.1 18 = .ok (.if_icmp .eq 9, 3) := by decide +kernel
theorem d_Lin_readByte_21 : decode mm_Lin_readByte.2.1 21 = .ok (.aload_n 0, 1) := by decide +kernel
theorem d_Lin_readByte_22 : decode mm_Lin_readByte.2.1 22 = .ok (.iload_n 1, 1) := by decide +kernel
theorem d_Lin_readByte_23 : decode mm_Lin_readByte.2.1 23 = .ok (.invokevirtual 36, 3) := by decide +kernel
theorem d_Lin_readByte_26 : decode mm_Lin_readByte.2.1 26 = .ok (.ireturn, 1) := by decide +kernel
theorem d_Lin_readByte_27 : decode mm_Lin_readByte.2.1 27 = .ok (.aload_n 0, 1) := by decide +kernel
theorem d_Lin_readByte_28 : decode mm_Lin_readByte.2.1 28 = .ok (.sipush 255, 3) := by decide +kernel
theorem d_Lin_readByte_31 : decode mm_Lin_readByte.2.1 31 = .ok (.putfield 19, 3) := by decide +kernel
theorem d_Lin_readByte_34 : decode mm_Lin_readByte.2.1 34 = .ok (.iconst 0, 1) := by decide +kernel
theorem d_Lin_readByte_35 : decode mm_Lin_readByte.2.1 35 = .ok (.ireturn, 1) := by decide +kernel
theorem d_Lin_readByte_36 : decode mm_Lin_readByte.2.1 36 = .ok (.iload_n 2, 1) := by decide +kernel
theorem d_Lin_readByte_37 : decode mm_Lin_readByte.2.1 37 = .ok (.sipush 255, 3) := by decide +kernel
theorem d_Lin_readByte_40 : decode mm_Lin_readByte.2.1 40 = .ok (.if_icmp .ne 41, 3) := by decide +kernel
theorem d_Lin_readByte_43 : decode mm_Lin_readByte.2.1 43 = .ok (.iload_n 1, 1) := by decide +kernel
theorem d_Lin_readByte_44 : decode mm_Lin_readByte.2.1 44 = .ok (.sipush 255, 3) := by decide +kernel
theorem d_Lin_readByte_47 : decode mm_Lin_readByte.2.1 47 = .ok (.if_icmp .ne 9, 3) := by decide +kernel
theorem d_Lin_readByte_50 : decode mm_Lin_readByte.2.1 50 = .ok (.aload_n 0, 1) := by decide +kernel
theorem d_Lin_readByte_51 : decode mm_Lin_readByte.2.1 51 = .ok (.iload_n 1, 1) := by decide +kernel
theorem d_Lin_readByte_52 : decode mm_Lin_readByte.2.1 52 = .ok (.invokevirtual 36, 3) := by decide +kernel
theorem d_Lin_readByte_55 : decode mm_Lin_readByte.2.1 55 = .ok (.ireturn, 1) := by decide +kernel
theorem d_Lin_readByte_56 : decode mm_Lin_readByte.2.1 56 = .ok (.aload_n 0, 1) := by decide +kernel
theorem d_Lin_readByte_57 : decode mm_Lin_readByte.2.1 57 = .ok (.iload_n 1, 1) := by decide +kernel
theorem d_Lin_readByte_58 : decode mm_Lin_readByte.2.1 58 = .ok (.sipush 251, 3) := by decide +kernel
theorem d_Lin_readByte_61 : decode mm_Lin_readByte.2.1 61 = .ok (.if_icmp .lt 14, 3) := by decide +kernel
theorem d_Lin_readByte_64 : decode mm_Lin_readByte.2.1 64 = .ok (.iload_n 1, 1) := by decide +kernel
theorem d_Lin_readByte_65 : decode mm_Lin_readByte.2.1 65 = .ok (.sipush 254, 3) := by decide +kernel
theorem d_Lin_readByte_68 : decode mm_Lin_readByte.2.1 68 = .ok (.if_icmp .gt 7, 3) := by decide +kernel
theorem d_Lin_readByte_71 : decode mm_Lin_readByte.2.1 71 = .ok (.iload_n 1, 1) := by decide +kernel
theorem d_Lin_readByte_72 : decode mm_Lin_readByte.2.1 72 = .ok (.goto 4, 3) := by decide +kernel
theorem d_Lin_readByte_75 : decode mm_Lin_readByte.2.1 75 = .ok (.iconst 0, 1) := by decide +kernel
theorem d_Lin_readByte_76 : decode mm_Lin_readByte.2.1 76 = .ok (.putfield 19, 3) := by decide +kernel
theorem d_Lin_readByte_79 : decode mm_Lin_readByte.2.1 79 = .ok (.iconst 0, 1) := by decide +kernel
theorem d_Lin_readByte_80 : decode mm_Lin_readByte.2.1 80 = .ok (.ireturn, 1) := by decide +kernel
theorem d_Lin_readByte_81 : decode mm_Lin_readByte.2.1 81 = .ok (.aload_n 0, 1) := by decide +kernel
theorem d_Lin_readByte_82 : decode mm_Lin_readByte.2.1 82 = .ok (.iload_n 2, 1) := by decide +kernel
theorem d_Lin_readByte_83 : decode mm_Lin_readByte.2.1 83 = .ok (.iload_n 1, 1) := by decide +kernel
theorem d_Lin_readByte_84 : decode mm_Lin_readByte.2.1 84 = .ok (.invokevirtual 40, 3) := by decide +kernel
theorem d_Lin_readByte_87 : decode mm_Lin_readByte.2.1 87 = .ok (.iconst 0, 1) := by decide +kernel
theorem d_Lin_readByte_88 : decode mm_Lin_readByte.2.1 88 = .ok (.ireturn, 1) := by decide +kernel
def wp_Lin_readByte (x : Nat) (a1 : Int32) (M : MzM) (K : Int32 → MzM → Prop) : Prop := (∀ M1 : MzM, M1 = mz_si M (12, x) 4 (0 : Int32) → ((¬ (mz_i M (12, x) 4) = 0 → ((¬ (mz_i M (12, x) 4) = (255 : Int32) → wp_Lin_answerOrder x (mz_i M (12, x) 4) a1 M1 (fun M2 => K (0 : Int32) M2)) ∧ ((mz_i M (12, x) 4) = (255 : Int32) → ((¬ a1 = (255 : Int32) → ((a1 < (251 : Int32) → (∀ M5 : MzM, M5 = mz_si M1 (12, x) 4 (0 : Int32) → K (0 : Int32) M5)) ∧ (¬ a1 < (251 : Int32) → (((254 : Int32) < a1 → (∀ M6 : MzM, M6 = mz_si M1 (12, x) 4 (0 : Int32) → K (0 : Int32) M6)) ∧ (¬ (254 : Int32) < a1 → (∀ M7 : MzM, M7 = mz_si M1 (12, x) 4 a1 → K (0 : Int32) M7)))))) ∧ (a1 = (255 : Int32) → wp_Lin_readLineByte x a1 M1 (fun v13 M10 => ((v13 = 0 ∨ v13 = 1) ∧ K v13 M10))))))) ∧ ((mz_i M (12, x) 4) = 0 → ((a1 = (255 : Int32) → (∀ M16 : MzM, M16 = mz_si M1 (12, x) 4 (255 : Int32) → K (0 : Int32) M16)) ∧ (¬ a1 = (255 : Int32) → wp_Lin_readLineByte x a1 M1 (fun v20 M17 => ((v20 = 0 ∨ v20 = 1) ∧ K v20 M17)))))))
theorem tm_Lin_readByte {G : MzG} {B : MzB} {d : Nat} {K : Int32 → MzM → Prop} (hF : mzLive false B) {x : Nat} (hx : x < 2) {a1 : Int32} {M : MzM} (hL : mzLnk false M) (h : wp_Lin_readByte x a1 M K) : MzC G B (d + 3) mm_Lin_readByte [.ref (mz_ad B (12, x)), .int a1] M (0, 0) (mzK1 false B K) := by
  unfold wp_Lin_readByte at h
  exact MzC.of rfl (Nat.le_of_ble_eq_true rfl) (show MzS G B (d + 3) mm_Lin_readByte M (0, 0) (mzK1 false B K) 0 [(0, .ref (mz_ad B (12, x))), (1, .int a1)] [] from (mz_aload_n d_Lin_readByte_0 rfl (mz_getI (k := 4) cl_6 d_Lin_readByte_1 (by decide) wf_Lin_19 rfl (hF 12 x rfl hx) rfl (mz_istore_n d_Lin_readByte_4 (by decide) (mz_aload_n d_Lin_readByte_5 rfl (mz_iconst (0 : Int32) d_Lin_readByte_6 (by decide) (mz_putI (k := 4) cl_6 d_Lin_readByte_7 (by decide) wf_Lin_19 rfl rfl rfl rfl (hF 12 x rfl hx) rfl (let M1 : MzM := mz_si M (12, x) 4 (0 : Int32); (mz_iload_n d_Lin_readByte_10 rfl (mz_if_ne 36 d_Lin_readByte_11 rfl (fun hc22 => (mz_iload_n d_Lin_readByte_36 rfl (mz_sipush (255 : Int32) d_Lin_readByte_37 (by decide) (mz_icmp_ne 81 d_Lin_readByte_40 rfl (fun hc15 => (mz_aload_n d_Lin_readByte_81 rfl (mz_iload_n d_Lin_readByte_82 rfl (mz_iload_n d_Lin_readByte_83 rfl (mz_callV (As := [.int (mz_i M (12, x) 4), .int a1]) (st := []) (hF 12 x rfl hx) rfl (mzClOf cl_6) 0 0 d_Lin_readByte_84 cs_Lin_answerOrder wl_Lin_40 wi_Lin_answerOrder wse_Lin_answerOrder (Nat.le_of_ble_eq_true rfl) (Nat.zero_le _) (Nat.zero_le _) (MzC.mono (tm_Lin_answerOrder (d := d) hF hx hL (((h M1 rfl).1 hc22).1 hc15)) (fun r9 B9 M2 hq4 => by obtain ⟨rfl, hL3, rfl, hq4⟩ := hq4; exact ⟨none, rfl, (mz_iconst (0 : Int32) d_Lin_readByte_87 (by decide) (mz_iret .boolean d_Lin_readByte_88 rfl rfl ⟨rfl, hL3, _, rfl, hq4⟩))⟩))))))) (fun hc15 => (mz_iload_n d_Lin_readByte_43 rfl (mz_sipush (255 : Int32) d_Lin_readByte_44 (by decide) (mz_icmp_ne 56 d_Lin_readByte_47 rfl (fun hc14 => (mz_aload_n d_Lin_readByte_56 rfl (mz_iload_n d_Lin_readByte_57 rfl (mz_sipush (251 : Int32) d_Lin_readByte_58 (by decide) (mz_icmp_lt 75 d_Lin_readByte_61 rfl (fun hc9 => (mz_iconst (0 : Int32) d_Lin_readByte_75 (by decide) (mz_putI (k := 4) cl_6 d_Lin_readByte_76 (by decide) wf_Lin_19 rfl rfl rfl rfl (hF 12 x rfl hx) rfl (let M5 : MzM := mz_si M1 (12, x) 4 (0 : Int32); (mz_iconst (0 : Int32) d_Lin_readByte_79 (by decide) (mz_iret .boolean d_Lin_readByte_80 rfl rfl ⟨rfl, hL, _, rfl, ((((((h M1 rfl).1 hc22).2 hc15).1 hc14).1 hc9) M5 rfl)⟩)))))) (fun hc9 => (mz_iload_n d_Lin_readByte_64 rfl (mz_sipush (254 : Int32) d_Lin_readByte_65 (by decide) (mz_icmp_gt 75 d_Lin_readByte_68 rfl (fun hc8 => (mz_iconst (0 : Int32) d_Lin_readByte_75 (by decide) (mz_putI (k := 4) cl_6 d_Lin_readByte_76 (by decide) wf_Lin_19 rfl rfl rfl rfl (hF 12 x rfl hx) rfl (let M6 : MzM := mz_si M1 (12, x) 4 (0 : Int32); (mz_iconst (0 : Int32) d_Lin_readByte_79 (by decide) (mz_iret .boolean d_Lin_readByte_80 rfl rfl ⟨rfl, hL, _, rfl, (((((((h M1 rfl).1 hc22).2 hc15).1 hc14).2 hc9).1 hc8) M6 rfl)⟩)))))) (fun hc8 => (mz_iload_n d_Lin_readByte_71 rfl (mz_goto 76 d_Lin_readByte_72 rfl (mz_putI (k := 4) cl_6 d_Lin_readByte_76 (by decide) wf_Lin_19 rfl rfl rfl rfl (hF 12 x rfl hx) rfl (let M7 : MzM := mz_si M1 (12, x) 4 a1; (mz_iconst (0 : Int32) d_Lin_readByte_79 (by decide) (mz_iret .boolean d_Lin_readByte_80 rfl rfl ⟨rfl, hL, _, rfl, (((((((h M1 rfl).1 hc22).2 hc15).1 hc14).2 hc9).2 hc8) M7 rfl)⟩)))))))))))))))) (fun hc14 => (mz_aload_n d_Lin_readByte_50 rfl (mz_iload_n d_Lin_readByte_51 rfl (mz_callV (As := [.int a1]) (st := []) (hF 12 x rfl hx) rfl (mzClOf cl_6) 0 0 d_Lin_readByte_52 cs_Lin_readLineByte wl_Lin_36 wi_Lin_readLineByte wse_Lin_readLineByte (Nat.le_of_ble_eq_true rfl) (Nat.zero_le _) (Nat.zero_le _) (MzC.mono (tm_Lin_readLineByte (d := (d + 1)) hF hx hL ((((h M1 rfl).1 hc22).2 hc15).2 hc14)) (fun r9 B9 M10 hq12 => by obtain ⟨rfl, hL11, v13, rfl, hq12⟩ := hq12; exact ⟨_, rfl, (mz_iret .boolean d_Lin_readByte_55 rfl (mz_bo hq12.1).1 ⟨rfl, hL11, _, rfl, hq12.2⟩)⟩)))))))))))))) (fun hc22 => (mz_iload_n d_Lin_readByte_14 rfl (mz_sipush (255 : Int32) d_Lin_readByte_15 (by decide) (mz_icmp_eq 27 d_Lin_readByte_18 rfl (fun hc21 => (mz_aload_n d_Lin_readByte_27 rfl (mz_sipush (255 : Int32) d_Lin_readByte_28 (by decide) (mz_putI (k := 4) cl_6 d_Lin_readByte_31 (by decide) wf_Lin_19 rfl rfl rfl rfl (hF 12 x rfl hx) rfl (let M16 : MzM := mz_si M1 (12, x) 4 (255 : Int32); (mz_iconst (0 : Int32) d_Lin_readByte_34 (by decide) (mz_iret .boolean d_Lin_readByte_35 rfl rfl ⟨rfl, hL, _, rfl, ((((h M1 rfl).2 hc22).1 hc21) M16 rfl)⟩))))))) (fun hc21 => (mz_aload_n d_Lin_readByte_21 rfl (mz_iload_n d_Lin_readByte_22 rfl (mz_callV (As := [.int a1]) (st := []) (hF 12 x rfl hx) rfl (mzClOf cl_6) 0 0 d_Lin_readByte_23 cs_Lin_readLineByte wl_Lin_36 wi_Lin_readLineByte wse_Lin_readLineByte (Nat.le_of_ble_eq_true rfl) (Nat.zero_le _) (Nat.zero_le _) (MzC.mono (tm_Lin_readLineByte (d := (d + 1)) hF hx hL (((h M1 rfl).2 hc22).2 hc21)) (fun r9 B9 M17 hq19 => by obtain ⟨rfl, hL18, v20, rfl, hq19⟩ := hq19; exact ⟨_, rfl, (mz_iret .boolean d_Lin_readByte_26 rfl (mz_bo hq19.1).1 ⟨rfl, hL18, _, rfl, hq19.2⟩)⟩))))))))))))))))))))
def mm_Lin_split : MzT := (⟨"ParcelLine$LineReader", "split", "()V"⟩, prog_7_method_8_code, 2, (Option.none : Option Jvm.ClassFile.FieldType))
theorem cs_Lin_split {mm : MzT} : mzCall mm mm_Lin_split 0 := ⟨wn_Lin, wco_Lin_split, by decide +kernel, by decide⟩
theorem d_Lin_split_0 : decode mm_Lin_split.2.1 0 = .ok (.aload_n 0, 1) := by decide +kernel
theorem d_Lin_split_1 : decode mm_Lin_split.2.1 1 = .ok (.aload_n 0, 1) := by decide +kernel
theorem d_Lin_split_2 : decode mm_Lin_split.2.1 2 = .ok (.getfield 30, 3) := by decide +kernel
theorem d_Lin_split_5 : decode mm_Lin_split.2.1 5 = .ok (.putfield 51, 3) := by decide +kernel
theorem d_Lin_split_8 : decode mm_Lin_split.2.1 8 = .ok (.iconst 0, 1) := by decide +kernel
theorem d_Lin_split_9 : decode mm_Lin_split.2.1 9 = .ok (.istore_n 1, 1) := by decide +kernel
theorem d_Lin_split_10 : decode mm_Lin_split.2.1 10 = .ok (.iload_n 1, 1) := by decide +kernel
theorem d_Lin_split_11 : decode mm_Lin_split.2.1 11 = .ok (.aload_n 0, 1) := by decide +kernel
theorem d_Lin_split_12 : decode mm_Lin_split.2.1 12 = .ok (.getfield 30, 3) := by decide +kernel
theorem d_Lin_split_15 : decode mm_Lin_split.2.1 15 = .ok (.if_icmp .ge 26, 3) := by decide +kernel
theorem d_Lin_split_18 : decode mm_Lin_split.2.1 18 = .ok (.aload_n 0, 1) := by decide +kernel
theorem d_Lin_split_19 : decode mm_Lin_split.2.1 19 = .ok (.getfield 15, 3) := by decide +kernel
theorem d_Lin_split_22 : decode mm_Lin_split.2.1 22 = .ok (.iload_n 1, 1) := by decide +kernel
theorem d_Lin_split_23 : decode mm_Lin_split.2.1 23 = .ok (.iaload, 1) := by decide +kernel
theorem d_Lin_split_24 : decode mm_Lin_split.2.1 24 = .ok (.bipush 32, 2) := by decide +kernel
theorem d_Lin_split_26 : decode mm_Lin_split.2.1 26 = .ok (.if_icmp .ne 9, 3) := by decide +kernel
theorem d_Lin_split_29 : decode mm_Lin_split.2.1 29 = .ok (.aload_n 0, 1) := by decide +kernel
theorem d_Lin_split_30 : decode mm_Lin_split.2.1 30 = .ok (.iload_n 1, 1) := by decide +kernel
theorem d_Lin_split_31 : decode mm_Lin_split.2.1 31 = .ok (.putfield 51, 3) := by decide +kernel
theorem d_Lin_split_34 : decode mm_Lin_split.2.1 34 = .ok (.return_, 1) := by decide +kernel
theorem d_Lin_split_35 : decode mm_Lin_split.2.1 35 = .ok (.iinc 1 1, 3) := by decide +kernel
theorem d_Lin_split_38 : decode mm_Lin_split.2.1 38 = .ok (.goto (-28), 3) := by decide +kernel
theorem d_Lin_split_41 : decode mm_Lin_split.2.1 41 = .ok (.return_, 1) := by decide +kernel
def wp_Lin_split_10 (x : Nat)  (K : MzM → Prop) : Nat → Int32 → MzM → Prop
  | 0, _, _ => False
  | r0 + 1, y1, M => (((mz_i M (12, x) 2) ≤ y1 → K M) ∧ (¬ (mz_i M (12, x) 2) ≤ y1 → (∃ j4 : Nat, y1.toInt = (j4 : Int) ∧ j4 < 30 ∧ ((¬ (mz_i M (13, x) j4) = (32 : Int32) → (wp_Lin_split_10 x  K r0) (y1 + (1 : Int32)) M) ∧ ((mz_i M (13, x) j4) = (32 : Int32) → (∀ M8 : MzM, M8 = mz_si M (12, x) 6 y1 → K M8))))))
def wp_Lin_split (x : Nat)  (M : MzM) (K : MzM → Prop) : Prop := (∀ M1 : MzM, M1 = mz_si M (12, x) 6 (mz_i M (12, x) 2) → (∃ r2 : Nat, wp_Lin_split_10 x  K r2 (0 : Int32) M1))
theorem tm_Lin_split_10 {G : MzG} {B : MzB} {d : Nat} {K : MzM → Prop} (hF : mzLive false B) {x : Nat} (hx : x < 2)   : ∀ (r0 : Nat) (y1 : Int32) (M : MzM), mzLnk false M → wp_Lin_split_10 x  K r0 y1 M → MzS G B d mm_Lin_split M (0, 0) (mzK0 false B K) 10 [(0, .ref (mz_ad B (12, x))), (1, .int y1)] [] := by
  intro r0
  induction r0 with
  | zero => intro y1 M hL h; exact False.elim h
  | succ r0 hH10 =>
    intro y1 M hL h
    unfold wp_Lin_split_10 at h
    exact (mz_iload_n d_Lin_split_10 rfl (mz_aload_n d_Lin_split_11 rfl (mz_getI (k := 2) cl_6 d_Lin_split_12 (by decide) wf_Lin_30 rfl (hF 12 x rfl hx) rfl (mz_icmp_ge 41 d_Lin_split_15 rfl (fun hc10 => (mz_vret d_Lin_split_41 rfl ⟨rfl, hL, rfl, (h.1 hc10)⟩)) (fun hc10 => (mz_aload_n d_Lin_split_18 rfl (mz_getR (k := 1) (a := (13, x)) cl_6 d_Lin_split_19 (by decide) wf_Lin_15 rfl (hF 12 x rfl hx) rfl (hL (12, x) 1 (13, x) rfl rfl hx) (mz_iload_n d_Lin_split_22 rfl (match (h.2 hc10) with | ⟨j4, h5, h6, h7⟩ => mz_iald j4 d_Lin_split_23 (hF 13 x rfl hx) rfl h5 h6 (mz_bipush (32 : Int32) d_Lin_split_24 (by decide) (mz_icmp_ne 35 d_Lin_split_26 rfl (fun hc9 => (mz_iinc (y1 + (1 : Int32)) d_Lin_split_35 rfl (by decide) rfl (mz_goto 10 d_Lin_split_38 rfl (MzS.loc [(0, .ref (mz_ad B (12, x))), (1, .int (y1 + (1 : Int32)))] ⟨rfl, rfl, trivial⟩ (hH10 (y1 + (1 : Int32)) M hL (h7.1 hc9)))))) (fun hc9 => (mz_aload_n d_Lin_split_29 rfl (mz_iload_n d_Lin_split_30 rfl (mz_putI (k := 6) cl_6 d_Lin_split_31 (by decide) wf_Lin_51 rfl rfl rfl rfl (hF 12 x rfl hx) rfl (let M8 : MzM := mz_si M (12, x) 6 y1; (mz_vret d_Lin_split_34 rfl ⟨rfl, hL, rfl, ((h7.2 hc9) M8 rfl)⟩)))))))))))))))))
theorem tm_Lin_split {G : MzG} {B : MzB} {d : Nat} {K : MzM → Prop} (hF : mzLive false B) {x : Nat} (hx : x < 2)  {M : MzM} (hL : mzLnk false M) (h : wp_Lin_split x  M K) : MzC G B d mm_Lin_split [.ref (mz_ad B (12, x))] M (0, 0) (mzK0 false B K) := by
  unfold wp_Lin_split at h
  exact MzC.of rfl (Nat.le_of_ble_eq_true rfl) (show MzS G B d mm_Lin_split M (0, 0) (mzK0 false B K) 0 [(0, .ref (mz_ad B (12, x)))] [] from (mz_aload_n d_Lin_split_0 rfl (mz_aload_n d_Lin_split_1 rfl (mz_getI (k := 2) cl_6 d_Lin_split_2 (by decide) wf_Lin_30 rfl (hF 12 x rfl hx) rfl (mz_putI (k := 6) cl_6 d_Lin_split_5 (by decide) wf_Lin_51 rfl rfl rfl rfl (hF 12 x rfl hx) rfl (let M1 : MzM := mz_si M (12, x) 6 (mz_i M (12, x) 2); (mz_iconst (0 : Int32) d_Lin_split_8 (by decide) (mz_istore_n d_Lin_split_9 (by decide) (MzS.loc [(0, .ref (mz_ad B (12, x))), (1, .int (0 : Int32))] ⟨rfl, rfl, trivial⟩ (match (h M1 rfl) with | ⟨r2, h3⟩ => tm_Lin_split_10 hF hx  r2 (0 : Int32) M1 hL h3))))))))))
def wp_PL_isNameByte_12   (K : Int32 → MzM → Prop) (y0 : Int32) (M : MzM) : Prop := ((y0 < (48 : Int32) → K (0 : Int32) M) ∧ (¬ y0 < (48 : Int32) → (((57 : Int32) < y0 → K (0 : Int32) M) ∧ (¬ (57 : Int32) < y0 → K (1 : Int32) M))))
def wp_PL_isNameByte  (a0 : Int32) (M : MzM) (K : Int32 → MzM → Prop) : Prop := ((a0 < (97 : Int32) → wp_PL_isNameByte_12   K a0 M) ∧ (¬ a0 < (97 : Int32) → ((a0 ≤ (122 : Int32) → K (1 : Int32) M) ∧ (¬ a0 ≤ (122 : Int32) → wp_PL_isNameByte_12   K a0 M))))
theorem tm_PL_isNameByte_12 {G : MzG} {B : MzB} {d : Nat} {K : Int32 → MzM → Prop} (hF : mzLive false B)     (y0 : Int32) (M : MzM) (hL : mzLnk false M) (h : wp_PL_isNameByte_12   K y0 M) : MzS G B d mm_PL_isNameByte M (0, 0) (mzK1 false B K) 12 [(0, .int y0)] [] := by
  unfold wp_PL_isNameByte_12 at h
  exact (mz_iload_n d_PL_isNameByte_12 rfl (mz_bipush (48 : Int32) d_PL_isNameByte_13 (by decide) (mz_icmp_lt 28 d_PL_isNameByte_15 rfl (fun hc4 => (mz_iconst (0 : Int32) d_PL_isNameByte_28 (by decide) (mz_iret .boolean d_PL_isNameByte_29 rfl rfl ⟨rfl, hL, _, rfl, (h.1 hc4)⟩))) (fun hc4 => (mz_iload_n d_PL_isNameByte_18 rfl (mz_bipush (57 : Int32) d_PL_isNameByte_19 (by decide) (mz_icmp_gt 28 d_PL_isNameByte_21 rfl (fun hc3 => (mz_iconst (0 : Int32) d_PL_isNameByte_28 (by decide) (mz_iret .boolean d_PL_isNameByte_29 rfl rfl ⟨rfl, hL, _, rfl, ((h.2 hc4).1 hc3)⟩))) (fun hc3 => (mz_iconst (1 : Int32) d_PL_isNameByte_24 (by decide) (mz_goto 29 d_PL_isNameByte_25 rfl (mz_iret .boolean d_PL_isNameByte_29 rfl rfl ⟨rfl, hL, _, rfl, ((h.2 hc4).2 hc3)⟩)))))))))))
theorem tm_PL_isNameByte {G : MzG} {B : MzB} {d : Nat} {K : Int32 → MzM → Prop} (hF : mzLive false B)   {a0 : Int32} {M : MzM} (hL : mzLnk false M) (h : wp_PL_isNameByte  a0 M K) : MzC G B d mm_PL_isNameByte [.int a0] M (0, 0) (mzK1 false B K) := by
  unfold wp_PL_isNameByte at h
  exact MzC.of rfl (Nat.le_of_ble_eq_true rfl) (show MzS G B d mm_PL_isNameByte M (0, 0) (mzK1 false B K) 0 [(0, .int a0)] [] from (mz_iload_n d_PL_isNameByte_0 rfl (mz_bipush (97 : Int32) d_PL_isNameByte_1 (by decide) (mz_icmp_lt 12 d_PL_isNameByte_3 rfl (fun hc2 => (MzS.loc [(0, .int a0)] ⟨rfl, trivial⟩ (tm_PL_isNameByte_12 hF   a0 M hL (h.1 hc2)))) (fun hc2 => (mz_iload_n d_PL_isNameByte_6 rfl (mz_bipush (122 : Int32) d_PL_isNameByte_7 (by decide) (mz_icmp_le 24 d_PL_isNameByte_9 rfl (fun hc1 => (mz_iconst (1 : Int32) d_PL_isNameByte_24 (by decide) (mz_goto 29 d_PL_isNameByte_25 rfl (mz_iret .boolean d_PL_isNameByte_29 rfl rfl ⟨rfl, hL, _, rfl, ((h.2 hc2).1 hc1)⟩)))) (fun hc1 => (MzS.loc [(0, .int a0)] ⟨rfl, trivial⟩ (tm_PL_isNameByte_12 hF   a0 M hL ((h.2 hc2).2 hc1))))))))))))
