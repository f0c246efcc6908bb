def mm_Mo_keep : MzT := (⟨"ParcelLineModel", "keep", "(II)V"⟩, prog_14_method_6_code, 3, (Option.none : Option Jvm.ClassFile.FieldType))
theorem cs_Mo_keep {mm : MzT} : mzCall mm mm_Mo_keep 2 := ⟨wn_Mo, wco_Mo_keep, by decide +kernel, by decide⟩
theorem d_Mo_keep_0 : decode mm_Mo_keep.2.1 0 = .ok (.aload_n 0, 1) := by decide +kernel
theorem d_Mo_keep_1 : decode mm_Mo_keep.2.1 1 = .ok (.getfield 47, 3) := by decide +kernel
theorem d_Mo_keep_4 : decode mm_Mo_keep.2.1 4 = .ok (.iload_n 1, 1) := by decide +kernel
theorem d_Mo_keep_5 : decode mm_Mo_keep.2.1 5 = .ok (.iaload, 1) := by decide +kernel
theorem d_Mo_keep_6 : decode mm_Mo_keep.2.1 6 = .ok (.bipush 24, 2) := by decide +kernel
theorem d_Mo_keep_8 : decode mm_Mo_keep.2.1 8 = .ok (.if_icmp .ne 4, 3) := by decide +kernel
theorem d_Mo_keep_11 : decode mm_Mo_keep.2.1 11 = .ok (.return_, 1) := by decide +kernel
theorem d_Mo_keep_12 : decode mm_Mo_keep.2.1 12 = .ok (.aload_n 0, 1) := by decide +kernel
theorem d_Mo_keep_13 : decode mm_Mo_keep.2.1 13 = .ok (.getfield 53, 3) := by decide +kernel
theorem d_Mo_keep_16 : decode mm_Mo_keep.2.1 16 = .ok (.bipush 24, 2) := by decide +kernel
theorem d_Mo_keep_18 : decode mm_Mo_keep.2.1 18 = .ok (.iload_n 1, 1) := by decide +kernel
theorem d_Mo_keep_19 : decode mm_Mo_keep.2.1 19 = .ok (.imul, 1) := by decide +kernel
theorem d_Mo_keep_20 : decode mm_Mo_keep.2.1 20 = .ok (.aload_n 0, 1) := by decide +kernel
theorem d_Mo_keep_21 : decode mm_Mo_keep.2.1 21 = .ok (.getfield 47, 3) := by decide +kernel
theorem d_Mo_keep_24 : decode mm_Mo_keep.2.1 24 = .ok (.iload_n 1, 1) := by decide +kernel
theorem d_Mo_keep_25 : decode mm_Mo_keep.2.1 25 = .ok (.iaload, 1) := by decide +kernel
theorem d_Mo_keep_26 : decode mm_Mo_keep.2.1 26 = .ok (.iadd, 1) := by decide +kernel
theorem d_Mo_keep_27 : decode mm_Mo_keep.2.1 27 = .ok (.iload_n 2, 1) := by decide +kernel
theorem d_Mo_keep_28 : decode mm_Mo_keep.2.1 28 = .ok (.iastore, 1) := by decide +kernel
theorem d_Mo_keep_29 : decode mm_Mo_keep.2.1 29 = .ok (.aload_n 0, 1) := by decide +kernel
theorem d_Mo_keep_30 : decode mm_Mo_keep.2.1 30 = .ok (.getfield 47, 3) := by decide +kernel
theorem d_Mo_keep_33 : decode mm_Mo_keep.2.1 33 = .ok (.iload_n 1, 1) := by decide +kernel
theorem d_Mo_keep_34 : decode mm_Mo_keep.2.1 34 = .ok (.dup2, 1) := by decide +kernel
theorem d_Mo_keep_35 : decode mm_Mo_keep.2.1 35 = .ok (.iaload, 1) := by decide +kernel
theorem d_Mo_keep_36 : decode mm_Mo_keep.2.1 36 = .ok (.iconst 1, 1) := by decide +kernel
theorem d_Mo_keep_37 : decode mm_Mo_keep.2.1 37 = .ok (.iadd, 1) := by decide +kernel
theorem d_Mo_keep_38 : decode mm_Mo_keep.2.1 38 = .ok (.iastore, 1) := by decide +kernel
theorem d_Mo_keep_39 : decode mm_Mo_keep.2.1 39 = .ok (.return_, 1) := by decide +kernel
def wp_Mo_keep  (a1 : Int32) (a2 : Int32) (M : MzM) (K : MzM → Prop) : Prop := (∃ j1 : Nat, a1.toInt = (j1 : Int) ∧ j1 < 16 ∧ ((¬ (mz_i M (36, 0) j1) = (24 : Int32) → (∃ j5 : Nat, a1.toInt = (j5 : Int) ∧ j5 < 16 ∧ (∃ j12 : Nat, (((24 : Int32) * a1) + (mz_i M (36, 0) j5)).toInt = (j12 : Int) ∧ j12 < 384 ∧ ∀ M9 : MzM, M9 = mz_si M (38, 0) j12 a2 → (∃ j15 : Nat, a1.toInt = (j15 : Int) ∧ j15 < 16 ∧ (∃ j22 : Nat, a1.toInt = (j22 : Int) ∧ j22 < 16 ∧ ∀ M19 : MzM, M19 = mz_si M9 (36, 0) j22 ((mz_i M9 (36, 0) j15) + (1 : Int32)) → K M19))))) ∧ ((mz_i M (36, 0) j1) = (24 : Int32) → K M)))
theorem tm_Mo_keep {G : MzG} {B : MzB} {d : Nat} {K : MzM → Prop} (hF : mzLive true B)   {a1 : Int32} {a2 : Int32} {M : MzM} (hL : mzLnk true M) (h : wp_Mo_keep  a1 a2 M K) : MzC G B d mm_Mo_keep [.ref (mz_ad B (30, 0)), .int a1, .int a2] M (0, 0) (mzK0 true B K) := by
  unfold wp_Mo_keep at h
  exact MzC.of rfl (Nat.le_of_ble_eq_true rfl) (show MzS G B d mm_Mo_keep M (0, 0) (mzK0 true B K) 0 [(0, .ref (mz_ad B (30, 0))), (1, .int a1), (2, .int a2)] [] from (mz_aload_n d_Mo_keep_0 rfl (mz_getR (k := 6) (a := (36, 0)) cl_10 d_Mo_keep_1 (by decide) wf_Mo_47 rfl (hF 30 0 rfl (by decide)) rfl (hL (30, 0) 6 (36, 0) rfl rfl (by decide)) (mz_iload_n d_Mo_keep_4 rfl (match h with | ⟨j1, h2, h3, h4⟩ => mz_iald j1 d_Mo_keep_5 (hF 36 0 rfl (by decide)) rfl h2 h3 (mz_bipush (24 : Int32) d_Mo_keep_6 (by decide) (mz_icmp_ne 12 d_Mo_keep_8 rfl (fun hc25 => (mz_aload_n d_Mo_keep_12 rfl (mz_getR (k := 8) (a := (38, 0)) cl_10 d_Mo_keep_13 (by decide) wf_Mo_53 rfl (hF 30 0 rfl (by decide)) rfl (hL (30, 0) 8 (38, 0) rfl rfl (by decide)) (mz_bipush (24 : Int32) d_Mo_keep_16 (by decide) (mz_iload_n d_Mo_keep_18 rfl (mz_imul d_Mo_keep_19 (mz_aload_n d_Mo_keep_20 rfl (mz_getR (k := 6) (a := (36, 0)) cl_10 d_Mo_keep_21 (by decide) wf_Mo_47 rfl (hF 30 0 rfl (by decide)) rfl (hL (30, 0) 6 (36, 0) rfl rfl (by decide)) (mz_iload_n d_Mo_keep_24 rfl (match (h4.1 hc25) with | ⟨j5, h6, h7, h8⟩ => mz_iald j5 d_Mo_keep_25 (hF 36 0 rfl (by decide)) rfl h6 h7 (mz_iadd d_Mo_keep_26 (mz_iload_n d_Mo_keep_27 rfl (match h8 with | ⟨j12, h13, h14, h11⟩ => mz_iast j12 d_Mo_keep_28 (hF 38 0 rfl (by decide)) rfl h13 h14 (let M9 : MzM := mz_si M (38, 0) j12 a2; (mz_aload_n d_Mo_keep_29 rfl (mz_getR (k := 6) (a := (36, 0)) cl_10 d_Mo_keep_30 (by decide) wf_Mo_47 rfl (hF 30 0 rfl (by decide)) rfl (hL (30, 0) 6 (36, 0) rfl rfl (by decide)) (mz_iload_n d_Mo_keep_33 rfl (mz_dup2 d_Mo_keep_34 rfl rfl (match (h11 M9 rfl) with | ⟨j15, h16, h17, h18⟩ => mz_iald j15 d_Mo_keep_35 (hF 36 0 rfl (by decide)) rfl h16 h17 (mz_iconst (1 : Int32) d_Mo_keep_36 (by decide) (mz_iadd d_Mo_keep_37 (match h18 with | ⟨j22, h23, h24, h21⟩ => mz_iast j22 d_Mo_keep_38 (hF 36 0 rfl (by decide)) rfl h23 h24 (let M19 : MzM := mz_si M9 (36, 0) j22 ((mz_i M9 (36, 0) j15) + (1 : Int32)); (mz_vret d_Mo_keep_39 rfl ⟨rfl, hL, rfl, (h21 M19 rfl)⟩)))))))))))))))))))))))) (fun hc25 => (mz_vret d_Mo_keep_11 rfl ⟨rfl, hL, rfl, (h4.2 hc25)⟩)))))))))
def mm_Mo_endTransfer : MzT := (⟨"ParcelLineModel", "endTransfer", "(I)V"⟩, prog_14_method_7_code, 2, (Option.none : Option Jvm.ClassFile.FieldType))
theorem cs_Mo_endTransfer {mm : MzT} : mzCall mm mm_Mo_endTransfer 1 := ⟨wn_Mo, wco_Mo_endTransfer, by decide +kernel, by decide⟩
theorem d_Mo_endTransfer_0 : decode mm_Mo_endTransfer.2.1 0 = .ok (.aload_n 0, 1) := by decide +kernel
theorem d_Mo_endTransfer_1 : decode mm_Mo_endTransfer.2.1 1 = .ok (.getfield 98, 3) := by decide +kernel
theorem d_Mo_endTransfer_4 : decode mm_Mo_endTransfer.2.1 4 = .ok (.iload_n 1, 1) := by decide +kernel
theorem d_Mo_endTransfer_5 : decode mm_Mo_endTransfer.2.1 5 = .ok (.iaload, 1) := by decide +kernel
theorem d_Mo_endTransfer_6 : decode mm_Mo_endTransfer.2.1 6 = .ok (.iconst 2, 1) := by decide +kernel
theorem d_Mo_endTransfer_7 : decode mm_Mo_endTransfer.2.1 7 = .ok (.if_icmp .ne 24, 3) := by decide +kernel
theorem d_Mo_endTransfer_10 : decode mm_Mo_endTransfer.2.1 10 = .ok (.aload_n 0, 1) := by decide +kernel
theorem d_Mo_endTransfer_11 : decode mm_Mo_endTransfer.2.1 11 = .ok (.getfield 104, 3) := by decide +kernel
theorem d_Mo_endTransfer_14 : decode mm_Mo_endTransfer.2.1 14 = .ok (.iload_n 1, 1) := by decide +kernel
theorem d_Mo_endTransfer_15 : decode mm_Mo_endTransfer.2.1 15 = .ok (.baload, 1) := by decide +kernel
theorem d_Mo_endTransfer_16 : decode mm_Mo_endTransfer.2.1 16 = .ok (.ifCond .eq 15, 3) := by decide +kernel
theorem d_Mo_endTransfer_19 : decode mm_Mo_endTransfer.2.1 19 = .ok (.aload_n 0, 1) := by decide +kernel
theorem d_Mo_endTransfer_20 : decode mm_Mo_endTransfer.2.1 20 = .ok (.aload_n 0, 1) := by decide +kernel
theorem d_Mo_endTransfer_21 : decode mm_Mo_endTransfer.2.1 21 = .ok (.getfield 101, 3) := by decide +kernel
theorem d_Mo_endTransfer_24 : decode mm_Mo_endTransfer.2.1 24 = .ok (.iload_n 1, 1) := by decide +kernel
theorem d_Mo_endTransfer_25 : decode mm_Mo_endTransfer.2.1 25 = .ok (.iaload, 1) := by decide +kernel
theorem d_Mo_endTransfer_26 : decode mm_Mo_endTransfer.2.1 26 = .ok (.bipush 13, 2) := by decide +kernel
theorem d_Mo_endTransfer_28 : decode mm_Mo_endTransfer.2.1 28 = .ok (.invokevirtual 133, 3) := by decide +kernel
theorem d_Mo_endTransfer_31 : decode mm_Mo_endTransfer.2.1 31 = .ok (.aload_n 0, 1) := by decide +kernel
theorem d_Mo_endTransfer_32 : decode mm_Mo_endTransfer.2.1 32 = .ok (.getfield 104, 3) := by decide +kernel
theorem d_Mo_endTransfer_35 : decode mm_Mo_endTransfer.2.1 35 = .ok (.iload_n 1, 1) := by decide +kernel
theorem d_Mo_endTransfer_36 : decode mm_Mo_endTransfer.2.1 36 = .ok (.iconst 0, 1) := by decide +kernel
theorem d_Mo_endTransfer_37 : decode mm_Mo_endTransfer.2.1 37 = .ok (.bastore, 1) := by decide +kernel
theorem d_Mo_endTransfer_38 : decode mm_Mo_endTransfer.2.1 38 = .ok (.aload_n 0, 1) := by decide +kernel
theorem d_Mo_endTransfer_39 : decode mm_Mo_endTransfer.2.1 39 = .ok (.getfield 98, 3) := by decide +kernel
theorem d_Mo_endTransfer_42 : decode mm_Mo_endTransfer.2.1 42 = .ok (.iload_n 1, 1) := by decide +kernel
theorem d_Mo_endTransfer_43 : decode mm_Mo_endTransfer.2.1 43 = .ok (.iconst 0, 1) := by decide +kernel
theorem d_Mo_endTransfer_44 : decode mm_Mo_endTransfer.2.1 44 = .ok (.iastore, 1) := by decide +kernel
theorem d_Mo_endTransfer_45 : decode mm_Mo_endTransfer.2.1 45 = .ok (.aload_n 0, 1) := by decide +kernel
theorem d_Mo_endTransfer_46 : decode mm_Mo_endTransfer.2.1 46 = .ok (.getfield 101, 3) := by decide +kernel
theorem d_Mo_endTransfer_49 : decode mm_Mo_endTransfer.2.1 49 = .ok (.iload_n 1, 1) := by decide +kernel
theorem d_Mo_endTransfer_50 : decode mm_Mo_endTransfer.2.1 50 = .ok (.iconst (-1), 1) := by decide +kernel
theorem d_Mo_endTransfer_51 : decode mm_Mo_endTransfer.2.1 51 = .ok (.iastore, 1) := by decide +kernel
theorem d_Mo_endTransfer_52 : decode mm_Mo_endTransfer.2.1 52 = .ok (.aload_n 0, 1) := by decide +kernel
theorem d_Mo_endTransfer_53 : decode mm_Mo_endTransfer.2.1 53 = .ok (.getfield 95, 3) := by decide +kernel
theorem d_Mo_endTransfer_56 : decode mm_Mo_endTransfer.2.1 56 = .ok (.iload_n 1, 1) := by decide +kernel
theorem d_Mo_endTransfer_57 : decode mm_Mo_endTransfer.2.1 57 = .ok (.iconst 0, 1) := by decide +kernel
theorem d_Mo_endTransfer_58 : decode mm_Mo_endTransfer.2.1 58 = .ok (.bastore, 1) := by decide +kernel
theorem d_Mo_endTransfer_59 : decode mm_Mo_endTransfer.2.1 59 = .ok (.return_, 1) := by decide +kernel
def wp_Mo_endTransfer_31   (K : MzM → Prop) (y1 : Int32) (M : MzM) : Prop := (∃ j21 : Nat, y1.toInt = (j21 : Int) ∧ j21 < 2 ∧ ∀ M18 : MzM, M18 = mz_si M (55, 0) j21 (0 : Int32) → (∃ j27 : Nat, y1.toInt = (j27 : Int) ∧ j27 < 2 ∧ ∀ M24 : MzM, M24 = mz_si M18 (53, 0) j27 (0 : Int32) → (∃ j33 : Nat, y1.toInt = (j33 : Int) ∧ j33 < 2 ∧ ∀ M30 : MzM, M30 = mz_si M24 (54, 0) j33 (-1 : Int32) → (∃ j39 : Nat, y1.toInt = (j39 : Int) ∧ j39 < 2 ∧ ∀ M36 : MzM, M36 = mz_si M30 (52, 0) j39 (0 : Int32) → K M36))))
def wp_Mo_endTransfer  (a1 : Int32) (M : MzM) (K : MzM → Prop) : Prop := (∃ j1 : Nat, a1.toInt = (j1 : Int) ∧ j1 < 2 ∧ ((¬ (mz_i M (53, 0) j1) = (2 : Int32) → wp_Mo_endTransfer_31   K a1 M) ∧ ((mz_i M (53, 0) j1) = (2 : Int32) → (∃ j5 : Nat, a1.toInt = (j5 : Int) ∧ j5 < 2 ∧ (((mz_i M (55, 0) j5) = 0 → wp_Mo_endTransfer_31   K a1 M) ∧ (¬ (mz_i M (55, 0) j5) = 0 → (∃ j9 : Nat, a1.toInt = (j9 : Int) ∧ j9 < 2 ∧ wp_Mo_keep  (mz_i M (54, 0) j9) (13 : Int32) M (fun M13 => wp_Mo_endTransfer_31   K a1 M13))))))))
theorem tm_Mo_endTransfer_31 {G : MzG} {B : MzB} {d : Nat} {K : MzM → Prop} (hF : mzLive true B)     (y1 : Int32) (M : MzM) (hL : mzLnk true M) (h : wp_Mo_endTransfer_31   K y1 M) : MzS G B (d + 1) mm_Mo_endTransfer M (0, 0) (mzK0 true B K) 31 [(0, .ref (mz_ad B (30, 0))), (1, .int y1)] [] := by
  unfold wp_Mo_endTransfer_31 at h
  exact (mz_aload_n d_Mo_endTransfer_31 rfl (mz_getR (k := 25) (a := (55, 0)) cl_10 d_Mo_endTransfer_32 (by decide) wf_Mo_104 rfl (hF 30 0 rfl (by decide)) rfl (hL (30, 0) 25 (55, 0) rfl rfl (by decide)) (mz_iload_n d_Mo_endTransfer_35 rfl (mz_iconst (0 : Int32) d_Mo_endTransfer_36 (by decide) (match h with | ⟨j21, h22, h23, h20⟩ => mz_zast j21 d_Mo_endTransfer_37 (hF 55 0 rfl (by decide)) rfl h22 h23 (by decide) (let M18 : MzM := mz_si M (55, 0) j21 (0 : Int32); (mz_aload_n d_Mo_endTransfer_38 rfl (mz_getR (k := 23) (a := (53, 0)) cl_10 d_Mo_endTransfer_39 (by decide) wf_Mo_98 rfl (hF 30 0 rfl (by decide)) rfl (hL (30, 0) 23 (53, 0) rfl rfl (by decide)) (mz_iload_n d_Mo_endTransfer_42 rfl (mz_iconst (0 : Int32) d_Mo_endTransfer_43 (by decide) (match (h20 M18 rfl) with | ⟨j27, h28, h29, h26⟩ => mz_iast j27 d_Mo_endTransfer_44 (hF 53 0 rfl (by decide)) rfl h28 h29 (let M24 : MzM := mz_si M18 (53, 0) j27 (0 : Int32); (mz_aload_n d_Mo_endTransfer_45 rfl (mz_getR (k := 24) (a := (54, 0)) cl_10 d_Mo_endTransfer_46 (by decide) wf_Mo_101 rfl (hF 30 0 rfl (by decide)) rfl (hL (30, 0) 24 (54, 0) rfl rfl (by decide)) (mz_iload_n d_Mo_endTransfer_49 rfl (mz_iconst (-1 : Int32) d_Mo_endTransfer_50 (by decide) (match (h26 M24 rfl) with | ⟨j33, h34, h35, h32⟩ => mz_iast j33 d_Mo_endTransfer_51 (hF 54 0 rfl (by decide)) rfl h34 h35 (let M30 : MzM := mz_si M24 (54, 0) j33 (-1 : Int32); (mz_aload_n d_Mo_endTransfer_52 rfl (mz_getR (k := 22) (a := (52, 0)) cl_10 d_Mo_endTransfer_53 (by decide) wf_Mo_95 rfl (hF 30 0 rfl (by decide)) rfl (hL (30, 0) 22 (52, 0) rfl rfl (by decide)) (mz_iload_n d_Mo_endTransfer_56 rfl (mz_iconst (0 : Int32) d_Mo_endTransfer_57 (by decide) (match (h32 M30 rfl) with | ⟨j39, h40, h41, h38⟩ => mz_zast j39 d_Mo_endTransfer_58 (hF 52 0 rfl (by decide)) rfl h40 h41 (by decide) (let M36 : MzM := mz_si M30 (52, 0) j39 (0 : Int32); (mz_vret d_Mo_endTransfer_59 rfl ⟨rfl, hL, rfl, (h38 M36 rfl)⟩)))))))))))))))))))))))))
theorem tm_Mo_endTransfer {G : MzG} {B : MzB} {d : Nat} {K : MzM → Prop} (hF : mzLive true B)   {a1 : Int32} {M : MzM} (hL : mzLnk true M) (h : wp_Mo_endTransfer  a1 M K) : MzC G B (d + 1) mm_Mo_endTransfer [.ref (mz_ad B (30, 0)), .int a1] M (0, 0) (mzK0 true B K) := by
  unfold wp_Mo_endTransfer at h
  exact MzC.of rfl (Nat.le_of_ble_eq_true rfl) (show MzS G B (d + 1) mm_Mo_endTransfer M (0, 0) (mzK0 true B K) 0 [(0, .ref (mz_ad B (30, 0))), (1, .int a1)] [] from (mz_aload_n d_Mo_endTransfer_0 rfl (mz_getR (k := 23) (a := (53, 0)) cl_10 d_Mo_endTransfer_1 (by decide) wf_Mo_98 rfl (hF 30 0 rfl (by decide)) rfl (hL (30, 0) 23 (53, 0) rfl rfl (by decide)) (mz_iload_n d_Mo_endTransfer_4 rfl (match h with | ⟨j1, h2, h3, h4⟩ => mz_iald j1 d_Mo_endTransfer_5 (hF 53 0 rfl (by decide)) rfl h2 h3 (mz_iconst (2 : Int32) d_Mo_endTransfer_6 (by decide) (mz_icmp_ne 31 d_Mo_endTransfer_7 rfl (fun hc17 => (MzS.loc [(0, .ref (mz_ad B (30, 0))), (1, .int a1)] ⟨rfl, rfl, trivial⟩ (tm_Mo_endTransfer_31 hF   a1 M hL (h4.1 hc17)))) (fun hc17 => (mz_aload_n d_Mo_endTransfer_10 rfl (mz_getR (k := 25) (a := (55, 0)) cl_10 d_Mo_endTransfer_11 (by decide) wf_Mo_104 rfl (hF 30 0 rfl (by decide)) rfl (hL (30, 0) 25 (55, 0) rfl rfl (by decide)) (mz_iload_n d_Mo_endTransfer_14 rfl (match (h4.2 hc17) with | ⟨j5, h6, h7, h8⟩ => mz_zald j5 d_Mo_endTransfer_15 (hF 55 0 rfl (by decide)) rfl h6 h7 (mz_if_eq 31 d_Mo_endTransfer_16 rfl (fun hc16 => (MzS.loc [(0, .ref (mz_ad B (30, 0))), (1, .int a1)] ⟨rfl, rfl, trivial⟩ (tm_Mo_endTransfer_31 hF   a1 M hL (h8.1 hc16)))) (fun hc16 => (mz_aload_n d_Mo_endTransfer_19 rfl (mz_aload_n d_Mo_endTransfer_20 rfl (mz_getR (k := 24) (a := (54, 0)) cl_10 d_Mo_endTransfer_21 (by decide) wf_Mo_101 rfl (hF 30 0 rfl (by decide)) rfl (hL (30, 0) 24 (54, 0) rfl rfl (by decide)) (mz_iload_n d_Mo_endTransfer_24 rfl (match (h8.2 hc16) with | ⟨j9, h10, h11, h12⟩ => mz_iald j9 d_Mo_endTransfer_25 (hF 54 0 rfl (by decide)) rfl h10 h11 (mz_bipush (13 : Int32) d_Mo_endTransfer_26 (by decide) (mz_callV (As := [.int (mz_i M (54, 0) j9), .int (13 : Int32)]) (st := []) (hF 30 0 rfl (by decide)) rfl (mzClOf cl_10) 0 0 d_Mo_endTransfer_28 cs_Mo_keep wl_Mo_133 wi_Mo_keep wse_Mo_keep (Nat.le_of_ble_eq_true rfl) (Nat.zero_le _) (Nat.zero_le _) (MzC.mono (tm_Mo_keep (d := d) hF  hL h12) (fun r9 B9 M13 hq15 => by obtain ⟨rfl, hL14, rfl, hq15⟩ := hq15; exact ⟨none, rfl, (MzS.loc [(0, .ref (mz_ad B (30, 0))), (1, .int a1)] ⟨rfl, rfl, trivial⟩ (tm_Mo_endTransfer_31 hF   a1 M13 hL14 hq15))⟩)))))))))))))))))))))))
def mm_Mo_beginSession : MzT := (⟨"ParcelLineModel", "beginSession", "(I)V"⟩, prog_14_method_5_code, 2, (Option.none : Option Jvm.ClassFile.FieldType))
theorem cs_Mo_beginSession {mm : MzT} : mzCall mm mm_Mo_beginSession 1 := ⟨wn_Mo, wco_Mo_beginSession, by decide +kernel, by decide⟩
theorem d_Mo_beginSession_0 : decode mm_Mo_beginSession.2.1 0 = .ok (.aload_n 0, 1) := by decide +kernel
theorem d_Mo_beginSession_1 : decode mm_Mo_beginSession.2.1 1 = .ok (.getfield 56, 3) := by decide +kernel
theorem d_Mo_beginSession_4 : decode mm_Mo_beginSession.2.1 4 = .ok (.iload_n 1, 1) := by decide +kernel
theorem d_Mo_beginSession_5 : decode mm_Mo_beginSession.2.1 5 = .ok (.iconst 0, 1) := by decide +kernel
theorem d_Mo_beginSession_6 : decode mm_Mo_beginSession.2.1 6 = .ok (.iastore, 1) := by decide +kernel
theorem d_Mo_beginSession_7 : decode mm_Mo_beginSession.2.1 7 = .ok (.aload_n 0, 1) := by decide +kernel
theorem d_Mo_beginSession_8 : decode mm_Mo_beginSession.2.1 8 = .ok (.getfield 59, 3) := by decide +kernel
theorem d_Mo_beginSession_11 : decode mm_Mo_beginSession.2.1 11 = .ok (.iload_n 1, 1) := by decide +kernel
theorem d_Mo_beginSession_12 : decode mm_Mo_beginSession.2.1 12 = .ok (.iconst 0, 1) := by decide +kernel
theorem d_Mo_beginSession_13 : decode mm_Mo_beginSession.2.1 13 = .ok (.bastore, 1) := by decide +kernel
theorem d_Mo_beginSession_14 : decode mm_Mo_beginSession.2.1 14 = .ok (.aload_n 0, 1) := by decide +kernel
theorem d_Mo_beginSession_15 : decode mm_Mo_beginSession.2.1 15 = .ok (.getfield 62, 3) := by decide +kernel
theorem d_Mo_beginSession_18 : decode mm_Mo_beginSession.2.1 18 = .ok (.iload_n 1, 1) := by decide +kernel
theorem d_Mo_beginSession_19 : decode mm_Mo_beginSession.2.1 19 = .ok (.iconst 0, 1) := by decide +kernel
theorem d_Mo_beginSession_20 : decode mm_Mo_beginSession.2.1 20 = .ok (.iastore, 1) := by decide +kernel
theorem d_Mo_beginSession_21 : decode mm_Mo_beginSession.2.1 21 = .ok (.aload_n 0, 1) := by decide +kernel
theorem d_Mo_beginSession_22 : decode mm_Mo_beginSession.2.1 22 = .ok (.getfield 65, 3) := by decide +kernel
theorem d_Mo_beginSession_25 : decode mm_Mo_beginSession.2.1 25 = .ok (.iload_n 1, 1) := by decide +kernel
theorem d_Mo_beginSession_26 : decode mm_Mo_beginSession.2.1 26 = .ok (.iconst 0, 1) := by decide +kernel
theorem d_Mo_beginSession_27 : decode mm_Mo_beginSession.2.1 27 = .ok (.bastore, 1) := by decide +kernel
theorem d_Mo_beginSession_28 : decode mm_Mo_beginSession.2.1 28 = .ok (.aload_n 0, 1) := by decide +kernel
theorem d_Mo_beginSession_29 : decode mm_Mo_beginSession.2.1 29 = .ok (.getfield 77, 3) := by decide +kernel
theorem d_Mo_beginSession_32 : decode mm_Mo_beginSession.2.1 32 = .ok (.iload_n 1, 1) := by decide +kernel
theorem d_Mo_beginSession_33 : decode mm_Mo_beginSession.2.1 33 = .ok (.iconst 0, 1) := by decide +kernel
theorem d_Mo_beginSession_34 : decode mm_Mo_beginSession.2.1 34 = .ok (.iastore, 1) := by decide +kernel
theorem d_Mo_beginSession_35 : decode mm_Mo_beginSession.2.1 35 = .ok (.aload_n 0, 1) := by decide +kernel
theorem d_Mo_beginSession_36 : decode mm_Mo_beginSession.2.1 36 = .ok (.getfield 80, 3) := by decide +kernel
theorem d_Mo_beginSession_39 : decode mm_Mo_beginSession.2.1 39 = .ok (.iload_n 1, 1) := by decide +kernel
theorem d_Mo_beginSession_40 : decode mm_Mo_beginSession.2.1 40 = .ok (.iconst 0, 1) := by decide +kernel
theorem d_Mo_beginSession_41 : decode mm_Mo_beginSession.2.1 41 = .ok (.iastore, 1) := by decide +kernel
theorem d_Mo_beginSession_42 : decode mm_Mo_beginSession.2.1 42 = .ok (.aload_n 0, 1) := by decide +kernel
theorem d_Mo_beginSession_43 : decode mm_Mo_beginSession.2.1 43 = .ok (.getfield 83, 3) := by decide +kernel
theorem d_Mo_beginSession_46 : decode mm_Mo_beginSession.2.1 46 = .ok (.iload_n 1, 1) := by decide +kernel
theorem d_Mo_beginSession_47 : decode mm_Mo_beginSession.2.1 47 = .ok (.iconst (-1), 1) := by decide +kernel
theorem d_Mo_beginSession_48 : decode mm_Mo_beginSession.2.1 48 = .ok (.iastore, 1) := by decide +kernel
theorem d_Mo_beginSession_49 : decode mm_Mo_beginSession.2.1 49 = .ok (.aload_n 0, 1) := by decide +kernel
theorem d_Mo_beginSession_50 : decode mm_Mo_beginSession.2.1 50 = .ok (.getfield 86, 3) := by decide +kernel
theorem d_Mo_beginSession_53 : decode mm_Mo_beginSession.2.1 53 = .ok (.iload_n 1, 1) := by decide +kernel
theorem d_Mo_beginSession_54 : decode mm_Mo_beginSession.2.1 54 = .ok (.iconst 0, 1) := by decide +kernel
theorem d_Mo_beginSession_55 : decode mm_Mo_beginSession.2.1 55 = .ok (.iastore, 1) := by decide +kernel
theorem d_Mo_beginSession_56 : decode mm_Mo_beginSession.2.1 56 = .ok (.aload_n 0, 1) := by decide +kernel
theorem d_Mo_beginSession_57 : decode mm_Mo_beginSession.2.1 57 = .ok (.getfield 89, 3) := by decide +kernel
theorem d_Mo_beginSession_60 : decode mm_Mo_beginSession.2.1 60 = .ok (.iload_n 1, 1) := by decide +kernel
theorem d_Mo_beginSession_61 : decode mm_Mo_beginSession.2.1 61 = .ok (.iconst (-1), 1) := by decide +kernel
theorem d_Mo_beginSession_62 : decode mm_Mo_beginSession.2.1 62 = .ok (.iastore, 1) := by decide +kernel
theorem d_Mo_beginSession_63 : decode mm_Mo_beginSession.2.1 63 = .ok (.aload_n 0, 1) := by decide +kernel
theorem d_Mo_beginSession_64 : decode mm_Mo_beginSession.2.1 64 = .ok (.getfield 92, 3) := by decide +kernel
theorem d_Mo_beginSession_67 : decode mm_Mo_beginSession.2.1 67 = .ok (.iload_n 1, 1) := by decide +kernel
theorem d_Mo_beginSession_68 : decode mm_Mo_beginSession.2.1 68 = .ok (.iconst 0, 1) := by decide +kernel
theorem d_Mo_beginSession_69 : decode mm_Mo_beginSession.2.1 69 = .ok (.bastore, 1) := by decide +kernel
theorem d_Mo_beginSession_70 : decode mm_Mo_beginSession.2.1 70 = .ok (.aload_n 0, 1) := by decide +kernel
theorem d_Mo_beginSession_71 : decode mm_Mo_beginSession.2.1 71 = .ok (.iload_n 1, 1) := by decide +kernel
theorem d_Mo_beginSession_72 : decode mm_Mo_beginSession.2.1 72 = .ok (.invokevirtual 130, 3) := by decide +kernel
theorem d_Mo_beginSession_75 : decode mm_Mo_beginSession.2.1 75 = .ok (.return_, 1) := by decide +kernel
def wp_Mo_beginSession  (a1 : Int32) (M : MzM) (K : MzM → Prop) : Prop := (∃ j4 : Nat, a1.toInt = (j4 : Int) ∧ j4 < 2 ∧ ∀ M1 : MzM, M1 = mz_si M (39, 0) j4 (0 : Int32) → (∃ j10 : Nat, a1.toInt = (j10 : Int) ∧ j10 < 2 ∧ ∀ M7 : MzM, M7 = mz_si M1 (40, 0) j10 (0 : Int32) → (∃ j16 : Nat, a1.toInt = (j16 : Int) ∧ j16 < 2 ∧ ∀ M13 : MzM, M13 = mz_si M7 (41, 0) j16 (0 : Int32) → (∃ j22 : Nat, a1.toInt = (j22 : Int) ∧ j22 < 2 ∧ ∀ M19 : MzM, M19 = mz_si M13 (42, 0) j22 (0 : Int32) → (∃ j28 : Nat, a1.toInt = (j28 : Int) ∧ j28 < 2 ∧ ∀ M25 : MzM, M25 = mz_si M19 (46, 0) j28 (0 : Int32) → (∃ j34 : Nat, a1.toInt = (j34 : Int) ∧ j34 < 2 ∧ ∀ M31 : MzM, M31 = mz_si M25 (47, 0) j34 (0 : Int32) → (∃ j40 : Nat, a1.toInt = (j40 : Int) ∧ j40 < 2 ∧ ∀ M37 : MzM, M37 = mz_si M31 (48, 0) j40 (-1 : Int32) → (∃ j46 : Nat, a1.toInt = (j46 : Int) ∧ j46 < 2 ∧ ∀ M43 : MzM, M43 = mz_si M37 (49, 0) j46 (0 : Int32) → (∃ j52 : Nat, a1.toInt = (j52 : Int) ∧ j52 < 2 ∧ ∀ M49 : MzM, M49 = mz_si M43 (50, 0) j52 (-1 : Int32) → (∃ j58 : Nat, a1.toInt = (j58 : Int) ∧ j58 < 2 ∧ ∀ M55 : MzM, M55 = mz_si M49 (51, 0) j58 (0 : Int32) → wp_Mo_endTransfer  a1 M55 (fun M61 => K M61)))))))))))
theorem tm_Mo_beginSession {G : MzG} {B : MzB} {d : Nat} {K : MzM → Prop} (hF : mzLive true B)   {a1 : Int32} {M : MzM} (hL : mzLnk true M) (h : wp_Mo_beginSession  a1 M K) : MzC G B (d + 2) mm_Mo_beginSession [.ref (mz_ad B (30, 0)), .int a1] M (0, 0) (mzK0 true B K) := by
  unfold wp_Mo_beginSession at h
  exact MzC.of rfl (Nat.le_of_ble_eq_true rfl) (show MzS G B (d + 2) mm_Mo_beginSession M (0, 0) (mzK0 true B K) 0 [(0, .ref (mz_ad B (30, 0))), (1, .int a1)] [] from (mz_aload_n d_Mo_beginSession_0 rfl (mz_getR (k := 9) (a := (39, 0)) cl_10 d_Mo_beginSession_1 (by decide) wf_Mo_56 rfl (hF 30 0 rfl (by decide)) rfl (hL (30, 0) 9 (39, 0) rfl rfl (by decide)) (mz_iload_n d_Mo_beginSession_4 rfl (mz_iconst (0 : Int32) d_Mo_beginSession_5 (by decide) (match h with | ⟨j4, h5, h6, h3⟩ => mz_iast j4 d_Mo_beginSession_6 (hF 39 0 rfl (by decide)) rfl h5 h6 (let M1 : MzM := mz_si M (39, 0) j4 (0 : Int32); (mz_aload_n d_Mo_beginSession_7 rfl (mz_getR (k := 10) (a := (40, 0)) cl_10 d_Mo_beginSession_8 (by decide) wf_Mo_59 rfl (hF 30 0 rfl (by decide)) rfl (hL (30, 0) 10 (40, 0) rfl rfl (by decide)) (mz_iload_n d_Mo_beginSession_11 rfl (mz_iconst (0 : Int32) d_Mo_beginSession_12 (by decide) (match (h3 M1 rfl) with | ⟨j10, h11, h12, h9⟩ => mz_zast j10 d_Mo_beginSession_13 (hF 40 0 rfl (by decide)) rfl h11 h12 (by decide) (let M7 : MzM := mz_si M1 (40, 0) j10 (0 : Int32); (mz_aload_n d_Mo_beginSession_14 rfl (mz_getR (k := 11) (a := (41, 0)) cl_10 d_Mo_beginSession_15 (by decide) wf_Mo_62 rfl (hF 30 0 rfl (by decide)) rfl (hL (30, 0) 11 (41, 0) rfl rfl (by decide)) (mz_iload_n d_Mo_beginSession_18 rfl (mz_iconst (0 : Int32) d_Mo_beginSession_19 (by decide) (match (h9 M7 rfl) with | ⟨j16, h17, h18, h15⟩ => mz_iast j16 d_Mo_beginSession_20 (hF 41 0 rfl (by decide)) rfl h17 h18 (let M13 : MzM := mz_si M7 (41, 0) j16 (0 : Int32); (mz_aload_n d_Mo_beginSession_21 rfl (mz_getR (k := 12) (a := (42, 0)) cl_10 d_Mo_beginSession_22 (by decide) wf_Mo_65 rfl (hF 30 0 rfl (by decide)) rfl (hL (30, 0) 12 (42, 0) rfl rfl (by decide)) (mz_iload_n d_Mo_beginSession_25 rfl (mz_iconst (0 : Int32) d_Mo_beginSession_26 (by decide) (match (h15 M13 rfl) with | ⟨j22, h23, h24, h21⟩ => mz_zast j22 d_Mo_beginSession_27 (hF 42 0 rfl (by decide)) rfl h23 h24 (by decide) (let M19 : MzM := mz_si M13 (42, 0) j22 (0 : Int32); (mz_aload_n d_Mo_beginSession_28 rfl (mz_getR (k := 16) (a := (46, 0)) cl_10 d_Mo_beginSession_29 (by decide) wf_Mo_77 rfl (hF 30 0 rfl (by decide)) rfl (hL (30, 0) 16 (46, 0) rfl rfl (by decide)) (mz_iload_n d_Mo_beginSession_32 rfl (mz_iconst (0 : Int32) d_Mo_beginSession_33 (by decide) (match (h21 M19 rfl) with | ⟨j28, h29, h30, h27⟩ => mz_iast j28 d_Mo_beginSession_34 (hF 46 0 rfl (by decide)) rfl h29 h30 (let M25 : MzM := mz_si M19 (46, 0) j28 (0 : Int32); (mz_aload_n d_Mo_beginSession_35 rfl (mz_getR (k := 17) (a := (47, 0)) cl_10 d_Mo_beginSession_36 (by decide) wf_Mo_80 rfl (hF 30 0 rfl (by decide)) rfl (hL (30, 0) 17 (47, 0) rfl rfl (by decide)) (mz_iload_n d_Mo_beginSession_39 rfl (mz_iconst (0 : Int32) d_Mo_beginSession_40 (by decide) (match (h27 M25 rfl) with | ⟨j34, h35, h36, h33⟩ => mz_iast j34 d_Mo_beginSession_41 (hF 47 0 rfl (by decide)) rfl h35 h36 (let M31 : MzM := mz_si M25 (47, 0) j34 (0 : Int32); (mz_aload_n d_Mo_beginSession_42 rfl (mz_getR (k := 18) (a := (48, 0)) cl_10 d_Mo_beginSession_43 (by decide) wf_Mo_83 rfl (hF 30 0 rfl (by decide)) rfl (hL (30, 0) 18 (48, 0) rfl rfl (by decide)) (mz_iload_n d_Mo_beginSession_46 rfl (mz_iconst (-1 : Int32) d_Mo_beginSession_47 (by decide) (match (h33 M31 rfl) with | ⟨j40, h41, h42, h39⟩ => mz_iast j40 d_Mo_beginSession_48 (hF 48 0 rfl (by decide)) rfl h41 h42 (let M37 : MzM := mz_si M31 (48, 0) j40 (-1 : Int32); (mz_aload_n d_Mo_beginSession_49 rfl (mz_getR (k := 19) (a := (49, 0)) cl_10 d_Mo_beginSession_50 (by decide) wf_Mo_86 rfl (hF 30 0 rfl (by decide)) rfl (hL (30, 0) 19 (49, 0) rfl rfl (by decide)) (mz_iload_n d_Mo_beginSession_53 rfl (mz_iconst (0 : Int32) d_Mo_beginSession_54 (by decide) (match (h39 M37 rfl) with | ⟨j46, h47, h48, h45⟩ => mz_iast j46 d_Mo_beginSession_55 (hF 49 0 rfl (by decide)) rfl h47 h48 (let M43 : MzM := mz_si M37 (49, 0) j46 (0 : Int32); (mz_aload_n d_Mo_beginSession_56 rfl (mz_getR (k := 20) (a := (50, 0)) cl_10 d_Mo_beginSession_57 (by decide) wf_Mo_89 rfl (hF 30 0 rfl (by decide)) rfl (hL (30, 0) 20 (50, 0) rfl rfl (by decide)) (mz_iload_n d_Mo_beginSession_60 rfl (mz_iconst (-1 : Int32) d_Mo_beginSession_61 (by decide) (match (h45 M43 rfl) with | ⟨j52, h53, h54, h51⟩ => mz_iast j52 d_Mo_beginSession_62 (hF 50 0 rfl (by decide)) rfl h53 h54 (let M49 : MzM := mz_si M43 (50, 0) j52 (-1 : Int32); (mz_aload_n d_Mo_beginSession_63 rfl (mz_getR (k := 21) (a := (51, 0)) cl_10 d_Mo_beginSession_64 (by decide) wf_Mo_92 rfl (hF 30 0 rfl (by decide)) rfl (hL (30, 0) 21 (51, 0) rfl rfl (by decide)) (mz_iload_n d_Mo_beginSession_67 rfl (mz_iconst (0 : Int32) d_Mo_beginSession_68 (by decide) (match (h51 M49 rfl) with | ⟨j58, h59, h60, h57⟩ => mz_zast j58 d_Mo_beginSession_69 (hF 51 0 rfl (by decide)) rfl h59 h60 (by decide) (let M55 : MzM := mz_si M49 (51, 0) j58 (0 : Int32); (mz_aload_n d_Mo_beginSession_70 rfl (mz_iload_n d_Mo_beginSession_71 rfl (mz_callV (As := [.int a1]) (st := []) (hF 30 0 rfl (by decide)) rfl (mzClOf cl_10) 0 0 d_Mo_beginSession_72 cs_Mo_endTransfer wl_Mo_130 wi_Mo_endTransfer wse_Mo_endTransfer (Nat.le_of_ble_eq_true rfl) (Nat.zero_le _) (Nat.zero_le _) (MzC.mono (tm_Mo_endTransfer (d := d) hF  hL (h57 M55 rfl)) (fun r9 B9 M61 hq63 => by obtain ⟨rfl, hL62, rfl, hq63⟩ := hq63; exact ⟨none, rfl, (mz_vret d_Mo_beginSession_75 rfl ⟨rfl, hL62, rfl, hq63⟩)⟩))))))))))))))))))))))))))))))))))))))))))))))))))))))))))))))))))
def mm_Mo_thrown : MzT := (⟨"ParcelLineModel", "thrown", "()I"⟩, prog_14_method_2_code, 1, (Option.some Jvm.ClassFile.FieldType.int))
theorem cs_Mo_thrown {mm : MzT} : mzCall mm mm_Mo_thrown 0 := ⟨wn_Mo, wco_Mo_thrown, by decide +kernel, by decide⟩
theorem d_Mo_thrown_0 : decode mm_Mo_thrown.2.1 0 = .ok (.aload_n 0, 1) := by decide +kernel
theorem d_Mo_thrown_1 : decode mm_Mo_thrown.2.1 1 = .ok (.getfield 126, 3) := by decide +kernel
theorem d_Mo_thrown_4 : decode mm_Mo_thrown.2.1 4 = .ok (.ireturn, 1) := by decide +kernel
def wp_Mo_thrown   (M : MzM) (K : Int32 → MzM → Prop) : Prop := K (mz_i M (30, 0) 1) M
theorem tm_Mo_thrown {G : MzG} {B : MzB} {d : Nat} {K : Int32 → MzM → Prop} (hF : mzLive true B)    {M : MzM} (hL : mzLnk true M) (h : wp_Mo_thrown   M K) : MzC G B d mm_Mo_thrown [.ref (mz_ad B (30, 0))] M (0, 0) (mzK1 true B K) := by
  unfold wp_Mo_thrown at h
  exact MzC.of rfl (Nat.le_of_ble_eq_true rfl) (show MzS G B d mm_Mo_thrown M (0, 0) (mzK1 true B K) 0 [(0, .ref (mz_ad B (30, 0)))] [] from (mz_aload_n d_Mo_thrown_0 rfl (mz_getI (k := 1) cl_10 d_Mo_thrown_1 (by decide) wf_Mo_126 rfl (hF 30 0 rfl (by decide)) rfl (mz_iret .int d_Mo_thrown_4 rfl rfl ⟨rfl, hL, _, rfl, h⟩))))
def mm_Mo_fail : MzT := (⟨"ParcelLineModel", "fail", "(I)I"⟩, prog_14_method_3_code, 2, (Option.some Jvm.ClassFile.FieldType.int))
theorem cs_Mo_fail {mm : MzT} : mzCall mm mm_Mo_fail 1 := ⟨wn_Mo, wco_Mo_fail, by decide +kernel, by decide⟩
theorem d_Mo_fail_0 : decode mm_Mo_fail.2.1 0 = .ok (.aload_n 0, 1) := by decide +kernel
theorem d_Mo_fail_1 : decode mm_Mo_fail.2.1 1 = .ok (.iload_n 1, 1) := by decide +kernel
theorem d_Mo_fail_2 : decode mm_Mo_fail.2.1 2 = .ok (.putfield 126, 3) := by decide +kernel
theorem d_Mo_fail_5 : decode mm_Mo_fail.2.1 5 = .ok (.iconst 0, 1) := by decide +kernel
theorem d_Mo_fail_6 : decode mm_Mo_fail.2.1 6 = .ok (.ireturn, 1) := by decide +kernel
def wp_Mo_fail  (a1 : Int32) (M : MzM) (K : Int32 → MzM → Prop) : Prop := (∀ M1 : MzM, M1 = mz_si M (30, 0) 1 a1 → K (0 : Int32) M1)
theorem tm_Mo_fail {G : MzG} {B : MzB} {d : Nat} {K : Int32 → MzM → Prop} (hF : mzLive true B)   {a1 : Int32} {M : MzM} (hL : mzLnk true M) (h : wp_Mo_fail  a1 M K) : MzC G B d mm_Mo_fail [.ref (mz_ad B (30, 0)), .int a1] M (0, 0) (mzK1 true B K) := by
  unfold wp_Mo_fail at h
  exact MzC.of rfl (Nat.le_of_ble_eq_true rfl) (show MzS G B d mm_Mo_fail M (0, 0) (mzK1 true B K) 0 [(0, .ref (mz_ad B (30, 0))), (1, .int a1)] [] from (mz_aload_n d_Mo_fail_0 rfl (mz_iload_n d_Mo_fail_1 rfl (mz_putI (k := 1) cl_10 d_Mo_fail_2 (by decide) wf_Mo_126 rfl rfl rfl rfl (hF 30 0 rfl (by decide)) rfl (let M1 : MzM := mz_si M (30, 0) 1 a1; (mz_iconst (0 : Int32) d_Mo_fail_5 (by decide) (mz_iret .int d_Mo_fail_6 rfl rfl ⟨rfl, hL, _, rfl, (h M1 rfl)⟩)))))))
def mm_Mo_isSession : MzT := (⟨"ParcelLineModel", "isSession", "(I)Z"⟩, prog_14_method_4_code, 1, (Option.some Jvm.ClassFile.FieldType.boolean))
theorem cs_Mo_isSession {mm : MzT} : mzCall mm mm_Mo_isSession 1 := ⟨wn_Mo, wco_Mo_isSession, by decide +kernel, by decide⟩
theorem d_Mo_isSession_0 : decode mm_Mo_isSession.2.1 0 = .ok (.iload_n 0, 1) := by decide +kernel
theorem d_Mo_isSession_1 : decode mm_Mo_isSession.2.1 1 = .ok (.ifCond .eq 8, 3) := by decide +kernel
theorem d_Mo_isSession_4 : decode mm_Mo_isSession.2.1 4 = .ok (.iload_n 0, 1) := by decide +kernel
theorem d_Mo_isSession_5 : decode mm_Mo_isSession.2.1 5 = .ok (.iconst 1, 1) := by decide +kernel
theorem d_Mo_isSession_6 : decode mm_Mo_isSession.2.1 6 = .ok (.if_icmp .ne 7, 3) := by decide +kernel
theorem d_Mo_isSession_9 : decode mm_Mo_isSession.2.1 9 = .ok (.iconst 1, 1) := by decide +kernel
theorem d_Mo_isSession_10 : decode mm_Mo_isSession.2.1 10 = .ok (.goto 4, 3) := by decide +kernel
theorem d_Mo_isSession_13 : decode mm_Mo_isSession.2.1 13 = .ok (.iconst 0, 1) := by decide +kernel
theorem d_Mo_isSession_14 : decode mm_Mo_isSession.2.1 14 = .ok (.ireturn, 1) := by decide +kernel
def wp_Mo_isSession  (a0 : Int32) (M : MzM) (K : Int32 → MzM → Prop) : Prop := ((a0 = 0 → K (1 : Int32) M) ∧ (¬ a0 = 0 → ((¬ a0 = (1 : Int32) → K (0 : Int32) M) ∧ (a0 = (1 : Int32) → K (1 : Int32) M))))
theorem tm_Mo_isSession {G : MzG} {B : MzB} {d : Nat} {K : Int32 → MzM → Prop} (hF : mzLive true B)   {a0 : Int32} {M : MzM} (hL : mzLnk true M) (h : wp_Mo_isSession  a0 M K) : MzC G B d mm_Mo_isSession [.int a0] M (0, 0) (mzK1 true B K) := by
  unfold wp_Mo_isSession at h
  exact MzC.of rfl (Nat.le_of_ble_eq_true rfl) (show MzS G B d mm_Mo_isSession M (0, 0) (mzK1 true B K) 0 [(0, .int a0)] [] from (mz_iload_n d_Mo_isSession_0 rfl (mz_if_eq 9 d_Mo_isSession_1 rfl (fun hc2 => (mz_iconst (1 : Int32) d_Mo_isSession_9 (by decide) (mz_goto 14 d_Mo_isSession_10 rfl (mz_iret .boolean d_Mo_isSession_14 rfl rfl ⟨rfl, hL, _, rfl, (h.1 hc2)⟩)))) (fun hc2 => (mz_iload_n d_Mo_isSession_4 rfl (mz_iconst (1 : Int32) d_Mo_isSession_5 (by decide) (mz_icmp_ne 13 d_Mo_isSession_6 rfl (fun hc1 => (mz_iconst (0 : Int32) d_Mo_isSession_13 (by decide) (mz_iret .boolean d_Mo_isSession_14 rfl rfl ⟨rfl, hL, _, rfl, ((h.2 hc2).1 hc1)⟩))) (fun hc1 => (mz_iconst (1 : Int32) d_Mo_isSession_9 (by decide) (mz_goto 14 d_Mo_isSession_10 rfl (mz_iret .boolean d_Mo_isSession_14 rfl rfl ⟨rfl, hL, _, rfl, ((h.2 hc2).2 hc1)⟩)))))))))))
def mm_Mo_put : MzT := (⟨"ParcelLineModel", "put", "(II)V"⟩, prog_14_method_8_code, 3, (Option.none : Option Jvm.ClassFile.FieldType))
theorem cs_Mo_put {mm : MzT} : mzCall mm mm_Mo_put 2 := ⟨wn_Mo, wco_Mo_put, by decide +kernel, by decide⟩
theorem d_Mo_put_0 : decode mm_Mo_put.2.1 0 = .ok (.aload_n 0, 1) := by decide +kernel
theorem d_Mo_put_1 : decode mm_Mo_put.2.1 1 = .ok (.getfield 74, 3) := by decide +kernel
theorem d_Mo_put_4 : decode mm_Mo_put.2.1 4 = .ok (.sipush 200, 3) := by decide +kernel
theorem d_Mo_put_7 : decode mm_Mo_put.2.1 7 = .ok (.iload_n 1, 1) := by decide +kernel
theorem d_Mo_put_8 : decode mm_Mo_put.2.1 8 = .ok (.imul, 1) := by decide +kernel
theorem d_Mo_put_9 : decode mm_Mo_put.2.1 9 = .ok (.aload_n 0, 1) := by decide +kernel
theorem d_Mo_put_10 : decode mm_Mo_put.2.1 10 = .ok (.getfield 71, 3) := by decide +kernel
theorem d_Mo_put_13 : decode mm_Mo_put.2.1 13 = .ok (.iload_n 1, 1) := by decide +kernel
theorem d_Mo_put_14 : decode mm_Mo_put.2.1 14 = .ok (.iaload, 1) := by decide +kernel
theorem d_Mo_put_15 : decode mm_Mo_put.2.1 15 = .ok (.iadd, 1) := by decide +kernel
theorem d_Mo_put_16 : decode mm_Mo_put.2.1 16 = .ok (.iload_n 2, 1) := by decide +kernel
theorem d_Mo_put_17 : decode mm_Mo_put.2.1 17 = .ok (.iastore, 1) := by decide +kernel
theorem d_Mo_put_18 : decode mm_Mo_put.2.1 18 = .ok (.aload_n 0, 1) := by decide +kernel
theorem d_Mo_put_19 : decode mm_Mo_put.2.1 19 = .ok (.getfield 71, 3) := by decide +kernel
theorem d_Mo_put_22 : decode mm_Mo_put.2.1 22 = .ok (.iload_n 1, 1) := by decide +kernel
theorem d_Mo_put_23 : decode mm_Mo_put.2.1 23 = .ok (.dup2, 1) := by decide +kernel
theorem d_Mo_put_24 : decode mm_Mo_put.2.1 24 = .ok (.iaload, 1) := by decide +kernel
theorem d_Mo_put_25 : decode mm_Mo_put.2.1 25 = .ok (.iconst 1, 1) := by decide +kernel
theorem d_Mo_put_26 : decode mm_Mo_put.2.1 26 = .ok (.iadd, 1) := by decide +kernel
theorem d_Mo_put_27 : decode mm_Mo_put.2.1 27 = .ok (.iastore, 1) := by decide +kernel
theorem d_Mo_put_28 : decode mm_Mo_put.2.1 28 = .ok (.return_, 1) := by decide +kernel
def wp_Mo_put  (a1 : Int32) (a2 : Int32) (M : MzM) (K : MzM → Prop) : Prop := (∃ j1 : Nat, a1.toInt = (j1 : Int) ∧ j1 < 2 ∧ (∃ j8 : Nat, (((200 : Int32) * a1) + (mz_i M (44, 0) j1)).toInt = (j8 : Int) ∧ j8 < 400 ∧ ∀ M5 : MzM, M5 = mz_si M (45, 0) j8 a2 → (∃ j11 : Nat, a1.toInt = (j11 : Int) ∧ j11 < 2 ∧ (∃ j18 : Nat, a1.toInt = (j18 : Int) ∧ j18 < 2 ∧ ∀ M15 : MzM, M15 = mz_si M5 (44, 0) j18 ((mz_i M5 (44, 0) j11) + (1 : Int32)) → K M15))))
theorem tm_Mo_put {G : MzG} {B : MzB} {d : Nat} {K : MzM → Prop} (hF : mzLive true B)   {a1 : Int32} {a2 : Int32} {M : MzM} (hL : mzLnk true M) (h : wp_Mo_put  a1 a2 M K) : MzC G B d mm_Mo_put [.ref (mz_ad B (30, 0)), .int a1, .int a2] M (0, 0) (mzK0 true B K) := by
  unfold wp_Mo_put at h
  exact MzC.of rfl (Nat.le_of_ble_eq_true rfl) (show MzS G B d mm_Mo_put M (0, 0) (mzK0 true B K) 0 [(0, .ref (mz_ad B (30, 0))), (1, .int a1), (2, .int a2)] [] from (mz_aload_n d_Mo_put_0 rfl (mz_getR (k := 15) (a := (45, 0)) cl_10 d_Mo_put_1 (by decide) wf_Mo_74 rfl (hF 30 0 rfl (by decide)) rfl (hL (30, 0) 15 (45, 0) rfl rfl (by decide)) (mz_sipush (200 : Int32) d_Mo_put_4 (by decide) (mz_iload_n d_Mo_put_7 rfl (mz_imul d_Mo_put_8 (mz_aload_n d_Mo_put_9 rfl (mz_getR (k := 14) (a := (44, 0)) cl_10 d_Mo_put_10 (by decide) wf_Mo_71 rfl (hF 30 0 rfl (by decide)) rfl (hL (30, 0) 14 (44, 0) rfl rfl (by decide)) (mz_iload_n d_Mo_put_13 rfl (match h with | ⟨j1, h2, h3, h4⟩ => mz_iald j1 d_Mo_put_14 (hF 44 0 rfl (by decide)) rfl h2 h3 (mz_iadd d_Mo_put_15 (mz_iload_n d_Mo_put_16 rfl (match h4 with | ⟨j8, h9, h10, h7⟩ => mz_iast j8 d_Mo_put_17 (hF 45 0 rfl (by decide)) rfl h9 h10 (let M5 : MzM := mz_si M (45, 0) j8 a2; (mz_aload_n d_Mo_put_18 rfl (mz_getR (k := 14) (a := (44, 0)) cl_10 d_Mo_put_19 (by decide) wf_Mo_71 rfl (hF 30 0 rfl (by decide)) rfl (hL (30, 0) 14 (44, 0) rfl rfl (by decide)) (mz_iload_n d_Mo_put_22 rfl (mz_dup2 d_Mo_put_23 rfl rfl (match (h7 M5 rfl) with | ⟨j11, h12, h13, h14⟩ => mz_iald j11 d_Mo_put_24 (hF 44 0 rfl (by decide)) rfl h12 h13 (mz_iconst (1 : Int32) d_Mo_put_25 (by decide) (mz_iadd d_Mo_put_26 (match h14 with | ⟨j18, h19, h20, h17⟩ => mz_iast j18 d_Mo_put_27 (hF 44 0 rfl (by decide)) rfl h19 h20 (let M15 : MzM := mz_si M5 (44, 0) j18 ((mz_i M5 (44, 0) j11) + (1 : Int32)); (mz_vret d_Mo_put_28 rfl ⟨rfl, hL, rfl, (h17 M15 rfl)⟩))))))))))))))))))))))))
def mm_Mo_hasRoom : MzT := (⟨"ParcelLineModel", "hasRoom", "(II)Z"⟩, prog_14_method_9_code, 3, (Option.some Jvm.ClassFile.FieldType.boolean))
theorem cs_Mo_hasRoom {mm : MzT} : mzCall mm mm_Mo_hasRoom 2 := ⟨wn_Mo, wco_Mo_hasRoom, by decide +kernel, by decide⟩
theorem d_Mo_hasRoom_0 : decode mm_Mo_hasRoom.2.1 0 = .ok (.aload_n 0, 1) := by decide +kernel
theorem d_Mo_hasRoom_1 : decode mm_Mo_hasRoom.2.1 1 = .ok (.getfield 71, 3) := by decide +kernel
theorem d_Mo_hasRoom_4 : decode mm_Mo_hasRoom.2.1 4 = .ok (.iload_n 1, 1) := by decide +kernel
theorem d_Mo_hasRoom_5 : decode mm_Mo_hasRoom.2.1 5 = .ok (.iaload, 1) := by decide +kernel
theorem d_Mo_hasRoom_6 : decode mm_Mo_hasRoom.2.1 6 = .ok (.iload_n 2, 1) := by decide +kernel
theorem d_Mo_hasRoom_7 : decode mm_Mo_hasRoom.2.1 7 = .ok (.iadd, 1) := by decide +kernel
theorem d_Mo_hasRoom_8 : decode mm_Mo_hasRoom.2.1 8 = .ok (.sipush 200, 3) := by decide +kernel
theorem d_Mo_hasRoom_11 : decode mm_Mo_hasRoom.2.1 11 = .ok (.if_icmp .gt 7, 3) := by decide +kernel
theorem d_Mo_hasRoom_14 : decode mm_Mo_hasRoom.2.1 14 = .ok (.iconst 1, 1) := by decide +kernel
theorem d_Mo_hasRoom_15 : decode mm_Mo_hasRoom.2.1 15 = .ok (.goto 4, 3) := by decide +kernel
theorem d_Mo_hasRoom_18 : decode mm_Mo_hasRoom.2.1 18 = .ok (.iconst 0, 1) := by decide +kernel
theorem d_Mo_hasRoom_19 : decode mm_Mo_hasRoom.2.1 19 = .ok (.ireturn, 1) := by decide +kernel
def wp_Mo_hasRoom  (a1 : Int32) (a2 : Int32) (M : MzM) (K : Int32 → MzM → Prop) : Prop := (∃ j1 : Nat, a1.toInt = (j1 : Int) ∧ j1 < 2 ∧ (((200 : Int32) < ((mz_i M (44, 0) j1) + a2) → K (0 : Int32) M) ∧ (¬ (200 : Int32) < ((mz_i M (44, 0) j1) + a2) → K (1 : Int32) M)))
theorem tm_Mo_hasRoom {G : MzG} {B : MzB} {d : Nat} {K : Int32 → MzM → Prop} (hF : mzLive true B)   {a1 : Int32} {a2 : Int32} {M : MzM} (hL : mzLnk true M) (h : wp_Mo_hasRoom  a1 a2 M K) : MzC G B d mm_Mo_hasRoom [.ref (mz_ad B (30, 0)), .int a1, .int a2] M (0, 0) (mzK1 true B K) := by
  unfold wp_Mo_hasRoom at h
  exact MzC.of rfl (Nat.le_of_ble_eq_true rfl) (show MzS G B d mm_Mo_hasRoom M (0, 0) (mzK1 true B K) 0 [(0, .ref (mz_ad B (30, 0))), (1, .int a1), (2, .int a2)] [] from (mz_aload_n d_Mo_hasRoom_0 rfl (mz_getR (k := 14) (a := (44, 0)) cl_10 d_Mo_hasRoom_1 (by decide) wf_Mo_71 rfl (hF 30 0 rfl (by decide)) rfl (hL (30, 0) 14 (44, 0) rfl rfl (by decide)) (mz_iload_n d_Mo_hasRoom_4 rfl (match h with | ⟨j1, h2, h3, h4⟩ => mz_iald j1 d_Mo_hasRoom_5 (hF 44 0 rfl (by decide)) rfl h2 h3 (mz_iload_n d_Mo_hasRoom_6 rfl (mz_iadd d_Mo_hasRoom_7 (mz_sipush (200 : Int32) d_Mo_hasRoom_8 (by decide) (mz_icmp_gt 18 d_Mo_hasRoom_11 rfl (fun hc5 => (mz_iconst (0 : Int32) d_Mo_hasRoom_18 (by decide) (mz_iret .boolean d_Mo_hasRoom_19 rfl rfl ⟨rfl, hL, _, rfl, (h4.1 hc5)⟩))) (fun hc5 => (mz_iconst (1 : Int32) d_Mo_hasRoom_14 (by decide) (mz_goto 19 d_Mo_hasRoom_15 rfl (mz_iret .boolean d_Mo_hasRoom_19 rfl rfl ⟨rfl, hL, _, rfl, (h4.2 hc5)⟩)))))))))))))
def mm_Mo_putCode : MzT := (⟨"ParcelLineModel", "putCode", "(I)V"⟩, prog_14_method_10_code, 2, (Option.none : Option Jvm.ClassFile.FieldType))
theorem cs_Mo_putCode {mm : MzT} : mzCall mm mm_Mo_putCode 1 := ⟨wn_Mo, wco_Mo_putCode, by decide +kernel, by decide⟩
theorem d_Mo_putCode_0 : decode mm_Mo_putCode.2.1 0 = .ok (.aload_n 0, 1) := by decide +kernel
theorem d_Mo_putCode_1 : decode mm_Mo_putCode.2.1 1 = .ok (.aload_n 0, 1) := by decide +kernel
theorem d_Mo_putCode_2 : decode mm_Mo_putCode.2.1 2 = .ok (.getfield 137, 3) := by decide +kernel
theorem d_Mo_putCode_5 : decode mm_Mo_putCode.2.1 5 = .ok (.bipush 48, 2) := by decide +kernel
theorem d_Mo_putCode_7 : decode mm_Mo_putCode.2.1 7 = .ok (.iload_n 1, 1) := by decide +kernel
theorem d_Mo_putCode_8 : decode mm_Mo_putCode.2.1 8 = .ok (.bipush 100, 2) := by decide +kernel
theorem d_Mo_putCode_10 : decode mm_Mo_putCode.2.1 10 = .ok (.idiv, 1) := by decide +kernel
theorem d_Mo_putCode_11 : decode mm_Mo_putCode.2.1 11 = .ok (.iadd, 1) := by decide +kernel
theorem d_Mo_putCode_12 : decode mm_Mo_putCode.2.1 12 = .ok (.invokevirtual 140, 3) := by decide +kernel
theorem d_Mo_putCode_15 : decode mm_Mo_putCode.2.1 15 = .ok (.aload_n 0, 1) := by decide +kernel
theorem d_Mo_putCode_16 : decode mm_Mo_putCode.2.1 16 = .ok (.aload_n 0, 1) := by decide +kernel
theorem d_Mo_putCode_17 : decode mm_Mo_putCode.2.1 17 = .ok (.getfield 137, 3) := by decide +kernel
theorem d_Mo_putCode_20 : decode mm_Mo_putCode.2.1 20 = .ok (.bipush 48, 2) := by decide +kernel
theorem d_Mo_putCode_22 : decode mm_Mo_putCode.2.1 22 = .ok (.iload_n 1, 1) := by decide +kernel
theorem d_Mo_putCode_23 : decode mm_Mo_putCode.2.1 23 = .ok (.bipush 10, 2) := by decide +kernel
theorem d_Mo_putCode_25 : decode mm_Mo_putCode.2.1 25 = .ok (.idiv, 1) := by decide +kernel
theorem d_Mo_putCode_26 : decode mm_Mo_putCode.2.1 26 = .ok (.bipush 10, 2) := by decide +kernel
theorem d_Mo_putCode_28 : decode mm_Mo_putCode.2.1 28 = .ok (.irem, 1) := by decide +kernel
theorem d_Mo_putCode_29 : decode mm_Mo_putCode.2.1 29 = .ok (.iadd, 1) := by decide +kernel
theorem d_Mo_putCode_30 : decode mm_Mo_putCode.2.1 30 = .ok (.invokevirtual 140, 3) := by decide +kernel
theorem d_Mo_putCode_33 : decode mm_Mo_putCode.2.1 33 = .ok (.aload_n 0, 1) := by decide +kernel
theorem d_Mo_putCode_34 : decode mm_Mo_putCode.2.1 34 = .ok (.aload_n 0, 1) := by decide +kernel
theorem d_Mo_putCode_35 : decode mm_Mo_putCode.2.1 35 = .ok (.getfield 137, 3) := by decide +kernel
theorem d_Mo_putCode_38 : decode mm_Mo_putCode.2.1 38 = .ok (.bipush 48, 2) := by decide +kernel
theorem d_Mo_putCode_40 : decode mm_Mo_putCode.2.1 40 = .ok (.iload_n 1, 1) := by decide +kernel
theorem d_Mo_putCode_41 : decode mm_Mo_putCode.2.1 41 = .ok (.bipush 10, 2) := by decide +kernel
theorem d_Mo_putCode_43 : decode mm_Mo_putCode.2.1 43 = .ok (.irem, 1) := by decide +kernel
theorem d_Mo_putCode_44 : decode mm_Mo_putCode.2.1 44 = .ok (.iadd, 1) := by decide +kernel
theorem d_Mo_putCode_45 : decode mm_Mo_putCode.2.1 45 = .ok (.invokevirtual 140, 3) := by decide +kernel
theorem d_Mo_putCode_48 : decode mm_Mo_putCode.2.1 48 = .ok (.return_, 1) := by decide +kernel
def wp_Mo_putCode  (a1 : Int32) (M : MzM) (K : MzM → Prop) : Prop := wp_Mo_put  (mz_i M (30, 0) 29) ((48 : Int32) + (a1 / (100 : Int32))) M (fun M1 => wp_Mo_put  (mz_i M1 (30, 0) 29) ((48 : Int32) + ((a1 / (10 : Int32)) - (a1 / (10 : Int32)) / (10 : Int32) * (10 : Int32))) M1 (fun M4 => wp_Mo_put  (mz_i M4 (30, 0) 29) ((48 : Int32) + (a1 - a1 / (10 : Int32) * (10 : Int32))) M4 (fun M7 => K M7)))
theorem tm_Mo_putCode {G : MzG} {B : MzB} {d : Nat} {K : MzM → Prop} (hF : mzLive true B)   {a1 : Int32} {M : MzM} (hL : mzLnk true M) (h : wp_Mo_putCode  a1 M K) : MzC G B (d + 1) mm_Mo_putCode [.ref (mz_ad B (30, 0)), .int a1] M (0, 0) (mzK0 true B K) := by
  unfold wp_Mo_putCode at h
  exact MzC.of rfl (Nat.le_of_ble_eq_true rfl) (show MzS G B (d + 1) mm_Mo_putCode M (0, 0) (mzK0 true B K) 0 [(0, .ref (mz_ad B (30, 0))), (1, .int a1)] [] from (mz_aload_n d_Mo_putCode_0 rfl (mz_aload_n d_Mo_putCode_1 rfl (mz_getI (k := 29) cl_10 d_Mo_putCode_2 (by decide) wf_Mo_137 rfl (hF 30 0 rfl (by decide)) rfl (mz_bipush (48 : Int32) d_Mo_putCode_5 (by decide) (mz_iload_n d_Mo_putCode_7 rfl (mz_bipush (100 : Int32) d_Mo_putCode_8 (by decide) (mz_idiv d_Mo_putCode_10 (by decide) (mz_iadd d_Mo_putCode_11 (mz_callV (As := [.int (mz_i M (30, 0) 29), .int ((48 : Int32) + (a1 / (100 : Int32)))]) (st := []) (hF 30 0 rfl (by decide)) rfl (mzClOf cl_10) 0 0 d_Mo_putCode_12 cs_Mo_put wl_Mo_140 wi_Mo_put wse_Mo_put (Nat.le_of_ble_eq_true rfl) (Nat.zero_le _) (Nat.zero_le _) (MzC.mono (tm_Mo_put (d := d) hF  hL h) (fun r9 B9 M1 hq3 => by obtain ⟨rfl, hL2, rfl, hq3⟩ := hq3; exact ⟨none, rfl, (mz_aload_n d_Mo_putCode_15 rfl (mz_aload_n d_Mo_putCode_16 rfl (mz_getI (k := 29) cl_10 d_Mo_putCode_17 (by decide) wf_Mo_137 rfl (hF 30 0 rfl (by decide)) rfl (mz_bipush (48 : Int32) d_Mo_putCode_20 (by decide) (mz_iload_n d_Mo_putCode_22 rfl (mz_bipush (10 : Int32) d_Mo_putCode_23 (by decide) (mz_idiv d_Mo_putCode_25 (by decide) (mz_bipush (10 : Int32) d_Mo_putCode_26 (by decide) (mz_irem d_Mo_putCode_28 (by decide) (mz_iadd d_Mo_putCode_29 (mz_callV (As := [.int (mz_i M1 (30, 0) 29), .int ((48 : Int32) + ((a1 / (10 : Int32)) - (a1 / (10 : Int32)) / (10 : Int32) * (10 : Int32)))]) (st := []) (hF 30 0 rfl (by decide)) rfl (mzClOf cl_10) 0 0 d_Mo_putCode_30 cs_Mo_put wl_Mo_140 wi_Mo_put wse_Mo_put (Nat.le_of_ble_eq_true rfl) (Nat.zero_le _) (Nat.zero_le _) (MzC.mono (tm_Mo_put (d := d) hF  hL2 hq3) (fun r9 B9 M4 hq6 => by obtain ⟨rfl, hL5, rfl, hq6⟩ := hq6; exact ⟨none, rfl, (mz_aload_n d_Mo_putCode_33 rfl (mz_aload_n d_Mo_putCode_34 rfl (mz_getI (k := 29) cl_10 d_Mo_putCode_35 (by decide) wf_Mo_137 rfl (hF 30 0 rfl (by decide)) rfl (mz_bipush (48 : Int32) d_Mo_putCode_38 (by decide) (mz_iload_n d_Mo_putCode_40 rfl (mz_bipush (10 : Int32) d_Mo_putCode_41 (by decide) (mz_irem d_Mo_putCode_43 (by decide) (mz_iadd d_Mo_putCode_44 (mz_callV (As := [.int (mz_i M4 (30, 0) 29), .int ((48 : Int32) + (a1 - a1 / (10 : Int32) * (10 : Int32)))]) (st := []) (hF 30 0 rfl (by decide)) rfl (mzClOf cl_10) 0 0 d_Mo_putCode_45 cs_Mo_put wl_Mo_140 wi_Mo_put wse_Mo_put (Nat.le_of_ble_eq_true rfl) (Nat.zero_le _) (Nat.zero_le _) (MzC.mono (tm_Mo_put (d := d) hF  hL5 hq6) (fun r9 B9 M7 hq9 => by obtain ⟨rfl, hL8, rfl, hq9⟩ := hq9; exact ⟨none, rfl, (mz_vret d_Mo_putCode_48 rfl ⟨rfl, hL8, rfl, hq9⟩)⟩)))))))))))⟩)))))))))))))⟩))))))))))))
def mm_Mo_putEnd : MzT := (⟨"ParcelLineModel", "putEnd", "()V"⟩, prog_14_method_11_code, 1, (Option.none : Option Jvm.ClassFile.FieldType))
theorem cs_Mo_putEnd {mm : MzT} : mzCall mm mm_Mo_putEnd 0 := ⟨wn_Mo, wco_Mo_putEnd, by decide +kernel, by decide⟩
theorem d_Mo_putEnd_0 : decode mm_Mo_putEnd.2.1 0 = .ok (.aload_n 0, 1) := by decide +kernel
theorem d_Mo_putEnd_1 : decode mm_Mo_putEnd.2.1 1 = .ok (.aload_n 0, 1) := by decide +kernel
theorem d_Mo_putEnd_2 : decode mm_Mo_putEnd.2.1 2 = .ok (.getfield 137, 3) := by decide +kernel
theorem d_Mo_putEnd_5 : decode mm_Mo_putEnd.2.1 5 = .ok (.bipush 13, 2) := by decide +kernel
theorem d_Mo_putEnd_7 : decode mm_Mo_putEnd.2.1 7 = .ok (.invokevirtual 140, 3) := by decide +kernel
theorem d_Mo_putEnd_10 : decode mm_Mo_putEnd.2.1 10 = .ok (.aload_n 0, 1) := by decide +kernel
theorem d_Mo_putEnd_11 : decode mm_Mo_putEnd.2.1 11 = .ok (.aload_n 0, 1) := by decide +kernel
theorem d_Mo_putEnd_12 : decode mm_Mo_putEnd.2.1 12 = .ok (.getfield 137, 3) := by decide +kernel
theorem d_Mo_putEnd_15 : decode mm_Mo_putEnd.2.1 15 = .ok (.bipush 10, 2) := by decide +kernel
theorem d_Mo_putEnd_17 : decode mm_Mo_putEnd.2.1 17 = .ok (.invokevirtual 140, 3) := by decide +kernel
theorem d_Mo_putEnd_20 : decode mm_Mo_putEnd.2.1 20 = .ok (.return_, 1) := by decide +kernel
def wp_Mo_putEnd   (M : MzM) (K : MzM → Prop) : Prop := wp_Mo_put  (mz_i M (30, 0) 29) (13 : Int32) M (fun M1 => wp_Mo_put  (mz_i M1 (30, 0) 29) (10 : Int32) M1 (fun M4 => K M4))
theorem tm_Mo_putEnd {G : MzG} {B : MzB} {d : Nat} {K : MzM → Prop} (hF : mzLive true B)    {M : MzM} (hL : mzLnk true M) (h : wp_Mo_putEnd   M K) : MzC G B (d + 1) mm_Mo_putEnd [.ref (mz_ad B (30, 0))] M (0, 0) (mzK0 true B K) := by
  unfold wp_Mo_putEnd at h
  exact MzC.of rfl (Nat.le_of_ble_eq_true rfl) (show MzS G B (d + 1) mm_Mo_putEnd M (0, 0) (mzK0 true B K) 0 [(0, .ref (mz_ad B (30, 0)))] [] from (mz_aload_n d_Mo_putEnd_0 rfl (mz_aload_n d_Mo_putEnd_1 rfl (mz_getI (k := 29) cl_10 d_Mo_putEnd_2 (by decide) wf_Mo_137 rfl (hF 30 0 rfl (by decide)) rfl (mz_bipush (13 : Int32) d_Mo_putEnd_5 (by decide) (mz_callV (As := [.int (mz_i M (30, 0) 29), .int (13 : Int32)]) (st := []) (hF 30 0 rfl (by decide)) rfl (mzClOf cl_10) 0 0 d_Mo_putEnd_7 cs_Mo_put wl_Mo_140 wi_Mo_put wse_Mo_put (Nat.le_of_ble_eq_true rfl) (Nat.zero_le _) (Nat.zero_le _) (MzC.mono (tm_Mo_put (d := d) hF  hL h) (fun r9 B9 M1 hq3 => by obtain ⟨rfl, hL2, rfl, hq3⟩ := hq3; exact ⟨none, rfl, (mz_aload_n d_Mo_putEnd_10 rfl (mz_aload_n d_Mo_putEnd_11 rfl (mz_getI (k := 29) cl_10 d_Mo_putEnd_12 (by decide) wf_Mo_137 rfl (hF 30 0 rfl (by decide)) rfl (mz_bipush (10 : Int32) d_Mo_putEnd_15 (by decide) (mz_callV (As := [.int (mz_i M1 (30, 0) 29), .int (10 : Int32)]) (st := []) (hF 30 0 rfl (by decide)) rfl (mzClOf cl_10) 0 0 d_Mo_putEnd_17 cs_Mo_put wl_Mo_140 wi_Mo_put wse_Mo_put (Nat.le_of_ble_eq_true rfl) (Nat.zero_le _) (Nat.zero_le _) (MzC.mono (tm_Mo_put (d := d) hF  hL2 hq3) (fun r9 B9 M4 hq6 => by obtain ⟨rfl, hL5, rfl, hq6⟩ := hq6; exact ⟨none, rfl, (mz_vret d_Mo_putEnd_20 rfl ⟨rfl, hL5, rfl, hq6⟩)⟩)))))))⟩))))))))
def mm_Mo_answered : MzT := (⟨"ParcelLineModel", "answered", "(I)V"⟩, prog_14_method_12_code, 2, (Option.none : Option Jvm.ClassFile.FieldType))
theorem cs_Mo_answered {mm : MzT} : mzCall mm mm_Mo_answered 1 := ⟨wn_Mo, wco_Mo_answered, by decide +kernel, by decide⟩
theorem d_Mo_answered_0 : decode mm_Mo_answered.2.1 0 = .ok (.aload_n 0, 1) := by decide +kernel
theorem d_Mo_answered_1 : decode mm_Mo_answered.2.1 1 = .ok (.aload_n 0, 1) := by decide +kernel
theorem d_Mo_answered_2 : decode mm_Mo_answered.2.1 2 = .ok (.getfield 143, 3) := by decide +kernel
theorem d_Mo_answered_5 : decode mm_Mo_answered.2.1 5 = .ok (.ifCond .ne 7, 3) := by decide +kernel
theorem d_Mo_answered_8 : decode mm_Mo_answered.2.1 8 = .ok (.iload_n 1, 1) := by decide +kernel
theorem d_Mo_answered_9 : decode mm_Mo_answered.2.1 9 = .ok (.goto 7, 3) := by decide +kernel
theorem d_Mo_answered_12 : decode mm_Mo_answered.2.1 12 = .ok (.aload_n 0, 1) := by decide +kernel
theorem d_Mo_answered_13 : decode mm_Mo_answered.2.1 13 = .ok (.getfield 143, 3) := by decide +kernel
theorem d_Mo_answered_16 : decode mm_Mo_answered.2.1 16 = .ok (.putfield 143, 3) := by decide +kernel
theorem d_Mo_answered_19 : decode mm_Mo_answered.2.1 19 = .ok (.return_, 1) := by decide +kernel
def wp_Mo_answered  (a1 : Int32) (M : MzM) (K : MzM → Prop) : Prop := ((¬ (mz_i M (30, 0) 30) = 0 → (∀ M1 : MzM, M1 = mz_si M (30, 0) 30 (mz_i M (30, 0) 30) → K M1)) ∧ ((mz_i M (30, 0) 30) = 0 → (∀ M2 : MzM, M2 = mz_si M (30, 0) 30 a1 → K M2)))
theorem tm_Mo_answered {G : MzG} {B : MzB} {d : Nat} {K : MzM → Prop} (hF : mzLive true B)   {a1 : Int32} {M : MzM} (hL : mzLnk true M) (h : wp_Mo_answered  a1 M K) : MzC G B d mm_Mo_answered [.ref (mz_ad B (30, 0)), .int a1] M (0, 0) (mzK0 true B K) := by
  unfold wp_Mo_answered at h
  exact MzC.of rfl (Nat.le_of_ble_eq_true rfl) (show MzS G B d mm_Mo_answered M (0, 0) (mzK0 true B K) 0 [(0, .ref (mz_ad B (30, 0))), (1, .int a1)] [] from (mz_aload_n d_Mo_answered_0 rfl (mz_aload_n d_Mo_answered_1 rfl (mz_getI (k := 30) cl_10 d_Mo_answered_2 (by decide) wf_Mo_143 rfl (hF 30 0 rfl (by decide)) rfl (mz_if_ne 12 d_Mo_answered_5 rfl (fun hc3 => (mz_aload_n d_Mo_answered_12 rfl (mz_getI (k := 30) cl_10 d_Mo_answered_13 (by decide) wf_Mo_143 rfl (hF 30 0 rfl (by decide)) rfl (mz_putI (k := 30) cl_10 d_Mo_answered_16 (by decide) wf_Mo_143 rfl rfl rfl rfl (hF 30 0 rfl (by decide)) rfl (let M1 : MzM := mz_si M (30, 0) 30 (mz_i M (30, 0) 30); (mz_vret d_Mo_answered_19 rfl ⟨rfl, hL, rfl, ((h.1 hc3) M1 rfl)⟩)))))) (fun hc3 => (mz_iload_n d_Mo_answered_8 rfl (mz_goto 16 d_Mo_answered_9 rfl (mz_putI (k := 30) cl_10 d_Mo_answered_16 (by decide) wf_Mo_143 rfl rfl rfl rfl (hF 30 0 rfl (by decide)) rfl (let M2 : MzM := mz_si M (30, 0) 30 a1; (mz_vret d_Mo_answered_19 rfl ⟨rfl, hL, rfl, ((h.2 hc3) M2 rfl)⟩)))))))))))
def mm_Mo_answer : MzT := (⟨"ParcelLineModel", "answer", "(I)V"⟩, prog_14_method_13_code, 2, (Option.none : Option Jvm.ClassFile.FieldType))
theorem cs_Mo_answer {mm : MzT} : mzCall mm mm_Mo_answer 1 := ⟨wn_Mo, wco_Mo_answer, by decide +kernel, by decide⟩
theorem d_Mo_answer_0 : decode mm_Mo_answer.2.1 0 = .ok (.aload_n 0, 1) := by decide +kernel
theorem d_Mo_answer_1 : decode mm_Mo_answer.2.1 1 = .ok (.iload_n 1, 1) := by decide +kernel
theorem d_Mo_answer_2 : decode mm_Mo_answer.2.1 2 = .ok (.invokevirtual 146, 3) := by decide +kernel
theorem d_Mo_answer_5 : decode mm_Mo_answer.2.1 5 = .ok (.aload_n 0, 1) := by decide +kernel
theorem d_Mo_answer_6 : decode mm_Mo_answer.2.1 6 = .ok (.aload_n 0, 1) := by decide +kernel
theorem d_Mo_answer_7 : decode mm_Mo_answer.2.1 7 = .ok (.getfield 137, 3) := by decide +kernel
theorem d_Mo_answer_10 : decode mm_Mo_answer.2.1 10 = .ok (.iconst 5, 1) := by decide +kernel
theorem d_Mo_answer_11 : decode mm_Mo_answer.2.1 11 = .ok (.invokevirtual 149, 3) := by decide +kernel
theorem d_Mo_answer_14 : decode mm_Mo_answer.2.1 14 = .ok (.ifCond .ne 4, 3) := by decide +kernel
theorem d_Mo_answer_17 : decode mm_Mo_answer.2.1 17 = .ok (.return_, 1) := by decide +kernel
theorem d_Mo_answer_18 : decode mm_Mo_answer.2.1 18 = .ok (.aload_n 0, 1) := by decide +kernel
theorem d_Mo_answer_19 : decode mm_Mo_answer.2.1 19 = .ok (.iload_n 1, 1) := by decide +kernel
theorem d_Mo_answer_20 : decode mm_Mo_answer.2.1 20 = .ok (.invokevirtual 153, 3) := by decide +kernel
theorem d_Mo_answer_23 : decode mm_Mo_answer.2.1 23 = .ok (.aload_n 0, 1) := by decide +kernel
theorem d_Mo_answer_24 : decode mm_Mo_answer.2.1 24 = .ok (.invokevirtual 156, 3) := by decide +kernel
theorem d_Mo_answer_27 : decode mm_Mo_answer.2.1 27 = .ok (.return_, 1) := by decide +kernel
def wp_Mo_answer  (a1 : Int32) (M : MzM) (K : MzM → Prop) : Prop := wp_Mo_answered  a1 M (fun M1 => wp_Mo_hasRoom  (mz_i M1 (30, 0) 29) (5 : Int32) M1 (fun v7 M4 => ((¬ v7 = 0 → wp_Mo_putCode  a1 M4 (fun M8 => wp_Mo_putEnd   M8 (fun M11 => K M11))) ∧ (v7 = 0 → K M4))))
theorem tm_Mo_answer {G : MzG} {B : MzB} {d : Nat} {K : MzM → Prop} (hF : mzLive true B)   {a1 : Int32} {M : MzM} (hL : mzLnk true M) (h : wp_Mo_answer  a1 M K) : MzC G B (d + 2) mm_Mo_answer [.ref (mz_ad B (30, 0)), .int a1] M (0, 0) (mzK0 true B K) := by
  unfold wp_Mo_answer at h
  exact MzC.of rfl (Nat.le_of_ble_eq_true rfl) (show MzS G B (d + 2) mm_Mo_answer M (0, 0) (mzK0 true B K) 0 [(0, .ref (mz_ad B (30, 0))), (1, .int a1)] [] from (mz_aload_n d_Mo_answer_0 rfl (mz_iload_n d_Mo_answer_1 rfl (mz_callV (As := [.int a1]) (st := []) (hF 30 0 rfl (by decide)) rfl (mzClOf cl_10) 0 0 d_Mo_answer_2 cs_Mo_answered wl_Mo_146 wi_Mo_answered wse_Mo_answered (Nat.le_of_ble_eq_true rfl) (Nat.zero_le _) (Nat.zero_le _) (MzC.mono (tm_Mo_answered (d := (d + 1)) hF  hL h) (fun r9 B9 M1 hq3 => by obtain ⟨rfl, hL2, rfl, hq3⟩ := hq3; exact ⟨none, rfl, (mz_aload_n d_Mo_answer_5 rfl (mz_aload_n d_Mo_answer_6 rfl (mz_getI (k := 29) cl_10 d_Mo_answer_7 (by decide) wf_Mo_137 rfl (hF 30 0 rfl (by decide)) rfl (mz_iconst (5 : Int32) d_Mo_answer_10 (by decide) (mz_callV (As := [.int (mz_i M1 (30, 0) 29), .int (5 : Int32)]) (st := []) (hF 30 0 rfl (by decide)) rfl (mzClOf cl_10) 0 0 d_Mo_answer_11 cs_Mo_hasRoom wl_Mo_149 wi_Mo_hasRoom wse_Mo_hasRoom (Nat.le_of_ble_eq_true rfl) (Nat.zero_le _) (Nat.zero_le _) (MzC.mono (tm_Mo_hasRoom (d := (d + 1)) hF  hL2 hq3) (fun r9 B9 M4 hq6 => by obtain ⟨rfl, hL5, v7, rfl, hq6⟩ := hq6; exact ⟨_, rfl, (mz_if_ne 18 d_Mo_answer_14 rfl (fun hc14 => (mz_aload_n d_Mo_answer_18 rfl (mz_iload_n d_Mo_answer_19 rfl (mz_callV (As := [.int a1]) (st := []) (hF 30 0 rfl (by decide)) rfl (mzClOf cl_10) 0 0 d_Mo_answer_20 cs_Mo_putCode wl_Mo_153 wi_Mo_putCode wse_Mo_putCode (Nat.le_of_ble_eq_true rfl) (Nat.zero_le _) (Nat.zero_le _) (MzC.mono (tm_Mo_putCode (d := d) hF  hL5 (hq6.1 hc14)) (fun r9 B9 M8 hq10 => by obtain ⟨rfl, hL9, rfl, hq10⟩ := hq10; exact ⟨none, rfl, (mz_aload_n d_Mo_answer_23 rfl (mz_callV (As := []) (st := []) (hF 30 0 rfl (by decide)) rfl (mzClOf cl_10) 0 0 d_Mo_answer_24 cs_Mo_putEnd wl_Mo_156 wi_Mo_putEnd wse_Mo_putEnd (Nat.le_of_ble_eq_true rfl) (Nat.zero_le _) (Nat.zero_le _) (MzC.mono (tm_Mo_putEnd (d := d) hF  hL9 hq10) (fun r9 B9 M11 hq13 => by obtain ⟨rfl, hL12, rfl, hq13⟩ := hq13; exact ⟨none, rfl, (mz_vret d_Mo_answer_27 rfl ⟨rfl, hL12, rfl, hq13⟩)⟩))))⟩)))))) (fun hc14 => (mz_vret d_Mo_answer_17 rfl ⟨rfl, hL5, rfl, (hq6.2 hc14)⟩)))⟩)))))))⟩))))))
